theorem dX6_says_0 : decode cX6_says 0 = .ok (.aload_n 0, 1) := by decide +kernel
theorem dX6_says_1 : decode cX6_says 1 = .ok (.iload_n 1, 1) := by decide +kernel
theorem dX6_says_2 : decode cX6_says 2 = .ok (.invokevirtual 160, 3) := by decide +kernel
theorem dX6_says_5 : decode cX6_says 5 = .ok (.ifCond .eq 10, 3) := by decide +kernel
theorem dX6_says_8 : decode cX6_says 8 = .ok (.iload_n 2, 1) := by decide +kernel
theorem dX6_says_9 : decode cX6_says 9 = .ok (.invokestatic 104, 3) := by decide +kernel
theorem dX6_says_12 : decode cX6_says 12 = .ok (.ifCond .ne 6, 3) := by decide +kernel
theorem dX6_says_15 : decode cX6_says 15 = .ok (.ldc 79, 2) := by decide +kernel
theorem dX6_says_17 : decode cX6_says 17 = .ok (.ireturn, 1) := by decide +kernel
theorem dX6_says_18 : decode cX6_says 18 = .ok (.aload_n 0, 1) := by decide +kernel
theorem dX6_says_19 : decode cX6_says 19 = .ok (.getfield 28, 3) := by decide +kernel
theorem dX6_says_22 : decode cX6_says 22 = .ok (.aload_n 0, 1) := by decide +kernel
theorem dX6_says_23 : decode cX6_says 23 = .ok (.getfield 28, 3) := by decide +kernel
theorem dX6_says_26 : decode cX6_says 26 = .ok (.getfield 142, 3) := by decide +kernel
theorem dX6_says_29 : decode cX6_says 29 = .ok (.iload_n 1, 1) := by decide +kernel
theorem dX6_says_30 : decode cX6_says 30 = .ok (.aaload, 1) := by decide +kernel
theorem dX6_says_31 : decode cX6_says 31 = .ok (.iload_n 2, 1) := by decide +kernel
theorem dX6_says_32 : decode cX6_says 32 = .ok (.invokevirtual 174, 3) := by decide +kernel
theorem dX6_says_35 : decode cX6_says 35 = .ok (.ireturn, 1) := by decide +kernel
set_option maxHeartbeats 4000000 in
set_option maxRecDepth 100000 in
theorem c_X6_says (g : sk_G) (l : Launch) (a1 : Int32) (a2 : Int32) (M : sk_M) {rr : Int32} (h : f_X6_says a1 a2 M = some rr) : sk_MI g l yX6_says cX6_says 3 (some .int) 4 [.ref (sk_ad g 0), .int a1, .int a2] M rr M := by
  refine sk_go [(0, .ref (sk_ad g 0)), (1, .int a1), (2, .int a2)] (by decide) (Nat.le_of_ble_eq_true rfl) rfl ?_
  intro p e s m av below meth c C ls hl hM hS
  obtain ⟨hx, hb, hml, hown, hts, hK, hE, hr, hlocks⟩ := id C
  rw [f_X6_says] at h
  refine lv_aload_n hx hb dX6_says_0 rfl (lv_at hl 0 rfl) ?_
  refine lv_iload_n hx hb dX6_says_1 rfl (lv_at hl 1 rfl) ?_
  refine sk_contI (sk_runV (As := [.int a1]) (rest := []) C (c_X6_isCloth g l a1 M rfl) yo_X6_isCloth kw_434 (sk_recv (ci := 6) C hM rfl rfl) (by decide) hM hS hl.1 rfl rfl (Nat.le_of_ble_eq_true rfl) dX6_says_2) hS (fun H locs hM hS => ?_)
  refine lv_if_eq hx hb dX6_says_5 rfl (fun hc => ?_) (fun hc => ?_)
  · have h := sk_pos h hc
    refine lv_ldc (v := (-1000000001)) hx hb hown (hts _ kw_347) dX6_says_15 ?_
    exact sk_iret C hM hS ⟨Option.some.inj h, rfl⟩ dX6_says_17
  · have h := sk_neg h hc
    refine lv_iload_n hx hb dX6_says_8 rfl (lv_at hl 2 rfl) ?_
    refine sk_contI (sk_runS (As := [.int a2]) (rest := []) C (c_X6_isNose g l a2 M rfl) yo_X6_isNose kw_390 (by decide) hM hS hl.1 rfl rfl (Nat.le_of_ble_eq_true rfl) dX6_says_9) hS (fun H locs hM hS => ?_)
    refine lv_if_ne hx hb dX6_says_12 rfl (fun hc => ?_) (fun hc => ?_)
    · have h := sk_neg h hc
      refine lv_aload_n hx hb dX6_says_18 rfl (lv_at hl 0 rfl) ?_
      refine sk_getR (o := 0) (ci := 6) (j := 0) (t := 10) C hM rfl rfl (by decide) rfl rfl kw_297 dX6_says_19 ?_
      refine lv_aload_n hx hb dX6_says_22 rfl (lv_at hl 0 rfl) ?_
      refine sk_getR (o := 0) (ci := 6) (j := 0) (t := 10) C hM rfl rfl (by decide) rfl rfl kw_297 dX6_says_23 ?_
      refine sk_getR (o := 10) (ci := 5) (j := 7) (t := 17) C hM rfl rfl (by decide) rfl rfl kw_181 dX6_says_26 ?_
      refine lv_iload_n hx hb dX6_says_29 rfl (lv_at hl 1 rfl) ?_
      obtain ⟨i_3, h⟩ := sk_chkE h
      refine sk_aald (o := 17) (k := 0) (t := (20 + a1.toNatClampNeg)) C hM rfl (by decide) i_3 rfl dX6_says_30 ?_
      refine lv_iload_n hx hb dX6_says_31 rfl (lv_at hl 2 rfl) ?_
      obtain ⟨x_4, h_5, h⟩ := sk_b1E h
      refine sk_contI (sk_runV (As := [.ref (sk_ad g (20 + a1.toNatClampNeg)), .int a2]) (rest := []) C (c_X5_said g l 10 (Or.inl rfl) (20 + a1.toNatClampNeg) (sk_kd_s20 (sk_in_lt i_3)) a2 M h_5) yo_X5_said kw_509 (sk_recv (ci := 5) C hM rfl rfl) (by decide) hM hS hl.1 rfl rfl (Nat.le_of_ble_eq_true rfl) dX6_says_32) hS (fun H locs hM hS => ?_)
      exact sk_iret C hM hS ⟨Option.some.inj h, rfl⟩ dX6_says_35
    · have h := sk_pos h hc
      refine lv_ldc (v := (-1000000001)) hx hb hown (hts _ kw_347) dX6_says_15 ?_
      exact sk_iret C hM hS ⟨Option.some.inj h, rfl⟩ dX6_says_17
theorem dX6_behind_0 : decode cX6_behind 0 = .ok (.aload_n 0, 1) := by decide +kernel
theorem dX6_behind_1 : decode cX6_behind 1 = .ok (.iload_n 1, 1) := by decide +kernel
theorem dX6_behind_2 : decode cX6_behind 2 = .ok (.invokevirtual 160, 3) := by decide +kernel
theorem dX6_behind_5 : decode cX6_behind 5 = .ok (.ifCond .eq 21, 3) := by decide +kernel
theorem dX6_behind_8 : decode cX6_behind 8 = .ok (.iload_n 2, 1) := by decide +kernel
theorem dX6_behind_9 : decode cX6_behind 9 = .ok (.invokestatic 104, 3) := by decide +kernel
theorem dX6_behind_12 : decode cX6_behind 12 = .ok (.ifCond .eq 14, 3) := by decide +kernel
theorem dX6_behind_15 : decode cX6_behind 15 = .ok (.iload_n 3, 1) := by decide +kernel
theorem dX6_behind_16 : decode cX6_behind 16 = .ok (.iconst 0, 1) := by decide +kernel
theorem dX6_behind_17 : decode cX6_behind 17 = .ok (.sipush 300, 3) := by decide +kernel
theorem dX6_behind_20 : decode cX6_behind 20 = .ok (.invokestatic 75, 3) := by decide +kernel
theorem dX6_behind_23 : decode cX6_behind 23 = .ok (.ifCond .ne 6, 3) := by decide +kernel
theorem dX6_behind_26 : decode cX6_behind 26 = .ok (.ldc 79, 2) := by decide +kernel
theorem dX6_behind_28 : decode cX6_behind 28 = .ok (.ireturn, 1) := by decide +kernel
theorem dX6_behind_29 : decode cX6_behind 29 = .ok (.aload_n 0, 1) := by decide +kernel
theorem dX6_behind_30 : decode cX6_behind 30 = .ok (.getfield 40, 3) := by decide +kernel
theorem dX6_behind_33 : decode cX6_behind 33 = .ok (.iload_n 1, 1) := by decide +kernel
theorem dX6_behind_34 : decode cX6_behind 34 = .ok (.invokevirtual 177, 3) := by decide +kernel
theorem dX6_behind_37 : decode cX6_behind 37 = .ok (.aload_n 0, 1) := by decide +kernel
theorem dX6_behind_38 : decode cX6_behind 38 = .ok (.getfield 40, 3) := by decide +kernel
theorem dX6_behind_41 : decode cX6_behind 41 = .ok (.iload_n 3, 1) := by decide +kernel
theorem dX6_behind_42 : decode cX6_behind 42 = .ok (.invokevirtual 181, 3) := by decide +kernel
theorem dX6_behind_45 : decode cX6_behind 45 = .ok (.aload_n 0, 1) := by decide +kernel
theorem dX6_behind_46 : decode cX6_behind 46 = .ok (.getfield 40, 3) := by decide +kernel
theorem dX6_behind_49 : decode cX6_behind 49 = .ok (.iload_n 2, 1) := by decide +kernel
theorem dX6_behind_50 : decode cX6_behind 50 = .ok (.invokevirtual 184, 3) := by decide +kernel
theorem dX6_behind_53 : decode cX6_behind 53 = .ok (.ireturn, 1) := by decide +kernel
set_option maxHeartbeats 4000000 in
set_option maxRecDepth 100000 in
theorem c_X6_behind (g : sk_G) (l : Launch) (a1 : Int32) (a2 : Int32) (a3 : Int32) (M : sk_M) {rr : Int32} {MM : sk_M} (h : f_X6_behind a1 a2 a3 M = some (rr, MM)) : sk_MI g l yX6_behind cX6_behind 4 (some .int) 7 [.ref (sk_ad g 0), .int a1, .int a2, .int a3] M rr MM := by
  refine sk_go [(0, .ref (sk_ad g 0)), (1, .int a1), (2, .int a2), (3, .int a3)] (by decide) (Nat.le_of_ble_eq_true rfl) rfl ?_
  intro p e s m av below meth c C ls hl hM hS
  obtain ⟨hx, hb, hml, hown, hts, hK, hE, hr, hlocks⟩ := id C
  rw [f_X6_behind] at h
  refine lv_aload_n hx hb dX6_behind_0 rfl (lv_at hl 0 rfl) ?_
  refine lv_iload_n hx hb dX6_behind_1 rfl (lv_at hl 1 rfl) ?_
  refine sk_contI (sk_runV (As := [.int a1]) (rest := []) C (c_X6_isCloth g l a1 M rfl) yo_X6_isCloth kw_434 (sk_recv (ci := 6) C hM rfl rfl) (by decide) hM hS hl.1 rfl rfl (Nat.le_of_ble_eq_true rfl) dX6_behind_2) hS (fun H locs hM hS => ?_)
  refine lv_if_eq hx hb dX6_behind_5 rfl (fun hc => ?_) (fun hc => ?_)
  · have h := sk_pos h hc
    refine lv_ldc (v := (-1000000001)) hx hb hown (hts _ kw_347) dX6_behind_26 ?_
    exact sk_iret C hM hS (sk_e2 h) dX6_behind_28
  · have h := sk_neg h hc
    refine lv_iload_n hx hb dX6_behind_8 rfl (lv_at hl 2 rfl) ?_
    refine sk_contI (sk_runS (As := [.int a2]) (rest := []) C (c_X6_isNose g l a2 M rfl) yo_X6_isNose kw_390 (by decide) hM hS hl.1 rfl rfl (Nat.le_of_ble_eq_true rfl) dX6_behind_9) hS (fun H locs hM hS => ?_)
    refine lv_if_eq hx hb dX6_behind_12 rfl (fun hc => ?_) (fun hc => ?_)
    · have h := sk_pos h hc
      refine lv_ldc (v := (-1000000001)) hx hb hown (hts _ kw_347) dX6_behind_26 ?_
      exact sk_iret C hM hS (sk_e2 h) dX6_behind_28
    · have h := sk_neg h hc
      refine lv_iload_n hx hb dX6_behind_15 rfl (lv_at hl 3 rfl) ?_
      refine lv_iconst (v := 0) hx hb dX6_behind_16 (by decide) ?_
      refine lv_sipush (v := 300) hx hb dX6_behind_17 (by decide) ?_
      refine sk_contI (sk_runS (As := [.int a3, .int 0, .int 300]) (rest := []) C (c_X6_within g l a3 0 300 M rfl) yo_X6_within kw_344 (by decide) hM hS hl.1 rfl rfl (Nat.le_of_ble_eq_true rfl) dX6_behind_20) hS (fun H locs hM hS => ?_)
      refine lv_if_ne hx hb dX6_behind_23 rfl (fun hc => ?_) (fun hc => ?_)
      · have h := sk_neg h hc
        refine lv_aload_n hx hb dX6_behind_29 rfl (lv_at hl 0 rfl) ?_
        refine sk_getR (o := 0) (ci := 6) (j := 2) (t := 6) C hM rfl rfl (by decide) rfl rfl kw_299 dX6_behind_30 ?_
        refine lv_iload_n hx hb dX6_behind_33 rfl (lv_at hl 1 rfl) ?_
        obtain ⟨M_4, h_5, h⟩ := sk_b1E h
        refine sk_contV (sk_runV (As := [.int a1]) (rest := []) C (c_X4_begin g l 6 (Or.inl rfl) a1 M h_5) yo_X4_begin kw_518 (sk_recv (ci := 4) C hM rfl rfl) (by decide) hM hS hl.1 rfl rfl (Nat.le_of_ble_eq_true rfl) dX6_behind_34) hS (fun H locs hM hS => ?_)
        refine lv_aload_n hx hb dX6_behind_37 rfl (lv_at hl 0 rfl) ?_
        refine sk_getR (o := 0) (ci := 6) (j := 2) (t := 6) C hM rfl rfl (by decide) rfl rfl kw_299 dX6_behind_38 ?_
        refine lv_iload_n hx hb dX6_behind_41 rfl (lv_at hl 3 rfl) ?_
        obtain ⟨M_6, h_7, h⟩ := sk_b1E h
        refine sk_contV (sk_runV (As := [.int a3]) (rest := []) C (c_X4_passDays g l 6 (Or.inl rfl) a3 M_4 h_7) yo_X4_passDays kw_525 (sk_recv (ci := 4) C hM rfl rfl) (by decide) hM hS hl.1 rfl rfl (Nat.le_of_ble_eq_true rfl) dX6_behind_42) hS (fun H locs hM hS => ?_)
        refine lv_aload_n hx hb dX6_behind_45 rfl (lv_at hl 0 rfl) ?_
        refine sk_getR (o := 0) (ci := 6) (j := 2) (t := 6) C hM rfl rfl (by decide) rfl rfl kw_299 dX6_behind_46 ?_
        refine lv_iload_n hx hb dX6_behind_49 rfl (lv_at hl 2 rfl) ?_
        obtain ⟨x_8, h_9, h⟩ := sk_b1E h
        refine sk_contI (sk_runV (As := [.int a2]) (rest := []) C (c_X4_saidTo g l 6 (Or.inl rfl) a2 M_6 h_9) yo_X4_saidTo kw_534 (sk_recv (ci := 4) C hM rfl rfl) (by decide) hM hS hl.1 rfl rfl (Nat.le_of_ble_eq_true rfl) dX6_behind_50) hS (fun H locs hM hS => ?_)
        exact sk_iret C hM hS (sk_e2 h) dX6_behind_53
      · have h := sk_pos h hc
        refine lv_ldc (v := (-1000000001)) hx hb hown (hts _ kw_347) dX6_behind_26 ?_
        exact sk_iret C hM hS (sk_e2 h) dX6_behind_28
theorem dX6_first_0 : decode cX6_first 0 = .ok (.aload_n 0, 1) := by decide +kernel
theorem dX6_first_1 : decode cX6_first 1 = .ok (.iload_n 1, 1) := by decide +kernel
theorem dX6_first_2 : decode cX6_first 2 = .ok (.invokevirtual 160, 3) := by decide +kernel
theorem dX6_first_5 : decode cX6_first 5 = .ok (.ifCond .eq 18, 3) := by decide +kernel
theorem dX6_first_8 : decode cX6_first 8 = .ok (.iload_n 2, 1) := by decide +kernel
theorem dX6_first_9 : decode cX6_first 9 = .ok (.invokestatic 104, 3) := by decide +kernel
theorem dX6_first_12 : decode cX6_first 12 = .ok (.ifCond .eq 11, 3) := by decide +kernel
theorem dX6_first_15 : decode cX6_first 15 = .ok (.aload_n 0, 1) := by decide +kernel
theorem dX6_first_16 : decode cX6_first 16 = .ok (.iload_n 3, 1) := by decide +kernel
theorem dX6_first_17 : decode cX6_first 17 = .ok (.invokevirtual 121, 3) := by decide +kernel
theorem dX6_first_20 : decode cX6_first 20 = .ok (.ifCond .ne 6, 3) := by decide +kernel
theorem dX6_first_23 : decode cX6_first 23 = .ok (.ldc 79, 2) := by decide +kernel
theorem dX6_first_25 : decode cX6_first 25 = .ok (.ireturn, 1) := by decide +kernel
theorem dX6_first_26 : decode cX6_first 26 = .ok (.aload_n 0, 1) := by decide +kernel
theorem dX6_first_27 : decode cX6_first 27 = .ok (.getfield 40, 3) := by decide +kernel
theorem dX6_first_30 : decode cX6_first 30 = .ok (.iload_n 1, 1) := by decide +kernel
theorem dX6_first_31 : decode cX6_first 31 = .ok (.invokevirtual 177, 3) := by decide +kernel
theorem dX6_first_34 : decode cX6_first 34 = .ok (.iconst 0, 1) := by decide +kernel
theorem dX6_first_35 : decode cX6_first 35 = .ok (.istore 4, 2) := by decide +kernel
theorem dX6_first_37 : decode cX6_first 37 = .ok (.iload 4, 2) := by decide +kernel
theorem dX6_first_39 : decode cX6_first 39 = .ok (.sipush 200, 3) := by decide +kernel
theorem dX6_first_42 : decode cX6_first 42 = .ok (.if_icmp .gt 31, 3) := by decide +kernel
theorem dX6_first_45 : decode cX6_first 45 = .ok (.aload_n 0, 1) := by decide +kernel
theorem dX6_first_46 : decode cX6_first 46 = .ok (.getfield 40, 3) := by decide +kernel
theorem dX6_first_49 : decode cX6_first 49 = .ok (.iload_n 2, 1) := by decide +kernel
theorem dX6_first_50 : decode cX6_first 50 = .ok (.invokevirtual 184, 3) := by decide +kernel
theorem dX6_first_53 : decode cX6_first 53 = .ok (.iload_n 3, 1) := by decide +kernel
theorem dX6_first_54 : decode cX6_first 54 = .ok (.if_icmp .ne 6, 3) := by decide +kernel
theorem dX6_first_57 : decode cX6_first 57 = .ok (.iload 4, 2) := by decide +kernel
theorem dX6_first_59 : decode cX6_first 59 = .ok (.ireturn, 1) := by decide +kernel
theorem dX6_first_60 : decode cX6_first 60 = .ok (.aload_n 0, 1) := by decide +kernel
theorem dX6_first_61 : decode cX6_first 61 = .ok (.getfield 40, 3) := by decide +kernel
theorem dX6_first_64 : decode cX6_first 64 = .ok (.invokevirtual 187, 3) := by decide +kernel
theorem dX6_first_67 : decode cX6_first 67 = .ok (.iinc 4 1, 3) := by decide +kernel
theorem dX6_first_70 : decode cX6_first 70 = .ok (.goto (-33), 3) := by decide +kernel
theorem dX6_first_73 : decode cX6_first 73 = .ok (.ldc 188, 2) := by decide +kernel
theorem dX6_first_75 : decode cX6_first 75 = .ok (.ireturn, 1) := by decide +kernel
set_option maxHeartbeats 4000000 in
set_option maxRecDepth 100000 in
theorem w_X6_first_L37 {g : sk_G} {l : Launch} {p : Program} {e : Env} {s : State} {m : MethodId} {av : Array Value} {below : List Frame} {meth : Method} {c : Code} (C : sk_C g p s m av meth c cX6_first 5 RX6 (some .int)) (a2 : Int32) (a3 : Int32) {rr : Int32} {MM : sk_M} :
    ∀ (n : Nat) (a4 : Int32) (M : sk_M) (H : Heap) (locs : List Loc) (ls : Array Slot), lv_has ls 5 [(0, .ref (sk_ad g 0)), (2, .int a2), (3, .int a3), (4, .int a4)] → sk_P g M H → va_S (sk_A g) s.heap H locs → ∀ {out : (Int32 × sk_M) ⊕ (sk_M)}, f_X6_first_L37 a2 a3 n a4 M = some out → (∀ r, out = Sum.inl r → some r = some (rr, MM)) → (∀ (M1 : sk_M) (H : Heap) (locs : List Loc) (ls : Array Slot), some (Sum.inr M1) = some out → lv_has ls 5 [] → sk_P g M1 H → va_S (sk_A g) s.heap H locs → W p l e (sk_rm 6) s m av below meth c H locs 0 0 (MQ below (sk_QI g rr MM) av s 0 0 (sk_A g)) (F0 m 73 ls [])) → W p l e (sk_rm 6) s m av below meth c H locs 0 0 (MQ below (sk_QI g rr MM) av s 0 0 (sk_A g)) (F0 m 37 ls []) := by
  obtain ⟨hx, hb, hml, hown, hts, hK, hE, hr, hlocks⟩ := id C
  intro n
  induction n with
  | zero =>
    intro a4 M H locs ls hl hM hS out h
    cases h
  | succ n ih =>
    intro a4 M H locs ls hl hM hS out h kr kx
    rw [f_X6_first_L37] at h
    refine lv_iload hx hb dX6_first_37 (lv_at hl 3 rfl) ?_
    refine lv_sipush (v := 200) hx hb dX6_first_39 (by decide) ?_
    refine lv_icmp_gt hx hb dX6_first_42 rfl (fun hc => ?_) (fun hc => ?_)
    · have h := sk_pos h hc
      exact kx _ _ _ _ h (lv_sub hl [] rfl) hM hS
    · have h := sk_neg h hc
      refine lv_aload_n hx hb dX6_first_45 rfl (lv_at hl 0 rfl) ?_
      refine sk_getR (o := 0) (ci := 6) (j := 2) (t := 6) C hM rfl rfl (by decide) rfl rfl kw_299 dX6_first_46 ?_
      refine lv_iload_n hx hb dX6_first_49 rfl (lv_at hl 1 rfl) ?_
      obtain ⟨x_6, h_7, h⟩ := sk_b1E h
      refine sk_contI (sk_runV (As := [.int a2]) (rest := []) C (c_X4_saidTo g l 6 (Or.inl rfl) a2 M h_7) yo_X4_saidTo kw_534 (sk_recv (ci := 4) C hM rfl rfl) (by decide) hM hS hl.1 rfl rfl (Nat.le_of_ble_eq_true rfl) dX6_first_50) hS (fun H locs hM hS => ?_)
      refine lv_iload_n hx hb dX6_first_53 rfl (lv_at hl 2 rfl) ?_
      refine lv_icmp_ne hx hb dX6_first_54 rfl (fun hc => ?_) (fun hc => ?_)
      · have h := sk_neg h hc
        refine lv_aload_n hx hb dX6_first_60 rfl (lv_at hl 0 rfl) ?_
        refine sk_getR (o := 0) (ci := 6) (j := 2) (t := 6) C hM rfl rfl (by decide) rfl rfl kw_299 dX6_first_61 ?_
        obtain ⟨M_8, h_9, h⟩ := sk_b1E h
        refine sk_contV (sk_runV (As := []) (rest := []) C (c_X4_passDay g l 6 (Or.inl rfl) M h_9) yo_X4_passDay kw_543 (sk_recv (ci := 4) C hM rfl rfl) (by decide) hM hS hl.1 rfl rfl (Nat.le_of_ble_eq_true rfl) dX6_first_64) hS (fun H locs hM hS => ?_)
        refine lv_iinc (v := (a4 + 1)) (lv' := [(4, .int (a4 + 1)), (0, .ref (sk_ad g 0)), (2, .int a2), (3, .int a3)]) hx hb dX6_first_67 hl (k := 3) rfl rfl (by decide) rfl (fun ls hl => ?_)
        refine lv_goto hx hb dX6_first_70 rfl ?_
        exact ih (a4 + 1) M_8 _ _ _ (lv_sub hl [1, 2, 3, 0] rfl) hM hS h kr kx
      · have h := sk_pos h hc
        refine lv_iload hx hb dX6_first_57 (lv_at hl 3 rfl) ?_
        have h := kr _ (Option.some.inj h).symm
        exact sk_iret C hM hS (sk_e2 h) dX6_first_59
set_option maxHeartbeats 4000000 in
set_option maxRecDepth 100000 in
theorem c_X6_first (g : sk_G) (l : Launch) (a1 : Int32) (a2 : Int32) (a3 : Int32) (M : sk_M) {rr : Int32} {MM : sk_M} (h : f_X6_first a1 a2 a3 M = some (rr, MM)) : sk_MI g l yX6_first cX6_first 5 (some .int) 6 [.ref (sk_ad g 0), .int a1, .int a2, .int a3] M rr MM := by
  refine sk_go [(0, .ref (sk_ad g 0)), (1, .int a1), (2, .int a2), (3, .int a3)] (by decide) (Nat.le_of_ble_eq_true rfl) rfl ?_
  intro p e s m av below meth c C ls hl hM hS
  obtain ⟨hx, hb, hml, hown, hts, hK, hE, hr, hlocks⟩ := id C
  rw [f_X6_first] at h
  refine lv_aload_n hx hb dX6_first_0 rfl (lv_at hl 0 rfl) ?_
  refine lv_iload_n hx hb dX6_first_1 rfl (lv_at hl 1 rfl) ?_
  refine sk_contI (sk_runV (As := [.int a1]) (rest := []) C (c_X6_isCloth g l a1 M rfl) yo_X6_isCloth kw_434 (sk_recv (ci := 6) C hM rfl rfl) (by decide) hM hS hl.1 rfl rfl (Nat.le_of_ble_eq_true rfl) dX6_first_2) hS (fun H locs hM hS => ?_)
  refine lv_if_eq hx hb dX6_first_5 rfl (fun hc => ?_) (fun hc => ?_)
  · have h := sk_pos h hc
    refine lv_ldc (v := (-1000000001)) hx hb hown (hts _ kw_347) dX6_first_23 ?_
    exact sk_iret C hM hS (sk_e2 h) dX6_first_25
  · have h := sk_neg h hc
    refine lv_iload_n hx hb dX6_first_8 rfl (lv_at hl 2 rfl) ?_
    refine sk_contI (sk_runS (As := [.int a2]) (rest := []) C (c_X6_isNose g l a2 M rfl) yo_X6_isNose kw_390 (by decide) hM hS hl.1 rfl rfl (Nat.le_of_ble_eq_true rfl) dX6_first_9) hS (fun H locs hM hS => ?_)
    refine lv_if_eq hx hb dX6_first_12 rfl (fun hc => ?_) (fun hc => ?_)
    · have h := sk_pos h hc
      refine lv_ldc (v := (-1000000001)) hx hb hown (hts _ kw_347) dX6_first_23 ?_
      exact sk_iret C hM hS (sk_e2 h) dX6_first_25
    · have h := sk_neg h hc
      refine lv_aload_n hx hb dX6_first_15 rfl (lv_at hl 0 rfl) ?_
      refine lv_iload_n hx hb dX6_first_16 rfl (lv_at hl 3 rfl) ?_
      refine sk_contI (sk_runV (As := [.int a3]) (rest := []) C (c_X6_isWord g l a3 M rfl) yo_X6_isWord kw_402 (sk_recv (ci := 6) C hM rfl rfl) (by decide) hM hS hl.1 rfl rfl (Nat.le_of_ble_eq_true rfl) dX6_first_17) hS (fun H locs hM hS => ?_)
      refine lv_if_ne hx hb dX6_first_20 rfl (fun hc => ?_) (fun hc => ?_)
      · have h := sk_neg h hc
        refine lv_aload_n hx hb dX6_first_26 rfl (lv_at hl 0 rfl) ?_
        refine sk_getR (o := 0) (ci := 6) (j := 2) (t := 6) C hM rfl rfl (by decide) rfl rfl kw_299 dX6_first_27 ?_
        refine lv_iload_n hx hb dX6_first_30 rfl (lv_at hl 1 rfl) ?_
        obtain ⟨M_4, h_5, h⟩ := sk_b1E h
        refine sk_contV (sk_runV (As := [.int a1]) (rest := []) C (c_X4_begin g l 6 (Or.inl rfl) a1 M h_5) yo_X4_begin kw_518 (sk_recv (ci := 4) C hM rfl rfl) (by decide) hM hS hl.1 rfl rfl (Nat.le_of_ble_eq_true rfl) dX6_first_31) hS (fun H locs hM hS => ?_)
        refine lv_iconst (v := 0) hx hb dX6_first_34 (by decide) ?_
        refine lv_istore (lv' := [(4, .int 0), (0, .ref (sk_ad g 0)), (1, .int a1), (2, .int a2), (3, .int a3)]) hx hb dX6_first_35 hl (by decide) rfl (fun ls hl => ?_)
        obtain ⟨out_12, h_11, kf_13, kg_14⟩ := sk_s1E h
        refine w_X6_first_L37 C a2 a3 sk_FU 0 M_4 _ _ _ (lv_sub hl [1, 3, 4, 0] rfl) hM hS h_11 kf_13 (fun M_10 H locs ls he hl hM hS => ?_)
        have h := kg_14 M_10 (Option.some.inj he).symm
        refine lv_ldc (v := (-1000000005)) hx hb hown (hts _ kw_544) dX6_first_73 ?_
        exact sk_iret C hM hS (sk_e2 h) dX6_first_75
      · have h := sk_pos h hc
        refine lv_ldc (v := (-1000000001)) hx hb hown (hts _ kw_347) dX6_first_23 ?_
        exact sk_iret C hM hS (sk_e2 h) dX6_first_25
theorem dX6_lasts_0 : decode cX6_lasts 0 = .ok (.aload_n 0, 1) := by decide +kernel
theorem dX6_lasts_1 : decode cX6_lasts 1 = .ok (.iload_n 1, 1) := by decide +kernel
theorem dX6_lasts_2 : decode cX6_lasts 2 = .ok (.invokevirtual 160, 3) := by decide +kernel
theorem dX6_lasts_5 : decode cX6_lasts 5 = .ok (.ifCond .eq 30, 3) := by decide +kernel
theorem dX6_lasts_8 : decode cX6_lasts 8 = .ok (.iload_n 2, 1) := by decide +kernel
theorem dX6_lasts_9 : decode cX6_lasts 9 = .ok (.invokestatic 104, 3) := by decide +kernel
theorem dX6_lasts_12 : decode cX6_lasts 12 = .ok (.ifCond .eq 23, 3) := by decide +kernel
theorem dX6_lasts_15 : decode cX6_lasts 15 = .ok (.aload_n 0, 1) := by decide +kernel
theorem dX6_lasts_16 : decode cX6_lasts 16 = .ok (.iload_n 3, 1) := by decide +kernel
theorem dX6_lasts_17 : decode cX6_lasts 17 = .ok (.invokevirtual 121, 3) := by decide +kernel
theorem dX6_lasts_20 : decode cX6_lasts 20 = .ok (.ifCond .eq 15, 3) := by decide +kernel
theorem dX6_lasts_23 : decode cX6_lasts 23 = .ok (.iload 4, 2) := by decide +kernel
theorem dX6_lasts_25 : decode cX6_lasts 25 = .ok (.iconst 0, 1) := by decide +kernel
theorem dX6_lasts_26 : decode cX6_lasts 26 = .ok (.sipush 200, 3) := by decide +kernel
theorem dX6_lasts_29 : decode cX6_lasts 29 = .ok (.invokestatic 75, 3) := by decide +kernel
theorem dX6_lasts_32 : decode cX6_lasts 32 = .ok (.ifCond .ne 6, 3) := by decide +kernel
theorem dX6_lasts_35 : decode cX6_lasts 35 = .ok (.ldc 79, 2) := by decide +kernel
theorem dX6_lasts_37 : decode cX6_lasts 37 = .ok (.ireturn, 1) := by decide +kernel
theorem dX6_lasts_38 : decode cX6_lasts 38 = .ok (.iconst 0, 1) := by decide +kernel
theorem dX6_lasts_39 : decode cX6_lasts 39 = .ok (.istore 5, 2) := by decide +kernel
theorem dX6_lasts_41 : decode cX6_lasts 41 = .ok (.aload_n 0, 1) := by decide +kernel
theorem dX6_lasts_42 : decode cX6_lasts 42 = .ok (.getfield 40, 3) := by decide +kernel
theorem dX6_lasts_45 : decode cX6_lasts 45 = .ok (.iload_n 1, 1) := by decide +kernel
theorem dX6_lasts_46 : decode cX6_lasts 46 = .ok (.invokevirtual 177, 3) := by decide +kernel
theorem dX6_lasts_49 : decode cX6_lasts 49 = .ok (.iconst 0, 1) := by decide +kernel
theorem dX6_lasts_50 : decode cX6_lasts 50 = .ok (.istore 6, 2) := by decide +kernel
theorem dX6_lasts_52 : decode cX6_lasts 52 = .ok (.iload 6, 2) := by decide +kernel
theorem dX6_lasts_54 : decode cX6_lasts 54 = .ok (.iload 4, 2) := by decide +kernel
theorem dX6_lasts_56 : decode cX6_lasts 56 = .ok (.if_icmp .gt 31, 3) := by decide +kernel
theorem dX6_lasts_59 : decode cX6_lasts 59 = .ok (.aload_n 0, 1) := by decide +kernel
theorem dX6_lasts_60 : decode cX6_lasts 60 = .ok (.getfield 40, 3) := by decide +kernel
theorem dX6_lasts_63 : decode cX6_lasts 63 = .ok (.iload_n 2, 1) := by decide +kernel
theorem dX6_lasts_64 : decode cX6_lasts 64 = .ok (.invokevirtual 184, 3) := by decide +kernel
theorem dX6_lasts_67 : decode cX6_lasts 67 = .ok (.iload_n 3, 1) := by decide +kernel
theorem dX6_lasts_68 : decode cX6_lasts 68 = .ok (.if_icmp .ne 6, 3) := by decide +kernel
theorem dX6_lasts_71 : decode cX6_lasts 71 = .ok (.iinc 5 1, 3) := by decide +kernel
theorem dX6_lasts_74 : decode cX6_lasts 74 = .ok (.aload_n 0, 1) := by decide +kernel
theorem dX6_lasts_75 : decode cX6_lasts 75 = .ok (.getfield 40, 3) := by decide +kernel
theorem dX6_lasts_78 : decode cX6_lasts 78 = .ok (.invokevirtual 187, 3) := by decide +kernel
theorem dX6_lasts_81 : decode cX6_lasts 81 = .ok (.iinc 6 1, 3) := by decide +kernel
theorem dX6_lasts_84 : decode cX6_lasts 84 = .ok (.goto (-32), 3) := by decide +kernel
theorem dX6_lasts_87 : decode cX6_lasts 87 = .ok (.iload 5, 2) := by decide +kernel
theorem dX6_lasts_89 : decode cX6_lasts 89 = .ok (.ireturn, 1) := by decide +kernel
set_option maxHeartbeats 4000000 in
set_option maxRecDepth 100000 in
theorem w_X6_lasts_L52 {g : sk_G} {l : Launch} {p : Program} {e : Env} {s : State} {m : MethodId} {av : Array Value} {below : List Frame} {meth : Method} {c : Code} (C : sk_C g p s m av meth c cX6_lasts 7 RX6 (some .int)) (a2 : Int32) (a3 : Int32) (a4 : Int32) {rr : Int32} {MM : sk_M} :
    ∀ (n : Nat) (a5 : Int32) (a6 : Int32) (M : sk_M) (H : Heap) (locs : List Loc) (ls : Array Slot), lv_has ls 7 [(0, .ref (sk_ad g 0)), (2, .int a2), (3, .int a3), (4, .int a4), (5, .int a5), (6, .int a6)] → sk_P g M H → va_S (sk_A g) s.heap H locs → ∀ {out : Int32 × sk_M}, f_X6_lasts_L52 a2 a3 a4 n a5 a6 M = some out → (∀ (x5 : Int32) (M1 : sk_M) (H : Heap) (locs : List Loc) (ls : Array Slot), some (x5, M1) = some out → lv_has ls 7 [(5, .int x5)] → sk_P g M1 H → va_S (sk_A g) s.heap H locs → W p l e (sk_rm 6) s m av below meth c H locs 0 0 (MQ below (sk_QI g rr MM) av s 0 0 (sk_A g)) (F0 m 87 ls [])) → W p l e (sk_rm 6) s m av below meth c H locs 0 0 (MQ below (sk_QI g rr MM) av s 0 0 (sk_A g)) (F0 m 52 ls []) := by
  obtain ⟨hx, hb, hml, hown, hts, hK, hE, hr, hlocks⟩ := id C
  intro n
  induction n with
  | zero =>
    intro a5 a6 M H locs ls hl hM hS out h
    cases h
  | succ n ih =>
    intro a5 a6 M H locs ls hl hM hS out h kx
    rw [f_X6_lasts_L52] at h
    refine lv_iload hx hb dX6_lasts_52 (lv_at hl 5 rfl) ?_
    refine lv_iload hx hb dX6_lasts_54 (lv_at hl 3 rfl) ?_
    refine lv_icmp_gt hx hb dX6_lasts_56 rfl (fun hc => ?_) (fun hc => ?_)
    · have h := sk_pos h hc
      exact kx _ _ _ _ _ h (lv_sub hl [4] rfl) hM hS
    · have h := sk_neg h hc
      refine lv_aload_n hx hb dX6_lasts_59 rfl (lv_at hl 0 rfl) ?_
      refine sk_getR (o := 0) (ci := 6) (j := 2) (t := 6) C hM rfl rfl (by decide) rfl rfl kw_299 dX6_lasts_60 ?_
      refine lv_iload_n hx hb dX6_lasts_63 rfl (lv_at hl 1 rfl) ?_
      obtain ⟨x_7, h_8, h⟩ := sk_b1E h
      refine sk_contI (sk_runV (As := [.int a2]) (rest := []) C (c_X4_saidTo g l 6 (Or.inl rfl) a2 M h_8) yo_X4_saidTo kw_534 (sk_recv (ci := 4) C hM rfl rfl) (by decide) hM hS hl.1 rfl rfl (Nat.le_of_ble_eq_true rfl) dX6_lasts_64) hS (fun H locs hM hS => ?_)
      refine lv_iload_n hx hb dX6_lasts_67 rfl (lv_at hl 2 rfl) ?_
      refine lv_icmp_ne hx hb dX6_lasts_68 rfl (fun hc => ?_) (fun hc => ?_)
      · have h := sk_neg h hc
        refine lv_aload_n hx hb dX6_lasts_74 rfl (lv_at hl 0 rfl) ?_
        refine sk_getR (o := 0) (ci := 6) (j := 2) (t := 6) C hM rfl rfl (by decide) rfl rfl kw_299 dX6_lasts_75 ?_
        obtain ⟨M_9, h_10, h⟩ := sk_b1E h
        refine sk_contV (sk_runV (As := []) (rest := []) C (c_X4_passDay g l 6 (Or.inl rfl) M h_10) yo_X4_passDay kw_543 (sk_recv (ci := 4) C hM rfl rfl) (by decide) hM hS hl.1 rfl rfl (Nat.le_of_ble_eq_true rfl) dX6_lasts_78) hS (fun H locs hM hS => ?_)
        refine lv_iinc (v := (a6 + 1)) (lv' := [(6, .int (a6 + 1)), (0, .ref (sk_ad g 0)), (2, .int a2), (3, .int a3), (4, .int a4), (5, .int a5)]) hx hb dX6_lasts_81 hl (k := 5) rfl rfl (by decide) rfl (fun ls hl => ?_)
        refine lv_goto hx hb dX6_lasts_84 rfl ?_
        exact ih a5 (a6 + 1) M_9 _ _ _ (lv_sub hl [1, 2, 3, 4, 5, 0] rfl) hM hS h kx
      · have h := sk_pos h hc
        refine lv_iinc (v := (a5 + 1)) (lv' := [(5, .int (a5 + 1)), (0, .ref (sk_ad g 0)), (2, .int a2), (3, .int a3), (4, .int a4), (6, .int a6)]) hx hb dX6_lasts_71 hl (k := 4) rfl rfl (by decide) rfl (fun ls hl => ?_)
        refine lv_aload_n hx hb dX6_lasts_74 rfl (lv_at hl 1 rfl) ?_
        refine sk_getR (o := 0) (ci := 6) (j := 2) (t := 6) C hM rfl rfl (by decide) rfl rfl kw_299 dX6_lasts_75 ?_
        obtain ⟨M_11, h_12, h⟩ := sk_b1E h
        refine sk_contV (sk_runV (As := []) (rest := []) C (c_X4_passDay g l 6 (Or.inl rfl) M h_12) yo_X4_passDay kw_543 (sk_recv (ci := 4) C hM rfl rfl) (by decide) hM hS hl.1 rfl rfl (Nat.le_of_ble_eq_true rfl) dX6_lasts_78) hS (fun H locs hM hS => ?_)
        refine lv_iinc (v := (a6 + 1)) (lv' := [(6, .int (a6 + 1)), (5, .int (a5 + 1)), (0, .ref (sk_ad g 0)), (2, .int a2), (3, .int a3), (4, .int a4)]) hx hb dX6_lasts_81 hl (k := 5) rfl rfl (by decide) rfl (fun ls hl => ?_)
        refine lv_goto hx hb dX6_lasts_84 rfl ?_
        exact ih (a5 + 1) (a6 + 1) M_11 _ _ _ (lv_sub hl [2, 3, 4, 5, 1, 0] rfl) hM hS h kx
set_option maxHeartbeats 4000000 in
set_option maxRecDepth 100000 in
theorem c_X6_lasts (g : sk_G) (l : Launch) (a1 : Int32) (a2 : Int32) (a3 : Int32) (a4 : Int32) (M : sk_M) {rr : Int32} {MM : sk_M} (h : f_X6_lasts a1 a2 a3 a4 M = some (rr, MM)) : sk_MI g l yX6_lasts cX6_lasts 7 (some .int) 6 [.ref (sk_ad g 0), .int a1, .int a2, .int a3, .int a4] M rr MM := by
  refine sk_go [(0, .ref (sk_ad g 0)), (1, .int a1), (2, .int a2), (3, .int a3), (4, .int a4)] (by decide) (Nat.le_of_ble_eq_true rfl) rfl ?_
  intro p e s m av below meth c C ls hl hM hS
  obtain ⟨hx, hb, hml, hown, hts, hK, hE, hr, hlocks⟩ := id C
  rw [f_X6_lasts] at h
  refine lv_aload_n hx hb dX6_lasts_0 rfl (lv_at hl 0 rfl) ?_
  refine lv_iload_n hx hb dX6_lasts_1 rfl (lv_at hl 1 rfl) ?_
  refine sk_contI (sk_runV (As := [.int a1]) (rest := []) C (c_X6_isCloth g l a1 M rfl) yo_X6_isCloth kw_434 (sk_recv (ci := 6) C hM rfl rfl) (by decide) hM hS hl.1 rfl rfl (Nat.le_of_ble_eq_true rfl) dX6_lasts_2) hS (fun H locs hM hS => ?_)
  refine lv_if_eq hx hb dX6_lasts_5 rfl (fun hc => ?_) (fun hc => ?_)
  · have h := sk_pos h hc
    refine lv_ldc (v := (-1000000001)) hx hb hown (hts _ kw_347) dX6_lasts_35 ?_
    exact sk_iret C hM hS (sk_e2 h) dX6_lasts_37
  · have h := sk_neg h hc
    refine lv_iload_n hx hb dX6_lasts_8 rfl (lv_at hl 2 rfl) ?_
    refine sk_contI (sk_runS (As := [.int a2]) (rest := []) C (c_X6_isNose g l a2 M rfl) yo_X6_isNose kw_390 (by decide) hM hS hl.1 rfl rfl (Nat.le_of_ble_eq_true rfl) dX6_lasts_9) hS (fun H locs hM hS => ?_)
    refine lv_if_eq hx hb dX6_lasts_12 rfl (fun hc => ?_) (fun hc => ?_)
    · have h := sk_pos h hc
      refine lv_ldc (v := (-1000000001)) hx hb hown (hts _ kw_347) dX6_lasts_35 ?_
      exact sk_iret C hM hS (sk_e2 h) dX6_lasts_37
    · have h := sk_neg h hc
      refine lv_aload_n hx hb dX6_lasts_15 rfl (lv_at hl 0 rfl) ?_
      refine lv_iload_n hx hb dX6_lasts_16 rfl (lv_at hl 3 rfl) ?_
      refine sk_contI (sk_runV (As := [.int a3]) (rest := []) C (c_X6_isWord g l a3 M rfl) yo_X6_isWord kw_402 (sk_recv (ci := 6) C hM rfl rfl) (by decide) hM hS hl.1 rfl rfl (Nat.le_of_ble_eq_true rfl) dX6_lasts_17) hS (fun H locs hM hS => ?_)
      refine lv_if_eq hx hb dX6_lasts_20 rfl (fun hc => ?_) (fun hc => ?_)
      · have h := sk_pos h hc
        refine lv_ldc (v := (-1000000001)) hx hb hown (hts _ kw_347) dX6_lasts_35 ?_
        exact sk_iret C hM hS (sk_e2 h) dX6_lasts_37
      · have h := sk_neg h hc
        refine lv_iload hx hb dX6_lasts_23 (lv_at hl 4 rfl) ?_
        refine lv_iconst (v := 0) hx hb dX6_lasts_25 (by decide) ?_
        refine lv_sipush (v := 200) hx hb dX6_lasts_26 (by decide) ?_
        refine sk_contI (sk_runS (As := [.int a4, .int 0, .int 200]) (rest := []) C (c_X6_within g l a4 0 200 M rfl) yo_X6_within kw_344 (by decide) hM hS hl.1 rfl rfl (Nat.le_of_ble_eq_true rfl) dX6_lasts_29) hS (fun H locs hM hS => ?_)
        refine lv_if_ne hx hb dX6_lasts_32 rfl (fun hc => ?_) (fun hc => ?_)
        · have h := sk_neg h hc
          refine lv_iconst (v := 0) hx hb dX6_lasts_38 (by decide) ?_
          refine lv_istore (lv' := [(5, .int 0), (0, .ref (sk_ad g 0)), (1, .int a1), (2, .int a2), (3, .int a3), (4, .int a4)]) hx hb dX6_lasts_39 hl (by decide) rfl (fun ls hl => ?_)
          refine lv_aload_n hx hb dX6_lasts_41 rfl (lv_at hl 1 rfl) ?_
          refine sk_getR (o := 0) (ci := 6) (j := 2) (t := 6) C hM rfl rfl (by decide) rfl rfl kw_299 dX6_lasts_42 ?_
          refine lv_iload_n hx hb dX6_lasts_45 rfl (lv_at hl 2 rfl) ?_
          obtain ⟨M_5, h_6, h⟩ := sk_b1E h
          refine sk_contV (sk_runV (As := [.int a1]) (rest := []) C (c_X4_begin g l 6 (Or.inl rfl) a1 M h_6) yo_X4_begin kw_518 (sk_recv (ci := 4) C hM rfl rfl) (by decide) hM hS hl.1 rfl rfl (Nat.le_of_ble_eq_true rfl) dX6_lasts_46) hS (fun H locs hM hS => ?_)
          refine lv_iconst (v := 0) hx hb dX6_lasts_49 (by decide) ?_
          refine lv_istore (lv' := [(6, .int 0), (5, .int 0), (0, .ref (sk_ad g 0)), (1, .int a1), (2, .int a2), (3, .int a3), (4, .int a4)]) hx hb dX6_lasts_50 hl (by decide) rfl (fun ls hl => ?_)
          obtain ⟨x_13, M_14, h_15, h⟩ := sk_b2E h
          refine w_X6_lasts_L52 C a2 a3 a4 sk_FU 0 0 M_5 _ _ _ (lv_sub hl [2, 4, 5, 6, 1, 0] rfl) hM hS h_15 (fun y_16 y_17 H locs ls he hl hM hS => ?_)
          obtain ⟨rfl, rfl⟩ := sk_e2 he
          refine lv_iload hx hb dX6_lasts_87 (lv_at hl 0 rfl) ?_
          exact sk_iret C hM hS (sk_e2 h) dX6_lasts_89
        · have h := sk_pos h hc
          refine lv_ldc (v := (-1000000001)) hx hb hown (hts _ kw_347) dX6_lasts_35 ?_
          exact sk_iret C hM hS (sk_e2 h) dX6_lasts_37
theorem dJ6_bitCount_0f7a4_0 : decode cJ6_bitCount_0f7a4 0 = .ok (.iload_n 0, 1) := by decide +kernel
theorem dJ6_bitCount_0f7a4_1 : decode cJ6_bitCount_0f7a4 1 = .ok (.iload_n 0, 1) := by decide +kernel
theorem dJ6_bitCount_0f7a4_2 : decode cJ6_bitCount_0f7a4 2 = .ok (.iconst 1, 1) := by decide +kernel
theorem dJ6_bitCount_0f7a4_3 : decode cJ6_bitCount_0f7a4 3 = .ok (.iushr, 1) := by decide +kernel
theorem dJ6_bitCount_0f7a4_4 : decode cJ6_bitCount_0f7a4 4 = .ok (.ldc_w 265, 3) := by decide +kernel
theorem dJ6_bitCount_0f7a4_7 : decode cJ6_bitCount_0f7a4 7 = .ok (.iand, 1) := by decide +kernel
theorem dJ6_bitCount_0f7a4_8 : decode cJ6_bitCount_0f7a4 8 = .ok (.isub, 1) := by decide +kernel
theorem dJ6_bitCount_0f7a4_9 : decode cJ6_bitCount_0f7a4 9 = .ok (.istore_n 0, 1) := by decide +kernel
theorem dJ6_bitCount_0f7a4_10 : decode cJ6_bitCount_0f7a4 10 = .ok (.iload_n 0, 1) := by decide +kernel
theorem dJ6_bitCount_0f7a4_11 : decode cJ6_bitCount_0f7a4 11 = .ok (.ldc_w 266, 3) := by decide +kernel
theorem dJ6_bitCount_0f7a4_14 : decode cJ6_bitCount_0f7a4 14 = .ok (.iand, 1) := by decide +kernel
theorem dJ6_bitCount_0f7a4_15 : decode cJ6_bitCount_0f7a4 15 = .ok (.iload_n 0, 1) := by decide +kernel
theorem dJ6_bitCount_0f7a4_16 : decode cJ6_bitCount_0f7a4 16 = .ok (.iconst 2, 1) := by decide +kernel
theorem dJ6_bitCount_0f7a4_17 : decode cJ6_bitCount_0f7a4 17 = .ok (.iushr, 1) := by decide +kernel
theorem dJ6_bitCount_0f7a4_18 : decode cJ6_bitCount_0f7a4 18 = .ok (.ldc_w 266, 3) := by decide +kernel
theorem dJ6_bitCount_0f7a4_21 : decode cJ6_bitCount_0f7a4 21 = .ok (.iand, 1) := by decide +kernel
theorem dJ6_bitCount_0f7a4_22 : decode cJ6_bitCount_0f7a4 22 = .ok (.iadd, 1) := by decide +kernel
theorem dJ6_bitCount_0f7a4_23 : decode cJ6_bitCount_0f7a4 23 = .ok (.istore_n 0, 1) := by decide +kernel
theorem dJ6_bitCount_0f7a4_24 : decode cJ6_bitCount_0f7a4 24 = .ok (.iload_n 0, 1) := by decide +kernel
theorem dJ6_bitCount_0f7a4_25 : decode cJ6_bitCount_0f7a4 25 = .ok (.iload_n 0, 1) := by decide +kernel
theorem dJ6_bitCount_0f7a4_26 : decode cJ6_bitCount_0f7a4 26 = .ok (.iconst 4, 1) := by decide +kernel
theorem dJ6_bitCount_0f7a4_27 : decode cJ6_bitCount_0f7a4 27 = .ok (.iushr, 1) := by decide +kernel
theorem dJ6_bitCount_0f7a4_28 : decode cJ6_bitCount_0f7a4 28 = .ok (.iadd, 1) := by decide +kernel
theorem dJ6_bitCount_0f7a4_29 : decode cJ6_bitCount_0f7a4 29 = .ok (.ldc_w 267, 3) := by decide +kernel
theorem dJ6_bitCount_0f7a4_32 : decode cJ6_bitCount_0f7a4 32 = .ok (.iand, 1) := by decide +kernel
theorem dJ6_bitCount_0f7a4_33 : decode cJ6_bitCount_0f7a4 33 = .ok (.istore_n 0, 1) := by decide +kernel
theorem dJ6_bitCount_0f7a4_34 : decode cJ6_bitCount_0f7a4 34 = .ok (.iload_n 0, 1) := by decide +kernel
theorem dJ6_bitCount_0f7a4_35 : decode cJ6_bitCount_0f7a4 35 = .ok (.iload_n 0, 1) := by decide +kernel
theorem dJ6_bitCount_0f7a4_36 : decode cJ6_bitCount_0f7a4 36 = .ok (.bipush 8, 2) := by decide +kernel
theorem dJ6_bitCount_0f7a4_38 : decode cJ6_bitCount_0f7a4 38 = .ok (.iushr, 1) := by decide +kernel
theorem dJ6_bitCount_0f7a4_39 : decode cJ6_bitCount_0f7a4 39 = .ok (.iadd, 1) := by decide +kernel
theorem dJ6_bitCount_0f7a4_40 : decode cJ6_bitCount_0f7a4 40 = .ok (.istore_n 0, 1) := by decide +kernel
theorem dJ6_bitCount_0f7a4_41 : decode cJ6_bitCount_0f7a4 41 = .ok (.iload_n 0, 1) := by decide +kernel
theorem dJ6_bitCount_0f7a4_42 : decode cJ6_bitCount_0f7a4 42 = .ok (.iload_n 0, 1) := by decide +kernel
theorem dJ6_bitCount_0f7a4_43 : decode cJ6_bitCount_0f7a4 43 = .ok (.bipush 16, 2) := by decide +kernel
theorem dJ6_bitCount_0f7a4_45 : decode cJ6_bitCount_0f7a4 45 = .ok (.iushr, 1) := by decide +kernel
theorem dJ6_bitCount_0f7a4_46 : decode cJ6_bitCount_0f7a4 46 = .ok (.iadd, 1) := by decide +kernel
theorem dJ6_bitCount_0f7a4_47 : decode cJ6_bitCount_0f7a4 47 = .ok (.istore_n 0, 1) := by decide +kernel
theorem dJ6_bitCount_0f7a4_48 : decode cJ6_bitCount_0f7a4 48 = .ok (.iload_n 0, 1) := by decide +kernel
theorem dJ6_bitCount_0f7a4_49 : decode cJ6_bitCount_0f7a4 49 = .ok (.bipush 63, 2) := by decide +kernel
theorem dJ6_bitCount_0f7a4_51 : decode cJ6_bitCount_0f7a4 51 = .ok (.iand, 1) := by decide +kernel
theorem dJ6_bitCount_0f7a4_52 : decode cJ6_bitCount_0f7a4 52 = .ok (.ireturn, 1) := by decide +kernel
set_option maxHeartbeats 4000000 in
set_option maxRecDepth 100000 in
theorem c_J6_bitCount_0f7a4 (g : sk_G) (l : Launch) (a0 : Int32) (M : sk_M) {rr : Int32} (h : f_J6_bitCount_0f7a4 a0 = rr) : sk_MI g l yJ6_bitCount_0f7a4 cJ6_bitCount_0f7a4 1 (some .int) 1 [.int a0] M rr M := by
  refine sk_go [(0, .int a0)] (by decide) (Nat.le_of_ble_eq_true rfl) rfl ?_
  intro p e s m av below meth c C ls hl hM hS
  obtain ⟨hx, hb, hml, hown, hts, hK, hE, hr, hlocks⟩ := id C
  rw [f_J6_bitCount_0f7a4] at h
  refine lv_iload_n hx hb dJ6_bitCount_0f7a4_0 rfl (lv_at hl 0 rfl) ?_
  refine lv_iload_n hx hb dJ6_bitCount_0f7a4_1 rfl (lv_at hl 0 rfl) ?_
  refine lv_iconst (v := 1) hx hb dJ6_bitCount_0f7a4_2 (by decide) ?_
  refine lv_iushr (v := (sk_ushr a0 1)) hx hb dJ6_bitCount_0f7a4_3 rfl ?_
  refine lv_ldcw (v := 1431655765) hx hb hown (hts _ kw_556) dJ6_bitCount_0f7a4_4 ?_
  refine lv_iand hx hb dJ6_bitCount_0f7a4_7 ?_
  refine lv_isub hx hb dJ6_bitCount_0f7a4_8 ?_
  refine lv_topi (fun x_1 ex_1 => ?_)
  have h := sk_letU h ex_1
  refine lv_istore_n (lv' := [(0, .int x_1)]) hx hb dJ6_bitCount_0f7a4_9 rfl hl (by decide) rfl (fun ls hl => ?_)
  refine lv_iload_n hx hb dJ6_bitCount_0f7a4_10 rfl (lv_at hl 0 rfl) ?_
  refine lv_ldcw (v := 858993459) hx hb hown (hts _ kw_557) dJ6_bitCount_0f7a4_11 ?_
  refine lv_iand hx hb dJ6_bitCount_0f7a4_14 ?_
  refine lv_iload_n hx hb dJ6_bitCount_0f7a4_15 rfl (lv_at hl 0 rfl) ?_
  refine lv_iconst (v := 2) hx hb dJ6_bitCount_0f7a4_16 (by decide) ?_
  refine lv_iushr (v := (sk_ushr x_1 2)) hx hb dJ6_bitCount_0f7a4_17 rfl ?_
  refine lv_ldcw (v := 858993459) hx hb hown (hts _ kw_557) dJ6_bitCount_0f7a4_18 ?_
  refine lv_iand hx hb dJ6_bitCount_0f7a4_21 ?_
  refine lv_iadd hx hb dJ6_bitCount_0f7a4_22 ?_
  refine lv_topi (fun x_2 ex_2 => ?_)
  have h := sk_letU h ex_2
  refine lv_istore_n (lv' := [(0, .int x_2)]) hx hb dJ6_bitCount_0f7a4_23 rfl hl (by decide) rfl (fun ls hl => ?_)
  refine lv_iload_n hx hb dJ6_bitCount_0f7a4_24 rfl (lv_at hl 0 rfl) ?_
  refine lv_iload_n hx hb dJ6_bitCount_0f7a4_25 rfl (lv_at hl 0 rfl) ?_
  refine lv_iconst (v := 4) hx hb dJ6_bitCount_0f7a4_26 (by decide) ?_
  refine lv_iushr (v := (sk_ushr x_2 4)) hx hb dJ6_bitCount_0f7a4_27 rfl ?_
  refine lv_iadd hx hb dJ6_bitCount_0f7a4_28 ?_
  refine lv_ldcw (v := 252645135) hx hb hown (hts _ kw_558) dJ6_bitCount_0f7a4_29 ?_
  refine lv_iand hx hb dJ6_bitCount_0f7a4_32 ?_
  refine lv_topi (fun x_3 ex_3 => ?_)
  have h := sk_letU h ex_3
  refine lv_istore_n (lv' := [(0, .int x_3)]) hx hb dJ6_bitCount_0f7a4_33 rfl hl (by decide) rfl (fun ls hl => ?_)
  refine lv_iload_n hx hb dJ6_bitCount_0f7a4_34 rfl (lv_at hl 0 rfl) ?_
  refine lv_iload_n hx hb dJ6_bitCount_0f7a4_35 rfl (lv_at hl 0 rfl) ?_
  refine lv_bipush (v := 8) hx hb dJ6_bitCount_0f7a4_36 (by decide) ?_
  refine lv_iushr (v := (sk_ushr x_3 8)) hx hb dJ6_bitCount_0f7a4_38 rfl ?_
  refine lv_iadd hx hb dJ6_bitCount_0f7a4_39 ?_
  refine lv_topi (fun x_4 ex_4 => ?_)
  have h := sk_letU h ex_4
  refine lv_istore_n (lv' := [(0, .int x_4)]) hx hb dJ6_bitCount_0f7a4_40 rfl hl (by decide) rfl (fun ls hl => ?_)
  refine lv_iload_n hx hb dJ6_bitCount_0f7a4_41 rfl (lv_at hl 0 rfl) ?_
  refine lv_iload_n hx hb dJ6_bitCount_0f7a4_42 rfl (lv_at hl 0 rfl) ?_
  refine lv_bipush (v := 16) hx hb dJ6_bitCount_0f7a4_43 (by decide) ?_
  refine lv_iushr (v := (sk_ushr x_4 16)) hx hb dJ6_bitCount_0f7a4_45 rfl ?_
  refine lv_iadd hx hb dJ6_bitCount_0f7a4_46 ?_
  refine lv_topi (fun x_5 ex_5 => ?_)
  have h := sk_letU h ex_5
  refine lv_istore_n (lv' := [(0, .int x_5)]) hx hb dJ6_bitCount_0f7a4_47 rfl hl (by decide) rfl (fun ls hl => ?_)
  refine lv_iload_n hx hb dJ6_bitCount_0f7a4_48 rfl (lv_at hl 0 rfl) ?_
  refine lv_bipush (v := 63) hx hb dJ6_bitCount_0f7a4_49 (by decide) ?_
  refine lv_iand hx hb dJ6_bitCount_0f7a4_51 ?_
  exact sk_iret C hM hS ⟨h, rfl⟩ dJ6_bitCount_0f7a4_52
theorem dX6_whispers_0 : decode cX6_whispers 0 = .ok (.aload_n 0, 1) := by decide +kernel
theorem dX6_whispers_1 : decode cX6_whispers 1 = .ok (.iload_n 1, 1) := by decide +kernel
theorem dX6_whispers_2 : decode cX6_whispers 2 = .ok (.invokevirtual 160, 3) := by decide +kernel
theorem dX6_whispers_5 : decode cX6_whispers 5 = .ok (.ifCond .eq 21, 3) := by decide +kernel
theorem dX6_whispers_8 : decode cX6_whispers 8 = .ok (.iload_n 2, 1) := by decide +kernel
theorem dX6_whispers_9 : decode cX6_whispers 9 = .ok (.invokestatic 104, 3) := by decide +kernel
theorem dX6_whispers_12 : decode cX6_whispers 12 = .ok (.ifCond .eq 14, 3) := by decide +kernel
theorem dX6_whispers_15 : decode cX6_whispers 15 = .ok (.iload_n 3, 1) := by decide +kernel
theorem dX6_whispers_16 : decode cX6_whispers 16 = .ok (.iconst 0, 1) := by decide +kernel
theorem dX6_whispers_17 : decode cX6_whispers 17 = .ok (.sipush 200, 3) := by decide +kernel
theorem dX6_whispers_20 : decode cX6_whispers 20 = .ok (.invokestatic 75, 3) := by decide +kernel
theorem dX6_whispers_23 : decode cX6_whispers 23 = .ok (.ifCond .ne 6, 3) := by decide +kernel
theorem dX6_whispers_26 : decode cX6_whispers 26 = .ok (.ldc 79, 2) := by decide +kernel
theorem dX6_whispers_28 : decode cX6_whispers 28 = .ok (.ireturn, 1) := by decide +kernel
theorem dX6_whispers_29 : decode cX6_whispers 29 = .ok (.iconst 0, 1) := by decide +kernel
theorem dX6_whispers_30 : decode cX6_whispers 30 = .ok (.istore 4, 2) := by decide +kernel
theorem dX6_whispers_32 : decode cX6_whispers 32 = .ok (.aload_n 0, 1) := by decide +kernel
theorem dX6_whispers_33 : decode cX6_whispers 33 = .ok (.getfield 40, 3) := by decide +kernel
theorem dX6_whispers_36 : decode cX6_whispers 36 = .ok (.iload_n 1, 1) := by decide +kernel
theorem dX6_whispers_37 : decode cX6_whispers 37 = .ok (.invokevirtual 177, 3) := by decide +kernel
theorem dX6_whispers_40 : decode cX6_whispers 40 = .ok (.iconst 0, 1) := by decide +kernel
theorem dX6_whispers_41 : decode cX6_whispers 41 = .ok (.istore 5, 2) := by decide +kernel
theorem dX6_whispers_43 : decode cX6_whispers 43 = .ok (.iload 5, 2) := by decide +kernel
theorem dX6_whispers_45 : decode cX6_whispers 45 = .ok (.iload_n 3, 1) := by decide +kernel
theorem dX6_whispers_46 : decode cX6_whispers 46 = .ok (.if_icmp .gt 42, 3) := by decide +kernel
theorem dX6_whispers_49 : decode cX6_whispers 49 = .ok (.aload_n 0, 1) := by decide +kernel
theorem dX6_whispers_50 : decode cX6_whispers 50 = .ok (.getfield 40, 3) := by decide +kernel
theorem dX6_whispers_53 : decode cX6_whispers 53 = .ok (.iload_n 2, 1) := by decide +kernel
theorem dX6_whispers_54 : decode cX6_whispers 54 = .ok (.invokevirtual 184, 3) := by decide +kernel
theorem dX6_whispers_57 : decode cX6_whispers 57 = .ok (.istore 6, 2) := by decide +kernel
theorem dX6_whispers_59 : decode cX6_whispers 59 = .ok (.iload 6, 2) := by decide +kernel
theorem dX6_whispers_61 : decode cX6_whispers 61 = .ok (.ldc 188, 2) := by decide +kernel
theorem dX6_whispers_63 : decode cX6_whispers 63 = .ok (.if_icmp .eq 12, 3) := by decide +kernel
theorem dX6_whispers_66 : decode cX6_whispers 66 = .ok (.iload 4, 2) := by decide +kernel
theorem dX6_whispers_68 : decode cX6_whispers 68 = .ok (.iconst 1, 1) := by decide +kernel
theorem dX6_whispers_69 : decode cX6_whispers 69 = .ok (.iload 6, 2) := by decide +kernel
theorem dX6_whispers_71 : decode cX6_whispers 71 = .ok (.ishl, 1) := by decide +kernel
theorem dX6_whispers_72 : decode cX6_whispers 72 = .ok (.ior, 1) := by decide +kernel
theorem dX6_whispers_73 : decode cX6_whispers 73 = .ok (.istore 4, 2) := by decide +kernel
theorem dX6_whispers_75 : decode cX6_whispers 75 = .ok (.aload_n 0, 1) := by decide +kernel
theorem dX6_whispers_76 : decode cX6_whispers 76 = .ok (.getfield 40, 3) := by decide +kernel
theorem dX6_whispers_79 : decode cX6_whispers 79 = .ok (.invokevirtual 187, 3) := by decide +kernel
theorem dX6_whispers_82 : decode cX6_whispers 82 = .ok (.iinc 5 1, 3) := by decide +kernel
theorem dX6_whispers_85 : decode cX6_whispers 85 = .ok (.goto (-42), 3) := by decide +kernel
theorem dX6_whispers_88 : decode cX6_whispers 88 = .ok (.iload 4, 2) := by decide +kernel
theorem dX6_whispers_90 : decode cX6_whispers 90 = .ok (.invokestatic 189, 3) := by decide +kernel
theorem dX6_whispers_93 : decode cX6_whispers 93 = .ok (.ireturn, 1) := by decide +kernel
set_option maxHeartbeats 4000000 in
set_option maxRecDepth 100000 in
theorem w_X6_whispers_L43 {g : sk_G} {l : Launch} {p : Program} {e : Env} {s : State} {m : MethodId} {av : Array Value} {below : List Frame} {meth : Method} {c : Code} (C : sk_C g p s m av meth c cX6_whispers 7 RX6 (some .int)) (a2 : Int32) (a3 : Int32) {rr : Int32} {MM : sk_M} :
    ∀ (n : Nat) (a4 : Int32) (a5 : Int32) (M : sk_M) (H : Heap) (locs : List Loc) (ls : Array Slot), lv_has ls 7 [(0, .ref (sk_ad g 0)), (2, .int a2), (3, .int a3), (4, .int a4), (5, .int a5)] → sk_P g M H → va_S (sk_A g) s.heap H locs → ∀ {out : Int32 × sk_M}, f_X6_whispers_L43 a2 a3 n a4 a5 M = some out → (∀ (x4 : Int32) (M1 : sk_M) (H : Heap) (locs : List Loc) (ls : Array Slot), some (x4, M1) = some out → lv_has ls 7 [(4, .int x4)] → sk_P g M1 H → va_S (sk_A g) s.heap H locs → W p l e (sk_rm 6) s m av below meth c H locs 0 0 (MQ below (sk_QI g rr MM) av s 0 0 (sk_A g)) (F0 m 88 ls [])) → W p l e (sk_rm 6) s m av below meth c H locs 0 0 (MQ below (sk_QI g rr MM) av s 0 0 (sk_A g)) (F0 m 43 ls []) := by
  obtain ⟨hx, hb, hml, hown, hts, hK, hE, hr, hlocks⟩ := id C
  intro n
  induction n with
  | zero =>
    intro a4 a5 M H locs ls hl hM hS out h
    cases h
  | succ n ih =>
    intro a4 a5 M H locs ls hl hM hS out h kx
    rw [f_X6_whispers_L43] at h
    refine lv_iload hx hb dX6_whispers_43 (lv_at hl 4 rfl) ?_
    refine lv_iload_n hx hb dX6_whispers_45 rfl (lv_at hl 2 rfl) ?_
    refine lv_icmp_gt hx hb dX6_whispers_46 rfl (fun hc => ?_) (fun hc => ?_)
    · have h := sk_pos h hc
      exact kx _ _ _ _ _ h (lv_sub hl [3] rfl) hM hS
    · have h := sk_neg h hc
      refine lv_aload_n hx hb dX6_whispers_49 rfl (lv_at hl 0 rfl) ?_
      refine sk_getR (o := 0) (ci := 6) (j := 2) (t := 6) C hM rfl rfl (by decide) rfl rfl kw_299 dX6_whispers_50 ?_
      refine lv_iload_n hx hb dX6_whispers_53 rfl (lv_at hl 1 rfl) ?_
      obtain ⟨x_6, h_7, h⟩ := sk_b1E h
      refine sk_contI (sk_runV (As := [.int a2]) (rest := []) C (c_X4_saidTo g l 6 (Or.inl rfl) a2 M h_7) yo_X4_saidTo kw_534 (sk_recv (ci := 4) C hM rfl rfl) (by decide) hM hS hl.1 rfl rfl (Nat.le_of_ble_eq_true rfl) dX6_whispers_54) hS (fun H locs hM hS => ?_)
      refine lv_istore (lv' := [(6, .int x_6), (0, .ref (sk_ad g 0)), (2, .int a2), (3, .int a3), (4, .int a4), (5, .int a5)]) hx hb dX6_whispers_57 hl (by decide) rfl (fun ls hl => ?_)
      refine lv_iload hx hb dX6_whispers_59 (lv_at hl 0 rfl) ?_
      refine lv_ldc (v := (-1000000005)) hx hb hown (hts _ kw_544) dX6_whispers_61 ?_
      refine lv_icmp_eq hx hb dX6_whispers_63 rfl (fun hc => ?_) (fun hc => ?_)
      · have h := sk_pos h hc
        refine lv_aload_n hx hb dX6_whispers_75 rfl (lv_at hl 1 rfl) ?_
        refine sk_getR (o := 0) (ci := 6) (j := 2) (t := 6) C hM rfl rfl (by decide) rfl rfl kw_299 dX6_whispers_76 ?_
        obtain ⟨M_8, h_9, h⟩ := sk_b1E h
        refine sk_contV (sk_runV (As := []) (rest := []) C (c_X4_passDay g l 6 (Or.inl rfl) M h_9) yo_X4_passDay kw_543 (sk_recv (ci := 4) C hM rfl rfl) (by decide) hM hS hl.1 rfl rfl (Nat.le_of_ble_eq_true rfl) dX6_whispers_79) hS (fun H locs hM hS => ?_)
        refine lv_iinc (v := (a5 + 1)) (lv' := [(5, .int (a5 + 1)), (6, .int x_6), (0, .ref (sk_ad g 0)), (2, .int a2), (3, .int a3), (4, .int a4)]) hx hb dX6_whispers_82 hl (k := 5) rfl rfl (by decide) rfl (fun ls hl => ?_)
        refine lv_goto hx hb dX6_whispers_85 rfl ?_
        exact ih a4 (a5 + 1) M_8 _ _ _ (lv_sub hl [2, 3, 4, 5, 0] rfl) hM hS h kx
      · have h := sk_neg h hc
        refine lv_iload hx hb dX6_whispers_66 (lv_at hl 4 rfl) ?_
        refine lv_iconst (v := 1) hx hb dX6_whispers_68 (by decide) ?_
        refine lv_iload hx hb dX6_whispers_69 (lv_at hl 0 rfl) ?_
        refine lv_ishl hx hb dX6_whispers_71 ?_
        refine lv_ior hx hb dX6_whispers_72 ?_
        refine lv_topi (fun x_10 ex_10 => ?_)
        have h := sk_letU h ex_10
        refine lv_istore (lv' := [(4, .int x_10), (6, .int x_6), (0, .ref (sk_ad g 0)), (2, .int a2), (3, .int a3), (5, .int a5)]) hx hb dX6_whispers_73 hl (by decide) rfl (fun ls hl => ?_)
        refine lv_aload_n hx hb dX6_whispers_75 rfl (lv_at hl 2 rfl) ?_
        refine sk_getR (o := 0) (ci := 6) (j := 2) (t := 6) C hM rfl rfl (by decide) rfl rfl kw_299 dX6_whispers_76 ?_
        obtain ⟨M_11, h_12, h⟩ := sk_b1E h
        refine sk_contV (sk_runV (As := []) (rest := []) C (c_X4_passDay g l 6 (Or.inl rfl) M h_12) yo_X4_passDay kw_543 (sk_recv (ci := 4) C hM rfl rfl) (by decide) hM hS hl.1 rfl rfl (Nat.le_of_ble_eq_true rfl) dX6_whispers_79) hS (fun H locs hM hS => ?_)
        refine lv_iinc (v := (a5 + 1)) (lv' := [(5, .int (a5 + 1)), (4, .int x_10), (6, .int x_6), (0, .ref (sk_ad g 0)), (2, .int a2), (3, .int a3)]) hx hb dX6_whispers_82 hl (k := 5) rfl rfl (by decide) rfl (fun ls hl => ?_)
        refine lv_goto hx hb dX6_whispers_85 rfl ?_
        exact ih x_10 (a5 + 1) M_11 _ _ _ (lv_sub hl [3, 4, 5, 1, 0] rfl) hM hS h kx
set_option maxHeartbeats 4000000 in
set_option maxRecDepth 100000 in
theorem c_X6_whispers (g : sk_G) (l : Launch) (a1 : Int32) (a2 : Int32) (a3 : Int32) (M : sk_M) {rr : Int32} {MM : sk_M} (h : f_X6_whispers a1 a2 a3 M = some (rr, MM)) : sk_MI g l yX6_whispers cX6_whispers 7 (some .int) 6 [.ref (sk_ad g 0), .int a1, .int a2, .int a3] M rr MM := by
  refine sk_go [(0, .ref (sk_ad g 0)), (1, .int a1), (2, .int a2), (3, .int a3)] (by decide) (Nat.le_of_ble_eq_true rfl) rfl ?_
  intro p e s m av below meth c C ls hl hM hS
  obtain ⟨hx, hb, hml, hown, hts, hK, hE, hr, hlocks⟩ := id C
  rw [f_X6_whispers] at h
  refine lv_aload_n hx hb dX6_whispers_0 rfl (lv_at hl 0 rfl) ?_
  refine lv_iload_n hx hb dX6_whispers_1 rfl (lv_at hl 1 rfl) ?_
  refine sk_contI (sk_runV (As := [.int a1]) (rest := []) C (c_X6_isCloth g l a1 M rfl) yo_X6_isCloth kw_434 (sk_recv (ci := 6) C hM rfl rfl) (by decide) hM hS hl.1 rfl rfl (Nat.le_of_ble_eq_true rfl) dX6_whispers_2) hS (fun H locs hM hS => ?_)
  refine lv_if_eq hx hb dX6_whispers_5 rfl (fun hc => ?_) (fun hc => ?_)
  · have h := sk_pos h hc
    refine lv_ldc (v := (-1000000001)) hx hb hown (hts _ kw_347) dX6_whispers_26 ?_
    exact sk_iret C hM hS (sk_e2 h) dX6_whispers_28
  · have h := sk_neg h hc
    refine lv_iload_n hx hb dX6_whispers_8 rfl (lv_at hl 2 rfl) ?_
    refine sk_contI (sk_runS (As := [.int a2]) (rest := []) C (c_X6_isNose g l a2 M rfl) yo_X6_isNose kw_390 (by decide) hM hS hl.1 rfl rfl (Nat.le_of_ble_eq_true rfl) dX6_whispers_9) hS (fun H locs hM hS => ?_)
    refine lv_if_eq hx hb dX6_whispers_12 rfl (fun hc => ?_) (fun hc => ?_)
    · have h := sk_pos h hc
      refine lv_ldc (v := (-1000000001)) hx hb hown (hts _ kw_347) dX6_whispers_26 ?_
      exact sk_iret C hM hS (sk_e2 h) dX6_whispers_28
    · have h := sk_neg h hc
      refine lv_iload_n hx hb dX6_whispers_15 rfl (lv_at hl 3 rfl) ?_
      refine lv_iconst (v := 0) hx hb dX6_whispers_16 (by decide) ?_
      refine lv_sipush (v := 200) hx hb dX6_whispers_17 (by decide) ?_
      refine sk_contI (sk_runS (As := [.int a3, .int 0, .int 200]) (rest := []) C (c_X6_within g l a3 0 200 M rfl) yo_X6_within kw_344 (by decide) hM hS hl.1 rfl rfl (Nat.le_of_ble_eq_true rfl) dX6_whispers_20) hS (fun H locs hM hS => ?_)
      refine lv_if_ne hx hb dX6_whispers_23 rfl (fun hc => ?_) (fun hc => ?_)
      · have h := sk_neg h hc
        refine lv_iconst (v := 0) hx hb dX6_whispers_29 (by decide) ?_
        refine lv_istore (lv' := [(4, .int 0), (0, .ref (sk_ad g 0)), (1, .int a1), (2, .int a2), (3, .int a3)]) hx hb dX6_whispers_30 hl (by decide) rfl (fun ls hl => ?_)
        refine lv_aload_n hx hb dX6_whispers_32 rfl (lv_at hl 1 rfl) ?_
        refine sk_getR (o := 0) (ci := 6) (j := 2) (t := 6) C hM rfl rfl (by decide) rfl rfl kw_299 dX6_whispers_33 ?_
        refine lv_iload_n hx hb dX6_whispers_36 rfl (lv_at hl 2 rfl) ?_
        obtain ⟨M_4, h_5, h⟩ := sk_b1E h
        refine sk_contV (sk_runV (As := [.int a1]) (rest := []) C (c_X4_begin g l 6 (Or.inl rfl) a1 M h_5) yo_X4_begin kw_518 (sk_recv (ci := 4) C hM rfl rfl) (by decide) hM hS hl.1 rfl rfl (Nat.le_of_ble_eq_true rfl) dX6_whispers_37) hS (fun H locs hM hS => ?_)
        refine lv_iconst (v := 0) hx hb dX6_whispers_40 (by decide) ?_
        refine lv_istore (lv' := [(5, .int 0), (4, .int 0), (0, .ref (sk_ad g 0)), (1, .int a1), (2, .int a2), (3, .int a3)]) hx hb dX6_whispers_41 hl (by decide) rfl (fun ls hl => ?_)
        obtain ⟨x_13, M_14, h_16, h⟩ := sk_b2E h
        refine w_X6_whispers_L43 C a2 a3 sk_FU 0 0 M_4 _ _ _ (lv_sub hl [2, 4, 5, 1, 0] rfl) hM hS h_16 (fun y_17 y_18 H locs ls he hl hM hS => ?_)
        obtain ⟨rfl, rfl⟩ := sk_e2 he
        refine lv_iload hx hb dX6_whispers_88 (lv_at hl 0 rfl) ?_
        refine sk_contI (sk_runS (As := [.int y_17]) (rest := []) C (c_J6_bitCount_0f7a4 g l y_17 y_18 rfl) yo_J6_bitCount_0f7a4 kw_553 (by decide) hM hS hl.1 rfl rfl (Nat.le_of_ble_eq_true rfl) dX6_whispers_90) hS (fun H locs hM hS => ?_)
        exact sk_iret C hM hS (sk_e2 h) dX6_whispers_93
      · have h := sk_pos h hc
        refine lv_ldc (v := (-1000000001)) hx hb hown (hts _ kw_347) dX6_whispers_26 ?_
        exact sk_iret C hM hS (sk_e2 h) dX6_whispers_28
theorem dX6_dumb_0 : decode cX6_dumb 0 = .ok (.aload_n 0, 1) := by decide +kernel
theorem dX6_dumb_1 : decode cX6_dumb 1 = .ok (.iload_n 1, 1) := by decide +kernel
theorem dX6_dumb_2 : decode cX6_dumb 2 = .ok (.invokevirtual 160, 3) := by decide +kernel
theorem dX6_dumb_5 : decode cX6_dumb 5 = .ok (.ifCond .eq 10, 3) := by decide +kernel
theorem dX6_dumb_8 : decode cX6_dumb 8 = .ok (.iload_n 2, 1) := by decide +kernel
theorem dX6_dumb_9 : decode cX6_dumb 9 = .ok (.invokestatic 104, 3) := by decide +kernel
theorem dX6_dumb_12 : decode cX6_dumb 12 = .ok (.ifCond .ne 6, 3) := by decide +kernel
theorem dX6_dumb_15 : decode cX6_dumb 15 = .ok (.ldc 79, 2) := by decide +kernel
theorem dX6_dumb_17 : decode cX6_dumb 17 = .ok (.ireturn, 1) := by decide +kernel
theorem dX6_dumb_18 : decode cX6_dumb 18 = .ok (.aload_n 0, 1) := by decide +kernel
theorem dX6_dumb_19 : decode cX6_dumb 19 = .ok (.getfield 40, 3) := by decide +kernel
theorem dX6_dumb_22 : decode cX6_dumb 22 = .ok (.iload_n 1, 1) := by decide +kernel
theorem dX6_dumb_23 : decode cX6_dumb 23 = .ok (.invokevirtual 177, 3) := by decide +kernel
theorem dX6_dumb_26 : decode cX6_dumb 26 = .ok (.iconst 0, 1) := by decide +kernel
theorem dX6_dumb_27 : decode cX6_dumb 27 = .ok (.istore_n 3, 1) := by decide +kernel
theorem dX6_dumb_28 : decode cX6_dumb 28 = .ok (.iload_n 3, 1) := by decide +kernel
theorem dX6_dumb_29 : decode cX6_dumb 29 = .ok (.sipush 300, 3) := by decide +kernel
theorem dX6_dumb_32 : decode cX6_dumb 32 = .ok (.if_icmp .gt 29, 3) := by decide +kernel
theorem dX6_dumb_35 : decode cX6_dumb 35 = .ok (.aload_n 0, 1) := by decide +kernel
theorem dX6_dumb_36 : decode cX6_dumb 36 = .ok (.getfield 40, 3) := by decide +kernel
theorem dX6_dumb_39 : decode cX6_dumb 39 = .ok (.iload_n 2, 1) := by decide +kernel
theorem dX6_dumb_40 : decode cX6_dumb 40 = .ok (.invokevirtual 194, 3) := by decide +kernel
theorem dX6_dumb_43 : decode cX6_dumb 43 = .ok (.ifCond .ne 5, 3) := by decide +kernel
theorem dX6_dumb_46 : decode cX6_dumb 46 = .ok (.iload_n 3, 1) := by decide +kernel
theorem dX6_dumb_47 : decode cX6_dumb 47 = .ok (.ireturn, 1) := by decide +kernel
theorem dX6_dumb_48 : decode cX6_dumb 48 = .ok (.aload_n 0, 1) := by decide +kernel
theorem dX6_dumb_49 : decode cX6_dumb 49 = .ok (.getfield 40, 3) := by decide +kernel
theorem dX6_dumb_52 : decode cX6_dumb 52 = .ok (.invokevirtual 187, 3) := by decide +kernel
theorem dX6_dumb_55 : decode cX6_dumb 55 = .ok (.iinc 3 1, 3) := by decide +kernel
theorem dX6_dumb_58 : decode cX6_dumb 58 = .ok (.goto (-30), 3) := by decide +kernel
theorem dX6_dumb_61 : decode cX6_dumb 61 = .ok (.ldc 188, 2) := by decide +kernel
theorem dX6_dumb_63 : decode cX6_dumb 63 = .ok (.ireturn, 1) := by decide +kernel
set_option maxHeartbeats 4000000 in
set_option maxRecDepth 100000 in
theorem w_X6_dumb_L28 {g : sk_G} {l : Launch} {p : Program} {e : Env} {s : State} {m : MethodId} {av : Array Value} {below : List Frame} {meth : Method} {c : Code} (C : sk_C g p s m av meth c cX6_dumb 4 RX6 (some .int)) (a2 : Int32) {rr : Int32} {MM : sk_M} :
    ∀ (n : Nat) (a3 : Int32) (M : sk_M) (H : Heap) (locs : List Loc) (ls : Array Slot), lv_has ls 4 [(0, .ref (sk_ad g 0)), (2, .int a2), (3, .int a3)] → sk_P g M H → va_S (sk_A g) s.heap H locs → ∀ {out : (Int32 × sk_M) ⊕ (sk_M)}, f_X6_dumb_L28 a2 n a3 M = some out → (∀ r, out = Sum.inl r → some r = some (rr, MM)) → (∀ (M1 : sk_M) (H : Heap) (locs : List Loc) (ls : Array Slot), some (Sum.inr M1) = some out → lv_has ls 4 [] → sk_P g M1 H → va_S (sk_A g) s.heap H locs → W p l e (sk_rm 6) s m av below meth c H locs 0 0 (MQ below (sk_QI g rr MM) av s 0 0 (sk_A g)) (F0 m 61 ls [])) → W p l e (sk_rm 6) s m av below meth c H locs 0 0 (MQ below (sk_QI g rr MM) av s 0 0 (sk_A g)) (F0 m 28 ls []) := by
  obtain ⟨hx, hb, hml, hown, hts, hK, hE, hr, hlocks⟩ := id C
  intro n
  induction n with
  | zero =>
    intro a3 M H locs ls hl hM hS out h
    cases h
  | succ n ih =>
    intro a3 M H locs ls hl hM hS out h kr kx
    rw [f_X6_dumb_L28] at h
    refine lv_iload_n hx hb dX6_dumb_28 rfl (lv_at hl 2 rfl) ?_
    refine lv_sipush (v := 300) hx hb dX6_dumb_29 (by decide) ?_
    refine lv_icmp_gt hx hb dX6_dumb_32 rfl (fun hc => ?_) (fun hc => ?_)
    · have h := sk_pos h hc
      exact kx _ _ _ _ h (lv_sub hl [] rfl) hM hS
    · have h := sk_neg h hc
      refine lv_aload_n hx hb dX6_dumb_35 rfl (lv_at hl 0 rfl) ?_
      refine sk_getR (o := 0) (ci := 6) (j := 2) (t := 6) C hM rfl rfl (by decide) rfl rfl kw_299 dX6_dumb_36 ?_
      refine lv_iload_n hx hb dX6_dumb_39 rfl (lv_at hl 1 rfl) ?_
      obtain ⟨x_5, h_6, h⟩ := sk_b1E h
      refine sk_contI (sk_runV (As := [.int a2]) (rest := []) C (c_X4_smelledBy g l 6 (Or.inl rfl) a2 M h_6) yo_X4_smelledBy kw_563 (sk_recv (ci := 4) C hM rfl rfl) (by decide) hM hS hl.1 rfl rfl (Nat.le_of_ble_eq_true rfl) dX6_dumb_40) hS (fun H locs hM hS => ?_)
      refine lv_if_ne hx hb dX6_dumb_43 rfl (fun hc => ?_) (fun hc => ?_)
      · have h := sk_neg h hc
        refine lv_aload_n hx hb dX6_dumb_48 rfl (lv_at hl 0 rfl) ?_
        refine sk_getR (o := 0) (ci := 6) (j := 2) (t := 6) C hM rfl rfl (by decide) rfl rfl kw_299 dX6_dumb_49 ?_
        obtain ⟨M_7, h_8, h⟩ := sk_b1E h
        refine sk_contV (sk_runV (As := []) (rest := []) C (c_X4_passDay g l 6 (Or.inl rfl) M h_8) yo_X4_passDay kw_543 (sk_recv (ci := 4) C hM rfl rfl) (by decide) hM hS hl.1 rfl rfl (Nat.le_of_ble_eq_true rfl) dX6_dumb_52) hS (fun H locs hM hS => ?_)
        refine lv_iinc (v := (a3 + 1)) (lv' := [(3, .int (a3 + 1)), (0, .ref (sk_ad g 0)), (2, .int a2)]) hx hb dX6_dumb_55 hl (k := 2) rfl rfl (by decide) rfl (fun ls hl => ?_)
        refine lv_goto hx hb dX6_dumb_58 rfl ?_
        exact ih (a3 + 1) M_7 _ _ _ (lv_sub hl [1, 2, 0] rfl) hM hS h kr kx
      · have h := sk_pos h hc
        refine lv_iload_n hx hb dX6_dumb_46 rfl (lv_at hl 2 rfl) ?_
        have h := kr _ (Option.some.inj h).symm
        exact sk_iret C hM hS (sk_e2 h) dX6_dumb_47
set_option maxHeartbeats 4000000 in
set_option maxRecDepth 100000 in
theorem c_X6_dumb (g : sk_G) (l : Launch) (a1 : Int32) (a2 : Int32) (M : sk_M) {rr : Int32} {MM : sk_M} (h : f_X6_dumb a1 a2 M = some (rr, MM)) : sk_MI g l yX6_dumb cX6_dumb 4 (some .int) 6 [.ref (sk_ad g 0), .int a1, .int a2] M rr MM := by
  refine sk_go [(0, .ref (sk_ad g 0)), (1, .int a1), (2, .int a2)] (by decide) (Nat.le_of_ble_eq_true rfl) rfl ?_
  intro p e s m av below meth c C ls hl hM hS
  obtain ⟨hx, hb, hml, hown, hts, hK, hE, hr, hlocks⟩ := id C
  rw [f_X6_dumb] at h
  refine lv_aload_n hx hb dX6_dumb_0 rfl (lv_at hl 0 rfl) ?_
  refine lv_iload_n hx hb dX6_dumb_1 rfl (lv_at hl 1 rfl) ?_
  refine sk_contI (sk_runV (As := [.int a1]) (rest := []) C (c_X6_isCloth g l a1 M rfl) yo_X6_isCloth kw_434 (sk_recv (ci := 6) C hM rfl rfl) (by decide) hM hS hl.1 rfl rfl (Nat.le_of_ble_eq_true rfl) dX6_dumb_2) hS (fun H locs hM hS => ?_)
  refine lv_if_eq hx hb dX6_dumb_5 rfl (fun hc => ?_) (fun hc => ?_)
  · have h := sk_pos h hc
    refine lv_ldc (v := (-1000000001)) hx hb hown (hts _ kw_347) dX6_dumb_15 ?_
    exact sk_iret C hM hS (sk_e2 h) dX6_dumb_17
  · have h := sk_neg h hc
    refine lv_iload_n hx hb dX6_dumb_8 rfl (lv_at hl 2 rfl) ?_
    refine sk_contI (sk_runS (As := [.int a2]) (rest := []) C (c_X6_isNose g l a2 M rfl) yo_X6_isNose kw_390 (by decide) hM hS hl.1 rfl rfl (Nat.le_of_ble_eq_true rfl) dX6_dumb_9) hS (fun H locs hM hS => ?_)
    refine lv_if_ne hx hb dX6_dumb_12 rfl (fun hc => ?_) (fun hc => ?_)
    · have h := sk_neg h hc
      refine lv_aload_n hx hb dX6_dumb_18 rfl (lv_at hl 0 rfl) ?_
      refine sk_getR (o := 0) (ci := 6) (j := 2) (t := 6) C hM rfl rfl (by decide) rfl rfl kw_299 dX6_dumb_19 ?_
      refine lv_iload_n hx hb dX6_dumb_22 rfl (lv_at hl 1 rfl) ?_
      obtain ⟨M_3, h_4, h⟩ := sk_b1E h
      refine sk_contV (sk_runV (As := [.int a1]) (rest := []) C (c_X4_begin g l 6 (Or.inl rfl) a1 M h_4) yo_X4_begin kw_518 (sk_recv (ci := 4) C hM rfl rfl) (by decide) hM hS hl.1 rfl rfl (Nat.le_of_ble_eq_true rfl) dX6_dumb_23) hS (fun H locs hM hS => ?_)
      refine lv_iconst (v := 0) hx hb dX6_dumb_26 (by decide) ?_
      refine lv_istore_n (lv' := [(3, .int 0), (0, .ref (sk_ad g 0)), (1, .int a1), (2, .int a2)]) hx hb dX6_dumb_27 rfl hl (by decide) rfl (fun ls hl => ?_)
      obtain ⟨out_11, h_10, kf_12, kg_13⟩ := sk_s1E h
      refine w_X6_dumb_L28 C a2 sk_FU 0 M_3 _ _ _ (lv_sub hl [1, 3, 0] rfl) hM hS h_10 kf_12 (fun M_9 H locs ls he hl hM hS => ?_)
      have h := kg_13 M_9 (Option.some.inj he).symm
      refine lv_ldc (v := (-1000000005)) hx hb hown (hts _ kw_544) dX6_dumb_61 ?_
      exact sk_iret C hM hS (sk_e2 h) dX6_dumb_63
    · have h := sk_pos h hc
      refine lv_ldc (v := (-1000000001)) hx hb hown (hts _ kw_347) dX6_dumb_15 ?_
      exact sk_iret C hM hS (sk_e2 h) dX6_dumb_17
theorem dX6_secret_0 : decode cX6_secret 0 = .ok (.aload_n 0, 1) := by decide +kernel
theorem dX6_secret_1 : decode cX6_secret 1 = .ok (.iload_n 1, 1) := by decide +kernel
theorem dX6_secret_2 : decode cX6_secret 2 = .ok (.invokevirtual 160, 3) := by decide +kernel
theorem dX6_secret_5 : decode cX6_secret 5 = .ok (.ifCond .eq 14, 3) := by decide +kernel
theorem dX6_secret_8 : decode cX6_secret 8 = .ok (.iload_n 2, 1) := by decide +kernel
theorem dX6_secret_9 : decode cX6_secret 9 = .ok (.iconst 0, 1) := by decide +kernel
theorem dX6_secret_10 : decode cX6_secret 10 = .ok (.sipush 300, 3) := by decide +kernel
theorem dX6_secret_13 : decode cX6_secret 13 = .ok (.invokestatic 75, 3) := by decide +kernel
theorem dX6_secret_16 : decode cX6_secret 16 = .ok (.ifCond .ne 6, 3) := by decide +kernel
theorem dX6_secret_19 : decode cX6_secret 19 = .ok (.ldc 79, 2) := by decide +kernel
theorem dX6_secret_21 : decode cX6_secret 21 = .ok (.ireturn, 1) := by decide +kernel
theorem dX6_secret_22 : decode cX6_secret 22 = .ok (.aload_n 0, 1) := by decide +kernel
theorem dX6_secret_23 : decode cX6_secret 23 = .ok (.getfield 40, 3) := by decide +kernel
theorem dX6_secret_26 : decode cX6_secret 26 = .ok (.iload_n 1, 1) := by decide +kernel
theorem dX6_secret_27 : decode cX6_secret 27 = .ok (.invokevirtual 177, 3) := by decide +kernel
theorem dX6_secret_30 : decode cX6_secret 30 = .ok (.aload_n 0, 1) := by decide +kernel
theorem dX6_secret_31 : decode cX6_secret 31 = .ok (.getfield 40, 3) := by decide +kernel
theorem dX6_secret_34 : decode cX6_secret 34 = .ok (.iload_n 2, 1) := by decide +kernel
theorem dX6_secret_35 : decode cX6_secret 35 = .ok (.invokevirtual 181, 3) := by decide +kernel
theorem dX6_secret_38 : decode cX6_secret 38 = .ok (.iconst 0, 1) := by decide +kernel
theorem dX6_secret_39 : decode cX6_secret 39 = .ok (.istore_n 3, 1) := by decide +kernel
theorem dX6_secret_40 : decode cX6_secret 40 = .ok (.iconst 0, 1) := by decide +kernel
theorem dX6_secret_41 : decode cX6_secret 41 = .ok (.istore 4, 2) := by decide +kernel
theorem dX6_secret_43 : decode cX6_secret 43 = .ok (.iload 4, 2) := by decide +kernel
theorem dX6_secret_45 : decode cX6_secret 45 = .ok (.iconst 4, 1) := by decide +kernel
theorem dX6_secret_46 : decode cX6_secret 46 = .ok (.if_icmp .ge 30, 3) := by decide +kernel
theorem dX6_secret_49 : decode cX6_secret 49 = .ok (.aload_n 0, 1) := by decide +kernel
theorem dX6_secret_50 : decode cX6_secret 50 = .ok (.getfield 40, 3) := by decide +kernel
theorem dX6_secret_53 : decode cX6_secret 53 = .ok (.iload 4, 2) := by decide +kernel
theorem dX6_secret_55 : decode cX6_secret 55 = .ok (.invokevirtual 184, 3) := by decide +kernel
theorem dX6_secret_58 : decode cX6_secret 58 = .ok (.ldc 188, 2) := by decide +kernel
theorem dX6_secret_60 : decode cX6_secret 60 = .ok (.if_icmp .ne 10, 3) := by decide +kernel
theorem dX6_secret_63 : decode cX6_secret 63 = .ok (.iload_n 3, 1) := by decide +kernel
theorem dX6_secret_64 : decode cX6_secret 64 = .ok (.iconst 1, 1) := by decide +kernel
theorem dX6_secret_65 : decode cX6_secret 65 = .ok (.iload 4, 2) := by decide +kernel
theorem dX6_secret_67 : decode cX6_secret 67 = .ok (.ishl, 1) := by decide +kernel
theorem dX6_secret_68 : decode cX6_secret 68 = .ok (.ior, 1) := by decide +kernel
theorem dX6_secret_69 : decode cX6_secret 69 = .ok (.istore_n 3, 1) := by decide +kernel
theorem dX6_secret_70 : decode cX6_secret 70 = .ok (.iinc 4 1, 3) := by decide +kernel
theorem dX6_secret_73 : decode cX6_secret 73 = .ok (.goto (-30), 3) := by decide +kernel
theorem dX6_secret_76 : decode cX6_secret 76 = .ok (.iload_n 3, 1) := by decide +kernel
theorem dX6_secret_77 : decode cX6_secret 77 = .ok (.ireturn, 1) := by decide +kernel
set_option maxHeartbeats 4000000 in
set_option maxRecDepth 100000 in
theorem w_X6_secret_L43 {g : sk_G} {l : Launch} {p : Program} {e : Env} {s : State} {m : MethodId} {av : Array Value} {below : List Frame} {meth : Method} {c : Code} (C : sk_C g p s m av meth c cX6_secret 5 RX6 (some .int)) (M : sk_M) {rr : Int32} {MM : sk_M} :
    ∀ (n : Nat) (a3 : Int32) (a4 : Int32) (H : Heap) (locs : List Loc) (ls : Array Slot), lv_has ls 5 [(0, .ref (sk_ad g 0)), (3, .int a3), (4, .int a4)] → sk_P g M H → va_S (sk_A g) s.heap H locs → ∀ {out : Int32}, f_X6_secret_L43 M n a3 a4 = some out → (∀ (x3 : Int32) (H : Heap) (locs : List Loc) (ls : Array Slot), some x3 = some out → lv_has ls 5 [(3, .int x3)] → sk_P g M H → va_S (sk_A g) s.heap H locs → W p l e (sk_rm 7) s m av below meth c H locs 0 0 (MQ below (sk_QI g rr MM) av s 0 0 (sk_A g)) (F0 m 76 ls [])) → W p l e (sk_rm 7) s m av below meth c H locs 0 0 (MQ below (sk_QI g rr MM) av s 0 0 (sk_A g)) (F0 m 43 ls []) := by
  obtain ⟨hx, hb, hml, hown, hts, hK, hE, hr, hlocks⟩ := id C
  intro n
  induction n with
  | zero =>
    intro a3 a4 H locs ls hl hM hS out h
    cases h
  | succ n ih =>
    intro a3 a4 H locs ls hl hM hS out h kx
    rw [f_X6_secret_L43] at h
    refine lv_iload hx hb dX6_secret_43 (lv_at hl 2 rfl) ?_
    refine lv_iconst (v := 4) hx hb dX6_secret_45 (by decide) ?_
    refine lv_icmp_ge hx hb dX6_secret_46 rfl (fun hc => ?_) (fun hc => ?_)
    · have h := sk_pos h hc
      exact kx _ _ _ _ h (lv_sub hl [1] rfl) hM hS
    · have h := sk_neg h hc
      refine lv_aload_n hx hb dX6_secret_49 rfl (lv_at hl 0 rfl) ?_
      refine sk_getR (o := 0) (ci := 6) (j := 2) (t := 6) C hM rfl rfl (by decide) rfl rfl kw_299 dX6_secret_50 ?_
      refine lv_iload hx hb dX6_secret_53 (lv_at hl 2 rfl) ?_
      obtain ⟨x_7, h_8, h⟩ := sk_b1E h
      refine sk_contI (sk_runV (As := [.int a4]) (rest := []) C (c_X4_saidTo g l 6 (Or.inl rfl) a4 M h_8) yo_X4_saidTo kw_534 (sk_recv (ci := 4) C hM rfl rfl) (by decide) hM hS hl.1 rfl rfl (Nat.le_of_ble_eq_true rfl) dX6_secret_55) hS (fun H locs hM hS => ?_)
      refine lv_ldc (v := (-1000000005)) hx hb hown (hts _ kw_544) dX6_secret_58 ?_
      refine lv_icmp_ne hx hb dX6_secret_60 rfl (fun hc => ?_) (fun hc => ?_)
      · have h := sk_neg h hc
        refine lv_iinc (v := (a4 + 1)) (lv' := [(4, .int (a4 + 1)), (0, .ref (sk_ad g 0)), (3, .int a3)]) hx hb dX6_secret_70 hl (k := 2) rfl rfl (by decide) rfl (fun ls hl => ?_)
        refine lv_goto hx hb dX6_secret_73 rfl ?_
        exact ih a3 (a4 + 1) _ _ _ (lv_sub hl [1, 2, 0] rfl) hM hS h kx
      · have h := sk_pos h hc
        refine lv_iload_n hx hb dX6_secret_63 rfl (lv_at hl 1 rfl) ?_
        refine lv_iconst (v := 1) hx hb dX6_secret_64 (by decide) ?_
        refine lv_iload hx hb dX6_secret_65 (lv_at hl 2 rfl) ?_
        refine lv_ishl hx hb dX6_secret_67 ?_
        refine lv_ior hx hb dX6_secret_68 ?_
        refine lv_topi (fun x_9 ex_9 => ?_)
        have h := sk_letU h ex_9
        refine lv_istore_n (lv' := [(3, .int x_9), (0, .ref (sk_ad g 0)), (4, .int a4)]) hx hb dX6_secret_69 rfl hl (by decide) rfl (fun ls hl => ?_)
        refine lv_iinc (v := (a4 + 1)) (lv' := [(4, .int (a4 + 1)), (3, .int x_9), (0, .ref (sk_ad g 0))]) hx hb dX6_secret_70 hl (k := 2) rfl rfl (by decide) rfl (fun ls hl => ?_)
        refine lv_goto hx hb dX6_secret_73 rfl ?_
        exact ih x_9 (a4 + 1) _ _ _ (lv_sub hl [2, 1, 0] rfl) hM hS h kx
set_option maxHeartbeats 4000000 in
set_option maxRecDepth 100000 in
theorem c_X6_secret (g : sk_G) (l : Launch) (a1 : Int32) (a2 : Int32) (M : sk_M) {rr : Int32} {MM : sk_M} (h : f_X6_secret a1 a2 M = some (rr, MM)) : sk_MI g l yX6_secret cX6_secret 5 (some .int) 7 [.ref (sk_ad g 0), .int a1, .int a2] M rr MM := by
  refine sk_go [(0, .ref (sk_ad g 0)), (1, .int a1), (2, .int a2)] (by decide) (Nat.le_of_ble_eq_true rfl) rfl ?_
  intro p e s m av below meth c C ls hl hM hS
  obtain ⟨hx, hb, hml, hown, hts, hK, hE, hr, hlocks⟩ := id C
  rw [f_X6_secret] at h
  refine lv_aload_n hx hb dX6_secret_0 rfl (lv_at hl 0 rfl) ?_
  refine lv_iload_n hx hb dX6_secret_1 rfl (lv_at hl 1 rfl) ?_
  refine sk_contI (sk_runV (As := [.int a1]) (rest := []) C (c_X6_isCloth g l a1 M rfl) yo_X6_isCloth kw_434 (sk_recv (ci := 6) C hM rfl rfl) (by decide) hM hS hl.1 rfl rfl (Nat.le_of_ble_eq_true rfl) dX6_secret_2) hS (fun H locs hM hS => ?_)
  refine lv_if_eq hx hb dX6_secret_5 rfl (fun hc => ?_) (fun hc => ?_)
  · have h := sk_pos h hc
    refine lv_ldc (v := (-1000000001)) hx hb hown (hts _ kw_347) dX6_secret_19 ?_
    exact sk_iret C hM hS (sk_e2 h) dX6_secret_21
  · have h := sk_neg h hc
    refine lv_iload_n hx hb dX6_secret_8 rfl (lv_at hl 2 rfl) ?_
    refine lv_iconst (v := 0) hx hb dX6_secret_9 (by decide) ?_
    refine lv_sipush (v := 300) hx hb dX6_secret_10 (by decide) ?_
    refine sk_contI (sk_runS (As := [.int a2, .int 0, .int 300]) (rest := []) C (c_X6_within g l a2 0 300 M rfl) yo_X6_within kw_344 (by decide) hM hS hl.1 rfl rfl (Nat.le_of_ble_eq_true rfl) dX6_secret_13) hS (fun H locs hM hS => ?_)
    refine lv_if_ne hx hb dX6_secret_16 rfl (fun hc => ?_) (fun hc => ?_)
    · have h := sk_neg h hc
      refine lv_aload_n hx hb dX6_secret_22 rfl (lv_at hl 0 rfl) ?_
      refine sk_getR (o := 0) (ci := 6) (j := 2) (t := 6) C hM rfl rfl (by decide) rfl rfl kw_299 dX6_secret_23 ?_
      refine lv_iload_n hx hb dX6_secret_26 rfl (lv_at hl 1 rfl) ?_
      obtain ⟨M_3, h_4, h⟩ := sk_b1E h
      refine sk_contV (sk_runV (As := [.int a1]) (rest := []) C (c_X4_begin g l 6 (Or.inl rfl) a1 M h_4) yo_X4_begin kw_518 (sk_recv (ci := 4) C hM rfl rfl) (by decide) hM hS hl.1 rfl rfl (Nat.le_of_ble_eq_true rfl) dX6_secret_27) hS (fun H locs hM hS => ?_)
      refine lv_aload_n hx hb dX6_secret_30 rfl (lv_at hl 0 rfl) ?_
      refine sk_getR (o := 0) (ci := 6) (j := 2) (t := 6) C hM rfl rfl (by decide) rfl rfl kw_299 dX6_secret_31 ?_
      refine lv_iload_n hx hb dX6_secret_34 rfl (lv_at hl 2 rfl) ?_
      obtain ⟨M_5, h_6, h⟩ := sk_b1E h
      refine sk_contV (sk_runV (As := [.int a2]) (rest := []) C (c_X4_passDays g l 6 (Or.inl rfl) a2 M_3 h_6) yo_X4_passDays kw_525 (sk_recv (ci := 4) C hM rfl rfl) (by decide) hM hS hl.1 rfl rfl (Nat.le_of_ble_eq_true rfl) dX6_secret_35) hS (fun H locs hM hS => ?_)
      refine lv_iconst (v := 0) hx hb dX6_secret_38 (by decide) ?_
      refine lv_istore_n (lv' := [(3, .int 0), (0, .ref (sk_ad g 0)), (1, .int a1), (2, .int a2)]) hx hb dX6_secret_39 rfl hl (by decide) rfl (fun ls hl => ?_)
      refine lv_iconst (v := 0) hx hb dX6_secret_40 (by decide) ?_
      refine lv_istore (lv' := [(4, .int 0), (3, .int 0), (0, .ref (sk_ad g 0)), (1, .int a1), (2, .int a2)]) hx hb dX6_secret_41 hl (by decide) rfl (fun ls hl => ?_)
      obtain ⟨x_10, h_11, h⟩ := sk_b1E h
      refine w_X6_secret_L43 C M_5 sk_FU 0 0 _ _ _ (lv_sub hl [2, 1, 0] rfl) hM hS h_11 (fun y_12 H locs ls he hl hM hS => ?_)
      obtain rfl := Option.some.inj he
      refine lv_iload_n hx hb dX6_secret_76 rfl (lv_at hl 0 rfl) ?_
      exact sk_iret C hM hS (sk_e2 h) dX6_secret_77
    · have h := sk_pos h hc
      refine lv_ldc (v := (-1000000001)) hx hb hown (hts _ kw_347) dX6_secret_19 ?_
      exact sk_iret C hM hS (sk_e2 h) dX6_secret_21
theorem dX6_least_0 : decode cX6_least 0 = .ok (.aload_n 0, 1) := by decide +kernel
theorem dX6_least_1 : decode cX6_least 1 = .ok (.iload_n 1, 1) := by decide +kernel
theorem dX6_least_2 : decode cX6_least 2 = .ok (.iload_n 2, 1) := by decide +kernel
theorem dX6_least_3 : decode cX6_least 3 = .ok (.invokevirtual 139, 3) := by decide +kernel
theorem dX6_least_6 : decode cX6_least 6 = .ok (.ifCond .eq 21, 3) := by decide +kernel
theorem dX6_least_9 : decode cX6_least 9 = .ok (.iload_n 3, 1) := by decide +kernel
theorem dX6_least_10 : decode cX6_least 10 = .ok (.invokestatic 104, 3) := by decide +kernel
theorem dX6_least_13 : decode cX6_least 13 = .ok (.ifCond .eq 14, 3) := by decide +kernel
theorem dX6_least_16 : decode cX6_least 16 = .ok (.iload 4, 2) := by decide +kernel
theorem dX6_least_18 : decode cX6_least 18 = .ok (.iconst 0, 1) := by decide +kernel
theorem dX6_least_19 : decode cX6_least 19 = .ok (.bipush 100, 2) := by decide +kernel
theorem dX6_least_21 : decode cX6_least 21 = .ok (.invokestatic 75, 3) := by decide +kernel
theorem dX6_least_24 : decode cX6_least 24 = .ok (.ifCond .ne 6, 3) := by decide +kernel
theorem dX6_least_27 : decode cX6_least 27 = .ok (.ldc 79, 2) := by decide +kernel
theorem dX6_least_29 : decode cX6_least 29 = .ok (.ireturn, 1) := by decide +kernel
theorem dX6_least_30 : decode cX6_least 30 = .ok (.aload_n 0, 1) := by decide +kernel
theorem dX6_least_31 : decode cX6_least 31 = .ok (.getfield 28, 3) := by decide +kernel
theorem dX6_least_34 : decode cX6_least 34 = .ok (.iload_n 2, 1) := by decide +kernel
theorem dX6_least_35 : decode cX6_least 35 = .ok (.aload_n 0, 1) := by decide +kernel
theorem dX6_least_36 : decode cX6_least 36 = .ok (.getfield 28, 3) := by decide +kernel
theorem dX6_least_39 : decode cX6_least 39 = .ok (.getfield 146, 3) := by decide +kernel
theorem dX6_least_42 : decode cX6_least 42 = .ok (.iload_n 1, 1) := by decide +kernel
theorem dX6_least_43 : decode cX6_least 43 = .ok (.iaload, 1) := by decide +kernel
theorem dX6_least_44 : decode cX6_least 44 = .ok (.aload_n 0, 1) := by decide +kernel
theorem dX6_least_45 : decode cX6_least 45 = .ok (.getfield 28, 3) := by decide +kernel
theorem dX6_least_48 : decode cX6_least 48 = .ok (.getfield 107, 3) := by decide +kernel
theorem dX6_least_51 : decode cX6_least 51 = .ok (.iload_n 3, 1) := by decide +kernel
theorem dX6_least_52 : decode cX6_least 52 = .ok (.iaload, 1) := by decide +kernel
theorem dX6_least_53 : decode cX6_least 53 = .ok (.iload 4, 2) := by decide +kernel
theorem dX6_least_55 : decode cX6_least 55 = .ok (.invokevirtual 197, 3) := by decide +kernel
theorem dX6_least_58 : decode cX6_least 58 = .ok (.ireturn, 1) := by decide +kernel
set_option maxHeartbeats 4000000 in
set_option maxRecDepth 100000 in
theorem c_X6_least (g : sk_G) (l : Launch) (a1 : Int32) (a2 : Int32) (a3 : Int32) (a4 : Int32) (M : sk_M) {rr : Int32} {MM : sk_M} (h : f_X6_least a1 a2 a3 a4 M = some (rr, MM)) : sk_MI g l yX6_least cX6_least 5 (some .int) 5 [.ref (sk_ad g 0), .int a1, .int a2, .int a3, .int a4] M rr MM := by
  refine sk_go [(0, .ref (sk_ad g 0)), (1, .int a1), (2, .int a2), (3, .int a3), (4, .int a4)] (by decide) (Nat.le_of_ble_eq_true rfl) rfl ?_
  intro p e s m av below meth c C ls hl hM hS
  obtain ⟨hx, hb, hml, hown, hts, hK, hE, hr, hlocks⟩ := id C
  rw [f_X6_least] at h
  refine lv_aload_n hx hb dX6_least_0 rfl (lv_at hl 0 rfl) ?_
  refine lv_iload_n hx hb dX6_least_1 rfl (lv_at hl 1 rfl) ?_
  refine lv_iload_n hx hb dX6_least_2 rfl (lv_at hl 2 rfl) ?_
  refine sk_contI (sk_runV (As := [.int a1, .int a2]) (rest := []) C (c_X6_isSpot g l a1 a2 M rfl) yo_X6_isSpot kw_430 (sk_recv (ci := 6) C hM rfl rfl) (by decide) hM hS hl.1 rfl rfl (Nat.le_of_ble_eq_true rfl) dX6_least_3) hS (fun H locs hM hS => ?_)
  refine lv_if_eq hx hb dX6_least_6 rfl (fun hc => ?_) (fun hc => ?_)
  · have h := sk_pos h hc
    refine lv_ldc (v := (-1000000001)) hx hb hown (hts _ kw_347) dX6_least_27 ?_
    exact sk_iret C hM hS (sk_e2 h) dX6_least_29
  · have h := sk_neg h hc
    refine lv_iload_n hx hb dX6_least_9 rfl (lv_at hl 3 rfl) ?_
    refine sk_contI (sk_runS (As := [.int a3]) (rest := []) C (c_X6_isNose g l a3 M rfl) yo_X6_isNose kw_390 (by decide) hM hS hl.1 rfl rfl (Nat.le_of_ble_eq_true rfl) dX6_least_10) hS (fun H locs hM hS => ?_)
    refine lv_if_eq hx hb dX6_least_13 rfl (fun hc => ?_) (fun hc => ?_)
    · have h := sk_pos h hc
      refine lv_ldc (v := (-1000000001)) hx hb hown (hts _ kw_347) dX6_least_27 ?_
      exact sk_iret C hM hS (sk_e2 h) dX6_least_29
    · have h := sk_neg h hc
      refine lv_iload hx hb dX6_least_16 (lv_at hl 4 rfl) ?_
      refine lv_iconst (v := 0) hx hb dX6_least_18 (by decide) ?_
      refine lv_bipush (v := 100) hx hb dX6_least_19 (by decide) ?_
      refine sk_contI (sk_runS (As := [.int a4, .int 0, .int 100]) (rest := []) C (c_X6_within g l a4 0 100 M rfl) yo_X6_within kw_344 (by decide) hM hS hl.1 rfl rfl (Nat.le_of_ble_eq_true rfl) dX6_least_21) hS (fun H locs hM hS => ?_)
      refine lv_if_ne hx hb dX6_least_24 rfl (fun hc => ?_) (fun hc => ?_)
      · have h := sk_neg h hc
        refine lv_aload_n hx hb dX6_least_30 rfl (lv_at hl 0 rfl) ?_
        refine sk_getR (o := 0) (ci := 6) (j := 0) (t := 10) C hM rfl rfl (by decide) rfl rfl kw_297 dX6_least_31 ?_
        refine lv_iload_n hx hb dX6_least_34 rfl (lv_at hl 2 rfl) ?_
        refine lv_aload_n hx hb dX6_least_35 rfl (lv_at hl 0 rfl) ?_
        refine sk_getR (o := 0) (ci := 6) (j := 0) (t := 10) C hM rfl rfl (by decide) rfl rfl kw_297 dX6_least_36 ?_
        refine sk_getR (o := 10) (ci := 5) (j := 6) (t := 16) C hM rfl rfl (by decide) rfl rfl kw_178 dX6_least_39 ?_
        refine lv_iload_n hx hb dX6_least_42 rfl (lv_at hl 1 rfl) ?_
        obtain ⟨i_4, h⟩ := sk_chkE h
        refine sk_iald (o := 16) C hM rfl i_4 dX6_least_43 ?_
        refine lv_aload_n hx hb dX6_least_44 rfl (lv_at hl 0 rfl) ?_
        refine sk_getR (o := 0) (ci := 6) (j := 0) (t := 10) C hM rfl rfl (by decide) rfl rfl kw_297 dX6_least_45 ?_
        refine sk_getR (o := 10) (ci := 5) (j := 4) (t := 14) C hM rfl rfl (by decide) rfl rfl kw_173 dX6_least_48 ?_
        refine lv_iload_n hx hb dX6_least_51 rfl (lv_at hl 3 rfl) ?_
        obtain ⟨i_5, h⟩ := sk_chkE h
        refine sk_iald (o := 14) C hM rfl i_5 dX6_least_52 ?_
        refine lv_iload hx hb dX6_least_53 (lv_at hl 4 rfl) ?_
        obtain ⟨x_6, M_7, h_8, h⟩ := sk_b2E h
        refine sk_contI (sk_runV (As := [.int a2, .int (M 16 a1.toNatClampNeg), .int (M 14 a3.toNatClampNeg), .int a4]) (rest := []) C (c_X5_leastLeft g l 10 (Or.inl rfl) a2 (M 16 a1.toNatClampNeg) (M 14 a3.toNatClampNeg) a4 M h_8) yo_X5_leastLeft kw_576 (sk_recv (ci := 5) C hM rfl rfl) (by decide) hM hS hl.1 rfl rfl (Nat.le_of_ble_eq_true rfl) dX6_least_55) hS (fun H locs hM hS => ?_)
        exact sk_iret C hM hS (sk_e2 h) dX6_least_58
      · have h := sk_pos h hc
        refine lv_ldc (v := (-1000000001)) hx hb hown (hts _ kw_347) dX6_least_27 ?_
        exact sk_iret C hM hS (sk_e2 h) dX6_least_29
theorem dX6_letter_0 : decode cX6_letter 0 = .ok (.aload_n 0, 1) := by decide +kernel
theorem dX6_letter_1 : decode cX6_letter 1 = .ok (.iload_n 1, 1) := by decide +kernel
theorem dX6_letter_2 : decode cX6_letter 2 = .ok (.invokevirtual 160, 3) := by decide +kernel
theorem dX6_letter_5 : decode cX6_letter 5 = .ok (.ifCond .eq 29, 3) := by decide +kernel
theorem dX6_letter_8 : decode cX6_letter 8 = .ok (.aload_n 0, 1) := by decide +kernel
theorem dX6_letter_9 : decode cX6_letter 9 = .ok (.iload_n 2, 1) := by decide +kernel
theorem dX6_letter_10 : decode cX6_letter 10 = .ok (.invokevirtual 121, 3) := by decide +kernel
theorem dX6_letter_13 : decode cX6_letter 13 = .ok (.ifCond .eq 21, 3) := by decide +kernel
theorem dX6_letter_16 : decode cX6_letter 16 = .ok (.iload_n 3, 1) := by decide +kernel
theorem dX6_letter_17 : decode cX6_letter 17 = .ok (.invokestatic 104, 3) := by decide +kernel
theorem dX6_letter_20 : decode cX6_letter 20 = .ok (.ifCond .eq 14, 3) := by decide +kernel
theorem dX6_letter_23 : decode cX6_letter 23 = .ok (.iload 4, 2) := by decide +kernel
theorem dX6_letter_25 : decode cX6_letter 25 = .ok (.iconst 0, 1) := by decide +kernel
theorem dX6_letter_26 : decode cX6_letter 26 = .ok (.bipush 100, 2) := by decide +kernel
theorem dX6_letter_28 : decode cX6_letter 28 = .ok (.invokestatic 75, 3) := by decide +kernel
theorem dX6_letter_31 : decode cX6_letter 31 = .ok (.ifCond .ne 6, 3) := by decide +kernel
theorem dX6_letter_34 : decode cX6_letter 34 = .ok (.ldc 79, 2) := by decide +kernel
theorem dX6_letter_36 : decode cX6_letter 36 = .ok (.ireturn, 1) := by decide +kernel
theorem dX6_letter_37 : decode cX6_letter 37 = .ok (.iconst 0, 1) := by decide +kernel
theorem dX6_letter_38 : decode cX6_letter 38 = .ok (.istore 5, 2) := by decide +kernel
theorem dX6_letter_40 : decode cX6_letter 40 = .ok (.iconst 0, 1) := by decide +kernel
theorem dX6_letter_41 : decode cX6_letter 41 = .ok (.istore 6, 2) := by decide +kernel
theorem dX6_letter_43 : decode cX6_letter 43 = .ok (.iload 6, 2) := by decide +kernel
theorem dX6_letter_45 : decode cX6_letter 45 = .ok (.aload_n 0, 1) := by decide +kernel
theorem dX6_letter_46 : decode cX6_letter 46 = .ok (.getfield 28, 3) := by decide +kernel
theorem dX6_letter_49 : decode cX6_letter 49 = .ok (.getfield 110, 3) := by decide +kernel
theorem dX6_letter_52 : decode cX6_letter 52 = .ok (.if_icmp .ge 106, 3) := by decide +kernel
theorem dX6_letter_55 : decode cX6_letter 55 = .ok (.aload_n 0, 1) := by decide +kernel
theorem dX6_letter_56 : decode cX6_letter 56 = .ok (.getfield 28, 3) := by decide +kernel
theorem dX6_letter_59 : decode cX6_letter 59 = .ok (.getfield 118, 3) := by decide +kernel
theorem dX6_letter_62 : decode cX6_letter 62 = .ok (.iload_n 2, 1) := by decide +kernel
theorem dX6_letter_63 : decode cX6_letter 63 = .ok (.iaload, 1) := by decide +kernel
theorem dX6_letter_64 : decode cX6_letter 64 = .ok (.iload 6, 2) := by decide +kernel
theorem dX6_letter_66 : decode cX6_letter 66 = .ok (.ishr, 1) := by decide +kernel
theorem dX6_letter_67 : decode cX6_letter 67 = .ok (.iconst 1, 1) := by decide +kernel
theorem dX6_letter_68 : decode cX6_letter 68 = .ok (.iand, 1) := by decide +kernel
theorem dX6_letter_69 : decode cX6_letter 69 = .ok (.iconst 1, 1) := by decide +kernel
theorem dX6_letter_70 : decode cX6_letter 70 = .ok (.if_icmp .ne 7, 3) := by decide +kernel
theorem dX6_letter_73 : decode cX6_letter 73 = .ok (.iconst 1, 1) := by decide +kernel
theorem dX6_letter_74 : decode cX6_letter 74 = .ok (.goto 4, 3) := by decide +kernel
theorem dX6_letter_77 : decode cX6_letter 77 = .ok (.iconst 0, 1) := by decide +kernel
theorem dX6_letter_78 : decode cX6_letter 78 = .ok (.istore 7, 2) := by decide +kernel
theorem dX6_letter_80 : decode cX6_letter 80 = .ok (.aload_n 0, 1) := by decide +kernel
theorem dX6_letter_81 : decode cX6_letter 81 = .ok (.getfield 65, 3) := by decide +kernel
theorem dX6_letter_84 : decode cX6_letter 84 = .ok (.iload 6, 2) := by decide +kernel
theorem dX6_letter_86 : decode cX6_letter 86 = .ok (.iload 7, 2) := by decide +kernel
theorem dX6_letter_88 : decode cX6_letter 88 = .ok (.ifCond .eq 35, 3) := by decide +kernel
theorem dX6_letter_91 : decode cX6_letter 91 = .ok (.aload_n 0, 1) := by decide +kernel
theorem dX6_letter_92 : decode cX6_letter 92 = .ok (.getfield 28, 3) := by decide +kernel
theorem dX6_letter_95 : decode cX6_letter 95 = .ok (.iload 6, 2) := by decide +kernel
theorem dX6_letter_97 : decode cX6_letter 97 = .ok (.aload_n 0, 1) := by decide +kernel
theorem dX6_letter_98 : decode cX6_letter 98 = .ok (.getfield 28, 3) := by decide +kernel
theorem dX6_letter_101 : decode cX6_letter 101 = .ok (.getfield 146, 3) := by decide +kernel
theorem dX6_letter_104 : decode cX6_letter 104 = .ok (.iload_n 1, 1) := by decide +kernel
theorem dX6_letter_105 : decode cX6_letter 105 = .ok (.iaload, 1) := by decide +kernel
theorem dX6_letter_106 : decode cX6_letter 106 = .ok (.aload_n 0, 1) := by decide +kernel
theorem dX6_letter_107 : decode cX6_letter 107 = .ok (.getfield 28, 3) := by decide +kernel
theorem dX6_letter_110 : decode cX6_letter 110 = .ok (.getfield 107, 3) := by decide +kernel
theorem dX6_letter_113 : decode cX6_letter 113 = .ok (.iload_n 3, 1) := by decide +kernel
theorem dX6_letter_114 : decode cX6_letter 114 = .ok (.iaload, 1) := by decide +kernel
theorem dX6_letter_115 : decode cX6_letter 115 = .ok (.iload 4, 2) := by decide +kernel
theorem dX6_letter_117 : decode cX6_letter 117 = .ok (.invokevirtual 197, 3) := by decide +kernel
theorem dX6_letter_120 : decode cX6_letter 120 = .ok (.goto 4, 3) := by decide +kernel
theorem dX6_letter_123 : decode cX6_letter 123 = .ok (.iconst 0, 1) := by decide +kernel
theorem dX6_letter_124 : decode cX6_letter 124 = .ok (.iastore, 1) := by decide +kernel
theorem dX6_letter_125 : decode cX6_letter 125 = .ok (.aload_n 0, 1) := by decide +kernel
theorem dX6_letter_126 : decode cX6_letter 126 = .ok (.getfield 65, 3) := by decide +kernel
theorem dX6_letter_129 : decode cX6_letter 129 = .ok (.iload 6, 2) := by decide +kernel
theorem dX6_letter_131 : decode cX6_letter 131 = .ok (.iaload, 1) := by decide +kernel
theorem dX6_letter_132 : decode cX6_letter 132 = .ok (.ldc 188, 2) := by decide +kernel
theorem dX6_letter_134 : decode cX6_letter 134 = .ok (.if_icmp .ne 6, 3) := by decide +kernel
theorem dX6_letter_137 : decode cX6_letter 137 = .ok (.ldc 200, 2) := by decide +kernel
theorem dX6_letter_139 : decode cX6_letter 139 = .ok (.ireturn, 1) := by decide +kernel
theorem dX6_letter_140 : decode cX6_letter 140 = .ok (.iload 5, 2) := by decide +kernel
theorem dX6_letter_142 : decode cX6_letter 142 = .ok (.aload_n 0, 1) := by decide +kernel
theorem dX6_letter_143 : decode cX6_letter 143 = .ok (.getfield 65, 3) := by decide +kernel
theorem dX6_letter_146 : decode cX6_letter 146 = .ok (.iload 6, 2) := by decide +kernel
theorem dX6_letter_148 : decode cX6_letter 148 = .ok (.iaload, 1) := by decide +kernel
theorem dX6_letter_149 : decode cX6_letter 149 = .ok (.iadd, 1) := by decide +kernel
theorem dX6_letter_150 : decode cX6_letter 150 = .ok (.istore 5, 2) := by decide +kernel
theorem dX6_letter_152 : decode cX6_letter 152 = .ok (.iinc 6 1, 3) := by decide +kernel
theorem dX6_letter_155 : decode cX6_letter 155 = .ok (.goto (-112), 3) := by decide +kernel
theorem dX6_letter_158 : decode cX6_letter 158 = .ok (.aload_n 0, 1) := by decide +kernel
theorem dX6_letter_159 : decode cX6_letter 159 = .ok (.getfield 65, 3) := by decide +kernel
theorem dX6_letter_162 : decode cX6_letter 162 = .ok (.iconst 0, 1) := by decide +kernel
theorem dX6_letter_163 : decode cX6_letter 163 = .ok (.aload_n 0, 1) := by decide +kernel
theorem dX6_letter_164 : decode cX6_letter 164 = .ok (.getfield 28, 3) := by decide +kernel
theorem dX6_letter_167 : decode cX6_letter 167 = .ok (.getfield 142, 3) := by decide +kernel
theorem dX6_letter_170 : decode cX6_letter 170 = .ok (.iload_n 1, 1) := by decide +kernel
theorem dX6_letter_171 : decode cX6_letter 171 = .ok (.aaload, 1) := by decide +kernel
theorem dX6_letter_172 : decode cX6_letter 172 = .ok (.iconst 0, 1) := by decide +kernel
theorem dX6_letter_173 : decode cX6_letter 173 = .ok (.aload_n 0, 1) := by decide +kernel
theorem dX6_letter_174 : decode cX6_letter 174 = .ok (.getfield 28, 3) := by decide +kernel
theorem dX6_letter_177 : decode cX6_letter 177 = .ok (.getfield 110, 3) := by decide +kernel
theorem dX6_letter_180 : decode cX6_letter 180 = .ok (.invokestatic 201, 3) := by decide +kernel
theorem dX6_letter_183 : decode cX6_letter 183 = .ok (.iload 5, 2) := by decide +kernel
theorem dX6_letter_185 : decode cX6_letter 185 = .ok (.ireturn, 1) := by decide +kernel
set_option maxHeartbeats 4000000 in
set_option maxRecDepth 100000 in
theorem w_X6_letter_L43 {g : sk_G} {l : Launch} {p : Program} {e : Env} {s : State} {m : MethodId} {av : Array Value} {below : List Frame} {meth : Method} {c : Code} (C : sk_C g p s m av meth c cX6_letter 8 RX6 (some .int)) (a1 : Int32) (a2 : Int32) (a3 : Int32) (a4 : Int32) {rr : Int32} {MM : sk_M} :
    ∀ (n : Nat) (a5 : Int32) (a6 : Int32) (M : sk_M) (H : Heap) (locs : List Loc) (ls : Array Slot), lv_has ls 8 [(0, .ref (sk_ad g 0)), (1, .int a1), (2, .int a2), (3, .int a3), (4, .int a4), (5, .int a5), (6, .int a6)] → sk_P g M H → va_S (sk_A g) s.heap H locs → ∀ {out : (Int32 × sk_M) ⊕ (Int32 × sk_M)}, f_X6_letter_L43 a1 a2 a3 a4 n a5 a6 M = some out → (∀ r, out = Sum.inl r → some r = some (rr, MM)) → (∀ (x5 : Int32) (M1 : sk_M) (H : Heap) (locs : List Loc) (ls : Array Slot), some (Sum.inr (x5, M1)) = some out → lv_has ls 8 [(0, .ref (sk_ad g 0)), (1, .int a1), (5, .int x5)] → sk_P g M1 H → va_S (sk_A g) s.heap H locs → W p l e (sk_rm 5) s m av below meth c H locs 0 0 (MQ below (sk_QI g rr MM) av s 0 0 (sk_A g)) (F0 m 158 ls [])) → W p l e (sk_rm 5) s m av below meth c H locs 0 0 (MQ below (sk_QI g rr MM) av s 0 0 (sk_A g)) (F0 m 43 ls []) := by
  obtain ⟨hx, hb, hml, hown, hts, hK, hE, hr, hlocks⟩ := id C
  intro n
  induction n with
  | zero =>
    intro a5 a6 M H locs ls hl hM hS out h
    cases h
  | succ n ih =>
    intro a5 a6 M H locs ls hl hM hS out h kr kx
    rw [f_X6_letter_L43] at h
    refine lv_iload hx hb dX6_letter_43 (lv_at hl 6 rfl) ?_
    refine lv_aload_n hx hb dX6_letter_45 rfl (lv_at hl 0 rfl) ?_
    refine sk_getR (o := 0) (ci := 6) (j := 0) (t := 10) C hM rfl rfl (by decide) rfl rfl kw_297 dX6_letter_46 ?_
    refine sk_getI (o := 10) (ci := 5) (j := 10) C hM rfl rfl (by decide) rfl kw_186 dX6_letter_49 ?_
    refine lv_icmp_ge hx hb dX6_letter_52 rfl (fun hc => ?_) (fun hc => ?_)
    · have h := sk_pos h hc
      exact kx _ _ _ _ _ h (lv_sub hl [0, 1, 5] rfl) hM hS
    · have h := sk_neg h hc
      refine lv_aload_n hx hb dX6_letter_55 rfl (lv_at hl 0 rfl) ?_
      refine sk_getR (o := 0) (ci := 6) (j := 0) (t := 10) C hM rfl rfl (by decide) rfl rfl kw_297 dX6_letter_56 ?_
      refine sk_getR (o := 10) (ci := 5) (j := 5) (t := 15) C hM rfl rfl (by decide) rfl rfl kw_175 dX6_letter_59 ?_
      refine lv_iload_n hx hb dX6_letter_62 rfl (lv_at hl 2 rfl) ?_
      obtain ⟨i_5, h⟩ := sk_chkE h
      refine sk_iald (o := 15) C hM rfl i_5 dX6_letter_63 ?_
      refine lv_iload hx hb dX6_letter_64 (lv_at hl 6 rfl) ?_
      refine lv_ishr hx hb dX6_letter_66 ?_
      refine lv_iconst (v := 1) hx hb dX6_letter_67 (by decide) ?_
      refine lv_iand hx hb dX6_letter_68 ?_
      refine lv_iconst (v := 1) hx hb dX6_letter_69 (by decide) ?_
      have J : ∀ (vv : Int32) (H : Heap) (locs : List Loc), (if (((M 15 a2.toNatClampNeg) >>> (a6 &&& 31)) &&& 1) = 1 then 1 else 0 : Int32) = vv → sk_P g M H → va_S (sk_A g) s.heap H locs → W p l e (sk_rm 5) s m av below meth c H locs 0 0 (MQ below (sk_QI g rr MM) av s 0 0 (sk_A g)) (F0 m 78 ls [.int vv]) := by
        intro vv H locs hvv hM hS
        subst hvv
        refine lv_topi (fun x_6 ex_6 => ?_)
        have h := sk_letU h ex_6
        refine lv_istore (lv' := [(7, .int x_6), (0, .ref (sk_ad g 0)), (1, .int a1), (2, .int a2), (3, .int a3), (4, .int a4), (5, .int a5), (6, .int a6)]) hx hb dX6_letter_78 hl (by decide) rfl (fun ls hl => ?_)
        refine lv_aload_n hx hb dX6_letter_80 rfl (lv_at hl 1 rfl) ?_
        refine sk_getR (o := 0) (ci := 6) (j := 9) (t := 4) C hM rfl rfl (by decide) rfl rfl kw_306 dX6_letter_81 ?_
        refine lv_iload hx hb dX6_letter_84 (lv_at hl 7 rfl) ?_
        refine lv_iload hx hb dX6_letter_86 (lv_at hl 0 rfl) ?_
        obtain ⟨y0_7, y1_7, h_7, kg_7⟩ := sk_b2E h
        have J_7 : ∀ (x_13 : Int32) (M_14 : sk_M) (H : Heap) (locs : List Loc) (ls : Array Slot), some (x_13, M_14) = some (y0_7, y1_7) → lv_has ls 8 [(0, .ref (sk_ad g 0)), (1, .int a1), (2, .int a2), (3, .int a3), (4, .int a4), (5, .int a5), (6, .int a6)] → sk_P g M_14 H → va_S (sk_A g) s.heap H locs → W p l e (sk_rm 5) s m av below meth c H locs 0 0 (MQ below (sk_QI g rr MM) av s 0 0 (sk_A g)) (F0 m 124 ls [.int x_13, .int a6, .ref (sk_ad g 4)]) := by
          intro x_13 M_14 H locs ls he hl hM hS
          obtain ⟨rfl, rfl⟩ := sk_e2 he
          have h := kg_7
          obtain ⟨i_15, h⟩ := sk_chkE h
          refine sk_iast (o := 4) C hM hS rfl i_15 dX6_letter_124 (fun M_16 eM_16 H locs hM hS => ?_)
          have h := sk_letU h eM_16
          refine lv_aload_n hx hb dX6_letter_125 rfl (lv_at hl 0 rfl) ?_
          refine sk_getR (o := 0) (ci := 6) (j := 9) (t := 4) C hM rfl rfl (by decide) rfl rfl kw_306 dX6_letter_126 ?_
          refine lv_iload hx hb dX6_letter_129 (lv_at hl 6 rfl) ?_
          obtain ⟨i_17, h⟩ := sk_chkE h
          refine sk_iald (o := 4) C hM rfl i_17 dX6_letter_131 ?_
          refine lv_ldc (v := (-1000000005)) hx hb hown (hts _ kw_544) dX6_letter_132 ?_
          refine lv_icmp_ne hx hb dX6_letter_134 rfl (fun hc => ?_) (fun hc => ?_)
          · have h := sk_neg h hc
            refine lv_iload hx hb dX6_letter_140 (lv_at hl 5 rfl) ?_
            refine lv_aload_n hx hb dX6_letter_142 rfl (lv_at hl 0 rfl) ?_
            refine sk_getR (o := 0) (ci := 6) (j := 9) (t := 4) C hM rfl rfl (by decide) rfl rfl kw_306 dX6_letter_143 ?_
            refine lv_iload hx hb dX6_letter_146 (lv_at hl 6 rfl) ?_
            obtain ⟨i_18, h⟩ := sk_chkE h
            refine sk_iald (o := 4) C hM rfl i_18 dX6_letter_148 ?_
            refine lv_iadd hx hb dX6_letter_149 ?_
            refine lv_topi (fun x_19 ex_19 => ?_)
            have h := sk_letU h ex_19
            refine lv_istore (lv' := [(5, .int x_19), (0, .ref (sk_ad g 0)), (1, .int a1), (2, .int a2), (3, .int a3), (4, .int a4), (6, .int a6)]) hx hb dX6_letter_150 hl (by decide) rfl (fun ls hl => ?_)
            refine lv_iinc (v := (a6 + 1)) (lv' := [(6, .int (a6 + 1)), (5, .int x_19), (0, .ref (sk_ad g 0)), (1, .int a1), (2, .int a2), (3, .int a3), (4, .int a4)]) hx hb dX6_letter_152 hl (k := 6) rfl rfl (by decide) rfl (fun ls hl => ?_)
            refine lv_goto hx hb dX6_letter_155 rfl ?_
            exact ih x_19 (a6 + 1) M_16 _ _ _ (lv_sub hl [2, 3, 4, 5, 6, 1, 0] rfl) hM hS h kr kx
          · have h := sk_pos h hc
            refine lv_ldc (v := (-1000000002)) hx hb hown (hts _ kw_588) dX6_letter_137 ?_
            have h := kr _ (Option.some.inj h).symm
            exact sk_iret C hM hS (sk_e2 h) dX6_letter_139
        have h := h_7
        refine lv_if_eq hx hb dX6_letter_88 rfl (fun hc => ?_) (fun hc => ?_)
        · have h := sk_pos h hc
          refine lv_iconst (v := 0) hx hb dX6_letter_123 (by decide) ?_
          exact J_7 _ _ _ _ _ h (lv_sub hl [1, 2, 3, 4, 5, 6, 7] rfl) hM hS
        · have h := sk_neg h hc
          refine lv_aload_n hx hb dX6_letter_91 rfl (lv_at hl 1 rfl) ?_
          refine sk_getR (o := 0) (ci := 6) (j := 0) (t := 10) C hM rfl rfl (by decide) rfl rfl kw_297 dX6_letter_92 ?_
          refine lv_iload hx hb dX6_letter_95 (lv_at hl 7 rfl) ?_
          refine lv_aload_n hx hb dX6_letter_97 rfl (lv_at hl 1 rfl) ?_
          refine sk_getR (o := 0) (ci := 6) (j := 0) (t := 10) C hM rfl rfl (by decide) rfl rfl kw_297 dX6_letter_98 ?_
          refine sk_getR (o := 10) (ci := 5) (j := 6) (t := 16) C hM rfl rfl (by decide) rfl rfl kw_178 dX6_letter_101 ?_
          refine lv_iload_n hx hb dX6_letter_104 rfl (lv_at hl 2 rfl) ?_
          obtain ⟨i_8, h⟩ := sk_chkE h
          refine sk_iald (o := 16) C hM rfl i_8 dX6_letter_105 ?_
          refine lv_aload_n hx hb dX6_letter_106 rfl (lv_at hl 1 rfl) ?_
          refine sk_getR (o := 0) (ci := 6) (j := 0) (t := 10) C hM rfl rfl (by decide) rfl rfl kw_297 dX6_letter_107 ?_
          refine sk_getR (o := 10) (ci := 5) (j := 4) (t := 14) C hM rfl rfl (by decide) rfl rfl kw_173 dX6_letter_110 ?_
          refine lv_iload_n hx hb dX6_letter_113 rfl (lv_at hl 4 rfl) ?_
          obtain ⟨i_9, h⟩ := sk_chkE h
          refine sk_iald (o := 14) C hM rfl i_9 dX6_letter_114 ?_
          refine lv_iload hx hb dX6_letter_115 (lv_at hl 5 rfl) ?_
          obtain ⟨x_10, M_11, h_12, h⟩ := sk_b2E h
          refine sk_contI (sk_runV (As := [.int a6, .int (M 16 a1.toNatClampNeg), .int (M 14 a3.toNatClampNeg), .int a4]) (rest := [.int a6, .ref (sk_ad g 4)]) C (c_X5_leastLeft g l 10 (Or.inl rfl) a6 (M 16 a1.toNatClampNeg) (M 14 a3.toNatClampNeg) a4 M h_12) yo_X5_leastLeft kw_576 (sk_recv (ci := 5) C hM rfl rfl) (by decide) hM hS hl.1 rfl rfl (Nat.le_of_ble_eq_true rfl) dX6_letter_117) hS (fun H locs hM hS => ?_)
          refine lv_goto hx hb dX6_letter_120 rfl ?_
          exact J_7 _ _ _ _ _ h (lv_sub hl [1, 2, 3, 4, 5, 6, 7] rfl) hM hS
      refine lv_icmp_ne hx hb dX6_letter_70 rfl (fun hc => ?_) (fun hc => ?_)
      · have J := fun vv H locs q => J vv H locs ((if_neg hc).trans q)
        refine lv_iconst (v := 0) hx hb dX6_letter_77 (by decide) ?_
        exact J _ _ _ rfl hM hS
      · have J := fun vv H locs q => J vv H locs ((if_pos hc).trans q)
        refine lv_iconst (v := 1) hx hb dX6_letter_73 (by decide) ?_
        refine lv_goto hx hb dX6_letter_74 rfl ?_
        exact J _ _ _ rfl hM hS
set_option maxHeartbeats 4000000 in
set_option maxRecDepth 100000 in
theorem c_X6_letter (g : sk_G) (l : Launch) (a1 : Int32) (a2 : Int32) (a3 : Int32) (a4 : Int32) (M : sk_M) {rr : Int32} {MM : sk_M} (h : f_X6_letter a1 a2 a3 a4 M = some (rr, MM)) : sk_MI g l yX6_letter cX6_letter 8 (some .int) 5 [.ref (sk_ad g 0), .int a1, .int a2, .int a3, .int a4] M rr MM := by
  refine sk_go [(0, .ref (sk_ad g 0)), (1, .int a1), (2, .int a2), (3, .int a3), (4, .int a4)] (by decide) (Nat.le_of_ble_eq_true rfl) rfl ?_
  intro p e s m av below meth c C ls hl hM hS
  obtain ⟨hx, hb, hml, hown, hts, hK, hE, hr, hlocks⟩ := id C
  rw [f_X6_letter] at h
  refine lv_aload_n hx hb dX6_letter_0 rfl (lv_at hl 0 rfl) ?_
  refine lv_iload_n hx hb dX6_letter_1 rfl (lv_at hl 1 rfl) ?_
  refine sk_contI (sk_runV (As := [.int a1]) (rest := []) C (c_X6_isCloth g l a1 M rfl) yo_X6_isCloth kw_434 (sk_recv (ci := 6) C hM rfl rfl) (by decide) hM hS hl.1 rfl rfl (Nat.le_of_ble_eq_true rfl) dX6_letter_2) hS (fun H locs hM hS => ?_)
  refine lv_if_eq hx hb dX6_letter_5 rfl (fun hc => ?_) (fun hc => ?_)
  · have h := sk_pos h hc
    refine lv_ldc (v := (-1000000001)) hx hb hown (hts _ kw_347) dX6_letter_34 ?_
    exact sk_iret C hM hS (sk_e2 h) dX6_letter_36
  · have h := sk_neg h hc
    refine lv_aload_n hx hb dX6_letter_8 rfl (lv_at hl 0 rfl) ?_
    refine lv_iload_n hx hb dX6_letter_9 rfl (lv_at hl 2 rfl) ?_
    refine sk_contI (sk_runV (As := [.int a2]) (rest := []) C (c_X6_isWord g l a2 M rfl) yo_X6_isWord kw_402 (sk_recv (ci := 6) C hM rfl rfl) (by decide) hM hS hl.1 rfl rfl (Nat.le_of_ble_eq_true rfl) dX6_letter_10) hS (fun H locs hM hS => ?_)
    refine lv_if_eq hx hb dX6_letter_13 rfl (fun hc => ?_) (fun hc => ?_)
    · have h := sk_pos h hc
      refine lv_ldc (v := (-1000000001)) hx hb hown (hts _ kw_347) dX6_letter_34 ?_
      exact sk_iret C hM hS (sk_e2 h) dX6_letter_36
    · have h := sk_neg h hc
      refine lv_iload_n hx hb dX6_letter_16 rfl (lv_at hl 3 rfl) ?_
      refine sk_contI (sk_runS (As := [.int a3]) (rest := []) C (c_X6_isNose g l a3 M rfl) yo_X6_isNose kw_390 (by decide) hM hS hl.1 rfl rfl (Nat.le_of_ble_eq_true rfl) dX6_letter_17) hS (fun H locs hM hS => ?_)
      refine lv_if_eq hx hb dX6_letter_20 rfl (fun hc => ?_) (fun hc => ?_)
      · have h := sk_pos h hc
        refine lv_ldc (v := (-1000000001)) hx hb hown (hts _ kw_347) dX6_letter_34 ?_
        exact sk_iret C hM hS (sk_e2 h) dX6_letter_36
      · have h := sk_neg h hc
        refine lv_iload hx hb dX6_letter_23 (lv_at hl 4 rfl) ?_
        refine lv_iconst (v := 0) hx hb dX6_letter_25 (by decide) ?_
        refine lv_bipush (v := 100) hx hb dX6_letter_26 (by decide) ?_
        refine sk_contI (sk_runS (As := [.int a4, .int 0, .int 100]) (rest := []) C (c_X6_within g l a4 0 100 M rfl) yo_X6_within kw_344 (by decide) hM hS hl.1 rfl rfl (Nat.le_of_ble_eq_true rfl) dX6_letter_28) hS (fun H locs hM hS => ?_)
        refine lv_if_ne hx hb dX6_letter_31 rfl (fun hc => ?_) (fun hc => ?_)
        · have h := sk_neg h hc
          refine lv_iconst (v := 0) hx hb dX6_letter_37 (by decide) ?_
          refine lv_istore (lv' := [(5, .int 0), (0, .ref (sk_ad g 0)), (1, .int a1), (2, .int a2), (3, .int a3), (4, .int a4)]) hx hb dX6_letter_38 hl (by decide) rfl (fun ls hl => ?_)
          refine lv_iconst (v := 0) hx hb dX6_letter_40 (by decide) ?_
          refine lv_istore (lv' := [(6, .int 0), (5, .int 0), (0, .ref (sk_ad g 0)), (1, .int a1), (2, .int a2), (3, .int a3), (4, .int a4)]) hx hb dX6_letter_41 hl (by decide) rfl (fun ls hl => ?_)
          obtain ⟨out_27, h_26, kf_28, kg_29⟩ := sk_s2E h
          refine w_X6_letter_L43 C a1 a2 a3 a4 sk_FU 0 0 M _ _ _ (lv_sub hl [2, 3, 4, 5, 6, 1, 0] rfl) hM hS h_26 kf_28 (fun x_20 M_21 H locs ls he hl hM hS => ?_)
          have h := kg_29 x_20 M_21 (Option.some.inj he).symm
          refine lv_aload_n hx hb dX6_letter_158 rfl (lv_at hl 0 rfl) ?_
          refine sk_getR (o := 0) (ci := 6) (j := 9) (t := 4) C hM rfl rfl (by decide) rfl rfl kw_306 dX6_letter_159 ?_
          refine lv_iconst (v := 0) hx hb dX6_letter_162 (by decide) ?_
          refine lv_aload_n hx hb dX6_letter_163 rfl (lv_at hl 0 rfl) ?_
          refine sk_getR (o := 0) (ci := 6) (j := 0) (t := 10) C hM rfl rfl (by decide) rfl rfl kw_297 dX6_letter_164 ?_
          refine sk_getR (o := 10) (ci := 5) (j := 7) (t := 17) C hM rfl rfl (by decide) rfl rfl kw_181 dX6_letter_167 ?_
          refine lv_iload_n hx hb dX6_letter_170 rfl (lv_at hl 1 rfl) ?_
          obtain ⟨i_22, h⟩ := sk_chkE h
          refine sk_aald (o := 17) (k := 0) (t := (20 + a1.toNatClampNeg)) C hM rfl (by decide) i_22 rfl dX6_letter_171 ?_
          refine lv_iconst (v := 0) hx hb dX6_letter_172 (by decide) ?_
          refine lv_aload_n hx hb dX6_letter_173 rfl (lv_at hl 0 rfl) ?_
          refine sk_getR (o := 0) (ci := 6) (j := 0) (t := 10) C hM rfl rfl (by decide) rfl rfl kw_297 dX6_letter_174 ?_
          refine sk_getI (o := 10) (ci := 5) (j := 10) C hM rfl rfl (by decide) rfl kw_186 dX6_letter_177 ?_
          obtain ⟨i_23, h⟩ := sk_chkE h
          obtain ⟨i_24, h⟩ := sk_chkE h
          refine sk_copy (d := 5) (o0 := 4) (o1 := (20 + a1.toNatClampNeg)) C hl.1 sk_wcopy kw_589 (by decide) (Nat.le_of_ble_eq_true rfl) hM hS rfl (sk_kd_s20 (sk_in_lt i_22)) i_23 i_24 dX6_letter_180 (fun M_25 eM_25 H locs hM hS => ?_)
          have h := sk_letU h eM_25
          refine lv_iload hx hb dX6_letter_183 (lv_at hl 2 rfl) ?_
          exact sk_iret C hM hS (sk_e2 h) dX6_letter_185
        · have h := sk_pos h hc
          refine lv_ldc (v := (-1000000001)) hx hb hown (hts _ kw_347) dX6_letter_34 ?_
          exact sk_iret C hM hS (sk_e2 h) dX6_letter_36
theorem dX6_isSheet_0 : decode cX6_isSheet 0 = .ok (.iload_n 0, 1) := by decide +kernel
theorem dX6_isSheet_1 : decode cX6_isSheet 1 = .ok (.iconst 0, 1) := by decide +kernel
theorem dX6_isSheet_2 : decode cX6_isSheet 2 = .ok (.iconst 3, 1) := by decide +kernel
theorem dX6_isSheet_3 : decode cX6_isSheet 3 = .ok (.invokestatic 75, 3) := by decide +kernel
theorem dX6_isSheet_6 : decode cX6_isSheet 6 = .ok (.ireturn, 1) := by decide +kernel
set_option maxHeartbeats 4000000 in
set_option maxRecDepth 100000 in
theorem c_X6_isSheet (g : sk_G) (l : Launch) (a0 : Int32) (M : sk_M) {rr : Int32} (h : f_X6_isSheet a0 = rr) : sk_MI g l yX6_isSheet cX6_isSheet 1 (some .boolean) 2 [.int a0] M rr M := by
  refine sk_go [(0, .int a0)] (by decide) (Nat.le_of_ble_eq_true rfl) rfl ?_
  intro p e s m av below meth c C ls hl hM hS
  obtain ⟨hx, hb, hml, hown, hts, hK, hE, hr, hlocks⟩ := id C
  rw [f_X6_isSheet] at h
  refine lv_iload_n hx hb dX6_isSheet_0 rfl (lv_at hl 0 rfl) ?_
  refine lv_iconst (v := 0) hx hb dX6_isSheet_1 (by decide) ?_
  refine lv_iconst (v := 3) hx hb dX6_isSheet_2 (by decide) ?_
  refine sk_contI (sk_runS (As := [.int a0, .int 0, .int 3]) (rest := []) C (c_X6_within g l a0 0 3 M rfl) yo_X6_within kw_344 (by decide) hM hS hl.1 rfl rfl (Nat.le_of_ble_eq_true rfl) dX6_isSheet_3) hS (fun H locs hM hS => ?_)
  exact sk_zret C hM hS (sk_nz (fz_X6_within a0 0 3)) ⟨h, rfl⟩ dX6_isSheet_6
theorem dX6_followCourse_0 : decode cX6_followCourse 0 = .ok (.aload_n 0, 1) := by decide +kernel
theorem dX6_followCourse_1 : decode cX6_followCourse 1 = .ok (.getfield 28, 3) := by decide +kernel
theorem dX6_followCourse_4 : decode cX6_followCourse 4 = .ok (.getfield 142, 3) := by decide +kernel
theorem dX6_followCourse_7 : decode cX6_followCourse 7 = .ok (.iload_n 1, 1) := by decide +kernel
theorem dX6_followCourse_8 : decode cX6_followCourse 8 = .ok (.aaload, 1) := by decide +kernel
theorem dX6_followCourse_9 : decode cX6_followCourse 9 = .ok (.iload_n 2, 1) := by decide +kernel
theorem dX6_followCourse_10 : decode cX6_followCourse 10 = .ok (.iaload, 1) := by decide +kernel
theorem dX6_followCourse_11 : decode cX6_followCourse 11 = .ok (.istore_n 3, 1) := by decide +kernel
theorem dX6_followCourse_12 : decode cX6_followCourse 12 = .ok (.iconst 0, 1) := by decide +kernel
theorem dX6_followCourse_13 : decode cX6_followCourse 13 = .ok (.istore 4, 2) := by decide +kernel
theorem dX6_followCourse_15 : decode cX6_followCourse 15 = .ok (.iload 4, 2) := by decide +kernel
theorem dX6_followCourse_17 : decode cX6_followCourse 17 = .ok (.aload_n 0, 1) := by decide +kernel
theorem dX6_followCourse_18 : decode cX6_followCourse 18 = .ok (.getfield 68, 3) := by decide +kernel
theorem dX6_followCourse_21 : decode cX6_followCourse 21 = .ok (.arraylength, 1) := by decide +kernel
theorem dX6_followCourse_22 : decode cX6_followCourse 22 = .ok (.if_icmp .ge 48, 3) := by decide +kernel
theorem dX6_followCourse_25 : decode cX6_followCourse 25 = .ok (.aload_n 0, 1) := by decide +kernel
theorem dX6_followCourse_26 : decode cX6_followCourse 26 = .ok (.getfield 68, 3) := by decide +kernel
theorem dX6_followCourse_29 : decode cX6_followCourse 29 = .ok (.iload 4, 2) := by decide +kernel
theorem dX6_followCourse_31 : decode cX6_followCourse 31 = .ok (.iload_n 3, 1) := by decide +kernel
theorem dX6_followCourse_32 : decode cX6_followCourse 32 = .ok (.iastore, 1) := by decide +kernel
theorem dX6_followCourse_33 : decode cX6_followCourse 33 = .ok (.iload_n 3, 1) := by decide +kernel
theorem dX6_followCourse_34 : decode cX6_followCourse 34 = .ok (.aload_n 0, 1) := by decide +kernel
theorem dX6_followCourse_35 : decode cX6_followCourse 35 = .ok (.getfield 28, 3) := by decide +kernel
theorem dX6_followCourse_38 : decode cX6_followCourse 38 = .ok (.iload_n 2, 1) := by decide +kernel
theorem dX6_followCourse_39 : decode cX6_followCourse 39 = .ok (.iload_n 3, 1) := by decide +kernel
theorem dX6_followCourse_40 : decode cX6_followCourse 40 = .ok (.aload_n 0, 1) := by decide +kernel
theorem dX6_followCourse_41 : decode cX6_followCourse 41 = .ok (.getfield 28, 3) := by decide +kernel
theorem dX6_followCourse_44 : decode cX6_followCourse 44 = .ok (.getfield 146, 3) := by decide +kernel
theorem dX6_followCourse_47 : decode cX6_followCourse 47 = .ok (.iload_n 1, 1) := by decide +kernel
theorem dX6_followCourse_48 : decode cX6_followCourse 48 = .ok (.iaload, 1) := by decide +kernel
theorem dX6_followCourse_49 : decode cX6_followCourse 49 = .ok (.aload_n 0, 1) := by decide +kernel
theorem dX6_followCourse_50 : decode cX6_followCourse 50 = .ok (.getfield 28, 3) := by decide +kernel
theorem dX6_followCourse_53 : decode cX6_followCourse 53 = .ok (.getfield 149, 3) := by decide +kernel
theorem dX6_followCourse_56 : decode cX6_followCourse 56 = .ok (.iload 4, 2) := by decide +kernel
theorem dX6_followCourse_58 : decode cX6_followCourse 58 = .ok (.iadd, 1) := by decide +kernel
theorem dX6_followCourse_59 : decode cX6_followCourse 59 = .ok (.invokevirtual 152, 3) := by decide +kernel
theorem dX6_followCourse_62 : decode cX6_followCourse 62 = .ok (.isub, 1) := by decide +kernel
theorem dX6_followCourse_63 : decode cX6_followCourse 63 = .ok (.istore_n 3, 1) := by decide +kernel
theorem dX6_followCourse_64 : decode cX6_followCourse 64 = .ok (.iinc 4 1, 3) := by decide +kernel
theorem dX6_followCourse_67 : decode cX6_followCourse 67 = .ok (.goto (-52), 3) := by decide +kernel
theorem dX6_followCourse_70 : decode cX6_followCourse 70 = .ok (.return_, 1) := by decide +kernel
set_option maxHeartbeats 4000000 in
set_option maxRecDepth 100000 in
theorem w_X6_followCourse_L15 {g : sk_G} {l : Launch} {p : Program} {e : Env} {s : State} {m : MethodId} {av : Array Value} {below : List Frame} {meth : Method} {c : Code} (C : sk_C g p s m av meth c cX6_followCourse 5 RX6 none) (a1 : Int32) (a2 : Int32) {MM : sk_M} :
    ∀ (n : Nat) (a3 : Int32) (a4 : Int32) (M : sk_M) (H : Heap) (locs : List Loc) (ls : Array Slot), lv_has ls 5 [(0, .ref (sk_ad g 0)), (1, .int a1), (2, .int a2), (3, .int a3), (4, .int a4)] → sk_P g M H → va_S (sk_A g) s.heap H locs → ∀ {out : sk_M}, f_X6_followCourse_L15 a1 a2 n a3 a4 M = some out → (∀ (M1 : sk_M) (H : Heap) (locs : List Loc) (ls : Array Slot), some M1 = some out → lv_has ls 5 [] → sk_P g M1 H → va_S (sk_A g) s.heap H locs → W p l e (sk_rm 4) s m av below meth c H locs 0 0 (MQ below (sk_QV g MM) av s 0 0 (sk_A g)) (F0 m 70 ls [])) → W p l e (sk_rm 4) s m av below meth c H locs 0 0 (MQ below (sk_QV g MM) av s 0 0 (sk_A g)) (F0 m 15 ls []) := by
  obtain ⟨hx, hb, hml, hown, hts, hK, hE, hr, hlocks⟩ := id C
  intro n
  induction n with
  | zero =>
    intro a3 a4 M H locs ls hl hM hS out h
    cases h
  | succ n ih =>
    intro a3 a4 M H locs ls hl hM hS out h kx
    rw [f_X6_followCourse_L15] at h
    refine lv_iload hx hb dX6_followCourse_15 (lv_at hl 4 rfl) ?_
    refine lv_aload_n hx hb dX6_followCourse_17 rfl (lv_at hl 0 rfl) ?_
    refine sk_getR (o := 0) (ci := 6) (j := 10) (t := 5) C hM rfl rfl (by decide) rfl rfl kw_307 dX6_followCourse_18 ?_
    refine sk_alen (o := 5) (v := 125) C hM rfl (by decide) dX6_followCourse_21 ?_
    refine lv_icmp_ge hx hb dX6_followCourse_22 rfl (fun hc => ?_) (fun hc => ?_)
    · have h := sk_pos h hc
      exact kx _ _ _ _ h (lv_sub hl [] rfl) hM hS
    · have h := sk_neg h hc
      refine lv_aload_n hx hb dX6_followCourse_25 rfl (lv_at hl 0 rfl) ?_
      refine sk_getR (o := 0) (ci := 6) (j := 10) (t := 5) C hM rfl rfl (by decide) rfl rfl kw_307 dX6_followCourse_26 ?_
      refine lv_iload hx hb dX6_followCourse_29 (lv_at hl 4 rfl) ?_
      refine lv_iload_n hx hb dX6_followCourse_31 rfl (lv_at hl 3 rfl) ?_
      obtain ⟨i_4, h⟩ := sk_chkE h
      refine sk_iast (o := 5) C hM hS rfl i_4 dX6_followCourse_32 (fun M_5 eM_5 H locs hM hS => ?_)
      have h := sk_letU h eM_5
      refine lv_iload_n hx hb dX6_followCourse_33 rfl (lv_at hl 3 rfl) ?_
      refine lv_aload_n hx hb dX6_followCourse_34 rfl (lv_at hl 0 rfl) ?_
      refine sk_getR (o := 0) (ci := 6) (j := 0) (t := 10) C hM rfl rfl (by decide) rfl rfl kw_297 dX6_followCourse_35 ?_
      refine lv_iload_n hx hb dX6_followCourse_38 rfl (lv_at hl 2 rfl) ?_
      refine lv_iload_n hx hb dX6_followCourse_39 rfl (lv_at hl 3 rfl) ?_
      refine lv_aload_n hx hb dX6_followCourse_40 rfl (lv_at hl 0 rfl) ?_
      refine sk_getR (o := 0) (ci := 6) (j := 0) (t := 10) C hM rfl rfl (by decide) rfl rfl kw_297 dX6_followCourse_41 ?_
      refine sk_getR (o := 10) (ci := 5) (j := 6) (t := 16) C hM rfl rfl (by decide) rfl rfl kw_178 dX6_followCourse_44 ?_
      refine lv_iload_n hx hb dX6_followCourse_47 rfl (lv_at hl 1 rfl) ?_
      obtain ⟨i_6, h⟩ := sk_chkE h
      refine sk_iald (o := 16) C hM rfl i_6 dX6_followCourse_48 ?_
      refine lv_aload_n hx hb dX6_followCourse_49 rfl (lv_at hl 0 rfl) ?_
      refine sk_getR (o := 0) (ci := 6) (j := 0) (t := 10) C hM rfl rfl (by decide) rfl rfl kw_297 dX6_followCourse_50 ?_
      refine sk_getI (o := 10) (ci := 5) (j := 14) C hM rfl rfl (by decide) rfl kw_195 dX6_followCourse_53 ?_
      refine lv_iload hx hb dX6_followCourse_56 (lv_at hl 4 rfl) ?_
      refine lv_iadd hx hb dX6_followCourse_58 ?_
      obtain ⟨x_7, M_8, h_9, h⟩ := sk_b2E h
      refine sk_contI (sk_runV (As := [.int a2, .int a3, .int (M_5 16 a1.toNatClampNeg), .int ((M_5 10 14) + a4)]) (rest := [.int a3]) C (c_X5_loss g l 10 (Or.inl rfl) a2 a3 (M_5 16 a1.toNatClampNeg) ((M_5 10 14) + a4) M_5 h_9) yo_X5_loss kw_442 (sk_recv (ci := 5) C hM rfl rfl) (by decide) hM hS hl.1 rfl rfl (Nat.le_of_ble_eq_true rfl) dX6_followCourse_59) hS (fun H locs hM hS => ?_)
      refine lv_isub hx hb dX6_followCourse_62 ?_
      refine lv_topi (fun x_10 ex_10 => ?_)
      have h := sk_letU h ex_10
      refine lv_istore_n (lv' := [(3, .int x_10), (0, .ref (sk_ad g 0)), (1, .int a1), (2, .int a2), (4, .int a4)]) hx hb dX6_followCourse_63 rfl hl (by decide) rfl (fun ls hl => ?_)
      refine lv_iinc (v := (a4 + 1)) (lv' := [(4, .int (a4 + 1)), (3, .int x_10), (0, .ref (sk_ad g 0)), (1, .int a1), (2, .int a2)]) hx hb dX6_followCourse_64 hl (k := 4) rfl rfl (by decide) rfl (fun ls hl => ?_)
      refine lv_goto hx hb dX6_followCourse_67 rfl ?_
      exact ih x_10 (a4 + 1) M_8 _ _ _ (lv_sub hl [2, 3, 4, 1, 0] rfl) hM hS h kx
set_option maxHeartbeats 4000000 in
set_option maxRecDepth 100000 in
theorem c_X6_followCourse (g : sk_G) (l : Launch) (a1 : Int32) (a2 : Int32) (M : sk_M) {MM : sk_M} (h : f_X6_followCourse a1 a2 M = some MM) : sk_MV g l yX6_followCourse cX6_followCourse 5 none 4 [.ref (sk_ad g 0), .int a1, .int a2] M MM := by
  refine sk_go [(0, .ref (sk_ad g 0)), (1, .int a1), (2, .int a2)] (by decide) (Nat.le_of_ble_eq_true rfl) rfl ?_
  intro p e s m av below meth c C ls hl hM hS
  obtain ⟨hx, hb, hml, hown, hts, hK, hE, hr, hlocks⟩ := id C
  rw [f_X6_followCourse] at h
  refine lv_aload_n hx hb dX6_followCourse_0 rfl (lv_at hl 0 rfl) ?_
  refine sk_getR (o := 0) (ci := 6) (j := 0) (t := 10) C hM rfl rfl (by decide) rfl rfl kw_297 dX6_followCourse_1 ?_
  refine sk_getR (o := 10) (ci := 5) (j := 7) (t := 17) C hM rfl rfl (by decide) rfl rfl kw_181 dX6_followCourse_4 ?_
  refine lv_iload_n hx hb dX6_followCourse_7 rfl (lv_at hl 1 rfl) ?_
  obtain ⟨i_1, h⟩ := sk_chkE h
  refine sk_aald (o := 17) (k := 0) (t := (20 + a1.toNatClampNeg)) C hM rfl (by decide) i_1 rfl dX6_followCourse_8 ?_
  refine lv_iload_n hx hb dX6_followCourse_9 rfl (lv_at hl 2 rfl) ?_
  obtain ⟨i_2, h⟩ := sk_chkE h
  refine sk_iald (o := (20 + a1.toNatClampNeg)) C hM (sk_kd_s20 (sk_in_lt i_1)) i_2 dX6_followCourse_10 ?_
  refine lv_topi (fun x_3 ex_3 => ?_)
  have h := sk_letU h ex_3
  refine lv_istore_n (lv' := [(3, .int x_3), (0, .ref (sk_ad g 0)), (1, .int a1), (2, .int a2)]) hx hb dX6_followCourse_11 rfl hl (by decide) rfl (fun ls hl => ?_)
  refine lv_iconst (v := 0) hx hb dX6_followCourse_12 (by decide) ?_
  refine lv_istore (lv' := [(4, .int 0), (3, .int x_3), (0, .ref (sk_ad g 0)), (1, .int a1), (2, .int a2)]) hx hb dX6_followCourse_13 hl (by decide) rfl (fun ls hl => ?_)
  obtain ⟨M_11, h_12, h⟩ := sk_b1E h
  refine w_X6_followCourse_L15 C a1 a2 sk_FU x_3 0 M _ _ _ (lv_sub hl [2, 3, 4, 1, 0] rfl) hM hS h_12 (fun y_13 H locs ls he hl hM hS => ?_)
  obtain rfl := Option.some.inj he
  exact sk_vret C hM hS (Option.some.inj h) dX6_followCourse_70
theorem dX6_differences_0 : decode cX6_differences 0 = .ok (.iconst 0, 1) := by decide +kernel
theorem dX6_differences_1 : decode cX6_differences 1 = .ok (.istore_n 3, 1) := by decide +kernel
theorem dX6_differences_2 : decode cX6_differences 2 = .ok (.iconst 0, 1) := by decide +kernel
theorem dX6_differences_3 : decode cX6_differences 3 = .ok (.istore 4, 2) := by decide +kernel
theorem dX6_differences_5 : decode cX6_differences 5 = .ok (.iload 4, 2) := by decide +kernel
theorem dX6_differences_7 : decode cX6_differences 7 = .ok (.aload_n 1, 1) := by decide +kernel
theorem dX6_differences_8 : decode cX6_differences 8 = .ok (.getfield 267, 3) := by decide +kernel
theorem dX6_differences_11 : decode cX6_differences 11 = .ok (.if_icmp .ge 56, 3) := by decide +kernel
theorem dX6_differences_14 : decode cX6_differences 14 = .ok (.iload_n 2, 1) := by decide +kernel
theorem dX6_differences_15 : decode cX6_differences 15 = .ok (.iload 4, 2) := by decide +kernel
theorem dX6_differences_17 : decode cX6_differences 17 = .ok (.iadd, 1) := by decide +kernel
theorem dX6_differences_18 : decode cX6_differences 18 = .ok (.aload_n 0, 1) := by decide +kernel
theorem dX6_differences_19 : decode cX6_differences 19 = .ok (.getfield 68, 3) := by decide +kernel
theorem dX6_differences_22 : decode cX6_differences 22 = .ok (.arraylength, 1) := by decide +kernel
theorem dX6_differences_23 : decode cX6_differences 23 = .ok (.if_icmp .ge 44, 3) := by decide +kernel
theorem dX6_differences_26 : decode cX6_differences 26 = .ok (.aload_n 1, 1) := by decide +kernel
theorem dX6_differences_27 : decode cX6_differences 27 = .ok (.getfield 271, 3) := by decide +kernel
theorem dX6_differences_30 : decode cX6_differences 30 = .ok (.iload 4, 2) := by decide +kernel
theorem dX6_differences_32 : decode cX6_differences 32 = .ok (.iaload, 1) := by decide +kernel
theorem dX6_differences_33 : decode cX6_differences 33 = .ok (.ldc 188, 2) := by decide +kernel
theorem dX6_differences_35 : decode cX6_differences 35 = .ok (.if_icmp .eq 26, 3) := by decide +kernel
theorem dX6_differences_38 : decode cX6_differences 38 = .ok (.iload_n 3, 1) := by decide +kernel
theorem dX6_differences_39 : decode cX6_differences 39 = .ok (.aload_n 0, 1) := by decide +kernel
theorem dX6_differences_40 : decode cX6_differences 40 = .ok (.getfield 68, 3) := by decide +kernel
theorem dX6_differences_43 : decode cX6_differences 43 = .ok (.iload_n 2, 1) := by decide +kernel
theorem dX6_differences_44 : decode cX6_differences 44 = .ok (.iload 4, 2) := by decide +kernel
theorem dX6_differences_46 : decode cX6_differences 46 = .ok (.iadd, 1) := by decide +kernel
theorem dX6_differences_47 : decode cX6_differences 47 = .ok (.iaload, 1) := by decide +kernel
theorem dX6_differences_48 : decode cX6_differences 48 = .ok (.aload_n 1, 1) := by decide +kernel
theorem dX6_differences_49 : decode cX6_differences 49 = .ok (.getfield 271, 3) := by decide +kernel
theorem dX6_differences_52 : decode cX6_differences 52 = .ok (.iload 4, 2) := by decide +kernel
theorem dX6_differences_54 : decode cX6_differences 54 = .ok (.iaload, 1) := by decide +kernel
theorem dX6_differences_55 : decode cX6_differences 55 = .ok (.isub, 1) := by decide +kernel
theorem dX6_differences_56 : decode cX6_differences 56 = .ok (.invokestatic 323, 3) := by decide +kernel
theorem dX6_differences_59 : decode cX6_differences 59 = .ok (.iadd, 1) := by decide +kernel
theorem dX6_differences_60 : decode cX6_differences 60 = .ok (.istore_n 3, 1) := by decide +kernel
theorem dX6_differences_61 : decode cX6_differences 61 = .ok (.iinc 4 1, 3) := by decide +kernel
theorem dX6_differences_64 : decode cX6_differences 64 = .ok (.goto (-59), 3) := by decide +kernel
theorem dX6_differences_67 : decode cX6_differences 67 = .ok (.iload_n 3, 1) := by decide +kernel
theorem dX6_differences_68 : decode cX6_differences 68 = .ok (.ireturn, 1) := by decide +kernel
set_option maxHeartbeats 4000000 in
set_option maxRecDepth 100000 in
theorem w_X6_differences_L5 {g : sk_G} {l : Launch} {p : Program} {e : Env} {s : State} {m : MethodId} {av : Array Value} {below : List Frame} {meth : Method} {c : Code} (C : sk_C g p s m av meth c cX6_differences 5 RX6 (some .int)) (o1 : Nat) (q1 : sk_isH o1) (a2 : Int32) (M : sk_M) {rr : Int32} :
    ∀ (n : Nat) (a3 : Int32) (a4 : Int32) (H : Heap) (locs : List Loc) (ls : Array Slot), lv_has ls 5 [(0, .ref (sk_ad g 0)), (1, .ref (sk_ad g o1)), (2, .int a2), (3, .int a3), (4, .int a4)] → sk_P g M H → va_S (sk_A g) s.heap H locs → ∀ {out : Int32}, f_X6_differences_L5 o1 a2 M n a3 a4 = some out → (∀ (x3 : Int32) (H : Heap) (locs : List Loc) (ls : Array Slot), some x3 = some out → lv_has ls 5 [(3, .int x3)] → sk_P g M H → va_S (sk_A g) s.heap H locs → W p l e (sk_rm 1) s m av below meth c H locs 0 0 (MQ below (sk_QI g rr M) av s 0 0 (sk_A g)) (F0 m 67 ls [])) → W p l e (sk_rm 1) s m av below meth c H locs 0 0 (MQ below (sk_QI g rr M) av s 0 0 (sk_A g)) (F0 m 5 ls []) := by
  obtain ⟨hx, hb, hml, hown, hts, hK, hE, hr, hlocks⟩ := id C
  intro n
  induction n with
  | zero =>
    intro a3 a4 H locs ls hl hM hS out h
    cases h
  | succ n ih =>
    intro a3 a4 H locs ls hl hM hS out h kx
    rw [f_X6_differences_L5] at h
    refine lv_iload hx hb dX6_differences_5 (lv_at hl 4 rfl) ?_
    refine lv_aload_n hx hb dX6_differences_7 rfl (lv_at hl 1 rfl) ?_
    refine sk_getI (o := o1) (ci := 1) (j := 2) C hM (sk_isH_kd q1) rfl (by decide) rfl kw_262 dX6_differences_8 ?_
    refine lv_icmp_ge hx hb dX6_differences_11 rfl (fun hc => ?_) (fun hc => ?_)
    · have h := sk_pos h hc
      exact kx _ _ _ _ h (lv_sub hl [3] rfl) hM hS
    · have h := sk_neg h hc
      refine lv_iload_n hx hb dX6_differences_14 rfl (lv_at hl 2 rfl) ?_
      refine lv_iload hx hb dX6_differences_15 (lv_at hl 4 rfl) ?_
      refine lv_iadd hx hb dX6_differences_17 ?_
      refine lv_aload_n hx hb dX6_differences_18 rfl (lv_at hl 0 rfl) ?_
      refine sk_getR (o := 0) (ci := 6) (j := 10) (t := 5) C hM rfl rfl (by decide) rfl rfl kw_307 dX6_differences_19 ?_
      refine sk_alen (o := 5) (v := 125) C hM rfl (by decide) dX6_differences_22 ?_
      refine lv_icmp_ge hx hb dX6_differences_23 rfl (fun hc => ?_) (fun hc => ?_)
      · have h := sk_pos h hc
        exact kx _ _ _ _ h (lv_sub hl [3] rfl) hM hS
      · have h := sk_neg h hc
        refine lv_aload_n hx hb dX6_differences_26 rfl (lv_at hl 1 rfl) ?_
        refine sk_getR (o := o1) (ci := 1) (j := 0) (t := (o1 + 1)) C hM (sk_isH_kd q1) rfl (by decide) rfl (sk_isH_r0 q1) kw_258 dX6_differences_27 ?_
        refine lv_iload hx hb dX6_differences_30 (lv_at hl 4 rfl) ?_
        obtain ⟨i_1, h⟩ := sk_chkE h
        refine sk_iald (o := (o1 + 1)) C hM (sk_isH_k1 q1) i_1 dX6_differences_32 ?_
        refine lv_ldc (v := (-1000000005)) hx hb hown (hts _ kw_544) dX6_differences_33 ?_
        refine lv_icmp_eq hx hb dX6_differences_35 rfl (fun hc => ?_) (fun hc => ?_)
        · have h := sk_pos h hc
          refine lv_iinc (v := (a4 + 1)) (lv' := [(4, .int (a4 + 1)), (0, .ref (sk_ad g 0)), (1, .ref (sk_ad g o1)), (2, .int a2), (3, .int a3)]) hx hb dX6_differences_61 hl (k := 4) rfl rfl (by decide) rfl (fun ls hl => ?_)
          refine lv_goto hx hb dX6_differences_64 rfl ?_
          exact ih a3 (a4 + 1) _ _ _ (lv_sub hl [1, 2, 3, 4, 0] rfl) hM hS h kx
        · have h := sk_neg h hc
          refine lv_iload_n hx hb dX6_differences_38 rfl (lv_at hl 3 rfl) ?_
          refine lv_aload_n hx hb dX6_differences_39 rfl (lv_at hl 0 rfl) ?_
          refine sk_getR (o := 0) (ci := 6) (j := 10) (t := 5) C hM rfl rfl (by decide) rfl rfl kw_307 dX6_differences_40 ?_
          refine lv_iload_n hx hb dX6_differences_43 rfl (lv_at hl 2 rfl) ?_
          refine lv_iload hx hb dX6_differences_44 (lv_at hl 4 rfl) ?_
          refine lv_iadd hx hb dX6_differences_46 ?_
          obtain ⟨i_2, h⟩ := sk_chkE h
          refine sk_iald (o := 5) C hM rfl i_2 dX6_differences_47 ?_
          refine lv_aload_n hx hb dX6_differences_48 rfl (lv_at hl 1 rfl) ?_
          refine sk_getR (o := o1) (ci := 1) (j := 0) (t := (o1 + 1)) C hM (sk_isH_kd q1) rfl (by decide) rfl (sk_isH_r0 q1) kw_258 dX6_differences_49 ?_
          refine lv_iload hx hb dX6_differences_52 (lv_at hl 4 rfl) ?_
          obtain ⟨i_3, h⟩ := sk_chkE h
          refine sk_iald (o := (o1 + 1)) C hM (sk_isH_k1 q1) i_3 dX6_differences_54 ?_
          refine lv_isub hx hb dX6_differences_55 ?_
          refine sk_mabs (d := 1) C hl.1 sk_wabs kw_606 (by decide) (Nat.le_of_ble_eq_true rfl) dX6_differences_56 ?_
          refine lv_topi (fun x_4 ex_4 => ?_)
          have h := sk_letU h ex_4
          refine lv_iadd hx hb dX6_differences_59 ?_
          refine lv_topi (fun x_5 ex_5 => ?_)
          have h := sk_letU h ex_5
          refine lv_istore_n (lv' := [(3, .int x_5), (0, .ref (sk_ad g 0)), (1, .ref (sk_ad g o1)), (2, .int a2), (4, .int a4)]) hx hb dX6_differences_60 rfl hl (by decide) rfl (fun ls hl => ?_)
          refine lv_iinc (v := (a4 + 1)) (lv' := [(4, .int (a4 + 1)), (3, .int x_5), (0, .ref (sk_ad g 0)), (1, .ref (sk_ad g o1)), (2, .int a2)]) hx hb dX6_differences_61 hl (k := 4) rfl rfl (by decide) rfl (fun ls hl => ?_)
          refine lv_goto hx hb dX6_differences_64 rfl ?_
          exact ih x_5 (a4 + 1) _ _ _ (lv_sub hl [2, 3, 4, 1, 0] rfl) hM hS h kx
set_option maxHeartbeats 4000000 in
set_option maxRecDepth 100000 in
theorem c_X6_differences (g : sk_G) (l : Launch) (o1 : Nat) (q1 : sk_isH o1) (a2 : Int32) (M : sk_M) {rr : Int32} (h : f_X6_differences o1 a2 M = some rr) : sk_MI g l yX6_differences cX6_differences 5 (some .int) 1 [.ref (sk_ad g 0), .ref (sk_ad g o1), .int a2] M rr M := by
  refine sk_go [(0, .ref (sk_ad g 0)), (1, .ref (sk_ad g o1)), (2, .int a2)] (by decide) (Nat.le_of_ble_eq_true rfl) rfl ?_
  intro p e s m av below meth c C ls hl hM hS
  obtain ⟨hx, hb, hml, hown, hts, hK, hE, hr, hlocks⟩ := id C
  rw [f_X6_differences] at h
  refine lv_iconst (v := 0) hx hb dX6_differences_0 (by decide) ?_
  refine lv_istore_n (lv' := [(3, .int 0), (0, .ref (sk_ad g 0)), (1, .ref (sk_ad g o1)), (2, .int a2)]) hx hb dX6_differences_1 rfl hl (by decide) rfl (fun ls hl => ?_)
  refine lv_iconst (v := 0) hx hb dX6_differences_2 (by decide) ?_
  refine lv_istore (lv' := [(4, .int 0), (3, .int 0), (0, .ref (sk_ad g 0)), (1, .ref (sk_ad g o1)), (2, .int a2)]) hx hb dX6_differences_3 hl (by decide) rfl (fun ls hl => ?_)
  obtain ⟨x_6, h_7, h⟩ := sk_b1E h
  refine w_X6_differences_L5 C o1 q1 a2 M sk_FU 0 0 _ _ _ (lv_sub hl [2, 3, 4, 1, 0] rfl) hM hS h_7 (fun y_8 H locs ls he hl hM hS => ?_)
  obtain rfl := Option.some.inj he
  refine lv_iload_n hx hb dX6_differences_67 rfl (lv_at hl 0 rfl) ?_
  exact sk_iret C hM hS ⟨Option.some.inj h, rfl⟩ dX6_differences_68
theorem dX6_dated_0 : decode cX6_dated 0 = .ok (.iload_n 1, 1) := by decide +kernel
theorem dX6_dated_1 : decode cX6_dated 1 = .ok (.invokestatic 207, 3) := by decide +kernel
theorem dX6_dated_4 : decode cX6_dated 4 = .ok (.ifCond .eq 22, 3) := by decide +kernel
theorem dX6_dated_7 : decode cX6_dated 7 = .ok (.aload_n 0, 1) := by decide +kernel
theorem dX6_dated_8 : decode cX6_dated 8 = .ok (.iload_n 2, 1) := by decide +kernel
theorem dX6_dated_9 : decode cX6_dated 9 = .ok (.iload_n 3, 1) := by decide +kernel
theorem dX6_dated_10 : decode cX6_dated 10 = .ok (.invokevirtual 139, 3) := by decide +kernel
theorem dX6_dated_13 : decode cX6_dated 13 = .ok (.ifCond .eq 13, 3) := by decide +kernel
theorem dX6_dated_16 : decode cX6_dated 16 = .ok (.iload 4, 2) := by decide +kernel
theorem dX6_dated_18 : decode cX6_dated 18 = .ok (.iconst 0, 1) := by decide +kernel
theorem dX6_dated_19 : decode cX6_dated 19 = .ok (.iconst 1, 1) := by decide +kernel
theorem dX6_dated_20 : decode cX6_dated 20 = .ok (.invokestatic 75, 3) := by decide +kernel
theorem dX6_dated_23 : decode cX6_dated 23 = .ok (.ifCond .ne 6, 3) := by decide +kernel
theorem dX6_dated_26 : decode cX6_dated 26 = .ok (.ldc 79, 2) := by decide +kernel
theorem dX6_dated_28 : decode cX6_dated 28 = .ok (.ireturn, 1) := by decide +kernel
theorem dX6_dated_29 : decode cX6_dated 29 = .ok (.aload_n 0, 1) := by decide +kernel
theorem dX6_dated_30 : decode cX6_dated 30 = .ok (.getfield 49, 3) := by decide +kernel
theorem dX6_dated_33 : decode cX6_dated 33 = .ok (.iload_n 1, 1) := by decide +kernel
theorem dX6_dated_34 : decode cX6_dated 34 = .ok (.aaload, 1) := by decide +kernel
theorem dX6_dated_35 : decode cX6_dated 35 = .ok (.getfield 210, 3) := by decide +kernel
theorem dX6_dated_38 : decode cX6_dated 38 = .ok (.iconst (-1), 1) := by decide +kernel
theorem dX6_dated_39 : decode cX6_dated 39 = .ok (.if_icmp .ne 6, 3) := by decide +kernel
theorem dX6_dated_42 : decode cX6_dated 42 = .ok (.ldc 213, 2) := by decide +kernel
theorem dX6_dated_44 : decode cX6_dated 44 = .ok (.ireturn, 1) := by decide +kernel
theorem dX6_dated_45 : decode cX6_dated 45 = .ok (.aload_n 0, 1) := by decide +kernel
theorem dX6_dated_46 : decode cX6_dated 46 = .ok (.iload_n 2, 1) := by decide +kernel
theorem dX6_dated_47 : decode cX6_dated 47 = .ok (.iload_n 3, 1) := by decide +kernel
theorem dX6_dated_48 : decode cX6_dated 48 = .ok (.invokevirtual 214, 3) := by decide +kernel
theorem dX6_dated_51 : decode cX6_dated 51 = .ok (.iconst 0, 1) := by decide +kernel
theorem dX6_dated_52 : decode cX6_dated 52 = .ok (.istore 5, 2) := by decide +kernel
theorem dX6_dated_54 : decode cX6_dated 54 = .ok (.aload_n 0, 1) := by decide +kernel
theorem dX6_dated_55 : decode cX6_dated 55 = .ok (.aload_n 0, 1) := by decide +kernel
theorem dX6_dated_56 : decode cX6_dated 56 = .ok (.getfield 49, 3) := by decide +kernel
theorem dX6_dated_59 : decode cX6_dated 59 = .ok (.iload_n 1, 1) := by decide +kernel
theorem dX6_dated_60 : decode cX6_dated 60 = .ok (.aaload, 1) := by decide +kernel
theorem dX6_dated_61 : decode cX6_dated 61 = .ok (.iconst 0, 1) := by decide +kernel
theorem dX6_dated_62 : decode cX6_dated 62 = .ok (.invokevirtual 218, 3) := by decide +kernel
theorem dX6_dated_65 : decode cX6_dated 65 = .ok (.istore 6, 2) := by decide +kernel
theorem dX6_dated_67 : decode cX6_dated 67 = .ok (.iconst 1, 1) := by decide +kernel
theorem dX6_dated_68 : decode cX6_dated 68 = .ok (.istore 7, 2) := by decide +kernel
theorem dX6_dated_70 : decode cX6_dated 70 = .ok (.iload 7, 2) := by decide +kernel
theorem dX6_dated_72 : decode cX6_dated 72 = .ok (.bipush 100, 2) := by decide +kernel
theorem dX6_dated_74 : decode cX6_dated 74 = .ok (.if_icmp .gt 38, 3) := by decide +kernel
theorem dX6_dated_77 : decode cX6_dated 77 = .ok (.aload_n 0, 1) := by decide +kernel
theorem dX6_dated_78 : decode cX6_dated 78 = .ok (.aload_n 0, 1) := by decide +kernel
theorem dX6_dated_79 : decode cX6_dated 79 = .ok (.getfield 49, 3) := by decide +kernel
theorem dX6_dated_82 : decode cX6_dated 82 = .ok (.iload_n 1, 1) := by decide +kernel
theorem dX6_dated_83 : decode cX6_dated 83 = .ok (.aaload, 1) := by decide +kernel
theorem dX6_dated_84 : decode cX6_dated 84 = .ok (.iload 7, 2) := by decide +kernel
theorem dX6_dated_86 : decode cX6_dated 86 = .ok (.invokevirtual 218, 3) := by decide +kernel
theorem dX6_dated_89 : decode cX6_dated 89 = .ok (.istore 8, 2) := by decide +kernel
theorem dX6_dated_91 : decode cX6_dated 91 = .ok (.iload 8, 2) := by decide +kernel
theorem dX6_dated_93 : decode cX6_dated 93 = .ok (.iload 6, 2) := by decide +kernel
theorem dX6_dated_95 : decode cX6_dated 95 = .ok (.if_icmp .ge 11, 3) := by decide +kernel
theorem dX6_dated_98 : decode cX6_dated 98 = .ok (.iload 7, 2) := by decide +kernel
theorem dX6_dated_100 : decode cX6_dated 100 = .ok (.istore 5, 2) := by decide +kernel
theorem dX6_dated_102 : decode cX6_dated 102 = .ok (.iload 8, 2) := by decide +kernel
theorem dX6_dated_104 : decode cX6_dated 104 = .ok (.istore 6, 2) := by decide +kernel
theorem dX6_dated_106 : decode cX6_dated 106 = .ok (.iinc 7 1, 3) := by decide +kernel
theorem dX6_dated_109 : decode cX6_dated 109 = .ok (.goto (-39), 3) := by decide +kernel
theorem dX6_dated_112 : decode cX6_dated 112 = .ok (.iload 4, 2) := by decide +kernel
theorem dX6_dated_114 : decode cX6_dated 114 = .ok (.ifCond .ne 8, 3) := by decide +kernel
theorem dX6_dated_117 : decode cX6_dated 117 = .ok (.iload 5, 2) := by decide +kernel
theorem dX6_dated_119 : decode cX6_dated 119 = .ok (.goto 5, 3) := by decide +kernel
theorem dX6_dated_122 : decode cX6_dated 122 = .ok (.iload 6, 2) := by decide +kernel
theorem dX6_dated_124 : decode cX6_dated 124 = .ok (.ireturn, 1) := by decide +kernel
set_option maxHeartbeats 4000000 in
set_option maxRecDepth 100000 in
theorem w_X6_dated_L70 {g : sk_G} {l : Launch} {p : Program} {e : Env} {s : State} {m : MethodId} {av : Array Value} {below : List Frame} {meth : Method} {c : Code} (C : sk_C g p s m av meth c cX6_dated 9 RX6 (some .int)) (a1 : Int32) (a4 : Int32) (M : sk_M) {rr : Int32} {MM : sk_M} :
    ∀ (n : Nat) (a5 : Int32) (a6 : Int32) (a7 : Int32) (H : Heap) (locs : List Loc) (ls : Array Slot), lv_has ls 9 [(0, .ref (sk_ad g 0)), (1, .int a1), (4, .int a4), (5, .int a5), (6, .int a6), (7, .int a7)] → sk_P g M H → va_S (sk_A g) s.heap H locs → ∀ {out : Int32 × Int32}, f_X6_dated_L70 a1 a4 M n a5 a6 a7 = some out → (∀ (x5 : Int32) (x6 : Int32) (H : Heap) (locs : List Loc) (ls : Array Slot), some (x5, x6) = some out → lv_has ls 9 [(4, .int a4), (5, .int x5), (6, .int x6)] → sk_P g M H → va_S (sk_A g) s.heap H locs → W p l e (sk_rm 5) s m av below meth c H locs 0 0 (MQ below (sk_QI g rr MM) av s 0 0 (sk_A g)) (F0 m 112 ls [])) → W p l e (sk_rm 5) s m av below meth c H locs 0 0 (MQ below (sk_QI g rr MM) av s 0 0 (sk_A g)) (F0 m 70 ls []) := by
  obtain ⟨hx, hb, hml, hown, hts, hK, hE, hr, hlocks⟩ := id C
  intro n
  induction n with
  | zero =>
    intro a5 a6 a7 H locs ls hl hM hS out h
    cases h
  | succ n ih =>
    intro a5 a6 a7 H locs ls hl hM hS out h kx
    rw [f_X6_dated_L70] at h
    refine lv_iload hx hb dX6_dated_70 (lv_at hl 5 rfl) ?_
    refine lv_bipush (v := 100) hx hb dX6_dated_72 (by decide) ?_
    refine lv_icmp_gt hx hb dX6_dated_74 rfl (fun hc => ?_) (fun hc => ?_)
    · have h := sk_pos h hc
      exact kx _ _ _ _ _ h (lv_sub hl [2, 3, 4] rfl) hM hS
    · have h := sk_neg h hc
      refine lv_aload_n hx hb dX6_dated_77 rfl (lv_at hl 0 rfl) ?_
      refine lv_aload_n hx hb dX6_dated_78 rfl (lv_at hl 0 rfl) ?_
      refine sk_getR (o := 0) (ci := 6) (j := 6) (t := 1) C hM rfl rfl (by decide) rfl rfl kw_303 dX6_dated_79 ?_
      refine lv_iload_n hx hb dX6_dated_82 rfl (lv_at hl 1 rfl) ?_
      obtain ⟨i_10, h⟩ := sk_chkE h
      refine sk_aald (o := 1) (k := 1) (t := (65 + 2 * a1.toNatClampNeg)) C hM rfl (by decide) i_10 rfl dX6_dated_83 ?_
      refine lv_iload hx hb dX6_dated_84 (lv_at hl 5 rfl) ?_
      obtain ⟨x_11, h_12, h⟩ := sk_b1E h
      refine sk_contI (sk_runV (As := [.ref (sk_ad g (65 + 2 * a1.toNatClampNeg)), .int a7]) (rest := []) C (c_X6_differences g l (65 + 2 * a1.toNatClampNeg) (sk_isH_a (sk_in_lt i_10)) a7 M h_12) yo_X6_differences kw_602 (sk_recv (ci := 6) C hM rfl rfl) (by decide) hM hS hl.1 rfl rfl (Nat.le_of_ble_eq_true rfl) dX6_dated_86) hS (fun H locs hM hS => ?_)
      refine lv_istore (lv' := [(8, .int x_11), (0, .ref (sk_ad g 0)), (1, .int a1), (4, .int a4), (5, .int a5), (6, .int a6), (7, .int a7)]) hx hb dX6_dated_89 hl (by decide) rfl (fun ls hl => ?_)
      refine lv_iload hx hb dX6_dated_91 (lv_at hl 0 rfl) ?_
      refine lv_iload hx hb dX6_dated_93 (lv_at hl 5 rfl) ?_
      refine lv_icmp_ge hx hb dX6_dated_95 rfl (fun hc => ?_) (fun hc => ?_)
      · have h := sk_pos h hc
        refine lv_iinc (v := (a7 + 1)) (lv' := [(7, .int (a7 + 1)), (8, .int x_11), (0, .ref (sk_ad g 0)), (1, .int a1), (4, .int a4), (5, .int a5), (6, .int a6)]) hx hb dX6_dated_106 hl (k := 6) rfl rfl (by decide) rfl (fun ls hl => ?_)
        refine lv_goto hx hb dX6_dated_109 rfl ?_
        exact ih a5 a6 (a7 + 1) _ _ _ (lv_sub hl [2, 3, 4, 5, 6, 0] rfl) hM hS h kx
      · have h := sk_neg h hc
        refine lv_iload hx hb dX6_dated_98 (lv_at hl 6 rfl) ?_
        refine lv_istore (lv' := [(5, .int a7), (8, .int x_11), (0, .ref (sk_ad g 0)), (1, .int a1), (4, .int a4), (6, .int a6), (7, .int a7)]) hx hb dX6_dated_100 hl (by decide) rfl (fun ls hl => ?_)
        refine lv_iload hx hb dX6_dated_102 (lv_at hl 1 rfl) ?_
        refine lv_istore (lv' := [(6, .int x_11), (5, .int a7), (8, .int x_11), (0, .ref (sk_ad g 0)), (1, .int a1), (4, .int a4), (7, .int a7)]) hx hb dX6_dated_104 hl (by decide) rfl (fun ls hl => ?_)
        refine lv_iinc (v := (a7 + 1)) (lv' := [(7, .int (a7 + 1)), (6, .int x_11), (5, .int a7), (8, .int x_11), (0, .ref (sk_ad g 0)), (1, .int a1), (4, .int a4)]) hx hb dX6_dated_106 hl (k := 6) rfl rfl (by decide) rfl (fun ls hl => ?_)
        refine lv_goto hx hb dX6_dated_109 rfl ?_
        exact ih a7 x_11 (a7 + 1) _ _ _ (lv_sub hl [4, 5, 6, 2, 1, 0] rfl) hM hS h kx
set_option maxHeartbeats 4000000 in
set_option maxRecDepth 100000 in
theorem c_X6_dated (g : sk_G) (l : Launch) (a1 : Int32) (a2 : Int32) (a3 : Int32) (a4 : Int32) (M : sk_M) {rr : Int32} {MM : sk_M} (h : f_X6_dated a1 a2 a3 a4 M = some (rr, MM)) : sk_MI g l yX6_dated cX6_dated 9 (some .int) 5 [.ref (sk_ad g 0), .int a1, .int a2, .int a3, .int a4] M rr MM := by
  refine sk_go [(0, .ref (sk_ad g 0)), (1, .int a1), (2, .int a2), (3, .int a3), (4, .int a4)] (by decide) (Nat.le_of_ble_eq_true rfl) rfl ?_
  intro p e s m av below meth c C ls hl hM hS
  obtain ⟨hx, hb, hml, hown, hts, hK, hE, hr, hlocks⟩ := id C
  rw [f_X6_dated] at h
  refine lv_iload_n hx hb dX6_dated_0 rfl (lv_at hl 1 rfl) ?_
  refine sk_contI (sk_runS (As := [.int a1]) (rest := []) C (c_X6_isSheet g l a1 M rfl) yo_X6_isSheet kw_594 (by decide) hM hS hl.1 rfl rfl (Nat.le_of_ble_eq_true rfl) dX6_dated_1) hS (fun H locs hM hS => ?_)
  refine lv_if_eq hx hb dX6_dated_4 rfl (fun hc => ?_) (fun hc => ?_)
  · have h := sk_pos h hc
    refine lv_ldc (v := (-1000000001)) hx hb hown (hts _ kw_347) dX6_dated_26 ?_
    exact sk_iret C hM hS (sk_e2 h) dX6_dated_28
  · have h := sk_neg h hc
    refine lv_aload_n hx hb dX6_dated_7 rfl (lv_at hl 0 rfl) ?_
    refine lv_iload_n hx hb dX6_dated_8 rfl (lv_at hl 2 rfl) ?_
    refine lv_iload_n hx hb dX6_dated_9 rfl (lv_at hl 3 rfl) ?_
    refine sk_contI (sk_runV (As := [.int a2, .int a3]) (rest := []) C (c_X6_isSpot g l a2 a3 M rfl) yo_X6_isSpot kw_430 (sk_recv (ci := 6) C hM rfl rfl) (by decide) hM hS hl.1 rfl rfl (Nat.le_of_ble_eq_true rfl) dX6_dated_10) hS (fun H locs hM hS => ?_)
    refine lv_if_eq hx hb dX6_dated_13 rfl (fun hc => ?_) (fun hc => ?_)
    · have h := sk_pos h hc
      refine lv_ldc (v := (-1000000001)) hx hb hown (hts _ kw_347) dX6_dated_26 ?_
      exact sk_iret C hM hS (sk_e2 h) dX6_dated_28
    · have h := sk_neg h hc
      refine lv_iload hx hb dX6_dated_16 (lv_at hl 4 rfl) ?_
      refine lv_iconst (v := 0) hx hb dX6_dated_18 (by decide) ?_
      refine lv_iconst (v := 1) hx hb dX6_dated_19 (by decide) ?_
      refine sk_contI (sk_runS (As := [.int a4, .int 0, .int 1]) (rest := []) C (c_X6_within g l a4 0 1 M rfl) yo_X6_within kw_344 (by decide) hM hS hl.1 rfl rfl (Nat.le_of_ble_eq_true rfl) dX6_dated_20) hS (fun H locs hM hS => ?_)
      refine lv_if_ne hx hb dX6_dated_23 rfl (fun hc => ?_) (fun hc => ?_)
      · have h := sk_neg h hc
        refine lv_aload_n hx hb dX6_dated_29 rfl (lv_at hl 0 rfl) ?_
        refine sk_getR (o := 0) (ci := 6) (j := 6) (t := 1) C hM rfl rfl (by decide) rfl rfl kw_303 dX6_dated_30 ?_
        refine lv_iload_n hx hb dX6_dated_33 rfl (lv_at hl 1 rfl) ?_
        obtain ⟨i_4, h⟩ := sk_chkE h
        refine sk_aald (o := 1) (k := 1) (t := (65 + 2 * a1.toNatClampNeg)) C hM rfl (by decide) i_4 rfl dX6_dated_34 ?_
        refine sk_getI (o := (65 + 2 * a1.toNatClampNeg)) (ci := 1) (j := 1) C hM (sk_isH_kd (sk_isH_a (sk_in_lt i_4))) rfl (by decide) rfl kw_260 dX6_dated_35 ?_
        refine lv_iconst (v := (-1)) hx hb dX6_dated_38 (by decide) ?_
        refine lv_icmp_ne hx hb dX6_dated_39 rfl (fun hc => ?_) (fun hc => ?_)
        · have h := sk_neg h hc
          refine lv_aload_n hx hb dX6_dated_45 rfl (lv_at hl 0 rfl) ?_
          refine lv_iload_n hx hb dX6_dated_46 rfl (lv_at hl 2 rfl) ?_
          refine lv_iload_n hx hb dX6_dated_47 rfl (lv_at hl 3 rfl) ?_
          obtain ⟨M_5, h_6, h⟩ := sk_b1E h
          refine sk_contV (sk_runV (As := [.int a2, .int a3]) (rest := []) C (c_X6_followCourse g l a2 a3 M h_6) yo_X6_followCourse kw_598 (sk_recv (ci := 6) C hM rfl rfl) (by decide) hM hS hl.1 rfl rfl (Nat.le_of_ble_eq_true rfl) dX6_dated_48) hS (fun H locs hM hS => ?_)
          refine lv_iconst (v := 0) hx hb dX6_dated_51 (by decide) ?_
          refine lv_istore (lv' := [(5, .int 0), (0, .ref (sk_ad g 0)), (1, .int a1), (2, .int a2), (3, .int a3), (4, .int a4)]) hx hb dX6_dated_52 hl (by decide) rfl (fun ls hl => ?_)
          refine lv_aload_n hx hb dX6_dated_54 rfl (lv_at hl 1 rfl) ?_
          refine lv_aload_n hx hb dX6_dated_55 rfl (lv_at hl 1 rfl) ?_
          refine sk_getR (o := 0) (ci := 6) (j := 6) (t := 1) C hM rfl rfl (by decide) rfl rfl kw_303 dX6_dated_56 ?_
          refine lv_iload_n hx hb dX6_dated_59 rfl (lv_at hl 2 rfl) ?_
          obtain ⟨i_7, h⟩ := sk_chkE h
          refine sk_aald (o := 1) (k := 1) (t := (65 + 2 * a1.toNatClampNeg)) C hM rfl (by decide) i_7 rfl dX6_dated_60 ?_
          refine lv_iconst (v := 0) hx hb dX6_dated_61 (by decide) ?_
          obtain ⟨x_8, h_9, h⟩ := sk_b1E h
          refine sk_contI (sk_runV (As := [.ref (sk_ad g (65 + 2 * a1.toNatClampNeg)), .int 0]) (rest := []) C (c_X6_differences g l (65 + 2 * a1.toNatClampNeg) (sk_isH_a (sk_in_lt i_7)) 0 M_5 h_9) yo_X6_differences kw_602 (sk_recv (ci := 6) C hM rfl rfl) (by decide) hM hS hl.1 rfl rfl (Nat.le_of_ble_eq_true rfl) dX6_dated_62) hS (fun H locs hM hS => ?_)
          refine lv_istore (lv' := [(6, .int x_8), (5, .int 0), (0, .ref (sk_ad g 0)), (1, .int a1), (2, .int a2), (3, .int a3), (4, .int a4)]) hx hb dX6_dated_65 hl (by decide) rfl (fun ls hl => ?_)
          refine lv_iconst (v := 1) hx hb dX6_dated_67 (by decide) ?_
          refine lv_istore (lv' := [(7, .int 1), (6, .int x_8), (5, .int 0), (0, .ref (sk_ad g 0)), (1, .int a1), (2, .int a2), (3, .int a3), (4, .int a4)]) hx hb dX6_dated_68 hl (by decide) rfl (fun ls hl => ?_)
          obtain ⟨x_13, x_14, h_15, h⟩ := sk_b2E h
          refine w_X6_dated_L70 C a1 a4 M_5 sk_FU 0 x_8 1 _ _ _ (lv_sub hl [3, 4, 7, 2, 1, 0] rfl) hM hS h_15 (fun y_16 y_17 H locs ls he hl hM hS => ?_)
          obtain ⟨rfl, rfl⟩ := sk_e2 he
          refine lv_iload hx hb dX6_dated_112 (lv_at hl 0 rfl) ?_
          have J : ∀ (vv : Int32) (H : Heap) (locs : List Loc), (if a4 = 0 then y_16 else y_17 : Int32) = vv → sk_P g M_5 H → va_S (sk_A g) s.heap H locs → W p l e (sk_rm 5) s m av below meth c H locs 0 0 (MQ below (sk_QI g rr MM) av s 0 0 (sk_A g)) (F0 m 124 ls [.int vv]) := by
            intro vv H locs hvv hM hS
            subst hvv
            exact sk_iret C hM hS (sk_e2 h) dX6_dated_124
          refine lv_if_ne hx hb dX6_dated_114 rfl (fun hc => ?_) (fun hc => ?_)
          · have J := fun vv H locs q => J vv H locs ((if_neg hc).trans q)
            refine lv_iload hx hb dX6_dated_122 (lv_at hl 2 rfl) ?_
            exact J _ _ _ rfl hM hS
          · have J := fun vv H locs q => J vv H locs ((if_pos hc).trans q)
            refine lv_iload hx hb dX6_dated_117 (lv_at hl 1 rfl) ?_
            refine lv_goto hx hb dX6_dated_119 rfl ?_
            exact J _ _ _ rfl hM hS
        · have h := sk_pos h hc
          refine lv_ldc (v := (-1000000011)) hx hb hown (hts _ kw_597) dX6_dated_42 ?_
          exact sk_iret C hM hS (sk_e2 h) dX6_dated_44
      · have h := sk_pos h hc
        refine lv_ldc (v := (-1000000001)) hx hb hown (hts _ kw_347) dX6_dated_26 ?_
        exact sk_iret C hM hS (sk_e2 h) dX6_dated_28
theorem dX6_price_0 : decode cX6_price 0 = .ok (.aload_n 0, 1) := by decide +kernel
theorem dX6_price_1 : decode cX6_price 1 = .ok (.iload_n 1, 1) := by decide +kernel
theorem dX6_price_2 : decode cX6_price 2 = .ok (.invokevirtual 160, 3) := by decide +kernel
theorem dX6_price_5 : decode cX6_price 5 = .ok (.ifCond .ne 6, 3) := by decide +kernel
theorem dX6_price_8 : decode cX6_price 8 = .ok (.ldc 79, 2) := by decide +kernel
theorem dX6_price_10 : decode cX6_price 10 = .ok (.ireturn, 1) := by decide +kernel
theorem dX6_price_11 : decode cX6_price 11 = .ok (.aload_n 0, 1) := by decide +kernel
theorem dX6_price_12 : decode cX6_price 12 = .ok (.getfield 28, 3) := by decide +kernel
theorem dX6_price_15 : decode cX6_price 15 = .ok (.aload_n 0, 1) := by decide +kernel
theorem dX6_price_16 : decode cX6_price 16 = .ok (.getfield 28, 3) := by decide +kernel
theorem dX6_price_19 : decode cX6_price 19 = .ok (.getfield 142, 3) := by decide +kernel
theorem dX6_price_22 : decode cX6_price 22 = .ok (.iload_n 1, 1) := by decide +kernel
theorem dX6_price_23 : decode cX6_price 23 = .ok (.aaload, 1) := by decide +kernel
theorem dX6_price_24 : decode cX6_price 24 = .ok (.invokevirtual 222, 3) := by decide +kernel
theorem dX6_price_27 : decode cX6_price 27 = .ok (.istore_n 2, 1) := by decide +kernel
theorem dX6_price_28 : decode cX6_price 28 = .ok (.aload_n 0, 1) := by decide +kernel
theorem dX6_price_29 : decode cX6_price 29 = .ok (.getfield 28, 3) := by decide +kernel
theorem dX6_price_32 : decode cX6_price 32 = .ok (.getfield 226, 3) := by decide +kernel
theorem dX6_price_35 : decode cX6_price 35 = .ok (.iconst 1, 1) := by decide +kernel
theorem dX6_price_36 : decode cX6_price 36 = .ok (.iaload, 1) := by decide +kernel
theorem dX6_price_37 : decode cX6_price 37 = .ok (.istore_n 3, 1) := by decide +kernel
theorem dX6_price_38 : decode cX6_price 38 = .ok (.iload_n 3, 1) := by decide +kernel
theorem dX6_price_39 : decode cX6_price 39 = .ok (.ldc 188, 2) := by decide +kernel
theorem dX6_price_41 : decode cX6_price 41 = .ok (.if_icmp .ne 7, 3) := by decide +kernel
theorem dX6_price_44 : decode cX6_price 44 = .ok (.iload_n 2, 1) := by decide +kernel
theorem dX6_price_45 : decode cX6_price 45 = .ok (.goto 29, 3) := by decide +kernel
theorem dX6_price_48 : decode cX6_price 48 = .ok (.aload_n 0, 1) := by decide +kernel
theorem dX6_price_49 : decode cX6_price 49 = .ok (.getfield 10, 3) := by decide +kernel
theorem dX6_price_52 : decode cX6_price 52 = .ok (.iload_n 3, 1) := by decide +kernel
theorem dX6_price_53 : decode cX6_price 53 = .ok (.iload_n 2, 1) := by decide +kernel
theorem dX6_price_54 : decode cX6_price 54 = .ok (.aload_n 0, 1) := by decide +kernel
theorem dX6_price_55 : decode cX6_price 55 = .ok (.getfield 28, 3) := by decide +kernel
theorem dX6_price_58 : decode cX6_price 58 = .ok (.aload_n 0, 1) := by decide +kernel
theorem dX6_price_59 : decode cX6_price 59 = .ok (.getfield 28, 3) := by decide +kernel
theorem dX6_price_62 : decode cX6_price 62 = .ok (.getfield 142, 3) := by decide +kernel
theorem dX6_price_65 : decode cX6_price 65 = .ok (.iload_n 1, 1) := by decide +kernel
theorem dX6_price_66 : decode cX6_price 66 = .ok (.aaload, 1) := by decide +kernel
theorem dX6_price_67 : decode cX6_price 67 = .ok (.invokevirtual 229, 3) := by decide +kernel
theorem dX6_price_70 : decode cX6_price 70 = .ok (.iconst 0, 1) := by decide +kernel
theorem dX6_price_71 : decode cX6_price 71 = .ok (.invokevirtual 232, 3) := by decide +kernel
theorem dX6_price_74 : decode cX6_price 74 = .ok (.ireturn, 1) := by decide +kernel
set_option maxHeartbeats 4000000 in
set_option maxRecDepth 100000 in
theorem c_X6_price (g : sk_G) (l : Launch) (a1 : Int32) (M : sk_M) {rr : Int32} {MM : sk_M} (h : f_X6_price a1 M = some (rr, MM)) : sk_MI g l yX6_price cX6_price 4 (some .int) 3 [.ref (sk_ad g 0), .int a1] M rr MM := by
  refine sk_go [(0, .ref (sk_ad g 0)), (1, .int a1)] (by decide) (Nat.le_of_ble_eq_true rfl) rfl ?_
  intro p e s m av below meth c C ls hl hM hS
  obtain ⟨hx, hb, hml, hown, hts, hK, hE, hr, hlocks⟩ := id C
  rw [f_X6_price] at h
  refine lv_aload_n hx hb dX6_price_0 rfl (lv_at hl 0 rfl) ?_
  refine lv_iload_n hx hb dX6_price_1 rfl (lv_at hl 1 rfl) ?_
  refine sk_contI (sk_runV (As := [.int a1]) (rest := []) C (c_X6_isCloth g l a1 M rfl) yo_X6_isCloth kw_434 (sk_recv (ci := 6) C hM rfl rfl) (by decide) hM hS hl.1 rfl rfl (Nat.le_of_ble_eq_true rfl) dX6_price_2) hS (fun H locs hM hS => ?_)
  refine lv_if_ne hx hb dX6_price_5 rfl (fun hc => ?_) (fun hc => ?_)
  · have h := sk_neg h hc
    refine lv_aload_n hx hb dX6_price_11 rfl (lv_at hl 0 rfl) ?_
    refine sk_getR (o := 0) (ci := 6) (j := 0) (t := 10) C hM rfl rfl (by decide) rfl rfl kw_297 dX6_price_12 ?_
    refine lv_aload_n hx hb dX6_price_15 rfl (lv_at hl 0 rfl) ?_
    refine sk_getR (o := 0) (ci := 6) (j := 0) (t := 10) C hM rfl rfl (by decide) rfl rfl kw_297 dX6_price_16 ?_
    refine sk_getR (o := 10) (ci := 5) (j := 7) (t := 17) C hM rfl rfl (by decide) rfl rfl kw_181 dX6_price_19 ?_
    refine lv_iload_n hx hb dX6_price_22 rfl (lv_at hl 1 rfl) ?_
    obtain ⟨i_2, h⟩ := sk_chkE h
    refine sk_aald (o := 17) (k := 0) (t := (20 + a1.toNatClampNeg)) C hM rfl (by decide) i_2 rfl dX6_price_23 ?_
    obtain ⟨x_3, h_4, h⟩ := sk_b1E h
    refine sk_contI (sk_runV (As := [.ref (sk_ad g (20 + a1.toNatClampNeg))]) (rest := []) C (c_X5_sumOf g l 10 (Or.inl rfl) (20 + a1.toNatClampNeg) (sk_kd_s20 (sk_in_lt i_2)) M h_4) yo_X5_sumOf kw_613 (sk_recv (ci := 5) C hM rfl rfl) (by decide) hM hS hl.1 rfl rfl (Nat.le_of_ble_eq_true rfl) dX6_price_24) hS (fun H locs hM hS => ?_)
    refine lv_istore_n (lv' := [(2, .int x_3), (0, .ref (sk_ad g 0)), (1, .int a1)]) hx hb dX6_price_27 rfl hl (by decide) rfl (fun ls hl => ?_)
    refine lv_aload_n hx hb dX6_price_28 rfl (lv_at hl 1 rfl) ?_
    refine sk_getR (o := 0) (ci := 6) (j := 0) (t := 10) C hM rfl rfl (by decide) rfl rfl kw_297 dX6_price_29 ?_
    refine sk_getR (o := 10) (ci := 5) (j := 8) (t := 18) C hM rfl rfl (by decide) rfl rfl kw_183 dX6_price_32 ?_
    refine lv_iconst (v := 1) hx hb dX6_price_35 (by decide) ?_
    refine sk_iald (o := 18) C hM rfl (by decide) dX6_price_36 ?_
    refine W.eq (g2 := F0 m 37 ls [.int (M 18 1)]) rfl ?_
    refine lv_topi (fun x_5 ex_5 => ?_)
    have h := sk_letU h ex_5
    refine lv_istore_n (lv' := [(3, .int x_5), (2, .int x_3), (0, .ref (sk_ad g 0)), (1, .int a1)]) hx hb dX6_price_37 rfl hl (by decide) rfl (fun ls hl => ?_)
    refine lv_iload_n hx hb dX6_price_38 rfl (lv_at hl 0 rfl) ?_
    refine lv_ldc (v := (-1000000005)) hx hb hown (hts _ kw_544) dX6_price_39 ?_
    refine lv_icmp_ne hx hb dX6_price_41 rfl (fun hc => ?_) (fun hc => ?_)
    · have h := sk_neg h hc
      refine lv_aload_n hx hb dX6_price_48 rfl (lv_at hl 2 rfl) ?_
      refine sk_getR (o := 0) (ci := 6) (j := 4) (t := 42) C hM rfl rfl (by decide) rfl rfl kw_301 dX6_price_49 ?_
      refine lv_iload_n hx hb dX6_price_52 rfl (lv_at hl 0 rfl) ?_
      refine lv_iload_n hx hb dX6_price_53 rfl (lv_at hl 1 rfl) ?_
      refine lv_aload_n hx hb dX6_price_54 rfl (lv_at hl 2 rfl) ?_
      refine sk_getR (o := 0) (ci := 6) (j := 0) (t := 10) C hM rfl rfl (by decide) rfl rfl kw_297 dX6_price_55 ?_
      refine lv_aload_n hx hb dX6_price_58 rfl (lv_at hl 2 rfl) ?_
      refine sk_getR (o := 0) (ci := 6) (j := 0) (t := 10) C hM rfl rfl (by decide) rfl rfl kw_297 dX6_price_59 ?_
      refine sk_getR (o := 10) (ci := 5) (j := 7) (t := 17) C hM rfl rfl (by decide) rfl rfl kw_181 dX6_price_62 ?_
      refine lv_iload_n hx hb dX6_price_65 rfl (lv_at hl 3 rfl) ?_
      obtain ⟨i_6, h⟩ := sk_chkE h
      refine sk_aald (o := 17) (k := 0) (t := (20 + a1.toNatClampNeg)) C hM rfl (by decide) i_6 rfl dX6_price_66 ?_
      obtain ⟨x_7, h_8, h⟩ := sk_b1E h
      refine sk_contI (sk_runV (As := [.ref (sk_ad g (20 + a1.toNatClampNeg))]) (rest := [.int x_3, .int x_5, .ref (sk_ad g 42)]) C (c_X5_present g l 10 (Or.inl rfl) (20 + a1.toNatClampNeg) (sk_kd_s20 (sk_in_lt i_6)) M h_8) yo_X5_present kw_617 (sk_recv (ci := 5) C hM rfl rfl) (by decide) hM hS hl.1 rfl rfl (Nat.le_of_ble_eq_true rfl) dX6_price_67) hS (fun H locs hM hS => ?_)
      refine lv_iconst (v := 0) hx hb dX6_price_70 (by decide) ?_
      obtain ⟨x_9, M_10, h_11, h⟩ := sk_b2E h
      refine sk_contI (sk_runV (As := [.int x_5, .int x_3, .int x_7, .int 0]) (rest := []) C (c_X3_give g l x_5 x_3 x_7 0 M h_11) yo_X3_give kw_621 (sk_recv (ci := 3) C hM rfl rfl) (by decide) hM hS hl.1 rfl rfl (Nat.le_of_ble_eq_true rfl) dX6_price_71) hS (fun H locs hM hS => ?_)
      exact sk_iret C hM hS (sk_e2 h) dX6_price_74
    · have h := sk_pos h hc
      refine lv_iload_n hx hb dX6_price_44 rfl (lv_at hl 1 rfl) ?_
      refine lv_goto hx hb dX6_price_45 rfl ?_
      exact sk_iret C hM hS (sk_e2 h) dX6_price_74
  · have h := sk_pos h hc
    refine lv_ldc (v := (-1000000001)) hx hb hown (hts _ kw_347) dX6_price_8 ?_
    exact sk_iret C hM hS (sk_e2 h) dX6_price_10
theorem dX6_wordOr99_0 : decode cX6_wordOr99 0 = .ok (.iload_n 0, 1) := by decide +kernel
theorem dX6_wordOr99_1 : decode cX6_wordOr99 1 = .ok (.ldc 188, 2) := by decide +kernel
theorem dX6_wordOr99_3 : decode cX6_wordOr99 3 = .ok (.if_icmp .ne 8, 3) := by decide +kernel
theorem dX6_wordOr99_6 : decode cX6_wordOr99 6 = .ok (.bipush 99, 2) := by decide +kernel
theorem dX6_wordOr99_8 : decode cX6_wordOr99 8 = .ok (.goto 4, 3) := by decide +kernel
theorem dX6_wordOr99_11 : decode cX6_wordOr99 11 = .ok (.iload_n 0, 1) := by decide +kernel
theorem dX6_wordOr99_12 : decode cX6_wordOr99 12 = .ok (.ireturn, 1) := by decide +kernel
set_option maxHeartbeats 4000000 in
set_option maxRecDepth 100000 in
theorem c_X6_wordOr99 (g : sk_G) (l : Launch) (a0 : Int32) (M : sk_M) {rr : Int32} (h : f_X6_wordOr99 a0 = rr) : sk_MI g l yX6_wordOr99 cX6_wordOr99 1 (some .int) 1 [.int a0] M rr M := by
  refine sk_go [(0, .int a0)] (by decide) (Nat.le_of_ble_eq_true rfl) rfl ?_
  intro p e s m av below meth c C ls hl hM hS
  obtain ⟨hx, hb, hml, hown, hts, hK, hE, hr, hlocks⟩ := id C
  rw [f_X6_wordOr99] at h
  refine lv_iload_n hx hb dX6_wordOr99_0 rfl (lv_at hl 0 rfl) ?_
  refine lv_ldc (v := (-1000000005)) hx hb hown (hts _ kw_544) dX6_wordOr99_1 ?_
  have J : ∀ (vv : Int32) (H : Heap) (locs : List Loc), (if a0 = (-1000000005) then 99 else a0 : Int32) = vv → sk_P g M H → va_S (sk_A g) s.heap H locs → W p l e (sk_rm 1) s m av below meth c H locs 0 0 (MQ below (sk_QI g rr M) av s 0 0 (sk_A g)) (F0 m 12 ls [.int vv]) := by
    intro vv H locs hvv hM hS
    subst hvv
    exact sk_iret C hM hS ⟨h, rfl⟩ dX6_wordOr99_12
  refine lv_icmp_ne hx hb dX6_wordOr99_3 rfl (fun hc => ?_) (fun hc => ?_)
  · have J := fun vv H locs q => J vv H locs ((if_neg hc).trans q)
    refine lv_iload_n hx hb dX6_wordOr99_11 rfl (lv_at hl 0 rfl) ?_
    exact J _ _ _ rfl hM hS
  · have J := fun vv H locs q => J vv H locs ((if_pos hc).trans q)
    refine lv_bipush (v := 99) hx hb dX6_wordOr99_6 (by decide) ?_
    refine lv_goto hx hb dX6_wordOr99_8 rfl ?_
    exact J _ _ _ rfl hM hS
theorem dX6_lie_0 : decode cX6_lie 0 = .ok (.aload_n 0, 1) := by decide +kernel
theorem dX6_lie_1 : decode cX6_lie 1 = .ok (.iload_n 1, 1) := by decide +kernel
theorem dX6_lie_2 : decode cX6_lie 2 = .ok (.invokevirtual 160, 3) := by decide +kernel
theorem dX6_lie_5 : decode cX6_lie 5 = .ok (.ifCond .ne 6, 3) := by decide +kernel
theorem dX6_lie_8 : decode cX6_lie 8 = .ok (.ldc 79, 2) := by decide +kernel
theorem dX6_lie_10 : decode cX6_lie 10 = .ok (.ireturn, 1) := by decide +kernel
theorem dX6_lie_11 : decode cX6_lie 11 = .ok (.aload_n 0, 1) := by decide +kernel
theorem dX6_lie_12 : decode cX6_lie 12 = .ok (.getfield 28, 3) := by decide +kernel
theorem dX6_lie_15 : decode cX6_lie 15 = .ok (.getfield 226, 3) := by decide +kernel
theorem dX6_lie_18 : decode cX6_lie 18 = .ok (.iconst 2, 1) := by decide +kernel
theorem dX6_lie_19 : decode cX6_lie 19 = .ok (.iaload, 1) := by decide +kernel
theorem dX6_lie_20 : decode cX6_lie 20 = .ok (.istore_n 2, 1) := by decide +kernel
theorem dX6_lie_21 : decode cX6_lie 21 = .ok (.iload_n 2, 1) := by decide +kernel
theorem dX6_lie_22 : decode cX6_lie 22 = .ok (.ldc 188, 2) := by decide +kernel
theorem dX6_lie_24 : decode cX6_lie 24 = .ok (.if_icmp .ne 7, 3) := by decide +kernel
theorem dX6_lie_27 : decode cX6_lie 27 = .ok (.iconst 0, 1) := by decide +kernel
theorem dX6_lie_28 : decode cX6_lie 28 = .ok (.goto 39, 3) := by decide +kernel
theorem dX6_lie_31 : decode cX6_lie 31 = .ok (.aload_n 0, 1) := by decide +kernel
theorem dX6_lie_32 : decode cX6_lie 32 = .ok (.getfield 10, 3) := by decide +kernel
theorem dX6_lie_35 : decode cX6_lie 35 = .ok (.iload_n 2, 1) := by decide +kernel
theorem dX6_lie_36 : decode cX6_lie 36 = .ok (.aload_n 0, 1) := by decide +kernel
theorem dX6_lie_37 : decode cX6_lie 37 = .ok (.getfield 28, 3) := by decide +kernel
theorem dX6_lie_40 : decode cX6_lie 40 = .ok (.getfield 149, 3) := by decide +kernel
theorem dX6_lie_43 : decode cX6_lie 43 = .ok (.aload_n 0, 1) := by decide +kernel
theorem dX6_lie_44 : decode cX6_lie 44 = .ok (.getfield 28, 3) := by decide +kernel
theorem dX6_lie_47 : decode cX6_lie 47 = .ok (.aload_n 0, 1) := by decide +kernel
theorem dX6_lie_48 : decode cX6_lie 48 = .ok (.getfield 28, 3) := by decide +kernel
theorem dX6_lie_51 : decode cX6_lie 51 = .ok (.getfield 142, 3) := by decide +kernel
theorem dX6_lie_54 : decode cX6_lie 54 = .ok (.iload_n 1, 1) := by decide +kernel
theorem dX6_lie_55 : decode cX6_lie 55 = .ok (.aaload, 1) := by decide +kernel
theorem dX6_lie_56 : decode cX6_lie 56 = .ok (.iconst 0, 1) := by decide +kernel
theorem dX6_lie_57 : decode cX6_lie 57 = .ok (.invokevirtual 174, 3) := by decide +kernel
theorem dX6_lie_60 : decode cX6_lie 60 = .ok (.invokestatic 235, 3) := by decide +kernel
theorem dX6_lie_63 : decode cX6_lie 63 = .ok (.iconst 0, 1) := by decide +kernel
theorem dX6_lie_64 : decode cX6_lie 64 = .ok (.invokevirtual 232, 3) := by decide +kernel
theorem dX6_lie_67 : decode cX6_lie 67 = .ok (.ireturn, 1) := by decide +kernel
set_option maxHeartbeats 4000000 in
set_option maxRecDepth 100000 in
theorem c_X6_lie (g : sk_G) (l : Launch) (a1 : Int32) (M : sk_M) {rr : Int32} {MM : sk_M} (h : f_X6_lie a1 M = some (rr, MM)) : sk_MI g l yX6_lie cX6_lie 3 (some .int) 4 [.ref (sk_ad g 0), .int a1] M rr MM := by
  refine sk_go [(0, .ref (sk_ad g 0)), (1, .int a1)] (by decide) (Nat.le_of_ble_eq_true rfl) rfl ?_
  intro p e s m av below meth c C ls hl hM hS
  obtain ⟨hx, hb, hml, hown, hts, hK, hE, hr, hlocks⟩ := id C
  rw [f_X6_lie] at h
  refine lv_aload_n hx hb dX6_lie_0 rfl (lv_at hl 0 rfl) ?_
  refine lv_iload_n hx hb dX6_lie_1 rfl (lv_at hl 1 rfl) ?_
  refine sk_contI (sk_runV (As := [.int a1]) (rest := []) C (c_X6_isCloth g l a1 M rfl) yo_X6_isCloth kw_434 (sk_recv (ci := 6) C hM rfl rfl) (by decide) hM hS hl.1 rfl rfl (Nat.le_of_ble_eq_true rfl) dX6_lie_2) hS (fun H locs hM hS => ?_)
  refine lv_if_ne hx hb dX6_lie_5 rfl (fun hc => ?_) (fun hc => ?_)
  · have h := sk_neg h hc
    refine lv_aload_n hx hb dX6_lie_11 rfl (lv_at hl 0 rfl) ?_
    refine sk_getR (o := 0) (ci := 6) (j := 0) (t := 10) C hM rfl rfl (by decide) rfl rfl kw_297 dX6_lie_12 ?_
    refine sk_getR (o := 10) (ci := 5) (j := 8) (t := 18) C hM rfl rfl (by decide) rfl rfl kw_183 dX6_lie_15 ?_
    refine lv_iconst (v := 2) hx hb dX6_lie_18 (by decide) ?_
    refine sk_iald (o := 18) C hM rfl (by decide) dX6_lie_19 ?_
    refine W.eq (g2 := F0 m 20 ls [.int (M 18 2)]) rfl ?_
    refine lv_topi (fun x_2 ex_2 => ?_)
    have h := sk_letU h ex_2
    refine lv_istore_n (lv' := [(2, .int x_2), (0, .ref (sk_ad g 0)), (1, .int a1)]) hx hb dX6_lie_20 rfl hl (by decide) rfl (fun ls hl => ?_)
    refine lv_iload_n hx hb dX6_lie_21 rfl (lv_at hl 0 rfl) ?_
    refine lv_ldc (v := (-1000000005)) hx hb hown (hts _ kw_544) dX6_lie_22 ?_
    refine lv_icmp_ne hx hb dX6_lie_24 rfl (fun hc => ?_) (fun hc => ?_)
    · have h := sk_neg h hc
      refine lv_aload_n hx hb dX6_lie_31 rfl (lv_at hl 1 rfl) ?_
      refine sk_getR (o := 0) (ci := 6) (j := 4) (t := 42) C hM rfl rfl (by decide) rfl rfl kw_301 dX6_lie_32 ?_
      refine lv_iload_n hx hb dX6_lie_35 rfl (lv_at hl 0 rfl) ?_
      refine lv_aload_n hx hb dX6_lie_36 rfl (lv_at hl 1 rfl) ?_
      refine sk_getR (o := 0) (ci := 6) (j := 0) (t := 10) C hM rfl rfl (by decide) rfl rfl kw_297 dX6_lie_37 ?_
      refine sk_getI (o := 10) (ci := 5) (j := 14) C hM rfl rfl (by decide) rfl kw_195 dX6_lie_40 ?_
      refine lv_aload_n hx hb dX6_lie_43 rfl (lv_at hl 1 rfl) ?_
      refine sk_getR (o := 0) (ci := 6) (j := 0) (t := 10) C hM rfl rfl (by decide) rfl rfl kw_297 dX6_lie_44 ?_
      refine lv_aload_n hx hb dX6_lie_47 rfl (lv_at hl 1 rfl) ?_
      refine sk_getR (o := 0) (ci := 6) (j := 0) (t := 10) C hM rfl rfl (by decide) rfl rfl kw_297 dX6_lie_48 ?_
      refine sk_getR (o := 10) (ci := 5) (j := 7) (t := 17) C hM rfl rfl (by decide) rfl rfl kw_181 dX6_lie_51 ?_
      refine lv_iload_n hx hb dX6_lie_54 rfl (lv_at hl 2 rfl) ?_
      obtain ⟨i_3, h⟩ := sk_chkE h
      refine sk_aald (o := 17) (k := 0) (t := (20 + a1.toNatClampNeg)) C hM rfl (by decide) i_3 rfl dX6_lie_55 ?_
      refine lv_iconst (v := 0) hx hb dX6_lie_56 (by decide) ?_
      obtain ⟨x_4, h_5, h⟩ := sk_b1E h
      refine sk_contI (sk_runV (As := [.ref (sk_ad g (20 + a1.toNatClampNeg)), .int 0]) (rest := [.int (M 10 14), .int x_2, .ref (sk_ad g 42)]) C (c_X5_said g l 10 (Or.inl rfl) (20 + a1.toNatClampNeg) (sk_kd_s20 (sk_in_lt i_3)) 0 M h_5) yo_X5_said kw_509 (sk_recv (ci := 5) C hM rfl rfl) (by decide) hM hS hl.1 rfl rfl (Nat.le_of_ble_eq_true rfl) dX6_lie_57) hS (fun H locs hM hS => ?_)
      refine sk_contI (sk_runS (As := [.int x_4]) (rest := [.int (M 10 14), .int x_2, .ref (sk_ad g 42)]) C (c_X6_wordOr99 g l x_4 M rfl) yo_X6_wordOr99 kw_626 (by decide) hM hS hl.1 rfl rfl (Nat.le_of_ble_eq_true rfl) dX6_lie_60) hS (fun H locs hM hS => ?_)
      refine lv_iconst (v := 0) hx hb dX6_lie_63 (by decide) ?_
      obtain ⟨x_7, M_8, h_9, h⟩ := sk_b2E h
      refine sk_contI (sk_runV (As := [.int x_2, .int (M 10 14), .int (f_X6_wordOr99 x_4), .int 0]) (rest := []) C (c_X3_give g l x_2 (M 10 14) (f_X6_wordOr99 x_4) 0 M h_9) yo_X3_give kw_621 (sk_recv (ci := 3) C hM rfl rfl) (by decide) hM hS hl.1 rfl rfl (Nat.le_of_ble_eq_true rfl) dX6_lie_64) hS (fun H locs hM hS => ?_)
      exact sk_iret C hM hS (sk_e2 h) dX6_lie_67
    · have h := sk_pos h hc
      refine lv_iconst (v := 0) hx hb dX6_lie_27 (by decide) ?_
      refine lv_goto hx hb dX6_lie_28 rfl ?_
      exact sk_iret C hM hS (sk_e2 h) dX6_lie_67
  · have h := sk_pos h hc
    refine lv_ldc (v := (-1000000001)) hx hb hown (hts _ kw_347) dX6_lie_8 ?_
    exact sk_iret C hM hS (sk_e2 h) dX6_lie_10
theorem dX6_feed_0 : decode cX6_feed 0 = .ok (.aload_n 0, 1) := by decide +kernel
theorem dX6_feed_1 : decode cX6_feed 1 = .ok (.getfield 19, 3) := by decide +kernel
theorem dX6_feed_4 : decode cX6_feed 4 = .ok (.getfield 238, 3) := by decide +kernel
theorem dX6_feed_7 : decode cX6_feed 7 = .ok (.bipush 12, 2) := by decide +kernel
theorem dX6_feed_9 : decode cX6_feed 9 = .ok (.iadd, 1) := by decide +kernel
theorem dX6_feed_10 : decode cX6_feed 10 = .ok (.bipush 96, 2) := by decide +kernel
theorem dX6_feed_12 : decode cX6_feed 12 = .ok (.if_icmp .le 6, 3) := by decide +kernel
theorem dX6_feed_15 : decode cX6_feed 15 = .ok (.ldc 117, 2) := by decide +kernel
theorem dX6_feed_17 : decode cX6_feed 17 = .ok (.ireturn, 1) := by decide +kernel
theorem dX6_feed_18 : decode cX6_feed 18 = .ok (.aload_n 0, 1) := by decide +kernel
theorem dX6_feed_19 : decode cX6_feed 19 = .ok (.getfield 19, 3) := by decide +kernel
theorem dX6_feed_22 : decode cX6_feed 22 = .ok (.iload_n 1, 1) := by decide +kernel
theorem dX6_feed_23 : decode cX6_feed 23 = .ok (.invokevirtual 241, 3) := by decide +kernel
theorem dX6_feed_26 : decode cX6_feed 26 = .ok (.aload_n 0, 1) := by decide +kernel
theorem dX6_feed_27 : decode cX6_feed 27 = .ok (.getfield 19, 3) := by decide +kernel
theorem dX6_feed_30 : decode cX6_feed 30 = .ok (.iload_n 2, 1) := by decide +kernel
theorem dX6_feed_31 : decode cX6_feed 31 = .ok (.invokevirtual 241, 3) := by decide +kernel
theorem dX6_feed_34 : decode cX6_feed 34 = .ok (.aload_n 0, 1) := by decide +kernel
theorem dX6_feed_35 : decode cX6_feed 35 = .ok (.getfield 19, 3) := by decide +kernel
theorem dX6_feed_38 : decode cX6_feed 38 = .ok (.iload_n 3, 1) := by decide +kernel
theorem dX6_feed_39 : decode cX6_feed 39 = .ok (.invokevirtual 241, 3) := by decide +kernel
theorem dX6_feed_42 : decode cX6_feed 42 = .ok (.aload_n 0, 1) := by decide +kernel
theorem dX6_feed_43 : decode cX6_feed 43 = .ok (.getfield 19, 3) := by decide +kernel
theorem dX6_feed_46 : decode cX6_feed 46 = .ok (.getfield 238, 3) := by decide +kernel
theorem dX6_feed_49 : decode cX6_feed 49 = .ok (.ireturn, 1) := by decide +kernel
set_option maxHeartbeats 4000000 in
set_option maxRecDepth 100000 in
theorem c_X6_feed (g : sk_G) (l : Launch) (a1 : Int32) (a2 : Int32) (a3 : Int32) (M : sk_M) {rr : Int32} {MM : sk_M} (h : f_X6_feed a1 a2 a3 M = some (rr, MM)) : sk_MI g l yX6_feed cX6_feed 4 (some .int) 2 [.ref (sk_ad g 0), .int a1, .int a2, .int a3] M rr MM := by
  refine sk_go [(0, .ref (sk_ad g 0)), (1, .int a1), (2, .int a2), (3, .int a3)] (by decide) (Nat.le_of_ble_eq_true rfl) rfl ?_
  intro p e s m av below meth c C ls hl hM hS
  obtain ⟨hx, hb, hml, hown, hts, hK, hE, hr, hlocks⟩ := id C
  rw [f_X6_feed] at h
  refine lv_aload_n hx hb dX6_feed_0 rfl (lv_at hl 0 rfl) ?_
  refine sk_getR (o := 0) (ci := 6) (j := 5) (t := 62) C hM rfl rfl (by decide) rfl rfl kw_302 dX6_feed_1 ?_
  refine sk_getI (o := 62) (ci := 0) (j := 2) C hM rfl rfl (by decide) rfl kw_124 dX6_feed_4 ?_
  refine lv_bipush (v := 12) hx hb dX6_feed_7 (by decide) ?_
  refine lv_iadd hx hb dX6_feed_9 ?_
  refine lv_bipush (v := 96) hx hb dX6_feed_10 (by decide) ?_
  refine lv_icmp_le hx hb dX6_feed_12 rfl (fun hc => ?_) (fun hc => ?_)
  · have h := sk_pos h hc
    refine lv_aload_n hx hb dX6_feed_18 rfl (lv_at hl 0 rfl) ?_
    refine sk_getR (o := 0) (ci := 6) (j := 5) (t := 62) C hM rfl rfl (by decide) rfl rfl kw_302 dX6_feed_19 ?_
    refine lv_iload_n hx hb dX6_feed_22 rfl (lv_at hl 1 rfl) ?_
    obtain ⟨M_1, h_2, h⟩ := sk_b1E h
    refine sk_contV (sk_runV (As := [.int a1]) (rest := []) C (c_X0_takeBytes g l a1 M h_2) yo_X0_takeBytes kw_633 (sk_recv (ci := 0) C hM rfl rfl) (by decide) hM hS hl.1 rfl rfl (Nat.le_of_ble_eq_true rfl) dX6_feed_23) hS (fun H locs hM hS => ?_)
    refine lv_aload_n hx hb dX6_feed_26 rfl (lv_at hl 0 rfl) ?_
    refine sk_getR (o := 0) (ci := 6) (j := 5) (t := 62) C hM rfl rfl (by decide) rfl rfl kw_302 dX6_feed_27 ?_
    refine lv_iload_n hx hb dX6_feed_30 rfl (lv_at hl 2 rfl) ?_
    obtain ⟨M_3, h_4, h⟩ := sk_b1E h
    refine sk_contV (sk_runV (As := [.int a2]) (rest := []) C (c_X0_takeBytes g l a2 M_1 h_4) yo_X0_takeBytes kw_633 (sk_recv (ci := 0) C hM rfl rfl) (by decide) hM hS hl.1 rfl rfl (Nat.le_of_ble_eq_true rfl) dX6_feed_31) hS (fun H locs hM hS => ?_)
    refine lv_aload_n hx hb dX6_feed_34 rfl (lv_at hl 0 rfl) ?_
    refine sk_getR (o := 0) (ci := 6) (j := 5) (t := 62) C hM rfl rfl (by decide) rfl rfl kw_302 dX6_feed_35 ?_
    refine lv_iload_n hx hb dX6_feed_38 rfl (lv_at hl 3 rfl) ?_
    obtain ⟨M_5, h_6, h⟩ := sk_b1E h
    refine sk_contV (sk_runV (As := [.int a3]) (rest := []) C (c_X0_takeBytes g l a3 M_3 h_6) yo_X0_takeBytes kw_633 (sk_recv (ci := 0) C hM rfl rfl) (by decide) hM hS hl.1 rfl rfl (Nat.le_of_ble_eq_true rfl) dX6_feed_39) hS (fun H locs hM hS => ?_)
    refine lv_aload_n hx hb dX6_feed_42 rfl (lv_at hl 0 rfl) ?_
    refine sk_getR (o := 0) (ci := 6) (j := 5) (t := 62) C hM rfl rfl (by decide) rfl rfl kw_302 dX6_feed_43 ?_
    refine sk_getI (o := 62) (ci := 0) (j := 2) C hM rfl rfl (by decide) rfl kw_124 dX6_feed_46 ?_
    exact sk_iret C hM hS (sk_e2 h) dX6_feed_49
  · have h := sk_neg h hc
    refine lv_ldc (v := (-1000000003)) hx hb hown (hts _ kw_397) dX6_feed_15 ?_
    exact sk_iret C hM hS (sk_e2 h) dX6_feed_17
theorem dX6_trim_0 : decode cX6_trim 0 = .ok (.iload_n 1, 1) := by decide +kernel
theorem dX6_trim_1 : decode cX6_trim 1 = .ok (.iconst 0, 1) := by decide +kernel
theorem dX6_trim_2 : decode cX6_trim 2 = .ok (.aload_n 0, 1) := by decide +kernel
theorem dX6_trim_3 : decode cX6_trim 3 = .ok (.getfield 19, 3) := by decide +kernel
theorem dX6_trim_6 : decode cX6_trim 6 = .ok (.getfield 238, 3) := by decide +kernel
theorem dX6_trim_9 : decode cX6_trim 9 = .ok (.invokestatic 75, 3) := by decide +kernel
theorem dX6_trim_12 : decode cX6_trim 12 = .ok (.ifCond .ne 6, 3) := by decide +kernel
theorem dX6_trim_15 : decode cX6_trim 15 = .ok (.ldc 79, 2) := by decide +kernel
theorem dX6_trim_17 : decode cX6_trim 17 = .ok (.ireturn, 1) := by decide +kernel
theorem dX6_trim_18 : decode cX6_trim 18 = .ok (.aload_n 0, 1) := by decide +kernel
theorem dX6_trim_19 : decode cX6_trim 19 = .ok (.getfield 19, 3) := by decide +kernel
theorem dX6_trim_22 : decode cX6_trim 22 = .ok (.iload_n 1, 1) := by decide +kernel
theorem dX6_trim_23 : decode cX6_trim 23 = .ok (.putfield 238, 3) := by decide +kernel
theorem dX6_trim_26 : decode cX6_trim 26 = .ok (.iload_n 1, 1) := by decide +kernel
theorem dX6_trim_27 : decode cX6_trim 27 = .ok (.ireturn, 1) := by decide +kernel
set_option maxHeartbeats 4000000 in
set_option maxRecDepth 100000 in
theorem c_X6_trim (g : sk_G) (l : Launch) (a1 : Int32) (M : sk_M) {rr : Int32} {MM : sk_M} (h : f_X6_trim a1 M = some (rr, MM)) : sk_MI g l yX6_trim cX6_trim 2 (some .int) 2 [.ref (sk_ad g 0), .int a1] M rr MM := by
  refine sk_go [(0, .ref (sk_ad g 0)), (1, .int a1)] (by decide) (Nat.le_of_ble_eq_true rfl) rfl ?_
  intro p e s m av below meth c C ls hl hM hS
  obtain ⟨hx, hb, hml, hown, hts, hK, hE, hr, hlocks⟩ := id C
  rw [f_X6_trim] at h
  refine lv_iload_n hx hb dX6_trim_0 rfl (lv_at hl 1 rfl) ?_
  refine lv_iconst (v := 0) hx hb dX6_trim_1 (by decide) ?_
  refine lv_aload_n hx hb dX6_trim_2 rfl (lv_at hl 0 rfl) ?_
  refine sk_getR (o := 0) (ci := 6) (j := 5) (t := 62) C hM rfl rfl (by decide) rfl rfl kw_302 dX6_trim_3 ?_
  refine sk_getI (o := 62) (ci := 0) (j := 2) C hM rfl rfl (by decide) rfl kw_124 dX6_trim_6 ?_
  refine sk_contI (sk_runS (As := [.int a1, .int 0, .int (M 62 2)]) (rest := []) C (c_X6_within g l a1 0 (M 62 2) M rfl) yo_X6_within kw_344 (by decide) hM hS hl.1 rfl rfl (Nat.le_of_ble_eq_true rfl) dX6_trim_9) hS (fun H locs hM hS => ?_)
  refine lv_if_ne hx hb dX6_trim_12 rfl (fun hc => ?_) (fun hc => ?_)
  · have h := sk_neg h hc
    refine lv_aload_n hx hb dX6_trim_18 rfl (lv_at hl 0 rfl) ?_
    refine sk_getR (o := 0) (ci := 6) (j := 5) (t := 62) C hM rfl rfl (by decide) rfl rfl kw_302 dX6_trim_19 ?_
    refine lv_iload_n hx hb dX6_trim_22 rfl (lv_at hl 1 rfl) ?_
    refine sk_putI (o := 62) (ci := 0) (j := 2) C hM hS rfl rfl (by decide) rfl rfl (tyX0_ok 2 (by decide)) kw_124 dX6_trim_23 (fun M_2 eM_2 H locs hM hS => ?_)
    have h := sk_letU h eM_2
    refine lv_iload_n hx hb dX6_trim_26 rfl (lv_at hl 1 rfl) ?_
    exact sk_iret C hM hS (sk_e2 h) dX6_trim_27
  · have h := sk_pos h hc
    refine lv_ldc (v := (-1000000001)) hx hb hown (hts _ kw_347) dX6_trim_15 ?_
    exact sk_iret C hM hS (sk_e2 h) dX6_trim_17
theorem dX6_text_0 : decode cX6_text 0 = .ok (.aload_n 0, 1) := by decide +kernel
theorem dX6_text_1 : decode cX6_text 1 = .ok (.getfield 19, 3) := by decide +kernel
theorem dX6_text_4 : decode cX6_text 4 = .ok (.invokevirtual 244, 3) := by decide +kernel
theorem dX6_text_7 : decode cX6_text 7 = .ok (.istore_n 1, 1) := by decide +kernel
theorem dX6_text_8 : decode cX6_text 8 = .ok (.aload_n 0, 1) := by decide +kernel
theorem dX6_text_9 : decode cX6_text 9 = .ok (.getfield 19, 3) := by decide +kernel
theorem dX6_text_12 : decode cX6_text 12 = .ok (.iconst 0, 1) := by decide +kernel
theorem dX6_text_13 : decode cX6_text 13 = .ok (.putfield 238, 3) := by decide +kernel
theorem dX6_text_16 : decode cX6_text 16 = .ok (.iload_n 1, 1) := by decide +kernel
theorem dX6_text_17 : decode cX6_text 17 = .ok (.ifCond .lt 8, 3) := by decide +kernel
theorem dX6_text_20 : decode cX6_text 20 = .ok (.bipush (-100), 2) := by decide +kernel
theorem dX6_text_22 : decode cX6_text 22 = .ok (.iload_n 1, 1) := by decide +kernel
theorem dX6_text_23 : decode cX6_text 23 = .ok (.isub, 1) := by decide +kernel
theorem dX6_text_24 : decode cX6_text 24 = .ok (.ireturn, 1) := by decide +kernel
theorem dX6_text_25 : decode cX6_text 25 = .ok (.aload_n 0, 1) := by decide +kernel
theorem dX6_text_26 : decode cX6_text 26 = .ok (.getfield 28, 3) := by decide +kernel
theorem dX6_text_29 : decode cX6_text 29 = .ok (.getfield 247, 3) := by decide +kernel
theorem dX6_text_32 : decode cX6_text 32 = .ok (.istore_n 2, 1) := by decide +kernel
theorem dX6_text_33 : decode cX6_text 33 = .ok (.iload_n 2, 1) := by decide +kernel
theorem dX6_text_34 : decode cX6_text 34 = .ok (.bipush 14, 2) := by decide +kernel
theorem dX6_text_36 : decode cX6_text 36 = .ok (.if_icmp .lt 6, 3) := by decide +kernel
theorem dX6_text_39 : decode cX6_text 39 = .ok (.ldc 117, 2) := by decide +kernel
theorem dX6_text_41 : decode cX6_text 41 = .ok (.ireturn, 1) := by decide +kernel
theorem dX6_text_42 : decode cX6_text 42 = .ok (.aload_n 0, 1) := by decide +kernel
theorem dX6_text_43 : decode cX6_text 43 = .ok (.getfield 10, 3) := by decide +kernel
theorem dX6_text_46 : decode cX6_text 46 = .ok (.iload_n 2, 1) := by decide +kernel
theorem dX6_text_47 : decode cX6_text 47 = .ok (.aload_n 0, 1) := by decide +kernel
theorem dX6_text_48 : decode cX6_text 48 = .ok (.getfield 19, 3) := by decide +kernel
theorem dX6_text_51 : decode cX6_text 51 = .ok (.invokevirtual 250, 3) := by decide +kernel
theorem dX6_text_54 : decode cX6_text 54 = .ok (.aload_n 0, 1) := by decide +kernel
theorem dX6_text_55 : decode cX6_text 55 = .ok (.getfield 28, 3) := by decide +kernel
theorem dX6_text_58 : decode cX6_text 58 = .ok (.getfield 226, 3) := by decide +kernel
theorem dX6_text_61 : decode cX6_text 61 = .ok (.aload_n 0, 1) := by decide +kernel
theorem dX6_text_62 : decode cX6_text 62 = .ok (.getfield 19, 3) := by decide +kernel
theorem dX6_text_65 : decode cX6_text 65 = .ok (.getfield 254, 3) := by decide +kernel
theorem dX6_text_68 : decode cX6_text 68 = .ok (.iload_n 2, 1) := by decide +kernel
theorem dX6_text_69 : decode cX6_text 69 = .ok (.iastore, 1) := by decide +kernel
theorem dX6_text_70 : decode cX6_text 70 = .ok (.aload_n 0, 1) := by decide +kernel
theorem dX6_text_71 : decode cX6_text 71 = .ok (.getfield 28, 3) := by decide +kernel
theorem dX6_text_74 : decode cX6_text 74 = .ok (.dup, 1) := by decide +kernel
theorem dX6_text_75 : decode cX6_text 75 = .ok (.getfield 247, 3) := by decide +kernel
theorem dX6_text_78 : decode cX6_text 78 = .ok (.iconst 1, 1) := by decide +kernel
theorem dX6_text_79 : decode cX6_text 79 = .ok (.iadd, 1) := by decide +kernel
theorem dX6_text_80 : decode cX6_text 80 = .ok (.putfield 247, 3) := by decide +kernel
theorem dX6_text_83 : decode cX6_text 83 = .ok (.iload_n 2, 1) := by decide +kernel
theorem dX6_text_84 : decode cX6_text 84 = .ok (.ireturn, 1) := by decide +kernel
set_option maxHeartbeats 4000000 in
set_option maxRecDepth 100000 in
theorem c_X6_text (g : sk_G) (l : Launch)  (M : sk_M) {rr : Int32} {MM : sk_M} (h : f_X6_text M = some (rr, MM)) : sk_MI g l yX6_text cX6_text 3 (some .int) 128 [.ref (sk_ad g 0)] M rr MM := by
  refine sk_go [(0, .ref (sk_ad g 0))] (by decide) (Nat.le_of_ble_eq_true rfl) rfl ?_
  intro p e s m av below meth c C ls hl hM hS
  obtain ⟨hx, hb, hml, hown, hts, hK, hE, hr, hlocks⟩ := id C
  rw [f_X6_text] at h
  refine lv_aload_n hx hb dX6_text_0 rfl (lv_at hl 0 rfl) ?_
  refine sk_getR (o := 0) (ci := 6) (j := 5) (t := 62) C hM rfl rfl (by decide) rfl rfl kw_302 dX6_text_1 ?_
  obtain ⟨x_1, M_2, h_3, h⟩ := sk_b2E h
  refine sk_contI (sk_runV (As := []) (rest := []) C (c_X0_readTape g l  M h_3) yo_X0_readTape kw_645 (sk_recv (ci := 0) C hM rfl rfl) (by decide) hM hS hl.1 rfl rfl (Nat.le_of_ble_eq_true rfl) dX6_text_4) hS (fun H locs hM hS => ?_)
  refine lv_istore_n (lv' := [(1, .int x_1), (0, .ref (sk_ad g 0))]) hx hb dX6_text_7 rfl hl (by decide) rfl (fun ls hl => ?_)
  refine lv_aload_n hx hb dX6_text_8 rfl (lv_at hl 1 rfl) ?_
  refine sk_getR (o := 0) (ci := 6) (j := 5) (t := 62) C hM rfl rfl (by decide) rfl rfl kw_302 dX6_text_9 ?_
  refine lv_iconst (v := 0) hx hb dX6_text_12 (by decide) ?_
  refine sk_putI (o := 62) (ci := 0) (j := 2) C hM hS rfl rfl (by decide) rfl rfl (tyX0_ok 2 (by decide)) kw_124 dX6_text_13 (fun M_4 eM_4 H locs hM hS => ?_)
  have h := sk_letU h eM_4
  refine lv_iload_n hx hb dX6_text_16 rfl (lv_at hl 0 rfl) ?_
  refine lv_if_lt hx hb dX6_text_17 rfl (fun hc => ?_) (fun hc => ?_)
  · have h := sk_pos h hc
    refine lv_aload_n hx hb dX6_text_25 rfl (lv_at hl 1 rfl) ?_
    refine sk_getR (o := 0) (ci := 6) (j := 0) (t := 10) C hM rfl rfl (by decide) rfl rfl kw_297 dX6_text_26 ?_
    refine sk_getI (o := 10) (ci := 5) (j := 13) C hM rfl rfl (by decide) rfl kw_192 dX6_text_29 ?_
    refine lv_topi (fun x_5 ex_5 => ?_)
    have h := sk_letU h ex_5
    refine lv_istore_n (lv' := [(2, .int x_5), (1, .int x_1), (0, .ref (sk_ad g 0))]) hx hb dX6_text_32 rfl hl (by decide) rfl (fun ls hl => ?_)
    refine lv_iload_n hx hb dX6_text_33 rfl (lv_at hl 0 rfl) ?_
    refine lv_bipush (v := 14) hx hb dX6_text_34 (by decide) ?_
    refine lv_icmp_lt hx hb dX6_text_36 rfl (fun hc => ?_) (fun hc => ?_)
    · have h := sk_pos h hc
      refine lv_aload_n hx hb dX6_text_42 rfl (lv_at hl 2 rfl) ?_
      refine sk_getR (o := 0) (ci := 6) (j := 4) (t := 42) C hM rfl rfl (by decide) rfl rfl kw_301 dX6_text_43 ?_
      refine lv_iload_n hx hb dX6_text_46 rfl (lv_at hl 0 rfl) ?_
      refine lv_aload_n hx hb dX6_text_47 rfl (lv_at hl 2 rfl) ?_
      refine sk_getR (o := 0) (ci := 6) (j := 5) (t := 62) C hM rfl rfl (by decide) rfl rfl kw_302 dX6_text_48 ?_
      obtain ⟨M_6, h_7, h⟩ := sk_b1E h
      refine sk_contV (sk_runV (As := [.int x_5, .ref (sk_ad g 62)]) (rest := []) C (c_X3_store g l x_5 M_4 h_7) yo_X3_store kw_823 (sk_recv (ci := 3) C hM rfl rfl) (by decide) hM hS hl.1 rfl rfl (Nat.le_of_ble_eq_true rfl) dX6_text_51) hS (fun H locs hM hS => ?_)
      refine lv_aload_n hx hb dX6_text_54 rfl (lv_at hl 2 rfl) ?_
      refine sk_getR (o := 0) (ci := 6) (j := 0) (t := 10) C hM rfl rfl (by decide) rfl rfl kw_297 dX6_text_55 ?_
      refine sk_getR (o := 10) (ci := 5) (j := 8) (t := 18) C hM rfl rfl (by decide) rfl rfl kw_183 dX6_text_58 ?_
      refine lv_aload_n hx hb dX6_text_61 rfl (lv_at hl 2 rfl) ?_
      refine sk_getR (o := 0) (ci := 6) (j := 5) (t := 62) C hM rfl rfl (by decide) rfl rfl kw_302 dX6_text_62 ?_
      refine sk_getI (o := 62) (ci := 0) (j := 6) C hM rfl rfl (by decide) rfl kw_130 dX6_text_65 ?_
      refine lv_iload_n hx hb dX6_text_68 rfl (lv_at hl 0 rfl) ?_
      obtain ⟨i_8, h⟩ := sk_chkE h
      refine sk_iast (o := 18) C hM hS rfl i_8 dX6_text_69 (fun M_9 eM_9 H locs hM hS => ?_)
      have h := sk_letU h eM_9
      refine lv_aload_n hx hb dX6_text_70 rfl (lv_at hl 2 rfl) ?_
      refine sk_getR (o := 0) (ci := 6) (j := 0) (t := 10) C hM rfl rfl (by decide) rfl rfl kw_297 dX6_text_71 ?_
      refine lv_dup hx hb dX6_text_74 rfl ?_
      refine sk_getI (o := 10) (ci := 5) (j := 13) C hM rfl rfl (by decide) rfl kw_192 dX6_text_75 ?_
      refine lv_iconst (v := 1) hx hb dX6_text_78 (by decide) ?_
      refine lv_iadd hx hb dX6_text_79 ?_
      refine sk_putI (o := 10) (ci := 5) (j := 13) C hM hS rfl rfl (by decide) rfl rfl (tyX5_ok 13 (by decide)) kw_192 dX6_text_80 (fun M_10 eM_10 H locs hM hS => ?_)
      have h := sk_letU h eM_10
      refine lv_iload_n hx hb dX6_text_83 rfl (lv_at hl 0 rfl) ?_
      exact sk_iret C hM hS (sk_e2 h) dX6_text_84
    · have h := sk_neg h hc
      refine lv_ldc (v := (-1000000003)) hx hb hown (hts _ kw_397) dX6_text_39 ?_
      exact sk_iret C hM hS (sk_e2 h) dX6_text_41
  · have h := sk_neg h hc
    refine lv_bipush (v := (-100)) hx hb dX6_text_20 (by decide) ?_
    refine lv_iload_n hx hb dX6_text_22 rfl (lv_at hl 0 rfl) ?_
    refine lv_isub hx hb dX6_text_23 ?_
    exact sk_iret C hM hS (sk_e2 h) dX6_text_24
theorem dX6_textTold_0 : decode cX6_textTold 0 = .ok (.iload_n 1, 1) := by decide +kernel
theorem dX6_textTold_1 : decode cX6_textTold 1 = .ok (.iconst 0, 1) := by decide +kernel
theorem dX6_textTold_2 : decode cX6_textTold 2 = .ok (.aload_n 0, 1) := by decide +kernel
theorem dX6_textTold_3 : decode cX6_textTold 3 = .ok (.getfield 28, 3) := by decide +kernel
theorem dX6_textTold_6 : decode cX6_textTold 6 = .ok (.getfield 247, 3) := by decide +kernel
theorem dX6_textTold_9 : decode cX6_textTold 9 = .ok (.iconst 1, 1) := by decide +kernel
theorem dX6_textTold_10 : decode cX6_textTold 10 = .ok (.isub, 1) := by decide +kernel
theorem dX6_textTold_11 : decode cX6_textTold 11 = .ok (.invokestatic 75, 3) := by decide +kernel
theorem dX6_textTold_14 : decode cX6_textTold 14 = .ok (.ifCond .eq 12, 3) := by decide +kernel
theorem dX6_textTold_17 : decode cX6_textTold 17 = .ok (.iload_n 2, 1) := by decide +kernel
theorem dX6_textTold_18 : decode cX6_textTold 18 = .ok (.iconst 0, 1) := by decide +kernel
theorem dX6_textTold_19 : decode cX6_textTold 19 = .ok (.iconst 1, 1) := by decide +kernel
theorem dX6_textTold_20 : decode cX6_textTold 20 = .ok (.invokestatic 75, 3) := by decide +kernel
theorem dX6_textTold_23 : decode cX6_textTold 23 = .ok (.ifCond .ne 6, 3) := by decide +kernel
theorem dX6_textTold_26 : decode cX6_textTold 26 = .ok (.ldc 79, 2) := by decide +kernel
theorem dX6_textTold_28 : decode cX6_textTold 28 = .ok (.ireturn, 1) := by decide +kernel
theorem dX6_textTold_29 : decode cX6_textTold 29 = .ok (.iload_n 2, 1) := by decide +kernel
theorem dX6_textTold_30 : decode cX6_textTold 30 = .ok (.ifCond .ne 15, 3) := by decide +kernel
theorem dX6_textTold_33 : decode cX6_textTold 33 = .ok (.aload_n 0, 1) := by decide +kernel
theorem dX6_textTold_34 : decode cX6_textTold 34 = .ok (.getfield 10, 3) := by decide +kernel
theorem dX6_textTold_37 : decode cX6_textTold 37 = .ok (.getfield 257, 3) := by decide +kernel
theorem dX6_textTold_40 : decode cX6_textTold 40 = .ok (.iload_n 1, 1) := by decide +kernel
theorem dX6_textTold_41 : decode cX6_textTold 41 = .ok (.iaload, 1) := by decide +kernel
theorem dX6_textTold_42 : decode cX6_textTold 42 = .ok (.goto 12, 3) := by decide +kernel
theorem dX6_textTold_45 : decode cX6_textTold 45 = .ok (.aload_n 0, 1) := by decide +kernel
theorem dX6_textTold_46 : decode cX6_textTold 46 = .ok (.getfield 10, 3) := by decide +kernel
theorem dX6_textTold_49 : decode cX6_textTold 49 = .ok (.getfield 260, 3) := by decide +kernel
theorem dX6_textTold_52 : decode cX6_textTold 52 = .ok (.iload_n 1, 1) := by decide +kernel
theorem dX6_textTold_53 : decode cX6_textTold 53 = .ok (.iaload, 1) := by decide +kernel
theorem dX6_textTold_54 : decode cX6_textTold 54 = .ok (.ireturn, 1) := by decide +kernel
set_option maxHeartbeats 4000000 in
set_option maxRecDepth 100000 in
theorem c_X6_textTold (g : sk_G) (l : Launch) (a1 : Int32) (a2 : Int32) (M : sk_M) {rr : Int32} (h : f_X6_textTold a1 a2 M = some rr) : sk_MI g l yX6_textTold cX6_textTold 3 (some .int) 2 [.ref (sk_ad g 0), .int a1, .int a2] M rr M := by
  refine sk_go [(0, .ref (sk_ad g 0)), (1, .int a1), (2, .int a2)] (by decide) (Nat.le_of_ble_eq_true rfl) rfl ?_
  intro p e s m av below meth c C ls hl hM hS
  obtain ⟨hx, hb, hml, hown, hts, hK, hE, hr, hlocks⟩ := id C
  rw [f_X6_textTold] at h
  refine lv_iload_n hx hb dX6_textTold_0 rfl (lv_at hl 1 rfl) ?_
  refine lv_iconst (v := 0) hx hb dX6_textTold_1 (by decide) ?_
  refine lv_aload_n hx hb dX6_textTold_2 rfl (lv_at hl 0 rfl) ?_
  refine sk_getR (o := 0) (ci := 6) (j := 0) (t := 10) C hM rfl rfl (by decide) rfl rfl kw_297 dX6_textTold_3 ?_
  refine sk_getI (o := 10) (ci := 5) (j := 13) C hM rfl rfl (by decide) rfl kw_192 dX6_textTold_6 ?_
  refine lv_iconst (v := 1) hx hb dX6_textTold_9 (by decide) ?_
  refine lv_isub hx hb dX6_textTold_10 ?_
  refine sk_contI (sk_runS (As := [.int a1, .int 0, .int ((M 10 13) - 1)]) (rest := []) C (c_X6_within g l a1 0 ((M 10 13) - 1) M rfl) yo_X6_within kw_344 (by decide) hM hS hl.1 rfl rfl (Nat.le_of_ble_eq_true rfl) dX6_textTold_11) hS (fun H locs hM hS => ?_)
  refine lv_if_eq hx hb dX6_textTold_14 rfl (fun hc => ?_) (fun hc => ?_)
  · have h := sk_pos h hc
    refine lv_ldc (v := (-1000000001)) hx hb hown (hts _ kw_347) dX6_textTold_26 ?_
    exact sk_iret C hM hS ⟨Option.some.inj h, rfl⟩ dX6_textTold_28
  · have h := sk_neg h hc
    refine lv_iload_n hx hb dX6_textTold_17 rfl (lv_at hl 2 rfl) ?_
    refine lv_iconst (v := 0) hx hb dX6_textTold_18 (by decide) ?_
    refine lv_iconst (v := 1) hx hb dX6_textTold_19 (by decide) ?_
    refine sk_contI (sk_runS (As := [.int a2, .int 0, .int 1]) (rest := []) C (c_X6_within g l a2 0 1 M rfl) yo_X6_within kw_344 (by decide) hM hS hl.1 rfl rfl (Nat.le_of_ble_eq_true rfl) dX6_textTold_20) hS (fun H locs hM hS => ?_)
    refine lv_if_ne hx hb dX6_textTold_23 rfl (fun hc => ?_) (fun hc => ?_)
    · have h := sk_neg h hc
      refine lv_iload_n hx hb dX6_textTold_29 rfl (lv_at hl 2 rfl) ?_
      refine lv_if_ne hx hb dX6_textTold_30 rfl (fun hc => ?_) (fun hc => ?_)
      · have h := sk_neg h hc
        refine lv_aload_n hx hb dX6_textTold_45 rfl (lv_at hl 0 rfl) ?_
        refine sk_getR (o := 0) (ci := 6) (j := 4) (t := 42) C hM rfl rfl (by decide) rfl rfl kw_301 dX6_textTold_46 ?_
        refine sk_getR (o := 42) (ci := 3) (j := 3) (t := 46) C hM rfl rfl (by decide) rfl rfl kw_100 dX6_textTold_49 ?_
        refine lv_iload_n hx hb dX6_textTold_52 rfl (lv_at hl 1 rfl) ?_
        obtain ⟨i_3, h⟩ := sk_chkE h
        refine sk_iald (o := 46) C hM rfl i_3 dX6_textTold_53 ?_
        exact sk_iret C hM hS ⟨Option.some.inj h, rfl⟩ dX6_textTold_54
      · have h := sk_pos h hc
        refine lv_aload_n hx hb dX6_textTold_33 rfl (lv_at hl 0 rfl) ?_
        refine sk_getR (o := 0) (ci := 6) (j := 4) (t := 42) C hM rfl rfl (by decide) rfl rfl kw_301 dX6_textTold_34 ?_
        refine sk_getR (o := 42) (ci := 3) (j := 2) (t := 45) C hM rfl rfl (by decide) rfl rfl kw_98 dX6_textTold_37 ?_
        refine lv_iload_n hx hb dX6_textTold_40 rfl (lv_at hl 1 rfl) ?_
        obtain ⟨i_4, h⟩ := sk_chkE h
        refine sk_iald (o := 45) C hM rfl i_4 dX6_textTold_41 ?_
        refine lv_goto hx hb dX6_textTold_42 rfl ?_
        exact sk_iret C hM hS ⟨Option.some.inj h, rfl⟩ dX6_textTold_54
    · have h := sk_pos h hc
      refine lv_ldc (v := (-1000000001)) hx hb hown (hts _ kw_347) dX6_textTold_26 ?_
      exact sk_iret C hM hS ⟨Option.some.inj h, rfl⟩ dX6_textTold_28
theorem dX6_why_0 : decode cX6_why 0 = .ok (.iload_n 1, 1) := by decide +kernel
theorem dX6_why_1 : decode cX6_why 1 = .ok (.iconst 0, 1) := by decide +kernel
theorem dX6_why_2 : decode cX6_why 2 = .ok (.iconst 2, 1) := by decide +kernel
theorem dX6_why_3 : decode cX6_why 3 = .ok (.invokestatic 75, 3) := by decide +kernel
theorem dX6_why_6 : decode cX6_why 6 = .ok (.ifCond .eq 15, 3) := by decide +kernel
theorem dX6_why_9 : decode cX6_why 9 = .ok (.aload_n 0, 1) := by decide +kernel
theorem dX6_why_10 : decode cX6_why 10 = .ok (.getfield 28, 3) := by decide +kernel
theorem dX6_why_13 : decode cX6_why 13 = .ok (.getfield 226, 3) := by decide +kernel
theorem dX6_why_16 : decode cX6_why 16 = .ok (.iload_n 1, 1) := by decide +kernel
theorem dX6_why_17 : decode cX6_why 17 = .ok (.iaload, 1) := by decide +kernel
theorem dX6_why_18 : decode cX6_why 18 = .ok (.goto 5, 3) := by decide +kernel
theorem dX6_why_21 : decode cX6_why 21 = .ok (.ldc 79, 2) := by decide +kernel
theorem dX6_why_23 : decode cX6_why 23 = .ok (.ireturn, 1) := by decide +kernel
set_option maxHeartbeats 4000000 in
set_option maxRecDepth 100000 in
theorem c_X6_why (g : sk_G) (l : Launch) (a1 : Int32) (M : sk_M) {rr : Int32} (h : f_X6_why a1 M = some rr) : sk_MI g l yX6_why cX6_why 2 (some .int) 2 [.ref (sk_ad g 0), .int a1] M rr M := by
  refine sk_go [(0, .ref (sk_ad g 0)), (1, .int a1)] (by decide) (Nat.le_of_ble_eq_true rfl) rfl ?_
  intro p e s m av below meth c C ls hl hM hS
  obtain ⟨hx, hb, hml, hown, hts, hK, hE, hr, hlocks⟩ := id C
  rw [f_X6_why] at h
  refine lv_iload_n hx hb dX6_why_0 rfl (lv_at hl 1 rfl) ?_
  refine lv_iconst (v := 0) hx hb dX6_why_1 (by decide) ?_
  refine lv_iconst (v := 2) hx hb dX6_why_2 (by decide) ?_
  refine sk_contI (sk_runS (As := [.int a1, .int 0, .int 2]) (rest := []) C (c_X6_within g l a1 0 2 M rfl) yo_X6_within kw_344 (by decide) hM hS hl.1 rfl rfl (Nat.le_of_ble_eq_true rfl) dX6_why_3) hS (fun H locs hM hS => ?_)
  refine lv_if_eq hx hb dX6_why_6 rfl (fun hc => ?_) (fun hc => ?_)
  · have h := sk_pos h hc
    refine lv_ldc (v := (-1000000001)) hx hb hown (hts _ kw_347) dX6_why_21 ?_
    exact sk_iret C hM hS ⟨Option.some.inj h, rfl⟩ dX6_why_23
  · have h := sk_neg h hc
    refine lv_aload_n hx hb dX6_why_9 rfl (lv_at hl 0 rfl) ?_
    refine sk_getR (o := 0) (ci := 6) (j := 0) (t := 10) C hM rfl rfl (by decide) rfl rfl kw_297 dX6_why_10 ?_
    refine sk_getR (o := 10) (ci := 5) (j := 8) (t := 18) C hM rfl rfl (by decide) rfl rfl kw_183 dX6_why_13 ?_
    refine lv_iload_n hx hb dX6_why_16 rfl (lv_at hl 1 rfl) ?_
    obtain ⟨i_2, h⟩ := sk_chkE h
    refine sk_iald (o := 18) C hM rfl i_2 dX6_why_17 ?_
    refine lv_goto hx hb dX6_why_18 rfl ?_
    exact sk_iret C hM hS ⟨Option.some.inj h, rfl⟩ dX6_why_23
theorem dX6_sheet_0 : decode cX6_sheet 0 = .ok (.iload_n 1, 1) := by decide +kernel
theorem dX6_sheet_1 : decode cX6_sheet 1 = .ok (.invokestatic 207, 3) := by decide +kernel
theorem dX6_sheet_4 : decode cX6_sheet 4 = .ok (.ifCond .eq 12, 3) := by decide +kernel
theorem dX6_sheet_7 : decode cX6_sheet 7 = .ok (.iload_n 2, 1) := by decide +kernel
theorem dX6_sheet_8 : decode cX6_sheet 8 = .ok (.iconst (-1), 1) := by decide +kernel
theorem dX6_sheet_9 : decode cX6_sheet 9 = .ok (.iconst 1, 1) := by decide +kernel
theorem dX6_sheet_10 : decode cX6_sheet 10 = .ok (.invokestatic 75, 3) := by decide +kernel
theorem dX6_sheet_13 : decode cX6_sheet 13 = .ok (.ifCond .ne 6, 3) := by decide +kernel
theorem dX6_sheet_16 : decode cX6_sheet 16 = .ok (.ldc 79, 2) := by decide +kernel
theorem dX6_sheet_18 : decode cX6_sheet 18 = .ok (.ireturn, 1) := by decide +kernel
theorem dX6_sheet_19 : decode cX6_sheet 19 = .ok (.iload_n 2, 1) := by decide +kernel
theorem dX6_sheet_20 : decode cX6_sheet 20 = .ok (.iconst (-1), 1) := by decide +kernel
theorem dX6_sheet_21 : decode cX6_sheet 21 = .ok (.if_icmp .ne 16, 3) := by decide +kernel
theorem dX6_sheet_24 : decode cX6_sheet 24 = .ok (.aload_n 0, 1) := by decide +kernel
theorem dX6_sheet_25 : decode cX6_sheet 25 = .ok (.getfield 49, 3) := by decide +kernel
theorem dX6_sheet_28 : decode cX6_sheet 28 = .ok (.iload_n 1, 1) := by decide +kernel
theorem dX6_sheet_29 : decode cX6_sheet 29 = .ok (.aaload, 1) := by decide +kernel
theorem dX6_sheet_30 : decode cX6_sheet 30 = .ok (.iconst (-1), 1) := by decide +kernel
theorem dX6_sheet_31 : decode cX6_sheet 31 = .ok (.iconst 0, 1) := by decide +kernel
theorem dX6_sheet_32 : decode cX6_sheet 32 = .ok (.invokevirtual 263, 3) := by decide +kernel
theorem dX6_sheet_35 : decode cX6_sheet 35 = .ok (.iconst 0, 1) := by decide +kernel
theorem dX6_sheet_36 : decode cX6_sheet 36 = .ok (.ireturn, 1) := by decide +kernel
theorem dX6_sheet_37 : decode cX6_sheet 37 = .ok (.iload_n 3, 1) := by decide +kernel
theorem dX6_sheet_38 : decode cX6_sheet 38 = .ok (.bipush 24, 2) := by decide +kernel
theorem dX6_sheet_40 : decode cX6_sheet 40 = .ok (.if_icmp .le 6, 3) := by decide +kernel
theorem dX6_sheet_43 : decode cX6_sheet 43 = .ok (.ldc 79, 2) := by decide +kernel
theorem dX6_sheet_45 : decode cX6_sheet 45 = .ok (.ireturn, 1) := by decide +kernel
theorem dX6_sheet_46 : decode cX6_sheet 46 = .ok (.iload_n 3, 1) := by decide +kernel
theorem dX6_sheet_47 : decode cX6_sheet 47 = .ok (.ifCond .ge 7, 3) := by decide +kernel
theorem dX6_sheet_50 : decode cX6_sheet 50 = .ok (.ldc_w 266, 3) := by decide +kernel
theorem dX6_sheet_53 : decode cX6_sheet 53 = .ok (.ireturn, 1) := by decide +kernel
theorem dX6_sheet_54 : decode cX6_sheet 54 = .ok (.aload_n 0, 1) := by decide +kernel
theorem dX6_sheet_55 : decode cX6_sheet 55 = .ok (.getfield 49, 3) := by decide +kernel
theorem dX6_sheet_58 : decode cX6_sheet 58 = .ok (.iload_n 1, 1) := by decide +kernel
theorem dX6_sheet_59 : decode cX6_sheet 59 = .ok (.aaload, 1) := by decide +kernel
theorem dX6_sheet_60 : decode cX6_sheet 60 = .ok (.iload_n 2, 1) := by decide +kernel
theorem dX6_sheet_61 : decode cX6_sheet 61 = .ok (.iload_n 3, 1) := by decide +kernel
theorem dX6_sheet_62 : decode cX6_sheet 62 = .ok (.invokevirtual 263, 3) := by decide +kernel
theorem dX6_sheet_65 : decode cX6_sheet 65 = .ok (.iload_n 3, 1) := by decide +kernel
theorem dX6_sheet_66 : decode cX6_sheet 66 = .ok (.ireturn, 1) := by decide +kernel
set_option maxHeartbeats 4000000 in
set_option maxRecDepth 100000 in
theorem c_X6_sheet (g : sk_G) (l : Launch) (a1 : Int32) (a2 : Int32) (a3 : Int32) (M : sk_M) {rr : Int32} {MM : sk_M} (h : f_X6_sheet a1 a2 a3 M = some (rr, MM)) : sk_MI g l yX6_sheet cX6_sheet 4 (some .int) 3 [.ref (sk_ad g 0), .int a1, .int a2, .int a3] M rr MM := by
  refine sk_go [(0, .ref (sk_ad g 0)), (1, .int a1), (2, .int a2), (3, .int a3)] (by decide) (Nat.le_of_ble_eq_true rfl) rfl ?_
  intro p e s m av below meth c C ls hl hM hS
  obtain ⟨hx, hb, hml, hown, hts, hK, hE, hr, hlocks⟩ := id C
  rw [f_X6_sheet] at h
  refine lv_iload_n hx hb dX6_sheet_0 rfl (lv_at hl 1 rfl) ?_
  refine sk_contI (sk_runS (As := [.int a1]) (rest := []) C (c_X6_isSheet g l a1 M rfl) yo_X6_isSheet kw_594 (by decide) hM hS hl.1 rfl rfl (Nat.le_of_ble_eq_true rfl) dX6_sheet_1) hS (fun H locs hM hS => ?_)
  refine lv_if_eq hx hb dX6_sheet_4 rfl (fun hc => ?_) (fun hc => ?_)
  · have h := sk_pos h hc
    refine lv_ldc (v := (-1000000001)) hx hb hown (hts _ kw_347) dX6_sheet_16 ?_
    exact sk_iret C hM hS (sk_e2 h) dX6_sheet_18
  · have h := sk_neg h hc
    refine lv_iload_n hx hb dX6_sheet_7 rfl (lv_at hl 2 rfl) ?_
    refine lv_iconst (v := (-1)) hx hb dX6_sheet_8 (by decide) ?_
    refine lv_iconst (v := 1) hx hb dX6_sheet_9 (by decide) ?_
    refine sk_contI (sk_runS (As := [.int a2, .int (-1), .int 1]) (rest := []) C (c_X6_within g l a2 (-1) 1 M rfl) yo_X6_within kw_344 (by decide) hM hS hl.1 rfl rfl (Nat.le_of_ble_eq_true rfl) dX6_sheet_10) hS (fun H locs hM hS => ?_)
    refine lv_if_ne hx hb dX6_sheet_13 rfl (fun hc => ?_) (fun hc => ?_)
    · have h := sk_neg h hc
      refine lv_iload_n hx hb dX6_sheet_19 rfl (lv_at hl 2 rfl) ?_
      refine lv_iconst (v := (-1)) hx hb dX6_sheet_20 (by decide) ?_
      refine lv_icmp_ne hx hb dX6_sheet_21 rfl (fun hc => ?_) (fun hc => ?_)
      · have h := sk_neg h hc
        refine lv_iload_n hx hb dX6_sheet_37 rfl (lv_at hl 3 rfl) ?_
        refine lv_bipush (v := 24) hx hb dX6_sheet_38 (by decide) ?_
        refine lv_icmp_le hx hb dX6_sheet_40 rfl (fun hc => ?_) (fun hc => ?_)
        · have h := sk_pos h hc
          refine lv_iload_n hx hb dX6_sheet_46 rfl (lv_at hl 3 rfl) ?_
          refine lv_if_ge hx hb dX6_sheet_47 rfl (fun hc => ?_) (fun hc => ?_)
          · have h := sk_pos h hc
            refine lv_aload_n hx hb dX6_sheet_54 rfl (lv_at hl 0 rfl) ?_
            refine sk_getR (o := 0) (ci := 6) (j := 6) (t := 1) C hM rfl rfl (by decide) rfl rfl kw_303 dX6_sheet_55 ?_
            refine lv_iload_n hx hb dX6_sheet_58 rfl (lv_at hl 1 rfl) ?_
            obtain ⟨i_3, h⟩ := sk_chkE h
            refine sk_aald (o := 1) (k := 1) (t := (65 + 2 * a1.toNatClampNeg)) C hM rfl (by decide) i_3 rfl dX6_sheet_59 ?_
            refine lv_iload_n hx hb dX6_sheet_60 rfl (lv_at hl 2 rfl) ?_
            refine lv_iload_n hx hb dX6_sheet_61 rfl (lv_at hl 3 rfl) ?_
            obtain ⟨M_4, h_5, h⟩ := sk_b1E h
            refine sk_contV (sk_runV (As := [.int a2, .int a3]) (rest := []) C (c_X1_becomeRow g l (65 + 2 * a1.toNatClampNeg) (sk_isH_a (sk_in_lt i_3)) a2 a3 M h_5) yo_X1_becomeRow kw_841 (sk_recv (ci := 1) C hM (sk_isH_kd (sk_isH_a (sk_in_lt i_3))) rfl) (by decide) hM hS hl.1 rfl rfl (Nat.le_of_ble_eq_true rfl) dX6_sheet_62) hS (fun H locs hM hS => ?_)
            refine lv_iload_n hx hb dX6_sheet_65 rfl (lv_at hl 3 rfl) ?_
            exact sk_iret C hM hS (sk_e2 h) dX6_sheet_66
          · have h := sk_neg h hc
            refine lv_ldcw (v := (-1000000014)) hx hb hown (hts _ kw_846) dX6_sheet_50 ?_
            exact sk_iret C hM hS (sk_e2 h) dX6_sheet_53
        · have h := sk_neg h hc
          refine lv_ldc (v := (-1000000001)) hx hb hown (hts _ kw_347) dX6_sheet_43 ?_
          exact sk_iret C hM hS (sk_e2 h) dX6_sheet_45
      · have h := sk_pos h hc
        refine lv_aload_n hx hb dX6_sheet_24 rfl (lv_at hl 0 rfl) ?_
        refine sk_getR (o := 0) (ci := 6) (j := 6) (t := 1) C hM rfl rfl (by decide) rfl rfl kw_303 dX6_sheet_25 ?_
        refine lv_iload_n hx hb dX6_sheet_28 rfl (lv_at hl 1 rfl) ?_
        obtain ⟨i_6, h⟩ := sk_chkE h
        refine sk_aald (o := 1) (k := 1) (t := (65 + 2 * a1.toNatClampNeg)) C hM rfl (by decide) i_6 rfl dX6_sheet_29 ?_
        refine lv_iconst (v := (-1)) hx hb dX6_sheet_30 (by decide) ?_
        refine lv_iconst (v := 0) hx hb dX6_sheet_31 (by decide) ?_
        obtain ⟨M_7, h_8, h⟩ := sk_b1E h
        refine sk_contV (sk_runV (As := [.int (-1), .int 0]) (rest := []) C (c_X1_becomeRow g l (65 + 2 * a1.toNatClampNeg) (sk_isH_a (sk_in_lt i_6)) (-1) 0 M h_8) yo_X1_becomeRow kw_841 (sk_recv (ci := 1) C hM (sk_isH_kd (sk_isH_a (sk_in_lt i_6))) rfl) (by decide) hM hS hl.1 rfl rfl (Nat.le_of_ble_eq_true rfl) dX6_sheet_32) hS (fun H locs hM hS => ?_)
        refine lv_iconst (v := 0) hx hb dX6_sheet_35 (by decide) ?_
        exact sk_iret C hM hS (sk_e2 h) dX6_sheet_36
    · have h := sk_pos h hc
      refine lv_ldc (v := (-1000000001)) hx hb hown (hts _ kw_347) dX6_sheet_16 ?_
      exact sk_iret C hM hS (sk_e2 h) dX6_sheet_18
theorem dX6_mark_0 : decode cX6_mark 0 = .ok (.iload_n 1, 1) := by decide +kernel
theorem dX6_mark_1 : decode cX6_mark 1 = .ok (.invokestatic 207, 3) := by decide +kernel
theorem dX6_mark_4 : decode cX6_mark 4 = .ok (.ifCond .ne 6, 3) := by decide +kernel
theorem dX6_mark_7 : decode cX6_mark 7 = .ok (.ldc 79, 2) := by decide +kernel
theorem dX6_mark_9 : decode cX6_mark 9 = .ok (.ireturn, 1) := by decide +kernel
theorem dX6_mark_10 : decode cX6_mark 10 = .ok (.aload_n 0, 1) := by decide +kernel
theorem dX6_mark_11 : decode cX6_mark 11 = .ok (.getfield 49, 3) := by decide +kernel
theorem dX6_mark_14 : decode cX6_mark 14 = .ok (.iload_n 1, 1) := by decide +kernel
theorem dX6_mark_15 : decode cX6_mark 15 = .ok (.aaload, 1) := by decide +kernel
theorem dX6_mark_16 : decode cX6_mark 16 = .ok (.astore 4, 2) := by decide +kernel
theorem dX6_mark_18 : decode cX6_mark 18 = .ok (.aload 4, 2) := by decide +kernel
theorem dX6_mark_20 : decode cX6_mark 20 = .ok (.getfield 210, 3) := by decide +kernel
theorem dX6_mark_23 : decode cX6_mark 23 = .ok (.iconst (-1), 1) := by decide +kernel
theorem dX6_mark_24 : decode cX6_mark 24 = .ok (.if_icmp .ne 6, 3) := by decide +kernel
theorem dX6_mark_27 : decode cX6_mark 27 = .ok (.ldc 213, 2) := by decide +kernel
theorem dX6_mark_29 : decode cX6_mark 29 = .ok (.ireturn, 1) := by decide +kernel
theorem dX6_mark_30 : decode cX6_mark 30 = .ok (.iload_n 2, 1) := by decide +kernel
theorem dX6_mark_31 : decode cX6_mark 31 = .ok (.iconst 0, 1) := by decide +kernel
theorem dX6_mark_32 : decode cX6_mark 32 = .ok (.aload 4, 2) := by decide +kernel
theorem dX6_mark_34 : decode cX6_mark 34 = .ok (.getfield 267, 3) := by decide +kernel
theorem dX6_mark_37 : decode cX6_mark 37 = .ok (.iconst 1, 1) := by decide +kernel
theorem dX6_mark_38 : decode cX6_mark 38 = .ok (.isub, 1) := by decide +kernel
theorem dX6_mark_39 : decode cX6_mark 39 = .ok (.invokestatic 75, 3) := by decide +kernel
theorem dX6_mark_42 : decode cX6_mark 42 = .ok (.ifCond .ne 7, 3) := by decide +kernel
theorem dX6_mark_45 : decode cX6_mark 45 = .ok (.ldc_w 270, 3) := by decide +kernel
theorem dX6_mark_48 : decode cX6_mark 48 = .ok (.ireturn, 1) := by decide +kernel
theorem dX6_mark_49 : decode cX6_mark 49 = .ok (.aload 4, 2) := by decide +kernel
theorem dX6_mark_51 : decode cX6_mark 51 = .ok (.getfield 210, 3) := by decide +kernel
theorem dX6_mark_54 : decode cX6_mark 54 = .ok (.ifCond .ne 23, 3) := by decide +kernel
theorem dX6_mark_57 : decode cX6_mark 57 = .ok (.iload_n 3, 1) := by decide +kernel
theorem dX6_mark_58 : decode cX6_mark 58 = .ok (.ldc 188, 2) := by decide +kernel
theorem dX6_mark_60 : decode cX6_mark 60 = .ok (.if_icmp .ne 6, 3) := by decide +kernel
theorem dX6_mark_63 : decode cX6_mark 63 = .ok (.ldc 103, 2) := by decide +kernel
theorem dX6_mark_65 : decode cX6_mark 65 = .ok (.ireturn, 1) := by decide +kernel
theorem dX6_mark_66 : decode cX6_mark 66 = .ok (.aload 4, 2) := by decide +kernel
theorem dX6_mark_68 : decode cX6_mark 68 = .ok (.getfield 271, 3) := by decide +kernel
theorem dX6_mark_71 : decode cX6_mark 71 = .ok (.iload_n 2, 1) := by decide +kernel
theorem dX6_mark_72 : decode cX6_mark 72 = .ok (.iload_n 3, 1) := by decide +kernel
theorem dX6_mark_73 : decode cX6_mark 73 = .ok (.i2s, 1) := by decide +kernel
theorem dX6_mark_74 : decode cX6_mark 74 = .ok (.iastore, 1) := by decide +kernel
theorem dX6_mark_75 : decode cX6_mark 75 = .ok (.iconst 1, 1) := by decide +kernel
theorem dX6_mark_76 : decode cX6_mark 76 = .ok (.ireturn, 1) := by decide +kernel
theorem dX6_mark_77 : decode cX6_mark 77 = .ok (.iload_n 3, 1) := by decide +kernel
theorem dX6_mark_78 : decode cX6_mark 78 = .ok (.ldc 188, 2) := by decide +kernel
theorem dX6_mark_80 : decode cX6_mark 80 = .ok (.if_icmp .eq 19, 3) := by decide +kernel
theorem dX6_mark_83 : decode cX6_mark 83 = .ok (.iload_n 3, 1) := by decide +kernel
theorem dX6_mark_84 : decode cX6_mark 84 = .ok (.ldc_w 274, 3) := by decide +kernel
theorem dX6_mark_87 : decode cX6_mark 87 = .ok (.ldc_w 275, 3) := by decide +kernel
theorem dX6_mark_90 : decode cX6_mark 90 = .ok (.invokestatic 75, 3) := by decide +kernel
theorem dX6_mark_93 : decode cX6_mark 93 = .ok (.ifCond .ne 6, 3) := by decide +kernel
theorem dX6_mark_96 : decode cX6_mark 96 = .ok (.ldc 79, 2) := by decide +kernel
theorem dX6_mark_98 : decode cX6_mark 98 = .ok (.ireturn, 1) := by decide +kernel
theorem dX6_mark_99 : decode cX6_mark 99 = .ok (.aload 4, 2) := by decide +kernel
theorem dX6_mark_101 : decode cX6_mark 101 = .ok (.getfield 271, 3) := by decide +kernel
theorem dX6_mark_104 : decode cX6_mark 104 = .ok (.iload_n 2, 1) := by decide +kernel
theorem dX6_mark_105 : decode cX6_mark 105 = .ok (.iload_n 3, 1) := by decide +kernel
theorem dX6_mark_106 : decode cX6_mark 106 = .ok (.iastore, 1) := by decide +kernel
theorem dX6_mark_107 : decode cX6_mark 107 = .ok (.iconst 1, 1) := by decide +kernel
theorem dX6_mark_108 : decode cX6_mark 108 = .ok (.ireturn, 1) := by decide +kernel
set_option maxHeartbeats 4000000 in
set_option maxRecDepth 100000 in
theorem c_X6_mark (g : sk_G) (l : Launch) (a1 : Int32) (a2 : Int32) (a3 : Int32) (M : sk_M) {rr : Int32} {MM : sk_M} (h : f_X6_mark a1 a2 a3 M = some (rr, MM)) : sk_MI g l yX6_mark cX6_mark 5 (some .int) 3 [.ref (sk_ad g 0), .int a1, .int a2, .int a3] M rr MM := by
  refine sk_go [(0, .ref (sk_ad g 0)), (1, .int a1), (2, .int a2), (3, .int a3)] (by decide) (Nat.le_of_ble_eq_true rfl) rfl ?_
  intro p e s m av below meth c C ls hl hM hS
  obtain ⟨hx, hb, hml, hown, hts, hK, hE, hr, hlocks⟩ := id C
  rw [f_X6_mark] at h
  refine lv_iload_n hx hb dX6_mark_0 rfl (lv_at hl 1 rfl) ?_
  refine sk_contI (sk_runS (As := [.int a1]) (rest := []) C (c_X6_isSheet g l a1 M rfl) yo_X6_isSheet kw_594 (by decide) hM hS hl.1 rfl rfl (Nat.le_of_ble_eq_true rfl) dX6_mark_1) hS (fun H locs hM hS => ?_)
  refine lv_if_ne hx hb dX6_mark_4 rfl (fun hc => ?_) (fun hc => ?_)
  · have h := sk_neg h hc
    refine lv_aload_n hx hb dX6_mark_10 rfl (lv_at hl 0 rfl) ?_
    refine sk_getR (o := 0) (ci := 6) (j := 6) (t := 1) C hM rfl rfl (by decide) rfl rfl kw_303 dX6_mark_11 ?_
    refine lv_iload_n hx hb dX6_mark_14 rfl (lv_at hl 1 rfl) ?_
    obtain ⟨i_2, h⟩ := sk_chkE h
    refine sk_aald (o := 1) (k := 1) (t := (65 + 2 * a1.toNatClampNeg)) C hM rfl (by decide) i_2 rfl dX6_mark_15 ?_
    refine lv_astore (lv' := [(4, .ref (sk_ad g (65 + 2 * a1.toNatClampNeg))), (0, .ref (sk_ad g 0)), (1, .int a1), (2, .int a2), (3, .int a3)]) hx hb dX6_mark_16 hl (by decide) rfl (fun ls hl => ?_)
    refine lv_aload hx hb dX6_mark_18 (lv_at hl 0 rfl) ?_
    refine sk_getI (o := (65 + 2 * a1.toNatClampNeg)) (ci := 1) (j := 1) C hM (sk_isH_kd (sk_isH_a (sk_in_lt i_2))) rfl (by decide) rfl kw_260 dX6_mark_20 ?_
    refine lv_iconst (v := (-1)) hx hb dX6_mark_23 (by decide) ?_
    refine lv_icmp_ne hx hb dX6_mark_24 rfl (fun hc => ?_) (fun hc => ?_)
    · have h := sk_neg h hc
      refine lv_iload_n hx hb dX6_mark_30 rfl (lv_at hl 3 rfl) ?_
      refine lv_iconst (v := 0) hx hb dX6_mark_31 (by decide) ?_
      refine lv_aload hx hb dX6_mark_32 (lv_at hl 0 rfl) ?_
      refine sk_getI (o := (65 + 2 * a1.toNatClampNeg)) (ci := 1) (j := 2) C hM (sk_isH_kd (sk_isH_a (sk_in_lt i_2))) rfl (by decide) rfl kw_262 dX6_mark_34 ?_
      refine lv_iconst (v := 1) hx hb dX6_mark_37 (by decide) ?_
      refine lv_isub hx hb dX6_mark_38 ?_
      refine sk_contI (sk_runS (As := [.int a2, .int 0, .int ((M (65 + 2 * a1.toNatClampNeg) 2) - 1)]) (rest := []) C (c_X6_within g l a2 0 ((M (65 + 2 * a1.toNatClampNeg) 2) - 1) M rfl) yo_X6_within kw_344 (by decide) hM hS hl.1 rfl rfl (Nat.le_of_ble_eq_true rfl) dX6_mark_39) hS (fun H locs hM hS => ?_)
      refine lv_if_ne hx hb dX6_mark_42 rfl (fun hc => ?_) (fun hc => ?_)
      · have h := sk_neg h hc
        refine lv_aload hx hb dX6_mark_49 (lv_at hl 0 rfl) ?_
        refine sk_getI (o := (65 + 2 * a1.toNatClampNeg)) (ci := 1) (j := 1) C hM (sk_isH_kd (sk_isH_a (sk_in_lt i_2))) rfl (by decide) rfl kw_260 dX6_mark_51 ?_
        refine lv_if_ne hx hb dX6_mark_54 rfl (fun hc => ?_) (fun hc => ?_)
        · have h := sk_neg h hc
          refine lv_iload_n hx hb dX6_mark_77 rfl (lv_at hl 4 rfl) ?_
          refine lv_ldc (v := (-1000000005)) hx hb hown (hts _ kw_544) dX6_mark_78 ?_
          refine lv_icmp_eq hx hb dX6_mark_80 rfl (fun hc => ?_) (fun hc => ?_)
          · have h := sk_pos h hc
            refine lv_aload hx hb dX6_mark_99 (lv_at hl 0 rfl) ?_
            refine sk_getR (o := (65 + 2 * a1.toNatClampNeg)) (ci := 1) (j := 0) (t := ((65 + 2 * a1.toNatClampNeg) + 1)) C hM (sk_isH_kd (sk_isH_a (sk_in_lt i_2))) rfl (by decide) rfl (sk_isH_r0 (sk_isH_a (sk_in_lt i_2))) kw_258 dX6_mark_101 ?_
            refine lv_iload_n hx hb dX6_mark_104 rfl (lv_at hl 3 rfl) ?_
            refine lv_iload_n hx hb dX6_mark_105 rfl (lv_at hl 4 rfl) ?_
            obtain ⟨i_4, h⟩ := sk_chkE h
            refine sk_iast (o := ((65 + 2 * a1.toNatClampNeg) + 1)) C hM hS (sk_isH_k1 (sk_isH_a (sk_in_lt i_2))) i_4 dX6_mark_106 (fun M_5 eM_5 H locs hM hS => ?_)
            have h := sk_letU h eM_5
            refine lv_iconst (v := 1) hx hb dX6_mark_107 (by decide) ?_
            exact sk_iret C hM hS (sk_e2 h) dX6_mark_108
          · have h := sk_neg h hc
            refine lv_iload_n hx hb dX6_mark_83 rfl (lv_at hl 4 rfl) ?_
            refine lv_ldcw (v := (-99999)) hx hb hown (hts _ kw_852) dX6_mark_84 ?_
            refine lv_ldcw (v := 99999) hx hb hown (hts _ kw_853) dX6_mark_87 ?_
            refine sk_contI (sk_runS (As := [.int a3, .int (-99999), .int 99999]) (rest := []) C (c_X6_within g l a3 (-99999) 99999 M rfl) yo_X6_within kw_344 (by decide) hM hS hl.1 rfl rfl (Nat.le_of_ble_eq_true rfl) dX6_mark_90) hS (fun H locs hM hS => ?_)
            refine lv_if_ne hx hb dX6_mark_93 rfl (fun hc => ?_) (fun hc => ?_)
            · have h := sk_neg h hc
              refine lv_aload hx hb dX6_mark_99 (lv_at hl 0 rfl) ?_
              refine sk_getR (o := (65 + 2 * a1.toNatClampNeg)) (ci := 1) (j := 0) (t := ((65 + 2 * a1.toNatClampNeg) + 1)) C hM (sk_isH_kd (sk_isH_a (sk_in_lt i_2))) rfl (by decide) rfl (sk_isH_r0 (sk_isH_a (sk_in_lt i_2))) kw_258 dX6_mark_101 ?_
              refine lv_iload_n hx hb dX6_mark_104 rfl (lv_at hl 3 rfl) ?_
              refine lv_iload_n hx hb dX6_mark_105 rfl (lv_at hl 4 rfl) ?_
              obtain ⟨i_7, h⟩ := sk_chkE h
              refine sk_iast (o := ((65 + 2 * a1.toNatClampNeg) + 1)) C hM hS (sk_isH_k1 (sk_isH_a (sk_in_lt i_2))) i_7 dX6_mark_106 (fun M_8 eM_8 H locs hM hS => ?_)
              have h := sk_letU h eM_8
              refine lv_iconst (v := 1) hx hb dX6_mark_107 (by decide) ?_
              exact sk_iret C hM hS (sk_e2 h) dX6_mark_108
            · have h := sk_pos h hc
              refine lv_ldc (v := (-1000000001)) hx hb hown (hts _ kw_347) dX6_mark_96 ?_
              exact sk_iret C hM hS (sk_e2 h) dX6_mark_98
        · have h := sk_pos h hc
          refine lv_iload_n hx hb dX6_mark_57 rfl (lv_at hl 4 rfl) ?_
          refine lv_ldc (v := (-1000000005)) hx hb hown (hts _ kw_544) dX6_mark_58 ?_
          refine lv_icmp_ne hx hb dX6_mark_60 rfl (fun hc => ?_) (fun hc => ?_)
          · have h := sk_neg h hc
            refine lv_aload hx hb dX6_mark_66 (lv_at hl 0 rfl) ?_
            refine sk_getR (o := (65 + 2 * a1.toNatClampNeg)) (ci := 1) (j := 0) (t := ((65 + 2 * a1.toNatClampNeg) + 1)) C hM (sk_isH_kd (sk_isH_a (sk_in_lt i_2))) rfl (by decide) rfl (sk_isH_r0 (sk_isH_a (sk_in_lt i_2))) kw_258 dX6_mark_68 ?_
            refine lv_iload_n hx hb dX6_mark_71 rfl (lv_at hl 3 rfl) ?_
            refine lv_iload_n hx hb dX6_mark_72 rfl (lv_at hl 4 rfl) ?_
            refine lv_i2s (v := (sk_i2s a3)) hx hb dX6_mark_73 rfl ?_
            obtain ⟨i_9, h⟩ := sk_chkE h
            refine sk_iast (o := ((65 + 2 * a1.toNatClampNeg) + 1)) C hM hS (sk_isH_k1 (sk_isH_a (sk_in_lt i_2))) i_9 dX6_mark_74 (fun M_10 eM_10 H locs hM hS => ?_)
            have h := sk_letU h eM_10
            refine lv_iconst (v := 1) hx hb dX6_mark_75 (by decide) ?_
            exact sk_iret C hM hS (sk_e2 h) dX6_mark_76
          · have h := sk_pos h hc
            refine lv_ldc (v := (-1000000012)) hx hb hown (hts _ kw_373) dX6_mark_63 ?_
            exact sk_iret C hM hS (sk_e2 h) dX6_mark_65
      · have h := sk_pos h hc
        refine lv_ldcw (v := (-1000000013)) hx hb hown (hts _ kw_851) dX6_mark_45 ?_
        exact sk_iret C hM hS (sk_e2 h) dX6_mark_48
    · have h := sk_pos h hc
      refine lv_ldc (v := (-1000000011)) hx hb hown (hts _ kw_597) dX6_mark_27 ?_
      exact sk_iret C hM hS (sk_e2 h) dX6_mark_29
  · have h := sk_pos h hc
    refine lv_ldc (v := (-1000000001)) hx hb hown (hts _ kw_347) dX6_mark_7 ?_
    exact sk_iret C hM hS (sk_e2 h) dX6_mark_9
theorem dX6_pour_0 : decode cX6_pour 0 = .ok (.aload_n 0, 1) := by decide +kernel
theorem dX6_pour_1 : decode cX6_pour 1 = .ok (.iload_n 1, 1) := by decide +kernel
theorem dX6_pour_2 : decode cX6_pour 2 = .ok (.invokevirtual 160, 3) := by decide +kernel
theorem dX6_pour_5 : decode cX6_pour 5 = .ok (.ifCond .eq 10, 3) := by decide +kernel
theorem dX6_pour_8 : decode cX6_pour 8 = .ok (.iload_n 2, 1) := by decide +kernel
theorem dX6_pour_9 : decode cX6_pour 9 = .ok (.invokestatic 207, 3) := by decide +kernel
theorem dX6_pour_12 : decode cX6_pour 12 = .ok (.ifCond .ne 6, 3) := by decide +kernel
theorem dX6_pour_15 : decode cX6_pour 15 = .ok (.ldc 79, 2) := by decide +kernel
theorem dX6_pour_17 : decode cX6_pour 17 = .ok (.ireturn, 1) := by decide +kernel
theorem dX6_pour_18 : decode cX6_pour 18 = .ok (.aload_n 0, 1) := by decide +kernel
theorem dX6_pour_19 : decode cX6_pour 19 = .ok (.getfield 49, 3) := by decide +kernel
theorem dX6_pour_22 : decode cX6_pour 22 = .ok (.iload_n 2, 1) := by decide +kernel
theorem dX6_pour_23 : decode cX6_pour 23 = .ok (.aaload, 1) := by decide +kernel
theorem dX6_pour_24 : decode cX6_pour 24 = .ok (.astore_n 3, 1) := by decide +kernel
theorem dX6_pour_25 : decode cX6_pour 25 = .ok (.aload_n 3, 1) := by decide +kernel
theorem dX6_pour_26 : decode cX6_pour 26 = .ok (.getfield 210, 3) := by decide +kernel
theorem dX6_pour_29 : decode cX6_pour 29 = .ok (.iconst (-1), 1) := by decide +kernel
theorem dX6_pour_30 : decode cX6_pour 30 = .ok (.if_icmp .ne 6, 3) := by decide +kernel
theorem dX6_pour_33 : decode cX6_pour 33 = .ok (.ldc 213, 2) := by decide +kernel
theorem dX6_pour_35 : decode cX6_pour 35 = .ok (.ireturn, 1) := by decide +kernel
theorem dX6_pour_36 : decode cX6_pour 36 = .ok (.iconst 0, 1) := by decide +kernel
theorem dX6_pour_37 : decode cX6_pour 37 = .ok (.istore 4, 2) := by decide +kernel
theorem dX6_pour_39 : decode cX6_pour 39 = .ok (.aload_n 0, 1) := by decide +kernel
theorem dX6_pour_40 : decode cX6_pour 40 = .ok (.getfield 28, 3) := by decide +kernel
theorem dX6_pour_43 : decode cX6_pour 43 = .ok (.getfield 110, 3) := by decide +kernel
theorem dX6_pour_46 : decode cX6_pour 46 = .ok (.aload_n 3, 1) := by decide +kernel
theorem dX6_pour_47 : decode cX6_pour 47 = .ok (.getfield 267, 3) := by decide +kernel
theorem dX6_pour_50 : decode cX6_pour 50 = .ok (.invokestatic 124, 3) := by decide +kernel
theorem dX6_pour_53 : decode cX6_pour 53 = .ok (.istore 5, 2) := by decide +kernel
theorem dX6_pour_55 : decode cX6_pour 55 = .ok (.iconst 0, 1) := by decide +kernel
theorem dX6_pour_56 : decode cX6_pour 56 = .ok (.istore 6, 2) := by decide +kernel
theorem dX6_pour_58 : decode cX6_pour 58 = .ok (.iload 6, 2) := by decide +kernel
theorem dX6_pour_60 : decode cX6_pour 60 = .ok (.iload 5, 2) := by decide +kernel
theorem dX6_pour_62 : decode cX6_pour 62 = .ok (.if_icmp .ge 46, 3) := by decide +kernel
theorem dX6_pour_65 : decode cX6_pour 65 = .ok (.aload_n 3, 1) := by decide +kernel
theorem dX6_pour_66 : decode cX6_pour 66 = .ok (.getfield 271, 3) := by decide +kernel
theorem dX6_pour_69 : decode cX6_pour 69 = .ok (.iload 6, 2) := by decide +kernel
theorem dX6_pour_71 : decode cX6_pour 71 = .ok (.iaload, 1) := by decide +kernel
theorem dX6_pour_72 : decode cX6_pour 72 = .ok (.ldc 188, 2) := by decide +kernel
theorem dX6_pour_74 : decode cX6_pour 74 = .ok (.if_icmp .eq 28, 3) := by decide +kernel
theorem dX6_pour_77 : decode cX6_pour 77 = .ok (.iload 4, 2) := by decide +kernel
theorem dX6_pour_79 : decode cX6_pour 79 = .ok (.aload_n 0, 1) := by decide +kernel
theorem dX6_pour_80 : decode cX6_pour 80 = .ok (.getfield 28, 3) := by decide +kernel
theorem dX6_pour_83 : decode cX6_pour 83 = .ok (.iload_n 1, 1) := by decide +kernel
theorem dX6_pour_84 : decode cX6_pour 84 = .ok (.iload 6, 2) := by decide +kernel
theorem dX6_pour_86 : decode cX6_pour 86 = .ok (.aload_n 3, 1) := by decide +kernel
theorem dX6_pour_87 : decode cX6_pour 87 = .ok (.getfield 271, 3) := by decide +kernel
theorem dX6_pour_90 : decode cX6_pour 90 = .ok (.iload 6, 2) := by decide +kernel
theorem dX6_pour_92 : decode cX6_pour 92 = .ok (.iaload, 1) := by decide +kernel
theorem dX6_pour_93 : decode cX6_pour 93 = .ok (.invokestatic 156, 3) := by decide +kernel
theorem dX6_pour_96 : decode cX6_pour 96 = .ok (.invokevirtual 163, 3) := by decide +kernel
theorem dX6_pour_99 : decode cX6_pour 99 = .ok (.iadd, 1) := by decide +kernel
theorem dX6_pour_100 : decode cX6_pour 100 = .ok (.istore 4, 2) := by decide +kernel
theorem dX6_pour_102 : decode cX6_pour 102 = .ok (.iinc 6 1, 3) := by decide +kernel
theorem dX6_pour_105 : decode cX6_pour 105 = .ok (.goto (-47), 3) := by decide +kernel
theorem dX6_pour_108 : decode cX6_pour 108 = .ok (.iload 4, 2) := by decide +kernel
theorem dX6_pour_110 : decode cX6_pour 110 = .ok (.ireturn, 1) := by decide +kernel
set_option maxHeartbeats 4000000 in
set_option maxRecDepth 100000 in
theorem w_X6_pour_L58 {g : sk_G} {l : Launch} {p : Program} {e : Env} {s : State} {m : MethodId} {av : Array Value} {below : List Frame} {meth : Method} {c : Code} (C : sk_C g p s m av meth c cX6_pour 7 RX6 (some .int)) (o3 : Nat) (q3 : sk_isH o3) (a1 : Int32) (a5 : Int32) {rr : Int32} {MM : sk_M} :
    ∀ (n : Nat) (a4 : Int32) (a6 : Int32) (M : sk_M) (H : Heap) (locs : List Loc) (ls : Array Slot), lv_has ls 7 [(0, .ref (sk_ad g 0)), (1, .int a1), (3, .ref (sk_ad g o3)), (4, .int a4), (5, .int a5), (6, .int a6)] → sk_P g M H → va_S (sk_A g) s.heap H locs → ∀ {out : Int32 × sk_M}, f_X6_pour_L58 o3 a1 a5 n a4 a6 M = some out → (∀ (x4 : Int32) (M1 : sk_M) (H : Heap) (locs : List Loc) (ls : Array Slot), some (x4, M1) = some out → lv_has ls 7 [(4, .int x4)] → sk_P g M1 H → va_S (sk_A g) s.heap H locs → W p l e (sk_rm 3) s m av below meth c H locs 0 0 (MQ below (sk_QI g rr MM) av s 0 0 (sk_A g)) (F0 m 108 ls [])) → W p l e (sk_rm 3) s m av below meth c H locs 0 0 (MQ below (sk_QI g rr MM) av s 0 0 (sk_A g)) (F0 m 58 ls []) := by
  obtain ⟨hx, hb, hml, hown, hts, hK, hE, hr, hlocks⟩ := id C
  intro n
  induction n with
  | zero =>
    intro a4 a6 M H locs ls hl hM hS out h
    cases h
  | succ n ih =>
    intro a4 a6 M H locs ls hl hM hS out h kx
    rw [f_X6_pour_L58] at h
    refine lv_iload hx hb dX6_pour_58 (lv_at hl 5 rfl) ?_
    refine lv_iload hx hb dX6_pour_60 (lv_at hl 4 rfl) ?_
    refine lv_icmp_ge hx hb dX6_pour_62 rfl (fun hc => ?_) (fun hc => ?_)
    · have h := sk_pos h hc
      exact kx _ _ _ _ _ h (lv_sub hl [3] rfl) hM hS
    · have h := sk_neg h hc
      refine lv_aload_n hx hb dX6_pour_65 rfl (lv_at hl 2 rfl) ?_
      refine sk_getR (o := o3) (ci := 1) (j := 0) (t := (o3 + 1)) C hM (sk_isH_kd q3) rfl (by decide) rfl (sk_isH_r0 q3) kw_258 dX6_pour_66 ?_
      refine lv_iload hx hb dX6_pour_69 (lv_at hl 5 rfl) ?_
      obtain ⟨i_5, h⟩ := sk_chkE h
      refine sk_iald (o := (o3 + 1)) C hM (sk_isH_k1 q3) i_5 dX6_pour_71 ?_
      refine lv_ldc (v := (-1000000005)) hx hb hown (hts _ kw_544) dX6_pour_72 ?_
      refine lv_icmp_eq hx hb dX6_pour_74 rfl (fun hc => ?_) (fun hc => ?_)
      · have h := sk_pos h hc
        refine lv_iinc (v := (a6 + 1)) (lv' := [(6, .int (a6 + 1)), (0, .ref (sk_ad g 0)), (1, .int a1), (3, .ref (sk_ad g o3)), (4, .int a4), (5, .int a5)]) hx hb dX6_pour_102 hl (k := 5) rfl rfl (by decide) rfl (fun ls hl => ?_)
        refine lv_goto hx hb dX6_pour_105 rfl ?_
        exact ih a4 (a6 + 1) M _ _ _ (lv_sub hl [1, 2, 3, 4, 5, 0] rfl) hM hS h kx
      · have h := sk_neg h hc
        refine lv_iload hx hb dX6_pour_77 (lv_at hl 3 rfl) ?_
        refine lv_aload_n hx hb dX6_pour_79 rfl (lv_at hl 0 rfl) ?_
        refine sk_getR (o := 0) (ci := 6) (j := 0) (t := 10) C hM rfl rfl (by decide) rfl rfl kw_297 dX6_pour_80 ?_
        refine lv_iload_n hx hb dX6_pour_83 rfl (lv_at hl 1 rfl) ?_
        refine lv_iload hx hb dX6_pour_84 (lv_at hl 5 rfl) ?_
        refine lv_aload_n hx hb dX6_pour_86 rfl (lv_at hl 2 rfl) ?_
        refine sk_getR (o := o3) (ci := 1) (j := 0) (t := (o3 + 1)) C hM (sk_isH_kd q3) rfl (by decide) rfl (sk_isH_r0 q3) kw_258 dX6_pour_87 ?_
        refine lv_iload hx hb dX6_pour_90 (lv_at hl 5 rfl) ?_
        obtain ⟨i_6, h⟩ := sk_chkE h
        refine sk_iald (o := (o3 + 1)) C hM (sk_isH_k1 q3) i_6 dX6_pour_92 ?_
        refine sk_contI (sk_runS (As := [.int (M (o3 + 1) a6.toNatClampNeg)]) (rest := [.int a6, .int a1, .ref (sk_ad g 10), .int a4]) C (c_X6_held g l (M (o3 + 1) a6.toNatClampNeg) M rfl) yo_X6_held kw_464 (by decide) hM hS hl.1 rfl rfl (Nat.le_of_ble_eq_true rfl) dX6_pour_93) hS (fun H locs hM hS => ?_)
        obtain ⟨x_8, M_9, h_10, h⟩ := sk_b2E h
        refine sk_contI (sk_runV (As := [.int a1, .int a6, .int (f_X6_held (M (o3 + 1) a6.toNatClampNeg))]) (rest := [.int a4]) C (c_X5_putSpot g l 10 (Or.inl rfl) a1 a6 (f_X6_held (M (o3 + 1) a6.toNatClampNeg)) M h_10) yo_X5_putSpot kw_476 (sk_recv (ci := 5) C hM rfl rfl) (by decide) hM hS hl.1 rfl rfl (Nat.le_of_ble_eq_true rfl) dX6_pour_96) hS (fun H locs hM hS => ?_)
        refine lv_iadd hx hb dX6_pour_99 ?_
        refine lv_topi (fun x_11 ex_11 => ?_)
        have h := sk_letU h ex_11
        refine lv_istore (lv' := [(4, .int x_11), (0, .ref (sk_ad g 0)), (1, .int a1), (3, .ref (sk_ad g o3)), (5, .int a5), (6, .int a6)]) hx hb dX6_pour_100 hl (by decide) rfl (fun ls hl => ?_)
        refine lv_iinc (v := (a6 + 1)) (lv' := [(6, .int (a6 + 1)), (4, .int x_11), (0, .ref (sk_ad g 0)), (1, .int a1), (3, .ref (sk_ad g o3)), (5, .int a5)]) hx hb dX6_pour_102 hl (k := 5) rfl rfl (by decide) rfl (fun ls hl => ?_)
        refine lv_goto hx hb dX6_pour_105 rfl ?_
        exact ih x_11 (a6 + 1) M_9 _ _ _ (lv_sub hl [2, 3, 4, 1, 5, 0] rfl) hM hS h kx
set_option maxHeartbeats 4000000 in
set_option maxRecDepth 100000 in
theorem c_X6_pour (g : sk_G) (l : Launch) (a1 : Int32) (a2 : Int32) (M : sk_M) {rr : Int32} {MM : sk_M} (h : f_X6_pour a1 a2 M = some (rr, MM)) : sk_MI g l yX6_pour cX6_pour 7 (some .int) 3 [.ref (sk_ad g 0), .int a1, .int a2] M rr MM := by
  refine sk_go [(0, .ref (sk_ad g 0)), (1, .int a1), (2, .int a2)] (by decide) (Nat.le_of_ble_eq_true rfl) rfl ?_
  intro p e s m av below meth c C ls hl hM hS
  obtain ⟨hx, hb, hml, hown, hts, hK, hE, hr, hlocks⟩ := id C
  rw [f_X6_pour] at h
  refine lv_aload_n hx hb dX6_pour_0 rfl (lv_at hl 0 rfl) ?_
  refine lv_iload_n hx hb dX6_pour_1 rfl (lv_at hl 1 rfl) ?_
  refine sk_contI (sk_runV (As := [.int a1]) (rest := []) C (c_X6_isCloth g l a1 M rfl) yo_X6_isCloth kw_434 (sk_recv (ci := 6) C hM rfl rfl) (by decide) hM hS hl.1 rfl rfl (Nat.le_of_ble_eq_true rfl) dX6_pour_2) hS (fun H locs hM hS => ?_)
  refine lv_if_eq hx hb dX6_pour_5 rfl (fun hc => ?_) (fun hc => ?_)
  · have h := sk_pos h hc
    refine lv_ldc (v := (-1000000001)) hx hb hown (hts _ kw_347) dX6_pour_15 ?_
    exact sk_iret C hM hS (sk_e2 h) dX6_pour_17
  · have h := sk_neg h hc
    refine lv_iload_n hx hb dX6_pour_8 rfl (lv_at hl 2 rfl) ?_
    refine sk_contI (sk_runS (As := [.int a2]) (rest := []) C (c_X6_isSheet g l a2 M rfl) yo_X6_isSheet kw_594 (by decide) hM hS hl.1 rfl rfl (Nat.le_of_ble_eq_true rfl) dX6_pour_9) hS (fun H locs hM hS => ?_)
    refine lv_if_ne hx hb dX6_pour_12 rfl (fun hc => ?_) (fun hc => ?_)
    · have h := sk_neg h hc
      refine lv_aload_n hx hb dX6_pour_18 rfl (lv_at hl 0 rfl) ?_
      refine sk_getR (o := 0) (ci := 6) (j := 6) (t := 1) C hM rfl rfl (by decide) rfl rfl kw_303 dX6_pour_19 ?_
      refine lv_iload_n hx hb dX6_pour_22 rfl (lv_at hl 2 rfl) ?_
      obtain ⟨i_3, h⟩ := sk_chkE h
      refine sk_aald (o := 1) (k := 1) (t := (65 + 2 * a2.toNatClampNeg)) C hM rfl (by decide) i_3 rfl dX6_pour_23 ?_
      refine lv_astore_n (lv' := [(3, .ref (sk_ad g (65 + 2 * a2.toNatClampNeg))), (0, .ref (sk_ad g 0)), (1, .int a1), (2, .int a2)]) hx hb dX6_pour_24 rfl hl (by decide) rfl (fun ls hl => ?_)
      refine lv_aload_n hx hb dX6_pour_25 rfl (lv_at hl 0 rfl) ?_
      refine sk_getI (o := (65 + 2 * a2.toNatClampNeg)) (ci := 1) (j := 1) C hM (sk_isH_kd (sk_isH_a (sk_in_lt i_3))) rfl (by decide) rfl kw_260 dX6_pour_26 ?_
      refine lv_iconst (v := (-1)) hx hb dX6_pour_29 (by decide) ?_
      refine lv_icmp_ne hx hb dX6_pour_30 rfl (fun hc => ?_) (fun hc => ?_)
      · have h := sk_neg h hc
        refine lv_iconst (v := 0) hx hb dX6_pour_36 (by decide) ?_
        refine lv_istore (lv' := [(4, .int 0), (3, .ref (sk_ad g (65 + 2 * a2.toNatClampNeg))), (0, .ref (sk_ad g 0)), (1, .int a1), (2, .int a2)]) hx hb dX6_pour_37 hl (by decide) rfl (fun ls hl => ?_)
        refine lv_aload_n hx hb dX6_pour_39 rfl (lv_at hl 2 rfl) ?_
        refine sk_getR (o := 0) (ci := 6) (j := 0) (t := 10) C hM rfl rfl (by decide) rfl rfl kw_297 dX6_pour_40 ?_
        refine sk_getI (o := 10) (ci := 5) (j := 10) C hM rfl rfl (by decide) rfl kw_186 dX6_pour_43 ?_
        refine lv_aload_n hx hb dX6_pour_46 rfl (lv_at hl 1 rfl) ?_
        refine sk_getI (o := (65 + 2 * a2.toNatClampNeg)) (ci := 1) (j := 2) C hM (sk_isH_kd (sk_isH_a (sk_in_lt i_3))) rfl (by decide) rfl kw_262 dX6_pour_47 ?_
        refine sk_mmin (d := 3) C hl.1 sk_wmin kw_410 (by decide) (Nat.le_of_ble_eq_true rfl) dX6_pour_50 ?_
        refine lv_topi (fun x_4 ex_4 => ?_)
        have h := sk_letU h ex_4
        refine lv_istore (lv' := [(5, .int x_4), (4, .int 0), (3, .ref (sk_ad g (65 + 2 * a2.toNatClampNeg))), (0, .ref (sk_ad g 0)), (1, .int a1), (2, .int a2)]) hx hb dX6_pour_53 hl (by decide) rfl (fun ls hl => ?_)
        refine lv_iconst (v := 0) hx hb dX6_pour_55 (by decide) ?_
        refine lv_istore (lv' := [(6, .int 0), (5, .int x_4), (4, .int 0), (3, .ref (sk_ad g (65 + 2 * a2.toNatClampNeg))), (0, .ref (sk_ad g 0)), (1, .int a1), (2, .int a2)]) hx hb dX6_pour_56 hl (by decide) rfl (fun ls hl => ?_)
        obtain ⟨x_12, M_13, h_14, h⟩ := sk_b2E h
        refine w_X6_pour_L58 C (65 + 2 * a2.toNatClampNeg) (sk_isH_a (sk_in_lt i_3)) a1 x_4 sk_FU 0 0 M _ _ _ (lv_sub hl [4, 5, 3, 2, 1, 0] rfl) hM hS h_14 (fun y_15 y_16 H locs ls he hl hM hS => ?_)
        obtain ⟨rfl, rfl⟩ := sk_e2 he
        refine lv_iload hx hb dX6_pour_108 (lv_at hl 0 rfl) ?_
        exact sk_iret C hM hS (sk_e2 h) dX6_pour_110
      · have h := sk_pos h hc
        refine lv_ldc (v := (-1000000011)) hx hb hown (hts _ kw_597) dX6_pour_33 ?_
        exact sk_iret C hM hS (sk_e2 h) dX6_pour_35
    · have h := sk_pos h hc
      refine lv_ldc (v := (-1000000001)) hx hb hown (hts _ kw_347) dX6_pour_15 ?_
      exact sk_iret C hM hS (sk_e2 h) dX6_pour_17
theorem dX6_copy_0 : decode cX6_copy 0 = .ok (.iload_n 1, 1) := by decide +kernel
theorem dX6_copy_1 : decode cX6_copy 1 = .ok (.invokestatic 207, 3) := by decide +kernel
theorem dX6_copy_4 : decode cX6_copy 4 = .ok (.ifCond .eq 10, 3) := by decide +kernel
theorem dX6_copy_7 : decode cX6_copy 7 = .ok (.iload_n 3, 1) := by decide +kernel
theorem dX6_copy_8 : decode cX6_copy 8 = .ok (.invokestatic 207, 3) := by decide +kernel
theorem dX6_copy_11 : decode cX6_copy 11 = .ok (.ifCond .ne 6, 3) := by decide +kernel
theorem dX6_copy_14 : decode cX6_copy 14 = .ok (.ldc 79, 2) := by decide +kernel
theorem dX6_copy_16 : decode cX6_copy 16 = .ok (.ireturn, 1) := by decide +kernel
theorem dX6_copy_17 : decode cX6_copy 17 = .ok (.aload_n 0, 1) := by decide +kernel
theorem dX6_copy_18 : decode cX6_copy 18 = .ok (.getfield 49, 3) := by decide +kernel
theorem dX6_copy_21 : decode cX6_copy 21 = .ok (.iload_n 1, 1) := by decide +kernel
theorem dX6_copy_22 : decode cX6_copy 22 = .ok (.aaload, 1) := by decide +kernel
theorem dX6_copy_23 : decode cX6_copy 23 = .ok (.astore 6, 2) := by decide +kernel
theorem dX6_copy_25 : decode cX6_copy 25 = .ok (.aload_n 0, 1) := by decide +kernel
theorem dX6_copy_26 : decode cX6_copy 26 = .ok (.getfield 49, 3) := by decide +kernel
theorem dX6_copy_29 : decode cX6_copy 29 = .ok (.iload_n 3, 1) := by decide +kernel
theorem dX6_copy_30 : decode cX6_copy 30 = .ok (.aaload, 1) := by decide +kernel
theorem dX6_copy_31 : decode cX6_copy 31 = .ok (.astore 7, 2) := by decide +kernel
theorem dX6_copy_33 : decode cX6_copy 33 = .ok (.aload 6, 2) := by decide +kernel
theorem dX6_copy_35 : decode cX6_copy 35 = .ok (.getfield 210, 3) := by decide +kernel
theorem dX6_copy_38 : decode cX6_copy 38 = .ok (.iconst (-1), 1) := by decide +kernel
theorem dX6_copy_39 : decode cX6_copy 39 = .ok (.if_icmp .eq 12, 3) := by decide +kernel
theorem dX6_copy_42 : decode cX6_copy 42 = .ok (.aload 7, 2) := by decide +kernel
theorem dX6_copy_44 : decode cX6_copy 44 = .ok (.getfield 210, 3) := by decide +kernel
theorem dX6_copy_47 : decode cX6_copy 47 = .ok (.iconst (-1), 1) := by decide +kernel
theorem dX6_copy_48 : decode cX6_copy 48 = .ok (.if_icmp .ne 6, 3) := by decide +kernel
theorem dX6_copy_51 : decode cX6_copy 51 = .ok (.ldc 213, 2) := by decide +kernel
theorem dX6_copy_53 : decode cX6_copy 53 = .ok (.ireturn, 1) := by decide +kernel
theorem dX6_copy_54 : decode cX6_copy 54 = .ok (.aload 6, 2) := by decide +kernel
theorem dX6_copy_56 : decode cX6_copy 56 = .ok (.getfield 210, 3) := by decide +kernel
theorem dX6_copy_59 : decode cX6_copy 59 = .ok (.aload 7, 2) := by decide +kernel
theorem dX6_copy_61 : decode cX6_copy 61 = .ok (.getfield 210, 3) := by decide +kernel
theorem dX6_copy_64 : decode cX6_copy 64 = .ok (.if_icmp .eq 6, 3) := by decide +kernel
theorem dX6_copy_67 : decode cX6_copy 67 = .ok (.ldc 103, 2) := by decide +kernel
theorem dX6_copy_69 : decode cX6_copy 69 = .ok (.ireturn, 1) := by decide +kernel
theorem dX6_copy_70 : decode cX6_copy 70 = .ok (.aload 6, 2) := by decide +kernel
theorem dX6_copy_72 : decode cX6_copy 72 = .ok (.iload_n 2, 1) := by decide +kernel
theorem dX6_copy_73 : decode cX6_copy 73 = .ok (.iload 5, 2) := by decide +kernel
theorem dX6_copy_75 : decode cX6_copy 75 = .ok (.invokevirtual 276, 3) := by decide +kernel
theorem dX6_copy_78 : decode cX6_copy 78 = .ok (.ifCond .eq 15, 3) := by decide +kernel
theorem dX6_copy_81 : decode cX6_copy 81 = .ok (.aload 7, 2) := by decide +kernel
theorem dX6_copy_83 : decode cX6_copy 83 = .ok (.iload 4, 2) := by decide +kernel
theorem dX6_copy_85 : decode cX6_copy 85 = .ok (.iload 5, 2) := by decide +kernel
theorem dX6_copy_87 : decode cX6_copy 87 = .ok (.invokevirtual 276, 3) := by decide +kernel
theorem dX6_copy_90 : decode cX6_copy 90 = .ok (.ifCond .ne 7, 3) := by decide +kernel
theorem dX6_copy_93 : decode cX6_copy 93 = .ok (.ldc_w 270, 3) := by decide +kernel
theorem dX6_copy_96 : decode cX6_copy 96 = .ok (.ireturn, 1) := by decide +kernel
theorem dX6_copy_97 : decode cX6_copy 97 = .ok (.aload 6, 2) := by decide +kernel
theorem dX6_copy_99 : decode cX6_copy 99 = .ok (.getfield 271, 3) := by decide +kernel
theorem dX6_copy_102 : decode cX6_copy 102 = .ok (.iload_n 2, 1) := by decide +kernel
theorem dX6_copy_103 : decode cX6_copy 103 = .ok (.aload 7, 2) := by decide +kernel
theorem dX6_copy_105 : decode cX6_copy 105 = .ok (.getfield 271, 3) := by decide +kernel
theorem dX6_copy_108 : decode cX6_copy 108 = .ok (.iload 4, 2) := by decide +kernel
theorem dX6_copy_110 : decode cX6_copy 110 = .ok (.iload 5, 2) := by decide +kernel
theorem dX6_copy_112 : decode cX6_copy 112 = .ok (.invokestatic 201, 3) := by decide +kernel
theorem dX6_copy_115 : decode cX6_copy 115 = .ok (.iload 5, 2) := by decide +kernel
theorem dX6_copy_117 : decode cX6_copy 117 = .ok (.ireturn, 1) := by decide +kernel
set_option maxHeartbeats 4000000 in
set_option maxRecDepth 100000 in
theorem c_X6_copy (g : sk_G) (l : Launch) (a1 : Int32) (a2 : Int32) (a3 : Int32) (a4 : Int32) (a5 : Int32) (M : sk_M) {rr : Int32} {MM : sk_M} (h : f_X6_copy a1 a2 a3 a4 a5 M = some (rr, MM)) : sk_MI g l yX6_copy cX6_copy 8 (some .int) 3 [.ref (sk_ad g 0), .int a1, .int a2, .int a3, .int a4, .int a5] M rr MM := by
  refine sk_go [(0, .ref (sk_ad g 0)), (1, .int a1), (2, .int a2), (3, .int a3), (4, .int a4), (5, .int a5)] (by decide) (Nat.le_of_ble_eq_true rfl) rfl ?_
  intro p e s m av below meth c C ls hl hM hS
  obtain ⟨hx, hb, hml, hown, hts, hK, hE, hr, hlocks⟩ := id C
  rw [f_X6_copy] at h
  refine lv_iload_n hx hb dX6_copy_0 rfl (lv_at hl 1 rfl) ?_
  refine sk_contI (sk_runS (As := [.int a1]) (rest := []) C (c_X6_isSheet g l a1 M rfl) yo_X6_isSheet kw_594 (by decide) hM hS hl.1 rfl rfl (Nat.le_of_ble_eq_true rfl) dX6_copy_1) hS (fun H locs hM hS => ?_)
  refine lv_if_eq hx hb dX6_copy_4 rfl (fun hc => ?_) (fun hc => ?_)
  · have h := sk_pos h hc
    refine lv_ldc (v := (-1000000001)) hx hb hown (hts _ kw_347) dX6_copy_14 ?_
    exact sk_iret C hM hS (sk_e2 h) dX6_copy_16
  · have h := sk_neg h hc
    refine lv_iload_n hx hb dX6_copy_7 rfl (lv_at hl 3 rfl) ?_
    refine sk_contI (sk_runS (As := [.int a3]) (rest := []) C (c_X6_isSheet g l a3 M rfl) yo_X6_isSheet kw_594 (by decide) hM hS hl.1 rfl rfl (Nat.le_of_ble_eq_true rfl) dX6_copy_8) hS (fun H locs hM hS => ?_)
    refine lv_if_ne hx hb dX6_copy_11 rfl (fun hc => ?_) (fun hc => ?_)
    · have h := sk_neg h hc
      refine lv_aload_n hx hb dX6_copy_17 rfl (lv_at hl 0 rfl) ?_
      refine sk_getR (o := 0) (ci := 6) (j := 6) (t := 1) C hM rfl rfl (by decide) rfl rfl kw_303 dX6_copy_18 ?_
      refine lv_iload_n hx hb dX6_copy_21 rfl (lv_at hl 1 rfl) ?_
      obtain ⟨i_3, h⟩ := sk_chkE h
      refine sk_aald (o := 1) (k := 1) (t := (65 + 2 * a1.toNatClampNeg)) C hM rfl (by decide) i_3 rfl dX6_copy_22 ?_
      refine lv_astore (lv' := [(6, .ref (sk_ad g (65 + 2 * a1.toNatClampNeg))), (0, .ref (sk_ad g 0)), (1, .int a1), (2, .int a2), (3, .int a3), (4, .int a4), (5, .int a5)]) hx hb dX6_copy_23 hl (by decide) rfl (fun ls hl => ?_)
      refine lv_aload_n hx hb dX6_copy_25 rfl (lv_at hl 1 rfl) ?_
      refine sk_getR (o := 0) (ci := 6) (j := 6) (t := 1) C hM rfl rfl (by decide) rfl rfl kw_303 dX6_copy_26 ?_
      refine lv_iload_n hx hb dX6_copy_29 rfl (lv_at hl 4 rfl) ?_
      obtain ⟨i_4, h⟩ := sk_chkE h
      refine sk_aald (o := 1) (k := 1) (t := (65 + 2 * a3.toNatClampNeg)) C hM rfl (by decide) i_4 rfl dX6_copy_30 ?_
      refine lv_astore (lv' := [(7, .ref (sk_ad g (65 + 2 * a3.toNatClampNeg))), (6, .ref (sk_ad g (65 + 2 * a1.toNatClampNeg))), (0, .ref (sk_ad g 0)), (1, .int a1), (2, .int a2), (3, .int a3), (4, .int a4), (5, .int a5)]) hx hb dX6_copy_31 hl (by decide) rfl (fun ls hl => ?_)
      refine lv_aload hx hb dX6_copy_33 (lv_at hl 1 rfl) ?_
      refine sk_getI (o := (65 + 2 * a1.toNatClampNeg)) (ci := 1) (j := 1) C hM (sk_isH_kd (sk_isH_a (sk_in_lt i_3))) rfl (by decide) rfl kw_260 dX6_copy_35 ?_
      refine lv_iconst (v := (-1)) hx hb dX6_copy_38 (by decide) ?_
      refine lv_icmp_eq hx hb dX6_copy_39 rfl (fun hc => ?_) (fun hc => ?_)
      · have h := sk_pos h hc
        refine lv_ldc (v := (-1000000011)) hx hb hown (hts _ kw_597) dX6_copy_51 ?_
        exact sk_iret C hM hS (sk_e2 h) dX6_copy_53
      · have h := sk_neg h hc
        refine lv_aload hx hb dX6_copy_42 (lv_at hl 0 rfl) ?_
        refine sk_getI (o := (65 + 2 * a3.toNatClampNeg)) (ci := 1) (j := 1) C hM (sk_isH_kd (sk_isH_a (sk_in_lt i_4))) rfl (by decide) rfl kw_260 dX6_copy_44 ?_
        refine lv_iconst (v := (-1)) hx hb dX6_copy_47 (by decide) ?_
        refine lv_icmp_ne hx hb dX6_copy_48 rfl (fun hc => ?_) (fun hc => ?_)
        · have h := sk_neg h hc
          refine lv_aload hx hb dX6_copy_54 (lv_at hl 1 rfl) ?_
          refine sk_getI (o := (65 + 2 * a1.toNatClampNeg)) (ci := 1) (j := 1) C hM (sk_isH_kd (sk_isH_a (sk_in_lt i_3))) rfl (by decide) rfl kw_260 dX6_copy_56 ?_
          refine lv_aload hx hb dX6_copy_59 (lv_at hl 0 rfl) ?_
          refine sk_getI (o := (65 + 2 * a3.toNatClampNeg)) (ci := 1) (j := 1) C hM (sk_isH_kd (sk_isH_a (sk_in_lt i_4))) rfl (by decide) rfl kw_260 dX6_copy_61 ?_
          refine lv_icmp_eq hx hb dX6_copy_64 rfl (fun hc => ?_) (fun hc => ?_)
          · have h := sk_pos h hc
            refine lv_aload hx hb dX6_copy_70 (lv_at hl 1 rfl) ?_
            refine lv_iload_n hx hb dX6_copy_72 rfl (lv_at hl 4 rfl) ?_
            refine lv_iload hx hb dX6_copy_73 (lv_at hl 7 rfl) ?_
            refine sk_contI (sk_runV (As := [.int a2, .int a5]) (rest := []) C (c_X1_hasPlaces g l (65 + 2 * a1.toNatClampNeg) (sk_isH_a (sk_in_lt i_3)) a2 a5 M rfl) yo_X1_hasPlaces kw_862 (sk_recv (ci := 1) C hM (sk_isH_kd (sk_isH_a (sk_in_lt i_3))) rfl) (by decide) hM hS hl.1 rfl rfl (Nat.le_of_ble_eq_true rfl) dX6_copy_75) hS (fun H locs hM hS => ?_)
            refine lv_if_eq hx hb dX6_copy_78 rfl (fun hc => ?_) (fun hc => ?_)
            · have h := sk_pos h hc
              refine lv_ldcw (v := (-1000000013)) hx hb hown (hts _ kw_851) dX6_copy_93 ?_
              exact sk_iret C hM hS (sk_e2 h) dX6_copy_96
            · have h := sk_neg h hc
              refine lv_aload hx hb dX6_copy_81 (lv_at hl 0 rfl) ?_
              refine lv_iload hx hb dX6_copy_83 (lv_at hl 6 rfl) ?_
              refine lv_iload hx hb dX6_copy_85 (lv_at hl 7 rfl) ?_
              refine sk_contI (sk_runV (As := [.int a4, .int a5]) (rest := []) C (c_X1_hasPlaces g l (65 + 2 * a3.toNatClampNeg) (sk_isH_a (sk_in_lt i_4)) a4 a5 M rfl) yo_X1_hasPlaces kw_862 (sk_recv (ci := 1) C hM (sk_isH_kd (sk_isH_a (sk_in_lt i_4))) rfl) (by decide) hM hS hl.1 rfl rfl (Nat.le_of_ble_eq_true rfl) dX6_copy_87) hS (fun H locs hM hS => ?_)
              refine lv_if_ne hx hb dX6_copy_90 rfl (fun hc => ?_) (fun hc => ?_)
              · have h := sk_neg h hc
                refine lv_aload hx hb dX6_copy_97 (lv_at hl 1 rfl) ?_
                refine sk_getR (o := (65 + 2 * a1.toNatClampNeg)) (ci := 1) (j := 0) (t := ((65 + 2 * a1.toNatClampNeg) + 1)) C hM (sk_isH_kd (sk_isH_a (sk_in_lt i_3))) rfl (by decide) rfl (sk_isH_r0 (sk_isH_a (sk_in_lt i_3))) kw_258 dX6_copy_99 ?_
                refine lv_iload_n hx hb dX6_copy_102 rfl (lv_at hl 4 rfl) ?_
                refine lv_aload hx hb dX6_copy_103 (lv_at hl 0 rfl) ?_
                refine sk_getR (o := (65 + 2 * a3.toNatClampNeg)) (ci := 1) (j := 0) (t := ((65 + 2 * a3.toNatClampNeg) + 1)) C hM (sk_isH_kd (sk_isH_a (sk_in_lt i_4))) rfl (by decide) rfl (sk_isH_r0 (sk_isH_a (sk_in_lt i_4))) kw_258 dX6_copy_105 ?_
                refine lv_iload hx hb dX6_copy_108 (lv_at hl 6 rfl) ?_
                refine lv_iload hx hb dX6_copy_110 (lv_at hl 7 rfl) ?_
                obtain ⟨i_7, h⟩ := sk_chkE h
                obtain ⟨i_8, h⟩ := sk_chkE h
                refine sk_copy (d := 3) (o0 := ((65 + 2 * a1.toNatClampNeg) + 1)) (o1 := ((65 + 2 * a3.toNatClampNeg) + 1)) C hl.1 sk_wcopy kw_589 (by decide) (Nat.le_of_ble_eq_true rfl) hM hS (sk_isH_k1 (sk_isH_a (sk_in_lt i_3))) (sk_isH_k1 (sk_isH_a (sk_in_lt i_4))) i_7 i_8 dX6_copy_112 (fun M_9 eM_9 H locs hM hS => ?_)
                have h := sk_letU h eM_9
                refine lv_iload hx hb dX6_copy_115 (lv_at hl 7 rfl) ?_
                exact sk_iret C hM hS (sk_e2 h) dX6_copy_117
              · have h := sk_pos h hc
                refine lv_ldcw (v := (-1000000013)) hx hb hown (hts _ kw_851) dX6_copy_93 ?_
                exact sk_iret C hM hS (sk_e2 h) dX6_copy_96
          · have h := sk_neg h hc
            refine lv_ldc (v := (-1000000012)) hx hb hown (hts _ kw_373) dX6_copy_67 ?_
            exact sk_iret C hM hS (sk_e2 h) dX6_copy_69
        · have h := sk_pos h hc
          refine lv_ldc (v := (-1000000011)) hx hb hown (hts _ kw_597) dX6_copy_51 ?_
          exact sk_iret C hM hS (sk_e2 h) dX6_copy_53
    · have h := sk_pos h hc
      refine lv_ldc (v := (-1000000001)) hx hb hown (hts _ kw_347) dX6_copy_14 ?_
      exact sk_iret C hM hS (sk_e2 h) dX6_copy_16
theorem dX6_isSlot_0 : decode cX6_isSlot 0 = .ok (.iload_n 0, 1) := by decide +kernel
theorem dX6_isSlot_1 : decode cX6_isSlot 1 = .ok (.iconst 0, 1) := by decide +kernel
theorem dX6_isSlot_2 : decode cX6_isSlot 2 = .ok (.iconst 4, 1) := by decide +kernel
theorem dX6_isSlot_3 : decode cX6_isSlot 3 = .ok (.invokestatic 75, 3) := by decide +kernel
theorem dX6_isSlot_6 : decode cX6_isSlot 6 = .ok (.ireturn, 1) := by decide +kernel
set_option maxHeartbeats 4000000 in
set_option maxRecDepth 100000 in
theorem c_X6_isSlot (g : sk_G) (l : Launch) (a0 : Int32) (M : sk_M) {rr : Int32} (h : f_X6_isSlot a0 = rr) : sk_MI g l yX6_isSlot cX6_isSlot 1 (some .boolean) 2 [.int a0] M rr M := by
  refine sk_go [(0, .int a0)] (by decide) (Nat.le_of_ble_eq_true rfl) rfl ?_
  intro p e s m av below meth c C ls hl hM hS
  obtain ⟨hx, hb, hml, hown, hts, hK, hE, hr, hlocks⟩ := id C
  rw [f_X6_isSlot] at h
  refine lv_iload_n hx hb dX6_isSlot_0 rfl (lv_at hl 0 rfl) ?_
  refine lv_iconst (v := 0) hx hb dX6_isSlot_1 (by decide) ?_
  refine lv_iconst (v := 4) hx hb dX6_isSlot_2 (by decide) ?_
  refine sk_contI (sk_runS (As := [.int a0, .int 0, .int 4]) (rest := []) C (c_X6_within g l a0 0 4 M rfl) yo_X6_within kw_344 (by decide) hM hS hl.1 rfl rfl (Nat.le_of_ble_eq_true rfl) dX6_isSlot_3) hS (fun H locs hM hS => ?_)
  exact sk_zret C hM hS (sk_nz (fz_X6_within a0 0 4)) ⟨h, rfl⟩ dX6_isSlot_6
theorem dX6_lay_0 : decode cX6_lay 0 = .ok (.iload_n 1, 1) := by decide +kernel
theorem dX6_lay_1 : decode cX6_lay 1 = .ok (.invokestatic 279, 3) := by decide +kernel
theorem dX6_lay_4 : decode cX6_lay 4 = .ok (.ifCond .eq 12, 3) := by decide +kernel
theorem dX6_lay_7 : decode cX6_lay 7 = .ok (.iload_n 2, 1) := by decide +kernel
theorem dX6_lay_8 : decode cX6_lay 8 = .ok (.iconst 0, 1) := by decide +kernel
theorem dX6_lay_9 : decode cX6_lay 9 = .ok (.iconst 3, 1) := by decide +kernel
theorem dX6_lay_10 : decode cX6_lay 10 = .ok (.invokestatic 75, 3) := by decide +kernel
theorem dX6_lay_13 : decode cX6_lay 13 = .ok (.ifCond .ne 6, 3) := by decide +kernel
theorem dX6_lay_16 : decode cX6_lay 16 = .ok (.ldc 79, 2) := by decide +kernel
theorem dX6_lay_18 : decode cX6_lay 18 = .ok (.ireturn, 1) := by decide +kernel
theorem dX6_lay_19 : decode cX6_lay 19 = .ok (.iload_n 2, 1) := by decide +kernel
theorem dX6_lay_20 : decode cX6_lay 20 = .ok (.iconst 1, 1) := by decide +kernel
theorem dX6_lay_21 : decode cX6_lay 21 = .ok (.if_icmp .ne 11, 3) := by decide +kernel
theorem dX6_lay_24 : decode cX6_lay 24 = .ok (.aload_n 0, 1) := by decide +kernel
theorem dX6_lay_25 : decode cX6_lay 25 = .ok (.iload_n 3, 1) := by decide +kernel
theorem dX6_lay_26 : decode cX6_lay 26 = .ok (.invokevirtual 84, 3) := by decide +kernel
theorem dX6_lay_29 : decode cX6_lay 29 = .ok (.ifCond .eq 15, 3) := by decide +kernel
theorem dX6_lay_32 : decode cX6_lay 32 = .ok (.iload_n 2, 1) := by decide +kernel
theorem dX6_lay_33 : decode cX6_lay 33 = .ok (.iconst 2, 1) := by decide +kernel
theorem dX6_lay_34 : decode cX6_lay 34 = .ok (.if_icmp .ne 13, 3) := by decide +kernel
theorem dX6_lay_37 : decode cX6_lay 37 = .ok (.iload_n 3, 1) := by decide +kernel
theorem dX6_lay_38 : decode cX6_lay 38 = .ok (.invokestatic 207, 3) := by decide +kernel
theorem dX6_lay_41 : decode cX6_lay 41 = .ok (.ifCond .ne 6, 3) := by decide +kernel
theorem dX6_lay_44 : decode cX6_lay 44 = .ok (.ldc 79, 2) := by decide +kernel
theorem dX6_lay_46 : decode cX6_lay 46 = .ok (.ireturn, 1) := by decide +kernel
theorem dX6_lay_47 : decode cX6_lay 47 = .ok (.iload_n 2, 1) := by decide +kernel
theorem dX6_lay_48 : decode cX6_lay 48 = .ok (.iconst 2, 1) := by decide +kernel
theorem dX6_lay_49 : decode cX6_lay 49 = .ok (.if_icmp .ne 19, 3) := by decide +kernel
theorem dX6_lay_52 : decode cX6_lay 52 = .ok (.aload_n 0, 1) := by decide +kernel
theorem dX6_lay_53 : decode cX6_lay 53 = .ok (.getfield 49, 3) := by decide +kernel
theorem dX6_lay_56 : decode cX6_lay 56 = .ok (.iload_n 3, 1) := by decide +kernel
theorem dX6_lay_57 : decode cX6_lay 57 = .ok (.aaload, 1) := by decide +kernel
theorem dX6_lay_58 : decode cX6_lay 58 = .ok (.getfield 210, 3) := by decide +kernel
theorem dX6_lay_61 : decode cX6_lay 61 = .ok (.iconst (-1), 1) := by decide +kernel
theorem dX6_lay_62 : decode cX6_lay 62 = .ok (.if_icmp .ne 6, 3) := by decide +kernel
theorem dX6_lay_65 : decode cX6_lay 65 = .ok (.ldc 213, 2) := by decide +kernel
theorem dX6_lay_67 : decode cX6_lay 67 = .ok (.ireturn, 1) := by decide +kernel
theorem dX6_lay_68 : decode cX6_lay 68 = .ok (.aload_n 0, 1) := by decide +kernel
theorem dX6_lay_69 : decode cX6_lay 69 = .ok (.getfield 56, 3) := by decide +kernel
theorem dX6_lay_72 : decode cX6_lay 72 = .ok (.iload_n 1, 1) := by decide +kernel
theorem dX6_lay_73 : decode cX6_lay 73 = .ok (.aaload, 1) := by decide +kernel
theorem dX6_lay_74 : decode cX6_lay 74 = .ok (.astore 4, 2) := by decide +kernel
theorem dX6_lay_76 : decode cX6_lay 76 = .ok (.aload 4, 2) := by decide +kernel
theorem dX6_lay_78 : decode cX6_lay 78 = .ok (.getfield 282, 3) := by decide +kernel
theorem dX6_lay_81 : decode cX6_lay 81 = .ok (.istore 5, 2) := by decide +kernel
theorem dX6_lay_83 : decode cX6_lay 83 = .ok (.aload 4, 2) := by decide +kernel
theorem dX6_lay_85 : decode cX6_lay 85 = .ok (.iload_n 2, 1) := by decide +kernel
theorem dX6_lay_86 : decode cX6_lay 86 = .ok (.putfield 282, 3) := by decide +kernel
theorem dX6_lay_89 : decode cX6_lay 89 = .ok (.iload_n 2, 1) := by decide +kernel
theorem dX6_lay_90 : decode cX6_lay 90 = .ok (.iconst 1, 1) := by decide +kernel
theorem dX6_lay_91 : decode cX6_lay 91 = .ok (.if_icmp .ne 34, 3) := by decide +kernel
theorem dX6_lay_94 : decode cX6_lay 94 = .ok (.aload 4, 2) := by decide +kernel
theorem dX6_lay_96 : decode cX6_lay 96 = .ok (.aload_n 0, 1) := by decide +kernel
theorem dX6_lay_97 : decode cX6_lay 97 = .ok (.getfield 28, 3) := by decide +kernel
theorem dX6_lay_100 : decode cX6_lay 100 = .ok (.getfield 87, 3) := by decide +kernel
theorem dX6_lay_103 : decode cX6_lay 103 = .ok (.iload_n 3, 1) := by decide +kernel
theorem dX6_lay_104 : decode cX6_lay 104 = .ok (.iaload, 1) := by decide +kernel
theorem dX6_lay_105 : decode cX6_lay 105 = .ok (.putfield 285, 3) := by decide +kernel
theorem dX6_lay_108 : decode cX6_lay 108 = .ok (.aload 4, 2) := by decide +kernel
theorem dX6_lay_110 : decode cX6_lay 110 = .ok (.aload_n 0, 1) := by decide +kernel
theorem dX6_lay_111 : decode cX6_lay 111 = .ok (.getfield 28, 3) := by decide +kernel
theorem dX6_lay_114 : decode cX6_lay 114 = .ok (.getfield 90, 3) := by decide +kernel
theorem dX6_lay_117 : decode cX6_lay 117 = .ok (.iload_n 3, 1) := by decide +kernel
theorem dX6_lay_118 : decode cX6_lay 118 = .ok (.iaload, 1) := by decide +kernel
theorem dX6_lay_119 : decode cX6_lay 119 = .ok (.putfield 288, 3) := by decide +kernel
theorem dX6_lay_122 : decode cX6_lay 122 = .ok (.goto 31, 3) := by decide +kernel
theorem dX6_lay_125 : decode cX6_lay 125 = .ok (.iload_n 2, 1) := by decide +kernel
theorem dX6_lay_126 : decode cX6_lay 126 = .ok (.iconst 2, 1) := by decide +kernel
theorem dX6_lay_127 : decode cX6_lay 127 = .ok (.if_icmp .ne 20, 3) := by decide +kernel
theorem dX6_lay_130 : decode cX6_lay 130 = .ok (.aload 4, 2) := by decide +kernel
theorem dX6_lay_132 : decode cX6_lay 132 = .ok (.getfield 291, 3) := by decide +kernel
theorem dX6_lay_135 : decode cX6_lay 135 = .ok (.aload_n 0, 1) := by decide +kernel
theorem dX6_lay_136 : decode cX6_lay 136 = .ok (.getfield 49, 3) := by decide +kernel
theorem dX6_lay_139 : decode cX6_lay 139 = .ok (.iload_n 3, 1) := by decide +kernel
theorem dX6_lay_140 : decode cX6_lay 140 = .ok (.aaload, 1) := by decide +kernel
theorem dX6_lay_141 : decode cX6_lay 141 = .ok (.invokevirtual 295, 3) := by decide +kernel
theorem dX6_lay_144 : decode cX6_lay 144 = .ok (.goto 9, 3) := by decide +kernel
theorem dX6_lay_147 : decode cX6_lay 147 = .ok (.aload 4, 2) := by decide +kernel
theorem dX6_lay_149 : decode cX6_lay 149 = .ok (.iload_n 3, 1) := by decide +kernel
theorem dX6_lay_150 : decode cX6_lay 150 = .ok (.putfield 299, 3) := by decide +kernel
theorem dX6_lay_153 : decode cX6_lay 153 = .ok (.iload 5, 2) := by decide +kernel
theorem dX6_lay_155 : decode cX6_lay 155 = .ok (.ireturn, 1) := by decide +kernel
set_option maxHeartbeats 4000000 in
set_option maxRecDepth 100000 in
theorem c_X6_lay (g : sk_G) (l : Launch) (a1 : Int32) (a2 : Int32) (a3 : Int32) (M : sk_M) {rr : Int32} {MM : sk_M} (h : f_X6_lay a1 a2 a3 M = some (rr, MM)) : sk_MI g l yX6_lay cX6_lay 6 (some .int) 3 [.ref (sk_ad g 0), .int a1, .int a2, .int a3] M rr MM := by
  refine sk_go [(0, .ref (sk_ad g 0)), (1, .int a1), (2, .int a2), (3, .int a3)] (by decide) (Nat.le_of_ble_eq_true rfl) rfl ?_
  intro p e s m av below meth c C ls hl hM hS
  obtain ⟨hx, hb, hml, hown, hts, hK, hE, hr, hlocks⟩ := id C
  rw [f_X6_lay] at h
  refine lv_iload_n hx hb dX6_lay_0 rfl (lv_at hl 1 rfl) ?_
  refine sk_contI (sk_runS (As := [.int a1]) (rest := []) C (c_X6_isSlot g l a1 M rfl) yo_X6_isSlot kw_870 (by decide) hM hS hl.1 rfl rfl (Nat.le_of_ble_eq_true rfl) dX6_lay_1) hS (fun H locs hM hS => ?_)
  refine lv_if_eq hx hb dX6_lay_4 rfl (fun hc => ?_) (fun hc => ?_)
  · have h := sk_pos h hc
    refine lv_ldc (v := (-1000000001)) hx hb hown (hts _ kw_347) dX6_lay_16 ?_
    exact sk_iret C hM hS (sk_e2 h) dX6_lay_18
  · have h := sk_neg h hc
    refine lv_iload_n hx hb dX6_lay_7 rfl (lv_at hl 2 rfl) ?_
    refine lv_iconst (v := 0) hx hb dX6_lay_8 (by decide) ?_
    refine lv_iconst (v := 3) hx hb dX6_lay_9 (by decide) ?_
    refine sk_contI (sk_runS (As := [.int a2, .int 0, .int 3]) (rest := []) C (c_X6_within g l a2 0 3 M rfl) yo_X6_within kw_344 (by decide) hM hS hl.1 rfl rfl (Nat.le_of_ble_eq_true rfl) dX6_lay_10) hS (fun H locs hM hS => ?_)
    refine lv_if_ne hx hb dX6_lay_13 rfl (fun hc => ?_) (fun hc => ?_)
    · have h := sk_neg h hc
      refine lv_iload_n hx hb dX6_lay_19 rfl (lv_at hl 2 rfl) ?_
      refine lv_iconst (v := 1) hx hb dX6_lay_20 (by decide) ?_
      obtain ⟨out_3, h_3, kf_3, kg_3⟩ := sk_s0E h
      have J_3 : ∀  (H : Heap) (locs : List Loc) (ls : Array Slot), some (Sum.inr ()) = some out_3 → lv_has ls 6 [(0, .ref (sk_ad g 0)), (1, .int a1), (2, .int a2), (3, .int a3)] → sk_P g M H → va_S (sk_A g) s.heap H locs → W p l e (sk_rm 3) s m av below meth c H locs 0 0 (MQ below (sk_QI g rr MM) av s 0 0 (sk_A g)) (F0 m 32 ls []) := by
        intro  H locs ls he hl hM hS
        have h := kg_3  (Option.some.inj he).symm
        refine lv_iload_n hx hb dX6_lay_32 rfl (lv_at hl 2 rfl) ?_
        refine lv_iconst (v := 2) hx hb dX6_lay_33 (by decide) ?_
        obtain ⟨out_5, h_5, kf_5, kg_5⟩ := sk_s0E h
        have J_5 : ∀  (H : Heap) (locs : List Loc) (ls : Array Slot), some (Sum.inr ()) = some out_5 → lv_has ls 6 [(0, .ref (sk_ad g 0)), (1, .int a1), (2, .int a2), (3, .int a3)] → sk_P g M H → va_S (sk_A g) s.heap H locs → W p l e (sk_rm 3) s m av below meth c H locs 0 0 (MQ below (sk_QI g rr MM) av s 0 0 (sk_A g)) (F0 m 47 ls []) := by
          intro  H locs ls he hl hM hS
          have h := kg_5  (Option.some.inj he).symm
          refine lv_iload_n hx hb dX6_lay_47 rfl (lv_at hl 2 rfl) ?_
          refine lv_iconst (v := 2) hx hb dX6_lay_48 (by decide) ?_
          obtain ⟨out_7, h_7, kf_7, kg_7⟩ := sk_s0E h
          have J_7 : ∀  (H : Heap) (locs : List Loc) (ls : Array Slot), some (Sum.inr ()) = some out_7 → lv_has ls 6 [(0, .ref (sk_ad g 0)), (1, .int a1), (2, .int a2), (3, .int a3)] → sk_P g M H → va_S (sk_A g) s.heap H locs → W p l e (sk_rm 3) s m av below meth c H locs 0 0 (MQ below (sk_QI g rr MM) av s 0 0 (sk_A g)) (F0 m 68 ls []) := by
            intro  H locs ls he hl hM hS
            have h := kg_7  (Option.some.inj he).symm
            refine lv_aload_n hx hb dX6_lay_68 rfl (lv_at hl 0 rfl) ?_
            refine sk_getR (o := 0) (ci := 6) (j := 7) (t := 2) C hM rfl rfl (by decide) rfl rfl kw_304 dX6_lay_69 ?_
            refine lv_iload_n hx hb dX6_lay_72 rfl (lv_at hl 1 rfl) ?_
            obtain ⟨i_9, h⟩ := sk_chkE h
            refine sk_aald (o := 2) (k := 2) (t := (73 + 3 * a1.toNatClampNeg)) C hM rfl (by decide) i_9 rfl dX6_lay_73 ?_
            refine lv_astore (lv' := [(4, .ref (sk_ad g (73 + 3 * a1.toNatClampNeg))), (0, .ref (sk_ad g 0)), (1, .int a1), (2, .int a2), (3, .int a3)]) hx hb dX6_lay_74 hl (by decide) rfl (fun ls hl => ?_)
            refine lv_aload hx hb dX6_lay_76 (lv_at hl 0 rfl) ?_
            refine sk_getI (o := (73 + 3 * a1.toNatClampNeg)) (ci := 2) (j := 1) C hM (sk_isL_kd (sk_isL_a (sk_in_lt i_9))) rfl (by decide) rfl kw_282 dX6_lay_78 ?_
            refine lv_topi (fun x_10 ex_10 => ?_)
            have h := sk_letU h ex_10
            refine lv_istore (lv' := [(5, .int x_10), (4, .ref (sk_ad g (73 + 3 * a1.toNatClampNeg))), (0, .ref (sk_ad g 0)), (1, .int a1), (2, .int a2), (3, .int a3)]) hx hb dX6_lay_81 hl (by decide) rfl (fun ls hl => ?_)
            refine lv_aload hx hb dX6_lay_83 (lv_at hl 1 rfl) ?_
            refine lv_iload_n hx hb dX6_lay_85 rfl (lv_at hl 4 rfl) ?_
            refine sk_putI (o := (73 + 3 * a1.toNatClampNeg)) (ci := 2) (j := 1) C hM hS (sk_isL_kd (sk_isL_a (sk_in_lt i_9))) rfl (by decide) rfl rfl (tyX2_ok 1 (by decide)) kw_282 dX6_lay_86 (fun M_11 eM_11 H locs hM hS => ?_)
            have h := sk_letU h eM_11
            refine lv_iload_n hx hb dX6_lay_89 rfl (lv_at hl 4 rfl) ?_
            refine lv_iconst (v := 1) hx hb dX6_lay_90 (by decide) ?_
            refine lv_icmp_ne hx hb dX6_lay_91 rfl (fun hc => ?_) (fun hc => ?_)
            · have h := sk_neg h hc
              refine lv_iload_n hx hb dX6_lay_125 rfl (lv_at hl 4 rfl) ?_
              refine lv_iconst (v := 2) hx hb dX6_lay_126 (by decide) ?_
              refine lv_icmp_ne hx hb dX6_lay_127 rfl (fun hc => ?_) (fun hc => ?_)
              · have h := sk_neg h hc
                refine lv_aload hx hb dX6_lay_147 (lv_at hl 1 rfl) ?_
                refine lv_iload_n hx hb dX6_lay_149 rfl (lv_at hl 5 rfl) ?_
                refine sk_putI (o := (73 + 3 * a1.toNatClampNeg)) (ci := 2) (j := 4) C hM hS (sk_isL_kd (sk_isL_a (sk_in_lt i_9))) rfl (by decide) rfl rfl (tyX2_ok 4 (by decide)) kw_285 dX6_lay_150 (fun M_12 eM_12 H locs hM hS => ?_)
                have h := sk_letU h eM_12
                refine lv_iload hx hb dX6_lay_153 (lv_at hl 0 rfl) ?_
                exact sk_iret C hM hS (sk_e2 h) dX6_lay_155
              · have h := sk_pos h hc
                refine lv_aload hx hb dX6_lay_130 (lv_at hl 1 rfl) ?_
                refine sk_getR (o := (73 + 3 * a1.toNatClampNeg)) (ci := 2) (j := 0) (t := ((73 + 3 * a1.toNatClampNeg) + 1)) C hM (sk_isL_kd (sk_isL_a (sk_in_lt i_9))) rfl (by decide) rfl (sk_isL_r0 (sk_isL_a (sk_in_lt i_9))) kw_280 dX6_lay_132 ?_
                refine lv_aload_n hx hb dX6_lay_135 rfl (lv_at hl 2 rfl) ?_
                refine sk_getR (o := 0) (ci := 6) (j := 6) (t := 1) C hM rfl rfl (by decide) rfl rfl kw_303 dX6_lay_136 ?_
                refine lv_iload_n hx hb dX6_lay_139 rfl (lv_at hl 5 rfl) ?_
                obtain ⟨i_13, h⟩ := sk_chkE h
                refine sk_aald (o := 1) (k := 1) (t := (65 + 2 * a3.toNatClampNeg)) C hM rfl (by decide) i_13 rfl dX6_lay_140 ?_
                obtain ⟨M_14, h_15, h⟩ := sk_b1E h
                refine sk_contV (sk_runV (As := [.ref (sk_ad g (65 + 2 * a3.toNatClampNeg))]) (rest := []) C (c_X1_becomeLike g l ((73 + 3 * a1.toNatClampNeg) + 1) (sk_isL_h (sk_isL_a (sk_in_lt i_9))) (65 + 2 * a3.toNatClampNeg) (sk_isH_a (sk_in_lt i_13)) M_11 h_15) yo_X1_becomeLike kw_873 (sk_recv (ci := 1) C hM (sk_isH_kd (sk_isL_h (sk_isL_a (sk_in_lt i_9)))) rfl) (by decide) hM hS hl.1 rfl rfl (Nat.le_of_ble_eq_true rfl) dX6_lay_141) hS (fun H locs hM hS => ?_)
                refine lv_goto hx hb dX6_lay_144 rfl ?_
                refine lv_iload hx hb dX6_lay_153 (lv_at hl 0 rfl) ?_
                exact sk_iret C hM hS (sk_e2 h) dX6_lay_155
            · have h := sk_pos h hc
              refine lv_aload hx hb dX6_lay_94 (lv_at hl 1 rfl) ?_
              refine lv_aload_n hx hb dX6_lay_96 rfl (lv_at hl 2 rfl) ?_
              refine sk_getR (o := 0) (ci := 6) (j := 0) (t := 10) C hM rfl rfl (by decide) rfl rfl kw_297 dX6_lay_97 ?_
              refine sk_getR (o := 10) (ci := 5) (j := 1) (t := 11) C hM rfl rfl (by decide) rfl rfl kw_167 dX6_lay_100 ?_
              refine lv_iload_n hx hb dX6_lay_103 rfl (lv_at hl 5 rfl) ?_
              obtain ⟨i_16, h⟩ := sk_chkE h
              refine sk_iald (o := 11) C hM rfl i_16 dX6_lay_104 ?_
              refine sk_putI (o := (73 + 3 * a1.toNatClampNeg)) (ci := 2) (j := 2) C hM hS (sk_isL_kd (sk_isL_a (sk_in_lt i_9))) rfl (by decide) rfl rfl (tyX2_ok 2 (by decide)) kw_283 dX6_lay_105 (fun M_17 eM_17 H locs hM hS => ?_)
              have h := sk_letU h eM_17
              refine lv_aload hx hb dX6_lay_108 (lv_at hl 1 rfl) ?_
              refine lv_aload_n hx hb dX6_lay_110 rfl (lv_at hl 2 rfl) ?_
              refine sk_getR (o := 0) (ci := 6) (j := 0) (t := 10) C hM rfl rfl (by decide) rfl rfl kw_297 dX6_lay_111 ?_
              refine sk_getR (o := 10) (ci := 5) (j := 2) (t := 12) C hM rfl rfl (by decide) rfl rfl kw_169 dX6_lay_114 ?_
              refine lv_iload_n hx hb dX6_lay_117 rfl (lv_at hl 5 rfl) ?_
              obtain ⟨i_18, h⟩ := sk_chkE h
              refine sk_iald (o := 12) C hM rfl i_18 dX6_lay_118 ?_
              refine sk_putI (o := (73 + 3 * a1.toNatClampNeg)) (ci := 2) (j := 3) C hM hS (sk_isL_kd (sk_isL_a (sk_in_lt i_9))) rfl (by decide) rfl rfl (tyX2_ok 3 (by decide)) kw_284 dX6_lay_119 (fun M_19 eM_19 H locs hM hS => ?_)
              have h := sk_letU h eM_19
              refine lv_goto hx hb dX6_lay_122 rfl ?_
              refine lv_iload hx hb dX6_lay_153 (lv_at hl 0 rfl) ?_
              exact sk_iret C hM hS (sk_e2 h) dX6_lay_155
          have h := h_7
          refine lv_icmp_ne hx hb dX6_lay_49 rfl (fun hc => ?_) (fun hc => ?_)
          · have h := sk_neg h hc
            exact J_7  _ _ _ h (lv_sub hl [0, 1, 2, 3] rfl) hM hS
          · have h := sk_pos h hc
            refine lv_aload_n hx hb dX6_lay_52 rfl (lv_at hl 0 rfl) ?_
            refine sk_getR (o := 0) (ci := 6) (j := 6) (t := 1) C hM rfl rfl (by decide) rfl rfl kw_303 dX6_lay_53 ?_
            refine lv_iload_n hx hb dX6_lay_56 rfl (lv_at hl 3 rfl) ?_
            obtain ⟨i_8, h⟩ := sk_chkE h
            refine sk_aald (o := 1) (k := 1) (t := (65 + 2 * a3.toNatClampNeg)) C hM rfl (by decide) i_8 rfl dX6_lay_57 ?_
            refine sk_getI (o := (65 + 2 * a3.toNatClampNeg)) (ci := 1) (j := 1) C hM (sk_isH_kd (sk_isH_a (sk_in_lt i_8))) rfl (by decide) rfl kw_260 dX6_lay_58 ?_
            refine lv_iconst (v := (-1)) hx hb dX6_lay_61 (by decide) ?_
            refine lv_icmp_ne hx hb dX6_lay_62 rfl (fun hc => ?_) (fun hc => ?_)
            · have h := sk_neg h hc
              exact J_7  _ _ _ h (lv_sub hl [0, 1, 2, 3] rfl) hM hS
            · have h := sk_pos h hc
              refine lv_ldc (v := (-1000000011)) hx hb hown (hts _ kw_597) dX6_lay_65 ?_
              have h := kf_7 _ (Option.some.inj h).symm
              exact sk_iret C hM hS (sk_e2 h) dX6_lay_67
        have h := h_5
        refine lv_icmp_ne hx hb dX6_lay_34 rfl (fun hc => ?_) (fun hc => ?_)
        · have h := sk_neg h hc
          exact J_5  _ _ _ h (lv_sub hl [0, 1, 2, 3] rfl) hM hS
        · have h := sk_pos h hc
          refine lv_iload_n hx hb dX6_lay_37 rfl (lv_at hl 3 rfl) ?_
          refine sk_contI (sk_runS (As := [.int a3]) (rest := []) C (c_X6_isSheet g l a3 M rfl) yo_X6_isSheet kw_594 (by decide) hM hS hl.1 rfl rfl (Nat.le_of_ble_eq_true rfl) dX6_lay_38) hS (fun H locs hM hS => ?_)
          refine lv_if_ne hx hb dX6_lay_41 rfl (fun hc => ?_) (fun hc => ?_)
          · have h := sk_neg h hc
            exact J_5  _ _ _ h (lv_sub hl [0, 1, 2, 3] rfl) hM hS
          · have h := sk_pos h hc
            refine lv_ldc (v := (-1000000001)) hx hb hown (hts _ kw_347) dX6_lay_44 ?_
            have h := kf_5 _ (Option.some.inj h).symm
            exact sk_iret C hM hS (sk_e2 h) dX6_lay_46
      have h := h_3
      refine lv_icmp_ne hx hb dX6_lay_21 rfl (fun hc => ?_) (fun hc => ?_)
      · have h := sk_neg h hc
        exact J_3  _ _ _ h (lv_sub hl [0, 1, 2, 3] rfl) hM hS
      · have h := sk_pos h hc
        refine lv_aload_n hx hb dX6_lay_24 rfl (lv_at hl 0 rfl) ?_
        refine lv_iload_n hx hb dX6_lay_25 rfl (lv_at hl 3 rfl) ?_
        refine sk_contI (sk_runV (As := [.int a3]) (rest := []) C (c_X6_isScent g l a3 M rfl) yo_X6_isScent kw_357 (sk_recv (ci := 6) C hM rfl rfl) (by decide) hM hS hl.1 rfl rfl (Nat.le_of_ble_eq_true rfl) dX6_lay_26) hS (fun H locs hM hS => ?_)
        refine lv_if_eq hx hb dX6_lay_29 rfl (fun hc => ?_) (fun hc => ?_)
        · have h := sk_pos h hc
          refine lv_ldc (v := (-1000000001)) hx hb hown (hts _ kw_347) dX6_lay_44 ?_
          have h := kf_3 _ (Option.some.inj h).symm
          exact sk_iret C hM hS (sk_e2 h) dX6_lay_46
        · have h := sk_neg h hc
          exact J_3  _ _ _ h (lv_sub hl [0, 1, 2, 3] rfl) hM hS
    · have h := sk_pos h hc
      refine lv_ldc (v := (-1000000001)) hx hb hown (hts _ kw_347) dX6_lay_16 ?_
      exact sk_iret C hM hS (sk_e2 h) dX6_lay_18
