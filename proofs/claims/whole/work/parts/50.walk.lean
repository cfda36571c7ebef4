theorem dX0_takeBytes_0 : decode cX0_takeBytes 0 = .ok (.bipush 24, 2) := by decide +kernel
theorem dX0_takeBytes_2 : decode cX0_takeBytes 2 = .ok (.istore_n 2, 1) := by decide +kernel
theorem dX0_takeBytes_3 : decode cX0_takeBytes 3 = .ok (.iload_n 2, 1) := by decide +kernel
theorem dX0_takeBytes_4 : decode cX0_takeBytes 4 = .ok (.ifCond .lt 44, 3) := by decide +kernel
theorem dX0_takeBytes_7 : decode cX0_takeBytes 7 = .ok (.aload_n 0, 1) := by decide +kernel
theorem dX0_takeBytes_8 : decode cX0_takeBytes 8 = .ok (.getfield 18, 3) := by decide +kernel
theorem dX0_takeBytes_11 : decode cX0_takeBytes 11 = .ok (.bipush 96, 2) := by decide +kernel
theorem dX0_takeBytes_13 : decode cX0_takeBytes 13 = .ok (.if_icmp .ge 35, 3) := by decide +kernel
theorem dX0_takeBytes_16 : decode cX0_takeBytes 16 = .ok (.aload_n 0, 1) := by decide +kernel
theorem dX0_takeBytes_17 : decode cX0_takeBytes 17 = .ok (.getfield 9, 3) := by decide +kernel
theorem dX0_takeBytes_20 : decode cX0_takeBytes 20 = .ok (.aload_n 0, 1) := by decide +kernel
theorem dX0_takeBytes_21 : decode cX0_takeBytes 21 = .ok (.getfield 18, 3) := by decide +kernel
theorem dX0_takeBytes_24 : decode cX0_takeBytes 24 = .ok (.iload_n 1, 1) := by decide +kernel
theorem dX0_takeBytes_25 : decode cX0_takeBytes 25 = .ok (.iload_n 2, 1) := by decide +kernel
theorem dX0_takeBytes_26 : decode cX0_takeBytes 26 = .ok (.iushr, 1) := by decide +kernel
theorem dX0_takeBytes_27 : decode cX0_takeBytes 27 = .ok (.sipush 255, 3) := by decide +kernel
theorem dX0_takeBytes_30 : decode cX0_takeBytes 30 = .ok (.iand, 1) := by decide +kernel
theorem dX0_takeBytes_31 : decode cX0_takeBytes 31 = .ok (.iastore, 1) := by decide +kernel
theorem dX0_takeBytes_32 : decode cX0_takeBytes 32 = .ok (.aload_n 0, 1) := by decide +kernel
theorem dX0_takeBytes_33 : decode cX0_takeBytes 33 = .ok (.dup, 1) := by decide +kernel
theorem dX0_takeBytes_34 : decode cX0_takeBytes 34 = .ok (.getfield 18, 3) := by decide +kernel
theorem dX0_takeBytes_37 : decode cX0_takeBytes 37 = .ok (.iconst 1, 1) := by decide +kernel
theorem dX0_takeBytes_38 : decode cX0_takeBytes 38 = .ok (.iadd, 1) := by decide +kernel
theorem dX0_takeBytes_39 : decode cX0_takeBytes 39 = .ok (.putfield 18, 3) := by decide +kernel
theorem dX0_takeBytes_42 : decode cX0_takeBytes 42 = .ok (.iinc 2 (-8), 3) := by decide +kernel
theorem dX0_takeBytes_45 : decode cX0_takeBytes 45 = .ok (.goto (-42), 3) := by decide +kernel
theorem dX0_takeBytes_48 : decode cX0_takeBytes 48 = .ok (.return_, 1) := by decide +kernel
set_option maxHeartbeats 4000000 in
set_option maxRecDepth 100000 in
theorem w_X0_takeBytes_L3 {g : sk_G} {l : Launch} {p : Program} {e : Env} {s : State} {m : MethodId} {av : Array Value} {below : List Frame} {meth : Method} {c : Code} (C : sk_C g p s m av meth c cX0_takeBytes 3 RX0 none) (a1 : Int32) {MM : sk_M} :
    ∀ (n : Nat) (a2 : Int32) (M : sk_M) (H : Heap) (locs : List Loc) (ls : Array Slot), lv_has ls 3 [(0, .ref (sk_ad g 62)), (1, .int a1), (2, .int a2)] → sk_P g M H → va_S (sk_A g) s.heap H locs → ∀ {out : sk_M}, f_X0_takeBytes_L3 a1 n a2 M = some out → (∀ (M1 : sk_M) (H : Heap) (locs : List Loc) (ls : Array Slot), some M1 = some out → lv_has ls 3 [] → sk_P g M1 H → va_S (sk_A g) s.heap H locs → W p l e (sk_rm 1) s m av below meth c H locs 0 0 (MQ below (sk_QV g MM) av s 0 0 (sk_A g)) (F0 m 48 ls [])) → W p l e (sk_rm 1) s m av below meth c H locs 0 0 (MQ below (sk_QV g MM) av s 0 0 (sk_A g)) (F0 m 3 ls []) := by
  obtain ⟨hx, hb, hml, hown, hts, hK, hE, hr, hlocks⟩ := id C
  intro n
  induction n with
  | zero =>
    intro a2 M H locs ls hl hM hS out h
    cases h
  | succ n ih =>
    intro a2 M H locs ls hl hM hS out h kx
    rw [f_X0_takeBytes_L3] at h
    refine lv_iload_n hx hb dX0_takeBytes_3 rfl (lv_at hl 2 rfl) ?_
    refine lv_if_lt hx hb dX0_takeBytes_4 rfl (fun hc => ?_) (fun hc => ?_)
    · have h := sk_pos h hc
      exact kx _ _ _ _ h (lv_sub hl [] rfl) hM hS
    · have h := sk_neg h hc
      refine lv_aload_n hx hb dX0_takeBytes_7 rfl (lv_at hl 0 rfl) ?_
      refine sk_getI (o := 62) (ci := 0) (j := 2) C hM rfl rfl (by decide) rfl kw_123 dX0_takeBytes_8 ?_
      refine lv_bipush (v := 96) hx hb dX0_takeBytes_11 (by decide) ?_
      refine lv_icmp_ge hx hb dX0_takeBytes_13 rfl (fun hc => ?_) (fun hc => ?_)
      · have h := sk_pos h hc
        exact kx _ _ _ _ h (lv_sub hl [] rfl) hM hS
      · have h := sk_neg h hc
        refine lv_aload_n hx hb dX0_takeBytes_16 rfl (lv_at hl 0 rfl) ?_
        refine sk_getR (o := 62) (ci := 0) (j := 0) (t := 63) C hM rfl rfl (by decide) rfl rfl kw_120 dX0_takeBytes_17 ?_
        refine lv_aload_n hx hb dX0_takeBytes_20 rfl (lv_at hl 0 rfl) ?_
        refine sk_getI (o := 62) (ci := 0) (j := 2) C hM rfl rfl (by decide) rfl kw_123 dX0_takeBytes_21 ?_
        refine lv_iload_n hx hb dX0_takeBytes_24 rfl (lv_at hl 1 rfl) ?_
        refine lv_iload_n hx hb dX0_takeBytes_25 rfl (lv_at hl 2 rfl) ?_
        refine lv_iushr (v := (sk_ushr a1 a2)) hx hb dX0_takeBytes_26 rfl ?_
        refine lv_sipush (v := 255) hx hb dX0_takeBytes_27 (by decide) ?_
        refine lv_iand hx hb dX0_takeBytes_30 ?_
        obtain ⟨i_1, h⟩ := sk_chkE h
        refine sk_iast (o := 63) C hM hS rfl i_1 dX0_takeBytes_31 (fun M_2 eM_2 H locs hM hS => ?_)
        have h := sk_letU h eM_2
        refine lv_aload_n hx hb dX0_takeBytes_32 rfl (lv_at hl 0 rfl) ?_
        refine lv_dup hx hb dX0_takeBytes_33 rfl ?_
        refine sk_getI (o := 62) (ci := 0) (j := 2) C hM rfl rfl (by decide) rfl kw_123 dX0_takeBytes_34 ?_
        refine lv_iconst (v := 1) hx hb dX0_takeBytes_37 (by decide) ?_
        refine lv_iadd hx hb dX0_takeBytes_38 ?_
        refine sk_putI (o := 62) (ci := 0) (j := 2) C hM hS rfl rfl (by decide) rfl rfl (tyX0_ok 2 (by decide)) kw_123 dX0_takeBytes_39 (fun M_3 eM_3 H locs hM hS => ?_)
        have h := sk_letU h eM_3
        refine lv_iinc (v := (a2 + (-8))) (lv' := [(2, .int (a2 + (-8))), (0, .ref (sk_ad g 62)), (1, .int a1)]) hx hb dX0_takeBytes_42 hl (k := 2) rfl rfl (by decide) rfl (fun ls hl => ?_)
        refine lv_goto hx hb dX0_takeBytes_45 rfl ?_
        exact ih (a2 + (-8)) M_3 _ _ _ (lv_sub hl [1, 2, 0] rfl) hM hS h kx
set_option maxHeartbeats 4000000 in
set_option maxRecDepth 100000 in
theorem c_X0_takeBytes (g : sk_G) (l : Launch) (a1 : Int32) (M : sk_M) {MM : sk_M} (h : f_X0_takeBytes a1 M = some MM) : sk_MV g l yX0_takeBytes cX0_takeBytes 3 none 1 [.ref (sk_ad g 62), .int a1] M MM := by
  refine sk_go [(0, .ref (sk_ad g 62)), (1, .int a1)] (by decide) (Nat.le_of_ble_eq_true rfl) rfl ?_
  intro p e s m av below meth c C ls hl hM hS
  obtain ⟨hx, hb, hml, hown, hts, hK, hE, hr, hlocks⟩ := id C
  rw [f_X0_takeBytes] at h
  refine lv_bipush (v := 24) hx hb dX0_takeBytes_0 (by decide) ?_
  refine lv_istore_n (lv' := [(2, .int 24), (0, .ref (sk_ad g 62)), (1, .int a1)]) hx hb dX0_takeBytes_2 rfl hl (by decide) rfl (fun ls hl => ?_)
  obtain ⟨M_4, h_5, h⟩ := sk_b1E h
  refine w_X0_takeBytes_L3 C a1 sk_FU 24 M _ _ _ (lv_sub hl [1, 2, 0] rfl) hM hS h_5 (fun y_6 H locs ls he hl hM hS => ?_)
  obtain rfl := Option.some.inj he
  exact sk_vret C hM hS (Option.some.inj h) dX0_takeBytes_48
theorem dX0_isLetter_0 : decode cX0_isLetter 0 = .ok (.iload_n 0, 1) := by decide +kernel
theorem dX0_isLetter_1 : decode cX0_isLetter 1 = .ok (.bipush 97, 2) := by decide +kernel
theorem dX0_isLetter_3 : decode cX0_isLetter 3 = .ok (.if_icmp .lt 13, 3) := by decide +kernel
theorem dX0_isLetter_6 : decode cX0_isLetter 6 = .ok (.iload_n 0, 1) := by decide +kernel
theorem dX0_isLetter_7 : decode cX0_isLetter 7 = .ok (.bipush 122, 2) := by decide +kernel
theorem dX0_isLetter_9 : decode cX0_isLetter 9 = .ok (.if_icmp .gt 7, 3) := by decide +kernel
theorem dX0_isLetter_12 : decode cX0_isLetter 12 = .ok (.iconst 1, 1) := by decide +kernel
theorem dX0_isLetter_13 : decode cX0_isLetter 13 = .ok (.goto 4, 3) := by decide +kernel
theorem dX0_isLetter_16 : decode cX0_isLetter 16 = .ok (.iconst 0, 1) := by decide +kernel
theorem dX0_isLetter_17 : decode cX0_isLetter 17 = .ok (.ireturn, 1) := by decide +kernel
set_option maxHeartbeats 4000000 in
set_option maxRecDepth 100000 in
theorem c_X0_isLetter (g : sk_G) (l : Launch) (a0 : Int32) (M : sk_M) {rr : Int32} (h : f_X0_isLetter a0 = rr) : sk_MI g l yX0_isLetter cX0_isLetter 1 (some .boolean) 1 [.int a0] M rr M := by
  refine sk_go [(0, .int a0)] (by decide) (Nat.le_of_ble_eq_true rfl) rfl ?_
  intro p e s m av below meth c C ls hl hM hS
  obtain ⟨hx, hb, hml, hown, hts, hK, hE, hr, hlocks⟩ := id C
  rw [f_X0_isLetter] at h
  refine lv_iload_n hx hb dX0_isLetter_0 rfl (lv_at hl 0 rfl) ?_
  refine lv_bipush (v := 97) hx hb dX0_isLetter_1 (by decide) ?_
  have J : ∀ (vv : Int32) (H : Heap) (locs : List Loc), (if a0 < 97 then 0 else (if 122 < a0 then 0 else 1 : Int32) : Int32) = vv → sk_P g M H → va_S (sk_A g) s.heap H locs → W p l e (sk_rm 1) s m av below meth c H locs 0 0 (MQ below (sk_QI g rr M) av s 0 0 (sk_A g)) (F0 m 17 ls [.int vv]) := by
    intro vv H locs hvv hM hS
    subst hvv
    exact sk_zret C hM hS (sk_nz (sk_zi (Or.inl rfl) (sk_zi (Or.inl rfl) (Or.inr rfl)))) ⟨h, rfl⟩ dX0_isLetter_17
  refine lv_icmp_lt hx hb dX0_isLetter_3 rfl (fun hc => ?_) (fun hc => ?_)
  · have J := fun vv H locs q => J vv H locs ((if_pos hc).trans q)
    refine lv_iconst (v := 0) hx hb dX0_isLetter_16 (by decide) ?_
    exact J _ _ _ rfl hM hS
  · have J := fun vv H locs q => J vv H locs ((if_neg hc).trans q)
    refine lv_iload_n hx hb dX0_isLetter_6 rfl (lv_at hl 0 rfl) ?_
    refine lv_bipush (v := 122) hx hb dX0_isLetter_7 (by decide) ?_
    refine lv_icmp_gt hx hb dX0_isLetter_9 rfl (fun hc => ?_) (fun hc => ?_)
    · have J := fun vv H locs q => J vv H locs ((if_pos hc).trans q)
      refine lv_iconst (v := 0) hx hb dX0_isLetter_16 (by decide) ?_
      exact J _ _ _ rfl hM hS
    · have J := fun vv H locs q => J vv H locs ((if_neg hc).trans q)
      refine lv_iconst (v := 1) hx hb dX0_isLetter_12 (by decide) ?_
      refine lv_goto hx hb dX0_isLetter_13 rfl ?_
      exact J _ _ _ rfl hM hS
theorem dX0_isDigit_0 : decode cX0_isDigit 0 = .ok (.iload_n 0, 1) := by decide +kernel
theorem dX0_isDigit_1 : decode cX0_isDigit 1 = .ok (.bipush 48, 2) := by decide +kernel
theorem dX0_isDigit_3 : decode cX0_isDigit 3 = .ok (.if_icmp .lt 13, 3) := by decide +kernel
theorem dX0_isDigit_6 : decode cX0_isDigit 6 = .ok (.iload_n 0, 1) := by decide +kernel
theorem dX0_isDigit_7 : decode cX0_isDigit 7 = .ok (.bipush 57, 2) := by decide +kernel
theorem dX0_isDigit_9 : decode cX0_isDigit 9 = .ok (.if_icmp .gt 7, 3) := by decide +kernel
theorem dX0_isDigit_12 : decode cX0_isDigit 12 = .ok (.iconst 1, 1) := by decide +kernel
theorem dX0_isDigit_13 : decode cX0_isDigit 13 = .ok (.goto 4, 3) := by decide +kernel
theorem dX0_isDigit_16 : decode cX0_isDigit 16 = .ok (.iconst 0, 1) := by decide +kernel
theorem dX0_isDigit_17 : decode cX0_isDigit 17 = .ok (.ireturn, 1) := by decide +kernel
set_option maxHeartbeats 4000000 in
set_option maxRecDepth 100000 in
theorem c_X0_isDigit (g : sk_G) (l : Launch) (a0 : Int32) (M : sk_M) {rr : Int32} (h : f_X0_isDigit a0 = rr) : sk_MI g l yX0_isDigit cX0_isDigit 1 (some .boolean) 1 [.int a0] M rr M := by
  refine sk_go [(0, .int a0)] (by decide) (Nat.le_of_ble_eq_true rfl) rfl ?_
  intro p e s m av below meth c C ls hl hM hS
  obtain ⟨hx, hb, hml, hown, hts, hK, hE, hr, hlocks⟩ := id C
  rw [f_X0_isDigit] at h
  refine lv_iload_n hx hb dX0_isDigit_0 rfl (lv_at hl 0 rfl) ?_
  refine lv_bipush (v := 48) hx hb dX0_isDigit_1 (by decide) ?_
  have J : ∀ (vv : Int32) (H : Heap) (locs : List Loc), (if a0 < 48 then 0 else (if 57 < a0 then 0 else 1 : Int32) : Int32) = vv → sk_P g M H → va_S (sk_A g) s.heap H locs → W p l e (sk_rm 1) s m av below meth c H locs 0 0 (MQ below (sk_QI g rr M) av s 0 0 (sk_A g)) (F0 m 17 ls [.int vv]) := by
    intro vv H locs hvv hM hS
    subst hvv
    exact sk_zret C hM hS (sk_nz (sk_zi (Or.inl rfl) (sk_zi (Or.inl rfl) (Or.inr rfl)))) ⟨h, rfl⟩ dX0_isDigit_17
  refine lv_icmp_lt hx hb dX0_isDigit_3 rfl (fun hc => ?_) (fun hc => ?_)
  · have J := fun vv H locs q => J vv H locs ((if_pos hc).trans q)
    refine lv_iconst (v := 0) hx hb dX0_isDigit_16 (by decide) ?_
    exact J _ _ _ rfl hM hS
  · have J := fun vv H locs q => J vv H locs ((if_neg hc).trans q)
    refine lv_iload_n hx hb dX0_isDigit_6 rfl (lv_at hl 0 rfl) ?_
    refine lv_bipush (v := 57) hx hb dX0_isDigit_7 (by decide) ?_
    refine lv_icmp_gt hx hb dX0_isDigit_9 rfl (fun hc => ?_) (fun hc => ?_)
    · have J := fun vv H locs q => J vv H locs ((if_pos hc).trans q)
      refine lv_iconst (v := 0) hx hb dX0_isDigit_16 (by decide) ?_
      exact J _ _ _ rfl hM hS
    · have J := fun vv H locs q => J vv H locs ((if_neg hc).trans q)
      refine lv_iconst (v := 1) hx hb dX0_isDigit_12 (by decide) ?_
      refine lv_goto hx hb dX0_isDigit_13 rfl ?_
      exact J _ _ _ rfl hM hS
theorem dX0_fail_0 : decode cX0_fail 0 = .ok (.aload_n 0, 1) := by decide +kernel
theorem dX0_fail_1 : decode cX0_fail 1 = .ok (.getfield 22, 3) := by decide +kernel
theorem dX0_fail_4 : decode cX0_fail 4 = .ok (.ifCond .ge 11, 3) := by decide +kernel
theorem dX0_fail_7 : decode cX0_fail 7 = .ok (.aload_n 0, 1) := by decide +kernel
theorem dX0_fail_8 : decode cX0_fail 8 = .ok (.aload_n 0, 1) := by decide +kernel
theorem dX0_fail_9 : decode cX0_fail 9 = .ok (.getfield 51, 3) := by decide +kernel
theorem dX0_fail_12 : decode cX0_fail 12 = .ok (.putfield 22, 3) := by decide +kernel
theorem dX0_fail_15 : decode cX0_fail 15 = .ok (.return_, 1) := by decide +kernel
set_option maxHeartbeats 4000000 in
set_option maxRecDepth 100000 in
theorem c_X0_fail (g : sk_G) (l : Launch)  (M : sk_M) {MM : sk_M} (h : f_X0_fail M = some MM) : sk_MV g l yX0_fail cX0_fail 1 none 1 [.ref (sk_ad g 62)] M MM := by
  refine sk_go [(0, .ref (sk_ad g 62))] (by decide) (Nat.le_of_ble_eq_true rfl) rfl ?_
  intro p e s m av below meth c C ls hl hM hS
  obtain ⟨hx, hb, hml, hown, hts, hK, hE, hr, hlocks⟩ := id C
  rw [f_X0_fail] at h
  refine lv_aload_n hx hb dX0_fail_0 rfl (lv_at hl 0 rfl) ?_
  refine sk_getI (o := 62) (ci := 0) (j := 5) C hM rfl rfl (by decide) rfl kw_127 dX0_fail_1 ?_
  refine lv_if_ge hx hb dX0_fail_4 rfl (fun hc => ?_) (fun hc => ?_)
  · have h := sk_pos h hc
    exact sk_vret C hM hS (Option.some.inj h) dX0_fail_15
  · have h := sk_neg h hc
    refine lv_aload_n hx hb dX0_fail_7 rfl (lv_at hl 0 rfl) ?_
    refine lv_aload_n hx hb dX0_fail_8 rfl (lv_at hl 0 rfl) ?_
    refine sk_getI (o := 62) (ci := 0) (j := 3) C hM rfl rfl (by decide) rfl kw_125 dX0_fail_9 ?_
    refine sk_putI (o := 62) (ci := 0) (j := 5) C hM hS rfl rfl (by decide) rfl rfl (tyX0_ok 5 (by decide)) kw_127 dX0_fail_12 (fun M_1 eM_1 H locs hM hS => ?_)
    have h := sk_letU h eM_1
    exact sk_vret C hM hS (Option.some.inj h) dX0_fail_15
theorem dX0_moveOn_0 : decode cX0_moveOn 0 = .ok (.aload_n 0, 1) := by decide +kernel
theorem dX0_moveOn_1 : decode cX0_moveOn 1 = .ok (.aload_n 0, 1) := by decide +kernel
theorem dX0_moveOn_2 : decode cX0_moveOn 2 = .ok (.getfield 25, 3) := by decide +kernel
theorem dX0_moveOn_5 : decode cX0_moveOn 5 = .ok (.putfield 51, 3) := by decide +kernel
theorem dX0_moveOn_8 : decode cX0_moveOn 8 = .ok (.aload_n 0, 1) := by decide +kernel
theorem dX0_moveOn_9 : decode cX0_moveOn 9 = .ok (.getfield 51, 3) := by decide +kernel
theorem dX0_moveOn_12 : decode cX0_moveOn 12 = .ok (.aload_n 0, 1) := by decide +kernel
theorem dX0_moveOn_13 : decode cX0_moveOn 13 = .ok (.getfield 18, 3) := by decide +kernel
theorem dX0_moveOn_16 : decode cX0_moveOn 16 = .ok (.if_icmp .ge 30, 3) := by decide +kernel
theorem dX0_moveOn_19 : decode cX0_moveOn 19 = .ok (.aload_n 0, 1) := by decide +kernel
theorem dX0_moveOn_20 : decode cX0_moveOn 20 = .ok (.getfield 9, 3) := by decide +kernel
theorem dX0_moveOn_23 : decode cX0_moveOn 23 = .ok (.aload_n 0, 1) := by decide +kernel
theorem dX0_moveOn_24 : decode cX0_moveOn 24 = .ok (.getfield 51, 3) := by decide +kernel
theorem dX0_moveOn_27 : decode cX0_moveOn 27 = .ok (.iaload, 1) := by decide +kernel
theorem dX0_moveOn_28 : decode cX0_moveOn 28 = .ok (.bipush 32, 2) := by decide +kernel
theorem dX0_moveOn_30 : decode cX0_moveOn 30 = .ok (.if_icmp .ne 16, 3) := by decide +kernel
theorem dX0_moveOn_33 : decode cX0_moveOn 33 = .ok (.aload_n 0, 1) := by decide +kernel
theorem dX0_moveOn_34 : decode cX0_moveOn 34 = .ok (.dup, 1) := by decide +kernel
theorem dX0_moveOn_35 : decode cX0_moveOn 35 = .ok (.getfield 51, 3) := by decide +kernel
theorem dX0_moveOn_38 : decode cX0_moveOn 38 = .ok (.iconst 1, 1) := by decide +kernel
theorem dX0_moveOn_39 : decode cX0_moveOn 39 = .ok (.iadd, 1) := by decide +kernel
theorem dX0_moveOn_40 : decode cX0_moveOn 40 = .ok (.putfield 51, 3) := by decide +kernel
theorem dX0_moveOn_43 : decode cX0_moveOn 43 = .ok (.goto (-35), 3) := by decide +kernel
theorem dX0_moveOn_46 : decode cX0_moveOn 46 = .ok (.aload_n 0, 1) := by decide +kernel
theorem dX0_moveOn_47 : decode cX0_moveOn 47 = .ok (.aload_n 0, 1) := by decide +kernel
theorem dX0_moveOn_48 : decode cX0_moveOn 48 = .ok (.getfield 51, 3) := by decide +kernel
theorem dX0_moveOn_51 : decode cX0_moveOn 51 = .ok (.putfield 25, 3) := by decide +kernel
theorem dX0_moveOn_54 : decode cX0_moveOn 54 = .ok (.aload_n 0, 1) := by decide +kernel
theorem dX0_moveOn_55 : decode cX0_moveOn 55 = .ok (.getfield 25, 3) := by decide +kernel
theorem dX0_moveOn_58 : decode cX0_moveOn 58 = .ok (.aload_n 0, 1) := by decide +kernel
theorem dX0_moveOn_59 : decode cX0_moveOn 59 = .ok (.getfield 18, 3) := by decide +kernel
theorem dX0_moveOn_62 : decode cX0_moveOn 62 = .ok (.if_icmp .ge 46, 3) := by decide +kernel
theorem dX0_moveOn_65 : decode cX0_moveOn 65 = .ok (.aload_n 0, 1) := by decide +kernel
theorem dX0_moveOn_66 : decode cX0_moveOn 66 = .ok (.getfield 9, 3) := by decide +kernel
theorem dX0_moveOn_69 : decode cX0_moveOn 69 = .ok (.aload_n 0, 1) := by decide +kernel
theorem dX0_moveOn_70 : decode cX0_moveOn 70 = .ok (.getfield 51, 3) := by decide +kernel
theorem dX0_moveOn_73 : decode cX0_moveOn 73 = .ok (.iaload, 1) := by decide +kernel
theorem dX0_moveOn_74 : decode cX0_moveOn 74 = .ok (.invokestatic 54, 3) := by decide +kernel
theorem dX0_moveOn_77 : decode cX0_moveOn 77 = .ok (.ifCond .eq 31, 3) := by decide +kernel
theorem dX0_moveOn_80 : decode cX0_moveOn 80 = .ok (.aload_n 0, 1) := by decide +kernel
theorem dX0_moveOn_81 : decode cX0_moveOn 81 = .ok (.getfield 9, 3) := by decide +kernel
theorem dX0_moveOn_84 : decode cX0_moveOn 84 = .ok (.aload_n 0, 1) := by decide +kernel
theorem dX0_moveOn_85 : decode cX0_moveOn 85 = .ok (.getfield 25, 3) := by decide +kernel
theorem dX0_moveOn_88 : decode cX0_moveOn 88 = .ok (.iaload, 1) := by decide +kernel
theorem dX0_moveOn_89 : decode cX0_moveOn 89 = .ok (.invokestatic 54, 3) := by decide +kernel
theorem dX0_moveOn_92 : decode cX0_moveOn 92 = .ok (.ifCond .eq 16, 3) := by decide +kernel
theorem dX0_moveOn_95 : decode cX0_moveOn 95 = .ok (.aload_n 0, 1) := by decide +kernel
theorem dX0_moveOn_96 : decode cX0_moveOn 96 = .ok (.dup, 1) := by decide +kernel
theorem dX0_moveOn_97 : decode cX0_moveOn 97 = .ok (.getfield 25, 3) := by decide +kernel
theorem dX0_moveOn_100 : decode cX0_moveOn 100 = .ok (.iconst 1, 1) := by decide +kernel
theorem dX0_moveOn_101 : decode cX0_moveOn 101 = .ok (.iadd, 1) := by decide +kernel
theorem dX0_moveOn_102 : decode cX0_moveOn 102 = .ok (.putfield 25, 3) := by decide +kernel
theorem dX0_moveOn_105 : decode cX0_moveOn 105 = .ok (.goto (-51), 3) := by decide +kernel
theorem dX0_moveOn_108 : decode cX0_moveOn 108 = .ok (.aload_n 0, 1) := by decide +kernel
theorem dX0_moveOn_109 : decode cX0_moveOn 109 = .ok (.getfield 25, 3) := by decide +kernel
theorem dX0_moveOn_112 : decode cX0_moveOn 112 = .ok (.aload_n 0, 1) := by decide +kernel
theorem dX0_moveOn_113 : decode cX0_moveOn 113 = .ok (.getfield 18, 3) := by decide +kernel
theorem dX0_moveOn_116 : decode cX0_moveOn 116 = .ok (.if_icmp .ge 46, 3) := by decide +kernel
theorem dX0_moveOn_119 : decode cX0_moveOn 119 = .ok (.aload_n 0, 1) := by decide +kernel
theorem dX0_moveOn_120 : decode cX0_moveOn 120 = .ok (.getfield 9, 3) := by decide +kernel
theorem dX0_moveOn_123 : decode cX0_moveOn 123 = .ok (.aload_n 0, 1) := by decide +kernel
theorem dX0_moveOn_124 : decode cX0_moveOn 124 = .ok (.getfield 51, 3) := by decide +kernel
theorem dX0_moveOn_127 : decode cX0_moveOn 127 = .ok (.iaload, 1) := by decide +kernel
theorem dX0_moveOn_128 : decode cX0_moveOn 128 = .ok (.invokestatic 58, 3) := by decide +kernel
theorem dX0_moveOn_131 : decode cX0_moveOn 131 = .ok (.ifCond .eq 31, 3) := by decide +kernel
theorem dX0_moveOn_134 : decode cX0_moveOn 134 = .ok (.aload_n 0, 1) := by decide +kernel
theorem dX0_moveOn_135 : decode cX0_moveOn 135 = .ok (.getfield 9, 3) := by decide +kernel
theorem dX0_moveOn_138 : decode cX0_moveOn 138 = .ok (.aload_n 0, 1) := by decide +kernel
theorem dX0_moveOn_139 : decode cX0_moveOn 139 = .ok (.getfield 25, 3) := by decide +kernel
theorem dX0_moveOn_142 : decode cX0_moveOn 142 = .ok (.iaload, 1) := by decide +kernel
theorem dX0_moveOn_143 : decode cX0_moveOn 143 = .ok (.invokestatic 58, 3) := by decide +kernel
theorem dX0_moveOn_146 : decode cX0_moveOn 146 = .ok (.ifCond .eq 16, 3) := by decide +kernel
theorem dX0_moveOn_149 : decode cX0_moveOn 149 = .ok (.aload_n 0, 1) := by decide +kernel
theorem dX0_moveOn_150 : decode cX0_moveOn 150 = .ok (.dup, 1) := by decide +kernel
theorem dX0_moveOn_151 : decode cX0_moveOn 151 = .ok (.getfield 25, 3) := by decide +kernel
theorem dX0_moveOn_154 : decode cX0_moveOn 154 = .ok (.iconst 1, 1) := by decide +kernel
theorem dX0_moveOn_155 : decode cX0_moveOn 155 = .ok (.iadd, 1) := by decide +kernel
theorem dX0_moveOn_156 : decode cX0_moveOn 156 = .ok (.putfield 25, 3) := by decide +kernel
theorem dX0_moveOn_159 : decode cX0_moveOn 159 = .ok (.goto (-51), 3) := by decide +kernel
theorem dX0_moveOn_162 : decode cX0_moveOn 162 = .ok (.aload_n 0, 1) := by decide +kernel
theorem dX0_moveOn_163 : decode cX0_moveOn 163 = .ok (.getfield 25, 3) := by decide +kernel
theorem dX0_moveOn_166 : decode cX0_moveOn 166 = .ok (.aload_n 0, 1) := by decide +kernel
theorem dX0_moveOn_167 : decode cX0_moveOn 167 = .ok (.getfield 51, 3) := by decide +kernel
theorem dX0_moveOn_170 : decode cX0_moveOn 170 = .ok (.if_icmp .ne 27, 3) := by decide +kernel
theorem dX0_moveOn_173 : decode cX0_moveOn 173 = .ok (.aload_n 0, 1) := by decide +kernel
theorem dX0_moveOn_174 : decode cX0_moveOn 174 = .ok (.getfield 51, 3) := by decide +kernel
theorem dX0_moveOn_177 : decode cX0_moveOn 177 = .ok (.aload_n 0, 1) := by decide +kernel
theorem dX0_moveOn_178 : decode cX0_moveOn 178 = .ok (.getfield 18, 3) := by decide +kernel
theorem dX0_moveOn_181 : decode cX0_moveOn 181 = .ok (.if_icmp .ge 16, 3) := by decide +kernel
theorem dX0_moveOn_184 : decode cX0_moveOn 184 = .ok (.aload_n 0, 1) := by decide +kernel
theorem dX0_moveOn_185 : decode cX0_moveOn 185 = .ok (.dup, 1) := by decide +kernel
theorem dX0_moveOn_186 : decode cX0_moveOn 186 = .ok (.getfield 25, 3) := by decide +kernel
theorem dX0_moveOn_189 : decode cX0_moveOn 189 = .ok (.iconst 1, 1) := by decide +kernel
theorem dX0_moveOn_190 : decode cX0_moveOn 190 = .ok (.iadd, 1) := by decide +kernel
theorem dX0_moveOn_191 : decode cX0_moveOn 191 = .ok (.putfield 25, 3) := by decide +kernel
theorem dX0_moveOn_194 : decode cX0_moveOn 194 = .ok (.goto 59, 3) := by decide +kernel
theorem dX0_moveOn_197 : decode cX0_moveOn 197 = .ok (.aload_n 0, 1) := by decide +kernel
theorem dX0_moveOn_198 : decode cX0_moveOn 198 = .ok (.getfield 51, 3) := by decide +kernel
theorem dX0_moveOn_201 : decode cX0_moveOn 201 = .ok (.ifCond .le 52, 3) := by decide +kernel
theorem dX0_moveOn_204 : decode cX0_moveOn 204 = .ok (.aload_n 0, 1) := by decide +kernel
theorem dX0_moveOn_205 : decode cX0_moveOn 205 = .ok (.getfield 51, 3) := by decide +kernel
theorem dX0_moveOn_208 : decode cX0_moveOn 208 = .ok (.aload_n 0, 1) := by decide +kernel
theorem dX0_moveOn_209 : decode cX0_moveOn 209 = .ok (.getfield 18, 3) := by decide +kernel
theorem dX0_moveOn_212 : decode cX0_moveOn 212 = .ok (.if_icmp .ge 41, 3) := by decide +kernel
theorem dX0_moveOn_215 : decode cX0_moveOn 215 = .ok (.aload_n 0, 1) := by decide +kernel
theorem dX0_moveOn_216 : decode cX0_moveOn 216 = .ok (.getfield 9, 3) := by decide +kernel
theorem dX0_moveOn_219 : decode cX0_moveOn 219 = .ok (.aload_n 0, 1) := by decide +kernel
theorem dX0_moveOn_220 : decode cX0_moveOn 220 = .ok (.getfield 51, 3) := by decide +kernel
theorem dX0_moveOn_223 : decode cX0_moveOn 223 = .ok (.iconst 1, 1) := by decide +kernel
theorem dX0_moveOn_224 : decode cX0_moveOn 224 = .ok (.isub, 1) := by decide +kernel
theorem dX0_moveOn_225 : decode cX0_moveOn 225 = .ok (.iaload, 1) := by decide +kernel
theorem dX0_moveOn_226 : decode cX0_moveOn 226 = .ok (.invokestatic 54, 3) := by decide +kernel
theorem dX0_moveOn_229 : decode cX0_moveOn 229 = .ok (.ifCond .ne 20, 3) := by decide +kernel
theorem dX0_moveOn_232 : decode cX0_moveOn 232 = .ok (.aload_n 0, 1) := by decide +kernel
theorem dX0_moveOn_233 : decode cX0_moveOn 233 = .ok (.getfield 9, 3) := by decide +kernel
theorem dX0_moveOn_236 : decode cX0_moveOn 236 = .ok (.aload_n 0, 1) := by decide +kernel
theorem dX0_moveOn_237 : decode cX0_moveOn 237 = .ok (.getfield 51, 3) := by decide +kernel
theorem dX0_moveOn_240 : decode cX0_moveOn 240 = .ok (.iconst 1, 1) := by decide +kernel
theorem dX0_moveOn_241 : decode cX0_moveOn 241 = .ok (.isub, 1) := by decide +kernel
theorem dX0_moveOn_242 : decode cX0_moveOn 242 = .ok (.iaload, 1) := by decide +kernel
theorem dX0_moveOn_243 : decode cX0_moveOn 243 = .ok (.invokestatic 58, 3) := by decide +kernel
theorem dX0_moveOn_246 : decode cX0_moveOn 246 = .ok (.ifCond .eq 7, 3) := by decide +kernel
theorem dX0_moveOn_249 : decode cX0_moveOn 249 = .ok (.aload_n 0, 1) := by decide +kernel
theorem dX0_moveOn_250 : decode cX0_moveOn 250 = .ok (.invokevirtual 44, 3) := by decide +kernel
theorem dX0_moveOn_253 : decode cX0_moveOn 253 = .ok (.return_, 1) := by decide +kernel
set_option maxHeartbeats 4000000 in
set_option maxRecDepth 100000 in
theorem w_X0_moveOn_L8 {g : sk_G} {l : Launch} {p : Program} {e : Env} {s : State} {m : MethodId} {av : Array Value} {below : List Frame} {meth : Method} {c : Code} (C : sk_C g p s m av meth c cX0_moveOn 1 RX0 none)  {MM : sk_M} :
    ∀ (n : Nat) (M : sk_M) (H : Heap) (locs : List Loc) (ls : Array Slot), lv_has ls 1 [(0, .ref (sk_ad g 62))] → sk_P g M H → va_S (sk_A g) s.heap H locs → ∀ {out : sk_M}, f_X0_moveOn_L8 n M = some out → (∀ (M1 : sk_M) (H : Heap) (locs : List Loc) (ls : Array Slot), some M1 = some out → lv_has ls 1 [(0, .ref (sk_ad g 62))] → sk_P g M1 H → va_S (sk_A g) s.heap H locs → W p l e (sk_rm 2) s m av below meth c H locs 0 0 (MQ below (sk_QV g MM) av s 0 0 (sk_A g)) (F0 m 46 ls [])) → W p l e (sk_rm 2) s m av below meth c H locs 0 0 (MQ below (sk_QV g MM) av s 0 0 (sk_A g)) (F0 m 8 ls []) := by
  obtain ⟨hx, hb, hml, hown, hts, hK, hE, hr, hlocks⟩ := id C
  intro n
  induction n with
  | zero =>
    intro M H locs ls hl hM hS out h
    cases h
  | succ n ih =>
    intro M H locs ls hl hM hS out h kx
    rw [f_X0_moveOn_L8] at h
    refine lv_aload_n hx hb dX0_moveOn_8 rfl (lv_at hl 0 rfl) ?_
    refine sk_getI (o := 62) (ci := 0) (j := 3) C hM rfl rfl (by decide) rfl kw_125 dX0_moveOn_9 ?_
    refine lv_aload_n hx hb dX0_moveOn_12 rfl (lv_at hl 0 rfl) ?_
    refine sk_getI (o := 62) (ci := 0) (j := 2) C hM rfl rfl (by decide) rfl kw_123 dX0_moveOn_13 ?_
    refine lv_icmp_ge hx hb dX0_moveOn_16 rfl (fun hc => ?_) (fun hc => ?_)
    · have h := sk_pos h hc
      exact kx _ _ _ _ h (lv_sub hl [0] rfl) hM hS
    · have h := sk_neg h hc
      refine lv_aload_n hx hb dX0_moveOn_19 rfl (lv_at hl 0 rfl) ?_
      refine sk_getR (o := 62) (ci := 0) (j := 0) (t := 63) C hM rfl rfl (by decide) rfl rfl kw_120 dX0_moveOn_20 ?_
      refine lv_aload_n hx hb dX0_moveOn_23 rfl (lv_at hl 0 rfl) ?_
      refine sk_getI (o := 62) (ci := 0) (j := 3) C hM rfl rfl (by decide) rfl kw_125 dX0_moveOn_24 ?_
      obtain ⟨i_2, h⟩ := sk_chkE h
      refine sk_iald (o := 63) C hM rfl i_2 dX0_moveOn_27 ?_
      refine lv_bipush (v := 32) hx hb dX0_moveOn_28 (by decide) ?_
      refine lv_icmp_ne hx hb dX0_moveOn_30 rfl (fun hc => ?_) (fun hc => ?_)
      · have h := sk_neg h hc
        exact kx _ _ _ _ h (lv_sub hl [0] rfl) hM hS
      · have h := sk_pos h hc
        refine lv_aload_n hx hb dX0_moveOn_33 rfl (lv_at hl 0 rfl) ?_
        refine lv_dup hx hb dX0_moveOn_34 rfl ?_
        refine sk_getI (o := 62) (ci := 0) (j := 3) C hM rfl rfl (by decide) rfl kw_125 dX0_moveOn_35 ?_
        refine lv_iconst (v := 1) hx hb dX0_moveOn_38 (by decide) ?_
        refine lv_iadd hx hb dX0_moveOn_39 ?_
        refine sk_putI (o := 62) (ci := 0) (j := 3) C hM hS rfl rfl (by decide) rfl rfl (tyX0_ok 3 (by decide)) kw_125 dX0_moveOn_40 (fun M_3 eM_3 H locs hM hS => ?_)
        have h := sk_letU h eM_3
        refine lv_goto hx hb dX0_moveOn_43 rfl ?_
        exact ih  M_3 _ _ _ (lv_sub hl [0] rfl) hM hS h kx
set_option maxHeartbeats 4000000 in
set_option maxRecDepth 100000 in
theorem w_X0_moveOn_L54 {g : sk_G} {l : Launch} {p : Program} {e : Env} {s : State} {m : MethodId} {av : Array Value} {below : List Frame} {meth : Method} {c : Code} (C : sk_C g p s m av meth c cX0_moveOn 1 RX0 none)  {MM : sk_M} :
    ∀ (n : Nat) (M : sk_M) (H : Heap) (locs : List Loc) (ls : Array Slot), lv_has ls 1 [(0, .ref (sk_ad g 62))] → sk_P g M H → va_S (sk_A g) s.heap H locs → ∀ {out : sk_M}, f_X0_moveOn_L54 n M = some out → (∀ (M1 : sk_M) (H : Heap) (locs : List Loc) (ls : Array Slot), some M1 = some out → lv_has ls 1 [(0, .ref (sk_ad g 62))] → sk_P g M1 H → va_S (sk_A g) s.heap H locs → W p l e (sk_rm 2) s m av below meth c H locs 0 0 (MQ below (sk_QV g MM) av s 0 0 (sk_A g)) (F0 m 108 ls [])) → W p l e (sk_rm 2) s m av below meth c H locs 0 0 (MQ below (sk_QV g MM) av s 0 0 (sk_A g)) (F0 m 54 ls []) := by
  obtain ⟨hx, hb, hml, hown, hts, hK, hE, hr, hlocks⟩ := id C
  intro n
  induction n with
  | zero =>
    intro M H locs ls hl hM hS out h
    cases h
  | succ n ih =>
    intro M H locs ls hl hM hS out h kx
    rw [f_X0_moveOn_L54] at h
    refine lv_aload_n hx hb dX0_moveOn_54 rfl (lv_at hl 0 rfl) ?_
    refine sk_getI (o := 62) (ci := 0) (j := 4) C hM rfl rfl (by decide) rfl kw_126 dX0_moveOn_55 ?_
    refine lv_aload_n hx hb dX0_moveOn_58 rfl (lv_at hl 0 rfl) ?_
    refine sk_getI (o := 62) (ci := 0) (j := 2) C hM rfl rfl (by decide) rfl kw_123 dX0_moveOn_59 ?_
    refine lv_icmp_ge hx hb dX0_moveOn_62 rfl (fun hc => ?_) (fun hc => ?_)
    · have h := sk_pos h hc
      exact kx _ _ _ _ h (lv_sub hl [0] rfl) hM hS
    · have h := sk_neg h hc
      refine lv_aload_n hx hb dX0_moveOn_65 rfl (lv_at hl 0 rfl) ?_
      refine sk_getR (o := 62) (ci := 0) (j := 0) (t := 63) C hM rfl rfl (by decide) rfl rfl kw_120 dX0_moveOn_66 ?_
      refine lv_aload_n hx hb dX0_moveOn_69 rfl (lv_at hl 0 rfl) ?_
      refine sk_getI (o := 62) (ci := 0) (j := 3) C hM rfl rfl (by decide) rfl kw_125 dX0_moveOn_70 ?_
      obtain ⟨i_6, h⟩ := sk_chkE h
      refine sk_iald (o := 63) C hM rfl i_6 dX0_moveOn_73 ?_
      refine sk_contI (sk_runS (As := [.int (M 63 (M 62 3).toNatClampNeg)]) (rest := []) C (c_X0_isLetter g l (M 63 (M 62 3).toNatClampNeg) M rfl) yo_X0_isLetter kw_653 (by decide) hM hS hl.1 rfl rfl (Nat.le_of_ble_eq_true rfl) dX0_moveOn_74) hS (fun H locs hM hS => ?_)
      refine lv_if_eq hx hb dX0_moveOn_77 rfl (fun hc => ?_) (fun hc => ?_)
      · have h := sk_pos h hc
        exact kx _ _ _ _ h (lv_sub hl [0] rfl) hM hS
      · have h := sk_neg h hc
        refine lv_aload_n hx hb dX0_moveOn_80 rfl (lv_at hl 0 rfl) ?_
        refine sk_getR (o := 62) (ci := 0) (j := 0) (t := 63) C hM rfl rfl (by decide) rfl rfl kw_120 dX0_moveOn_81 ?_
        refine lv_aload_n hx hb dX0_moveOn_84 rfl (lv_at hl 0 rfl) ?_
        refine sk_getI (o := 62) (ci := 0) (j := 4) C hM rfl rfl (by decide) rfl kw_126 dX0_moveOn_85 ?_
        obtain ⟨i_8, h⟩ := sk_chkE h
        refine sk_iald (o := 63) C hM rfl i_8 dX0_moveOn_88 ?_
        refine sk_contI (sk_runS (As := [.int (M 63 (M 62 4).toNatClampNeg)]) (rest := []) C (c_X0_isLetter g l (M 63 (M 62 4).toNatClampNeg) M rfl) yo_X0_isLetter kw_653 (by decide) hM hS hl.1 rfl rfl (Nat.le_of_ble_eq_true rfl) dX0_moveOn_89) hS (fun H locs hM hS => ?_)
        refine lv_if_eq hx hb dX0_moveOn_92 rfl (fun hc => ?_) (fun hc => ?_)
        · have h := sk_pos h hc
          exact kx _ _ _ _ h (lv_sub hl [0] rfl) hM hS
        · have h := sk_neg h hc
          refine lv_aload_n hx hb dX0_moveOn_95 rfl (lv_at hl 0 rfl) ?_
          refine lv_dup hx hb dX0_moveOn_96 rfl ?_
          refine sk_getI (o := 62) (ci := 0) (j := 4) C hM rfl rfl (by decide) rfl kw_126 dX0_moveOn_97 ?_
          refine lv_iconst (v := 1) hx hb dX0_moveOn_100 (by decide) ?_
          refine lv_iadd hx hb dX0_moveOn_101 ?_
          refine sk_putI (o := 62) (ci := 0) (j := 4) C hM hS rfl rfl (by decide) rfl rfl (tyX0_ok 4 (by decide)) kw_126 dX0_moveOn_102 (fun M_10 eM_10 H locs hM hS => ?_)
          have h := sk_letU h eM_10
          refine lv_goto hx hb dX0_moveOn_105 rfl ?_
          exact ih  M_10 _ _ _ (lv_sub hl [0] rfl) hM hS h kx
set_option maxHeartbeats 4000000 in
set_option maxRecDepth 100000 in
theorem w_X0_moveOn_L108 {g : sk_G} {l : Launch} {p : Program} {e : Env} {s : State} {m : MethodId} {av : Array Value} {below : List Frame} {meth : Method} {c : Code} (C : sk_C g p s m av meth c cX0_moveOn 1 RX0 none)  {MM : sk_M} :
    ∀ (n : Nat) (M : sk_M) (H : Heap) (locs : List Loc) (ls : Array Slot), lv_has ls 1 [(0, .ref (sk_ad g 62))] → sk_P g M H → va_S (sk_A g) s.heap H locs → ∀ {out : sk_M}, f_X0_moveOn_L108 n M = some out → (∀ (M1 : sk_M) (H : Heap) (locs : List Loc) (ls : Array Slot), some M1 = some out → lv_has ls 1 [(0, .ref (sk_ad g 62))] → sk_P g M1 H → va_S (sk_A g) s.heap H locs → W p l e (sk_rm 2) s m av below meth c H locs 0 0 (MQ below (sk_QV g MM) av s 0 0 (sk_A g)) (F0 m 162 ls [])) → W p l e (sk_rm 2) s m av below meth c H locs 0 0 (MQ below (sk_QV g MM) av s 0 0 (sk_A g)) (F0 m 108 ls []) := by
  obtain ⟨hx, hb, hml, hown, hts, hK, hE, hr, hlocks⟩ := id C
  intro n
  induction n with
  | zero =>
    intro M H locs ls hl hM hS out h
    cases h
  | succ n ih =>
    intro M H locs ls hl hM hS out h kx
    rw [f_X0_moveOn_L108] at h
    refine lv_aload_n hx hb dX0_moveOn_108 rfl (lv_at hl 0 rfl) ?_
    refine sk_getI (o := 62) (ci := 0) (j := 4) C hM rfl rfl (by decide) rfl kw_126 dX0_moveOn_109 ?_
    refine lv_aload_n hx hb dX0_moveOn_112 rfl (lv_at hl 0 rfl) ?_
    refine sk_getI (o := 62) (ci := 0) (j := 2) C hM rfl rfl (by decide) rfl kw_123 dX0_moveOn_113 ?_
    refine lv_icmp_ge hx hb dX0_moveOn_116 rfl (fun hc => ?_) (fun hc => ?_)
    · have h := sk_pos h hc
      exact kx _ _ _ _ h (lv_sub hl [0] rfl) hM hS
    · have h := sk_neg h hc
      refine lv_aload_n hx hb dX0_moveOn_119 rfl (lv_at hl 0 rfl) ?_
      refine sk_getR (o := 62) (ci := 0) (j := 0) (t := 63) C hM rfl rfl (by decide) rfl rfl kw_120 dX0_moveOn_120 ?_
      refine lv_aload_n hx hb dX0_moveOn_123 rfl (lv_at hl 0 rfl) ?_
      refine sk_getI (o := 62) (ci := 0) (j := 3) C hM rfl rfl (by decide) rfl kw_125 dX0_moveOn_124 ?_
      obtain ⟨i_12, h⟩ := sk_chkE h
      refine sk_iald (o := 63) C hM rfl i_12 dX0_moveOn_127 ?_
      refine sk_contI (sk_runS (As := [.int (M 63 (M 62 3).toNatClampNeg)]) (rest := []) C (c_X0_isDigit g l (M 63 (M 62 3).toNatClampNeg) M rfl) yo_X0_isDigit kw_656 (by decide) hM hS hl.1 rfl rfl (Nat.le_of_ble_eq_true rfl) dX0_moveOn_128) hS (fun H locs hM hS => ?_)
      refine lv_if_eq hx hb dX0_moveOn_131 rfl (fun hc => ?_) (fun hc => ?_)
      · have h := sk_pos h hc
        exact kx _ _ _ _ h (lv_sub hl [0] rfl) hM hS
      · have h := sk_neg h hc
        refine lv_aload_n hx hb dX0_moveOn_134 rfl (lv_at hl 0 rfl) ?_
        refine sk_getR (o := 62) (ci := 0) (j := 0) (t := 63) C hM rfl rfl (by decide) rfl rfl kw_120 dX0_moveOn_135 ?_
        refine lv_aload_n hx hb dX0_moveOn_138 rfl (lv_at hl 0 rfl) ?_
        refine sk_getI (o := 62) (ci := 0) (j := 4) C hM rfl rfl (by decide) rfl kw_126 dX0_moveOn_139 ?_
        obtain ⟨i_14, h⟩ := sk_chkE h
        refine sk_iald (o := 63) C hM rfl i_14 dX0_moveOn_142 ?_
        refine sk_contI (sk_runS (As := [.int (M 63 (M 62 4).toNatClampNeg)]) (rest := []) C (c_X0_isDigit g l (M 63 (M 62 4).toNatClampNeg) M rfl) yo_X0_isDigit kw_656 (by decide) hM hS hl.1 rfl rfl (Nat.le_of_ble_eq_true rfl) dX0_moveOn_143) hS (fun H locs hM hS => ?_)
        refine lv_if_eq hx hb dX0_moveOn_146 rfl (fun hc => ?_) (fun hc => ?_)
        · have h := sk_pos h hc
          exact kx _ _ _ _ h (lv_sub hl [0] rfl) hM hS
        · have h := sk_neg h hc
          refine lv_aload_n hx hb dX0_moveOn_149 rfl (lv_at hl 0 rfl) ?_
          refine lv_dup hx hb dX0_moveOn_150 rfl ?_
          refine sk_getI (o := 62) (ci := 0) (j := 4) C hM rfl rfl (by decide) rfl kw_126 dX0_moveOn_151 ?_
          refine lv_iconst (v := 1) hx hb dX0_moveOn_154 (by decide) ?_
          refine lv_iadd hx hb dX0_moveOn_155 ?_
          refine sk_putI (o := 62) (ci := 0) (j := 4) C hM hS rfl rfl (by decide) rfl rfl (tyX0_ok 4 (by decide)) kw_126 dX0_moveOn_156 (fun M_16 eM_16 H locs hM hS => ?_)
          have h := sk_letU h eM_16
          refine lv_goto hx hb dX0_moveOn_159 rfl ?_
          exact ih  M_16 _ _ _ (lv_sub hl [0] rfl) hM hS h kx
set_option maxHeartbeats 4000000 in
set_option maxRecDepth 100000 in
theorem c_X0_moveOn (g : sk_G) (l : Launch)  (M : sk_M) {MM : sk_M} (h : f_X0_moveOn M = some MM) : sk_MV g l yX0_moveOn cX0_moveOn 1 none 2 [.ref (sk_ad g 62)] M MM := by
  refine sk_go [(0, .ref (sk_ad g 62))] (by decide) (Nat.le_of_ble_eq_true rfl) rfl ?_
  intro p e s m av below meth c C ls hl hM hS
  obtain ⟨hx, hb, hml, hown, hts, hK, hE, hr, hlocks⟩ := id C
  rw [f_X0_moveOn] at h
  refine lv_aload_n hx hb dX0_moveOn_0 rfl (lv_at hl 0 rfl) ?_
  refine lv_aload_n hx hb dX0_moveOn_1 rfl (lv_at hl 0 rfl) ?_
  refine sk_getI (o := 62) (ci := 0) (j := 4) C hM rfl rfl (by decide) rfl kw_126 dX0_moveOn_2 ?_
  refine sk_putI (o := 62) (ci := 0) (j := 3) C hM hS rfl rfl (by decide) rfl rfl (tyX0_ok 3 (by decide)) kw_125 dX0_moveOn_5 (fun M_1 eM_1 H locs hM hS => ?_)
  have h := sk_letU h eM_1
  obtain ⟨M_4, h_39, h⟩ := sk_b1E h
  refine w_X0_moveOn_L8 C sk_FU M_1 _ _ _ (lv_sub hl [0] rfl) hM hS h_39 (fun y_40 H locs ls he hl hM hS => ?_)
  obtain rfl := Option.some.inj he
  refine lv_aload_n hx hb dX0_moveOn_46 rfl (lv_at hl 0 rfl) ?_
  refine lv_aload_n hx hb dX0_moveOn_47 rfl (lv_at hl 0 rfl) ?_
  refine sk_getI (o := 62) (ci := 0) (j := 3) C hM rfl rfl (by decide) rfl kw_125 dX0_moveOn_48 ?_
  refine sk_putI (o := 62) (ci := 0) (j := 4) C hM hS rfl rfl (by decide) rfl rfl (tyX0_ok 4 (by decide)) kw_126 dX0_moveOn_51 (fun M_5 eM_5 H locs hM hS => ?_)
  have h := sk_letU h eM_5
  obtain ⟨M_11, h_37, h⟩ := sk_b1E h
  refine w_X0_moveOn_L54 C sk_FU M_5 _ _ _ (lv_sub hl [0] rfl) hM hS h_37 (fun y_38 H locs ls he hl hM hS => ?_)
  obtain rfl := Option.some.inj he
  obtain ⟨M_17, h_35, h⟩ := sk_b1E h
  refine w_X0_moveOn_L108 C sk_FU y_38 _ _ _ (lv_sub hl [0] rfl) hM hS h_35 (fun y_36 H locs ls he hl hM hS => ?_)
  obtain rfl := Option.some.inj he
  refine lv_aload_n hx hb dX0_moveOn_162 rfl (lv_at hl 0 rfl) ?_
  refine sk_getI (o := 62) (ci := 0) (j := 4) C hM rfl rfl (by decide) rfl kw_126 dX0_moveOn_163 ?_
  refine lv_aload_n hx hb dX0_moveOn_166 rfl (lv_at hl 0 rfl) ?_
  refine sk_getI (o := 62) (ci := 0) (j := 3) C hM rfl rfl (by decide) rfl kw_125 dX0_moveOn_167 ?_
  refine lv_icmp_ne hx hb dX0_moveOn_170 rfl (fun hc => ?_) (fun hc => ?_)
  · have h := sk_neg h hc
    refine lv_aload_n hx hb dX0_moveOn_197 rfl (lv_at hl 0 rfl) ?_
    refine sk_getI (o := 62) (ci := 0) (j := 3) C hM rfl rfl (by decide) rfl kw_125 dX0_moveOn_198 ?_
    refine lv_if_le hx hb dX0_moveOn_201 rfl (fun hc => ?_) (fun hc => ?_)
    · have h := sk_pos h hc
      exact sk_vret C hM hS (Option.some.inj h) dX0_moveOn_253
    · have h := sk_neg h hc
      refine lv_aload_n hx hb dX0_moveOn_204 rfl (lv_at hl 0 rfl) ?_
      refine sk_getI (o := 62) (ci := 0) (j := 3) C hM rfl rfl (by decide) rfl kw_125 dX0_moveOn_205 ?_
      refine lv_aload_n hx hb dX0_moveOn_208 rfl (lv_at hl 0 rfl) ?_
      refine sk_getI (o := 62) (ci := 0) (j := 2) C hM rfl rfl (by decide) rfl kw_123 dX0_moveOn_209 ?_
      refine lv_icmp_ge hx hb dX0_moveOn_212 rfl (fun hc => ?_) (fun hc => ?_)
      · have h := sk_pos h hc
        exact sk_vret C hM hS (Option.some.inj h) dX0_moveOn_253
      · have h := sk_neg h hc
        refine lv_aload_n hx hb dX0_moveOn_215 rfl (lv_at hl 0 rfl) ?_
        refine sk_getR (o := 62) (ci := 0) (j := 0) (t := 63) C hM rfl rfl (by decide) rfl rfl kw_120 dX0_moveOn_216 ?_
        refine lv_aload_n hx hb dX0_moveOn_219 rfl (lv_at hl 0 rfl) ?_
        refine sk_getI (o := 62) (ci := 0) (j := 3) C hM rfl rfl (by decide) rfl kw_125 dX0_moveOn_220 ?_
        refine lv_iconst (v := 1) hx hb dX0_moveOn_223 (by decide) ?_
        refine lv_isub hx hb dX0_moveOn_224 ?_
        obtain ⟨i_18, h⟩ := sk_chkE h
        refine sk_iald (o := 63) C hM rfl i_18 dX0_moveOn_225 ?_
        refine sk_contI (sk_runS (As := [.int (y_36 63 ((y_36 62 3) - 1).toNatClampNeg)]) (rest := []) C (c_X0_isLetter g l (y_36 63 ((y_36 62 3) - 1).toNatClampNeg) y_36 rfl) yo_X0_isLetter kw_653 (by decide) hM hS hl.1 rfl rfl (Nat.le_of_ble_eq_true rfl) dX0_moveOn_226) hS (fun H locs hM hS => ?_)
        refine lv_if_ne hx hb dX0_moveOn_229 rfl (fun hc => ?_) (fun hc => ?_)
        · have h := sk_neg h hc
          refine lv_aload_n hx hb dX0_moveOn_249 rfl (lv_at hl 0 rfl) ?_
          obtain ⟨M_20, h_21, h⟩ := sk_b1E h
          refine sk_contV (sk_runV (As := []) (rest := []) C (c_X0_fail g l  y_36 h_21) yo_X0_fail kw_659 (sk_recv (ci := 0) C hM rfl rfl) (by decide) hM hS hl.1 rfl rfl (Nat.le_of_ble_eq_true rfl) dX0_moveOn_250) hS (fun H locs hM hS => ?_)
          exact sk_vret C hM hS (Option.some.inj h) dX0_moveOn_253
        · have h := sk_pos h hc
          refine lv_aload_n hx hb dX0_moveOn_232 rfl (lv_at hl 0 rfl) ?_
          refine sk_getR (o := 62) (ci := 0) (j := 0) (t := 63) C hM rfl rfl (by decide) rfl rfl kw_120 dX0_moveOn_233 ?_
          refine lv_aload_n hx hb dX0_moveOn_236 rfl (lv_at hl 0 rfl) ?_
          refine sk_getI (o := 62) (ci := 0) (j := 3) C hM rfl rfl (by decide) rfl kw_125 dX0_moveOn_237 ?_
          refine lv_iconst (v := 1) hx hb dX0_moveOn_240 (by decide) ?_
          refine lv_isub hx hb dX0_moveOn_241 ?_
          obtain ⟨i_22, h⟩ := sk_chkE h
          refine sk_iald (o := 63) C hM rfl i_22 dX0_moveOn_242 ?_
          refine sk_contI (sk_runS (As := [.int (y_36 63 ((y_36 62 3) - 1).toNatClampNeg)]) (rest := []) C (c_X0_isDigit g l (y_36 63 ((y_36 62 3) - 1).toNatClampNeg) y_36 rfl) yo_X0_isDigit kw_656 (by decide) hM hS hl.1 rfl rfl (Nat.le_of_ble_eq_true rfl) dX0_moveOn_243) hS (fun H locs hM hS => ?_)
          refine lv_if_eq hx hb dX0_moveOn_246 rfl (fun hc => ?_) (fun hc => ?_)
          · have h := sk_pos h hc
            exact sk_vret C hM hS (Option.some.inj h) dX0_moveOn_253
          · have h := sk_neg h hc
            refine lv_aload_n hx hb dX0_moveOn_249 rfl (lv_at hl 0 rfl) ?_
            obtain ⟨M_24, h_25, h⟩ := sk_b1E h
            refine sk_contV (sk_runV (As := []) (rest := []) C (c_X0_fail g l  y_36 h_25) yo_X0_fail kw_659 (sk_recv (ci := 0) C hM rfl rfl) (by decide) hM hS hl.1 rfl rfl (Nat.le_of_ble_eq_true rfl) dX0_moveOn_250) hS (fun H locs hM hS => ?_)
            exact sk_vret C hM hS (Option.some.inj h) dX0_moveOn_253
  · have h := sk_pos h hc
    refine lv_aload_n hx hb dX0_moveOn_173 rfl (lv_at hl 0 rfl) ?_
    refine sk_getI (o := 62) (ci := 0) (j := 3) C hM rfl rfl (by decide) rfl kw_125 dX0_moveOn_174 ?_
    refine lv_aload_n hx hb dX0_moveOn_177 rfl (lv_at hl 0 rfl) ?_
    refine sk_getI (o := 62) (ci := 0) (j := 2) C hM rfl rfl (by decide) rfl kw_123 dX0_moveOn_178 ?_
    refine lv_icmp_ge hx hb dX0_moveOn_181 rfl (fun hc => ?_) (fun hc => ?_)
    · have h := sk_pos h hc
      refine lv_aload_n hx hb dX0_moveOn_197 rfl (lv_at hl 0 rfl) ?_
      refine sk_getI (o := 62) (ci := 0) (j := 3) C hM rfl rfl (by decide) rfl kw_125 dX0_moveOn_198 ?_
      refine lv_if_le hx hb dX0_moveOn_201 rfl (fun hc => ?_) (fun hc => ?_)
      · have h := sk_pos h hc
        exact sk_vret C hM hS (Option.some.inj h) dX0_moveOn_253
      · have h := sk_neg h hc
        refine lv_aload_n hx hb dX0_moveOn_204 rfl (lv_at hl 0 rfl) ?_
        refine sk_getI (o := 62) (ci := 0) (j := 3) C hM rfl rfl (by decide) rfl kw_125 dX0_moveOn_205 ?_
        refine lv_aload_n hx hb dX0_moveOn_208 rfl (lv_at hl 0 rfl) ?_
        refine sk_getI (o := 62) (ci := 0) (j := 2) C hM rfl rfl (by decide) rfl kw_123 dX0_moveOn_209 ?_
        refine lv_icmp_ge hx hb dX0_moveOn_212 rfl (fun hc => ?_) (fun hc => ?_)
        · have h := sk_pos h hc
          exact sk_vret C hM hS (Option.some.inj h) dX0_moveOn_253
        · have h := sk_neg h hc
          refine lv_aload_n hx hb dX0_moveOn_215 rfl (lv_at hl 0 rfl) ?_
          refine sk_getR (o := 62) (ci := 0) (j := 0) (t := 63) C hM rfl rfl (by decide) rfl rfl kw_120 dX0_moveOn_216 ?_
          refine lv_aload_n hx hb dX0_moveOn_219 rfl (lv_at hl 0 rfl) ?_
          refine sk_getI (o := 62) (ci := 0) (j := 3) C hM rfl rfl (by decide) rfl kw_125 dX0_moveOn_220 ?_
          refine lv_iconst (v := 1) hx hb dX0_moveOn_223 (by decide) ?_
          refine lv_isub hx hb dX0_moveOn_224 ?_
          obtain ⟨i_26, h⟩ := sk_chkE h
          refine sk_iald (o := 63) C hM rfl i_26 dX0_moveOn_225 ?_
          refine sk_contI (sk_runS (As := [.int (y_36 63 ((y_36 62 3) - 1).toNatClampNeg)]) (rest := []) C (c_X0_isLetter g l (y_36 63 ((y_36 62 3) - 1).toNatClampNeg) y_36 rfl) yo_X0_isLetter kw_653 (by decide) hM hS hl.1 rfl rfl (Nat.le_of_ble_eq_true rfl) dX0_moveOn_226) hS (fun H locs hM hS => ?_)
          refine lv_if_ne hx hb dX0_moveOn_229 rfl (fun hc => ?_) (fun hc => ?_)
          · have h := sk_neg h hc
            refine lv_aload_n hx hb dX0_moveOn_249 rfl (lv_at hl 0 rfl) ?_
            obtain ⟨M_28, h_29, h⟩ := sk_b1E h
            refine sk_contV (sk_runV (As := []) (rest := []) C (c_X0_fail g l  y_36 h_29) yo_X0_fail kw_659 (sk_recv (ci := 0) C hM rfl rfl) (by decide) hM hS hl.1 rfl rfl (Nat.le_of_ble_eq_true rfl) dX0_moveOn_250) hS (fun H locs hM hS => ?_)
            exact sk_vret C hM hS (Option.some.inj h) dX0_moveOn_253
          · have h := sk_pos h hc
            refine lv_aload_n hx hb dX0_moveOn_232 rfl (lv_at hl 0 rfl) ?_
            refine sk_getR (o := 62) (ci := 0) (j := 0) (t := 63) C hM rfl rfl (by decide) rfl rfl kw_120 dX0_moveOn_233 ?_
            refine lv_aload_n hx hb dX0_moveOn_236 rfl (lv_at hl 0 rfl) ?_
            refine sk_getI (o := 62) (ci := 0) (j := 3) C hM rfl rfl (by decide) rfl kw_125 dX0_moveOn_237 ?_
            refine lv_iconst (v := 1) hx hb dX0_moveOn_240 (by decide) ?_
            refine lv_isub hx hb dX0_moveOn_241 ?_
            obtain ⟨i_30, h⟩ := sk_chkE h
            refine sk_iald (o := 63) C hM rfl i_30 dX0_moveOn_242 ?_
            refine sk_contI (sk_runS (As := [.int (y_36 63 ((y_36 62 3) - 1).toNatClampNeg)]) (rest := []) C (c_X0_isDigit g l (y_36 63 ((y_36 62 3) - 1).toNatClampNeg) y_36 rfl) yo_X0_isDigit kw_656 (by decide) hM hS hl.1 rfl rfl (Nat.le_of_ble_eq_true rfl) dX0_moveOn_243) hS (fun H locs hM hS => ?_)
            refine lv_if_eq hx hb dX0_moveOn_246 rfl (fun hc => ?_) (fun hc => ?_)
            · have h := sk_pos h hc
              exact sk_vret C hM hS (Option.some.inj h) dX0_moveOn_253
            · have h := sk_neg h hc
              refine lv_aload_n hx hb dX0_moveOn_249 rfl (lv_at hl 0 rfl) ?_
              obtain ⟨M_32, h_33, h⟩ := sk_b1E h
              refine sk_contV (sk_runV (As := []) (rest := []) C (c_X0_fail g l  y_36 h_33) yo_X0_fail kw_659 (sk_recv (ci := 0) C hM rfl rfl) (by decide) hM hS hl.1 rfl rfl (Nat.le_of_ble_eq_true rfl) dX0_moveOn_250) hS (fun H locs hM hS => ?_)
              exact sk_vret C hM hS (Option.some.inj h) dX0_moveOn_253
    · have h := sk_neg h hc
      refine lv_aload_n hx hb dX0_moveOn_184 rfl (lv_at hl 0 rfl) ?_
      refine lv_dup hx hb dX0_moveOn_185 rfl ?_
      refine sk_getI (o := 62) (ci := 0) (j := 4) C hM rfl rfl (by decide) rfl kw_126 dX0_moveOn_186 ?_
      refine lv_iconst (v := 1) hx hb dX0_moveOn_189 (by decide) ?_
      refine lv_iadd hx hb dX0_moveOn_190 ?_
      refine sk_putI (o := 62) (ci := 0) (j := 4) C hM hS rfl rfl (by decide) rfl rfl (tyX0_ok 4 (by decide)) kw_126 dX0_moveOn_191 (fun M_34 eM_34 H locs hM hS => ?_)
      have h := sk_letU h eM_34
      refine lv_goto hx hb dX0_moveOn_194 rfl ?_
      exact sk_vret C hM hS (Option.some.inj h) dX0_moveOn_253
theorem dJ0_coder_7d493_0 : decode cJ0_coder_7d493 0 = .ok (.getstatic 38, 3) := by decide +kernel
theorem dJ0_coder_7d493_3 : decode cJ0_coder_7d493 3 = .ok (.ifCond .eq 10, 3) := by decide +kernel
theorem dJ0_coder_7d493_6 : decode cJ0_coder_7d493 6 = .ok (.aload_n 0, 1) := by decide +kernel
theorem dJ0_coder_7d493_7 : decode cJ0_coder_7d493 7 = .ok (.getfield 15, 3) := by decide +kernel
theorem dJ0_coder_7d493_10 : decode cJ0_coder_7d493 10 = .ok (.goto 4, 3) := by decide +kernel
theorem dJ0_coder_7d493_13 : decode cJ0_coder_7d493 13 = .ok (.iconst 1, 1) := by decide +kernel
theorem dJ0_coder_7d493_14 : decode cJ0_coder_7d493 14 = .ok (.ireturn, 1) := by decide +kernel
set_option maxHeartbeats 4000000 in
set_option maxRecDepth 100000 in
theorem c_J0_coder_7d493 (g : sk_G) (l : Launch) (o0 : Nat) (q0 : o0 < 14) (M : sk_M) {rr : Int32} (h : f_J0_coder_7d493 o0 = rr) : sk_MI g l yJ0_coder_7d493 cJ0_coder_7d493 1 (some .byte) 1 [.ref (sk_aK g o0)] M rr M := by
  refine sk_go [(0, .ref (sk_aK g o0))] (by decide) (Nat.le_of_ble_eq_true rfl) rfl ?_
  intro p e s m av below meth c C ls hl hM hS
  obtain ⟨hx, hb, hml, hown, hts, hK, hE, hr, hlocks⟩ := id C
  rw [f_J0_coder_7d493] at h
  refine va_gets hx hb hE.2.2.1 hS hown (hts _ kw_680) (fun _ h9 => h9) dJ0_coder_7d493_0 ?_
  refine lv_if_eq hx hb dJ0_coder_7d493_3 rfl (fun hc => absurd hc (by decide)) (fun hc => ?_)
  refine lv_aload_n hx hb dJ0_coder_7d493_6 rfl (lv_at hl 0 rfl) ?_
  refine vk_getf hx hb (hE.2.2.2.2.1.1 o0 q0).2.1 hS hown (hts _ kw_1459) (fun _ h9 => h9) dJ0_coder_7d493_7 ?_
  refine lv_goto hx hb dJ0_coder_7d493_10 rfl ?_
  exact sk_zret C hM hS rfl ⟨h, rfl⟩ dJ0_coder_7d493_14
theorem dJ0_length_8abf5_0 : decode cJ0_length_8abf5 0 = .ok (.aload_n 0, 1) := by decide +kernel
theorem dJ0_length_8abf5_1 : decode cJ0_length_8abf5 1 = .ok (.getfield 9, 3) := by decide +kernel
theorem dJ0_length_8abf5_4 : decode cJ0_length_8abf5 4 = .ok (.arraylength, 1) := by decide +kernel
theorem dJ0_length_8abf5_5 : decode cJ0_length_8abf5 5 = .ok (.aload_n 0, 1) := by decide +kernel
theorem dJ0_length_8abf5_6 : decode cJ0_length_8abf5 6 = .ok (.invokevirtual 335, 3) := by decide +kernel
theorem dJ0_length_8abf5_9 : decode cJ0_length_8abf5 9 = .ok (.ishr, 1) := by decide +kernel
theorem dJ0_length_8abf5_10 : decode cJ0_length_8abf5 10 = .ok (.ireturn, 1) := by decide +kernel
set_option maxHeartbeats 4000000 in
set_option maxRecDepth 100000 in
theorem c_J0_length_8abf5 (g : sk_G) (l : Launch) (o0 : Nat) (q0 : o0 < 14) (M : sk_M) {rr : Int32} (h : f_J0_length_8abf5 o0 = rr) : sk_MI g l yJ0_length_8abf5 cJ0_length_8abf5 1 (some .int) 2 [.ref (sk_aK g o0)] M rr M := by
  refine sk_go [(0, .ref (sk_aK g o0))] (by decide) (Nat.le_of_ble_eq_true rfl) rfl ?_
  intro p e s m av below meth c C ls hl hM hS
  obtain ⟨hx, hb, hml, hown, hts, hK, hE, hr, hlocks⟩ := id C
  rw [f_J0_length_8abf5] at h
  refine lv_aload_n hx hb dJ0_length_8abf5_0 rfl (lv_at hl 0 rfl) ?_
  refine vk_getf hx hb (hE.2.2.2.2.1.1 o0 q0).2.2.1 hS hown (hts _ kw_1458) (fun _ h9 => h9) dJ0_length_8abf5_1 ?_
  refine va_tlen hx hb (hE.2.2.2.2.1.1 o0 q0).2.2.2 hS (v := (nI (sk_sl.getD o0 0))) rfl dJ0_length_8abf5_4 ?_
  refine lv_aload_n hx hb dJ0_length_8abf5_5 rfl (lv_at hl 0 rfl) ?_
  refine sk_contI (sk_runV (As := []) (rest := [.int (nI (sk_sl.getD o0 0))]) C (c_J0_coder_7d493 g l o0 q0 M rfl) yo_J0_coder_7d493 kw_676 (vk_recv hE.2.2.2.2.1 q0 hS) (by decide) hM hS hl.1 rfl rfl (Nat.le_of_ble_eq_true rfl) dJ0_length_8abf5_6) hS (fun H locs hM hS => ?_)
  refine W.eq (g2 := F0 m 9 ls [.int 0, .int (nI (sk_sl.getD o0 0))]) rfl ?_
  refine lv_ishr hx hb dJ0_length_8abf5_9 ?_
  exact sk_iret C hM hS ⟨h, rfl⟩ dJ0_length_8abf5_10
theorem dJ0_isLatin1_aae02_0 : decode cJ0_isLatin1_aae02 0 = .ok (.getstatic 38, 3) := by decide +kernel
theorem dJ0_isLatin1_aae02_3 : decode cJ0_isLatin1_aae02 3 = .ok (.ifCond .eq 14, 3) := by decide +kernel
theorem dJ0_isLatin1_aae02_6 : decode cJ0_isLatin1_aae02 6 = .ok (.aload_n 0, 1) := by decide +kernel
theorem dJ0_isLatin1_aae02_7 : decode cJ0_isLatin1_aae02 7 = .ok (.getfield 15, 3) := by decide +kernel
theorem dJ0_isLatin1_aae02_10 : decode cJ0_isLatin1_aae02 10 = .ok (.ifCond .ne 7, 3) := by decide +kernel
theorem dJ0_isLatin1_aae02_13 : decode cJ0_isLatin1_aae02 13 = .ok (.iconst 1, 1) := by decide +kernel
theorem dJ0_isLatin1_aae02_14 : decode cJ0_isLatin1_aae02 14 = .ok (.goto 4, 3) := by decide +kernel
theorem dJ0_isLatin1_aae02_17 : decode cJ0_isLatin1_aae02 17 = .ok (.iconst 0, 1) := by decide +kernel
theorem dJ0_isLatin1_aae02_18 : decode cJ0_isLatin1_aae02 18 = .ok (.ireturn, 1) := by decide +kernel
set_option maxHeartbeats 4000000 in
set_option maxRecDepth 100000 in
theorem c_J0_isLatin1_aae02 (g : sk_G) (l : Launch) (o0 : Nat) (q0 : o0 < 14) (M : sk_M) {rr : Int32} (h : f_J0_isLatin1_aae02 o0 = rr) : sk_MI g l yJ0_isLatin1_aae02 cJ0_isLatin1_aae02 1 (some .boolean) 1 [.ref (sk_aK g o0)] M rr M := by
  refine sk_go [(0, .ref (sk_aK g o0))] (by decide) (Nat.le_of_ble_eq_true rfl) rfl ?_
  intro p e s m av below meth c C ls hl hM hS
  obtain ⟨hx, hb, hml, hown, hts, hK, hE, hr, hlocks⟩ := id C
  rw [f_J0_isLatin1_aae02] at h
  refine va_gets hx hb hE.2.2.1 hS hown (hts _ kw_680) (fun _ h9 => h9) dJ0_isLatin1_aae02_0 ?_
  refine lv_if_eq hx hb dJ0_isLatin1_aae02_3 rfl (fun hc => absurd hc (by decide)) (fun hc => ?_)
  refine lv_aload_n hx hb dJ0_isLatin1_aae02_6 rfl (lv_at hl 0 rfl) ?_
  refine vk_getf hx hb (hE.2.2.2.2.1.1 o0 q0).2.1 hS hown (hts _ kw_1459) (fun _ h9 => h9) dJ0_isLatin1_aae02_7 ?_
  refine lv_if_ne hx hb dJ0_isLatin1_aae02_10 rfl (fun hc => absurd (by decide) hc) (fun hc => ?_)
  refine lv_iconst (v := 1) hx hb dJ0_isLatin1_aae02_13 (by decide) ?_
  refine lv_goto hx hb dJ0_isLatin1_aae02_14 rfl ?_
  exact sk_zret C hM hS (sk_nz (Or.inr rfl)) ⟨h, rfl⟩ dJ0_isLatin1_aae02_18
theorem dJ3_checkIndex_8e157_0 : decode cJ3_checkIndex_8e157 0 = .ok (.iload_n 0, 1) := by decide +kernel
theorem dJ3_checkIndex_8e157_1 : decode cJ3_checkIndex_8e157 1 = .ok (.ifCond .lt 8, 3) := by decide +kernel
theorem dJ3_checkIndex_8e157_4 : decode cJ3_checkIndex_8e157 4 = .ok (.iload_n 0, 1) := by decide +kernel
theorem dJ3_checkIndex_8e157_5 : decode cJ3_checkIndex_8e157 5 = .ok (.iload_n 1, 1) := by decide +kernel
theorem dJ3_checkIndex_8e157_6 : decode cJ3_checkIndex_8e157 6 = .ok (.if_icmp .lt 10, 3) := by decide +kernel
theorem dJ3_checkIndex_8e157_9 : decode cJ3_checkIndex_8e157 9 = .ok (.aload_n 2, 1) := by decide +kernel
theorem dJ3_checkIndex_8e157_10 : decode cJ3_checkIndex_8e157 10 = .ok (.iload_n 0, 1) := by decide +kernel
theorem dJ3_checkIndex_8e157_11 : decode cJ3_checkIndex_8e157 11 = .ok (.iload_n 1, 1) := by decide +kernel
theorem dJ3_checkIndex_8e157_12 : decode cJ3_checkIndex_8e157 12 = .ok (.invokestatic 95, 3) := by decide +kernel
theorem dJ3_checkIndex_8e157_15 : decode cJ3_checkIndex_8e157 15 = .ok (.athrow, 1) := by decide +kernel
theorem dJ3_checkIndex_8e157_16 : decode cJ3_checkIndex_8e157 16 = .ok (.iload_n 0, 1) := by decide +kernel
theorem dJ3_checkIndex_8e157_17 : decode cJ3_checkIndex_8e157 17 = .ok (.ireturn, 1) := by decide +kernel
set_option maxHeartbeats 4000000 in
set_option maxRecDepth 100000 in
theorem c_J3_checkIndex_8e157 (g : sk_G) (l : Launch) (a0 : Int32) (a1 : Int32) (u2 : Option Nat) (M : sk_M) {rr : Int32} (h : f_J3_checkIndex_8e157 a0 a1 M = some rr) : sk_MI g l yJ3_checkIndex_8e157 cJ3_checkIndex_8e157 3 (some .int) 1 [.int a0, .int a1, (va_rf u2)] M rr M := by
  cases u2 with
  | none =>
    refine sk_go [(0, .int a0), (1, .int a1), (2, (va_rf none))] (by decide) (Nat.le_of_ble_eq_true rfl) rfl ?_
    intro p e s m av below meth c C ls hl hM hS
    obtain ⟨hx, hb, hml, hown, hts, hK, hE, hr, hlocks⟩ := id C
    rw [f_J3_checkIndex_8e157] at h
    refine lv_iload_n hx hb dJ3_checkIndex_8e157_0 rfl (lv_at hl 0 rfl) ?_
    refine lv_if_lt hx hb dJ3_checkIndex_8e157_1 rfl (fun hc => ?_) (fun hc => ?_)
    · have h := sk_pos h hc
      cases h
    · have h := sk_neg h hc
      refine lv_iload_n hx hb dJ3_checkIndex_8e157_4 rfl (lv_at hl 0 rfl) ?_
      refine lv_iload_n hx hb dJ3_checkIndex_8e157_5 rfl (lv_at hl 1 rfl) ?_
      refine lv_icmp_lt hx hb dJ3_checkIndex_8e157_6 rfl (fun hc => ?_) (fun hc => ?_)
      · have h := sk_pos h hc
        refine lv_iload_n hx hb dJ3_checkIndex_8e157_16 rfl (lv_at hl 0 rfl) ?_
        exact sk_iret C hM hS ⟨Option.some.inj h, rfl⟩ dJ3_checkIndex_8e157_17
      · have h := sk_neg h hc
        cases h
  | some u2 =>
    refine sk_go [(0, .int a0), (1, .int a1), (2, (va_rf (some u2)))] (by decide) (Nat.le_of_ble_eq_true rfl) rfl ?_
    intro p e s m av below meth c C ls hl hM hS
    obtain ⟨hx, hb, hml, hown, hts, hK, hE, hr, hlocks⟩ := id C
    rw [f_J3_checkIndex_8e157] at h
    refine lv_iload_n hx hb dJ3_checkIndex_8e157_0 rfl (lv_at hl 0 rfl) ?_
    refine lv_if_lt hx hb dJ3_checkIndex_8e157_1 rfl (fun hc => ?_) (fun hc => ?_)
    · have h := sk_pos h hc
      cases h
    · have h := sk_neg h hc
      refine lv_iload_n hx hb dJ3_checkIndex_8e157_4 rfl (lv_at hl 0 rfl) ?_
      refine lv_iload_n hx hb dJ3_checkIndex_8e157_5 rfl (lv_at hl 1 rfl) ?_
      refine lv_icmp_lt hx hb dJ3_checkIndex_8e157_6 rfl (fun hc => ?_) (fun hc => ?_)
      · have h := sk_pos h hc
        refine lv_iload_n hx hb dJ3_checkIndex_8e157_16 rfl (lv_at hl 0 rfl) ?_
        exact sk_iret C hM hS ⟨Option.some.inj h, rfl⟩ dJ3_checkIndex_8e157_17
      · have h := sk_neg h hc
        cases h
theorem dJ0_checkIndex_df160_0 : decode cJ0_checkIndex_df160 0 = .ok (.iload_n 0, 1) := by decide +kernel
theorem dJ0_checkIndex_df160_1 : decode cJ0_checkIndex_df160 1 = .ok (.iload_n 1, 1) := by decide +kernel
theorem dJ0_checkIndex_df160_2 : decode cJ0_checkIndex_df160 2 = .ok (.getstatic 1053, 3) := by decide +kernel
theorem dJ0_checkIndex_df160_5 : decode cJ0_checkIndex_df160 5 = .ok (.invokestatic 1059, 3) := by decide +kernel
theorem dJ0_checkIndex_df160_8 : decode cJ0_checkIndex_df160 8 = .ok (.pop, 1) := by decide +kernel
theorem dJ0_checkIndex_df160_9 : decode cJ0_checkIndex_df160 9 = .ok (.return_, 1) := by decide +kernel
set_option maxHeartbeats 4000000 in
set_option maxRecDepth 100000 in
theorem c_J0_checkIndex_df160 (g : sk_G) (l : Launch) (a0 : Int32) (a1 : Int32) (M : sk_M)  (h : f_J0_checkIndex_df160 a0 a1 M = some ()) : sk_MV g l yJ0_checkIndex_df160 cJ0_checkIndex_df160 2 none 2 [.int a0, .int a1] M M := by
  refine sk_go [(0, .int a0), (1, .int a1)] (by decide) (Nat.le_of_ble_eq_true rfl) rfl ?_
  intro p e s m av below meth c C ls hl hM hS
  obtain ⟨hx, hb, hml, hown, hts, hK, hE, hr, hlocks⟩ := id C
  rw [f_J0_checkIndex_df160] at h
  refine lv_iload_n hx hb dJ0_checkIndex_df160_0 rfl (lv_at hl 0 rfl) ?_
  refine lv_iload_n hx hb dJ0_checkIndex_df160_1 rfl (lv_at hl 1 rfl) ?_
  obtain ⟨u_1, hu_1⟩ : ∃ v : Option Nat, va_Z "jdk/internal/util/Preconditions" "SIOOBE_FORMATTER" "Ljava/util/function/BiFunction;" (va_rf v) (sk_A g) s s.heap := hE.2.2.2.1.elim (fun q => ⟨none, q⟩) (fun ⟨t, q⟩ => ⟨some t, q⟩)
  refine va_gets hx hb hu_1 hS hown (hts _ kw_696) (fun _ h9 => h9) dJ0_checkIndex_df160_2 ?_
  obtain ⟨x_2, h_3, h⟩ := sk_b1E h
  refine sk_contI (sk_runS (As := [.int a0, .int a1, (va_rf u_1)]) (rest := []) C (c_J3_checkIndex_8e157 g l a0 a1 u_1 M h_3) yo_J3_checkIndex_8e157 kw_698 (by decide) hM hS hl.1 rfl rfl (Nat.le_of_ble_eq_true rfl) dJ0_checkIndex_df160_5) hS (fun H locs hM hS => ?_)
  refine lv_pop hx hb dJ0_checkIndex_df160_8 rfl ?_
  exact sk_vret C hM hS rfl dJ0_checkIndex_df160_9
theorem dJ1_charAt_3b067_0 : decode cJ1_charAt_3b067 0 = .ok (.iload_n 1, 1) := by decide +kernel
theorem dJ1_charAt_3b067_1 : decode cJ1_charAt_3b067 1 = .ok (.aload_n 0, 1) := by decide +kernel
theorem dJ1_charAt_3b067_2 : decode cJ1_charAt_3b067 2 = .ok (.arraylength, 1) := by decide +kernel
theorem dJ1_charAt_3b067_3 : decode cJ1_charAt_3b067 3 = .ok (.invokestatic 9, 3) := by decide +kernel
theorem dJ1_charAt_3b067_6 : decode cJ1_charAt_3b067 6 = .ok (.aload_n 0, 1) := by decide +kernel
theorem dJ1_charAt_3b067_7 : decode cJ1_charAt_3b067 7 = .ok (.iload_n 1, 1) := by decide +kernel
theorem dJ1_charAt_3b067_8 : decode cJ1_charAt_3b067 8 = .ok (.baload, 1) := by decide +kernel
theorem dJ1_charAt_3b067_9 : decode cJ1_charAt_3b067 9 = .ok (.sipush 255, 3) := by decide +kernel
theorem dJ1_charAt_3b067_12 : decode cJ1_charAt_3b067 12 = .ok (.iand, 1) := by decide +kernel
theorem dJ1_charAt_3b067_13 : decode cJ1_charAt_3b067 13 = .ok (.i2c, 1) := by decide +kernel
theorem dJ1_charAt_3b067_14 : decode cJ1_charAt_3b067 14 = .ok (.ireturn, 1) := by decide +kernel
theorem sk_i2c_n (x : Int32) : narrow .char (.int (sk_i2c x)) = .int (sk_i2c x) := by
  show Value.int _ = Value.int _
  unfold sk_i2c
  congr 1
  rw [show ((x.toUInt32 % 65536).toInt32).toUInt32 = x.toUInt32 % 65536 from rfl]
  congr 1
  apply UInt32.toNat_inj.mp
  simp [UInt32.toNat_mod]
set_option maxHeartbeats 4000000 in
set_option maxRecDepth 100000 in
theorem c_J1_charAt_3b067 (g : sk_G) (l : Launch) (o0 : Nat) (q0 : o0 < 14) (a1 : Int32) (M : sk_M) {rr : Int32} (h : f_J1_charAt_3b067 o0 a1 M = some rr) : sk_MI g l yJ1_charAt_3b067 cJ1_charAt_3b067 2 (some .char) 3 [.ref (sk_aV g o0), .int a1] M rr M := by
  refine sk_go [(0, .ref (sk_aV g o0)), (1, .int a1)] (by decide) (Nat.le_of_ble_eq_true rfl) rfl ?_
  intro p e s m av below meth c C ls hl hM hS
  obtain ⟨hx, hb, hml, hown, hts, hK, hE, hr, hlocks⟩ := id C
  rw [f_J1_charAt_3b067] at h
  refine lv_iload_n hx hb dJ1_charAt_3b067_0 rfl (lv_at hl 1 rfl) ?_
  refine lv_aload_n hx hb dJ1_charAt_3b067_1 rfl (lv_at hl 0 rfl) ?_
  refine va_tlen hx hb (hE.2.2.2.2.1.1 o0 q0).2.2.2 hS (v := (nI (sk_sl.getD o0 0))) rfl dJ1_charAt_3b067_2 ?_
  obtain ⟨_, h_1, h⟩ := sk_b1E h
  refine sk_contV (sk_runS (As := [.int a1, .int (nI (sk_sl.getD o0 0))]) (rest := []) C (c_J0_checkIndex_df160 g l a1 (nI (sk_sl.getD o0 0)) M h_1) yo_J0_checkIndex_df160 kw_693 (by decide) hM hS hl.1 rfl rfl (Nat.le_of_ble_eq_true rfl) dJ1_charAt_3b067_3) hS (fun H locs hM hS => ?_)
  refine lv_aload_n hx hb dJ1_charAt_3b067_6 rfl (lv_at hl 0 rfl) ?_
  refine lv_iload_n hx hb dJ1_charAt_3b067_7 rfl (lv_at hl 1 rfl) ?_
  obtain ⟨i_2, h⟩ := sk_chkE h
  refine va_tb hx hb (hE.2.2.2.2.1.1 o0 q0).2.2.2 hS (sk_in_vp i_2) rfl dJ1_charAt_3b067_8 ?_
  refine lv_sipush (v := 255) hx hb dJ1_charAt_3b067_9 (by decide) ?_
  refine lv_iand hx hb dJ1_charAt_3b067_12 ?_
  refine lv_i2c (v := (sk_i2c (((sk_sb.getD o0 []).getD a1.toNatClampNeg 0) &&& 255))) hx hb dJ1_charAt_3b067_13 rfl ?_
  exact sk_zret C hM hS (sk_i2c_n _) ⟨Option.some.inj h, rfl⟩ dJ1_charAt_3b067_14
theorem dJ0_charAt_5068e_0 : decode cJ0_charAt_5068e 0 = .ok (.aload_n 0, 1) := by decide +kernel
theorem dJ0_charAt_5068e_1 : decode cJ0_charAt_5068e 1 = .ok (.invokevirtual 492, 3) := by decide +kernel
theorem dJ0_charAt_5068e_4 : decode cJ0_charAt_5068e 4 = .ok (.ifCond .eq 12, 3) := by decide +kernel
theorem dJ0_charAt_5068e_7 : decode cJ0_charAt_5068e 7 = .ok (.aload_n 0, 1) := by decide +kernel
theorem dJ0_charAt_5068e_8 : decode cJ0_charAt_5068e 8 = .ok (.getfield 9, 3) := by decide +kernel
theorem dJ0_charAt_5068e_11 : decode cJ0_charAt_5068e 11 = .ok (.iload_n 1, 1) := by decide +kernel
theorem dJ0_charAt_5068e_12 : decode cJ0_charAt_5068e 12 = .ok (.invokestatic 495, 3) := by decide +kernel
theorem dJ0_charAt_5068e_15 : decode cJ0_charAt_5068e 15 = .ok (.ireturn, 1) := by decide +kernel
theorem dJ0_charAt_5068e_16 : decode cJ0_charAt_5068e 16 = .ok (.aload_n 0, 1) := by decide +kernel
theorem dJ0_charAt_5068e_17 : decode cJ0_charAt_5068e 17 = .ok (.getfield 9, 3) := by decide +kernel
theorem dJ0_charAt_5068e_20 : decode cJ0_charAt_5068e 20 = .ok (.iload_n 1, 1) := by decide +kernel
theorem dJ0_charAt_5068e_21 : decode cJ0_charAt_5068e 21 = .ok (.invokestatic 498, 3) := by decide +kernel
theorem dJ0_charAt_5068e_24 : decode cJ0_charAt_5068e 24 = .ok (.ireturn, 1) := by decide +kernel
theorem fn_J1_charAt_3b067 {o : Nat} {i x : Int32} {M : sk_M} (h : f_J1_charAt_3b067 o i M = some x) : narrow .char (.int x) = .int x := by
  rw [f_J1_charAt_3b067] at h
  obtain ⟨_, _, h⟩ := sk_b1E h
  obtain ⟨_, h⟩ := sk_chkE h
  cases h
  exact sk_i2c_n _
set_option maxHeartbeats 4000000 in
set_option maxRecDepth 100000 in
theorem c_J0_charAt_5068e (g : sk_G) (l : Launch) (o0 : Nat) (q0 : o0 < 14) (a1 : Int32) (M : sk_M) {rr : Int32} (h : f_J0_charAt_5068e o0 a1 M = some rr) : sk_MI g l yJ0_charAt_5068e cJ0_charAt_5068e 2 (some .char) 4 [.ref (sk_aK g o0), .int a1] M rr M := by
  refine sk_go [(0, .ref (sk_aK g o0)), (1, .int a1)] (by decide) (Nat.le_of_ble_eq_true rfl) rfl ?_
  intro p e s m av below meth c C ls hl hM hS
  obtain ⟨hx, hb, hml, hown, hts, hK, hE, hr, hlocks⟩ := id C
  rw [f_J0_charAt_5068e] at h
  refine lv_aload_n hx hb dJ0_charAt_5068e_0 rfl (lv_at hl 0 rfl) ?_
  refine sk_contI (sk_runV (As := []) (rest := []) C (c_J0_isLatin1_aae02 g l o0 q0 M rfl) yo_J0_isLatin1_aae02 kw_686 (vk_recv hE.2.2.2.2.1 q0 hS) (by decide) hM hS hl.1 rfl rfl (Nat.le_of_ble_eq_true rfl) dJ0_charAt_5068e_1) hS (fun H locs hM hS => ?_)
  refine W.eq (g2 := F0 m 4 ls [.int 1]) rfl ?_
  refine lv_if_eq hx hb dJ0_charAt_5068e_4 rfl (fun hc => absurd hc (by decide)) (fun hc => ?_)
  refine lv_aload_n hx hb dJ0_charAt_5068e_7 rfl (lv_at hl 0 rfl) ?_
  refine vk_getf hx hb (hE.2.2.2.2.1.1 o0 q0).2.2.1 hS hown (hts _ kw_1458) (fun _ h9 => h9) dJ0_charAt_5068e_8 ?_
  refine lv_iload_n hx hb dJ0_charAt_5068e_11 rfl (lv_at hl 1 rfl) ?_
  obtain ⟨x_2, h_3, h⟩ := sk_b1E h
  refine sk_contI (sk_runS (As := [.ref (sk_aV g o0), .int a1]) (rest := []) C (c_J1_charAt_3b067 g l o0 q0 a1 M h_3) yo_J1_charAt_3b067 kw_690 (by decide) hM hS hl.1 rfl rfl (Nat.le_of_ble_eq_true rfl) dJ0_charAt_5068e_12) hS (fun H locs hM hS => ?_)
  exact sk_zret C hM hS (fn_J1_charAt_3b067 h_3) ⟨Option.some.inj h, rfl⟩ dJ0_charAt_5068e_15
theorem dX0_isHere_0 : decode cX0_isHere 0 = .ok (.aload_n 0, 1) := by decide +kernel
theorem dX0_isHere_1 : decode cX0_isHere 1 = .ok (.getfield 25, 3) := by decide +kernel
theorem dX0_isHere_4 : decode cX0_isHere 4 = .ok (.aload_n 0, 1) := by decide +kernel
theorem dX0_isHere_5 : decode cX0_isHere 5 = .ok (.getfield 51, 3) := by decide +kernel
theorem dX0_isHere_8 : decode cX0_isHere 8 = .ok (.isub, 1) := by decide +kernel
theorem dX0_isHere_9 : decode cX0_isHere 9 = .ok (.aload_n 1, 1) := by decide +kernel
theorem dX0_isHere_10 : decode cX0_isHere 10 = .ok (.invokevirtual 71, 3) := by decide +kernel
theorem dX0_isHere_13 : decode cX0_isHere 13 = .ok (.if_icmp .eq 5, 3) := by decide +kernel
theorem dX0_isHere_16 : decode cX0_isHere 16 = .ok (.iconst 0, 1) := by decide +kernel
theorem dX0_isHere_17 : decode cX0_isHere 17 = .ok (.ireturn, 1) := by decide +kernel
theorem dX0_isHere_18 : decode cX0_isHere 18 = .ok (.iconst 0, 1) := by decide +kernel
theorem dX0_isHere_19 : decode cX0_isHere 19 = .ok (.istore_n 2, 1) := by decide +kernel
theorem dX0_isHere_20 : decode cX0_isHere 20 = .ok (.iload_n 2, 1) := by decide +kernel
theorem dX0_isHere_21 : decode cX0_isHere 21 = .ok (.aload_n 1, 1) := by decide +kernel
theorem dX0_isHere_22 : decode cX0_isHere 22 = .ok (.invokevirtual 71, 3) := by decide +kernel
theorem dX0_isHere_25 : decode cX0_isHere 25 = .ok (.if_icmp .ge 30, 3) := by decide +kernel
theorem dX0_isHere_28 : decode cX0_isHere 28 = .ok (.aload_n 0, 1) := by decide +kernel
theorem dX0_isHere_29 : decode cX0_isHere 29 = .ok (.getfield 9, 3) := by decide +kernel
theorem dX0_isHere_32 : decode cX0_isHere 32 = .ok (.aload_n 0, 1) := by decide +kernel
theorem dX0_isHere_33 : decode cX0_isHere 33 = .ok (.getfield 51, 3) := by decide +kernel
theorem dX0_isHere_36 : decode cX0_isHere 36 = .ok (.iload_n 2, 1) := by decide +kernel
theorem dX0_isHere_37 : decode cX0_isHere 37 = .ok (.iadd, 1) := by decide +kernel
theorem dX0_isHere_38 : decode cX0_isHere 38 = .ok (.iaload, 1) := by decide +kernel
theorem dX0_isHere_39 : decode cX0_isHere 39 = .ok (.aload_n 1, 1) := by decide +kernel
theorem dX0_isHere_40 : decode cX0_isHere 40 = .ok (.iload_n 2, 1) := by decide +kernel
theorem dX0_isHere_41 : decode cX0_isHere 41 = .ok (.invokevirtual 75, 3) := by decide +kernel
theorem dX0_isHere_44 : decode cX0_isHere 44 = .ok (.if_icmp .eq 5, 3) := by decide +kernel
theorem dX0_isHere_47 : decode cX0_isHere 47 = .ok (.iconst 0, 1) := by decide +kernel
theorem dX0_isHere_48 : decode cX0_isHere 48 = .ok (.ireturn, 1) := by decide +kernel
theorem dX0_isHere_49 : decode cX0_isHere 49 = .ok (.iinc 2 1, 3) := by decide +kernel
theorem dX0_isHere_52 : decode cX0_isHere 52 = .ok (.goto (-32), 3) := by decide +kernel
theorem dX0_isHere_55 : decode cX0_isHere 55 = .ok (.iconst 1, 1) := by decide +kernel
theorem dX0_isHere_56 : decode cX0_isHere 56 = .ok (.ireturn, 1) := by decide +kernel
set_option maxHeartbeats 4000000 in
set_option maxRecDepth 100000 in
theorem w_X0_isHere_L20 {g : sk_G} {l : Launch} {p : Program} {e : Env} {s : State} {m : MethodId} {av : Array Value} {below : List Frame} {meth : Method} {c : Code} (C : sk_C g p s m av meth c cX0_isHere 3 RX0 (some .boolean)) (o1 : Nat) (q1 : o1 < 14) (M : sk_M) {rr : Int32} :
    ∀ (n : Nat) (a2 : Int32) (H : Heap) (locs : List Loc) (ls : Array Slot), lv_has ls 3 [(0, .ref (sk_ad g 62)), (1, .ref (sk_aK g o1)), (2, .int a2)] → sk_P g M H → va_S (sk_A g) s.heap H locs → ∀ {out : (Int32) ⊕ (Unit)}, f_X0_isHere_L20 o1 M n a2 = some out → (∀ r, out = Sum.inl r → some r = some rr) → (∀  (H : Heap) (locs : List Loc) (ls : Array Slot), some (Sum.inr ()) = some out → lv_has ls 3 [] → sk_P g M H → va_S (sk_A g) s.heap H locs → W p l e (sk_rm 5) s m av below meth c H locs 0 0 (MQ below (sk_QI g rr M) av s 0 0 (sk_A g)) (F0 m 55 ls [])) → W p l e (sk_rm 5) s m av below meth c H locs 0 0 (MQ below (sk_QI g rr M) av s 0 0 (sk_A g)) (F0 m 20 ls []) := by
  obtain ⟨hx, hb, hml, hown, hts, hK, hE, hr, hlocks⟩ := id C
  intro n
  induction n with
  | zero =>
    intro a2 H locs ls hl hM hS out h
    cases h
  | succ n ih =>
    intro a2 H locs ls hl hM hS out h kr kx
    rw [f_X0_isHere_L20] at h
    refine lv_iload_n hx hb dX0_isHere_20 rfl (lv_at hl 2 rfl) ?_
    refine lv_aload_n hx hb dX0_isHere_21 rfl (lv_at hl 1 rfl) ?_
    refine sk_contI (sk_runV (As := []) (rest := [.int a2]) C (c_J0_length_8abf5 g l o1 q1 M rfl) yo_J0_length_8abf5 kw_672 (vk_recv hE.2.2.2.2.1 q1 hS) (by decide) hM hS hl.1 rfl rfl (Nat.le_of_ble_eq_true rfl) dX0_isHere_22) hS (fun H locs hM hS => ?_)
    refine lv_icmp_ge hx hb dX0_isHere_25 rfl (fun hc => ?_) (fun hc => ?_)
    · have h := sk_pos h hc
      exact kx  _ _ _ h (lv_sub hl [] rfl) hM hS
    · have h := sk_neg h hc
      refine lv_aload_n hx hb dX0_isHere_28 rfl (lv_at hl 0 rfl) ?_
      refine sk_getR (o := 62) (ci := 0) (j := 0) (t := 63) C hM rfl rfl (by decide) rfl rfl kw_120 dX0_isHere_29 ?_
      refine lv_aload_n hx hb dX0_isHere_32 rfl (lv_at hl 0 rfl) ?_
      refine sk_getI (o := 62) (ci := 0) (j := 3) C hM rfl rfl (by decide) rfl kw_125 dX0_isHere_33 ?_
      refine lv_iload_n hx hb dX0_isHere_36 rfl (lv_at hl 2 rfl) ?_
      refine lv_iadd hx hb dX0_isHere_37 ?_
      obtain ⟨i_3, h⟩ := sk_chkE h
      refine sk_iald (o := 63) C hM rfl i_3 dX0_isHere_38 ?_
      refine lv_aload_n hx hb dX0_isHere_39 rfl (lv_at hl 1 rfl) ?_
      refine lv_iload_n hx hb dX0_isHere_40 rfl (lv_at hl 2 rfl) ?_
      obtain ⟨x_4, h_5, h⟩ := sk_b1E h
      refine sk_contI (sk_runV (As := [.int a2]) (rest := [.int (M 63 ((M 62 3) + a2).toNatClampNeg)]) C (c_J0_charAt_5068e g l o1 q1 a2 M h_5) yo_J0_charAt_5068e kw_682 (vk_recv hE.2.2.2.2.1 q1 hS) (by decide) hM hS hl.1 rfl rfl (Nat.le_of_ble_eq_true rfl) dX0_isHere_41) hS (fun H locs hM hS => ?_)
      refine lv_icmp_eq hx hb dX0_isHere_44 rfl (fun hc => ?_) (fun hc => ?_)
      · have h := sk_pos h hc
        refine lv_iinc (v := (a2 + 1)) (lv' := [(2, .int (a2 + 1)), (0, .ref (sk_ad g 62)), (1, .ref (sk_aK g o1))]) hx hb dX0_isHere_49 hl (k := 2) rfl rfl (by decide) rfl (fun ls hl => ?_)
        refine lv_goto hx hb dX0_isHere_52 rfl ?_
        exact ih (a2 + 1) _ _ _ (lv_sub hl [1, 2, 0] rfl) hM hS h kr kx
      · have h := sk_neg h hc
        refine lv_iconst (v := 0) hx hb dX0_isHere_47 (by decide) ?_
        have h := kr _ (Option.some.inj h).symm
        exact sk_zret C hM hS (sk_nz (Or.inl rfl)) ⟨Option.some.inj h, rfl⟩ dX0_isHere_48
set_option maxHeartbeats 4000000 in
set_option maxRecDepth 100000 in
theorem c_X0_isHere (g : sk_G) (l : Launch) (o1 : Nat) (q1 : o1 < 14) (M : sk_M) {rr : Int32} (h : f_X0_isHere o1 M = some rr) : sk_MI g l yX0_isHere cX0_isHere 3 (some .boolean) 5 [.ref (sk_ad g 62), .ref (sk_aK g o1)] M rr M := by
  refine sk_go [(0, .ref (sk_ad g 62)), (1, .ref (sk_aK g o1))] (by decide) (Nat.le_of_ble_eq_true rfl) rfl ?_
  intro p e s m av below meth c C ls hl hM hS
  obtain ⟨hx, hb, hml, hown, hts, hK, hE, hr, hlocks⟩ := id C
  rw [f_X0_isHere] at h
  refine lv_aload_n hx hb dX0_isHere_0 rfl (lv_at hl 0 rfl) ?_
  refine sk_getI (o := 62) (ci := 0) (j := 4) C hM rfl rfl (by decide) rfl kw_126 dX0_isHere_1 ?_
  refine lv_aload_n hx hb dX0_isHere_4 rfl (lv_at hl 0 rfl) ?_
  refine sk_getI (o := 62) (ci := 0) (j := 3) C hM rfl rfl (by decide) rfl kw_125 dX0_isHere_5 ?_
  refine lv_isub hx hb dX0_isHere_8 ?_
  refine lv_aload_n hx hb dX0_isHere_9 rfl (lv_at hl 1 rfl) ?_
  refine sk_contI (sk_runV (As := []) (rest := [.int ((M 62 4) - (M 62 3))]) C (c_J0_length_8abf5 g l o1 q1 M rfl) yo_J0_length_8abf5 kw_672 (vk_recv hE.2.2.2.2.1 q1 hS) (by decide) hM hS hl.1 rfl rfl (Nat.le_of_ble_eq_true rfl) dX0_isHere_10) hS (fun H locs hM hS => ?_)
  refine lv_icmp_eq hx hb dX0_isHere_13 rfl (fun hc => ?_) (fun hc => ?_)
  · have h := sk_pos h hc
    refine lv_iconst (v := 0) hx hb dX0_isHere_18 (by decide) ?_
    refine lv_istore_n (lv' := [(2, .int 0), (0, .ref (sk_ad g 62)), (1, .ref (sk_aK g o1))]) hx hb dX0_isHere_19 rfl hl (by decide) rfl (fun ls hl => ?_)
    obtain ⟨out_7, h_6, kf_8, kg_9⟩ := sk_s0E h
    refine w_X0_isHere_L20 C o1 q1 M sk_FU 0 _ _ _ (lv_sub hl [1, 2, 0] rfl) hM hS h_6 kf_8 (fun  H locs ls he hl hM hS => ?_)
    have h := kg_9  (Option.some.inj he).symm
    refine lv_iconst (v := 1) hx hb dX0_isHere_55 (by decide) ?_
    exact sk_zret C hM hS (sk_nz (Or.inr rfl)) ⟨Option.some.inj h, rfl⟩ dX0_isHere_56
  · have h := sk_neg h hc
    refine lv_iconst (v := 0) hx hb dX0_isHere_16 (by decide) ?_
    exact sk_zret C hM hS (sk_nz (Or.inl rfl)) ⟨Option.some.inj h, rfl⟩ dX0_isHere_17
theorem dX0_keyHere_0 : decode cX0_keyHere 0 = .ok (.aload_n 0, 1) := by decide +kernel
theorem dX0_keyHere_1 : decode cX0_keyHere 1 = .ok (.ldc 61, 2) := by decide +kernel
theorem dX0_keyHere_3 : decode cX0_keyHere 3 = .ok (.invokevirtual 63, 3) := by decide +kernel
theorem dX0_keyHere_6 : decode cX0_keyHere 6 = .ok (.ifCond .eq 5, 3) := by decide +kernel
theorem dX0_keyHere_9 : decode cX0_keyHere 9 = .ok (.iconst 0, 1) := by decide +kernel
theorem dX0_keyHere_10 : decode cX0_keyHere 10 = .ok (.ireturn, 1) := by decide +kernel
theorem dX0_keyHere_11 : decode cX0_keyHere 11 = .ok (.aload_n 0, 1) := by decide +kernel
theorem dX0_keyHere_12 : decode cX0_keyHere 12 = .ok (.ldc 67, 2) := by decide +kernel
theorem dX0_keyHere_14 : decode cX0_keyHere 14 = .ok (.invokevirtual 63, 3) := by decide +kernel
theorem dX0_keyHere_17 : decode cX0_keyHere 17 = .ok (.ifCond .eq 5, 3) := by decide +kernel
theorem dX0_keyHere_20 : decode cX0_keyHere 20 = .ok (.iconst 1, 1) := by decide +kernel
theorem dX0_keyHere_21 : decode cX0_keyHere 21 = .ok (.ireturn, 1) := by decide +kernel
theorem dX0_keyHere_22 : decode cX0_keyHere 22 = .ok (.aload_n 0, 1) := by decide +kernel
theorem dX0_keyHere_23 : decode cX0_keyHere 23 = .ok (.ldc 69, 2) := by decide +kernel
theorem dX0_keyHere_25 : decode cX0_keyHere 25 = .ok (.invokevirtual 63, 3) := by decide +kernel
theorem dX0_keyHere_28 : decode cX0_keyHere 28 = .ok (.ifCond .eq 7, 3) := by decide +kernel
theorem dX0_keyHere_31 : decode cX0_keyHere 31 = .ok (.iconst 2, 1) := by decide +kernel
theorem dX0_keyHere_32 : decode cX0_keyHere 32 = .ok (.goto 4, 3) := by decide +kernel
theorem dX0_keyHere_35 : decode cX0_keyHere 35 = .ok (.iconst (-1), 1) := by decide +kernel
theorem dX0_keyHere_36 : decode cX0_keyHere 36 = .ok (.ireturn, 1) := by decide +kernel
set_option maxHeartbeats 4000000 in
set_option maxRecDepth 100000 in
theorem c_X0_keyHere (g : sk_G) (l : Launch)  (M : sk_M) {rr : Int32} (h : f_X0_keyHere M = some rr) : sk_MI g l yX0_keyHere cX0_keyHere 1 (some .int) 6 [.ref (sk_ad g 62)] M rr M := by
  refine sk_go [(0, .ref (sk_ad g 62))] (by decide) (Nat.le_of_ble_eq_true rfl) rfl ?_
  intro p e s m av below meth c C ls hl hM hS
  obtain ⟨hx, hb, hml, hown, hts, hK, hE, hr, hlocks⟩ := id C
  rw [f_X0_keyHere] at h
  refine lv_aload_n hx hb dX0_keyHere_0 rfl (lv_at hl 0 rfl) ?_
  refine va_ldcS (q := sk_aK g 0) hx hb hown (hE.2.2.2.2.2 0 (by decide)) dX0_keyHere_1 ?_
  obtain ⟨x_1, h_2, h⟩ := sk_b1E h
  refine sk_contI (sk_runV (As := [.ref (sk_aK g 0)]) (rest := []) C (c_X0_isHere g l 0 (by decide) M h_2) yo_X0_isHere kw_668 (sk_recv (ci := 0) C hM rfl rfl) (by decide) hM hS hl.1 rfl rfl (Nat.le_of_ble_eq_true rfl) dX0_keyHere_3) hS (fun H locs hM hS => ?_)
  refine lv_if_eq hx hb dX0_keyHere_6 rfl (fun hc => ?_) (fun hc => ?_)
  · have h := sk_pos h hc
    refine lv_aload_n hx hb dX0_keyHere_11 rfl (lv_at hl 0 rfl) ?_
    refine va_ldcS (q := sk_aK g 1) hx hb hown (hE.2.2.2.2.2 1 (by decide)) dX0_keyHere_12 ?_
    obtain ⟨x_3, h_4, h⟩ := sk_b1E h
    refine sk_contI (sk_runV (As := [.ref (sk_aK g 1)]) (rest := []) C (c_X0_isHere g l 1 (by decide) M h_4) yo_X0_isHere kw_668 (sk_recv (ci := 0) C hM rfl rfl) (by decide) hM hS hl.1 rfl rfl (Nat.le_of_ble_eq_true rfl) dX0_keyHere_14) hS (fun H locs hM hS => ?_)
    refine lv_if_eq hx hb dX0_keyHere_17 rfl (fun hc => ?_) (fun hc => ?_)
    · have h := sk_pos h hc
      refine lv_aload_n hx hb dX0_keyHere_22 rfl (lv_at hl 0 rfl) ?_
      refine va_ldcS (q := sk_aK g 2) hx hb hown (hE.2.2.2.2.2 2 (by decide)) dX0_keyHere_23 ?_
      obtain ⟨x_5, h_6, h⟩ := sk_b1E h
      refine sk_contI (sk_runV (As := [.ref (sk_aK g 2)]) (rest := []) C (c_X0_isHere g l 2 (by decide) M h_6) yo_X0_isHere kw_668 (sk_recv (ci := 0) C hM rfl rfl) (by decide) hM hS hl.1 rfl rfl (Nat.le_of_ble_eq_true rfl) dX0_keyHere_25) hS (fun H locs hM hS => ?_)
      have J : ∀ (vv : Int32) (H : Heap) (locs : List Loc), (if x_5 = 0 then (-1) else 2 : Int32) = vv → sk_P g M H → va_S (sk_A g) s.heap H locs → W p l e (sk_rm 6) s m av below meth c H locs 0 0 (MQ below (sk_QI g rr M) av s 0 0 (sk_A g)) (F0 m 36 ls [.int vv]) := by
        intro vv H locs hvv hM hS
        subst hvv
        exact sk_iret C hM hS ⟨Option.some.inj h, rfl⟩ dX0_keyHere_36
      refine lv_if_eq hx hb dX0_keyHere_28 rfl (fun hc => ?_) (fun hc => ?_)
      · have J := fun vv H locs q => J vv H locs ((if_pos hc).trans q)
        refine lv_iconst (v := (-1)) hx hb dX0_keyHere_35 (by decide) ?_
        exact J _ _ _ rfl hM hS
      · have J := fun vv H locs q => J vv H locs ((if_neg hc).trans q)
        refine lv_iconst (v := 2) hx hb dX0_keyHere_31 (by decide) ?_
        refine lv_goto hx hb dX0_keyHere_32 rfl ?_
        exact J _ _ _ rfl hM hS
    · have h := sk_neg h hc
      refine lv_iconst (v := 1) hx hb dX0_keyHere_20 (by decide) ?_
      exact sk_iret C hM hS ⟨Option.some.inj h, rfl⟩ dX0_keyHere_21
  · have h := sk_neg h hc
    refine lv_iconst (v := 0) hx hb dX0_keyHere_9 (by decide) ?_
    exact sk_iret C hM hS ⟨Option.some.inj h, rfl⟩ dX0_keyHere_10
theorem dX0_signsOf_0 : decode cX0_signsOf 0 = .ok (.iload_n 0, 1) := by decide +kernel
theorem dX0_signsOf_1 : decode cX0_signsOf 1 = .ok (.tableswitch 43 0 3 #[31, 34, 37, 40], 31) := by decide +kernel
theorem dX0_signsOf_32 : decode cX0_signsOf 32 = .ok (.ldc 83, 2) := by decide +kernel
theorem dX0_signsOf_34 : decode cX0_signsOf 34 = .ok (.areturn, 1) := by decide +kernel
theorem dX0_signsOf_35 : decode cX0_signsOf 35 = .ok (.ldc 85, 2) := by decide +kernel
theorem dX0_signsOf_37 : decode cX0_signsOf 37 = .ok (.areturn, 1) := by decide +kernel
theorem dX0_signsOf_38 : decode cX0_signsOf 38 = .ok (.ldc 87, 2) := by decide +kernel
theorem dX0_signsOf_40 : decode cX0_signsOf 40 = .ok (.areturn, 1) := by decide +kernel
theorem dX0_signsOf_41 : decode cX0_signsOf 41 = .ok (.ldc 89, 2) := by decide +kernel
theorem dX0_signsOf_43 : decode cX0_signsOf 43 = .ok (.areturn, 1) := by decide +kernel
theorem dX0_signsOf_44 : decode cX0_signsOf 44 = .ok (.ldc 91, 2) := by decide +kernel
theorem dX0_signsOf_46 : decode cX0_signsOf 46 = .ok (.areturn, 1) := by decide +kernel
set_option maxHeartbeats 4000000 in
set_option maxRecDepth 100000 in
theorem c_X0_signsOf (g : sk_G) (l : Launch) (a0 : Int32) (M : sk_M) {rr : Nat} (h : f_X0_signsOf a0 = rr) : sk_MS g l yX0_signsOf cX0_signsOf 1 (some (.object "java/lang/String")) 1 [.int a0] M rr M := by
  refine sk_go [(0, .int a0)] (by decide) (Nat.le_of_ble_eq_true rfl) rfl ?_
  intro p e s m av below meth c C ls hl hM hS
  obtain ⟨hx, hb, hml, hown, hts, hK, hE, hr, hlocks⟩ := id C
  rw [f_X0_signsOf] at h
  refine lv_iload_n hx hb dX0_signsOf_0 rfl (lv_at hl 0 rfl) ?_
  by_cases hk_1 : a0 = 0
  · refine lv_tableIn (off := 31) hx hb dX0_signsOf_1 (by rw [hk_1]; decide) (by rw [hk_1]; decide) (by rw [hk_1]; rfl) rfl ?_
    have h := sk_pos h hk_1
    refine va_ldcS (q := sk_aK g 3) hx hb hown (hE.2.2.2.2.2 3 (by decide)) dX0_signsOf_32 ?_
    exact sk_sret C hM hS ⟨h, rfl⟩ dX0_signsOf_34
  have h := sk_neg h hk_1
  by_cases hk_2 : a0 = 1
  · refine lv_tableIn (off := 34) hx hb dX0_signsOf_1 (by rw [hk_2]; decide) (by rw [hk_2]; decide) (by rw [hk_2]; rfl) rfl ?_
    have h := sk_pos h hk_2
    refine va_ldcS (q := sk_aK g 4) hx hb hown (hE.2.2.2.2.2 4 (by decide)) dX0_signsOf_35 ?_
    exact sk_sret C hM hS ⟨h, rfl⟩ dX0_signsOf_37
  have h := sk_neg h hk_2
  by_cases hk_3 : a0 = 2
  · refine lv_tableIn (off := 37) hx hb dX0_signsOf_1 (by rw [hk_3]; decide) (by rw [hk_3]; decide) (by rw [hk_3]; rfl) rfl ?_
    have h := sk_pos h hk_3
    refine va_ldcS (q := sk_aK g 5) hx hb hown (hE.2.2.2.2.2 5 (by decide)) dX0_signsOf_38 ?_
    exact sk_sret C hM hS ⟨h, rfl⟩ dX0_signsOf_40
  have h := sk_neg h hk_3
  by_cases hk_4 : a0 = 3
  · refine lv_tableIn (off := 40) hx hb dX0_signsOf_1 (by rw [hk_4]; decide) (by rw [hk_4]; decide) (by rw [hk_4]; rfl) rfl ?_
    have h := sk_pos h hk_4
    refine va_ldcS (q := sk_aK g 6) hx hb hown (hE.2.2.2.2.2 6 (by decide)) dX0_signsOf_41 ?_
    exact sk_sret C hM hS ⟨h, rfl⟩ dX0_signsOf_43
  have h := sk_neg h hk_4
  refine lv_tableOut hx hb dX0_signsOf_1 (by have zhk_1 := sk_tn hk_1 (z := 0) rfl; have zhk_2 := sk_tn hk_2 (z := 1) rfl; have zhk_3 := sk_tn hk_3 (z := 2) rfl; have zhk_4 := sk_tn hk_4 (z := 3) rfl; omega) rfl ?_
  refine va_ldcS (q := sk_aK g 7) hx hb hown (hE.2.2.2.2.2 7 (by decide)) dX0_signsOf_44 ?_
  exact sk_sret C hM hS ⟨h, rfl⟩ dX0_signsOf_46
theorem dJ1_canEncode_9a6ad_0 : decode cJ1_canEncode_9a6ad 0 = .ok (.iload_n 0, 1) := by decide +kernel
theorem dJ1_canEncode_9a6ad_1 : decode cJ1_canEncode_9a6ad 1 = .ok (.ifCond .lt 14, 3) := by decide +kernel
theorem dJ1_canEncode_9a6ad_4 : decode cJ1_canEncode_9a6ad 4 = .ok (.iload_n 0, 1) := by decide +kernel
theorem dJ1_canEncode_9a6ad_5 : decode cJ1_canEncode_9a6ad 5 = .ok (.sipush 255, 3) := by decide +kernel
theorem dJ1_canEncode_9a6ad_8 : decode cJ1_canEncode_9a6ad 8 = .ok (.if_icmp .gt 7, 3) := by decide +kernel
theorem dJ1_canEncode_9a6ad_11 : decode cJ1_canEncode_9a6ad 11 = .ok (.iconst 1, 1) := by decide +kernel
theorem dJ1_canEncode_9a6ad_12 : decode cJ1_canEncode_9a6ad 12 = .ok (.goto 4, 3) := by decide +kernel
theorem dJ1_canEncode_9a6ad_15 : decode cJ1_canEncode_9a6ad 15 = .ok (.iconst 0, 1) := by decide +kernel
theorem dJ1_canEncode_9a6ad_16 : decode cJ1_canEncode_9a6ad 16 = .ok (.ireturn, 1) := by decide +kernel
set_option maxHeartbeats 4000000 in
set_option maxRecDepth 100000 in
theorem c_J1_canEncode_9a6ad (g : sk_G) (l : Launch) (a0 : Int32) (M : sk_M) {rr : Int32} (h : f_J1_canEncode_9a6ad a0 = rr) : sk_MI g l yJ1_canEncode_9a6ad cJ1_canEncode_9a6ad 1 (some .boolean) 1 [.int a0] M rr M := by
  refine sk_go [(0, .int a0)] (by decide) (Nat.le_of_ble_eq_true rfl) rfl ?_
  intro p e s m av below meth c C ls hl hM hS
  obtain ⟨hx, hb, hml, hown, hts, hK, hE, hr, hlocks⟩ := id C
  rw [f_J1_canEncode_9a6ad] at h
  refine lv_iload_n hx hb dJ1_canEncode_9a6ad_0 rfl (lv_at hl 0 rfl) ?_
  have J : ∀ (vv : Int32) (H : Heap) (locs : List Loc), (if a0 < 0 then 0 else (if 255 < a0 then 0 else 1 : Int32) : Int32) = vv → sk_P g M H → va_S (sk_A g) s.heap H locs → W p l e (sk_rm 1) s m av below meth c H locs 0 0 (MQ below (sk_QI g rr M) av s 0 0 (sk_A g)) (F0 m 16 ls [.int vv]) := by
    intro vv H locs hvv hM hS
    subst hvv
    exact sk_zret C hM hS (sk_nz (sk_zi (Or.inl rfl) (sk_zi (Or.inl rfl) (Or.inr rfl)))) ⟨h, rfl⟩ dJ1_canEncode_9a6ad_16
  refine lv_if_lt hx hb dJ1_canEncode_9a6ad_1 rfl (fun hc => ?_) (fun hc => ?_)
  · have J := fun vv H locs q => J vv H locs ((if_pos hc).trans q)
    refine lv_iconst (v := 0) hx hb dJ1_canEncode_9a6ad_15 (by decide) ?_
    exact J _ _ _ rfl hM hS
  · have J := fun vv H locs q => J vv H locs ((if_neg hc).trans q)
    refine lv_iload_n hx hb dJ1_canEncode_9a6ad_4 rfl (lv_at hl 0 rfl) ?_
    refine lv_sipush (v := 255) hx hb dJ1_canEncode_9a6ad_5 (by decide) ?_
    refine lv_icmp_gt hx hb dJ1_canEncode_9a6ad_8 rfl (fun hc => ?_) (fun hc => ?_)
    · have J := fun vv H locs q => J vv H locs ((if_pos hc).trans q)
      refine lv_iconst (v := 0) hx hb dJ1_canEncode_9a6ad_15 (by decide) ?_
      exact J _ _ _ rfl hM hS
    · have J := fun vv H locs q => J vv H locs ((if_neg hc).trans q)
      refine lv_iconst (v := 1) hx hb dJ1_canEncode_9a6ad_11 (by decide) ?_
      refine lv_goto hx hb dJ1_canEncode_9a6ad_12 rfl ?_
      exact J _ _ _ rfl hM hS
theorem dJ1_indexOfChar_4cfef_0 : decode cJ1_indexOfChar_4cfef 0 = .ok (.iload_n 1, 1) := by decide +kernel
theorem dJ1_indexOfChar_4cfef_1 : decode cJ1_indexOfChar_4cfef 1 = .ok (.i2b, 1) := by decide +kernel
theorem dJ1_indexOfChar_4cfef_2 : decode cJ1_indexOfChar_4cfef 2 = .ok (.istore 4, 2) := by decide +kernel
theorem dJ1_indexOfChar_4cfef_4 : decode cJ1_indexOfChar_4cfef 4 = .ok (.iload_n 2, 1) := by decide +kernel
theorem dJ1_indexOfChar_4cfef_5 : decode cJ1_indexOfChar_4cfef 5 = .ok (.istore 5, 2) := by decide +kernel
theorem dJ1_indexOfChar_4cfef_7 : decode cJ1_indexOfChar_4cfef 7 = .ok (.iload 5, 2) := by decide +kernel
theorem dJ1_indexOfChar_4cfef_9 : decode cJ1_indexOfChar_4cfef 9 = .ok (.iload_n 3, 1) := by decide +kernel
theorem dJ1_indexOfChar_4cfef_10 : decode cJ1_indexOfChar_4cfef 10 = .ok (.if_icmp .ge 21, 3) := by decide +kernel
theorem dJ1_indexOfChar_4cfef_13 : decode cJ1_indexOfChar_4cfef 13 = .ok (.aload_n 0, 1) := by decide +kernel
theorem dJ1_indexOfChar_4cfef_14 : decode cJ1_indexOfChar_4cfef 14 = .ok (.iload 5, 2) := by decide +kernel
theorem dJ1_indexOfChar_4cfef_16 : decode cJ1_indexOfChar_4cfef 16 = .ok (.baload, 1) := by decide +kernel
theorem dJ1_indexOfChar_4cfef_17 : decode cJ1_indexOfChar_4cfef 17 = .ok (.iload 4, 2) := by decide +kernel
theorem dJ1_indexOfChar_4cfef_19 : decode cJ1_indexOfChar_4cfef 19 = .ok (.if_icmp .ne 6, 3) := by decide +kernel
theorem dJ1_indexOfChar_4cfef_22 : decode cJ1_indexOfChar_4cfef 22 = .ok (.iload 5, 2) := by decide +kernel
theorem dJ1_indexOfChar_4cfef_24 : decode cJ1_indexOfChar_4cfef 24 = .ok (.ireturn, 1) := by decide +kernel
theorem dJ1_indexOfChar_4cfef_25 : decode cJ1_indexOfChar_4cfef 25 = .ok (.iinc 5 1, 3) := by decide +kernel
theorem dJ1_indexOfChar_4cfef_28 : decode cJ1_indexOfChar_4cfef 28 = .ok (.goto (-21), 3) := by decide +kernel
theorem dJ1_indexOfChar_4cfef_31 : decode cJ1_indexOfChar_4cfef 31 = .ok (.iconst (-1), 1) := by decide +kernel
theorem dJ1_indexOfChar_4cfef_32 : decode cJ1_indexOfChar_4cfef 32 = .ok (.ireturn, 1) := by decide +kernel
set_option maxHeartbeats 4000000 in
set_option maxRecDepth 100000 in
theorem w_J1_indexOfChar_4cfef_L7 {g : sk_G} {l : Launch} {p : Program} {e : Env} {s : State} {m : MethodId} {av : Array Value} {below : List Frame} {meth : Method} {c : Code} (C : sk_C g p s m av meth c cJ1_indexOfChar_4cfef 6 RJ1 (some .int)) (o0 : Nat) (q0 : o0 < 14) (a3 : Int32) (a4 : Int32) (M : sk_M) {rr : Int32} :
    ∀ (n : Nat) (a5 : Int32) (H : Heap) (locs : List Loc) (ls : Array Slot), lv_has ls 6 [(0, .ref (sk_aV g o0)), (3, .int a3), (4, .int a4), (5, .int a5)] → sk_P g M H → va_S (sk_A g) s.heap H locs → ∀ {out : (Int32) ⊕ (Unit)}, f_J1_indexOfChar_4cfef_L7 o0 a3 a4 M n a5 = some out → (∀ r, out = Sum.inl r → some r = some rr) → (∀  (H : Heap) (locs : List Loc) (ls : Array Slot), some (Sum.inr ()) = some out → lv_has ls 6 [] → sk_P g M H → va_S (sk_A g) s.heap H locs → W p l e (sk_rm 1) s m av below meth c H locs 0 0 (MQ below (sk_QI g rr M) av s 0 0 (sk_A g)) (F0 m 31 ls [])) → W p l e (sk_rm 1) s m av below meth c H locs 0 0 (MQ below (sk_QI g rr M) av s 0 0 (sk_A g)) (F0 m 7 ls []) := by
  obtain ⟨hx, hb, hml, hown, hts, hK, hE, hr, hlocks⟩ := id C
  intro n
  induction n with
  | zero =>
    intro a5 H locs ls hl hM hS out h
    cases h
  | succ n ih =>
    intro a5 H locs ls hl hM hS out h kr kx
    rw [f_J1_indexOfChar_4cfef_L7] at h
    refine lv_iload hx hb dJ1_indexOfChar_4cfef_7 (lv_at hl 3 rfl) ?_
    refine lv_iload_n hx hb dJ1_indexOfChar_4cfef_9 rfl (lv_at hl 1 rfl) ?_
    refine lv_icmp_ge hx hb dJ1_indexOfChar_4cfef_10 rfl (fun hc => ?_) (fun hc => ?_)
    · have h := sk_pos h hc
      exact kx  _ _ _ h (lv_sub hl [] rfl) hM hS
    · have h := sk_neg h hc
      refine lv_aload_n hx hb dJ1_indexOfChar_4cfef_13 rfl (lv_at hl 0 rfl) ?_
      refine lv_iload hx hb dJ1_indexOfChar_4cfef_14 (lv_at hl 3 rfl) ?_
      obtain ⟨i_2, h⟩ := sk_chkE h
      refine va_tb hx hb (hE.2.2.2.2.1.1 o0 q0).2.2.2 hS (sk_in_vp i_2) rfl dJ1_indexOfChar_4cfef_16 ?_
      refine lv_iload hx hb dJ1_indexOfChar_4cfef_17 (lv_at hl 2 rfl) ?_
      refine lv_icmp_ne hx hb dJ1_indexOfChar_4cfef_19 rfl (fun hc => ?_) (fun hc => ?_)
      · have h := sk_neg h hc
        refine lv_iinc (v := (a5 + 1)) (lv' := [(5, .int (a5 + 1)), (0, .ref (sk_aV g o0)), (3, .int a3), (4, .int a4)]) hx hb dJ1_indexOfChar_4cfef_25 hl (k := 3) rfl rfl (by decide) rfl (fun ls hl => ?_)
        refine lv_goto hx hb dJ1_indexOfChar_4cfef_28 rfl ?_
        exact ih (a5 + 1) _ _ _ (lv_sub hl [1, 2, 3, 0] rfl) hM hS h kr kx
      · have h := sk_pos h hc
        refine lv_iload hx hb dJ1_indexOfChar_4cfef_22 (lv_at hl 3 rfl) ?_
        have h := kr _ (Option.some.inj h).symm
        exact sk_iret C hM hS ⟨Option.some.inj h, rfl⟩ dJ1_indexOfChar_4cfef_24
set_option maxHeartbeats 4000000 in
set_option maxRecDepth 100000 in
theorem c_J1_indexOfChar_4cfef (g : sk_G) (l : Launch) (o0 : Nat) (q0 : o0 < 14) (a1 : Int32) (a2 : Int32) (a3 : Int32) (M : sk_M) {rr : Int32} (h : f_J1_indexOfChar_4cfef o0 a1 a2 a3 M = some rr) : sk_MI g l yJ1_indexOfChar_4cfef cJ1_indexOfChar_4cfef 6 (some .int) 1 [.ref (sk_aV g o0), .int a1, .int a2, .int a3] M rr M := by
  refine sk_go [(0, .ref (sk_aV g o0)), (1, .int a1), (2, .int a2), (3, .int a3)] (by decide) (Nat.le_of_ble_eq_true rfl) rfl ?_
  intro p e s m av below meth c C ls hl hM hS
  obtain ⟨hx, hb, hml, hown, hts, hK, hE, hr, hlocks⟩ := id C
  rw [f_J1_indexOfChar_4cfef] at h
  refine lv_iload_n hx hb dJ1_indexOfChar_4cfef_0 rfl (lv_at hl 1 rfl) ?_
  refine lv_i2b (v := (sk_i2b a1)) hx hb dJ1_indexOfChar_4cfef_1 rfl ?_
  refine lv_topi (fun x_1 ex_1 => ?_)
  have h := sk_letU h ex_1
  refine lv_istore (lv' := [(4, .int x_1), (0, .ref (sk_aV g o0)), (1, .int a1), (2, .int a2), (3, .int a3)]) hx hb dJ1_indexOfChar_4cfef_2 hl (by decide) rfl (fun ls hl => ?_)
  refine lv_iload_n hx hb dJ1_indexOfChar_4cfef_4 rfl (lv_at hl 3 rfl) ?_
  refine lv_istore (lv' := [(5, .int a2), (4, .int x_1), (0, .ref (sk_aV g o0)), (1, .int a1), (2, .int a2), (3, .int a3)]) hx hb dJ1_indexOfChar_4cfef_5 hl (by decide) rfl (fun ls hl => ?_)
  obtain ⟨out_4, h_3, kf_5, kg_6⟩ := sk_s0E h
  refine w_J1_indexOfChar_4cfef_L7 C o0 q0 a3 x_1 M sk_FU a2 _ _ _ (lv_sub hl [2, 5, 1, 0] rfl) hM hS h_3 kf_5 (fun  H locs ls he hl hM hS => ?_)
  have h := kg_6  (Option.some.inj he).symm
  refine lv_iconst (v := (-1)) hx hb dJ1_indexOfChar_4cfef_31 (by decide) ?_
  exact sk_iret C hM hS ⟨Option.some.inj h, rfl⟩ dJ1_indexOfChar_4cfef_32
theorem dJ1_indexOf_4cfef_0 : decode cJ1_indexOf_4cfef 0 = .ok (.iload_n 1, 1) := by decide +kernel
theorem dJ1_indexOf_4cfef_1 : decode cJ1_indexOf_4cfef 1 = .ok (.invokestatic 88, 3) := by decide +kernel
theorem dJ1_indexOf_4cfef_4 : decode cJ1_indexOf_4cfef 4 = .ok (.ifCond .ne 5, 3) := by decide +kernel
theorem dJ1_indexOf_4cfef_7 : decode cJ1_indexOf_4cfef 7 = .ok (.iconst (-1), 1) := by decide +kernel
theorem dJ1_indexOf_4cfef_8 : decode cJ1_indexOf_4cfef 8 = .ok (.ireturn, 1) := by decide +kernel
theorem dJ1_indexOf_4cfef_9 : decode cJ1_indexOf_4cfef 9 = .ok (.iload_n 2, 1) := by decide +kernel
theorem dJ1_indexOf_4cfef_10 : decode cJ1_indexOf_4cfef 10 = .ok (.iconst 0, 1) := by decide +kernel
theorem dJ1_indexOf_4cfef_11 : decode cJ1_indexOf_4cfef 11 = .ok (.invokestatic 92, 3) := by decide +kernel
theorem dJ1_indexOf_4cfef_14 : decode cJ1_indexOf_4cfef 14 = .ok (.istore_n 2, 1) := by decide +kernel
theorem dJ1_indexOf_4cfef_15 : decode cJ1_indexOf_4cfef 15 = .ok (.iload_n 3, 1) := by decide +kernel
theorem dJ1_indexOf_4cfef_16 : decode cJ1_indexOf_4cfef 16 = .ok (.aload_n 0, 1) := by decide +kernel
theorem dJ1_indexOf_4cfef_17 : decode cJ1_indexOf_4cfef 17 = .ok (.arraylength, 1) := by decide +kernel
theorem dJ1_indexOf_4cfef_18 : decode cJ1_indexOf_4cfef 18 = .ok (.invokestatic 38, 3) := by decide +kernel
theorem dJ1_indexOf_4cfef_21 : decode cJ1_indexOf_4cfef 21 = .ok (.istore_n 3, 1) := by decide +kernel
theorem dJ1_indexOf_4cfef_22 : decode cJ1_indexOf_4cfef 22 = .ok (.iload_n 2, 1) := by decide +kernel
theorem dJ1_indexOf_4cfef_23 : decode cJ1_indexOf_4cfef 23 = .ok (.iload_n 3, 1) := by decide +kernel
theorem dJ1_indexOf_4cfef_24 : decode cJ1_indexOf_4cfef 24 = .ok (.if_icmp .lt 5, 3) := by decide +kernel
theorem dJ1_indexOf_4cfef_27 : decode cJ1_indexOf_4cfef 27 = .ok (.iconst (-1), 1) := by decide +kernel
theorem dJ1_indexOf_4cfef_28 : decode cJ1_indexOf_4cfef 28 = .ok (.ireturn, 1) := by decide +kernel
theorem dJ1_indexOf_4cfef_29 : decode cJ1_indexOf_4cfef 29 = .ok (.aload_n 0, 1) := by decide +kernel
theorem dJ1_indexOf_4cfef_30 : decode cJ1_indexOf_4cfef 30 = .ok (.iload_n 1, 1) := by decide +kernel
theorem dJ1_indexOf_4cfef_31 : decode cJ1_indexOf_4cfef 31 = .ok (.iload_n 2, 1) := by decide +kernel
theorem dJ1_indexOf_4cfef_32 : decode cJ1_indexOf_4cfef 32 = .ok (.iload_n 3, 1) := by decide +kernel
theorem dJ1_indexOf_4cfef_33 : decode cJ1_indexOf_4cfef 33 = .ok (.invokestatic 95, 3) := by decide +kernel
theorem dJ1_indexOf_4cfef_36 : decode cJ1_indexOf_4cfef 36 = .ok (.ireturn, 1) := by decide +kernel
set_option maxHeartbeats 4000000 in
set_option maxRecDepth 100000 in
theorem c_J1_indexOf_4cfef (g : sk_G) (l : Launch) (o0 : Nat) (q0 : o0 < 14) (a1 : Int32) (a2 : Int32) (a3 : Int32) (M : sk_M) {rr : Int32} (h : f_J1_indexOf_4cfef o0 a1 a2 a3 M = some rr) : sk_MI g l yJ1_indexOf_4cfef cJ1_indexOf_4cfef 4 (some .int) 2 [.ref (sk_aV g o0), .int a1, .int a2, .int a3] M rr M := by
  refine sk_go [(0, .ref (sk_aV g o0)), (1, .int a1), (2, .int a2), (3, .int a3)] (by decide) (Nat.le_of_ble_eq_true rfl) rfl ?_
  intro p e s m av below meth c C ls hl hM hS
  obtain ⟨hx, hb, hml, hown, hts, hK, hE, hr, hlocks⟩ := id C
  rw [f_J1_indexOf_4cfef] at h
  refine lv_iload_n hx hb dJ1_indexOf_4cfef_0 rfl (lv_at hl 1 rfl) ?_
  refine sk_contI (sk_runS (As := [.int a1]) (rest := []) C (c_J1_canEncode_9a6ad g l a1 M rfl) yo_J1_canEncode_9a6ad kw_747 (by decide) hM hS hl.1 rfl rfl (Nat.le_of_ble_eq_true rfl) dJ1_indexOf_4cfef_1) hS (fun H locs hM hS => ?_)
  refine lv_if_ne hx hb dJ1_indexOf_4cfef_4 rfl (fun hc => ?_) (fun hc => ?_)
  · have h := sk_neg h hc
    refine lv_iload_n hx hb dJ1_indexOf_4cfef_9 rfl (lv_at hl 2 rfl) ?_
    refine lv_iconst (v := 0) hx hb dJ1_indexOf_4cfef_10 (by decide) ?_
    refine sk_mmax (d := 2) C hl.1 sk_wmax kw_750 (by decide) (Nat.le_of_ble_eq_true rfl) dJ1_indexOf_4cfef_11 ?_
    refine lv_topi (fun x_2 ex_2 => ?_)
    have h := sk_letU h ex_2
    refine lv_istore_n (lv' := [(2, .int x_2), (0, .ref (sk_aV g o0)), (1, .int a1), (3, .int a3)]) hx hb dJ1_indexOf_4cfef_14 rfl hl (by decide) rfl (fun ls hl => ?_)
    refine lv_iload_n hx hb dJ1_indexOf_4cfef_15 rfl (lv_at hl 3 rfl) ?_
    refine lv_aload_n hx hb dJ1_indexOf_4cfef_16 rfl (lv_at hl 1 rfl) ?_
    refine va_tlen hx hb (hE.2.2.2.2.1.1 o0 q0).2.2.2 hS (v := (nI (sk_sl.getD o0 0))) rfl dJ1_indexOf_4cfef_17 ?_
    refine sk_mmin (d := 2) C hl.1 sk_wmin kw_751 (by decide) (Nat.le_of_ble_eq_true rfl) dJ1_indexOf_4cfef_18 ?_
    refine lv_topi (fun x_3 ex_3 => ?_)
    have h := sk_letU h ex_3
    refine lv_istore_n (lv' := [(3, .int x_3), (2, .int x_2), (0, .ref (sk_aV g o0)), (1, .int a1)]) hx hb dJ1_indexOf_4cfef_21 rfl hl (by decide) rfl (fun ls hl => ?_)
    refine lv_iload_n hx hb dJ1_indexOf_4cfef_22 rfl (lv_at hl 1 rfl) ?_
    refine lv_iload_n hx hb dJ1_indexOf_4cfef_23 rfl (lv_at hl 0 rfl) ?_
    refine lv_icmp_lt hx hb dJ1_indexOf_4cfef_24 rfl (fun hc => ?_) (fun hc => ?_)
    · have h := sk_pos h hc
      refine lv_aload_n hx hb dJ1_indexOf_4cfef_29 rfl (lv_at hl 2 rfl) ?_
      refine lv_iload_n hx hb dJ1_indexOf_4cfef_30 rfl (lv_at hl 3 rfl) ?_
      refine lv_iload_n hx hb dJ1_indexOf_4cfef_31 rfl (lv_at hl 1 rfl) ?_
      refine lv_iload_n hx hb dJ1_indexOf_4cfef_32 rfl (lv_at hl 0 rfl) ?_
      obtain ⟨x_4, h_5, h⟩ := sk_b1E h
      refine sk_contI (sk_runS (As := [.ref (sk_aV g o0), .int a1, .int x_2, .int x_3]) (rest := []) C (c_J1_indexOfChar_4cfef g l o0 q0 a1 x_2 x_3 M h_5) yo_J1_indexOfChar_4cfef kw_752 (by decide) hM hS hl.1 rfl rfl (Nat.le_of_ble_eq_true rfl) dJ1_indexOf_4cfef_33) hS (fun H locs hM hS => ?_)
      exact sk_iret C hM hS ⟨Option.some.inj h, rfl⟩ dJ1_indexOf_4cfef_36
    · have h := sk_neg h hc
      refine lv_iconst (v := (-1)) hx hb dJ1_indexOf_4cfef_27 (by decide) ?_
      exact sk_iret C hM hS ⟨Option.some.inj h, rfl⟩ dJ1_indexOf_4cfef_28
  · have h := sk_pos h hc
    refine lv_iconst (v := (-1)) hx hb dJ1_indexOf_4cfef_7 (by decide) ?_
    exact sk_iret C hM hS ⟨Option.some.inj h, rfl⟩ dJ1_indexOf_4cfef_8
theorem dJ0_indexOf_7cf53_0 : decode cJ0_indexOf_7cf53 0 = .ok (.aload_n 0, 1) := by decide +kernel
theorem dJ0_indexOf_7cf53_1 : decode cJ0_indexOf_7cf53 1 = .ok (.invokevirtual 492, 3) := by decide +kernel
theorem dJ0_indexOf_7cf53_4 : decode cJ0_indexOf_7cf53 4 = .ok (.ifCond .eq 19, 3) := by decide +kernel
theorem dJ0_indexOf_7cf53_7 : decode cJ0_indexOf_7cf53 7 = .ok (.aload_n 0, 1) := by decide +kernel
theorem dJ0_indexOf_7cf53_8 : decode cJ0_indexOf_7cf53 8 = .ok (.getfield 9, 3) := by decide +kernel
theorem dJ0_indexOf_7cf53_11 : decode cJ0_indexOf_7cf53 11 = .ok (.iload_n 1, 1) := by decide +kernel
theorem dJ0_indexOf_7cf53_12 : decode cJ0_indexOf_7cf53 12 = .ok (.iload_n 2, 1) := by decide +kernel
theorem dJ0_indexOf_7cf53_13 : decode cJ0_indexOf_7cf53 13 = .ok (.aload_n 0, 1) := by decide +kernel
theorem dJ0_indexOf_7cf53_14 : decode cJ0_indexOf_7cf53 14 = .ok (.invokevirtual 505, 3) := by decide +kernel
theorem dJ0_indexOf_7cf53_17 : decode cJ0_indexOf_7cf53 17 = .ok (.invokestatic 637, 3) := by decide +kernel
theorem dJ0_indexOf_7cf53_20 : decode cJ0_indexOf_7cf53 20 = .ok (.goto 16, 3) := by decide +kernel
theorem dJ0_indexOf_7cf53_23 : decode cJ0_indexOf_7cf53 23 = .ok (.aload_n 0, 1) := by decide +kernel
theorem dJ0_indexOf_7cf53_24 : decode cJ0_indexOf_7cf53 24 = .ok (.getfield 9, 3) := by decide +kernel
theorem dJ0_indexOf_7cf53_27 : decode cJ0_indexOf_7cf53 27 = .ok (.iload_n 1, 1) := by decide +kernel
theorem dJ0_indexOf_7cf53_28 : decode cJ0_indexOf_7cf53 28 = .ok (.iload_n 2, 1) := by decide +kernel
theorem dJ0_indexOf_7cf53_29 : decode cJ0_indexOf_7cf53 29 = .ok (.aload_n 0, 1) := by decide +kernel
theorem dJ0_indexOf_7cf53_30 : decode cJ0_indexOf_7cf53 30 = .ok (.invokevirtual 505, 3) := by decide +kernel
theorem dJ0_indexOf_7cf53_33 : decode cJ0_indexOf_7cf53 33 = .ok (.invokestatic 640, 3) := by decide +kernel
theorem dJ0_indexOf_7cf53_36 : decode cJ0_indexOf_7cf53 36 = .ok (.ireturn, 1) := by decide +kernel
set_option maxHeartbeats 4000000 in
set_option maxRecDepth 100000 in
theorem c_J0_indexOf_7cf53 (g : sk_G) (l : Launch) (o0 : Nat) (q0 : o0 < 14) (a1 : Int32) (a2 : Int32) (M : sk_M) {rr : Int32} (h : f_J0_indexOf_7cf53 o0 a1 a2 M = some rr) : sk_MI g l yJ0_indexOf_7cf53 cJ0_indexOf_7cf53 3 (some .int) 3 [.ref (sk_aK g o0), .int a1, .int a2] M rr M := by
  refine sk_go [(0, .ref (sk_aK g o0)), (1, .int a1), (2, .int a2)] (by decide) (Nat.le_of_ble_eq_true rfl) rfl ?_
  intro p e s m av below meth c C ls hl hM hS
  obtain ⟨hx, hb, hml, hown, hts, hK, hE, hr, hlocks⟩ := id C
  rw [f_J0_indexOf_7cf53] at h
  refine lv_aload_n hx hb dJ0_indexOf_7cf53_0 rfl (lv_at hl 0 rfl) ?_
  refine sk_contI (sk_runV (As := []) (rest := []) C (c_J0_isLatin1_aae02 g l o0 q0 M rfl) yo_J0_isLatin1_aae02 kw_686 (vk_recv hE.2.2.2.2.1 q0 hS) (by decide) hM hS hl.1 rfl rfl (Nat.le_of_ble_eq_true rfl) dJ0_indexOf_7cf53_1) hS (fun H locs hM hS => ?_)
  refine W.eq (g2 := F0 m 4 ls [.int 1]) rfl ?_
  refine lv_if_eq hx hb dJ0_indexOf_7cf53_4 rfl (fun hc => absurd hc (by decide)) (fun hc => ?_)
  refine lv_aload_n hx hb dJ0_indexOf_7cf53_7 rfl (lv_at hl 0 rfl) ?_
  refine vk_getf hx hb (hE.2.2.2.2.1.1 o0 q0).2.2.1 hS hown (hts _ kw_1458) (fun _ h9 => h9) dJ0_indexOf_7cf53_8 ?_
  refine lv_iload_n hx hb dJ0_indexOf_7cf53_11 rfl (lv_at hl 1 rfl) ?_
  refine lv_iload_n hx hb dJ0_indexOf_7cf53_12 rfl (lv_at hl 2 rfl) ?_
  refine lv_aload_n hx hb dJ0_indexOf_7cf53_13 rfl (lv_at hl 0 rfl) ?_
  refine sk_contI (sk_runV (As := []) (rest := [.int a2, .int a1, .ref (sk_aV g o0)]) C (c_J0_length_8abf5 g l o0 q0 M rfl) yo_J0_length_8abf5 kw_743 (vk_recv hE.2.2.2.2.1 q0 hS) (by decide) hM hS hl.1 rfl rfl (Nat.le_of_ble_eq_true rfl) dJ0_indexOf_7cf53_14) hS (fun H locs hM hS => ?_)
  obtain ⟨x_3, h_4, h⟩ := sk_b1E h
  refine sk_contI (sk_runS (As := [.ref (sk_aV g o0), .int a1, .int a2, .int (f_J0_length_8abf5 o0)]) (rest := []) C (c_J1_indexOf_4cfef g l o0 q0 a1 a2 (f_J0_length_8abf5 o0) M h_4) yo_J1_indexOf_4cfef kw_744 (by decide) hM hS hl.1 rfl rfl (Nat.le_of_ble_eq_true rfl) dJ0_indexOf_7cf53_17) hS (fun H locs hM hS => ?_)
  refine lv_goto hx hb dJ0_indexOf_7cf53_20 rfl ?_
  exact sk_iret C hM hS ⟨Option.some.inj h, rfl⟩ dJ0_indexOf_7cf53_36
theorem dJ0_indexOf_0f7a4_0 : decode cJ0_indexOf_0f7a4 0 = .ok (.aload_n 0, 1) := by decide +kernel
theorem dJ0_indexOf_0f7a4_1 : decode cJ0_indexOf_0f7a4 1 = .ok (.iload_n 1, 1) := by decide +kernel
theorem dJ0_indexOf_0f7a4_2 : decode cJ0_indexOf_0f7a4 2 = .ok (.iconst 0, 1) := by decide +kernel
theorem dJ0_indexOf_0f7a4_3 : decode cJ0_indexOf_0f7a4 3 = .ok (.invokevirtual 633, 3) := by decide +kernel
theorem dJ0_indexOf_0f7a4_6 : decode cJ0_indexOf_0f7a4 6 = .ok (.ireturn, 1) := by decide +kernel
set_option maxHeartbeats 4000000 in
set_option maxRecDepth 100000 in
theorem c_J0_indexOf_0f7a4 (g : sk_G) (l : Launch) (o0 : Nat) (q0 : o0 < 14) (a1 : Int32) (M : sk_M) {rr : Int32} (h : f_J0_indexOf_0f7a4 o0 a1 M = some rr) : sk_MI g l yJ0_indexOf_0f7a4 cJ0_indexOf_0f7a4 2 (some .int) 4 [.ref (sk_aK g o0), .int a1] M rr M := by
  refine sk_go [(0, .ref (sk_aK g o0)), (1, .int a1)] (by decide) (Nat.le_of_ble_eq_true rfl) rfl ?_
  intro p e s m av below meth c C ls hl hM hS
  obtain ⟨hx, hb, hml, hown, hts, hK, hE, hr, hlocks⟩ := id C
  rw [f_J0_indexOf_0f7a4] at h
  refine lv_aload_n hx hb dJ0_indexOf_0f7a4_0 rfl (lv_at hl 0 rfl) ?_
  refine lv_iload_n hx hb dJ0_indexOf_0f7a4_1 rfl (lv_at hl 1 rfl) ?_
  refine lv_iconst (v := 0) hx hb dJ0_indexOf_0f7a4_2 (by decide) ?_
  obtain ⟨x_1, h_2, h⟩ := sk_b1E h
  refine sk_contI (sk_runV (As := [.int a1, .int 0]) (rest := []) C (c_J0_indexOf_7cf53 g l o0 q0 a1 0 M h_2) yo_J0_indexOf_7cf53 kw_739 (vk_recv hE.2.2.2.2.1 q0 hS) (by decide) hM hS hl.1 rfl rfl (Nat.le_of_ble_eq_true rfl) dJ0_indexOf_0f7a4_3) hS (fun H locs hM hS => ?_)
  exact sk_iret C hM hS ⟨Option.some.inj h, rfl⟩ dJ0_indexOf_0f7a4_6
theorem dX0_isSignOf_0 : decode cX0_isSignOf 0 = .ok (.aload_n 0, 1) := by decide +kernel
theorem dX0_isSignOf_1 : decode cX0_isSignOf 1 = .ok (.getfield 22, 3) := by decide +kernel
theorem dX0_isSignOf_4 : decode cX0_isSignOf 4 = .ok (.ifCond .ge 35, 3) := by decide +kernel
theorem dX0_isSignOf_7 : decode cX0_isSignOf 7 = .ok (.aload_n 0, 1) := by decide +kernel
theorem dX0_isSignOf_8 : decode cX0_isSignOf 8 = .ok (.getfield 51, 3) := by decide +kernel
theorem dX0_isSignOf_11 : decode cX0_isSignOf 11 = .ok (.aload_n 0, 1) := by decide +kernel
theorem dX0_isSignOf_12 : decode cX0_isSignOf 12 = .ok (.getfield 18, 3) := by decide +kernel
theorem dX0_isSignOf_15 : decode cX0_isSignOf 15 = .ok (.if_icmp .ge 24, 3) := by decide +kernel
theorem dX0_isSignOf_18 : decode cX0_isSignOf 18 = .ok (.aload_n 1, 1) := by decide +kernel
theorem dX0_isSignOf_19 : decode cX0_isSignOf 19 = .ok (.aload_n 0, 1) := by decide +kernel
theorem dX0_isSignOf_20 : decode cX0_isSignOf 20 = .ok (.getfield 9, 3) := by decide +kernel
theorem dX0_isSignOf_23 : decode cX0_isSignOf 23 = .ok (.aload_n 0, 1) := by decide +kernel
theorem dX0_isSignOf_24 : decode cX0_isSignOf 24 = .ok (.getfield 51, 3) := by decide +kernel
theorem dX0_isSignOf_27 : decode cX0_isSignOf 27 = .ok (.iaload, 1) := by decide +kernel
theorem dX0_isSignOf_28 : decode cX0_isSignOf 28 = .ok (.i2c, 1) := by decide +kernel
theorem dX0_isSignOf_29 : decode cX0_isSignOf 29 = .ok (.invokevirtual 79, 3) := by decide +kernel
theorem dX0_isSignOf_32 : decode cX0_isSignOf 32 = .ok (.ifCond .lt 7, 3) := by decide +kernel
theorem dX0_isSignOf_35 : decode cX0_isSignOf 35 = .ok (.iconst 1, 1) := by decide +kernel
theorem dX0_isSignOf_36 : decode cX0_isSignOf 36 = .ok (.goto 4, 3) := by decide +kernel
theorem dX0_isSignOf_39 : decode cX0_isSignOf 39 = .ok (.iconst 0, 1) := by decide +kernel
theorem dX0_isSignOf_40 : decode cX0_isSignOf 40 = .ok (.ireturn, 1) := by decide +kernel
set_option maxHeartbeats 4000000 in
set_option maxRecDepth 100000 in
theorem c_X0_isSignOf (g : sk_G) (l : Launch) (o1 : Nat) (q1 : o1 < 14) (M : sk_M) {rr : Int32} (h : f_X0_isSignOf o1 M = some rr) : sk_MI g l yX0_isSignOf cX0_isSignOf 2 (some .boolean) 5 [.ref (sk_ad g 62), .ref (sk_aK g o1)] M rr M := by
  refine sk_go [(0, .ref (sk_ad g 62)), (1, .ref (sk_aK g o1))] (by decide) (Nat.le_of_ble_eq_true rfl) rfl ?_
  intro p e s m av below meth c C ls hl hM hS
  obtain ⟨hx, hb, hml, hown, hts, hK, hE, hr, hlocks⟩ := id C
  rw [f_X0_isSignOf] at h
  refine lv_aload_n hx hb dX0_isSignOf_0 rfl (lv_at hl 0 rfl) ?_
  refine sk_getI (o := 62) (ci := 0) (j := 5) C hM rfl rfl (by decide) rfl kw_127 dX0_isSignOf_1 ?_
  refine lv_if_ge hx hb dX0_isSignOf_4 rfl (fun hc => ?_) (fun hc => ?_)
  · have h := sk_pos h hc
    refine lv_iconst (v := 0) hx hb dX0_isSignOf_39 (by decide) ?_
    exact sk_zret C hM hS (sk_nz (Or.inl rfl)) ⟨Option.some.inj h, rfl⟩ dX0_isSignOf_40
  · have h := sk_neg h hc
    refine lv_aload_n hx hb dX0_isSignOf_7 rfl (lv_at hl 0 rfl) ?_
    refine sk_getI (o := 62) (ci := 0) (j := 3) C hM rfl rfl (by decide) rfl kw_125 dX0_isSignOf_8 ?_
    refine lv_aload_n hx hb dX0_isSignOf_11 rfl (lv_at hl 0 rfl) ?_
    refine sk_getI (o := 62) (ci := 0) (j := 2) C hM rfl rfl (by decide) rfl kw_123 dX0_isSignOf_12 ?_
    refine lv_icmp_ge hx hb dX0_isSignOf_15 rfl (fun hc => ?_) (fun hc => ?_)
    · have h := sk_pos h hc
      refine lv_iconst (v := 0) hx hb dX0_isSignOf_39 (by decide) ?_
      exact sk_zret C hM hS (sk_nz (Or.inl rfl)) ⟨Option.some.inj h, rfl⟩ dX0_isSignOf_40
    · have h := sk_neg h hc
      refine lv_aload_n hx hb dX0_isSignOf_18 rfl (lv_at hl 1 rfl) ?_
      refine lv_aload_n hx hb dX0_isSignOf_19 rfl (lv_at hl 0 rfl) ?_
      refine sk_getR (o := 62) (ci := 0) (j := 0) (t := 63) C hM rfl rfl (by decide) rfl rfl kw_120 dX0_isSignOf_20 ?_
      refine lv_aload_n hx hb dX0_isSignOf_23 rfl (lv_at hl 0 rfl) ?_
      refine sk_getI (o := 62) (ci := 0) (j := 3) C hM rfl rfl (by decide) rfl kw_125 dX0_isSignOf_24 ?_
      obtain ⟨i_1, h⟩ := sk_chkE h
      refine sk_iald (o := 63) C hM rfl i_1 dX0_isSignOf_27 ?_
      refine lv_i2c (v := (sk_i2c (M 63 (M 62 3).toNatClampNeg))) hx hb dX0_isSignOf_28 rfl ?_
      obtain ⟨x_2, h_3, h⟩ := sk_b1E h
      refine sk_contI (sk_runV (As := [.int (sk_i2c (M 63 (M 62 3).toNatClampNeg))]) (rest := []) C (c_J0_indexOf_0f7a4 g l o1 q1 (sk_i2c (M 63 (M 62 3).toNatClampNeg)) M h_3) yo_J0_indexOf_0f7a4 kw_735 (vk_recv hE.2.2.2.2.1 q1 hS) (by decide) hM hS hl.1 rfl rfl (Nat.le_of_ble_eq_true rfl) dX0_isSignOf_29) hS (fun H locs hM hS => ?_)
      have J : ∀ (vv : Int32) (H : Heap) (locs : List Loc), (if x_2 < 0 then 0 else 1 : Int32) = vv → sk_P g M H → va_S (sk_A g) s.heap H locs → W p l e (sk_rm 5) s m av below meth c H locs 0 0 (MQ below (sk_QI g rr M) av s 0 0 (sk_A g)) (F0 m 40 ls [.int vv]) := by
        intro vv H locs hvv hM hS
        subst hvv
        exact sk_zret C hM hS (sk_nz (sk_zi (Or.inl rfl) (Or.inr rfl))) ⟨Option.some.inj h, rfl⟩ dX0_isSignOf_40
      refine lv_if_lt hx hb dX0_isSignOf_32 rfl (fun hc => ?_) (fun hc => ?_)
      · have J := fun vv H locs q => J vv H locs ((if_pos hc).trans q)
        refine lv_iconst (v := 0) hx hb dX0_isSignOf_39 (by decide) ?_
        exact J _ _ _ rfl hM hS
      · have J := fun vv H locs q => J vv H locs ((if_neg hc).trans q)
        refine lv_iconst (v := 1) hx hb dX0_isSignOf_35 (by decide) ?_
        refine lv_goto hx hb dX0_isSignOf_36 rfl ?_
        exact J _ _ _ rfl hM hS
theorem dX0_put_0 : decode cX0_put 0 = .ok (.aload_n 0, 1) := by decide +kernel
theorem dX0_put_1 : decode cX0_put 1 = .ok (.getfield 22, 3) := by decide +kernel
theorem dX0_put_4 : decode cX0_put 4 = .ok (.ifCond .ge 35, 3) := by decide +kernel
theorem dX0_put_7 : decode cX0_put 7 = .ok (.aload_n 0, 1) := by decide +kernel
theorem dX0_put_8 : decode cX0_put 8 = .ok (.getfield 28, 3) := by decide +kernel
theorem dX0_put_11 : decode cX0_put 11 = .ok (.aload_n 0, 1) := by decide +kernel
theorem dX0_put_12 : decode cX0_put 12 = .ok (.getfield 15, 3) := by decide +kernel
theorem dX0_put_15 : decode cX0_put 15 = .ok (.arraylength, 1) := by decide +kernel
theorem dX0_put_16 : decode cX0_put 16 = .ok (.if_icmp .ge 23, 3) := by decide +kernel
theorem dX0_put_19 : decode cX0_put 19 = .ok (.aload_n 0, 1) := by decide +kernel
theorem dX0_put_20 : decode cX0_put 20 = .ok (.getfield 15, 3) := by decide +kernel
theorem dX0_put_23 : decode cX0_put 23 = .ok (.aload_n 0, 1) := by decide +kernel
theorem dX0_put_24 : decode cX0_put 24 = .ok (.getfield 28, 3) := by decide +kernel
theorem dX0_put_27 : decode cX0_put 27 = .ok (.iload_n 1, 1) := by decide +kernel
theorem dX0_put_28 : decode cX0_put 28 = .ok (.iastore, 1) := by decide +kernel
theorem dX0_put_29 : decode cX0_put 29 = .ok (.aload_n 0, 1) := by decide +kernel
theorem dX0_put_30 : decode cX0_put 30 = .ok (.dup, 1) := by decide +kernel
theorem dX0_put_31 : decode cX0_put 31 = .ok (.getfield 28, 3) := by decide +kernel
theorem dX0_put_34 : decode cX0_put 34 = .ok (.iconst 1, 1) := by decide +kernel
theorem dX0_put_35 : decode cX0_put 35 = .ok (.iadd, 1) := by decide +kernel
theorem dX0_put_36 : decode cX0_put 36 = .ok (.putfield 28, 3) := by decide +kernel
theorem dX0_put_39 : decode cX0_put 39 = .ok (.return_, 1) := by decide +kernel
set_option maxHeartbeats 4000000 in
set_option maxRecDepth 100000 in
theorem c_X0_put (g : sk_G) (l : Launch) (a1 : Int32) (M : sk_M) {MM : sk_M} (h : f_X0_put a1 M = some MM) : sk_MV g l yX0_put cX0_put 2 none 1 [.ref (sk_ad g 62), .int a1] M MM := by
  refine sk_go [(0, .ref (sk_ad g 62)), (1, .int a1)] (by decide) (Nat.le_of_ble_eq_true rfl) rfl ?_
  intro p e s m av below meth c C ls hl hM hS
  obtain ⟨hx, hb, hml, hown, hts, hK, hE, hr, hlocks⟩ := id C
  rw [f_X0_put] at h
  refine lv_aload_n hx hb dX0_put_0 rfl (lv_at hl 0 rfl) ?_
  refine sk_getI (o := 62) (ci := 0) (j := 5) C hM rfl rfl (by decide) rfl kw_127 dX0_put_1 ?_
  refine lv_if_ge hx hb dX0_put_4 rfl (fun hc => ?_) (fun hc => ?_)
  · have h := sk_pos h hc
    exact sk_vret C hM hS (Option.some.inj h) dX0_put_39
  · have h := sk_neg h hc
    refine lv_aload_n hx hb dX0_put_7 rfl (lv_at hl 0 rfl) ?_
    refine sk_getI (o := 62) (ci := 0) (j := 7) C hM rfl rfl (by decide) rfl kw_132 dX0_put_8 ?_
    refine lv_aload_n hx hb dX0_put_11 rfl (lv_at hl 0 rfl) ?_
    refine sk_getR (o := 62) (ci := 0) (j := 1) (t := 64) C hM rfl rfl (by decide) rfl rfl kw_121 dX0_put_12 ?_
    refine sk_alen (o := 64) (v := 96) C hM rfl (by decide) dX0_put_15 ?_
    refine lv_icmp_ge hx hb dX0_put_16 rfl (fun hc => ?_) (fun hc => ?_)
    · have h := sk_pos h hc
      exact sk_vret C hM hS (Option.some.inj h) dX0_put_39
    · have h := sk_neg h hc
      refine lv_aload_n hx hb dX0_put_19 rfl (lv_at hl 0 rfl) ?_
      refine sk_getR (o := 62) (ci := 0) (j := 1) (t := 64) C hM rfl rfl (by decide) rfl rfl kw_121 dX0_put_20 ?_
      refine lv_aload_n hx hb dX0_put_23 rfl (lv_at hl 0 rfl) ?_
      refine sk_getI (o := 62) (ci := 0) (j := 7) C hM rfl rfl (by decide) rfl kw_132 dX0_put_24 ?_
      refine lv_iload_n hx hb dX0_put_27 rfl (lv_at hl 1 rfl) ?_
      obtain ⟨i_1, h⟩ := sk_chkE h
      refine sk_iast (o := 64) C hM hS rfl i_1 dX0_put_28 (fun M_2 eM_2 H locs hM hS => ?_)
      have h := sk_letU h eM_2
      refine lv_aload_n hx hb dX0_put_29 rfl (lv_at hl 0 rfl) ?_
      refine lv_dup hx hb dX0_put_30 rfl ?_
      refine sk_getI (o := 62) (ci := 0) (j := 7) C hM rfl rfl (by decide) rfl kw_132 dX0_put_31 ?_
      refine lv_iconst (v := 1) hx hb dX0_put_34 (by decide) ?_
      refine lv_iadd hx hb dX0_put_35 ?_
      refine sk_putI (o := 62) (ci := 0) (j := 7) C hM hS rfl rfl (by decide) rfl rfl (tyX0_ok 7 (by decide)) kw_132 dX0_put_36 (fun M_3 eM_3 H locs hM hS => ?_)
      have h := sk_letU h eM_3
      exact sk_vret C hM hS (Option.some.inj h) dX0_put_39
theorem dX0_numberHere_0 : decode cX0_numberHere 0 = .ok (.iconst 0, 1) := by decide +kernel
theorem dX0_numberHere_1 : decode cX0_numberHere 1 = .ok (.istore_n 1, 1) := by decide +kernel
theorem dX0_numberHere_2 : decode cX0_numberHere 2 = .ok (.aload_n 0, 1) := by decide +kernel
theorem dX0_numberHere_3 : decode cX0_numberHere 3 = .ok (.getfield 51, 3) := by decide +kernel
theorem dX0_numberHere_6 : decode cX0_numberHere 6 = .ok (.istore_n 2, 1) := by decide +kernel
theorem dX0_numberHere_7 : decode cX0_numberHere 7 = .ok (.iload_n 2, 1) := by decide +kernel
theorem dX0_numberHere_8 : decode cX0_numberHere 8 = .ok (.aload_n 0, 1) := by decide +kernel
theorem dX0_numberHere_9 : decode cX0_numberHere 9 = .ok (.getfield 25, 3) := by decide +kernel
theorem dX0_numberHere_12 : decode cX0_numberHere 12 = .ok (.if_icmp .ge 24, 3) := by decide +kernel
theorem dX0_numberHere_15 : decode cX0_numberHere 15 = .ok (.iload_n 1, 1) := by decide +kernel
theorem dX0_numberHere_16 : decode cX0_numberHere 16 = .ok (.bipush 10, 2) := by decide +kernel
theorem dX0_numberHere_18 : decode cX0_numberHere 18 = .ok (.imul, 1) := by decide +kernel
theorem dX0_numberHere_19 : decode cX0_numberHere 19 = .ok (.aload_n 0, 1) := by decide +kernel
theorem dX0_numberHere_20 : decode cX0_numberHere 20 = .ok (.getfield 9, 3) := by decide +kernel
theorem dX0_numberHere_23 : decode cX0_numberHere 23 = .ok (.iload_n 2, 1) := by decide +kernel
theorem dX0_numberHere_24 : decode cX0_numberHere 24 = .ok (.iaload, 1) := by decide +kernel
theorem dX0_numberHere_25 : decode cX0_numberHere 25 = .ok (.iadd, 1) := by decide +kernel
theorem dX0_numberHere_26 : decode cX0_numberHere 26 = .ok (.bipush 48, 2) := by decide +kernel
theorem dX0_numberHere_28 : decode cX0_numberHere 28 = .ok (.isub, 1) := by decide +kernel
theorem dX0_numberHere_29 : decode cX0_numberHere 29 = .ok (.istore_n 1, 1) := by decide +kernel
theorem dX0_numberHere_30 : decode cX0_numberHere 30 = .ok (.iinc 2 1, 3) := by decide +kernel
theorem dX0_numberHere_33 : decode cX0_numberHere 33 = .ok (.goto (-26), 3) := by decide +kernel
theorem dX0_numberHere_36 : decode cX0_numberHere 36 = .ok (.iload_n 1, 1) := by decide +kernel
theorem dX0_numberHere_37 : decode cX0_numberHere 37 = .ok (.ireturn, 1) := by decide +kernel
set_option maxHeartbeats 4000000 in
set_option maxRecDepth 100000 in
theorem w_X0_numberHere_L7 {g : sk_G} {l : Launch} {p : Program} {e : Env} {s : State} {m : MethodId} {av : Array Value} {below : List Frame} {meth : Method} {c : Code} (C : sk_C g p s m av meth c cX0_numberHere 3 RX0 (some .int)) (M : sk_M) {rr : Int32} :
    ∀ (n : Nat) (a1 : Int32) (a2 : Int32) (H : Heap) (locs : List Loc) (ls : Array Slot), lv_has ls 3 [(0, .ref (sk_ad g 62)), (1, .int a1), (2, .int a2)] → sk_P g M H → va_S (sk_A g) s.heap H locs → ∀ {out : Int32}, f_X0_numberHere_L7 M n a1 a2 = some out → (∀ (x1 : Int32) (H : Heap) (locs : List Loc) (ls : Array Slot), some x1 = some out → lv_has ls 3 [(1, .int x1)] → sk_P g M H → va_S (sk_A g) s.heap H locs → W p l e (sk_rm 1) s m av below meth c H locs 0 0 (MQ below (sk_QI g rr M) av s 0 0 (sk_A g)) (F0 m 36 ls [])) → W p l e (sk_rm 1) s m av below meth c H locs 0 0 (MQ below (sk_QI g rr M) av s 0 0 (sk_A g)) (F0 m 7 ls []) := by
  obtain ⟨hx, hb, hml, hown, hts, hK, hE, hr, hlocks⟩ := id C
  intro n
  induction n with
  | zero =>
    intro a1 a2 H locs ls hl hM hS out h
    cases h
  | succ n ih =>
    intro a1 a2 H locs ls hl hM hS out h kx
    rw [f_X0_numberHere_L7] at h
    refine lv_iload_n hx hb dX0_numberHere_7 rfl (lv_at hl 2 rfl) ?_
    refine lv_aload_n hx hb dX0_numberHere_8 rfl (lv_at hl 0 rfl) ?_
    refine sk_getI (o := 62) (ci := 0) (j := 4) C hM rfl rfl (by decide) rfl kw_126 dX0_numberHere_9 ?_
    refine lv_icmp_ge hx hb dX0_numberHere_12 rfl (fun hc => ?_) (fun hc => ?_)
    · have h := sk_pos h hc
      exact kx _ _ _ _ h (lv_sub hl [1] rfl) hM hS
    · have h := sk_neg h hc
      refine lv_iload_n hx hb dX0_numberHere_15 rfl (lv_at hl 1 rfl) ?_
      refine lv_bipush (v := 10) hx hb dX0_numberHere_16 (by decide) ?_
      refine lv_imul hx hb dX0_numberHere_18 ?_
      refine lv_aload_n hx hb dX0_numberHere_19 rfl (lv_at hl 0 rfl) ?_
      refine sk_getR (o := 62) (ci := 0) (j := 0) (t := 63) C hM rfl rfl (by decide) rfl rfl kw_120 dX0_numberHere_20 ?_
      refine lv_iload_n hx hb dX0_numberHere_23 rfl (lv_at hl 2 rfl) ?_
      obtain ⟨i_2, h⟩ := sk_chkE h
      refine sk_iald (o := 63) C hM rfl i_2 dX0_numberHere_24 ?_
      refine lv_iadd hx hb dX0_numberHere_25 ?_
      refine lv_bipush (v := 48) hx hb dX0_numberHere_26 (by decide) ?_
      refine lv_isub hx hb dX0_numberHere_28 ?_
      refine lv_topi (fun x_3 ex_3 => ?_)
      have h := sk_letU h ex_3
      refine lv_istore_n (lv' := [(1, .int x_3), (0, .ref (sk_ad g 62)), (2, .int a2)]) hx hb dX0_numberHere_29 rfl hl (by decide) rfl (fun ls hl => ?_)
      refine lv_iinc (v := (a2 + 1)) (lv' := [(2, .int (a2 + 1)), (1, .int x_3), (0, .ref (sk_ad g 62))]) hx hb dX0_numberHere_30 hl (k := 2) rfl rfl (by decide) rfl (fun ls hl => ?_)
      refine lv_goto hx hb dX0_numberHere_33 rfl ?_
      exact ih x_3 (a2 + 1) _ _ _ (lv_sub hl [2, 1, 0] rfl) hM hS h kx
set_option maxHeartbeats 4000000 in
set_option maxRecDepth 100000 in
theorem c_X0_numberHere (g : sk_G) (l : Launch)  (M : sk_M) {rr : Int32} (h : f_X0_numberHere M = some rr) : sk_MI g l yX0_numberHere cX0_numberHere 3 (some .int) 1 [.ref (sk_ad g 62)] M rr M := by
  refine sk_go [(0, .ref (sk_ad g 62))] (by decide) (Nat.le_of_ble_eq_true rfl) rfl ?_
  intro p e s m av below meth c C ls hl hM hS
  obtain ⟨hx, hb, hml, hown, hts, hK, hE, hr, hlocks⟩ := id C
  rw [f_X0_numberHere] at h
  refine lv_iconst (v := 0) hx hb dX0_numberHere_0 (by decide) ?_
  refine lv_istore_n (lv' := [(1, .int 0), (0, .ref (sk_ad g 62))]) hx hb dX0_numberHere_1 rfl hl (by decide) rfl (fun ls hl => ?_)
  refine lv_aload_n hx hb dX0_numberHere_2 rfl (lv_at hl 1 rfl) ?_
  refine sk_getI (o := 62) (ci := 0) (j := 3) C hM rfl rfl (by decide) rfl kw_125 dX0_numberHere_3 ?_
  refine lv_topi (fun x_1 ex_1 => ?_)
  have h := sk_letU h ex_1
  refine lv_istore_n (lv' := [(2, .int x_1), (1, .int 0), (0, .ref (sk_ad g 62))]) hx hb dX0_numberHere_6 rfl hl (by decide) rfl (fun ls hl => ?_)
  obtain ⟨x_4, h_5, h⟩ := sk_b1E h
  refine w_X0_numberHere_L7 C M sk_FU 0 x_1 _ _ _ (lv_sub hl [2, 1, 0] rfl) hM hS h_5 (fun y_6 H locs ls he hl hM hS => ?_)
  obtain rfl := Option.some.inj he
  refine lv_iload_n hx hb dX0_numberHere_36 rfl (lv_at hl 0 rfl) ?_
  exact sk_iret C hM hS ⟨Option.some.inj h, rfl⟩ dX0_numberHere_37
theorem dX0_names_0 : decode cX0_names 0 = .ok (.aload_n 0, 1) := by decide +kernel
theorem dX0_names_1 : decode cX0_names 1 = .ok (.getfield 41, 3) := by decide +kernel
theorem dX0_names_4 : decode cX0_names 4 = .ok (.ifCond .ne 6, 3) := by decide +kernel
theorem dX0_names_7 : decode cX0_names 7 = .ok (.ldc 127, 2) := by decide +kernel
theorem dX0_names_9 : decode cX0_names 9 = .ok (.areturn, 1) := by decide +kernel
theorem dX0_names_10 : decode cX0_names 10 = .ok (.aload_n 0, 1) := by decide +kernel
theorem dX0_names_11 : decode cX0_names 11 = .ok (.getfield 41, 3) := by decide +kernel
theorem dX0_names_14 : decode cX0_names 14 = .ok (.iconst 1, 1) := by decide +kernel
theorem dX0_names_15 : decode cX0_names 15 = .ok (.if_icmp .ne 8, 3) := by decide +kernel
theorem dX0_names_18 : decode cX0_names 18 = .ok (.ldc 129, 2) := by decide +kernel
theorem dX0_names_20 : decode cX0_names 20 = .ok (.goto 5, 3) := by decide +kernel
theorem dX0_names_23 : decode cX0_names 23 = .ok (.ldc 131, 2) := by decide +kernel
theorem dX0_names_25 : decode cX0_names 25 = .ok (.areturn, 1) := by decide +kernel
set_option maxHeartbeats 4000000 in
set_option maxRecDepth 100000 in
theorem c_X0_names (g : sk_G) (l : Launch)  (M : sk_M) {rr : Nat} (h : f_X0_names M = rr) : sk_MS g l yX0_names cX0_names 1 (some (.object "java/lang/String")) 1 [.ref (sk_ad g 62)] M rr M := by
  refine sk_go [(0, .ref (sk_ad g 62))] (by decide) (Nat.le_of_ble_eq_true rfl) rfl ?_
  intro p e s m av below meth c C ls hl hM hS
  obtain ⟨hx, hb, hml, hown, hts, hK, hE, hr, hlocks⟩ := id C
  rw [f_X0_names] at h
  refine lv_aload_n hx hb dX0_names_0 rfl (lv_at hl 0 rfl) ?_
  refine sk_getI (o := 62) (ci := 0) (j := 6) C hM rfl rfl (by decide) rfl kw_129 dX0_names_1 ?_
  refine lv_if_ne hx hb dX0_names_4 rfl (fun hc => ?_) (fun hc => ?_)
  · have h := sk_neg h hc
    refine lv_aload_n hx hb dX0_names_10 rfl (lv_at hl 0 rfl) ?_
    refine sk_getI (o := 62) (ci := 0) (j := 6) C hM rfl rfl (by decide) rfl kw_129 dX0_names_11 ?_
    refine lv_iconst (v := 1) hx hb dX0_names_14 (by decide) ?_
    refine lv_icmp_ne hx hb dX0_names_15 rfl (fun hc => ?_) (fun hc => ?_)
    · have h := sk_neg h hc
      refine va_ldcS (q := sk_aK g 13) hx hb hown (hE.2.2.2.2.2 13 (by decide)) dX0_names_23 ?_
      exact sk_sret C hM hS ⟨h, rfl⟩ dX0_names_25
    · have h := sk_pos h hc
      refine va_ldcS (q := sk_aK g 12) hx hb hown (hE.2.2.2.2.2 12 (by decide)) dX0_names_18 ?_
      refine lv_goto hx hb dX0_names_20 rfl ?_
      exact sk_sret C hM hS ⟨h, rfl⟩ dX0_names_25
  · have h := sk_pos h hc
    refine va_ldcS (q := sk_aK g 11) hx hb hown (hE.2.2.2.2.2 11 (by decide)) dX0_names_7 ?_
    exact sk_sret C hM hS ⟨h, rfl⟩ dX0_names_9
theorem dX0_leafCode_0 : decode cX0_leafCode 0 = .ok (.bipush (-4), 2) := by decide +kernel
theorem dX0_leafCode_2 : decode cX0_leafCode 2 = .ok (.istore_n 1, 1) := by decide +kernel
theorem dX0_leafCode_3 : decode cX0_leafCode 3 = .ok (.aload_n 0, 1) := by decide +kernel
theorem dX0_leafCode_4 : decode cX0_leafCode 4 = .ok (.getfield 22, 3) := by decide +kernel
theorem dX0_leafCode_7 : decode cX0_leafCode 7 = .ok (.ifCond .ge 14, 3) := by decide +kernel
theorem dX0_leafCode_10 : decode cX0_leafCode 10 = .ok (.aload_n 0, 1) := by decide +kernel
theorem dX0_leafCode_11 : decode cX0_leafCode 11 = .ok (.getfield 51, 3) := by decide +kernel
theorem dX0_leafCode_14 : decode cX0_leafCode 14 = .ok (.aload_n 0, 1) := by decide +kernel
theorem dX0_leafCode_15 : decode cX0_leafCode 15 = .ok (.getfield 18, 3) := by decide +kernel
theorem dX0_leafCode_18 : decode cX0_leafCode 18 = .ok (.if_icmp .lt 5, 3) := by decide +kernel
theorem dX0_leafCode_21 : decode cX0_leafCode 21 = .ok (.iload_n 1, 1) := by decide +kernel
theorem dX0_leafCode_22 : decode cX0_leafCode 22 = .ok (.ireturn, 1) := by decide +kernel
theorem dX0_leafCode_23 : decode cX0_leafCode 23 = .ok (.aload_n 0, 1) := by decide +kernel
theorem dX0_leafCode_24 : decode cX0_leafCode 24 = .ok (.getfield 9, 3) := by decide +kernel
theorem dX0_leafCode_27 : decode cX0_leafCode 27 = .ok (.aload_n 0, 1) := by decide +kernel
theorem dX0_leafCode_28 : decode cX0_leafCode 28 = .ok (.getfield 51, 3) := by decide +kernel
theorem dX0_leafCode_31 : decode cX0_leafCode 31 = .ok (.iaload, 1) := by decide +kernel
theorem dX0_leafCode_32 : decode cX0_leafCode 32 = .ok (.invokestatic 58, 3) := by decide +kernel
theorem dX0_leafCode_35 : decode cX0_leafCode 35 = .ok (.ifCond .eq 25, 3) := by decide +kernel
theorem dX0_leafCode_38 : decode cX0_leafCode 38 = .ok (.aload_n 0, 1) := by decide +kernel
theorem dX0_leafCode_39 : decode cX0_leafCode 39 = .ok (.getfield 25, 3) := by decide +kernel
theorem dX0_leafCode_42 : decode cX0_leafCode 42 = .ok (.aload_n 0, 1) := by decide +kernel
theorem dX0_leafCode_43 : decode cX0_leafCode 43 = .ok (.getfield 51, 3) := by decide +kernel
theorem dX0_leafCode_46 : decode cX0_leafCode 46 = .ok (.isub, 1) := by decide +kernel
theorem dX0_leafCode_47 : decode cX0_leafCode 47 = .ok (.iconst 4, 1) := by decide +kernel
theorem dX0_leafCode_48 : decode cX0_leafCode 48 = .ok (.if_icmp .gt 10, 3) := by decide +kernel
theorem dX0_leafCode_51 : decode cX0_leafCode 51 = .ok (.aload_n 0, 1) := by decide +kernel
theorem dX0_leafCode_52 : decode cX0_leafCode 52 = .ok (.invokevirtual 120, 3) := by decide +kernel
theorem dX0_leafCode_55 : decode cX0_leafCode 55 = .ok (.goto 4, 3) := by decide +kernel
theorem dX0_leafCode_58 : decode cX0_leafCode 58 = .ok (.iload_n 1, 1) := by decide +kernel
theorem dX0_leafCode_59 : decode cX0_leafCode 59 = .ok (.ireturn, 1) := by decide +kernel
theorem dX0_leafCode_60 : decode cX0_leafCode 60 = .ok (.aload_n 0, 1) := by decide +kernel
theorem dX0_leafCode_61 : decode cX0_leafCode 61 = .ok (.getfield 25, 3) := by decide +kernel
theorem dX0_leafCode_64 : decode cX0_leafCode 64 = .ok (.aload_n 0, 1) := by decide +kernel
theorem dX0_leafCode_65 : decode cX0_leafCode 65 = .ok (.getfield 51, 3) := by decide +kernel
theorem dX0_leafCode_68 : decode cX0_leafCode 68 = .ok (.isub, 1) := by decide +kernel
theorem dX0_leafCode_69 : decode cX0_leafCode 69 = .ok (.iconst 1, 1) := by decide +kernel
theorem dX0_leafCode_70 : decode cX0_leafCode 70 = .ok (.if_icmp .ne 23, 3) := by decide +kernel
theorem dX0_leafCode_73 : decode cX0_leafCode 73 = .ok (.aload_n 0, 1) := by decide +kernel
theorem dX0_leafCode_74 : decode cX0_leafCode 74 = .ok (.invokevirtual 123, 3) := by decide +kernel
theorem dX0_leafCode_77 : decode cX0_leafCode 77 = .ok (.aload_n 0, 1) := by decide +kernel
theorem dX0_leafCode_78 : decode cX0_leafCode 78 = .ok (.getfield 9, 3) := by decide +kernel
theorem dX0_leafCode_81 : decode cX0_leafCode 81 = .ok (.aload_n 0, 1) := by decide +kernel
theorem dX0_leafCode_82 : decode cX0_leafCode 82 = .ok (.getfield 51, 3) := by decide +kernel
theorem dX0_leafCode_85 : decode cX0_leafCode 85 = .ok (.iaload, 1) := by decide +kernel
theorem dX0_leafCode_86 : decode cX0_leafCode 86 = .ok (.i2c, 1) := by decide +kernel
theorem dX0_leafCode_87 : decode cX0_leafCode 87 = .ok (.invokevirtual 79, 3) := by decide +kernel
theorem dX0_leafCode_90 : decode cX0_leafCode 90 = .ok (.goto 4, 3) := by decide +kernel
theorem dX0_leafCode_93 : decode cX0_leafCode 93 = .ok (.iconst (-1), 1) := by decide +kernel
theorem dX0_leafCode_94 : decode cX0_leafCode 94 = .ok (.istore_n 2, 1) := by decide +kernel
theorem dX0_leafCode_95 : decode cX0_leafCode 95 = .ok (.iload_n 2, 1) := by decide +kernel
theorem dX0_leafCode_96 : decode cX0_leafCode 96 = .ok (.ifCond .ge 7, 3) := by decide +kernel
theorem dX0_leafCode_99 : decode cX0_leafCode 99 = .ok (.iload_n 1, 1) := by decide +kernel
theorem dX0_leafCode_100 : decode cX0_leafCode 100 = .ok (.goto 7, 3) := by decide +kernel
theorem dX0_leafCode_103 : decode cX0_leafCode 103 = .ok (.bipush (-3), 2) := by decide +kernel
theorem dX0_leafCode_105 : decode cX0_leafCode 105 = .ok (.iload_n 2, 1) := by decide +kernel
theorem dX0_leafCode_106 : decode cX0_leafCode 106 = .ok (.iadd, 1) := by decide +kernel
theorem dX0_leafCode_107 : decode cX0_leafCode 107 = .ok (.ireturn, 1) := by decide +kernel
set_option maxHeartbeats 4000000 in
set_option maxRecDepth 100000 in
theorem c_X0_leafCode (g : sk_G) (l : Launch)  (M : sk_M) {rr : Int32} (h : f_X0_leafCode M = some rr) : sk_MI g l yX0_leafCode cX0_leafCode 3 (some .int) 5 [.ref (sk_ad g 62)] M rr M := by
  refine sk_go [(0, .ref (sk_ad g 62))] (by decide) (Nat.le_of_ble_eq_true rfl) rfl ?_
  intro p e s m av below meth c C ls hl hM hS
  obtain ⟨hx, hb, hml, hown, hts, hK, hE, hr, hlocks⟩ := id C
  rw [f_X0_leafCode] at h
  refine lv_bipush (v := (-4)) hx hb dX0_leafCode_0 (by decide) ?_
  refine lv_istore_n (lv' := [(1, .int (-4)), (0, .ref (sk_ad g 62))]) hx hb dX0_leafCode_2 rfl hl (by decide) rfl (fun ls hl => ?_)
  refine lv_aload_n hx hb dX0_leafCode_3 rfl (lv_at hl 1 rfl) ?_
  refine sk_getI (o := 62) (ci := 0) (j := 5) C hM rfl rfl (by decide) rfl kw_127 dX0_leafCode_4 ?_
  refine lv_if_ge hx hb dX0_leafCode_7 rfl (fun hc => ?_) (fun hc => ?_)
  · have h := sk_pos h hc
    refine lv_iload_n hx hb dX0_leafCode_21 rfl (lv_at hl 0 rfl) ?_
    exact sk_iret C hM hS ⟨Option.some.inj h, rfl⟩ dX0_leafCode_22
  · have h := sk_neg h hc
    refine lv_aload_n hx hb dX0_leafCode_10 rfl (lv_at hl 1 rfl) ?_
    refine sk_getI (o := 62) (ci := 0) (j := 3) C hM rfl rfl (by decide) rfl kw_125 dX0_leafCode_11 ?_
    refine lv_aload_n hx hb dX0_leafCode_14 rfl (lv_at hl 1 rfl) ?_
    refine sk_getI (o := 62) (ci := 0) (j := 2) C hM rfl rfl (by decide) rfl kw_123 dX0_leafCode_15 ?_
    refine lv_icmp_lt hx hb dX0_leafCode_18 rfl (fun hc => ?_) (fun hc => ?_)
    · have h := sk_pos h hc
      refine lv_aload_n hx hb dX0_leafCode_23 rfl (lv_at hl 1 rfl) ?_
      refine sk_getR (o := 62) (ci := 0) (j := 0) (t := 63) C hM rfl rfl (by decide) rfl rfl kw_120 dX0_leafCode_24 ?_
      refine lv_aload_n hx hb dX0_leafCode_27 rfl (lv_at hl 1 rfl) ?_
      refine sk_getI (o := 62) (ci := 0) (j := 3) C hM rfl rfl (by decide) rfl kw_125 dX0_leafCode_28 ?_
      obtain ⟨i_1, h⟩ := sk_chkE h
      refine sk_iald (o := 63) C hM rfl i_1 dX0_leafCode_31 ?_
      refine sk_contI (sk_runS (As := [.int (M 63 (M 62 3).toNatClampNeg)]) (rest := []) C (c_X0_isDigit g l (M 63 (M 62 3).toNatClampNeg) M rfl) yo_X0_isDigit kw_656 (by decide) hM hS hl.1 rfl rfl (Nat.le_of_ble_eq_true rfl) dX0_leafCode_32) hS (fun H locs hM hS => ?_)
      refine lv_if_eq hx hb dX0_leafCode_35 rfl (fun hc => ?_) (fun hc => ?_)
      · have h := sk_pos h hc
        refine lv_aload_n hx hb dX0_leafCode_60 rfl (lv_at hl 1 rfl) ?_
        refine sk_getI (o := 62) (ci := 0) (j := 4) C hM rfl rfl (by decide) rfl kw_126 dX0_leafCode_61 ?_
        refine lv_aload_n hx hb dX0_leafCode_64 rfl (lv_at hl 1 rfl) ?_
        refine sk_getI (o := 62) (ci := 0) (j := 3) C hM rfl rfl (by decide) rfl kw_125 dX0_leafCode_65 ?_
        refine lv_isub hx hb dX0_leafCode_68 ?_
        refine lv_iconst (v := 1) hx hb dX0_leafCode_69 (by decide) ?_
        obtain ⟨y0_3, h_3, kg_3⟩ := sk_b1E h
        have J_3 : ∀ (x_8 : Int32) (H : Heap) (locs : List Loc) (ls : Array Slot), some x_8 = some y0_3 → lv_has ls 3 [(1, .int (-4))] → sk_P g M H → va_S (sk_A g) s.heap H locs → W p l e (sk_rm 5) s m av below meth c H locs 0 0 (MQ below (sk_QI g rr M) av s 0 0 (sk_A g)) (F0 m 94 ls [.int x_8]) := by
          intro x_8 H locs ls he hl hM hS
          obtain rfl := Option.some.inj he
          have h := kg_3
          refine lv_istore_n (lv' := [(2, .int x_8), (1, .int (-4))]) hx hb dX0_leafCode_94 rfl hl (by decide) rfl (fun ls hl => ?_)
          refine lv_iload_n hx hb dX0_leafCode_95 rfl (lv_at hl 0 rfl) ?_
          have J : ∀ (vv : Int32) (H : Heap) (locs : List Loc), (if 0 ≤ x_8 then ((-3) + x_8) else (-4) : Int32) = vv → sk_P g M H → va_S (sk_A g) s.heap H locs → W p l e (sk_rm 5) s m av below meth c H locs 0 0 (MQ below (sk_QI g rr M) av s 0 0 (sk_A g)) (F0 m 107 ls [.int vv]) := by
            intro vv H locs hvv hM hS
            subst hvv
            exact sk_iret C hM hS ⟨Option.some.inj h, rfl⟩ dX0_leafCode_107
          refine lv_if_ge hx hb dX0_leafCode_96 rfl (fun hc => ?_) (fun hc => ?_)
          · have J := fun vv H locs q => J vv H locs ((if_pos hc).trans q)
            refine lv_bipush (v := (-3)) hx hb dX0_leafCode_103 (by decide) ?_
            refine lv_iload_n hx hb dX0_leafCode_105 rfl (lv_at hl 0 rfl) ?_
            refine lv_iadd hx hb dX0_leafCode_106 ?_
            exact J _ _ _ rfl hM hS
          · have J := fun vv H locs q => J vv H locs ((if_neg hc).trans q)
            refine lv_iload_n hx hb dX0_leafCode_99 rfl (lv_at hl 1 rfl) ?_
            refine lv_goto hx hb dX0_leafCode_100 rfl ?_
            exact J _ _ _ rfl hM hS
        have h := h_3
        refine lv_icmp_ne hx hb dX0_leafCode_70 rfl (fun hc => ?_) (fun hc => ?_)
        · have h := sk_neg h hc
          refine lv_iconst (v := (-1)) hx hb dX0_leafCode_93 (by decide) ?_
          exact J_3 _ _ _ _ h (lv_sub hl [0] rfl) hM hS
        · have h := sk_pos h hc
          refine lv_aload_n hx hb dX0_leafCode_73 rfl (lv_at hl 1 rfl) ?_
          refine sk_contS (sk_runV (As := []) (rest := []) C (c_X0_names g l  M rfl) yo_X0_names kw_808 (sk_recv (ci := 0) C hM rfl rfl) (by decide) hM hS hl.1 rfl rfl (Nat.le_of_ble_eq_true rfl) dX0_leafCode_74) hS (fun H locs hM hS => ?_)
          refine lv_aload_n hx hb dX0_leafCode_77 rfl (lv_at hl 1 rfl) ?_
          refine sk_getR (o := 62) (ci := 0) (j := 0) (t := 63) C hM rfl rfl (by decide) rfl rfl kw_120 dX0_leafCode_78 ?_
          refine lv_aload_n hx hb dX0_leafCode_81 rfl (lv_at hl 1 rfl) ?_
          refine sk_getI (o := 62) (ci := 0) (j := 3) C hM rfl rfl (by decide) rfl kw_125 dX0_leafCode_82 ?_
          obtain ⟨i_5, h⟩ := sk_chkE h
          refine sk_iald (o := 63) C hM rfl i_5 dX0_leafCode_85 ?_
          refine lv_i2c (v := (sk_i2c (M 63 (M 62 3).toNatClampNeg))) hx hb dX0_leafCode_86 rfl ?_
          obtain ⟨x_6, h_7, h⟩ := sk_b1E h
          refine sk_contI (sk_runV (As := [.int (sk_i2c (M 63 (M 62 3).toNatClampNeg))]) (rest := []) C (c_J0_indexOf_0f7a4 g l (f_X0_names M) (fs_X0_names M) (sk_i2c (M 63 (M 62 3).toNatClampNeg)) M h_7) yo_J0_indexOf_0f7a4 kw_735 (vk_recv hE.2.2.2.2.1 (fs_X0_names M) hS) (by decide) hM hS hl.1 rfl rfl (Nat.le_of_ble_eq_true rfl) dX0_leafCode_87) hS (fun H locs hM hS => ?_)
          refine lv_goto hx hb dX0_leafCode_90 rfl ?_
          exact J_3 _ _ _ _ h (lv_sub hl [0] rfl) hM hS
      · have h := sk_neg h hc
        refine lv_aload_n hx hb dX0_leafCode_38 rfl (lv_at hl 1 rfl) ?_
        refine sk_getI (o := 62) (ci := 0) (j := 4) C hM rfl rfl (by decide) rfl kw_126 dX0_leafCode_39 ?_
        refine lv_aload_n hx hb dX0_leafCode_42 rfl (lv_at hl 1 rfl) ?_
        refine sk_getI (o := 62) (ci := 0) (j := 3) C hM rfl rfl (by decide) rfl kw_125 dX0_leafCode_43 ?_
        refine lv_isub hx hb dX0_leafCode_46 ?_
        refine lv_iconst (v := 4) hx hb dX0_leafCode_47 (by decide) ?_
        refine lv_icmp_gt hx hb dX0_leafCode_48 rfl (fun hc => ?_) (fun hc => ?_)
        · have h := sk_pos h hc
          refine lv_iload_n hx hb dX0_leafCode_58 rfl (lv_at hl 0 rfl) ?_
          exact sk_iret C hM hS ⟨Option.some.inj h, rfl⟩ dX0_leafCode_59
        · have h := sk_neg h hc
          refine lv_aload_n hx hb dX0_leafCode_51 rfl (lv_at hl 1 rfl) ?_
          obtain ⟨x_9, h_10, h⟩ := sk_b1E h
          refine sk_contI (sk_runV (As := []) (rest := []) C (c_X0_numberHere g l  M h_10) yo_X0_numberHere kw_804 (sk_recv (ci := 0) C hM rfl rfl) (by decide) hM hS hl.1 rfl rfl (Nat.le_of_ble_eq_true rfl) dX0_leafCode_52) hS (fun H locs hM hS => ?_)
          refine lv_goto hx hb dX0_leafCode_55 rfl ?_
          exact sk_iret C hM hS ⟨Option.some.inj h, rfl⟩ dX0_leafCode_59
    · have h := sk_neg h hc
      refine lv_iload_n hx hb dX0_leafCode_21 rfl (lv_at hl 0 rfl) ?_
      exact sk_iret C hM hS ⟨Option.some.inj h, rfl⟩ dX0_leafCode_22
theorem dX0_readLeaf_0 : decode cX0_readLeaf 0 = .ok (.aload_n 0, 1) := by decide +kernel
theorem dX0_readLeaf_1 : decode cX0_readLeaf 1 = .ok (.invokevirtual 117, 3) := by decide +kernel
theorem dX0_readLeaf_4 : decode cX0_readLeaf 4 = .ok (.istore_n 1, 1) := by decide +kernel
theorem dX0_readLeaf_5 : decode cX0_readLeaf 5 = .ok (.iload_n 1, 1) := by decide +kernel
theorem dX0_readLeaf_6 : decode cX0_readLeaf 6 = .ok (.bipush (-3), 2) := by decide +kernel
theorem dX0_readLeaf_8 : decode cX0_readLeaf 8 = .ok (.if_icmp .ge 8, 3) := by decide +kernel
theorem dX0_readLeaf_11 : decode cX0_readLeaf 11 = .ok (.aload_n 0, 1) := by decide +kernel
theorem dX0_readLeaf_12 : decode cX0_readLeaf 12 = .ok (.invokevirtual 44, 3) := by decide +kernel
theorem dX0_readLeaf_15 : decode cX0_readLeaf 15 = .ok (.return_, 1) := by decide +kernel
theorem dX0_readLeaf_16 : decode cX0_readLeaf 16 = .ok (.aload_n 0, 1) := by decide +kernel
theorem dX0_readLeaf_17 : decode cX0_readLeaf 17 = .ok (.iload_n 1, 1) := by decide +kernel
theorem dX0_readLeaf_18 : decode cX0_readLeaf 18 = .ok (.invokevirtual 104, 3) := by decide +kernel
theorem dX0_readLeaf_21 : decode cX0_readLeaf 21 = .ok (.aload_n 0, 1) := by decide +kernel
theorem dX0_readLeaf_22 : decode cX0_readLeaf 22 = .ok (.dup, 1) := by decide +kernel
theorem dX0_readLeaf_23 : decode cX0_readLeaf 23 = .ok (.getfield 31, 3) := by decide +kernel
theorem dX0_readLeaf_26 : decode cX0_readLeaf 26 = .ok (.iconst 1, 1) := by decide +kernel
theorem dX0_readLeaf_27 : decode cX0_readLeaf 27 = .ok (.iadd, 1) := by decide +kernel
theorem dX0_readLeaf_28 : decode cX0_readLeaf 28 = .ok (.putfield 31, 3) := by decide +kernel
theorem dX0_readLeaf_31 : decode cX0_readLeaf 31 = .ok (.aload_n 0, 1) := by decide +kernel
theorem dX0_readLeaf_32 : decode cX0_readLeaf 32 = .ok (.invokevirtual 34, 3) := by decide +kernel
theorem dX0_readLeaf_35 : decode cX0_readLeaf 35 = .ok (.return_, 1) := by decide +kernel
set_option maxHeartbeats 4000000 in
set_option maxRecDepth 100000 in
theorem c_X0_readLeaf (g : sk_G) (l : Launch)  (M : sk_M) {MM : sk_M} (h : f_X0_readLeaf M = some MM) : sk_MV g l yX0_readLeaf cX0_readLeaf 2 none 6 [.ref (sk_ad g 62)] M MM := by
  refine sk_go [(0, .ref (sk_ad g 62))] (by decide) (Nat.le_of_ble_eq_true rfl) rfl ?_
  intro p e s m av below meth c C ls hl hM hS
  obtain ⟨hx, hb, hml, hown, hts, hK, hE, hr, hlocks⟩ := id C
  rw [f_X0_readLeaf] at h
  refine lv_aload_n hx hb dX0_readLeaf_0 rfl (lv_at hl 0 rfl) ?_
  obtain ⟨x_1, h_2, h⟩ := sk_b1E h
  refine sk_contI (sk_runV (As := []) (rest := []) C (c_X0_leafCode g l  M h_2) yo_X0_leafCode kw_800 (sk_recv (ci := 0) C hM rfl rfl) (by decide) hM hS hl.1 rfl rfl (Nat.le_of_ble_eq_true rfl) dX0_readLeaf_1) hS (fun H locs hM hS => ?_)
  refine lv_istore_n (lv' := [(1, .int x_1), (0, .ref (sk_ad g 62))]) hx hb dX0_readLeaf_4 rfl hl (by decide) rfl (fun ls hl => ?_)
  refine lv_iload_n hx hb dX0_readLeaf_5 rfl (lv_at hl 0 rfl) ?_
  refine lv_bipush (v := (-3)) hx hb dX0_readLeaf_6 (by decide) ?_
  refine lv_icmp_ge hx hb dX0_readLeaf_8 rfl (fun hc => ?_) (fun hc => ?_)
  · have h := sk_pos h hc
    refine lv_aload_n hx hb dX0_readLeaf_16 rfl (lv_at hl 1 rfl) ?_
    refine lv_iload_n hx hb dX0_readLeaf_17 rfl (lv_at hl 0 rfl) ?_
    obtain ⟨M_3, h_4, h⟩ := sk_b1E h
    refine sk_contV (sk_runV (As := [.int x_1]) (rest := []) C (c_X0_put g l x_1 M h_4) yo_X0_put kw_790 (sk_recv (ci := 0) C hM rfl rfl) (by decide) hM hS hl.1 rfl rfl (Nat.le_of_ble_eq_true rfl) dX0_readLeaf_18) hS (fun H locs hM hS => ?_)
    refine lv_aload_n hx hb dX0_readLeaf_21 rfl (lv_at hl 1 rfl) ?_
    refine lv_dup hx hb dX0_readLeaf_22 rfl ?_
    refine sk_getI (o := 62) (ci := 0) (j := 8) C hM rfl rfl (by decide) rfl kw_134 dX0_readLeaf_23 ?_
    refine lv_iconst (v := 1) hx hb dX0_readLeaf_26 (by decide) ?_
    refine lv_iadd hx hb dX0_readLeaf_27 ?_
    refine sk_putI (o := 62) (ci := 0) (j := 8) C hM hS rfl rfl (by decide) rfl rfl (tyX0_ok 8 (by decide)) kw_134 dX0_readLeaf_28 (fun M_5 eM_5 H locs hM hS => ?_)
    have h := sk_letU h eM_5
    refine lv_aload_n hx hb dX0_readLeaf_31 rfl (lv_at hl 1 rfl) ?_
    obtain ⟨M_6, h_7, h⟩ := sk_b1E h
    refine sk_contV (sk_runV (As := []) (rest := []) C (c_X0_moveOn g l  M_5 h_7) yo_X0_moveOn kw_649 (sk_recv (ci := 0) C hM rfl rfl) (by decide) hM hS hl.1 rfl rfl (Nat.le_of_ble_eq_true rfl) dX0_readLeaf_32) hS (fun H locs hM hS => ?_)
    exact sk_vret C hM hS (Option.some.inj h) dX0_readLeaf_35
  · have h := sk_neg h hc
    refine lv_aload_n hx hb dX0_readLeaf_11 rfl (lv_at hl 1 rfl) ?_
    obtain ⟨M_8, h_9, h⟩ := sk_b1E h
    refine sk_contV (sk_runV (As := []) (rest := []) C (c_X0_fail g l  M h_9) yo_X0_fail kw_659 (sk_recv (ci := 0) C hM rfl rfl) (by decide) hM hS hl.1 rfl rfl (Nat.le_of_ble_eq_true rfl) dX0_readLeaf_12) hS (fun H locs hM hS => ?_)
    exact sk_vret C hM hS (Option.some.inj h) dX0_readLeaf_15
theorem dX0_readLevel_0 : decode cX0_readLevel 0 = .ok (.iload_n 1, 1) := by decide +kernel
theorem dX0_readLevel_1 : decode cX0_readLevel 1 = .ok (.iconst 5, 1) := by decide +kernel
theorem dX0_readLevel_2 : decode cX0_readLevel 2 = .ok (.if_icmp .lt 10, 3) := by decide +kernel
theorem dX0_readLevel_5 : decode cX0_readLevel 5 = .ok (.aload_n 0, 1) := by decide +kernel
theorem dX0_readLevel_6 : decode cX0_readLevel 6 = .ok (.iload_n 2, 1) := by decide +kernel
theorem dX0_readLevel_7 : decode cX0_readLevel 7 = .ok (.iload_n 3, 1) := by decide +kernel
theorem dX0_readLevel_8 : decode cX0_readLevel 8 = .ok (.invokevirtual 93, 3) := by decide +kernel
theorem dX0_readLevel_11 : decode cX0_readLevel 11 = .ok (.return_, 1) := by decide +kernel
theorem dX0_readLevel_12 : decode cX0_readLevel 12 = .ok (.aload_n 0, 1) := by decide +kernel
theorem dX0_readLevel_13 : decode cX0_readLevel 13 = .ok (.iload_n 1, 1) := by decide +kernel
theorem dX0_readLevel_14 : decode cX0_readLevel 14 = .ok (.iconst 1, 1) := by decide +kernel
theorem dX0_readLevel_15 : decode cX0_readLevel 15 = .ok (.iadd, 1) := by decide +kernel
theorem dX0_readLevel_16 : decode cX0_readLevel 16 = .ok (.iload_n 2, 1) := by decide +kernel
theorem dX0_readLevel_17 : decode cX0_readLevel 17 = .ok (.iload_n 3, 1) := by decide +kernel
theorem dX0_readLevel_18 : decode cX0_readLevel 18 = .ok (.invokevirtual 47, 3) := by decide +kernel
theorem dX0_readLevel_21 : decode cX0_readLevel 21 = .ok (.iload_n 1, 1) := by decide +kernel
theorem dX0_readLevel_22 : decode cX0_readLevel 22 = .ok (.iconst 2, 1) := by decide +kernel
theorem dX0_readLevel_23 : decode cX0_readLevel 23 = .ok (.if_icmp .ne 7, 3) := by decide +kernel
theorem dX0_readLevel_26 : decode cX0_readLevel 26 = .ok (.iconst 1, 1) := by decide +kernel
theorem dX0_readLevel_27 : decode cX0_readLevel 27 = .ok (.goto 5, 3) := by decide +kernel
theorem dX0_readLevel_30 : decode cX0_readLevel 30 = .ok (.bipush 96, 2) := by decide +kernel
theorem dX0_readLevel_32 : decode cX0_readLevel 32 = .ok (.istore 4, 2) := by decide +kernel
theorem dX0_readLevel_34 : decode cX0_readLevel 34 = .ok (.iconst 0, 1) := by decide +kernel
theorem dX0_readLevel_35 : decode cX0_readLevel 35 = .ok (.istore 5, 2) := by decide +kernel
theorem dX0_readLevel_37 : decode cX0_readLevel 37 = .ok (.iload 5, 2) := by decide +kernel
theorem dX0_readLevel_39 : decode cX0_readLevel 39 = .ok (.iload 4, 2) := by decide +kernel
theorem dX0_readLevel_41 : decode cX0_readLevel 41 = .ok (.if_icmp .ge 51, 3) := by decide +kernel
theorem dX0_readLevel_44 : decode cX0_readLevel 44 = .ok (.aload_n 0, 1) := by decide +kernel
theorem dX0_readLevel_45 : decode cX0_readLevel 45 = .ok (.iload_n 1, 1) := by decide +kernel
theorem dX0_readLevel_46 : decode cX0_readLevel 46 = .ok (.invokestatic 97, 3) := by decide +kernel
theorem dX0_readLevel_49 : decode cX0_readLevel 49 = .ok (.invokevirtual 101, 3) := by decide +kernel
theorem dX0_readLevel_52 : decode cX0_readLevel 52 = .ok (.ifCond .eq 40, 3) := by decide +kernel
theorem dX0_readLevel_55 : decode cX0_readLevel 55 = .ok (.aload_n 0, 1) := by decide +kernel
theorem dX0_readLevel_56 : decode cX0_readLevel 56 = .ok (.getfield 9, 3) := by decide +kernel
theorem dX0_readLevel_59 : decode cX0_readLevel 59 = .ok (.aload_n 0, 1) := by decide +kernel
theorem dX0_readLevel_60 : decode cX0_readLevel 60 = .ok (.getfield 51, 3) := by decide +kernel
theorem dX0_readLevel_63 : decode cX0_readLevel 63 = .ok (.iaload, 1) := by decide +kernel
theorem dX0_readLevel_64 : decode cX0_readLevel 64 = .ok (.istore 6, 2) := by decide +kernel
theorem dX0_readLevel_66 : decode cX0_readLevel 66 = .ok (.aload_n 0, 1) := by decide +kernel
theorem dX0_readLevel_67 : decode cX0_readLevel 67 = .ok (.invokevirtual 34, 3) := by decide +kernel
theorem dX0_readLevel_70 : decode cX0_readLevel 70 = .ok (.aload_n 0, 1) := by decide +kernel
theorem dX0_readLevel_71 : decode cX0_readLevel 71 = .ok (.iload_n 1, 1) := by decide +kernel
theorem dX0_readLevel_72 : decode cX0_readLevel 72 = .ok (.iconst 1, 1) := by decide +kernel
theorem dX0_readLevel_73 : decode cX0_readLevel 73 = .ok (.iadd, 1) := by decide +kernel
theorem dX0_readLevel_74 : decode cX0_readLevel 74 = .ok (.iload_n 2, 1) := by decide +kernel
theorem dX0_readLevel_75 : decode cX0_readLevel 75 = .ok (.iload_n 3, 1) := by decide +kernel
theorem dX0_readLevel_76 : decode cX0_readLevel 76 = .ok (.invokevirtual 47, 3) := by decide +kernel
theorem dX0_readLevel_79 : decode cX0_readLevel 79 = .ok (.aload_n 0, 1) := by decide +kernel
theorem dX0_readLevel_80 : decode cX0_readLevel 80 = .ok (.iload 6, 2) := by decide +kernel
theorem dX0_readLevel_82 : decode cX0_readLevel 82 = .ok (.ineg, 1) := by decide +kernel
theorem dX0_readLevel_83 : decode cX0_readLevel 83 = .ok (.invokevirtual 104, 3) := by decide +kernel
theorem dX0_readLevel_86 : decode cX0_readLevel 86 = .ok (.iinc 5 1, 3) := by decide +kernel
theorem dX0_readLevel_89 : decode cX0_readLevel 89 = .ok (.goto (-52), 3) := by decide +kernel
theorem dX0_readLevel_92 : decode cX0_readLevel 92 = .ok (.return_, 1) := by decide +kernel
theorem dX0_readPiece_0 : decode cX0_readPiece 0 = .ok (.aload_n 0, 1) := by decide +kernel
theorem dX0_readPiece_1 : decode cX0_readPiece 1 = .ok (.ldc 108, 2) := by decide +kernel
theorem dX0_readPiece_3 : decode cX0_readPiece 3 = .ok (.invokevirtual 101, 3) := by decide +kernel
theorem dX0_readPiece_6 : decode cX0_readPiece 6 = .ok (.ifCond .eq 30, 3) := by decide +kernel
theorem dX0_readPiece_9 : decode cX0_readPiece 9 = .ok (.iload_n 2, 1) := by decide +kernel
theorem dX0_readPiece_10 : decode cX0_readPiece 10 = .ok (.bipush 8, 2) := by decide +kernel
theorem dX0_readPiece_12 : decode cX0_readPiece 12 = .ok (.if_icmp .ge 24, 3) := by decide +kernel
theorem dX0_readPiece_15 : decode cX0_readPiece 15 = .ok (.aload_n 0, 1) := by decide +kernel
theorem dX0_readPiece_16 : decode cX0_readPiece 16 = .ok (.invokevirtual 34, 3) := by decide +kernel
theorem dX0_readPiece_19 : decode cX0_readPiece 19 = .ok (.aload_n 0, 1) := by decide +kernel
theorem dX0_readPiece_20 : decode cX0_readPiece 20 = .ok (.iload_n 1, 1) := by decide +kernel
theorem dX0_readPiece_21 : decode cX0_readPiece 21 = .ok (.iload_n 2, 1) := by decide +kernel
theorem dX0_readPiece_22 : decode cX0_readPiece 22 = .ok (.iconst 1, 1) := by decide +kernel
theorem dX0_readPiece_23 : decode cX0_readPiece 23 = .ok (.iadd, 1) := by decide +kernel
theorem dX0_readPiece_24 : decode cX0_readPiece 24 = .ok (.invokevirtual 93, 3) := by decide +kernel
theorem dX0_readPiece_27 : decode cX0_readPiece 27 = .ok (.aload_n 0, 1) := by decide +kernel
theorem dX0_readPiece_28 : decode cX0_readPiece 28 = .ok (.bipush (-33), 2) := by decide +kernel
theorem dX0_readPiece_30 : decode cX0_readPiece 30 = .ok (.invokevirtual 104, 3) := by decide +kernel
theorem dX0_readPiece_33 : decode cX0_readPiece 33 = .ok (.goto 58, 3) := by decide +kernel
theorem dX0_readPiece_36 : decode cX0_readPiece 36 = .ok (.aload_n 0, 1) := by decide +kernel
theorem dX0_readPiece_37 : decode cX0_readPiece 37 = .ok (.ldc 110, 2) := by decide +kernel
theorem dX0_readPiece_39 : decode cX0_readPiece 39 = .ok (.invokevirtual 101, 3) := by decide +kernel
theorem dX0_readPiece_42 : decode cX0_readPiece 42 = .ok (.ifCond .eq 45, 3) := by decide +kernel
theorem dX0_readPiece_45 : decode cX0_readPiece 45 = .ok (.iload_n 1, 1) := by decide +kernel
theorem dX0_readPiece_46 : decode cX0_readPiece 46 = .ok (.bipush 8, 2) := by decide +kernel
theorem dX0_readPiece_48 : decode cX0_readPiece 48 = .ok (.if_icmp .ge 39, 3) := by decide +kernel
theorem dX0_readPiece_51 : decode cX0_readPiece 51 = .ok (.aload_n 0, 1) := by decide +kernel
theorem dX0_readPiece_52 : decode cX0_readPiece 52 = .ok (.invokevirtual 34, 3) := by decide +kernel
theorem dX0_readPiece_55 : decode cX0_readPiece 55 = .ok (.aload_n 0, 1) := by decide +kernel
theorem dX0_readPiece_56 : decode cX0_readPiece 56 = .ok (.iconst 0, 1) := by decide +kernel
theorem dX0_readPiece_57 : decode cX0_readPiece 57 = .ok (.iload_n 1, 1) := by decide +kernel
theorem dX0_readPiece_58 : decode cX0_readPiece 58 = .ok (.iconst 1, 1) := by decide +kernel
theorem dX0_readPiece_59 : decode cX0_readPiece 59 = .ok (.iadd, 1) := by decide +kernel
theorem dX0_readPiece_60 : decode cX0_readPiece 60 = .ok (.iload_n 2, 1) := by decide +kernel
theorem dX0_readPiece_61 : decode cX0_readPiece 61 = .ok (.invokevirtual 47, 3) := by decide +kernel
theorem dX0_readPiece_64 : decode cX0_readPiece 64 = .ok (.aload_n 0, 1) := by decide +kernel
theorem dX0_readPiece_65 : decode cX0_readPiece 65 = .ok (.ldc 112, 2) := by decide +kernel
theorem dX0_readPiece_67 : decode cX0_readPiece 67 = .ok (.invokevirtual 101, 3) := by decide +kernel
theorem dX0_readPiece_70 : decode cX0_readPiece 70 = .ok (.ifCond .eq 10, 3) := by decide +kernel
theorem dX0_readPiece_73 : decode cX0_readPiece 73 = .ok (.aload_n 0, 1) := by decide +kernel
theorem dX0_readPiece_74 : decode cX0_readPiece 74 = .ok (.invokevirtual 34, 3) := by decide +kernel
theorem dX0_readPiece_77 : decode cX0_readPiece 77 = .ok (.goto 14, 3) := by decide +kernel
theorem dX0_readPiece_80 : decode cX0_readPiece 80 = .ok (.aload_n 0, 1) := by decide +kernel
theorem dX0_readPiece_81 : decode cX0_readPiece 81 = .ok (.invokevirtual 44, 3) := by decide +kernel
theorem dX0_readPiece_84 : decode cX0_readPiece 84 = .ok (.goto 7, 3) := by decide +kernel
theorem dX0_readPiece_87 : decode cX0_readPiece 87 = .ok (.aload_n 0, 1) := by decide +kernel
theorem dX0_readPiece_88 : decode cX0_readPiece 88 = .ok (.invokevirtual 114, 3) := by decide +kernel
theorem dX0_readPiece_91 : decode cX0_readPiece 91 = .ok (.return_, 1) := by decide +kernel
set_option maxHeartbeats 4000000 in
set_option maxRecDepth 100000 in
theorem w_X0_readLevel_L37 {g : sk_G} {l : Launch} {p : Program} {e : Env} {s : State} {m : MethodId} {av : Array Value} {below : List Frame} {meth : Method} {c : Code} (C : sk_C g p s m av meth c cX0_readLevel 7 RX0 none) (self : Nat → Int32 → Int32 → Int32 → sk_M → Option sk_M) (a1 : Int32) (a2 : Int32) (a3 : Int32) (a4 : Int32) {dy dd : Nat} (hdd : dy + 1 = dd) (hdB : 6 < dd) (ih0 : ∀ (a b c : Int32) (M M1 : sk_M), self 0 a b c M = some M1 → sk_MV g l yX0_readLevel cX0_readLevel 7 none dy [.ref (sk_ad g 62), .int a, .int b, .int c] M M1) (ih1 : ∀ (a b : Int32) (M M1 : sk_M), self 1 a b 0 M = some M1 → sk_MV g l yX0_readPiece cX0_readPiece 3 none dy [.ref (sk_ad g 62), .int a, .int b] M M1) {MM : sk_M} :
    ∀ (n : Nat) (a5 : Int32) (M : sk_M) (H : Heap) (locs : List Loc) (ls : Array Slot), lv_has ls 7 [(0, .ref (sk_ad g 62)), (1, .int a1), (2, .int a2), (3, .int a3), (4, .int a4), (5, .int a5)] → sk_P g M H → va_S (sk_A g) s.heap H locs → ∀ {out : sk_M}, f_X0_readLevel_L37 self a1 a2 a3 a4 n a5 M = some out → (∀ (M1 : sk_M) (H : Heap) (locs : List Loc) (ls : Array Slot), some M1 = some out → lv_has ls 7 [] → sk_P g M1 H → va_S (sk_A g) s.heap H locs → W p l e (sk_rm dd) s m av below meth c H locs 0 0 (MQ below (sk_QV g MM) av s 0 0 (sk_A g)) (F0 m 92 ls [])) → W p l e (sk_rm dd) s m av below meth c H locs 0 0 (MQ below (sk_QV g MM) av s 0 0 (sk_A g)) (F0 m 37 ls []) := by
  obtain ⟨hx, hb, hml, hown, hts, hK, hE, hr, hlocks⟩ := id C
  intro n
  induction n with
  | zero =>
    intro a5 M H locs ls hl hM hS out h
    cases h
  | succ n ih =>
    intro a5 M H locs ls hl hM hS out h kx
    rw [f_X0_readLevel_L37] at h
    refine lv_iload hx hb dX0_readLevel_37 (lv_at hl 5 rfl) ?_
    refine lv_iload hx hb dX0_readLevel_39 (lv_at hl 4 rfl) ?_
    refine lv_icmp_ge hx hb dX0_readLevel_41 rfl (fun hc => ?_) (fun hc => ?_)
    · have h := sk_pos h hc
      exact kx _ _ _ _ h (lv_sub hl [] rfl) hM hS
    · have h := sk_neg h hc
      refine lv_aload_n hx hb dX0_readLevel_44 rfl (lv_at hl 0 rfl) ?_
      refine lv_iload_n hx hb dX0_readLevel_45 rfl (lv_at hl 1 rfl) ?_
      refine sk_contS (sk_runS (As := [.int a1]) (rest := [.ref (sk_ad g 62)]) C (c_X0_signsOf g l a1 M rfl) yo_X0_signsOf kw_815 (by omega) hM hS hl.1 rfl rfl (Nat.le_of_ble_eq_true rfl) dX0_readLevel_46) hS (fun H locs hM hS => ?_)
      obtain ⟨x_5, h_6, h⟩ := sk_b1E h
      refine sk_contI (sk_runV (As := [.ref (sk_aK g (f_X0_signsOf a1))]) (rest := []) C (c_X0_isSignOf g l (f_X0_signsOf a1) (fs_X0_signsOf a1) M h_6) yo_X0_isSignOf kw_731 (sk_recv (ci := 0) C hM rfl rfl) (by omega) hM hS hl.1 rfl rfl (Nat.le_of_ble_eq_true rfl) dX0_readLevel_49) hS (fun H locs hM hS => ?_)
      refine lv_if_eq hx hb dX0_readLevel_52 rfl (fun hc => ?_) (fun hc => ?_)
      · have h := sk_pos h hc
        exact kx _ _ _ _ h (lv_sub hl [] rfl) hM hS
      · have h := sk_neg h hc
        refine lv_aload_n hx hb dX0_readLevel_55 rfl (lv_at hl 0 rfl) ?_
        refine sk_getR (o := 62) (ci := 0) (j := 0) (t := 63) C hM rfl rfl (by decide) rfl rfl kw_120 dX0_readLevel_56 ?_
        refine lv_aload_n hx hb dX0_readLevel_59 rfl (lv_at hl 0 rfl) ?_
        refine sk_getI (o := 62) (ci := 0) (j := 3) C hM rfl rfl (by decide) rfl kw_125 dX0_readLevel_60 ?_
        obtain ⟨i_7, h⟩ := sk_chkE h
        refine sk_iald (o := 63) C hM rfl i_7 dX0_readLevel_63 ?_
        refine lv_topi (fun x_8 ex_8 => ?_)
        have h := sk_letU h ex_8
        refine lv_istore (lv' := [(6, .int x_8), (0, .ref (sk_ad g 62)), (1, .int a1), (2, .int a2), (3, .int a3), (4, .int a4), (5, .int a5)]) hx hb dX0_readLevel_64 hl (by decide) rfl (fun ls hl => ?_)
        refine lv_aload_n hx hb dX0_readLevel_66 rfl (lv_at hl 1 rfl) ?_
        obtain ⟨M_9, h_10, h⟩ := sk_b1E h
        refine sk_contV (sk_runV (As := []) (rest := []) C (c_X0_moveOn g l  M h_10) yo_X0_moveOn kw_649 (sk_recv (ci := 0) C hM rfl rfl) (by omega) hM hS hl.1 rfl rfl (Nat.le_of_ble_eq_true rfl) dX0_readLevel_67) hS (fun H locs hM hS => ?_)
        refine lv_aload_n hx hb dX0_readLevel_70 rfl (lv_at hl 1 rfl) ?_
        refine lv_iload_n hx hb dX0_readLevel_71 rfl (lv_at hl 2 rfl) ?_
        refine lv_iconst (v := 1) hx hb dX0_readLevel_72 (by decide) ?_
        refine lv_iadd hx hb dX0_readLevel_73 ?_
        refine lv_iload_n hx hb dX0_readLevel_74 rfl (lv_at hl 3 rfl) ?_
        refine lv_iload_n hx hb dX0_readLevel_75 rfl (lv_at hl 4 rfl) ?_
        obtain ⟨M_11, h_12, h⟩ := sk_b1E h
        refine sk_contV (sk_runV (As := [.int (a1 + 1), .int a2, .int a3]) (rest := []) C (ih0 (a1 + 1) a2 a3 _ _ h_12) yo_X0_readLevel kw_722 (sk_recv (ci := 0) C hM rfl rfl) (by omega) hM hS hl.1 rfl rfl (Nat.le_of_ble_eq_true rfl) dX0_readLevel_76) hS (fun H locs hM hS => ?_)
        refine lv_aload_n hx hb dX0_readLevel_79 rfl (lv_at hl 1 rfl) ?_
        refine lv_iload hx hb dX0_readLevel_80 (lv_at hl 0 rfl) ?_
        refine lv_ineg hx hb dX0_readLevel_82 ?_
        obtain ⟨M_13, h_14, h⟩ := sk_b1E h
        refine sk_contV (sk_runV (As := [.int (-x_8)]) (rest := []) C (c_X0_put g l (-x_8) M_11 h_14) yo_X0_put kw_790 (sk_recv (ci := 0) C hM rfl rfl) (by omega) hM hS hl.1 rfl rfl (Nat.le_of_ble_eq_true rfl) dX0_readLevel_83) hS (fun H locs hM hS => ?_)
        refine lv_iinc (v := (a5 + 1)) (lv' := [(5, .int (a5 + 1)), (6, .int x_8), (0, .ref (sk_ad g 62)), (1, .int a1), (2, .int a2), (3, .int a3), (4, .int a4)]) hx hb dX0_readLevel_86 hl (k := 6) rfl rfl (by decide) rfl (fun ls hl => ?_)
        refine lv_goto hx hb dX0_readLevel_89 rfl ?_
        exact ih (a5 + 1) M_13 _ _ _ (lv_sub hl [2, 3, 4, 5, 6, 0] rfl) hM hS h kx
set_option maxHeartbeats 4000000 in
set_option maxRecDepth 100000 in
theorem w_X0_readLevel (g : sk_G) (l : Launch) (self : Nat → Int32 → Int32 → Int32 → sk_M → Option sk_M) (a1 : Int32) (a2 : Int32) (a3 : Int32) {dy dd : Nat} (hdd : dy + 1 = dd) (hdB : 6 < dd) (ih0 : ∀ (a b c : Int32) (M M1 : sk_M), self 0 a b c M = some M1 → sk_MV g l yX0_readLevel cX0_readLevel 7 none dy [.ref (sk_ad g 62), .int a, .int b, .int c] M M1) (ih1 : ∀ (a b : Int32) (M M1 : sk_M), self 1 a b 0 M = some M1 → sk_MV g l yX0_readPiece cX0_readPiece 3 none dy [.ref (sk_ad g 62), .int a, .int b] M M1) (M : sk_M) {MM : sk_M} (h : f_X0_readLevel self a1 a2 a3 M = some MM) : sk_MV g l yX0_readLevel cX0_readLevel 7 none dd [.ref (sk_ad g 62), .int a1, .int a2, .int a3] M MM := by
  refine sk_go [(0, .ref (sk_ad g 62)), (1, .int a1), (2, .int a2), (3, .int a3)] (by decide) (Nat.le_of_ble_eq_true rfl) rfl ?_
  intro p e s m av below meth c C ls hl hM hS
  obtain ⟨hx, hb, hml, hown, hts, hK, hE, hr, hlocks⟩ := id C
  rw [f_X0_readLevel] at h
  refine lv_iload_n hx hb dX0_readLevel_0 rfl (lv_at hl 1 rfl) ?_
  refine lv_iconst (v := 5) hx hb dX0_readLevel_1 (by decide) ?_
  refine lv_icmp_lt hx hb dX0_readLevel_2 rfl (fun hc => ?_) (fun hc => ?_)
  · have h := sk_pos h hc
    refine lv_aload_n hx hb dX0_readLevel_12 rfl (lv_at hl 0 rfl) ?_
    refine lv_iload_n hx hb dX0_readLevel_13 rfl (lv_at hl 1 rfl) ?_
    refine lv_iconst (v := 1) hx hb dX0_readLevel_14 (by decide) ?_
    refine lv_iadd hx hb dX0_readLevel_15 ?_
    refine lv_iload_n hx hb dX0_readLevel_16 rfl (lv_at hl 2 rfl) ?_
    refine lv_iload_n hx hb dX0_readLevel_17 rfl (lv_at hl 3 rfl) ?_
    obtain ⟨M_1, h_2, h⟩ := sk_b1E h
    refine sk_contV (sk_runV (As := [.int (a1 + 1), .int a2, .int a3]) (rest := []) C (ih0 (a1 + 1) a2 a3 _ _ h_2) yo_X0_readLevel kw_722 (sk_recv (ci := 0) C hM rfl rfl) (by omega) hM hS hl.1 rfl rfl (Nat.le_of_ble_eq_true rfl) dX0_readLevel_18) hS (fun H locs hM hS => ?_)
    refine lv_iload_n hx hb dX0_readLevel_21 rfl (lv_at hl 1 rfl) ?_
    refine lv_iconst (v := 2) hx hb dX0_readLevel_22 (by decide) ?_
    have J : ∀ (vv : Int32) (H : Heap) (locs : List Loc), (if a1 = 2 then 1 else 96 : Int32) = vv → sk_P g M_1 H → va_S (sk_A g) s.heap H locs → W p l e (sk_rm dd) s m av below meth c H locs 0 0 (MQ below (sk_QV g MM) av s 0 0 (sk_A g)) (F0 m 32 ls [.int vv]) := by
      intro vv H locs hvv hM hS
      subst hvv
      refine lv_topi (fun x_3 ex_3 => ?_)
      have h := sk_letU h ex_3
      refine lv_istore (lv' := [(4, .int x_3), (0, .ref (sk_ad g 62)), (1, .int a1), (2, .int a2), (3, .int a3)]) hx hb dX0_readLevel_32 hl (by decide) rfl (fun ls hl => ?_)
      refine lv_iconst (v := 0) hx hb dX0_readLevel_34 (by decide) ?_
      refine lv_istore (lv' := [(5, .int 0), (4, .int x_3), (0, .ref (sk_ad g 62)), (1, .int a1), (2, .int a2), (3, .int a3)]) hx hb dX0_readLevel_35 hl (by decide) rfl (fun ls hl => ?_)
      obtain ⟨M_15, h_16, h⟩ := sk_b1E h
      refine w_X0_readLevel_L37 C self a1 a2 a3 x_3 hdd hdB ih0 ih1 sk_FU 0 M_1 _ _ _ (lv_sub hl [2, 3, 4, 5, 1, 0] rfl) hM hS h_16 (fun y_17 H locs ls he hl hM hS => ?_)
      obtain rfl := Option.some.inj he
      exact sk_vret C hM hS (Option.some.inj h) dX0_readLevel_92
    refine lv_icmp_ne hx hb dX0_readLevel_23 rfl (fun hc => ?_) (fun hc => ?_)
    · have J := fun vv H locs q => J vv H locs ((if_neg hc).trans q)
      refine lv_bipush (v := 96) hx hb dX0_readLevel_30 (by decide) ?_
      exact J _ _ _ rfl hM hS
    · have J := fun vv H locs q => J vv H locs ((if_pos hc).trans q)
      refine lv_iconst (v := 1) hx hb dX0_readLevel_26 (by decide) ?_
      refine lv_goto hx hb dX0_readLevel_27 rfl ?_
      exact J _ _ _ rfl hM hS
  · have h := sk_neg h hc
    refine lv_aload_n hx hb dX0_readLevel_5 rfl (lv_at hl 0 rfl) ?_
    refine lv_iload_n hx hb dX0_readLevel_6 rfl (lv_at hl 2 rfl) ?_
    refine lv_iload_n hx hb dX0_readLevel_7 rfl (lv_at hl 3 rfl) ?_
    obtain ⟨M_18, h_19, h⟩ := sk_b1E h
    refine sk_contV (sk_runV (As := [.int a2, .int a3]) (rest := []) C (ih1 a2 a3 _ _ h_19) yo_X0_readPiece kw_726 (sk_recv (ci := 0) C hM rfl rfl) (by omega) hM hS hl.1 rfl rfl (Nat.le_of_ble_eq_true rfl) dX0_readLevel_8) hS (fun H locs hM hS => ?_)
    exact sk_vret C hM hS (Option.some.inj h) dX0_readLevel_11
set_option maxHeartbeats 4000000 in
set_option maxRecDepth 100000 in
theorem w_X0_readPiece (g : sk_G) (l : Launch) (self : Nat → Int32 → Int32 → Int32 → sk_M → Option sk_M) (a1 : Int32) (a2 : Int32) {dy dd : Nat} (hdd : dy + 1 = dd) (hdB : 6 < dd) (ih0 : ∀ (a b c : Int32) (M M1 : sk_M), self 0 a b c M = some M1 → sk_MV g l yX0_readLevel cX0_readLevel 7 none dy [.ref (sk_ad g 62), .int a, .int b, .int c] M M1) (ih1 : ∀ (a b : Int32) (M M1 : sk_M), self 1 a b 0 M = some M1 → sk_MV g l yX0_readPiece cX0_readPiece 3 none dy [.ref (sk_ad g 62), .int a, .int b] M M1) (M : sk_M) {MM : sk_M} (h : f_X0_readPiece self a1 a2 M = some MM) : sk_MV g l yX0_readPiece cX0_readPiece 3 none dd [.ref (sk_ad g 62), .int a1, .int a2] M MM := by
  refine sk_go [(0, .ref (sk_ad g 62)), (1, .int a1), (2, .int a2)] (by decide) (Nat.le_of_ble_eq_true rfl) rfl ?_
  intro p e s m av below meth c C ls hl hM hS
  obtain ⟨hx, hb, hml, hown, hts, hK, hE, hr, hlocks⟩ := id C
  rw [f_X0_readPiece] at h
  refine lv_aload_n hx hb dX0_readPiece_0 rfl (lv_at hl 0 rfl) ?_
  refine va_ldcS (q := sk_aK g 8) hx hb hown (hE.2.2.2.2.2 8 (by decide)) dX0_readPiece_1 ?_
  obtain ⟨x_1, h_2, h⟩ := sk_b1E h
  refine sk_contI (sk_runV (As := [.ref (sk_aK g 8)]) (rest := []) C (c_X0_isSignOf g l 8 (by decide) M h_2) yo_X0_isSignOf kw_731 (sk_recv (ci := 0) C hM rfl rfl) (by omega) hM hS hl.1 rfl rfl (Nat.le_of_ble_eq_true rfl) dX0_readPiece_3) hS (fun H locs hM hS => ?_)
  refine lv_if_eq hx hb dX0_readPiece_6 rfl (fun hc => ?_) (fun hc => ?_)
  · have h := sk_pos h hc
    refine lv_aload_n hx hb dX0_readPiece_36 rfl (lv_at hl 0 rfl) ?_
    refine va_ldcS (q := sk_aK g 9) hx hb hown (hE.2.2.2.2.2 9 (by decide)) dX0_readPiece_37 ?_
    obtain ⟨x_3, h_4, h⟩ := sk_b1E h
    refine sk_contI (sk_runV (As := [.ref (sk_aK g 9)]) (rest := []) C (c_X0_isSignOf g l 9 (by decide) M h_4) yo_X0_isSignOf kw_731 (sk_recv (ci := 0) C hM rfl rfl) (by omega) hM hS hl.1 rfl rfl (Nat.le_of_ble_eq_true rfl) dX0_readPiece_39) hS (fun H locs hM hS => ?_)
    refine lv_if_eq hx hb dX0_readPiece_42 rfl (fun hc => ?_) (fun hc => ?_)
    · have h := sk_pos h hc
      refine lv_aload_n hx hb dX0_readPiece_87 rfl (lv_at hl 0 rfl) ?_
      obtain ⟨M_5, h_6, h⟩ := sk_b1E h
      refine sk_contV (sk_runV (As := []) (rest := []) C (c_X0_readLeaf g l  M h_6) yo_X0_readLeaf kw_796 (sk_recv (ci := 0) C hM rfl rfl) (by omega) hM hS hl.1 rfl rfl (Nat.le_of_ble_eq_true rfl) dX0_readPiece_88) hS (fun H locs hM hS => ?_)
      exact sk_vret C hM hS (Option.some.inj h) dX0_readPiece_91
    · have h := sk_neg h hc
      refine lv_iload_n hx hb dX0_readPiece_45 rfl (lv_at hl 1 rfl) ?_
      refine lv_bipush (v := 8) hx hb dX0_readPiece_46 (by decide) ?_
      refine lv_icmp_ge hx hb dX0_readPiece_48 rfl (fun hc => ?_) (fun hc => ?_)
      · have h := sk_pos h hc
        refine lv_aload_n hx hb dX0_readPiece_87 rfl (lv_at hl 0 rfl) ?_
        obtain ⟨M_7, h_8, h⟩ := sk_b1E h
        refine sk_contV (sk_runV (As := []) (rest := []) C (c_X0_readLeaf g l  M h_8) yo_X0_readLeaf kw_796 (sk_recv (ci := 0) C hM rfl rfl) (by omega) hM hS hl.1 rfl rfl (Nat.le_of_ble_eq_true rfl) dX0_readPiece_88) hS (fun H locs hM hS => ?_)
        exact sk_vret C hM hS (Option.some.inj h) dX0_readPiece_91
      · have h := sk_neg h hc
        refine lv_aload_n hx hb dX0_readPiece_51 rfl (lv_at hl 0 rfl) ?_
        obtain ⟨M_9, h_10, h⟩ := sk_b1E h
        refine sk_contV (sk_runV (As := []) (rest := []) C (c_X0_moveOn g l  M h_10) yo_X0_moveOn kw_649 (sk_recv (ci := 0) C hM rfl rfl) (by omega) hM hS hl.1 rfl rfl (Nat.le_of_ble_eq_true rfl) dX0_readPiece_52) hS (fun H locs hM hS => ?_)
        refine lv_aload_n hx hb dX0_readPiece_55 rfl (lv_at hl 0 rfl) ?_
        refine lv_iconst (v := 0) hx hb dX0_readPiece_56 (by decide) ?_
        refine lv_iload_n hx hb dX0_readPiece_57 rfl (lv_at hl 1 rfl) ?_
        refine lv_iconst (v := 1) hx hb dX0_readPiece_58 (by decide) ?_
        refine lv_iadd hx hb dX0_readPiece_59 ?_
        refine lv_iload_n hx hb dX0_readPiece_60 rfl (lv_at hl 2 rfl) ?_
        obtain ⟨M_11, h_12, h⟩ := sk_b1E h
        refine sk_contV (sk_runV (As := [.int 0, .int (a1 + 1), .int a2]) (rest := []) C (ih0 0 (a1 + 1) a2 _ _ h_12) yo_X0_readLevel kw_722 (sk_recv (ci := 0) C hM rfl rfl) (by omega) hM hS hl.1 rfl rfl (Nat.le_of_ble_eq_true rfl) dX0_readPiece_61) hS (fun H locs hM hS => ?_)
        refine lv_aload_n hx hb dX0_readPiece_64 rfl (lv_at hl 0 rfl) ?_
        refine va_ldcS (q := sk_aK g 10) hx hb hown (hE.2.2.2.2.2 10 (by decide)) dX0_readPiece_65 ?_
        obtain ⟨x_13, h_14, h⟩ := sk_b1E h
        refine sk_contI (sk_runV (As := [.ref (sk_aK g 10)]) (rest := []) C (c_X0_isSignOf g l 10 (by decide) M_11 h_14) yo_X0_isSignOf kw_731 (sk_recv (ci := 0) C hM rfl rfl) (by omega) hM hS hl.1 rfl rfl (Nat.le_of_ble_eq_true rfl) dX0_readPiece_67) hS (fun H locs hM hS => ?_)
        refine lv_if_eq hx hb dX0_readPiece_70 rfl (fun hc => ?_) (fun hc => ?_)
        · have h := sk_pos h hc
          refine lv_aload_n hx hb dX0_readPiece_80 rfl (lv_at hl 0 rfl) ?_
          obtain ⟨M_15, h_16, h⟩ := sk_b1E h
          refine sk_contV (sk_runV (As := []) (rest := []) C (c_X0_fail g l  M_11 h_16) yo_X0_fail kw_659 (sk_recv (ci := 0) C hM rfl rfl) (by omega) hM hS hl.1 rfl rfl (Nat.le_of_ble_eq_true rfl) dX0_readPiece_81) hS (fun H locs hM hS => ?_)
          refine lv_goto hx hb dX0_readPiece_84 rfl ?_
          exact sk_vret C hM hS (Option.some.inj h) dX0_readPiece_91
        · have h := sk_neg h hc
          refine lv_aload_n hx hb dX0_readPiece_73 rfl (lv_at hl 0 rfl) ?_
          obtain ⟨M_17, h_18, h⟩ := sk_b1E h
          refine sk_contV (sk_runV (As := []) (rest := []) C (c_X0_moveOn g l  M_11 h_18) yo_X0_moveOn kw_649 (sk_recv (ci := 0) C hM rfl rfl) (by omega) hM hS hl.1 rfl rfl (Nat.le_of_ble_eq_true rfl) dX0_readPiece_74) hS (fun H locs hM hS => ?_)
          refine lv_goto hx hb dX0_readPiece_77 rfl ?_
          exact sk_vret C hM hS (Option.some.inj h) dX0_readPiece_91
  · have h := sk_neg h hc
    refine lv_iload_n hx hb dX0_readPiece_9 rfl (lv_at hl 2 rfl) ?_
    refine lv_bipush (v := 8) hx hb dX0_readPiece_10 (by decide) ?_
    refine lv_icmp_ge hx hb dX0_readPiece_12 rfl (fun hc => ?_) (fun hc => ?_)
    · have h := sk_pos h hc
      refine lv_aload_n hx hb dX0_readPiece_36 rfl (lv_at hl 0 rfl) ?_
      refine va_ldcS (q := sk_aK g 9) hx hb hown (hE.2.2.2.2.2 9 (by decide)) dX0_readPiece_37 ?_
      obtain ⟨x_19, h_20, h⟩ := sk_b1E h
      refine sk_contI (sk_runV (As := [.ref (sk_aK g 9)]) (rest := []) C (c_X0_isSignOf g l 9 (by decide) M h_20) yo_X0_isSignOf kw_731 (sk_recv (ci := 0) C hM rfl rfl) (by omega) hM hS hl.1 rfl rfl (Nat.le_of_ble_eq_true rfl) dX0_readPiece_39) hS (fun H locs hM hS => ?_)
      refine lv_if_eq hx hb dX0_readPiece_42 rfl (fun hc => ?_) (fun hc => ?_)
      · have h := sk_pos h hc
        refine lv_aload_n hx hb dX0_readPiece_87 rfl (lv_at hl 0 rfl) ?_
        obtain ⟨M_21, h_22, h⟩ := sk_b1E h
        refine sk_contV (sk_runV (As := []) (rest := []) C (c_X0_readLeaf g l  M h_22) yo_X0_readLeaf kw_796 (sk_recv (ci := 0) C hM rfl rfl) (by omega) hM hS hl.1 rfl rfl (Nat.le_of_ble_eq_true rfl) dX0_readPiece_88) hS (fun H locs hM hS => ?_)
        exact sk_vret C hM hS (Option.some.inj h) dX0_readPiece_91
      · have h := sk_neg h hc
        refine lv_iload_n hx hb dX0_readPiece_45 rfl (lv_at hl 1 rfl) ?_
        refine lv_bipush (v := 8) hx hb dX0_readPiece_46 (by decide) ?_
        refine lv_icmp_ge hx hb dX0_readPiece_48 rfl (fun hc => ?_) (fun hc => ?_)
        · have h := sk_pos h hc
          refine lv_aload_n hx hb dX0_readPiece_87 rfl (lv_at hl 0 rfl) ?_
          obtain ⟨M_23, h_24, h⟩ := sk_b1E h
          refine sk_contV (sk_runV (As := []) (rest := []) C (c_X0_readLeaf g l  M h_24) yo_X0_readLeaf kw_796 (sk_recv (ci := 0) C hM rfl rfl) (by omega) hM hS hl.1 rfl rfl (Nat.le_of_ble_eq_true rfl) dX0_readPiece_88) hS (fun H locs hM hS => ?_)
          exact sk_vret C hM hS (Option.some.inj h) dX0_readPiece_91
        · have h := sk_neg h hc
          refine lv_aload_n hx hb dX0_readPiece_51 rfl (lv_at hl 0 rfl) ?_
          obtain ⟨M_25, h_26, h⟩ := sk_b1E h
          refine sk_contV (sk_runV (As := []) (rest := []) C (c_X0_moveOn g l  M h_26) yo_X0_moveOn kw_649 (sk_recv (ci := 0) C hM rfl rfl) (by omega) hM hS hl.1 rfl rfl (Nat.le_of_ble_eq_true rfl) dX0_readPiece_52) hS (fun H locs hM hS => ?_)
          refine lv_aload_n hx hb dX0_readPiece_55 rfl (lv_at hl 0 rfl) ?_
          refine lv_iconst (v := 0) hx hb dX0_readPiece_56 (by decide) ?_
          refine lv_iload_n hx hb dX0_readPiece_57 rfl (lv_at hl 1 rfl) ?_
          refine lv_iconst (v := 1) hx hb dX0_readPiece_58 (by decide) ?_
          refine lv_iadd hx hb dX0_readPiece_59 ?_
          refine lv_iload_n hx hb dX0_readPiece_60 rfl (lv_at hl 2 rfl) ?_
          obtain ⟨M_27, h_28, h⟩ := sk_b1E h
          refine sk_contV (sk_runV (As := [.int 0, .int (a1 + 1), .int a2]) (rest := []) C (ih0 0 (a1 + 1) a2 _ _ h_28) yo_X0_readLevel kw_722 (sk_recv (ci := 0) C hM rfl rfl) (by omega) hM hS hl.1 rfl rfl (Nat.le_of_ble_eq_true rfl) dX0_readPiece_61) hS (fun H locs hM hS => ?_)
          refine lv_aload_n hx hb dX0_readPiece_64 rfl (lv_at hl 0 rfl) ?_
          refine va_ldcS (q := sk_aK g 10) hx hb hown (hE.2.2.2.2.2 10 (by decide)) dX0_readPiece_65 ?_
          obtain ⟨x_29, h_30, h⟩ := sk_b1E h
          refine sk_contI (sk_runV (As := [.ref (sk_aK g 10)]) (rest := []) C (c_X0_isSignOf g l 10 (by decide) M_27 h_30) yo_X0_isSignOf kw_731 (sk_recv (ci := 0) C hM rfl rfl) (by omega) hM hS hl.1 rfl rfl (Nat.le_of_ble_eq_true rfl) dX0_readPiece_67) hS (fun H locs hM hS => ?_)
          refine lv_if_eq hx hb dX0_readPiece_70 rfl (fun hc => ?_) (fun hc => ?_)
          · have h := sk_pos h hc
            refine lv_aload_n hx hb dX0_readPiece_80 rfl (lv_at hl 0 rfl) ?_
            obtain ⟨M_31, h_32, h⟩ := sk_b1E h
            refine sk_contV (sk_runV (As := []) (rest := []) C (c_X0_fail g l  M_27 h_32) yo_X0_fail kw_659 (sk_recv (ci := 0) C hM rfl rfl) (by omega) hM hS hl.1 rfl rfl (Nat.le_of_ble_eq_true rfl) dX0_readPiece_81) hS (fun H locs hM hS => ?_)
            refine lv_goto hx hb dX0_readPiece_84 rfl ?_
            exact sk_vret C hM hS (Option.some.inj h) dX0_readPiece_91
          · have h := sk_neg h hc
            refine lv_aload_n hx hb dX0_readPiece_73 rfl (lv_at hl 0 rfl) ?_
            obtain ⟨M_33, h_34, h⟩ := sk_b1E h
            refine sk_contV (sk_runV (As := []) (rest := []) C (c_X0_moveOn g l  M_27 h_34) yo_X0_moveOn kw_649 (sk_recv (ci := 0) C hM rfl rfl) (by omega) hM hS hl.1 rfl rfl (Nat.le_of_ble_eq_true rfl) dX0_readPiece_74) hS (fun H locs hM hS => ?_)
            refine lv_goto hx hb dX0_readPiece_77 rfl ?_
            exact sk_vret C hM hS (Option.some.inj h) dX0_readPiece_91
    · have h := sk_neg h hc
      refine lv_aload_n hx hb dX0_readPiece_15 rfl (lv_at hl 0 rfl) ?_
      obtain ⟨M_35, h_36, h⟩ := sk_b1E h
      refine sk_contV (sk_runV (As := []) (rest := []) C (c_X0_moveOn g l  M h_36) yo_X0_moveOn kw_649 (sk_recv (ci := 0) C hM rfl rfl) (by omega) hM hS hl.1 rfl rfl (Nat.le_of_ble_eq_true rfl) dX0_readPiece_16) hS (fun H locs hM hS => ?_)
      refine lv_aload_n hx hb dX0_readPiece_19 rfl (lv_at hl 0 rfl) ?_
      refine lv_iload_n hx hb dX0_readPiece_20 rfl (lv_at hl 1 rfl) ?_
      refine lv_iload_n hx hb dX0_readPiece_21 rfl (lv_at hl 2 rfl) ?_
      refine lv_iconst (v := 1) hx hb dX0_readPiece_22 (by decide) ?_
      refine lv_iadd hx hb dX0_readPiece_23 ?_
      obtain ⟨M_37, h_38, h⟩ := sk_b1E h
      refine sk_contV (sk_runV (As := [.int a1, .int (a2 + 1)]) (rest := []) C (ih1 a1 (a2 + 1) _ _ h_38) yo_X0_readPiece kw_726 (sk_recv (ci := 0) C hM rfl rfl) (by omega) hM hS hl.1 rfl rfl (Nat.le_of_ble_eq_true rfl) dX0_readPiece_24) hS (fun H locs hM hS => ?_)
      refine lv_aload_n hx hb dX0_readPiece_27 rfl (lv_at hl 0 rfl) ?_
      refine lv_bipush (v := (-33)) hx hb dX0_readPiece_28 (by decide) ?_
      obtain ⟨M_39, h_40, h⟩ := sk_b1E h
      refine sk_contV (sk_runV (As := [.int (-33)]) (rest := []) C (c_X0_put g l (-33) M_37 h_40) yo_X0_put kw_790 (sk_recv (ci := 0) C hM rfl rfl) (by omega) hM hS hl.1 rfl rfl (Nat.le_of_ble_eq_true rfl) dX0_readPiece_30) hS (fun H locs hM hS => ?_)
      refine lv_goto hx hb dX0_readPiece_33 rfl ?_
      exact sk_vret C hM hS (Option.some.inj h) dX0_readPiece_91
theorem k_G0 (g : sk_G) (l : Launch) : ∀ n : Nat, (∀ (a b c : Int32) (M M1 : sk_M), f_G0 n 0 a b c M = some M1 → sk_MV g l yX0_readLevel cX0_readLevel 7 none (6 + n) [.ref (sk_ad g 62), .int a, .int b, .int c] M M1) ∧ (∀ (a b : Int32) (M M1 : sk_M), f_G0 n 1 a b 0 M = some M1 → sk_MV g l yX0_readPiece cX0_readPiece 3 none (6 + n) [.ref (sk_ad g 62), .int a, .int b] M M1) := by
  intro n
  induction n with
  | zero => exact ⟨fun _ _ _ _ _ h => (by cases h), fun _ _ _ _ h => (by cases h)⟩
  | succ n ih =>
    obtain ⟨ih0, ih1⟩ := ih
    exact ⟨fun a b c M M1 h => w_X0_readLevel g l (f_G0 n) a b c (dy := 6 + n) (dd := 6 + (n + 1)) rfl (by omega) ih0 ih1 M h, fun a b M M1 h => w_X0_readPiece g l (f_G0 n) a b (dy := 6 + n) (dd := 6 + (n + 1)) rfl (by omega) ih0 ih1 M h⟩
theorem k_RD : sk_RD = 120 := rfl
theorem c_X0_readLevel (g : sk_G) (l : Launch) (a1 : Int32) (a2 : Int32) (a3 : Int32) (M : sk_M) {MM : sk_M} (h : f_G0 sk_RD 0 a1 a2 a3 M = some MM) : sk_MV g l yX0_readLevel cX0_readLevel 7 none 126 [.ref (sk_ad g 62), .int a1, .int a2, .int a3] M MM := (k_G0 g l sk_RD).1 a1 a2 a3 M MM h
theorem c_X0_readPiece (g : sk_G) (l : Launch) (a1 : Int32) (a2 : Int32) (M : sk_M) {MM : sk_M} (h : f_G0 sk_RD 1 a1 a2 0 M = some MM) : sk_MV g l yX0_readPiece cX0_readPiece 3 none 126 [.ref (sk_ad g 62), .int a1, .int a2] M MM := (k_G0 g l sk_RD).2 a1 a2 M MM h
theorem dX0_readTape_0 : decode cX0_readTape 0 = .ok (.aload_n 0, 1) := by decide +kernel
theorem dX0_readTape_1 : decode cX0_readTape 1 = .ok (.iconst (-1), 1) := by decide +kernel
theorem dX0_readTape_2 : decode cX0_readTape 2 = .ok (.putfield 22, 3) := by decide +kernel
theorem dX0_readTape_5 : decode cX0_readTape 5 = .ok (.aload_n 0, 1) := by decide +kernel
theorem dX0_readTape_6 : decode cX0_readTape 6 = .ok (.iconst 0, 1) := by decide +kernel
theorem dX0_readTape_7 : decode cX0_readTape 7 = .ok (.putfield 25, 3) := by decide +kernel
theorem dX0_readTape_10 : decode cX0_readTape 10 = .ok (.aload_n 0, 1) := by decide +kernel
theorem dX0_readTape_11 : decode cX0_readTape 11 = .ok (.iconst 0, 1) := by decide +kernel
theorem dX0_readTape_12 : decode cX0_readTape 12 = .ok (.putfield 28, 3) := by decide +kernel
theorem dX0_readTape_15 : decode cX0_readTape 15 = .ok (.aload_n 0, 1) := by decide +kernel
theorem dX0_readTape_16 : decode cX0_readTape 16 = .ok (.iconst 0, 1) := by decide +kernel
theorem dX0_readTape_17 : decode cX0_readTape 17 = .ok (.putfield 31, 3) := by decide +kernel
theorem dX0_readTape_20 : decode cX0_readTape 20 = .ok (.aload_n 0, 1) := by decide +kernel
theorem dX0_readTape_21 : decode cX0_readTape 21 = .ok (.invokevirtual 34, 3) := by decide +kernel
theorem dX0_readTape_24 : decode cX0_readTape 24 = .ok (.aload_n 0, 1) := by decide +kernel
theorem dX0_readTape_25 : decode cX0_readTape 25 = .ok (.aload_n 0, 1) := by decide +kernel
theorem dX0_readTape_26 : decode cX0_readTape 26 = .ok (.invokevirtual 37, 3) := by decide +kernel
theorem dX0_readTape_29 : decode cX0_readTape 29 = .ok (.putfield 41, 3) := by decide +kernel
theorem dX0_readTape_32 : decode cX0_readTape 32 = .ok (.aload_n 0, 1) := by decide +kernel
theorem dX0_readTape_33 : decode cX0_readTape 33 = .ok (.getfield 41, 3) := by decide +kernel
theorem dX0_readTape_36 : decode cX0_readTape 36 = .ok (.ifCond .ge 12, 3) := by decide +kernel
theorem dX0_readTape_39 : decode cX0_readTape 39 = .ok (.aload_n 0, 1) := by decide +kernel
theorem dX0_readTape_40 : decode cX0_readTape 40 = .ok (.invokevirtual 44, 3) := by decide +kernel
theorem dX0_readTape_43 : decode cX0_readTape 43 = .ok (.aload_n 0, 1) := by decide +kernel
theorem dX0_readTape_44 : decode cX0_readTape 44 = .ok (.getfield 22, 3) := by decide +kernel
theorem dX0_readTape_47 : decode cX0_readTape 47 = .ok (.ireturn, 1) := by decide +kernel
theorem dX0_readTape_48 : decode cX0_readTape 48 = .ok (.aload_n 0, 1) := by decide +kernel
theorem dX0_readTape_49 : decode cX0_readTape 49 = .ok (.invokevirtual 34, 3) := by decide +kernel
theorem dX0_readTape_52 : decode cX0_readTape 52 = .ok (.aload_n 0, 1) := by decide +kernel
theorem dX0_readTape_53 : decode cX0_readTape 53 = .ok (.iconst 0, 1) := by decide +kernel
theorem dX0_readTape_54 : decode cX0_readTape 54 = .ok (.iconst 0, 1) := by decide +kernel
theorem dX0_readTape_55 : decode cX0_readTape 55 = .ok (.iconst 0, 1) := by decide +kernel
theorem dX0_readTape_56 : decode cX0_readTape 56 = .ok (.invokevirtual 47, 3) := by decide +kernel
theorem dX0_readTape_59 : decode cX0_readTape 59 = .ok (.aload_n 0, 1) := by decide +kernel
theorem dX0_readTape_60 : decode cX0_readTape 60 = .ok (.getfield 51, 3) := by decide +kernel
theorem dX0_readTape_63 : decode cX0_readTape 63 = .ok (.aload_n 0, 1) := by decide +kernel
theorem dX0_readTape_64 : decode cX0_readTape 64 = .ok (.getfield 18, 3) := by decide +kernel
theorem dX0_readTape_67 : decode cX0_readTape 67 = .ok (.if_icmp .ge 7, 3) := by decide +kernel
theorem dX0_readTape_70 : decode cX0_readTape 70 = .ok (.aload_n 0, 1) := by decide +kernel
theorem dX0_readTape_71 : decode cX0_readTape 71 = .ok (.invokevirtual 44, 3) := by decide +kernel
theorem dX0_readTape_74 : decode cX0_readTape 74 = .ok (.aload_n 0, 1) := by decide +kernel
theorem dX0_readTape_75 : decode cX0_readTape 75 = .ok (.getfield 22, 3) := by decide +kernel
theorem dX0_readTape_78 : decode cX0_readTape 78 = .ok (.ireturn, 1) := by decide +kernel
set_option maxHeartbeats 4000000 in
set_option maxRecDepth 100000 in
theorem c_X0_readTape (g : sk_G) (l : Launch)  (M : sk_M) {rr : Int32} {MM : sk_M} (h : f_X0_readTape M = some (rr, MM)) : sk_MI g l yX0_readTape cX0_readTape 1 (some .int) 127 [.ref (sk_ad g 62)] M rr MM := by
  refine sk_go [(0, .ref (sk_ad g 62))] (by decide) (Nat.le_of_ble_eq_true rfl) rfl ?_
  intro p e s m av below meth c C ls hl hM hS
  obtain ⟨hx, hb, hml, hown, hts, hK, hE, hr, hlocks⟩ := id C
  rw [f_X0_readTape] at h
  refine lv_aload_n hx hb dX0_readTape_0 rfl (lv_at hl 0 rfl) ?_
  refine lv_iconst (v := (-1)) hx hb dX0_readTape_1 (by decide) ?_
  refine sk_putI (o := 62) (ci := 0) (j := 5) C hM hS rfl rfl (by decide) rfl rfl (tyX0_ok 5 (by decide)) kw_127 dX0_readTape_2 (fun M_1 eM_1 H locs hM hS => ?_)
  have h := sk_letU h eM_1
  refine lv_aload_n hx hb dX0_readTape_5 rfl (lv_at hl 0 rfl) ?_
  refine lv_iconst (v := 0) hx hb dX0_readTape_6 (by decide) ?_
  refine sk_putI (o := 62) (ci := 0) (j := 4) C hM hS rfl rfl (by decide) rfl rfl (tyX0_ok 4 (by decide)) kw_126 dX0_readTape_7 (fun M_2 eM_2 H locs hM hS => ?_)
  have h := sk_letU h eM_2
  refine lv_aload_n hx hb dX0_readTape_10 rfl (lv_at hl 0 rfl) ?_
  refine lv_iconst (v := 0) hx hb dX0_readTape_11 (by decide) ?_
  refine sk_putI (o := 62) (ci := 0) (j := 7) C hM hS rfl rfl (by decide) rfl rfl (tyX0_ok 7 (by decide)) kw_132 dX0_readTape_12 (fun M_3 eM_3 H locs hM hS => ?_)
  have h := sk_letU h eM_3
  refine lv_aload_n hx hb dX0_readTape_15 rfl (lv_at hl 0 rfl) ?_
  refine lv_iconst (v := 0) hx hb dX0_readTape_16 (by decide) ?_
  refine sk_putI (o := 62) (ci := 0) (j := 8) C hM hS rfl rfl (by decide) rfl rfl (tyX0_ok 8 (by decide)) kw_134 dX0_readTape_17 (fun M_4 eM_4 H locs hM hS => ?_)
  have h := sk_letU h eM_4
  refine lv_aload_n hx hb dX0_readTape_20 rfl (lv_at hl 0 rfl) ?_
  obtain ⟨M_5, h_6, h⟩ := sk_b1E h
  refine sk_contV (sk_runV (As := []) (rest := []) C (c_X0_moveOn g l  M_4 h_6) yo_X0_moveOn kw_649 (sk_recv (ci := 0) C hM rfl rfl) (by decide) hM hS hl.1 rfl rfl (Nat.le_of_ble_eq_true rfl) dX0_readTape_21) hS (fun H locs hM hS => ?_)
  refine lv_aload_n hx hb dX0_readTape_24 rfl (lv_at hl 0 rfl) ?_
  refine lv_aload_n hx hb dX0_readTape_25 rfl (lv_at hl 0 rfl) ?_
  obtain ⟨x_7, h_8, h⟩ := sk_b1E h
  refine sk_contI (sk_runV (As := []) (rest := [.ref (sk_ad g 62)]) C (c_X0_keyHere g l  M_5 h_8) yo_X0_keyHere kw_663 (sk_recv (ci := 0) C hM rfl rfl) (by decide) hM hS hl.1 rfl rfl (Nat.le_of_ble_eq_true rfl) dX0_readTape_26) hS (fun H locs hM hS => ?_)
  refine sk_putI (o := 62) (ci := 0) (j := 6) C hM hS rfl rfl (by decide) rfl rfl (tyX0_ok 6 (by decide)) kw_129 dX0_readTape_29 (fun M_9 eM_9 H locs hM hS => ?_)
  have h := sk_letU h eM_9
  refine lv_aload_n hx hb dX0_readTape_32 rfl (lv_at hl 0 rfl) ?_
  refine sk_getI (o := 62) (ci := 0) (j := 6) C hM rfl rfl (by decide) rfl kw_129 dX0_readTape_33 ?_
  refine lv_if_ge hx hb dX0_readTape_36 rfl (fun hc => ?_) (fun hc => ?_)
  · have h := sk_pos h hc
    refine lv_aload_n hx hb dX0_readTape_48 rfl (lv_at hl 0 rfl) ?_
    obtain ⟨M_10, h_11, h⟩ := sk_b1E h
    refine sk_contV (sk_runV (As := []) (rest := []) C (c_X0_moveOn g l  M_9 h_11) yo_X0_moveOn kw_649 (sk_recv (ci := 0) C hM rfl rfl) (by decide) hM hS hl.1 rfl rfl (Nat.le_of_ble_eq_true rfl) dX0_readTape_49) hS (fun H locs hM hS => ?_)
    refine lv_aload_n hx hb dX0_readTape_52 rfl (lv_at hl 0 rfl) ?_
    refine lv_iconst (v := 0) hx hb dX0_readTape_53 (by decide) ?_
    refine lv_iconst (v := 0) hx hb dX0_readTape_54 (by decide) ?_
    refine lv_iconst (v := 0) hx hb dX0_readTape_55 (by decide) ?_
    obtain ⟨M_12, h_13, h⟩ := sk_b1E h
    refine sk_contV (sk_runV (As := [.int 0, .int 0, .int 0]) (rest := []) C (c_X0_readLevel g l 0 0 0 M_10 h_13) yo_X0_readLevel kw_722 (sk_recv (ci := 0) C hM rfl rfl) (by decide) hM hS hl.1 rfl rfl (Nat.le_of_ble_eq_true rfl) dX0_readTape_56) hS (fun H locs hM hS => ?_)
    refine lv_aload_n hx hb dX0_readTape_59 rfl (lv_at hl 0 rfl) ?_
    refine sk_getI (o := 62) (ci := 0) (j := 3) C hM rfl rfl (by decide) rfl kw_125 dX0_readTape_60 ?_
    refine lv_aload_n hx hb dX0_readTape_63 rfl (lv_at hl 0 rfl) ?_
    refine sk_getI (o := 62) (ci := 0) (j := 2) C hM rfl rfl (by decide) rfl kw_123 dX0_readTape_64 ?_
    refine lv_icmp_ge hx hb dX0_readTape_67 rfl (fun hc => ?_) (fun hc => ?_)
    · have h := sk_pos h hc
      refine lv_aload_n hx hb dX0_readTape_74 rfl (lv_at hl 0 rfl) ?_
      refine sk_getI (o := 62) (ci := 0) (j := 5) C hM rfl rfl (by decide) rfl kw_127 dX0_readTape_75 ?_
      exact sk_iret C hM hS (sk_e2 h) dX0_readTape_78
    · have h := sk_neg h hc
      refine lv_aload_n hx hb dX0_readTape_70 rfl (lv_at hl 0 rfl) ?_
      obtain ⟨M_14, h_15, h⟩ := sk_b1E h
      refine sk_contV (sk_runV (As := []) (rest := []) C (c_X0_fail g l  M_12 h_15) yo_X0_fail kw_659 (sk_recv (ci := 0) C hM rfl rfl) (by decide) hM hS hl.1 rfl rfl (Nat.le_of_ble_eq_true rfl) dX0_readTape_71) hS (fun H locs hM hS => ?_)
      refine lv_aload_n hx hb dX0_readTape_74 rfl (lv_at hl 0 rfl) ?_
      refine sk_getI (o := 62) (ci := 0) (j := 5) C hM rfl rfl (by decide) rfl kw_127 dX0_readTape_75 ?_
      exact sk_iret C hM hS (sk_e2 h) dX0_readTape_78
  · have h := sk_neg h hc
    refine lv_aload_n hx hb dX0_readTape_39 rfl (lv_at hl 0 rfl) ?_
    obtain ⟨M_16, h_17, h⟩ := sk_b1E h
    refine sk_contV (sk_runV (As := []) (rest := []) C (c_X0_fail g l  M_9 h_17) yo_X0_fail kw_659 (sk_recv (ci := 0) C hM rfl rfl) (by decide) hM hS hl.1 rfl rfl (Nat.le_of_ble_eq_true rfl) dX0_readTape_40) hS (fun H locs hM hS => ?_)
    refine lv_aload_n hx hb dX0_readTape_43 rfl (lv_at hl 0 rfl) ?_
    refine sk_getI (o := 62) (ci := 0) (j := 5) C hM rfl rfl (by decide) rfl kw_127 dX0_readTape_44 ?_
    exact sk_iret C hM hS (sk_e2 h) dX0_readTape_47
theorem dJ7_fill_53178_0 : decode cJ7_fill_53178 0 = .ok (.iconst 0, 1) := by decide +kernel
theorem dJ7_fill_53178_1 : decode cJ7_fill_53178 1 = .ok (.istore_n 2, 1) := by decide +kernel
theorem dJ7_fill_53178_2 : decode cJ7_fill_53178 2 = .ok (.aload_n 0, 1) := by decide +kernel
theorem dJ7_fill_53178_3 : decode cJ7_fill_53178 3 = .ok (.arraylength, 1) := by decide +kernel
theorem dJ7_fill_53178_4 : decode cJ7_fill_53178 4 = .ok (.istore_n 3, 1) := by decide +kernel
theorem dJ7_fill_53178_5 : decode cJ7_fill_53178 5 = .ok (.iload_n 2, 1) := by decide +kernel
theorem dJ7_fill_53178_6 : decode cJ7_fill_53178 6 = .ok (.iload_n 3, 1) := by decide +kernel
theorem dJ7_fill_53178_7 : decode cJ7_fill_53178 7 = .ok (.if_icmp .ge 13, 3) := by decide +kernel
theorem dJ7_fill_53178_10 : decode cJ7_fill_53178 10 = .ok (.aload_n 0, 1) := by decide +kernel
theorem dJ7_fill_53178_11 : decode cJ7_fill_53178 11 = .ok (.iload_n 2, 1) := by decide +kernel
theorem dJ7_fill_53178_12 : decode cJ7_fill_53178 12 = .ok (.iload_n 1, 1) := by decide +kernel
theorem dJ7_fill_53178_13 : decode cJ7_fill_53178 13 = .ok (.iastore, 1) := by decide +kernel
theorem dJ7_fill_53178_14 : decode cJ7_fill_53178 14 = .ok (.iinc 2 1, 3) := by decide +kernel
theorem dJ7_fill_53178_17 : decode cJ7_fill_53178 17 = .ok (.goto (-12), 3) := by decide +kernel
theorem dJ7_fill_53178_20 : decode cJ7_fill_53178 20 = .ok (.return_, 1) := by decide +kernel
set_option maxHeartbeats 4000000 in
set_option maxRecDepth 100000 in
theorem w_J7_fill_53178_L5 {g : sk_G} {l : Launch} {p : Program} {e : Env} {s : State} {m : MethodId} {av : Array Value} {below : List Frame} {meth : Method} {c : Code} (C : sk_C g p s m av meth c cJ7_fill_53178 4 RJ7 none) (o0 n0 : Nat) (q0 : sk_kd o0 = (0, n0)) (a1 : Int32) (a3 : Int32) {MM : sk_M} :
    ∀ (n : Nat) (a2 : Int32) (M : sk_M) (H : Heap) (locs : List Loc) (ls : Array Slot), lv_has ls 4 [(0, .ref (sk_ad g o0)), (1, .int a1), (2, .int a2), (3, .int a3)] → sk_P g M H → va_S (sk_A g) s.heap H locs → ∀ {out : sk_M}, f_J7_fill_53178_L5 o0 n0 a1 a3 n a2 M = some out → (∀ (M1 : sk_M) (H : Heap) (locs : List Loc) (ls : Array Slot), some M1 = some out → lv_has ls 4 [] → sk_P g M1 H → va_S (sk_A g) s.heap H locs → W p l e (sk_rm 1) s m av below meth c H locs 0 0 (MQ below (sk_QV g MM) av s 0 0 (sk_A g)) (F0 m 20 ls [])) → W p l e (sk_rm 1) s m av below meth c H locs 0 0 (MQ below (sk_QV g MM) av s 0 0 (sk_A g)) (F0 m 5 ls []) := by
  obtain ⟨hx, hb, hml, hown, hts, hK, hE, hr, hlocks⟩ := id C
  intro n
  induction n with
  | zero =>
    intro a2 M H locs ls hl hM hS out h
    cases h
  | succ n ih =>
    intro a2 M H locs ls hl hM hS out h kx
    rw [f_J7_fill_53178_L5] at h
    refine lv_iload_n hx hb dJ7_fill_53178_5 rfl (lv_at hl 2 rfl) ?_
    refine lv_iload_n hx hb dJ7_fill_53178_6 rfl (lv_at hl 3 rfl) ?_
    refine lv_icmp_ge hx hb dJ7_fill_53178_7 rfl (fun hc => ?_) (fun hc => ?_)
    · have h := sk_pos h hc
      exact kx _ _ _ _ h (lv_sub hl [] rfl) hM hS
    · have h := sk_neg h hc
      refine lv_aload_n hx hb dJ7_fill_53178_10 rfl (lv_at hl 0 rfl) ?_
      refine lv_iload_n hx hb dJ7_fill_53178_11 rfl (lv_at hl 2 rfl) ?_
      refine lv_iload_n hx hb dJ7_fill_53178_12 rfl (lv_at hl 1 rfl) ?_
      obtain ⟨i_2, h⟩ := sk_chkE h
      refine sk_iast (o := o0) C hM hS q0 i_2 dJ7_fill_53178_13 (fun M_3 eM_3 H locs hM hS => ?_)
      have h := sk_letU h eM_3
      refine lv_iinc (v := (a2 + 1)) (lv' := [(2, .int (a2 + 1)), (0, .ref (sk_ad g o0)), (1, .int a1), (3, .int a3)]) hx hb dJ7_fill_53178_14 hl (k := 2) rfl rfl (by decide) rfl (fun ls hl => ?_)
      refine lv_goto hx hb dJ7_fill_53178_17 rfl ?_
      exact ih (a2 + 1) M_3 _ _ _ (lv_sub hl [1, 2, 0, 3] rfl) hM hS h kx
set_option maxHeartbeats 4000000 in
set_option maxRecDepth 100000 in
theorem c_J7_fill_53178 (g : sk_G) (l : Launch) (o0 n0 : Nat) (q0 : sk_kd o0 = (0, n0)) (a1 : Int32) (M : sk_M) {MM : sk_M} (h : f_J7_fill_53178 o0 n0 a1 M = some MM) : sk_MV g l yJ7_fill_53178 cJ7_fill_53178 4 none 1 [.ref (sk_ad g o0), .int a1] M MM := by
  refine sk_go [(0, .ref (sk_ad g o0)), (1, .int a1)] (by decide) (Nat.le_of_ble_eq_true rfl) rfl ?_
  intro p e s m av below meth c C ls hl hM hS
  obtain ⟨hx, hb, hml, hown, hts, hK, hE, hr, hlocks⟩ := id C
  rw [f_J7_fill_53178] at h
  refine lv_iconst (v := 0) hx hb dJ7_fill_53178_0 (by decide) ?_
  refine lv_istore_n (lv' := [(2, .int 0), (0, .ref (sk_ad g o0)), (1, .int a1)]) hx hb dJ7_fill_53178_1 rfl hl (by decide) rfl (fun ls hl => ?_)
  refine lv_aload_n hx hb dJ7_fill_53178_2 rfl (lv_at hl 1 rfl) ?_
  refine sk_alen (o := o0) (v := (nI n0)) C hM q0 rfl dJ7_fill_53178_3 ?_
  refine lv_topi (fun x_1 ex_1 => ?_)
  have h := sk_letU h ex_1
  refine lv_istore_n (lv' := [(3, .int x_1), (2, .int 0), (0, .ref (sk_ad g o0)), (1, .int a1)]) hx hb dJ7_fill_53178_4 rfl hl (by decide) rfl (fun ls hl => ?_)
  obtain ⟨M_4, h_5, h⟩ := sk_b1E h
  refine w_J7_fill_53178_L5 C o0 n0 q0 a1 x_1 sk_FU 0 M _ _ _ (lv_sub hl [2, 3, 1, 0] rfl) hM hS h_5 (fun y_6 H locs ls he hl hM hS => ?_)
  obtain rfl := Option.some.inj he
  exact sk_vret C hM hS (Option.some.inj h) dJ7_fill_53178_20
theorem dX1_becomeRow_0 : decode cX1_becomeRow 0 = .ok (.aload_n 0, 1) := by decide +kernel
theorem dX1_becomeRow_1 : decode cX1_becomeRow 1 = .ok (.iload_n 1, 1) := by decide +kernel
theorem dX1_becomeRow_2 : decode cX1_becomeRow 2 = .ok (.putfield 15, 3) := by decide +kernel
theorem dX1_becomeRow_5 : decode cX1_becomeRow 5 = .ok (.aload_n 0, 1) := by decide +kernel
theorem dX1_becomeRow_6 : decode cX1_becomeRow 6 = .ok (.iload_n 2, 1) := by decide +kernel
theorem dX1_becomeRow_7 : decode cX1_becomeRow 7 = .ok (.putfield 19, 3) := by decide +kernel
theorem dX1_becomeRow_10 : decode cX1_becomeRow 10 = .ok (.aload_n 0, 1) := by decide +kernel
theorem dX1_becomeRow_11 : decode cX1_becomeRow 11 = .ok (.getfield 9, 3) := by decide +kernel
theorem dX1_becomeRow_14 : decode cX1_becomeRow 14 = .ok (.iconst 0, 1) := by decide +kernel
theorem dX1_becomeRow_15 : decode cX1_becomeRow 15 = .ok (.invokestatic 22, 3) := by decide +kernel
theorem dX1_becomeRow_18 : decode cX1_becomeRow 18 = .ok (.return_, 1) := by decide +kernel
set_option maxHeartbeats 4000000 in
set_option maxRecDepth 100000 in
theorem c_X1_becomeRow (g : sk_G) (l : Launch) (o0 : Nat) (q0 : sk_isH o0) (a1 : Int32) (a2 : Int32) (M : sk_M) {MM : sk_M} (h : f_X1_becomeRow o0 a1 a2 M = some MM) : sk_MV g l yX1_becomeRow cX1_becomeRow 3 none 2 [.ref (sk_ad g o0), .int a1, .int a2] M MM := by
  refine sk_go [(0, .ref (sk_ad g o0)), (1, .int a1), (2, .int a2)] (by decide) (Nat.le_of_ble_eq_true rfl) rfl ?_
  intro p e s m av below meth c C ls hl hM hS
  obtain ⟨hx, hb, hml, hown, hts, hK, hE, hr, hlocks⟩ := id C
  rw [f_X1_becomeRow] at h
  refine lv_aload_n hx hb dX1_becomeRow_0 rfl (lv_at hl 0 rfl) ?_
  refine lv_iload_n hx hb dX1_becomeRow_1 rfl (lv_at hl 1 rfl) ?_
  refine sk_putI (o := o0) (ci := 1) (j := 1) C hM hS (sk_isH_kd q0) rfl (by decide) rfl rfl (tyX1_ok 1 (by decide)) kw_259 dX1_becomeRow_2 (fun M_1 eM_1 H locs hM hS => ?_)
  have h := sk_letU h eM_1
  refine lv_aload_n hx hb dX1_becomeRow_5 rfl (lv_at hl 0 rfl) ?_
  refine lv_iload_n hx hb dX1_becomeRow_6 rfl (lv_at hl 2 rfl) ?_
  refine sk_putI (o := o0) (ci := 1) (j := 2) C hM hS (sk_isH_kd q0) rfl (by decide) rfl rfl (tyX1_ok 2 (by decide)) kw_261 dX1_becomeRow_7 (fun M_2 eM_2 H locs hM hS => ?_)
  have h := sk_letU h eM_2
  refine lv_aload_n hx hb dX1_becomeRow_10 rfl (lv_at hl 0 rfl) ?_
  refine sk_getR (o := o0) (ci := 1) (j := 0) (t := (o0 + 1)) C hM (sk_isH_kd q0) rfl (by decide) rfl (sk_isH_r0 q0) kw_257 dX1_becomeRow_11 ?_
  refine lv_iconst (v := 0) hx hb dX1_becomeRow_14 (by decide) ?_
  obtain ⟨M_3, h_4, h⟩ := sk_b1E h
  refine sk_contV (sk_runS (As := [.ref (sk_ad g (o0 + 1)), .int 0]) (rest := []) C (c_J7_fill_53178 g l (o0 + 1) 24 (sk_isH_k1 q0) 0 M_2 h_4) yo_J7_fill_53178 kw_845 (by decide) hM hS hl.1 rfl rfl (Nat.le_of_ble_eq_true rfl) dX1_becomeRow_15) hS (fun H locs hM hS => ?_)
  exact sk_vret C hM hS (Option.some.inj h) dX1_becomeRow_18
theorem dX1_becomeLike_0 : decode cX1_becomeLike 0 = .ok (.aload_n 0, 1) := by decide +kernel
theorem dX1_becomeLike_1 : decode cX1_becomeLike 1 = .ok (.aload_n 1, 1) := by decide +kernel
theorem dX1_becomeLike_2 : decode cX1_becomeLike 2 = .ok (.getfield 15, 3) := by decide +kernel
theorem dX1_becomeLike_5 : decode cX1_becomeLike 5 = .ok (.putfield 15, 3) := by decide +kernel
theorem dX1_becomeLike_8 : decode cX1_becomeLike 8 = .ok (.aload_n 0, 1) := by decide +kernel
theorem dX1_becomeLike_9 : decode cX1_becomeLike 9 = .ok (.aload_n 1, 1) := by decide +kernel
theorem dX1_becomeLike_10 : decode cX1_becomeLike 10 = .ok (.getfield 19, 3) := by decide +kernel
theorem dX1_becomeLike_13 : decode cX1_becomeLike 13 = .ok (.putfield 19, 3) := by decide +kernel
theorem dX1_becomeLike_16 : decode cX1_becomeLike 16 = .ok (.aload_n 1, 1) := by decide +kernel
theorem dX1_becomeLike_17 : decode cX1_becomeLike 17 = .ok (.getfield 9, 3) := by decide +kernel
theorem dX1_becomeLike_20 : decode cX1_becomeLike 20 = .ok (.iconst 0, 1) := by decide +kernel
theorem dX1_becomeLike_21 : decode cX1_becomeLike 21 = .ok (.aload_n 0, 1) := by decide +kernel
theorem dX1_becomeLike_22 : decode cX1_becomeLike 22 = .ok (.getfield 9, 3) := by decide +kernel
theorem dX1_becomeLike_25 : decode cX1_becomeLike 25 = .ok (.iconst 0, 1) := by decide +kernel
theorem dX1_becomeLike_26 : decode cX1_becomeLike 26 = .ok (.bipush 24, 2) := by decide +kernel
theorem dX1_becomeLike_28 : decode cX1_becomeLike 28 = .ok (.invokestatic 28, 3) := by decide +kernel
theorem dX1_becomeLike_31 : decode cX1_becomeLike 31 = .ok (.return_, 1) := by decide +kernel
set_option maxHeartbeats 4000000 in
set_option maxRecDepth 100000 in
theorem c_X1_becomeLike (g : sk_G) (l : Launch) (o0 : Nat) (q0 : sk_isH o0) (o1 : Nat) (q1 : sk_isH o1) (M : sk_M) {MM : sk_M} (h : f_X1_becomeLike o0 o1 M = some MM) : sk_MV g l yX1_becomeLike cX1_becomeLike 2 none 1 [.ref (sk_ad g o0), .ref (sk_ad g o1)] M MM := by
  refine sk_go [(0, .ref (sk_ad g o0)), (1, .ref (sk_ad g o1))] (by decide) (Nat.le_of_ble_eq_true rfl) rfl ?_
  intro p e s m av below meth c C ls hl hM hS
  obtain ⟨hx, hb, hml, hown, hts, hK, hE, hr, hlocks⟩ := id C
  rw [f_X1_becomeLike] at h
  refine lv_aload_n hx hb dX1_becomeLike_0 rfl (lv_at hl 0 rfl) ?_
  refine lv_aload_n hx hb dX1_becomeLike_1 rfl (lv_at hl 1 rfl) ?_
  refine sk_getI (o := o1) (ci := 1) (j := 1) C hM (sk_isH_kd q1) rfl (by decide) rfl kw_259 dX1_becomeLike_2 ?_
  refine sk_putI (o := o0) (ci := 1) (j := 1) C hM hS (sk_isH_kd q0) rfl (by decide) rfl rfl (tyX1_ok 1 (by decide)) kw_259 dX1_becomeLike_5 (fun M_1 eM_1 H locs hM hS => ?_)
  have h := sk_letU h eM_1
  refine lv_aload_n hx hb dX1_becomeLike_8 rfl (lv_at hl 0 rfl) ?_
  refine lv_aload_n hx hb dX1_becomeLike_9 rfl (lv_at hl 1 rfl) ?_
  refine sk_getI (o := o1) (ci := 1) (j := 2) C hM (sk_isH_kd q1) rfl (by decide) rfl kw_261 dX1_becomeLike_10 ?_
  refine sk_putI (o := o0) (ci := 1) (j := 2) C hM hS (sk_isH_kd q0) rfl (by decide) rfl rfl (tyX1_ok 2 (by decide)) kw_261 dX1_becomeLike_13 (fun M_2 eM_2 H locs hM hS => ?_)
  have h := sk_letU h eM_2
  refine lv_aload_n hx hb dX1_becomeLike_16 rfl (lv_at hl 1 rfl) ?_
  refine sk_getR (o := o1) (ci := 1) (j := 0) (t := (o1 + 1)) C hM (sk_isH_kd q1) rfl (by decide) rfl (sk_isH_r0 q1) kw_257 dX1_becomeLike_17 ?_
  refine lv_iconst (v := 0) hx hb dX1_becomeLike_20 (by decide) ?_
  refine lv_aload_n hx hb dX1_becomeLike_21 rfl (lv_at hl 0 rfl) ?_
  refine sk_getR (o := o0) (ci := 1) (j := 0) (t := (o0 + 1)) C hM (sk_isH_kd q0) rfl (by decide) rfl (sk_isH_r0 q0) kw_257 dX1_becomeLike_22 ?_
  refine lv_iconst (v := 0) hx hb dX1_becomeLike_25 (by decide) ?_
  refine lv_bipush (v := 24) hx hb dX1_becomeLike_26 (by decide) ?_
  refine sk_copy (d := 1) (o0 := (o1 + 1)) (o1 := (o0 + 1)) C hl.1 sk_wcopy kw_877 (by decide) (Nat.le_of_ble_eq_true rfl) hM hS (sk_isH_k1 q1) (sk_isH_k1 q0) (by decide) (by decide) dX1_becomeLike_28 (fun M_3 eM_3 H locs hM hS => ?_)
  have h := sk_letU h eM_3
  exact sk_vret C hM hS (Option.some.inj h) dX1_becomeLike_31
theorem dX1_hasPlaces_0 : decode cX1_hasPlaces 0 = .ok (.iload_n 1, 1) := by decide +kernel
theorem dX1_hasPlaces_1 : decode cX1_hasPlaces 1 = .ok (.ifCond .lt 29, 3) := by decide +kernel
theorem dX1_hasPlaces_4 : decode cX1_hasPlaces 4 = .ok (.iload_n 2, 1) := by decide +kernel
theorem dX1_hasPlaces_5 : decode cX1_hasPlaces 5 = .ok (.ifCond .lt 25, 3) := by decide +kernel
theorem dX1_hasPlaces_8 : decode cX1_hasPlaces 8 = .ok (.iload_n 1, 1) := by decide +kernel
theorem dX1_hasPlaces_9 : decode cX1_hasPlaces 9 = .ok (.aload_n 0, 1) := by decide +kernel
theorem dX1_hasPlaces_10 : decode cX1_hasPlaces 10 = .ok (.getfield 19, 3) := by decide +kernel
theorem dX1_hasPlaces_13 : decode cX1_hasPlaces 13 = .ok (.if_icmp .gt 17, 3) := by decide +kernel
theorem dX1_hasPlaces_16 : decode cX1_hasPlaces 16 = .ok (.iload_n 2, 1) := by decide +kernel
theorem dX1_hasPlaces_17 : decode cX1_hasPlaces 17 = .ok (.aload_n 0, 1) := by decide +kernel
theorem dX1_hasPlaces_18 : decode cX1_hasPlaces 18 = .ok (.getfield 19, 3) := by decide +kernel
theorem dX1_hasPlaces_21 : decode cX1_hasPlaces 21 = .ok (.iload_n 1, 1) := by decide +kernel
theorem dX1_hasPlaces_22 : decode cX1_hasPlaces 22 = .ok (.isub, 1) := by decide +kernel
theorem dX1_hasPlaces_23 : decode cX1_hasPlaces 23 = .ok (.if_icmp .gt 7, 3) := by decide +kernel
theorem dX1_hasPlaces_26 : decode cX1_hasPlaces 26 = .ok (.iconst 1, 1) := by decide +kernel
theorem dX1_hasPlaces_27 : decode cX1_hasPlaces 27 = .ok (.goto 4, 3) := by decide +kernel
theorem dX1_hasPlaces_30 : decode cX1_hasPlaces 30 = .ok (.iconst 0, 1) := by decide +kernel
theorem dX1_hasPlaces_31 : decode cX1_hasPlaces 31 = .ok (.ireturn, 1) := by decide +kernel
set_option maxHeartbeats 4000000 in
set_option maxRecDepth 100000 in
theorem c_X1_hasPlaces (g : sk_G) (l : Launch) (o0 : Nat) (q0 : sk_isH o0) (a1 : Int32) (a2 : Int32) (M : sk_M) {rr : Int32} (h : f_X1_hasPlaces o0 a1 a2 M = rr) : sk_MI g l yX1_hasPlaces cX1_hasPlaces 3 (some .boolean) 1 [.ref (sk_ad g o0), .int a1, .int a2] M rr M := by
  refine sk_go [(0, .ref (sk_ad g o0)), (1, .int a1), (2, .int a2)] (by decide) (Nat.le_of_ble_eq_true rfl) rfl ?_
  intro p e s m av below meth c C ls hl hM hS
  obtain ⟨hx, hb, hml, hown, hts, hK, hE, hr, hlocks⟩ := id C
  rw [f_X1_hasPlaces] at h
  refine lv_iload_n hx hb dX1_hasPlaces_0 rfl (lv_at hl 1 rfl) ?_
  have J : ∀ (vv : Int32) (H : Heap) (locs : List Loc), (if a1 < 0 then 0 else (if a2 < 0 then 0 else (if (M o0 2) < a1 then 0 else (if ((M o0 2) - a1) < a2 then 0 else 1 : Int32) : Int32) : Int32) : Int32) = vv → sk_P g M H → va_S (sk_A g) s.heap H locs → W p l e (sk_rm 1) s m av below meth c H locs 0 0 (MQ below (sk_QI g rr M) av s 0 0 (sk_A g)) (F0 m 31 ls [.int vv]) := by
    intro vv H locs hvv hM hS
    subst hvv
    exact sk_zret C hM hS (sk_nz (sk_zi (Or.inl rfl) (sk_zi (Or.inl rfl) (sk_zi (Or.inl rfl) (sk_zi (Or.inl rfl) (Or.inr rfl)))))) ⟨h, rfl⟩ dX1_hasPlaces_31
  refine lv_if_lt hx hb dX1_hasPlaces_1 rfl (fun hc => ?_) (fun hc => ?_)
  · have J := fun vv H locs q => J vv H locs ((if_pos hc).trans q)
    refine lv_iconst (v := 0) hx hb dX1_hasPlaces_30 (by decide) ?_
    exact J _ _ _ rfl hM hS
  · have J := fun vv H locs q => J vv H locs ((if_neg hc).trans q)
    refine lv_iload_n hx hb dX1_hasPlaces_4 rfl (lv_at hl 2 rfl) ?_
    refine lv_if_lt hx hb dX1_hasPlaces_5 rfl (fun hc => ?_) (fun hc => ?_)
    · have J := fun vv H locs q => J vv H locs ((if_pos hc).trans q)
      refine lv_iconst (v := 0) hx hb dX1_hasPlaces_30 (by decide) ?_
      exact J _ _ _ rfl hM hS
    · have J := fun vv H locs q => J vv H locs ((if_neg hc).trans q)
      refine lv_iload_n hx hb dX1_hasPlaces_8 rfl (lv_at hl 1 rfl) ?_
      refine lv_aload_n hx hb dX1_hasPlaces_9 rfl (lv_at hl 0 rfl) ?_
      refine sk_getI (o := o0) (ci := 1) (j := 2) C hM (sk_isH_kd q0) rfl (by decide) rfl kw_261 dX1_hasPlaces_10 ?_
      refine lv_icmp_gt hx hb dX1_hasPlaces_13 rfl (fun hc => ?_) (fun hc => ?_)
      · have J := fun vv H locs q => J vv H locs ((if_pos hc).trans q)
        refine lv_iconst (v := 0) hx hb dX1_hasPlaces_30 (by decide) ?_
        exact J _ _ _ rfl hM hS
      · have J := fun vv H locs q => J vv H locs ((if_neg hc).trans q)
        refine lv_iload_n hx hb dX1_hasPlaces_16 rfl (lv_at hl 2 rfl) ?_
        refine lv_aload_n hx hb dX1_hasPlaces_17 rfl (lv_at hl 0 rfl) ?_
        refine sk_getI (o := o0) (ci := 1) (j := 2) C hM (sk_isH_kd q0) rfl (by decide) rfl kw_261 dX1_hasPlaces_18 ?_
        refine lv_iload_n hx hb dX1_hasPlaces_21 rfl (lv_at hl 1 rfl) ?_
        refine lv_isub hx hb dX1_hasPlaces_22 ?_
        refine lv_icmp_gt hx hb dX1_hasPlaces_23 rfl (fun hc => ?_) (fun hc => ?_)
        · have J := fun vv H locs q => J vv H locs ((if_pos hc).trans q)
          refine lv_iconst (v := 0) hx hb dX1_hasPlaces_30 (by decide) ?_
          exact J _ _ _ rfl hM hS
        · have J := fun vv H locs q => J vv H locs ((if_neg hc).trans q)
          refine lv_iconst (v := 1) hx hb dX1_hasPlaces_26 (by decide) ?_
          refine lv_goto hx hb dX1_hasPlaces_27 rfl ?_
          exact J _ _ _ rfl hM hS
theorem dX3_store_0 : decode cX3_store 0 = .ok (.aload_n 2, 1) := by decide +kernel
theorem dX3_store_1 : decode cX3_store 1 = .ok (.getfield 29, 3) := by decide +kernel
theorem dX3_store_4 : decode cX3_store 4 = .ok (.iconst 0, 1) := by decide +kernel
theorem dX3_store_5 : decode cX3_store 5 = .ok (.aload_n 0, 1) := by decide +kernel
theorem dX3_store_6 : decode cX3_store 6 = .ok (.getfield 11, 3) := by decide +kernel
theorem dX3_store_9 : decode cX3_store 9 = .ok (.iload_n 1, 1) := by decide +kernel
theorem dX3_store_10 : decode cX3_store 10 = .ok (.aaload, 1) := by decide +kernel
theorem dX3_store_11 : decode cX3_store 11 = .ok (.iconst 0, 1) := by decide +kernel
theorem dX3_store_12 : decode cX3_store 12 = .ok (.aload_n 2, 1) := by decide +kernel
theorem dX3_store_13 : decode cX3_store 13 = .ok (.getfield 33, 3) := by decide +kernel
theorem dX3_store_16 : decode cX3_store 16 = .ok (.invokestatic 37, 3) := by decide +kernel
theorem dX3_store_19 : decode cX3_store 19 = .ok (.aload_n 0, 1) := by decide +kernel
theorem dX3_store_20 : decode cX3_store 20 = .ok (.getfield 16, 3) := by decide +kernel
theorem dX3_store_23 : decode cX3_store 23 = .ok (.iload_n 1, 1) := by decide +kernel
theorem dX3_store_24 : decode cX3_store 24 = .ok (.aload_n 2, 1) := by decide +kernel
theorem dX3_store_25 : decode cX3_store 25 = .ok (.getfield 33, 3) := by decide +kernel
theorem dX3_store_28 : decode cX3_store 28 = .ok (.iastore, 1) := by decide +kernel
theorem dX3_store_29 : decode cX3_store 29 = .ok (.aload_n 0, 1) := by decide +kernel
theorem dX3_store_30 : decode cX3_store 30 = .ok (.getfield 20, 3) := by decide +kernel
theorem dX3_store_33 : decode cX3_store 33 = .ok (.iload_n 1, 1) := by decide +kernel
theorem dX3_store_34 : decode cX3_store 34 = .ok (.aload_n 2, 1) := by decide +kernel
theorem dX3_store_35 : decode cX3_store 35 = .ok (.getfield 43, 3) := by decide +kernel
theorem dX3_store_38 : decode cX3_store 38 = .ok (.iastore, 1) := by decide +kernel
theorem dX3_store_39 : decode cX3_store 39 = .ok (.aload_n 0, 1) := by decide +kernel
theorem dX3_store_40 : decode cX3_store 40 = .ok (.getfield 23, 3) := by decide +kernel
theorem dX3_store_43 : decode cX3_store 43 = .ok (.iload_n 1, 1) := by decide +kernel
theorem dX3_store_44 : decode cX3_store 44 = .ok (.aload_n 2, 1) := by decide +kernel
theorem dX3_store_45 : decode cX3_store 45 = .ok (.getfield 46, 3) := by decide +kernel
theorem dX3_store_48 : decode cX3_store 48 = .ok (.iastore, 1) := by decide +kernel
theorem dX3_store_49 : decode cX3_store 49 = .ok (.return_, 1) := by decide +kernel
set_option maxHeartbeats 4000000 in
set_option maxRecDepth 100000 in
theorem c_X3_store (g : sk_G) (l : Launch) (a1 : Int32) (M : sk_M) {MM : sk_M} (h : f_X3_store a1 M = some MM) : sk_MV g l yX3_store cX3_store 3 none 1 [.ref (sk_ad g 42), .int a1, .ref (sk_ad g 62)] M MM := by
  refine sk_go [(0, .ref (sk_ad g 42)), (1, .int a1), (2, .ref (sk_ad g 62))] (by decide) (Nat.le_of_ble_eq_true rfl) rfl ?_
  intro p e s m av below meth c C ls hl hM hS
  obtain ⟨hx, hb, hml, hown, hts, hK, hE, hr, hlocks⟩ := id C
  rw [f_X3_store] at h
  refine lv_aload_n hx hb dX3_store_0 rfl (lv_at hl 2 rfl) ?_
  refine sk_getR (o := 62) (ci := 0) (j := 1) (t := 64) C hM rfl rfl (by decide) rfl rfl kw_122 dX3_store_1 ?_
  refine lv_iconst (v := 0) hx hb dX3_store_4 (by decide) ?_
  refine lv_aload_n hx hb dX3_store_5 rfl (lv_at hl 0 rfl) ?_
  refine sk_getR (o := 42) (ci := 3) (j := 0) (t := 43) C hM rfl rfl (by decide) rfl rfl kw_95 dX3_store_6 ?_
  refine lv_iload_n hx hb dX3_store_9 rfl (lv_at hl 1 rfl) ?_
  obtain ⟨i_1, h⟩ := sk_chkE h
  refine sk_aald (o := 43) (k := 0) (t := (48 + a1.toNatClampNeg)) C hM rfl (by decide) i_1 rfl dX3_store_10 ?_
  refine lv_iconst (v := 0) hx hb dX3_store_11 (by decide) ?_
  refine lv_aload_n hx hb dX3_store_12 rfl (lv_at hl 2 rfl) ?_
  refine sk_getI (o := 62) (ci := 0) (j := 7) C hM rfl rfl (by decide) rfl kw_131 dX3_store_13 ?_
  obtain ⟨i_2, h⟩ := sk_chkE h
  obtain ⟨i_3, h⟩ := sk_chkE h
  refine sk_copy (d := 1) (o0 := 64) (o1 := (48 + a1.toNatClampNeg)) C hl.1 sk_wcopy kw_827 (by decide) (Nat.le_of_ble_eq_true rfl) hM hS rfl (sk_kd_t (sk_in_lt i_1)) i_2 i_3 dX3_store_16 (fun M_4 eM_4 H locs hM hS => ?_)
  have h := sk_letU h eM_4
  refine lv_aload_n hx hb dX3_store_19 rfl (lv_at hl 0 rfl) ?_
  refine sk_getR (o := 42) (ci := 3) (j := 1) (t := 44) C hM rfl rfl (by decide) rfl rfl kw_96 dX3_store_20 ?_
  refine lv_iload_n hx hb dX3_store_23 rfl (lv_at hl 1 rfl) ?_
  refine lv_aload_n hx hb dX3_store_24 rfl (lv_at hl 2 rfl) ?_
  refine sk_getI (o := 62) (ci := 0) (j := 7) C hM rfl rfl (by decide) rfl kw_131 dX3_store_25 ?_
  obtain ⟨i_5, h⟩ := sk_chkE h
  refine sk_iast (o := 44) C hM hS rfl i_5 dX3_store_28 (fun M_6 eM_6 H locs hM hS => ?_)
  have h := sk_letU h eM_6
  refine lv_aload_n hx hb dX3_store_29 rfl (lv_at hl 0 rfl) ?_
  refine sk_getR (o := 42) (ci := 3) (j := 2) (t := 45) C hM rfl rfl (by decide) rfl rfl kw_97 dX3_store_30 ?_
  refine lv_iload_n hx hb dX3_store_33 rfl (lv_at hl 1 rfl) ?_
  refine lv_aload_n hx hb dX3_store_34 rfl (lv_at hl 2 rfl) ?_
  refine sk_getI (o := 62) (ci := 0) (j := 6) C hM rfl rfl (by decide) rfl kw_128 dX3_store_35 ?_
  obtain ⟨i_7, h⟩ := sk_chkE h
  refine sk_iast (o := 45) C hM hS rfl i_7 dX3_store_38 (fun M_8 eM_8 H locs hM hS => ?_)
  have h := sk_letU h eM_8
  refine lv_aload_n hx hb dX3_store_39 rfl (lv_at hl 0 rfl) ?_
  refine sk_getR (o := 42) (ci := 3) (j := 3) (t := 46) C hM rfl rfl (by decide) rfl rfl kw_99 dX3_store_40 ?_
  refine lv_iload_n hx hb dX3_store_43 rfl (lv_at hl 1 rfl) ?_
  refine lv_aload_n hx hb dX3_store_44 rfl (lv_at hl 2 rfl) ?_
  refine sk_getI (o := 62) (ci := 0) (j := 8) C hM rfl rfl (by decide) rfl kw_133 dX3_store_45 ?_
  obtain ⟨i_9, h⟩ := sk_chkE h
  refine sk_iast (o := 46) C hM hS rfl i_9 dX3_store_48 (fun M_10 eM_10 H locs hM hS => ?_)
  have h := sk_letU h eM_10
  exact sk_vret C hM hS (Option.some.inj h) dX3_store_49
theorem dX3_named_0 : decode cX3_named 0 = .ok (.iload_n 0, 1) := by decide +kernel
theorem dX3_named_1 : decode cX3_named 1 = .ok (.bipush (-3), 2) := by decide +kernel
theorem dX3_named_3 : decode cX3_named 3 = .ok (.isub, 1) := by decide +kernel
theorem dX3_named_4 : decode cX3_named 4 = .ok (.istore 4, 2) := by decide +kernel
theorem dX3_named_6 : decode cX3_named 6 = .ok (.iload 4, 2) := by decide +kernel
theorem dX3_named_8 : decode cX3_named 8 = .ok (.ifCond .ne 5, 3) := by decide +kernel
theorem dX3_named_11 : decode cX3_named 11 = .ok (.iload_n 1, 1) := by decide +kernel
theorem dX3_named_12 : decode cX3_named 12 = .ok (.ireturn, 1) := by decide +kernel
theorem dX3_named_13 : decode cX3_named 13 = .ok (.iload 4, 2) := by decide +kernel
theorem dX3_named_15 : decode cX3_named 15 = .ok (.iconst 1, 1) := by decide +kernel
theorem dX3_named_16 : decode cX3_named 16 = .ok (.if_icmp .ne 7, 3) := by decide +kernel
theorem dX3_named_19 : decode cX3_named 19 = .ok (.iload_n 2, 1) := by decide +kernel
theorem dX3_named_20 : decode cX3_named 20 = .ok (.goto 4, 3) := by decide +kernel
theorem dX3_named_23 : decode cX3_named 23 = .ok (.iload_n 3, 1) := by decide +kernel
theorem dX3_named_24 : decode cX3_named 24 = .ok (.ireturn, 1) := by decide +kernel
set_option maxHeartbeats 4000000 in
set_option maxRecDepth 100000 in
theorem c_X3_named (g : sk_G) (l : Launch) (a0 : Int32) (a1 : Int32) (a2 : Int32) (a3 : Int32) (M : sk_M) {rr : Int32} (h : f_X3_named a0 a1 a2 a3 = rr) : sk_MI g l yX3_named cX3_named 5 (some .int) 1 [.int a0, .int a1, .int a2, .int a3] M rr M := by
  refine sk_go [(0, .int a0), (1, .int a1), (2, .int a2), (3, .int a3)] (by decide) (Nat.le_of_ble_eq_true rfl) rfl ?_
  intro p e s m av below meth c C ls hl hM hS
  obtain ⟨hx, hb, hml, hown, hts, hK, hE, hr, hlocks⟩ := id C
  rw [f_X3_named] at h
  refine lv_iload_n hx hb dX3_named_0 rfl (lv_at hl 0 rfl) ?_
  refine lv_bipush (v := (-3)) hx hb dX3_named_1 (by decide) ?_
  refine lv_isub hx hb dX3_named_3 ?_
  refine lv_topi (fun x_1 ex_1 => ?_)
  have h := sk_letU h ex_1
  refine lv_istore (lv' := [(4, .int x_1), (0, .int a0), (1, .int a1), (2, .int a2), (3, .int a3)]) hx hb dX3_named_4 hl (by decide) rfl (fun ls hl => ?_)
  refine lv_iload hx hb dX3_named_6 (lv_at hl 0 rfl) ?_
  refine lv_if_ne hx hb dX3_named_8 rfl (fun hc => ?_) (fun hc => ?_)
  · have h := sk_neg h hc
    refine lv_iload hx hb dX3_named_13 (lv_at hl 0 rfl) ?_
    refine lv_iconst (v := 1) hx hb dX3_named_15 (by decide) ?_
    have J : ∀ (vv : Int32) (H : Heap) (locs : List Loc), (if x_1 = 1 then a2 else a3 : Int32) = vv → sk_P g M H → va_S (sk_A g) s.heap H locs → W p l e (sk_rm 1) s m av below meth c H locs 0 0 (MQ below (sk_QI g rr M) av s 0 0 (sk_A g)) (F0 m 24 ls [.int vv]) := by
      intro vv H locs hvv hM hS
      subst hvv
      exact sk_iret C hM hS ⟨h, rfl⟩ dX3_named_24
    refine lv_icmp_ne hx hb dX3_named_16 rfl (fun hc => ?_) (fun hc => ?_)
    · have J := fun vv H locs q => J vv H locs ((if_neg hc).trans q)
      refine lv_iload_n hx hb dX3_named_23 rfl (lv_at hl 4 rfl) ?_
      exact J _ _ _ rfl hM hS
    · have J := fun vv H locs q => J vv H locs ((if_pos hc).trans q)
      refine lv_iload_n hx hb dX3_named_19 rfl (lv_at hl 3 rfl) ?_
      refine lv_goto hx hb dX3_named_20 rfl ?_
      exact J _ _ _ rfl hM hS
  · have h := sk_pos h hc
    refine lv_iload_n hx hb dX3_named_11 rfl (lv_at hl 2 rfl) ?_
    exact sk_iret C hM hS ⟨h, rfl⟩ dX3_named_12
theorem dX3_join_0 : decode cX3_join 0 = .ok (.iload_n 0, 1) := by decide +kernel
theorem dX3_join_1 : decode cX3_join 1 = .ok (.lookupswitch 148 #[(38, 89), (42, 144), (43, 136), (45, 140), (60, 103), (61, 114), (62, 125), (124, 75)], 75) := by decide +kernel
theorem dX3_join_76 : decode cX3_join 76 = .ok (.iload_n 1, 1) := by decide +kernel
theorem dX3_join_77 : decode cX3_join 77 = .ok (.ifCond .ne 7, 3) := by decide +kernel
theorem dX3_join_80 : decode cX3_join 80 = .ok (.iload_n 2, 1) := by decide +kernel
theorem dX3_join_81 : decode cX3_join 81 = .ok (.ifCond .eq 7, 3) := by decide +kernel
theorem dX3_join_84 : decode cX3_join 84 = .ok (.iconst 1, 1) := by decide +kernel
theorem dX3_join_85 : decode cX3_join 85 = .ok (.goto 4, 3) := by decide +kernel
theorem dX3_join_88 : decode cX3_join 88 = .ok (.iconst 0, 1) := by decide +kernel
theorem dX3_join_89 : decode cX3_join 89 = .ok (.ireturn, 1) := by decide +kernel
theorem dX3_join_90 : decode cX3_join 90 = .ok (.iload_n 1, 1) := by decide +kernel
theorem dX3_join_91 : decode cX3_join 91 = .ok (.ifCond .eq 11, 3) := by decide +kernel
theorem dX3_join_94 : decode cX3_join 94 = .ok (.iload_n 2, 1) := by decide +kernel
theorem dX3_join_95 : decode cX3_join 95 = .ok (.ifCond .eq 7, 3) := by decide +kernel
theorem dX3_join_98 : decode cX3_join 98 = .ok (.iconst 1, 1) := by decide +kernel
theorem dX3_join_99 : decode cX3_join 99 = .ok (.goto 4, 3) := by decide +kernel
theorem dX3_join_102 : decode cX3_join 102 = .ok (.iconst 0, 1) := by decide +kernel
theorem dX3_join_103 : decode cX3_join 103 = .ok (.ireturn, 1) := by decide +kernel
theorem dX3_join_104 : decode cX3_join 104 = .ok (.iload_n 1, 1) := by decide +kernel
theorem dX3_join_105 : decode cX3_join 105 = .ok (.iload_n 2, 1) := by decide +kernel
theorem dX3_join_106 : decode cX3_join 106 = .ok (.if_icmp .ge 7, 3) := by decide +kernel
theorem dX3_join_109 : decode cX3_join 109 = .ok (.iconst 1, 1) := by decide +kernel
theorem dX3_join_110 : decode cX3_join 110 = .ok (.goto 4, 3) := by decide +kernel
theorem dX3_join_113 : decode cX3_join 113 = .ok (.iconst 0, 1) := by decide +kernel
theorem dX3_join_114 : decode cX3_join 114 = .ok (.ireturn, 1) := by decide +kernel
theorem dX3_join_115 : decode cX3_join 115 = .ok (.iload_n 1, 1) := by decide +kernel
theorem dX3_join_116 : decode cX3_join 116 = .ok (.iload_n 2, 1) := by decide +kernel
theorem dX3_join_117 : decode cX3_join 117 = .ok (.if_icmp .ne 7, 3) := by decide +kernel
theorem dX3_join_120 : decode cX3_join 120 = .ok (.iconst 1, 1) := by decide +kernel
theorem dX3_join_121 : decode cX3_join 121 = .ok (.goto 4, 3) := by decide +kernel
theorem dX3_join_124 : decode cX3_join 124 = .ok (.iconst 0, 1) := by decide +kernel
theorem dX3_join_125 : decode cX3_join 125 = .ok (.ireturn, 1) := by decide +kernel
theorem dX3_join_126 : decode cX3_join 126 = .ok (.iload_n 1, 1) := by decide +kernel
theorem dX3_join_127 : decode cX3_join 127 = .ok (.iload_n 2, 1) := by decide +kernel
theorem dX3_join_128 : decode cX3_join 128 = .ok (.if_icmp .le 7, 3) := by decide +kernel
theorem dX3_join_131 : decode cX3_join 131 = .ok (.iconst 1, 1) := by decide +kernel
theorem dX3_join_132 : decode cX3_join 132 = .ok (.goto 4, 3) := by decide +kernel
theorem dX3_join_135 : decode cX3_join 135 = .ok (.iconst 0, 1) := by decide +kernel
theorem dX3_join_136 : decode cX3_join 136 = .ok (.ireturn, 1) := by decide +kernel
theorem dX3_join_137 : decode cX3_join 137 = .ok (.iload_n 1, 1) := by decide +kernel
theorem dX3_join_138 : decode cX3_join 138 = .ok (.iload_n 2, 1) := by decide +kernel
theorem dX3_join_139 : decode cX3_join 139 = .ok (.iadd, 1) := by decide +kernel
theorem dX3_join_140 : decode cX3_join 140 = .ok (.ireturn, 1) := by decide +kernel
theorem dX3_join_141 : decode cX3_join 141 = .ok (.iload_n 1, 1) := by decide +kernel
theorem dX3_join_142 : decode cX3_join 142 = .ok (.iload_n 2, 1) := by decide +kernel
theorem dX3_join_143 : decode cX3_join 143 = .ok (.isub, 1) := by decide +kernel
theorem dX3_join_144 : decode cX3_join 144 = .ok (.ireturn, 1) := by decide +kernel
theorem dX3_join_145 : decode cX3_join 145 = .ok (.iload_n 1, 1) := by decide +kernel
theorem dX3_join_146 : decode cX3_join 146 = .ok (.iload_n 2, 1) := by decide +kernel
theorem dX3_join_147 : decode cX3_join 147 = .ok (.imul, 1) := by decide +kernel
theorem dX3_join_148 : decode cX3_join 148 = .ok (.ireturn, 1) := by decide +kernel
theorem dX3_join_149 : decode cX3_join 149 = .ok (.iload_n 2, 1) := by decide +kernel
theorem dX3_join_150 : decode cX3_join 150 = .ok (.ifCond .ne 7, 3) := by decide +kernel
theorem dX3_join_153 : decode cX3_join 153 = .ok (.iconst 0, 1) := by decide +kernel
theorem dX3_join_154 : decode cX3_join 154 = .ok (.goto 6, 3) := by decide +kernel
theorem dX3_join_157 : decode cX3_join 157 = .ok (.iload_n 1, 1) := by decide +kernel
theorem dX3_join_158 : decode cX3_join 158 = .ok (.iload_n 2, 1) := by decide +kernel
theorem dX3_join_159 : decode cX3_join 159 = .ok (.idiv, 1) := by decide +kernel
theorem dX3_join_160 : decode cX3_join 160 = .ok (.ireturn, 1) := by decide +kernel
set_option maxHeartbeats 4000000 in
set_option maxRecDepth 100000 in
theorem c_X3_join (g : sk_G) (l : Launch) (a0 : Int32) (a1 : Int32) (a2 : Int32) (M : sk_M) {rr : Int32} (h : f_X3_join a0 a1 a2 M = some rr) : sk_MI g l yX3_join cX3_join 3 (some .int) 1 [.int a0, .int a1, .int a2] M rr M := by
  refine sk_go [(0, .int a0), (1, .int a1), (2, .int a2)] (by decide) (Nat.le_of_ble_eq_true rfl) rfl ?_
  intro p e s m av below meth c C ls hl hM hS
  obtain ⟨hx, hb, hml, hown, hts, hK, hE, hr, hlocks⟩ := id C
  rw [f_X3_join] at h
  refine lv_iload_n hx hb dX3_join_0 rfl (lv_at hl 0 rfl) ?_
  by_cases hk_1 : a0 = 38
  · refine lv_lookup (off := 89) hx hb dX3_join_1 rfl (by rw [hk_1]; rfl) rfl ?_
    have h := sk_pos h hk_1
    refine lv_iload_n hx hb dX3_join_90 rfl (lv_at hl 1 rfl) ?_
    have J : ∀ (vv : Int32) (H : Heap) (locs : List Loc), (if a1 = 0 then 0 else (if a2 = 0 then 0 else 1 : Int32) : Int32) = vv → sk_P g M H → va_S (sk_A g) s.heap H locs → W p l e (sk_rm 1) s m av below meth c H locs 0 0 (MQ below (sk_QI g rr M) av s 0 0 (sk_A g)) (F0 m 103 ls [.int vv]) := by
      intro vv H locs hvv hM hS
      subst hvv
      exact sk_iret C hM hS ⟨Option.some.inj h, rfl⟩ dX3_join_103
    refine lv_if_eq hx hb dX3_join_91 rfl (fun hc => ?_) (fun hc => ?_)
    · have J := fun vv H locs q => J vv H locs ((if_pos hc).trans q)
      refine lv_iconst (v := 0) hx hb dX3_join_102 (by decide) ?_
      exact J _ _ _ rfl hM hS
    · have J := fun vv H locs q => J vv H locs ((if_neg hc).trans q)
      refine lv_iload_n hx hb dX3_join_94 rfl (lv_at hl 2 rfl) ?_
      refine lv_if_eq hx hb dX3_join_95 rfl (fun hc => ?_) (fun hc => ?_)
      · have J := fun vv H locs q => J vv H locs ((if_pos hc).trans q)
        refine lv_iconst (v := 0) hx hb dX3_join_102 (by decide) ?_
        exact J _ _ _ rfl hM hS
      · have J := fun vv H locs q => J vv H locs ((if_neg hc).trans q)
        refine lv_iconst (v := 1) hx hb dX3_join_98 (by decide) ?_
        refine lv_goto hx hb dX3_join_99 rfl ?_
        exact J _ _ _ rfl hM hS
  have h := sk_neg h hk_1
  by_cases hk_2 : a0 = 42
  · refine lv_lookup (off := 144) hx hb dX3_join_1 rfl (by rw [hk_2]; rfl) rfl ?_
    have h := sk_pos h hk_2
    refine lv_iload_n hx hb dX3_join_145 rfl (lv_at hl 1 rfl) ?_
    refine lv_iload_n hx hb dX3_join_146 rfl (lv_at hl 2 rfl) ?_
    refine lv_imul hx hb dX3_join_147 ?_
    exact sk_iret C hM hS ⟨Option.some.inj h, rfl⟩ dX3_join_148
  have h := sk_neg h hk_2
  by_cases hk_3 : a0 = 43
  · refine lv_lookup (off := 136) hx hb dX3_join_1 rfl (by rw [hk_3]; rfl) rfl ?_
    have h := sk_pos h hk_3
    refine lv_iload_n hx hb dX3_join_137 rfl (lv_at hl 1 rfl) ?_
    refine lv_iload_n hx hb dX3_join_138 rfl (lv_at hl 2 rfl) ?_
    refine lv_iadd hx hb dX3_join_139 ?_
    exact sk_iret C hM hS ⟨Option.some.inj h, rfl⟩ dX3_join_140
  have h := sk_neg h hk_3
  by_cases hk_4 : a0 = 45
  · refine lv_lookup (off := 140) hx hb dX3_join_1 rfl (by rw [hk_4]; rfl) rfl ?_
    have h := sk_pos h hk_4
    refine lv_iload_n hx hb dX3_join_141 rfl (lv_at hl 1 rfl) ?_
    refine lv_iload_n hx hb dX3_join_142 rfl (lv_at hl 2 rfl) ?_
    refine lv_isub hx hb dX3_join_143 ?_
    exact sk_iret C hM hS ⟨Option.some.inj h, rfl⟩ dX3_join_144
  have h := sk_neg h hk_4
  by_cases hk_5 : a0 = 60
  · refine lv_lookup (off := 103) hx hb dX3_join_1 rfl (by rw [hk_5]; rfl) rfl ?_
    have h := sk_pos h hk_5
    refine lv_iload_n hx hb dX3_join_104 rfl (lv_at hl 1 rfl) ?_
    refine lv_iload_n hx hb dX3_join_105 rfl (lv_at hl 2 rfl) ?_
    have J : ∀ (vv : Int32) (H : Heap) (locs : List Loc), (if a2 ≤ a1 then 0 else 1 : Int32) = vv → sk_P g M H → va_S (sk_A g) s.heap H locs → W p l e (sk_rm 1) s m av below meth c H locs 0 0 (MQ below (sk_QI g rr M) av s 0 0 (sk_A g)) (F0 m 114 ls [.int vv]) := by
      intro vv H locs hvv hM hS
      subst hvv
      exact sk_iret C hM hS ⟨Option.some.inj h, rfl⟩ dX3_join_114
    refine lv_icmp_ge hx hb dX3_join_106 rfl (fun hc => ?_) (fun hc => ?_)
    · have J := fun vv H locs q => J vv H locs ((if_pos hc).trans q)
      refine lv_iconst (v := 0) hx hb dX3_join_113 (by decide) ?_
      exact J _ _ _ rfl hM hS
    · have J := fun vv H locs q => J vv H locs ((if_neg hc).trans q)
      refine lv_iconst (v := 1) hx hb dX3_join_109 (by decide) ?_
      refine lv_goto hx hb dX3_join_110 rfl ?_
      exact J _ _ _ rfl hM hS
  have h := sk_neg h hk_5
  by_cases hk_6 : a0 = 61
  · refine lv_lookup (off := 114) hx hb dX3_join_1 rfl (by rw [hk_6]; rfl) rfl ?_
    have h := sk_pos h hk_6
    refine lv_iload_n hx hb dX3_join_115 rfl (lv_at hl 1 rfl) ?_
    refine lv_iload_n hx hb dX3_join_116 rfl (lv_at hl 2 rfl) ?_
    have J : ∀ (vv : Int32) (H : Heap) (locs : List Loc), (if a1 = a2 then 1 else 0 : Int32) = vv → sk_P g M H → va_S (sk_A g) s.heap H locs → W p l e (sk_rm 1) s m av below meth c H locs 0 0 (MQ below (sk_QI g rr M) av s 0 0 (sk_A g)) (F0 m 125 ls [.int vv]) := by
      intro vv H locs hvv hM hS
      subst hvv
      exact sk_iret C hM hS ⟨Option.some.inj h, rfl⟩ dX3_join_125
    refine lv_icmp_ne hx hb dX3_join_117 rfl (fun hc => ?_) (fun hc => ?_)
    · have J := fun vv H locs q => J vv H locs ((if_neg hc).trans q)
      refine lv_iconst (v := 0) hx hb dX3_join_124 (by decide) ?_
      exact J _ _ _ rfl hM hS
    · have J := fun vv H locs q => J vv H locs ((if_pos hc).trans q)
      refine lv_iconst (v := 1) hx hb dX3_join_120 (by decide) ?_
      refine lv_goto hx hb dX3_join_121 rfl ?_
      exact J _ _ _ rfl hM hS
  have h := sk_neg h hk_6
  by_cases hk_7 : a0 = 62
  · refine lv_lookup (off := 125) hx hb dX3_join_1 rfl (by rw [hk_7]; rfl) rfl ?_
    have h := sk_pos h hk_7
    refine lv_iload_n hx hb dX3_join_126 rfl (lv_at hl 1 rfl) ?_
    refine lv_iload_n hx hb dX3_join_127 rfl (lv_at hl 2 rfl) ?_
    have J : ∀ (vv : Int32) (H : Heap) (locs : List Loc), (if a1 ≤ a2 then 0 else 1 : Int32) = vv → sk_P g M H → va_S (sk_A g) s.heap H locs → W p l e (sk_rm 1) s m av below meth c H locs 0 0 (MQ below (sk_QI g rr M) av s 0 0 (sk_A g)) (F0 m 136 ls [.int vv]) := by
      intro vv H locs hvv hM hS
      subst hvv
      exact sk_iret C hM hS ⟨Option.some.inj h, rfl⟩ dX3_join_136
    refine lv_icmp_le hx hb dX3_join_128 rfl (fun hc => ?_) (fun hc => ?_)
    · have J := fun vv H locs q => J vv H locs ((if_pos hc).trans q)
      refine lv_iconst (v := 0) hx hb dX3_join_135 (by decide) ?_
      exact J _ _ _ rfl hM hS
    · have J := fun vv H locs q => J vv H locs ((if_neg hc).trans q)
      refine lv_iconst (v := 1) hx hb dX3_join_131 (by decide) ?_
      refine lv_goto hx hb dX3_join_132 rfl ?_
      exact J _ _ _ rfl hM hS
  have h := sk_neg h hk_7
  by_cases hk_8 : a0 = 124
  · refine lv_lookup (off := 75) hx hb dX3_join_1 rfl (by rw [hk_8]; rfl) rfl ?_
    have h := sk_pos h hk_8
    refine lv_iload_n hx hb dX3_join_76 rfl (lv_at hl 1 rfl) ?_
    refine lv_if_ne hx hb dX3_join_77 rfl (fun hc => ?_) (fun hc => ?_)
    · have h := sk_neg h hc
      refine lv_iconst (v := 1) hx hb dX3_join_84 (by decide) ?_
      refine lv_goto hx hb dX3_join_85 rfl ?_
      exact sk_iret C hM hS ⟨Option.some.inj h, rfl⟩ dX3_join_89
    · have h := sk_pos h hc
      refine lv_iload_n hx hb dX3_join_80 rfl (lv_at hl 2 rfl) ?_
      have J : ∀ (vv : Int32) (H : Heap) (locs : List Loc), (if a2 = 0 then 0 else 1 : Int32) = vv → sk_P g M H → va_S (sk_A g) s.heap H locs → W p l e (sk_rm 1) s m av below meth c H locs 0 0 (MQ below (sk_QI g rr M) av s 0 0 (sk_A g)) (F0 m 89 ls [.int vv]) := by
        intro vv H locs hvv hM hS
        subst hvv
        exact sk_iret C hM hS ⟨Option.some.inj h, rfl⟩ dX3_join_89
      refine lv_if_eq hx hb dX3_join_81 rfl (fun hc => ?_) (fun hc => ?_)
      · have J := fun vv H locs q => J vv H locs ((if_pos hc).trans q)
        refine lv_iconst (v := 0) hx hb dX3_join_88 (by decide) ?_
        exact J _ _ _ rfl hM hS
      · have J := fun vv H locs q => J vv H locs ((if_neg hc).trans q)
        refine lv_iconst (v := 1) hx hb dX3_join_84 (by decide) ?_
        refine lv_goto hx hb dX3_join_85 rfl ?_
        exact J _ _ _ rfl hM hS
  have h := sk_neg h hk_8
  refine lv_lookup (off := 148) hx hb dX3_join_1 rfl (sk_look (by intro q hq; simp only [List.mem_cons, List.not_mem_nil, or_false] at hq; rcases hq with rfl | rfl | rfl | rfl | rfl | rfl | rfl | rfl <;> first | exact sk_tn hk_1 rfl | exact sk_tn hk_2 rfl | exact sk_tn hk_3 rfl | exact sk_tn hk_4 rfl | exact sk_tn hk_5 rfl | exact sk_tn hk_6 rfl | exact sk_tn hk_7 rfl | exact sk_tn hk_8 rfl)) rfl ?_
  refine lv_iload_n hx hb dX3_join_149 rfl (lv_at hl 2 rfl) ?_
  refine lv_if_ne hx hb dX3_join_150 rfl (fun hc => ?_) (fun hc => ?_)
  · have h := sk_neg h hc
    refine lv_iload_n hx hb dX3_join_157 rfl (lv_at hl 1 rfl) ?_
    refine lv_iload_n hx hb dX3_join_158 rfl (lv_at hl 2 rfl) ?_
    obtain ⟨i_9, h⟩ := sk_chkE h
    refine lv_idiv hx hb dX3_join_159 (of_decide_eq_true i_9) ?_
    exact sk_iret C hM hS ⟨Option.some.inj h, rfl⟩ dX3_join_160
  · have h := sk_pos h hc
    refine lv_iconst (v := 0) hx hb dX3_join_153 (by decide) ?_
    refine lv_goto hx hb dX3_join_154 rfl ?_
    exact sk_iret C hM hS ⟨Option.some.inj h, rfl⟩ dX3_join_160
theorem dX3_give_0 : decode cX3_give 0 = .ok (.iconst 0, 1) := by decide +kernel
theorem dX3_give_1 : decode cX3_give 1 = .ok (.istore 5, 2) := by decide +kernel
theorem dX3_give_3 : decode cX3_give 3 = .ok (.iconst 0, 1) := by decide +kernel
theorem dX3_give_4 : decode cX3_give 4 = .ok (.istore 6, 2) := by decide +kernel
theorem dX3_give_6 : decode cX3_give 6 = .ok (.iload 6, 2) := by decide +kernel
theorem dX3_give_8 : decode cX3_give 8 = .ok (.aload_n 0, 1) := by decide +kernel
theorem dX3_give_9 : decode cX3_give 9 = .ok (.getfield 16, 3) := by decide +kernel
theorem dX3_give_12 : decode cX3_give 12 = .ok (.iload_n 1, 1) := by decide +kernel
theorem dX3_give_13 : decode cX3_give 13 = .ok (.iaload, 1) := by decide +kernel
theorem dX3_give_14 : decode cX3_give 14 = .ok (.if_icmp .ge 141, 3) := by decide +kernel
theorem dX3_give_17 : decode cX3_give 17 = .ok (.aload_n 0, 1) := by decide +kernel
theorem dX3_give_18 : decode cX3_give 18 = .ok (.getfield 11, 3) := by decide +kernel
theorem dX3_give_21 : decode cX3_give 21 = .ok (.iload_n 1, 1) := by decide +kernel
theorem dX3_give_22 : decode cX3_give 22 = .ok (.aaload, 1) := by decide +kernel
theorem dX3_give_23 : decode cX3_give 23 = .ok (.iload 6, 2) := by decide +kernel
theorem dX3_give_25 : decode cX3_give 25 = .ok (.iaload, 1) := by decide +kernel
theorem dX3_give_26 : decode cX3_give 26 = .ok (.istore 7, 2) := by decide +kernel
theorem dX3_give_28 : decode cX3_give 28 = .ok (.iload 7, 2) := by decide +kernel
theorem dX3_give_30 : decode cX3_give 30 = .ok (.bipush (-3), 2) := by decide +kernel
theorem dX3_give_32 : decode cX3_give 32 = .ok (.if_icmp .lt 35, 3) := by decide +kernel
theorem dX3_give_35 : decode cX3_give 35 = .ok (.aload_n 0, 1) := by decide +kernel
theorem dX3_give_36 : decode cX3_give 36 = .ok (.getfield 26, 3) := by decide +kernel
theorem dX3_give_39 : decode cX3_give 39 = .ok (.iload 5, 2) := by decide +kernel
theorem dX3_give_41 : decode cX3_give 41 = .ok (.iload 7, 2) := by decide +kernel
theorem dX3_give_43 : decode cX3_give 43 = .ok (.ifCond .lt 8, 3) := by decide +kernel
theorem dX3_give_46 : decode cX3_give 46 = .ok (.iload 7, 2) := by decide +kernel
theorem dX3_give_48 : decode cX3_give 48 = .ok (.goto 12, 3) := by decide +kernel
theorem dX3_give_51 : decode cX3_give 51 = .ok (.iload 7, 2) := by decide +kernel
theorem dX3_give_53 : decode cX3_give 53 = .ok (.iload_n 2, 1) := by decide +kernel
theorem dX3_give_54 : decode cX3_give 54 = .ok (.iload_n 3, 1) := by decide +kernel
theorem dX3_give_55 : decode cX3_give 55 = .ok (.iload 4, 2) := by decide +kernel
theorem dX3_give_57 : decode cX3_give 57 = .ok (.invokestatic 48, 3) := by decide +kernel
theorem dX3_give_60 : decode cX3_give 60 = .ok (.iastore, 1) := by decide +kernel
theorem dX3_give_61 : decode cX3_give 61 = .ok (.iinc 5 1, 3) := by decide +kernel
theorem dX3_give_64 : decode cX3_give 64 = .ok (.goto 85, 3) := by decide +kernel
theorem dX3_give_67 : decode cX3_give 67 = .ok (.iload 7, 2) := by decide +kernel
theorem dX3_give_69 : decode cX3_give 69 = .ok (.bipush (-33), 2) := by decide +kernel
theorem dX3_give_71 : decode cX3_give 71 = .ok (.if_icmp .ne 38, 3) := by decide +kernel
theorem dX3_give_74 : decode cX3_give 74 = .ok (.iload 5, 2) := by decide +kernel
theorem dX3_give_76 : decode cX3_give 76 = .ok (.iconst 1, 1) := by decide +kernel
theorem dX3_give_77 : decode cX3_give 77 = .ok (.if_icmp .lt 32, 3) := by decide +kernel
theorem dX3_give_80 : decode cX3_give 80 = .ok (.aload_n 0, 1) := by decide +kernel
theorem dX3_give_81 : decode cX3_give 81 = .ok (.getfield 26, 3) := by decide +kernel
theorem dX3_give_84 : decode cX3_give 84 = .ok (.iload 5, 2) := by decide +kernel
theorem dX3_give_86 : decode cX3_give 86 = .ok (.iconst 1, 1) := by decide +kernel
theorem dX3_give_87 : decode cX3_give 87 = .ok (.isub, 1) := by decide +kernel
theorem dX3_give_88 : decode cX3_give 88 = .ok (.aload_n 0, 1) := by decide +kernel
theorem dX3_give_89 : decode cX3_give 89 = .ok (.getfield 26, 3) := by decide +kernel
theorem dX3_give_92 : decode cX3_give 92 = .ok (.iload 5, 2) := by decide +kernel
theorem dX3_give_94 : decode cX3_give 94 = .ok (.iconst 1, 1) := by decide +kernel
theorem dX3_give_95 : decode cX3_give 95 = .ok (.isub, 1) := by decide +kernel
theorem dX3_give_96 : decode cX3_give 96 = .ok (.iaload, 1) := by decide +kernel
theorem dX3_give_97 : decode cX3_give 97 = .ok (.ifCond .ne 7, 3) := by decide +kernel
theorem dX3_give_100 : decode cX3_give 100 = .ok (.iconst 1, 1) := by decide +kernel
theorem dX3_give_101 : decode cX3_give 101 = .ok (.goto 4, 3) := by decide +kernel
theorem dX3_give_104 : decode cX3_give 104 = .ok (.iconst 0, 1) := by decide +kernel
theorem dX3_give_105 : decode cX3_give 105 = .ok (.iastore, 1) := by decide +kernel
theorem dX3_give_106 : decode cX3_give 106 = .ok (.goto 43, 3) := by decide +kernel
theorem dX3_give_109 : decode cX3_give 109 = .ok (.iload 5, 2) := by decide +kernel
theorem dX3_give_111 : decode cX3_give 111 = .ok (.iconst 2, 1) := by decide +kernel
theorem dX3_give_112 : decode cX3_give 112 = .ok (.if_icmp .lt 37, 3) := by decide +kernel
theorem dX3_give_115 : decode cX3_give 115 = .ok (.iinc 5 (-1), 3) := by decide +kernel
theorem dX3_give_118 : decode cX3_give 118 = .ok (.aload_n 0, 1) := by decide +kernel
theorem dX3_give_119 : decode cX3_give 119 = .ok (.getfield 26, 3) := by decide +kernel
theorem dX3_give_122 : decode cX3_give 122 = .ok (.iload 5, 2) := by decide +kernel
theorem dX3_give_124 : decode cX3_give 124 = .ok (.iconst 1, 1) := by decide +kernel
theorem dX3_give_125 : decode cX3_give 125 = .ok (.isub, 1) := by decide +kernel
theorem dX3_give_126 : decode cX3_give 126 = .ok (.iload 7, 2) := by decide +kernel
theorem dX3_give_128 : decode cX3_give 128 = .ok (.ineg, 1) := by decide +kernel
theorem dX3_give_129 : decode cX3_give 129 = .ok (.aload_n 0, 1) := by decide +kernel
theorem dX3_give_130 : decode cX3_give 130 = .ok (.getfield 26, 3) := by decide +kernel
theorem dX3_give_133 : decode cX3_give 133 = .ok (.iload 5, 2) := by decide +kernel
theorem dX3_give_135 : decode cX3_give 135 = .ok (.iconst 1, 1) := by decide +kernel
theorem dX3_give_136 : decode cX3_give 136 = .ok (.isub, 1) := by decide +kernel
theorem dX3_give_137 : decode cX3_give 137 = .ok (.iaload, 1) := by decide +kernel
theorem dX3_give_138 : decode cX3_give 138 = .ok (.aload_n 0, 1) := by decide +kernel
theorem dX3_give_139 : decode cX3_give 139 = .ok (.getfield 26, 3) := by decide +kernel
theorem dX3_give_142 : decode cX3_give 142 = .ok (.iload 5, 2) := by decide +kernel
theorem dX3_give_144 : decode cX3_give 144 = .ok (.iaload, 1) := by decide +kernel
theorem dX3_give_145 : decode cX3_give 145 = .ok (.invokestatic 52, 3) := by decide +kernel
theorem dX3_give_148 : decode cX3_give 148 = .ok (.iastore, 1) := by decide +kernel
theorem dX3_give_149 : decode cX3_give 149 = .ok (.iinc 6 1, 3) := by decide +kernel
theorem dX3_give_152 : decode cX3_give 152 = .ok (.goto (-146), 3) := by decide +kernel
theorem dX3_give_155 : decode cX3_give 155 = .ok (.aload_n 0, 1) := by decide +kernel
theorem dX3_give_156 : decode cX3_give 156 = .ok (.getfield 26, 3) := by decide +kernel
theorem dX3_give_159 : decode cX3_give 159 = .ok (.iconst 0, 1) := by decide +kernel
theorem dX3_give_160 : decode cX3_give 160 = .ok (.iaload, 1) := by decide +kernel
theorem dX3_give_161 : decode cX3_give 161 = .ok (.ireturn, 1) := by decide +kernel
set_option maxHeartbeats 4000000 in
set_option maxRecDepth 100000 in
theorem w_X3_give_L6 {g : sk_G} {l : Launch} {p : Program} {e : Env} {s : State} {m : MethodId} {av : Array Value} {below : List Frame} {meth : Method} {c : Code} (C : sk_C g p s m av meth c cX3_give 8 RX3 (some .int)) (a1 : Int32) (a2 : Int32) (a3 : Int32) (a4 : Int32) {rr : Int32} {MM : sk_M} :
    ∀ (n : Nat) (a5 : Int32) (a6 : Int32) (M : sk_M) (H : Heap) (locs : List Loc) (ls : Array Slot), lv_has ls 8 [(0, .ref (sk_ad g 42)), (1, .int a1), (2, .int a2), (3, .int a3), (4, .int a4), (5, .int a5), (6, .int a6)] → sk_P g M H → va_S (sk_A g) s.heap H locs → ∀ {out : sk_M}, f_X3_give_L6 a1 a2 a3 a4 n a5 a6 M = some out → (∀ (M1 : sk_M) (H : Heap) (locs : List Loc) (ls : Array Slot), some M1 = some out → lv_has ls 8 [(0, .ref (sk_ad g 42))] → sk_P g M1 H → va_S (sk_A g) s.heap H locs → W p l e (sk_rm 2) s m av below meth c H locs 0 0 (MQ below (sk_QI g rr MM) av s 0 0 (sk_A g)) (F0 m 155 ls [])) → W p l e (sk_rm 2) s m av below meth c H locs 0 0 (MQ below (sk_QI g rr MM) av s 0 0 (sk_A g)) (F0 m 6 ls []) := by
  obtain ⟨hx, hb, hml, hown, hts, hK, hE, hr, hlocks⟩ := id C
  intro n
  induction n with
  | zero =>
    intro a5 a6 M H locs ls hl hM hS out h
    cases h
  | succ n ih =>
    intro a5 a6 M H locs ls hl hM hS out h kx
    rw [f_X3_give_L6] at h
    refine lv_iload hx hb dX3_give_6 (lv_at hl 6 rfl) ?_
    refine lv_aload_n hx hb dX3_give_8 rfl (lv_at hl 0 rfl) ?_
    refine sk_getR (o := 42) (ci := 3) (j := 1) (t := 44) C hM rfl rfl (by decide) rfl rfl kw_96 dX3_give_9 ?_
    refine lv_iload_n hx hb dX3_give_12 rfl (lv_at hl 1 rfl) ?_
    obtain ⟨i_1, h⟩ := sk_chkE h
    refine sk_iald (o := 44) C hM rfl i_1 dX3_give_13 ?_
    refine lv_icmp_ge hx hb dX3_give_14 rfl (fun hc => ?_) (fun hc => ?_)
    · have h := sk_pos h hc
      exact kx _ _ _ _ h (lv_sub hl [0] rfl) hM hS
    · have h := sk_neg h hc
      refine lv_aload_n hx hb dX3_give_17 rfl (lv_at hl 0 rfl) ?_
      refine sk_getR (o := 42) (ci := 3) (j := 0) (t := 43) C hM rfl rfl (by decide) rfl rfl kw_95 dX3_give_18 ?_
      refine lv_iload_n hx hb dX3_give_21 rfl (lv_at hl 1 rfl) ?_
      obtain ⟨i_2, h⟩ := sk_chkE h
      refine sk_aald (o := 43) (k := 0) (t := (48 + a1.toNatClampNeg)) C hM rfl (by decide) i_2 rfl dX3_give_22 ?_
      refine lv_iload hx hb dX3_give_23 (lv_at hl 6 rfl) ?_
      obtain ⟨i_3, h⟩ := sk_chkE h
      refine sk_iald (o := (48 + a1.toNatClampNeg)) C hM (sk_kd_t (sk_in_lt i_2)) i_3 dX3_give_25 ?_
      refine lv_topi (fun x_4 ex_4 => ?_)
      have h := sk_letU h ex_4
      refine lv_istore (lv' := [(7, .int x_4), (0, .ref (sk_ad g 42)), (1, .int a1), (2, .int a2), (3, .int a3), (4, .int a4), (5, .int a5), (6, .int a6)]) hx hb dX3_give_26 hl (by decide) rfl (fun ls hl => ?_)
      refine lv_iload hx hb dX3_give_28 (lv_at hl 0 rfl) ?_
      refine lv_bipush (v := (-3)) hx hb dX3_give_30 (by decide) ?_
      refine lv_icmp_lt hx hb dX3_give_32 rfl (fun hc => ?_) (fun hc => ?_)
      · have h := sk_pos h hc
        refine lv_iload hx hb dX3_give_67 (lv_at hl 0 rfl) ?_
        refine lv_bipush (v := (-33)) hx hb dX3_give_69 (by decide) ?_
        refine lv_icmp_ne hx hb dX3_give_71 rfl (fun hc => ?_) (fun hc => ?_)
        · have h := sk_neg h hc
          refine lv_iload hx hb dX3_give_109 (lv_at hl 6 rfl) ?_
          refine lv_iconst (v := 2) hx hb dX3_give_111 (by decide) ?_
          refine lv_icmp_lt hx hb dX3_give_112 rfl (fun hc => ?_) (fun hc => ?_)
          · have h := sk_pos h hc
            refine lv_iinc (v := (a6 + 1)) (lv' := [(6, .int (a6 + 1)), (7, .int x_4), (0, .ref (sk_ad g 42)), (1, .int a1), (2, .int a2), (3, .int a3), (4, .int a4), (5, .int a5)]) hx hb dX3_give_149 hl (k := 7) rfl rfl (by decide) rfl (fun ls hl => ?_)
            refine lv_goto hx hb dX3_give_152 rfl ?_
            exact ih a5 (a6 + 1) M _ _ _ (lv_sub hl [2, 3, 4, 5, 6, 7, 0] rfl) hM hS h kx
          · have h := sk_neg h hc
            refine lv_iinc (v := (a5 + (-1))) (lv' := [(5, .int (a5 + (-1))), (7, .int x_4), (0, .ref (sk_ad g 42)), (1, .int a1), (2, .int a2), (3, .int a3), (4, .int a4), (6, .int a6)]) hx hb dX3_give_115 hl (k := 6) rfl rfl (by decide) rfl (fun ls hl => ?_)
            refine lv_aload_n hx hb dX3_give_118 rfl (lv_at hl 2 rfl) ?_
            refine sk_getR (o := 42) (ci := 3) (j := 4) (t := 47) C hM rfl rfl (by decide) rfl rfl kw_101 dX3_give_119 ?_
            refine lv_iload hx hb dX3_give_122 (lv_at hl 0 rfl) ?_
            refine lv_iconst (v := 1) hx hb dX3_give_124 (by decide) ?_
            refine lv_isub hx hb dX3_give_125 ?_
            refine lv_iload hx hb dX3_give_126 (lv_at hl 1 rfl) ?_
            refine lv_ineg hx hb dX3_give_128 ?_
            refine lv_aload_n hx hb dX3_give_129 rfl (lv_at hl 2 rfl) ?_
            refine sk_getR (o := 42) (ci := 3) (j := 4) (t := 47) C hM rfl rfl (by decide) rfl rfl kw_101 dX3_give_130 ?_
            refine lv_iload hx hb dX3_give_133 (lv_at hl 0 rfl) ?_
            refine lv_iconst (v := 1) hx hb dX3_give_135 (by decide) ?_
            refine lv_isub hx hb dX3_give_136 ?_
            obtain ⟨i_5, h⟩ := sk_chkE h
            refine sk_iald (o := 47) C hM rfl i_5 dX3_give_137 ?_
            refine lv_aload_n hx hb dX3_give_138 rfl (lv_at hl 2 rfl) ?_
            refine sk_getR (o := 42) (ci := 3) (j := 4) (t := 47) C hM rfl rfl (by decide) rfl rfl kw_101 dX3_give_139 ?_
            refine lv_iload hx hb dX3_give_142 (lv_at hl 0 rfl) ?_
            obtain ⟨i_6, h⟩ := sk_chkE h
            refine sk_iald (o := 47) C hM rfl i_6 dX3_give_144 ?_
            obtain ⟨x_7, h_8, h⟩ := sk_b1E h
            refine sk_contI (sk_runS (As := [.int (-x_4), .int (M 47 ((a5 + (-1)) - 1).toNatClampNeg), .int (M 47 (a5 + (-1)).toNatClampNeg)]) (rest := [.int ((a5 + (-1)) - 1), .ref (sk_ad g 47)]) C (c_X3_join g l (-x_4) (M 47 ((a5 + (-1)) - 1).toNatClampNeg) (M 47 (a5 + (-1)).toNatClampNeg) M h_8) yo_X3_join kw_453 (by decide) hM hS hl.1 rfl rfl (Nat.le_of_ble_eq_true rfl) dX3_give_145) hS (fun H locs hM hS => ?_)
            obtain ⟨i_9, h⟩ := sk_chkE h
            refine sk_iast (o := 47) C hM hS rfl i_9 dX3_give_148 (fun M_10 eM_10 H locs hM hS => ?_)
            have h := sk_letU h eM_10
            refine lv_iinc (v := (a6 + 1)) (lv' := [(6, .int (a6 + 1)), (5, .int (a5 + (-1))), (7, .int x_4), (0, .ref (sk_ad g 42)), (1, .int a1), (2, .int a2), (3, .int a3), (4, .int a4)]) hx hb dX3_give_149 hl (k := 7) rfl rfl (by decide) rfl (fun ls hl => ?_)
            refine lv_goto hx hb dX3_give_152 rfl ?_
            exact ih (a5 + (-1)) (a6 + 1) M_10 _ _ _ (lv_sub hl [3, 4, 5, 6, 7, 1, 0] rfl) hM hS h kx
        · have h := sk_pos h hc
          refine lv_iload hx hb dX3_give_74 (lv_at hl 6 rfl) ?_
          refine lv_iconst (v := 1) hx hb dX3_give_76 (by decide) ?_
          refine lv_icmp_lt hx hb dX3_give_77 rfl (fun hc => ?_) (fun hc => ?_)
          · have h := sk_pos h hc
            refine lv_iload hx hb dX3_give_109 (lv_at hl 6 rfl) ?_
            refine lv_iconst (v := 2) hx hb dX3_give_111 (by decide) ?_
            refine lv_icmp_lt hx hb dX3_give_112 rfl (fun hc => ?_) (fun hc => ?_)
            · have h := sk_pos h hc
              refine lv_iinc (v := (a6 + 1)) (lv' := [(6, .int (a6 + 1)), (7, .int x_4), (0, .ref (sk_ad g 42)), (1, .int a1), (2, .int a2), (3, .int a3), (4, .int a4), (5, .int a5)]) hx hb dX3_give_149 hl (k := 7) rfl rfl (by decide) rfl (fun ls hl => ?_)
              refine lv_goto hx hb dX3_give_152 rfl ?_
              exact ih a5 (a6 + 1) M _ _ _ (lv_sub hl [2, 3, 4, 5, 6, 7, 0] rfl) hM hS h kx
            · have h := sk_neg h hc
              refine lv_iinc (v := (a5 + (-1))) (lv' := [(5, .int (a5 + (-1))), (7, .int x_4), (0, .ref (sk_ad g 42)), (1, .int a1), (2, .int a2), (3, .int a3), (4, .int a4), (6, .int a6)]) hx hb dX3_give_115 hl (k := 6) rfl rfl (by decide) rfl (fun ls hl => ?_)
              refine lv_aload_n hx hb dX3_give_118 rfl (lv_at hl 2 rfl) ?_
              refine sk_getR (o := 42) (ci := 3) (j := 4) (t := 47) C hM rfl rfl (by decide) rfl rfl kw_101 dX3_give_119 ?_
              refine lv_iload hx hb dX3_give_122 (lv_at hl 0 rfl) ?_
              refine lv_iconst (v := 1) hx hb dX3_give_124 (by decide) ?_
              refine lv_isub hx hb dX3_give_125 ?_
              refine lv_iload hx hb dX3_give_126 (lv_at hl 1 rfl) ?_
              refine lv_ineg hx hb dX3_give_128 ?_
              refine lv_aload_n hx hb dX3_give_129 rfl (lv_at hl 2 rfl) ?_
              refine sk_getR (o := 42) (ci := 3) (j := 4) (t := 47) C hM rfl rfl (by decide) rfl rfl kw_101 dX3_give_130 ?_
              refine lv_iload hx hb dX3_give_133 (lv_at hl 0 rfl) ?_
              refine lv_iconst (v := 1) hx hb dX3_give_135 (by decide) ?_
              refine lv_isub hx hb dX3_give_136 ?_
              obtain ⟨i_11, h⟩ := sk_chkE h
              refine sk_iald (o := 47) C hM rfl i_11 dX3_give_137 ?_
              refine lv_aload_n hx hb dX3_give_138 rfl (lv_at hl 2 rfl) ?_
              refine sk_getR (o := 42) (ci := 3) (j := 4) (t := 47) C hM rfl rfl (by decide) rfl rfl kw_101 dX3_give_139 ?_
              refine lv_iload hx hb dX3_give_142 (lv_at hl 0 rfl) ?_
              obtain ⟨i_12, h⟩ := sk_chkE h
              refine sk_iald (o := 47) C hM rfl i_12 dX3_give_144 ?_
              obtain ⟨x_13, h_14, h⟩ := sk_b1E h
              refine sk_contI (sk_runS (As := [.int (-x_4), .int (M 47 ((a5 + (-1)) - 1).toNatClampNeg), .int (M 47 (a5 + (-1)).toNatClampNeg)]) (rest := [.int ((a5 + (-1)) - 1), .ref (sk_ad g 47)]) C (c_X3_join g l (-x_4) (M 47 ((a5 + (-1)) - 1).toNatClampNeg) (M 47 (a5 + (-1)).toNatClampNeg) M h_14) yo_X3_join kw_453 (by decide) hM hS hl.1 rfl rfl (Nat.le_of_ble_eq_true rfl) dX3_give_145) hS (fun H locs hM hS => ?_)
              obtain ⟨i_15, h⟩ := sk_chkE h
              refine sk_iast (o := 47) C hM hS rfl i_15 dX3_give_148 (fun M_16 eM_16 H locs hM hS => ?_)
              have h := sk_letU h eM_16
              refine lv_iinc (v := (a6 + 1)) (lv' := [(6, .int (a6 + 1)), (5, .int (a5 + (-1))), (7, .int x_4), (0, .ref (sk_ad g 42)), (1, .int a1), (2, .int a2), (3, .int a3), (4, .int a4)]) hx hb dX3_give_149 hl (k := 7) rfl rfl (by decide) rfl (fun ls hl => ?_)
              refine lv_goto hx hb dX3_give_152 rfl ?_
              exact ih (a5 + (-1)) (a6 + 1) M_16 _ _ _ (lv_sub hl [3, 4, 5, 6, 7, 1, 0] rfl) hM hS h kx
          · have h := sk_neg h hc
            refine lv_aload_n hx hb dX3_give_80 rfl (lv_at hl 1 rfl) ?_
            refine sk_getR (o := 42) (ci := 3) (j := 4) (t := 47) C hM rfl rfl (by decide) rfl rfl kw_101 dX3_give_81 ?_
            refine lv_iload hx hb dX3_give_84 (lv_at hl 6 rfl) ?_
            refine lv_iconst (v := 1) hx hb dX3_give_86 (by decide) ?_
            refine lv_isub hx hb dX3_give_87 ?_
            refine lv_aload_n hx hb dX3_give_88 rfl (lv_at hl 1 rfl) ?_
            refine sk_getR (o := 42) (ci := 3) (j := 4) (t := 47) C hM rfl rfl (by decide) rfl rfl kw_101 dX3_give_89 ?_
            refine lv_iload hx hb dX3_give_92 (lv_at hl 6 rfl) ?_
            refine lv_iconst (v := 1) hx hb dX3_give_94 (by decide) ?_
            refine lv_isub hx hb dX3_give_95 ?_
            obtain ⟨i_17, h⟩ := sk_chkE h
            refine sk_iald (o := 47) C hM rfl i_17 dX3_give_96 ?_
            have J : ∀ (vv : Int32) (H : Heap) (locs : List Loc), (if (M 47 (a5 - 1).toNatClampNeg) = 0 then 1 else 0 : Int32) = vv → sk_P g M H → va_S (sk_A g) s.heap H locs → W p l e (sk_rm 2) s m av below meth c H locs 0 0 (MQ below (sk_QI g rr MM) av s 0 0 (sk_A g)) (F0 m 105 ls [.int vv, .int (a5 - 1), .ref (sk_ad g 47)]) := by
              intro vv H locs hvv hM hS
              subst hvv
              obtain ⟨i_18, h⟩ := sk_chkE h
              refine sk_iast (o := 47) C hM hS rfl i_18 dX3_give_105 (fun M_19 eM_19 H locs hM hS => ?_)
              have h := sk_letU h eM_19
              refine lv_goto hx hb dX3_give_106 rfl ?_
              refine lv_iinc (v := (a6 + 1)) (lv' := [(6, .int (a6 + 1)), (7, .int x_4), (0, .ref (sk_ad g 42)), (1, .int a1), (2, .int a2), (3, .int a3), (4, .int a4), (5, .int a5)]) hx hb dX3_give_149 hl (k := 7) rfl rfl (by decide) rfl (fun ls hl => ?_)
              refine lv_goto hx hb dX3_give_152 rfl ?_
              exact ih a5 (a6 + 1) M_19 _ _ _ (lv_sub hl [2, 3, 4, 5, 6, 7, 0] rfl) hM hS h kx
            refine lv_if_ne hx hb dX3_give_97 rfl (fun hc => ?_) (fun hc => ?_)
            · have J := fun vv H locs q => J vv H locs ((if_neg hc).trans q)
              refine lv_iconst (v := 0) hx hb dX3_give_104 (by decide) ?_
              exact J _ _ _ rfl hM hS
            · have J := fun vv H locs q => J vv H locs ((if_pos hc).trans q)
              refine lv_iconst (v := 1) hx hb dX3_give_100 (by decide) ?_
              refine lv_goto hx hb dX3_give_101 rfl ?_
              exact J _ _ _ rfl hM hS
      · have h := sk_neg h hc
        refine lv_aload_n hx hb dX3_give_35 rfl (lv_at hl 1 rfl) ?_
        refine sk_getR (o := 42) (ci := 3) (j := 4) (t := 47) C hM rfl rfl (by decide) rfl rfl kw_101 dX3_give_36 ?_
        refine lv_iload hx hb dX3_give_39 (lv_at hl 6 rfl) ?_
        refine lv_iload hx hb dX3_give_41 (lv_at hl 0 rfl) ?_
        have J : ∀ (vv : Int32) (H : Heap) (locs : List Loc), (if x_4 < 0 then (f_X3_named x_4 a2 a3 a4) else x_4 : Int32) = vv → sk_P g M H → va_S (sk_A g) s.heap H locs → W p l e (sk_rm 2) s m av below meth c H locs 0 0 (MQ below (sk_QI g rr MM) av s 0 0 (sk_A g)) (F0 m 60 ls [.int vv, .int a5, .ref (sk_ad g 47)]) := by
          intro vv H locs hvv hM hS
          subst hvv
          obtain ⟨i_21, h⟩ := sk_chkE h
          refine sk_iast (o := 47) C hM hS rfl i_21 dX3_give_60 (fun M_22 eM_22 H locs hM hS => ?_)
          have h := sk_letU h eM_22
          refine lv_iinc (v := (a5 + 1)) (lv' := [(5, .int (a5 + 1)), (7, .int x_4), (0, .ref (sk_ad g 42)), (1, .int a1), (2, .int a2), (3, .int a3), (4, .int a4), (6, .int a6)]) hx hb dX3_give_61 hl (k := 6) rfl rfl (by decide) rfl (fun ls hl => ?_)
          refine lv_goto hx hb dX3_give_64 rfl ?_
          refine lv_iinc (v := (a6 + 1)) (lv' := [(6, .int (a6 + 1)), (5, .int (a5 + 1)), (7, .int x_4), (0, .ref (sk_ad g 42)), (1, .int a1), (2, .int a2), (3, .int a3), (4, .int a4)]) hx hb dX3_give_149 hl (k := 7) rfl rfl (by decide) rfl (fun ls hl => ?_)
          refine lv_goto hx hb dX3_give_152 rfl ?_
          exact ih (a5 + 1) (a6 + 1) M_22 _ _ _ (lv_sub hl [3, 4, 5, 6, 7, 1, 0] rfl) hM hS h kx
        refine lv_if_lt hx hb dX3_give_43 rfl (fun hc => ?_) (fun hc => ?_)
        · have J := fun vv H locs q => J vv H locs ((if_pos hc).trans q)
          refine lv_iload hx hb dX3_give_51 (lv_at hl 0 rfl) ?_
          refine lv_iload_n hx hb dX3_give_53 rfl (lv_at hl 3 rfl) ?_
          refine lv_iload_n hx hb dX3_give_54 rfl (lv_at hl 4 rfl) ?_
          refine lv_iload hx hb dX3_give_55 (lv_at hl 5 rfl) ?_
          refine sk_contI (sk_runS (As := [.int x_4, .int a2, .int a3, .int a4]) (rest := [.int a5, .ref (sk_ad g 47)]) C (c_X3_named g l x_4 a2 a3 a4 M rfl) yo_X3_named kw_450 (by decide) hM hS hl.1 rfl rfl (Nat.le_of_ble_eq_true rfl) dX3_give_57) hS (fun H locs hM hS => ?_)
          exact J _ _ _ rfl hM hS
        · have J := fun vv H locs q => J vv H locs ((if_neg hc).trans q)
          refine lv_iload hx hb dX3_give_46 (lv_at hl 0 rfl) ?_
          refine lv_goto hx hb dX3_give_48 rfl ?_
          exact J _ _ _ rfl hM hS
set_option maxHeartbeats 4000000 in
set_option maxRecDepth 100000 in
theorem c_X3_give (g : sk_G) (l : Launch) (a1 : Int32) (a2 : Int32) (a3 : Int32) (a4 : Int32) (M : sk_M) {rr : Int32} {MM : sk_M} (h : f_X3_give a1 a2 a3 a4 M = some (rr, MM)) : sk_MI g l yX3_give cX3_give 8 (some .int) 2 [.ref (sk_ad g 42), .int a1, .int a2, .int a3, .int a4] M rr MM := by
  refine sk_go [(0, .ref (sk_ad g 42)), (1, .int a1), (2, .int a2), (3, .int a3), (4, .int a4)] (by decide) (Nat.le_of_ble_eq_true rfl) rfl ?_
  intro p e s m av below meth c C ls hl hM hS
  obtain ⟨hx, hb, hml, hown, hts, hK, hE, hr, hlocks⟩ := id C
  rw [f_X3_give] at h
  refine lv_iconst (v := 0) hx hb dX3_give_0 (by decide) ?_
  refine lv_istore (lv' := [(5, .int 0), (0, .ref (sk_ad g 42)), (1, .int a1), (2, .int a2), (3, .int a3), (4, .int a4)]) hx hb dX3_give_1 hl (by decide) rfl (fun ls hl => ?_)
  refine lv_iconst (v := 0) hx hb dX3_give_3 (by decide) ?_
  refine lv_istore (lv' := [(6, .int 0), (5, .int 0), (0, .ref (sk_ad g 42)), (1, .int a1), (2, .int a2), (3, .int a3), (4, .int a4)]) hx hb dX3_give_4 hl (by decide) rfl (fun ls hl => ?_)
  obtain ⟨M_23, h_24, h⟩ := sk_b1E h
  refine w_X3_give_L6 C a1 a2 a3 a4 sk_FU 0 0 M _ _ _ (lv_sub hl [2, 3, 4, 5, 6, 1, 0] rfl) hM hS h_24 (fun y_25 H locs ls he hl hM hS => ?_)
  obtain rfl := Option.some.inj he
  refine lv_aload_n hx hb dX3_give_155 rfl (lv_at hl 0 rfl) ?_
  refine sk_getR (o := 42) (ci := 3) (j := 4) (t := 47) C hM rfl rfl (by decide) rfl rfl kw_101 dX3_give_156 ?_
  refine lv_iconst (v := 0) hx hb dX3_give_159 (by decide) ?_
  refine sk_iald (o := 47) C hM rfl (by decide) dX3_give_160 ?_
  refine W.eq (g2 := F0 m 161 ls [.int (y_25 47 0)]) rfl ?_
  exact sk_iret C hM hS (sk_e2 h) dX3_give_161
theorem dX4_begin_0 : decode cX4_begin 0 = .ok (.aload_n 0, 1) := by decide +kernel
theorem dX4_begin_1 : decode cX4_begin 1 = .ok (.getfield 15, 3) := by decide +kernel
theorem dX4_begin_4 : decode cX4_begin 4 = .ok (.getfield 19, 3) := by decide +kernel
theorem dX4_begin_7 : decode cX4_begin 7 = .ok (.iload_n 1, 1) := by decide +kernel
theorem dX4_begin_8 : decode cX4_begin 8 = .ok (.aaload, 1) := by decide +kernel
theorem dX4_begin_9 : decode cX4_begin 9 = .ok (.iconst 0, 1) := by decide +kernel
theorem dX4_begin_10 : decode cX4_begin 10 = .ok (.aload_n 0, 1) := by decide +kernel
theorem dX4_begin_11 : decode cX4_begin 11 = .ok (.getfield 9, 3) := by decide +kernel
theorem dX4_begin_14 : decode cX4_begin 14 = .ok (.iconst 0, 1) := by decide +kernel
theorem dX4_begin_15 : decode cX4_begin 15 = .ok (.bipush 9, 2) := by decide +kernel
theorem dX4_begin_17 : decode cX4_begin 17 = .ok (.invokestatic 25, 3) := by decide +kernel
theorem dX4_begin_20 : decode cX4_begin 20 = .ok (.aload_n 0, 1) := by decide +kernel
theorem dX4_begin_21 : decode cX4_begin 21 = .ok (.aload_n 0, 1) := by decide +kernel
theorem dX4_begin_22 : decode cX4_begin 22 = .ok (.getfield 15, 3) := by decide +kernel
theorem dX4_begin_25 : decode cX4_begin 25 = .ok (.getfield 31, 3) := by decide +kernel
theorem dX4_begin_28 : decode cX4_begin 28 = .ok (.iload_n 1, 1) := by decide +kernel
theorem dX4_begin_29 : decode cX4_begin 29 = .ok (.iaload, 1) := by decide +kernel
theorem dX4_begin_30 : decode cX4_begin 30 = .ok (.putfield 34, 3) := by decide +kernel
theorem dX4_begin_33 : decode cX4_begin 33 = .ok (.aload_n 0, 1) := by decide +kernel
theorem dX4_begin_34 : decode cX4_begin 34 = .ok (.aload_n 0, 1) := by decide +kernel
theorem dX4_begin_35 : decode cX4_begin 35 = .ok (.getfield 15, 3) := by decide +kernel
theorem dX4_begin_38 : decode cX4_begin 38 = .ok (.getfield 38, 3) := by decide +kernel
theorem dX4_begin_41 : decode cX4_begin 41 = .ok (.putfield 41, 3) := by decide +kernel
theorem dX4_begin_44 : decode cX4_begin 44 = .ok (.return_, 1) := by decide +kernel
set_option maxHeartbeats 4000000 in
set_option maxRecDepth 100000 in
theorem c_X4_begin (g : sk_G) (l : Launch) (o0 : Nat) (q0 : sk_isT o0) (a1 : Int32) (M : sk_M) {MM : sk_M} (h : f_X4_begin o0 a1 M = some MM) : sk_MV g l yX4_begin cX4_begin 2 none 1 [.ref (sk_ad g o0), .int a1] M MM := by
  refine sk_go [(0, .ref (sk_ad g o0)), (1, .int a1)] (by decide) (Nat.le_of_ble_eq_true rfl) rfl ?_
  intro p e s m av below meth c C ls hl hM hS
  obtain ⟨hx, hb, hml, hown, hts, hK, hE, hr, hlocks⟩ := id C
  rw [f_X4_begin] at h
  refine lv_aload_n hx hb dX4_begin_0 rfl (lv_at hl 0 rfl) ?_
  refine sk_getR (o := o0) (ci := 4) (j := 0) (t := (sk_tw o0)) C hM (sk_isT_kd q0) rfl (by decide) rfl (sk_isT_r0 q0) kw_237 dX4_begin_1 ?_
  refine sk_getR (o := (sk_tw o0)) (ci := 5) (j := 7) (t := ((sk_tw o0) + 7)) C hM (sk_isW_kd (sk_isT_w q0)) rfl (by decide) rfl (sk_isW_r (sk_isT_w q0) 7 (by decide) (by decide)) kw_180 dX4_begin_4 ?_
  refine lv_iload_n hx hb dX4_begin_7 rfl (lv_at hl 1 rfl) ?_
  obtain ⟨i_1, h⟩ := sk_chkE h
  refine sk_aald (o := ((sk_tw o0) + 7)) (k := 0) (t := ((sk_tw o0) + 10 + a1.toNatClampNeg)) C hM (sk_isW_k7 (sk_isT_w q0)) (by decide) i_1 (sk_isW_s (sk_isT_w q0) _) dX4_begin_8 ?_
  refine lv_iconst (v := 0) hx hb dX4_begin_9 (by decide) ?_
  refine lv_aload_n hx hb dX4_begin_10 rfl (lv_at hl 0 rfl) ?_
  refine sk_getR (o := o0) (ci := 4) (j := 1) (t := (o0 + 1)) C hM (sk_isT_kd q0) rfl (by decide) rfl (sk_isT_r1 q0) kw_238 dX4_begin_11 ?_
  refine lv_iconst (v := 0) hx hb dX4_begin_14 (by decide) ?_
  refine lv_bipush (v := 9) hx hb dX4_begin_15 (by decide) ?_
  refine sk_copy (d := 1) (o0 := ((sk_tw o0) + 10 + a1.toNatClampNeg)) (o1 := (o0 + 1)) C hl.1 sk_wcopy kw_522 (by decide) (Nat.le_of_ble_eq_true rfl) hM hS (sk_isW_sk (sk_isT_w q0) (sk_in_lt i_1)) (sk_isT_k1 q0) (by decide) (by decide) dX4_begin_17 (fun M_2 eM_2 H locs hM hS => ?_)
  have h := sk_letU h eM_2
  refine lv_aload_n hx hb dX4_begin_20 rfl (lv_at hl 0 rfl) ?_
  refine lv_aload_n hx hb dX4_begin_21 rfl (lv_at hl 0 rfl) ?_
  refine sk_getR (o := o0) (ci := 4) (j := 0) (t := (sk_tw o0)) C hM (sk_isT_kd q0) rfl (by decide) rfl (sk_isT_r0 q0) kw_237 dX4_begin_22 ?_
  refine sk_getR (o := (sk_tw o0)) (ci := 5) (j := 6) (t := ((sk_tw o0) + 6)) C hM (sk_isW_kd (sk_isT_w q0)) rfl (by decide) rfl (sk_isW_r (sk_isT_w q0) 6 (by decide) (by decide)) kw_177 dX4_begin_25 ?_
  refine lv_iload_n hx hb dX4_begin_28 rfl (lv_at hl 1 rfl) ?_
  obtain ⟨i_3, h⟩ := sk_chkE h
  refine sk_iald (o := ((sk_tw o0) + 6)) C hM (sk_isW_k6 (sk_isT_w q0)) i_3 dX4_begin_29 ?_
  refine sk_putI (o := o0) (ci := 4) (j := 2) C hM hS (sk_isT_kd q0) rfl (by decide) rfl rfl (tyX4_ok 2 (by decide)) kw_239 dX4_begin_30 (fun M_4 eM_4 H locs hM hS => ?_)
  have h := sk_letU h eM_4
  refine lv_aload_n hx hb dX4_begin_33 rfl (lv_at hl 0 rfl) ?_
  refine lv_aload_n hx hb dX4_begin_34 rfl (lv_at hl 0 rfl) ?_
  refine sk_getR (o := o0) (ci := 4) (j := 0) (t := (sk_tw o0)) C hM (sk_isT_kd q0) rfl (by decide) rfl (sk_isT_r0 q0) kw_237 dX4_begin_35 ?_
  refine sk_getI (o := (sk_tw o0)) (ci := 5) (j := 14) C hM (sk_isW_kd (sk_isT_w q0)) rfl (by decide) rfl kw_193 dX4_begin_38 ?_
  refine sk_putI (o := o0) (ci := 4) (j := 3) C hM hS (sk_isT_kd q0) rfl (by decide) rfl rfl (tyX4_ok 3 (by decide)) kw_240 dX4_begin_41 (fun M_5 eM_5 H locs hM hS => ?_)
  have h := sk_letU h eM_5
  exact sk_vret C hM hS (Option.some.inj h) dX4_begin_44
theorem dX5_loss_0 : decode cX5_loss 0 = .ok (.aload_n 0, 1) := by decide +kernel
theorem dX5_loss_1 : decode cX5_loss 1 = .ok (.getfield 15, 3) := by decide +kernel
theorem dX5_loss_4 : decode cX5_loss 4 = .ok (.iload_n 1, 1) := by decide +kernel
theorem dX5_loss_5 : decode cX5_loss 5 = .ok (.iaload, 1) := by decide +kernel
theorem dX5_loss_6 : decode cX5_loss 6 = .ok (.istore 5, 2) := by decide +kernel
theorem dX5_loss_8 : decode cX5_loss 8 = .ok (.aload_n 0, 1) := by decide +kernel
theorem dX5_loss_9 : decode cX5_loss 9 = .ok (.getfield 35, 3) := by decide +kernel
theorem dX5_loss_12 : decode cX5_loss 12 = .ok (.iconst 0, 1) := by decide +kernel
theorem dX5_loss_13 : decode cX5_loss 13 = .ok (.iaload, 1) := by decide +kernel
theorem dX5_loss_14 : decode cX5_loss 14 = .ok (.istore 6, 2) := by decide +kernel
theorem dX5_loss_16 : decode cX5_loss 16 = .ok (.iload 6, 2) := by decide +kernel
theorem dX5_loss_18 : decode cX5_loss 18 = .ok (.ldc 51, 2) := by decide +kernel
theorem dX5_loss_20 : decode cX5_loss 20 = .ok (.if_icmp .ne 17, 3) := by decide +kernel
theorem dX5_loss_23 : decode cX5_loss 23 = .ok (.iload_n 2, 1) := by decide +kernel
theorem dX5_loss_24 : decode cX5_loss 24 = .ok (.iload 5, 2) := by decide +kernel
theorem dX5_loss_26 : decode cX5_loss 26 = .ok (.iload_n 3, 1) := by decide +kernel
theorem dX5_loss_27 : decode cX5_loss 27 = .ok (.iadd, 1) := by decide +kernel
theorem dX5_loss_28 : decode cX5_loss 28 = .ok (.imul, 1) := by decide +kernel
theorem dX5_loss_29 : decode cX5_loss 29 = .ok (.bipush 100, 2) := by decide +kernel
theorem dX5_loss_31 : decode cX5_loss 31 = .ok (.idiv, 1) := by decide +kernel
theorem dX5_loss_32 : decode cX5_loss 32 = .ok (.iconst 1, 1) := by decide +kernel
theorem dX5_loss_33 : decode cX5_loss 33 = .ok (.iadd, 1) := by decide +kernel
theorem dX5_loss_34 : decode cX5_loss 34 = .ok (.goto 16, 3) := by decide +kernel
theorem dX5_loss_37 : decode cX5_loss 37 = .ok (.aload_n 0, 1) := by decide +kernel
theorem dX5_loss_38 : decode cX5_loss 38 = .ok (.getfield 41, 3) := by decide +kernel
theorem dX5_loss_41 : decode cX5_loss 41 = .ok (.iload 6, 2) := by decide +kernel
theorem dX5_loss_43 : decode cX5_loss 43 = .ok (.iload_n 2, 1) := by decide +kernel
theorem dX5_loss_44 : decode cX5_loss 44 = .ok (.iload 5, 2) := by decide +kernel
theorem dX5_loss_46 : decode cX5_loss 46 = .ok (.iload_n 3, 1) := by decide +kernel
theorem dX5_loss_47 : decode cX5_loss 47 = .ok (.invokevirtual 79, 3) := by decide +kernel
theorem dX5_loss_50 : decode cX5_loss 50 = .ok (.istore 7, 2) := by decide +kernel
theorem dX5_loss_52 : decode cX5_loss 52 = .ok (.iconst 0, 1) := by decide +kernel
theorem dX5_loss_53 : decode cX5_loss 53 = .ok (.iload_n 2, 1) := by decide +kernel
theorem dX5_loss_54 : decode cX5_loss 54 = .ok (.iload 7, 2) := by decide +kernel
theorem dX5_loss_56 : decode cX5_loss 56 = .ok (.invokestatic 85, 3) := by decide +kernel
theorem dX5_loss_59 : decode cX5_loss 59 = .ok (.invokestatic 91, 3) := by decide +kernel
theorem dX5_loss_62 : decode cX5_loss 62 = .ok (.istore 8, 2) := by decide +kernel
theorem dX5_loss_64 : decode cX5_loss 64 = .ok (.iload_n 2, 1) := by decide +kernel
theorem dX5_loss_65 : decode cX5_loss 65 = .ok (.iload 8, 2) := by decide +kernel
theorem dX5_loss_67 : decode cX5_loss 67 = .ok (.iload 5, 2) := by decide +kernel
theorem dX5_loss_69 : decode cX5_loss 69 = .ok (.iadd, 1) := by decide +kernel
theorem dX5_loss_70 : decode cX5_loss 70 = .ok (.invokestatic 85, 3) := by decide +kernel
theorem dX5_loss_73 : decode cX5_loss 73 = .ok (.istore 9, 2) := by decide +kernel
theorem dX5_loss_75 : decode cX5_loss 75 = .ok (.aload_n 0, 1) := by decide +kernel
theorem dX5_loss_76 : decode cX5_loss 76 = .ok (.getfield 9, 3) := by decide +kernel
theorem dX5_loss_79 : decode cX5_loss 79 = .ok (.iload_n 1, 1) := by decide +kernel
theorem dX5_loss_80 : decode cX5_loss 80 = .ok (.iaload, 1) := by decide +kernel
theorem dX5_loss_81 : decode cX5_loss 81 = .ok (.tableswitch 78 1 5 #[35, 51, 40, 54, 63], 35) := by decide +kernel
theorem dX5_loss_116 : decode cX5_loss 116 = .ok (.iload 8, 2) := by decide +kernel
theorem dX5_loss_118 : decode cX5_loss 118 = .ok (.iconst 2, 1) := by decide +kernel
theorem dX5_loss_119 : decode cX5_loss 119 = .ok (.idiv, 1) := by decide +kernel
theorem dX5_loss_120 : decode cX5_loss 120 = .ok (.ireturn, 1) := by decide +kernel
theorem dX5_loss_121 : decode cX5_loss 121 = .ok (.iconst 0, 1) := by decide +kernel
theorem dX5_loss_122 : decode cX5_loss 122 = .ok (.iload 8, 2) := by decide +kernel
theorem dX5_loss_124 : decode cX5_loss 124 = .ok (.iconst 2, 1) := by decide +kernel
theorem dX5_loss_125 : decode cX5_loss 125 = .ok (.idiv, 1) := by decide +kernel
theorem dX5_loss_126 : decode cX5_loss 126 = .ok (.iconst 1, 1) := by decide +kernel
theorem dX5_loss_127 : decode cX5_loss 127 = .ok (.isub, 1) := by decide +kernel
theorem dX5_loss_128 : decode cX5_loss 128 = .ok (.invokestatic 91, 3) := by decide +kernel
theorem dX5_loss_131 : decode cX5_loss 131 = .ok (.ireturn, 1) := by decide +kernel
theorem dX5_loss_132 : decode cX5_loss 132 = .ok (.iload 9, 2) := by decide +kernel
theorem dX5_loss_134 : decode cX5_loss 134 = .ok (.ireturn, 1) := by decide +kernel
theorem dX5_loss_135 : decode cX5_loss 135 = .ok (.iload_n 2, 1) := by decide +kernel
theorem dX5_loss_136 : decode cX5_loss 136 = .ok (.iconst 2, 1) := by decide +kernel
theorem dX5_loss_137 : decode cX5_loss 137 = .ok (.iload 9, 2) := by decide +kernel
theorem dX5_loss_139 : decode cX5_loss 139 = .ok (.imul, 1) := by decide +kernel
theorem dX5_loss_140 : decode cX5_loss 140 = .ok (.invokestatic 85, 3) := by decide +kernel
theorem dX5_loss_143 : decode cX5_loss 143 = .ok (.ireturn, 1) := by decide +kernel
theorem dX5_loss_144 : decode cX5_loss 144 = .ok (.iload 4, 2) := by decide +kernel
theorem dX5_loss_146 : decode cX5_loss 146 = .ok (.iconst 2, 1) := by decide +kernel
theorem dX5_loss_147 : decode cX5_loss 147 = .ok (.irem, 1) := by decide +kernel
theorem dX5_loss_148 : decode cX5_loss 148 = .ok (.iconst 1, 1) := by decide +kernel
theorem dX5_loss_149 : decode cX5_loss 149 = .ok (.if_icmp .ne 8, 3) := by decide +kernel
theorem dX5_loss_152 : decode cX5_loss 152 = .ok (.iload 8, 2) := by decide +kernel
theorem dX5_loss_154 : decode cX5_loss 154 = .ok (.goto 4, 3) := by decide +kernel
theorem dX5_loss_157 : decode cX5_loss 157 = .ok (.iconst 0, 1) := by decide +kernel
theorem dX5_loss_158 : decode cX5_loss 158 = .ok (.ireturn, 1) := by decide +kernel
theorem dX5_loss_159 : decode cX5_loss 159 = .ok (.iload 8, 2) := by decide +kernel
theorem dX5_loss_161 : decode cX5_loss 161 = .ok (.ireturn, 1) := by decide +kernel
set_option maxHeartbeats 4000000 in
set_option maxRecDepth 100000 in
theorem c_X5_loss (g : sk_G) (l : Launch) (o0 : Nat) (q0 : sk_isW o0) (a1 : Int32) (a2 : Int32) (a3 : Int32) (a4 : Int32) (M : sk_M) {rr : Int32} {MM : sk_M} (h : f_X5_loss o0 a1 a2 a3 a4 M = some (rr, MM)) : sk_MI g l yX5_loss cX5_loss 10 (some .int) 3 [.ref (sk_ad g o0), .int a1, .int a2, .int a3, .int a4] M rr MM := by
  refine sk_go [(0, .ref (sk_ad g o0)), (1, .int a1), (2, .int a2), (3, .int a3), (4, .int a4)] (by decide) (Nat.le_of_ble_eq_true rfl) rfl ?_
  intro p e s m av below meth c C ls hl hM hS
  obtain ⟨hx, hb, hml, hown, hts, hK, hE, hr, hlocks⟩ := id C
  rw [f_X5_loss] at h
  refine lv_aload_n hx hb dX5_loss_0 rfl (lv_at hl 0 rfl) ?_
  refine sk_getR (o := o0) (ci := 5) (j := 2) (t := (o0 + 2)) C hM (sk_isW_kd q0) rfl (by decide) rfl (sk_isW_r q0 2 (by decide) (by decide)) kw_168 dX5_loss_1 ?_
  refine lv_iload_n hx hb dX5_loss_4 rfl (lv_at hl 1 rfl) ?_
  obtain ⟨i_1, h⟩ := sk_chkE h
  refine sk_iald (o := (o0 + 2)) C hM (sk_isW_k2 q0) i_1 dX5_loss_5 ?_
  refine lv_topi (fun x_2 ex_2 => ?_)
  have h := sk_letU h ex_2
  refine lv_istore (lv' := [(5, .int x_2), (0, .ref (sk_ad g o0)), (1, .int a1), (2, .int a2), (3, .int a3), (4, .int a4)]) hx hb dX5_loss_6 hl (by decide) rfl (fun ls hl => ?_)
  refine lv_aload_n hx hb dX5_loss_8 rfl (lv_at hl 1 rfl) ?_
  refine sk_getR (o := o0) (ci := 5) (j := 8) (t := (o0 + 8)) C hM (sk_isW_kd q0) rfl (by decide) rfl (sk_isW_r q0 8 (by decide) (by decide)) kw_182 dX5_loss_9 ?_
  refine lv_iconst (v := 0) hx hb dX5_loss_12 (by decide) ?_
  refine sk_iald (o := (o0 + 8)) C hM (sk_isW_k8 q0) (by decide) dX5_loss_13 ?_
  refine W.eq (g2 := F0 m 14 ls [.int (M (o0 + 8) 0)]) rfl ?_
  refine lv_topi (fun x_3 ex_3 => ?_)
  have h := sk_letU h ex_3
  refine lv_istore (lv' := [(6, .int x_3), (5, .int x_2), (0, .ref (sk_ad g o0)), (1, .int a1), (2, .int a2), (3, .int a3), (4, .int a4)]) hx hb dX5_loss_14 hl (by decide) rfl (fun ls hl => ?_)
  refine lv_iload hx hb dX5_loss_16 (lv_at hl 0 rfl) ?_
  refine lv_ldc (v := (-1000000005)) hx hb hown (hts _ kw_164) dX5_loss_18 ?_
  obtain ⟨y0_4, y1_4, h_4, kg_4⟩ := sk_b2E h
  have J_4 : ∀ (x_8 : Int32) (M_9 : sk_M) (H : Heap) (locs : List Loc) (ls : Array Slot), some (x_8, M_9) = some (y0_4, y1_4) → lv_has ls 10 [(0, .ref (sk_ad g o0)), (1, .int a1), (2, .int a2), (4, .int a4), (5, .int x_2)] → sk_P g M_9 H → va_S (sk_A g) s.heap H locs → W p l e (sk_rm 3) s m av below meth c H locs 0 0 (MQ below (sk_QI g rr MM) av s 0 0 (sk_A g)) (F0 m 50 ls [.int x_8]) := by
    intro x_8 M_9 H locs ls he hl hM hS
    obtain ⟨rfl, rfl⟩ := sk_e2 he
    have h := kg_4
    refine lv_istore (lv' := [(7, .int x_8), (0, .ref (sk_ad g o0)), (1, .int a1), (2, .int a2), (4, .int a4), (5, .int x_2)]) hx hb dX5_loss_50 hl (by decide) rfl (fun ls hl => ?_)
    refine lv_iconst (v := 0) hx hb dX5_loss_52 (by decide) ?_
    refine lv_iload_n hx hb dX5_loss_53 rfl (lv_at hl 3 rfl) ?_
    refine lv_iload hx hb dX5_loss_54 (lv_at hl 0 rfl) ?_
    refine sk_mmin (d := 3) C hl.1 sk_wmin kw_456 (by decide) (Nat.le_of_ble_eq_true rfl) dX5_loss_56 ?_
    refine sk_mmax (d := 3) C hl.1 sk_wmax kw_457 (by decide) (Nat.le_of_ble_eq_true rfl) dX5_loss_59 ?_
    refine lv_topi (fun x_10 ex_10 => ?_)
    have h := sk_letU h ex_10
    refine lv_istore (lv' := [(8, .int x_10), (7, .int x_8), (0, .ref (sk_ad g o0)), (1, .int a1), (2, .int a2), (4, .int a4), (5, .int x_2)]) hx hb dX5_loss_62 hl (by decide) rfl (fun ls hl => ?_)
    refine lv_iload_n hx hb dX5_loss_64 rfl (lv_at hl 4 rfl) ?_
    refine lv_iload hx hb dX5_loss_65 (lv_at hl 0 rfl) ?_
    refine lv_iload hx hb dX5_loss_67 (lv_at hl 6 rfl) ?_
    refine lv_iadd hx hb dX5_loss_69 ?_
    refine sk_mmin (d := 3) C hl.1 sk_wmin kw_456 (by decide) (Nat.le_of_ble_eq_true rfl) dX5_loss_70 ?_
    refine lv_topi (fun x_11 ex_11 => ?_)
    have h := sk_letU h ex_11
    refine lv_istore (lv' := [(9, .int x_11), (8, .int x_10), (7, .int x_8), (0, .ref (sk_ad g o0)), (1, .int a1), (2, .int a2), (4, .int a4), (5, .int x_2)]) hx hb dX5_loss_73 hl (by decide) rfl (fun ls hl => ?_)
    refine lv_aload_n hx hb dX5_loss_75 rfl (lv_at hl 3 rfl) ?_
    refine sk_getR (o := o0) (ci := 5) (j := 1) (t := (o0 + 1)) C hM (sk_isW_kd q0) rfl (by decide) rfl (sk_isW_r q0 1 (by decide) (by decide)) kw_166 dX5_loss_76 ?_
    refine lv_iload_n hx hb dX5_loss_79 rfl (lv_at hl 4 rfl) ?_
    obtain ⟨i_12, h⟩ := sk_chkE h
    refine sk_iald (o := (o0 + 1)) C hM (sk_isW_k1 q0) i_12 dX5_loss_80 ?_
    by_cases hk_13 : (M_9 (o0 + 1) a1.toNatClampNeg) = 1
    · refine lv_tableIn (off := 35) hx hb dX5_loss_81 (by rw [hk_13]; decide) (by rw [hk_13]; decide) (by rw [hk_13]; rfl) rfl ?_
      have h := sk_pos h hk_13
      refine lv_iload hx hb dX5_loss_116 (lv_at hl 1 rfl) ?_
      refine lv_iconst (v := 2) hx hb dX5_loss_118 (by decide) ?_
      refine lv_idiv hx hb dX5_loss_119 (by decide) ?_
      exact sk_iret C hM hS (sk_e2 h) dX5_loss_120
    have h := sk_neg h hk_13
    by_cases hk_14 : (M_9 (o0 + 1) a1.toNatClampNeg) = 2
    · refine lv_tableIn (off := 51) hx hb dX5_loss_81 (by rw [hk_14]; decide) (by rw [hk_14]; decide) (by rw [hk_14]; rfl) rfl ?_
      have h := sk_pos h hk_14
      refine lv_iload hx hb dX5_loss_132 (lv_at hl 0 rfl) ?_
      exact sk_iret C hM hS (sk_e2 h) dX5_loss_134
    have h := sk_neg h hk_14
    by_cases hk_16 : (M_9 (o0 + 1) a1.toNatClampNeg) = 3
    · refine lv_tableIn (off := 40) hx hb dX5_loss_81 (by rw [hk_16]; decide) (by rw [hk_16]; decide) (by rw [hk_16]; rfl) rfl ?_
      have h := sk_pos h hk_16
      refine lv_iconst (v := 0) hx hb dX5_loss_121 (by decide) ?_
      refine lv_iload hx hb dX5_loss_122 (lv_at hl 1 rfl) ?_
      refine lv_iconst (v := 2) hx hb dX5_loss_124 (by decide) ?_
      refine lv_idiv hx hb dX5_loss_125 (by decide) ?_
      refine lv_iconst (v := 1) hx hb dX5_loss_126 (by decide) ?_
      refine lv_isub hx hb dX5_loss_127 ?_
      refine sk_mmax (d := 3) C hl.1 sk_wmax kw_457 (by decide) (Nat.le_of_ble_eq_true rfl) dX5_loss_128 ?_
      refine lv_topi (fun x_15 ex_15 => ?_)
      have h := sk_letU h ex_15
      exact sk_iret C hM hS (sk_e2 h) dX5_loss_131
    have h := sk_neg h hk_16
    by_cases hk_18 : (M_9 (o0 + 1) a1.toNatClampNeg) = 4
    · refine lv_tableIn (off := 54) hx hb dX5_loss_81 (by rw [hk_18]; decide) (by rw [hk_18]; decide) (by rw [hk_18]; rfl) rfl ?_
      have h := sk_pos h hk_18
      refine lv_iload_n hx hb dX5_loss_135 rfl (lv_at hl 5 rfl) ?_
      refine lv_iconst (v := 2) hx hb dX5_loss_136 (by decide) ?_
      refine lv_iload hx hb dX5_loss_137 (lv_at hl 0 rfl) ?_
      refine lv_imul hx hb dX5_loss_139 ?_
      refine sk_mmin (d := 3) C hl.1 sk_wmin kw_456 (by decide) (Nat.le_of_ble_eq_true rfl) dX5_loss_140 ?_
      refine lv_topi (fun x_17 ex_17 => ?_)
      have h := sk_letU h ex_17
      exact sk_iret C hM hS (sk_e2 h) dX5_loss_143
    have h := sk_neg h hk_18
    by_cases hk_19 : (M_9 (o0 + 1) a1.toNatClampNeg) = 5
    · refine lv_tableIn (off := 63) hx hb dX5_loss_81 (by rw [hk_19]; decide) (by rw [hk_19]; decide) (by rw [hk_19]; rfl) rfl ?_
      have h := sk_pos h hk_19
      refine lv_iload hx hb dX5_loss_144 (lv_at hl 6 rfl) ?_
      refine lv_iconst (v := 2) hx hb dX5_loss_146 (by decide) ?_
      refine lv_irem hx hb dX5_loss_147 (by decide) ?_
      refine lv_iconst (v := 1) hx hb dX5_loss_148 (by decide) ?_
      have J : ∀ (vv : Int32) (H : Heap) (locs : List Loc), (if (a4 - a4 / 2 * 2) = 1 then x_10 else 0 : Int32) = vv → sk_P g M_9 H → va_S (sk_A g) s.heap H locs → W p l e (sk_rm 3) s m av below meth c H locs 0 0 (MQ below (sk_QI g rr MM) av s 0 0 (sk_A g)) (F0 m 158 ls [.int vv]) := by
        intro vv H locs hvv hM hS
        subst hvv
        exact sk_iret C hM hS (sk_e2 h) dX5_loss_158
      refine lv_icmp_ne hx hb dX5_loss_149 rfl (fun hc => ?_) (fun hc => ?_)
      · have J := fun vv H locs q => J vv H locs ((if_neg hc).trans q)
        refine lv_iconst (v := 0) hx hb dX5_loss_157 (by decide) ?_
        exact J _ _ _ rfl hM hS
      · have J := fun vv H locs q => J vv H locs ((if_pos hc).trans q)
        refine lv_iload hx hb dX5_loss_152 (lv_at hl 1 rfl) ?_
        refine lv_goto hx hb dX5_loss_154 rfl ?_
        exact J _ _ _ rfl hM hS
    have h := sk_neg h hk_19
    refine lv_tableOut hx hb dX5_loss_81 (by have zhk_13 := sk_tn hk_13 (z := 1) rfl; have zhk_14 := sk_tn hk_14 (z := 2) rfl; have zhk_16 := sk_tn hk_16 (z := 3) rfl; have zhk_18 := sk_tn hk_18 (z := 4) rfl; have zhk_19 := sk_tn hk_19 (z := 5) rfl; omega) rfl ?_
    refine lv_iload hx hb dX5_loss_159 (lv_at hl 1 rfl) ?_
    exact sk_iret C hM hS (sk_e2 h) dX5_loss_161
  have h := h_4
  refine lv_icmp_ne hx hb dX5_loss_20 rfl (fun hc => ?_) (fun hc => ?_)
  · have h := sk_neg h hc
    refine lv_aload_n hx hb dX5_loss_37 rfl (lv_at hl 2 rfl) ?_
    refine sk_getR (o := o0) (ci := 5) (j := 0) (t := 42) C hM (sk_isW_kd q0) rfl (by decide) rfl (sk_isW_r0 q0) kw_165 dX5_loss_38 ?_
    refine lv_iload hx hb dX5_loss_41 (lv_at hl 0 rfl) ?_
    refine lv_iload_n hx hb dX5_loss_43 rfl (lv_at hl 4 rfl) ?_
    refine lv_iload hx hb dX5_loss_44 (lv_at hl 1 rfl) ?_
    refine lv_iload_n hx hb dX5_loss_46 rfl (lv_at hl 5 rfl) ?_
    obtain ⟨x_5, M_6, h_7, h⟩ := sk_b2E h
    refine sk_contI (sk_runV (As := [.int x_3, .int a2, .int x_2, .int a3]) (rest := []) C (c_X3_give g l x_3 a2 x_2 a3 M h_7) yo_X3_give kw_446 (sk_recv (ci := 3) C hM rfl rfl) (by decide) hM hS hl.1 rfl rfl (Nat.le_of_ble_eq_true rfl) dX5_loss_47) hS (fun H locs hM hS => ?_)
    exact J_4 _ _ _ _ _ h (lv_sub hl [2, 3, 4, 6, 1] rfl) hM hS
  · have h := sk_pos h hc
    refine lv_iload_n hx hb dX5_loss_23 rfl (lv_at hl 4 rfl) ?_
    refine lv_iload hx hb dX5_loss_24 (lv_at hl 1 rfl) ?_
    refine lv_iload_n hx hb dX5_loss_26 rfl (lv_at hl 5 rfl) ?_
    refine lv_iadd hx hb dX5_loss_27 ?_
    refine lv_imul hx hb dX5_loss_28 ?_
    refine lv_bipush (v := 100) hx hb dX5_loss_29 (by decide) ?_
    refine lv_idiv hx hb dX5_loss_31 (by decide) ?_
    refine lv_iconst (v := 1) hx hb dX5_loss_32 (by decide) ?_
    refine lv_iadd hx hb dX5_loss_33 ?_
    refine lv_goto hx hb dX5_loss_34 rfl ?_
    exact J_4 _ _ _ _ _ h (lv_sub hl [2, 3, 4, 6, 1] rfl) hM hS
theorem dX5_fadeRow_0 : decode cX5_fadeRow 0 = .ok (.iconst 0, 1) := by decide +kernel
theorem dX5_fadeRow_1 : decode cX5_fadeRow 1 = .ok (.istore 4, 2) := by decide +kernel
theorem dX5_fadeRow_3 : decode cX5_fadeRow 3 = .ok (.iload 4, 2) := by decide +kernel
theorem dX5_fadeRow_5 : decode cX5_fadeRow 5 = .ok (.aload_n 0, 1) := by decide +kernel
theorem dX5_fadeRow_6 : decode cX5_fadeRow 6 = .ok (.getfield 62, 3) := by decide +kernel
theorem dX5_fadeRow_9 : decode cX5_fadeRow 9 = .ok (.if_icmp .ge 28, 3) := by decide +kernel
theorem dX5_fadeRow_12 : decode cX5_fadeRow 12 = .ok (.aload_n 1, 1) := by decide +kernel
theorem dX5_fadeRow_13 : decode cX5_fadeRow 13 = .ok (.iload 4, 2) := by decide +kernel
theorem dX5_fadeRow_15 : decode cX5_fadeRow 15 = .ok (.dup2, 1) := by decide +kernel
theorem dX5_fadeRow_16 : decode cX5_fadeRow 16 = .ok (.iaload, 1) := by decide +kernel
theorem dX5_fadeRow_17 : decode cX5_fadeRow 17 = .ok (.aload_n 0, 1) := by decide +kernel
theorem dX5_fadeRow_18 : decode cX5_fadeRow 18 = .ok (.iload 4, 2) := by decide +kernel
theorem dX5_fadeRow_20 : decode cX5_fadeRow 20 = .ok (.aload_n 1, 1) := by decide +kernel
theorem dX5_fadeRow_21 : decode cX5_fadeRow 21 = .ok (.iload 4, 2) := by decide +kernel
theorem dX5_fadeRow_23 : decode cX5_fadeRow 23 = .ok (.iaload, 1) := by decide +kernel
theorem dX5_fadeRow_24 : decode cX5_fadeRow 24 = .ok (.iload_n 2, 1) := by decide +kernel
theorem dX5_fadeRow_25 : decode cX5_fadeRow 25 = .ok (.iload_n 3, 1) := by decide +kernel
theorem dX5_fadeRow_26 : decode cX5_fadeRow 26 = .ok (.invokevirtual 94, 3) := by decide +kernel
theorem dX5_fadeRow_29 : decode cX5_fadeRow 29 = .ok (.isub, 1) := by decide +kernel
theorem dX5_fadeRow_30 : decode cX5_fadeRow 30 = .ok (.iastore, 1) := by decide +kernel
theorem dX5_fadeRow_31 : decode cX5_fadeRow 31 = .ok (.iinc 4 1, 3) := by decide +kernel
theorem dX5_fadeRow_34 : decode cX5_fadeRow 34 = .ok (.goto (-31), 3) := by decide +kernel
theorem dX5_fadeRow_37 : decode cX5_fadeRow 37 = .ok (.return_, 1) := by decide +kernel
set_option maxHeartbeats 4000000 in
set_option maxRecDepth 100000 in
theorem w_X5_fadeRow_L3 {g : sk_G} {l : Launch} {p : Program} {e : Env} {s : State} {m : MethodId} {av : Array Value} {below : List Frame} {meth : Method} {c : Code} (C : sk_C g p s m av meth c cX5_fadeRow 5 RX5 none) (o0 : Nat) (q0 : sk_isW o0) (o1 : Nat) (q1 : sk_kd o1 = (0, 9)) (a2 : Int32) (a3 : Int32) {MM : sk_M} :
    ∀ (n : Nat) (a4 : Int32) (M : sk_M) (H : Heap) (locs : List Loc) (ls : Array Slot), lv_has ls 5 [(0, .ref (sk_ad g o0)), (1, .ref (sk_ad g o1)), (2, .int a2), (3, .int a3), (4, .int a4)] → sk_P g M H → va_S (sk_A g) s.heap H locs → ∀ {out : sk_M}, f_X5_fadeRow_L3 o0 o1 a2 a3 n a4 M = some out → (∀ (M1 : sk_M) (H : Heap) (locs : List Loc) (ls : Array Slot), some M1 = some out → lv_has ls 5 [] → sk_P g M1 H → va_S (sk_A g) s.heap H locs → W p l e (sk_rm 4) s m av below meth c H locs 0 0 (MQ below (sk_QV g MM) av s 0 0 (sk_A g)) (F0 m 37 ls [])) → W p l e (sk_rm 4) s m av below meth c H locs 0 0 (MQ below (sk_QV g MM) av s 0 0 (sk_A g)) (F0 m 3 ls []) := by
  obtain ⟨hx, hb, hml, hown, hts, hK, hE, hr, hlocks⟩ := id C
  intro n
  induction n with
  | zero =>
    intro a4 M H locs ls hl hM hS out h
    cases h
  | succ n ih =>
    intro a4 M H locs ls hl hM hS out h kx
    rw [f_X5_fadeRow_L3] at h
    refine lv_iload hx hb dX5_fadeRow_3 (lv_at hl 4 rfl) ?_
    refine lv_aload_n hx hb dX5_fadeRow_5 rfl (lv_at hl 0 rfl) ?_
    refine sk_getI (o := o0) (ci := 5) (j := 10) C hM (sk_isW_kd q0) rfl (by decide) rfl kw_185 dX5_fadeRow_6 ?_
    refine lv_icmp_ge hx hb dX5_fadeRow_9 rfl (fun hc => ?_) (fun hc => ?_)
    · have h := sk_pos h hc
      exact kx _ _ _ _ h (lv_sub hl [] rfl) hM hS
    · have h := sk_neg h hc
      refine lv_aload_n hx hb dX5_fadeRow_12 rfl (lv_at hl 1 rfl) ?_
      refine lv_iload hx hb dX5_fadeRow_13 (lv_at hl 4 rfl) ?_
      refine lv_dup2_11 hx hb dX5_fadeRow_15 rfl rfl ?_
      obtain ⟨i_1, h⟩ := sk_chkE h
      refine sk_iald (o := o1) C hM q1 i_1 dX5_fadeRow_16 ?_
      refine lv_aload_n hx hb dX5_fadeRow_17 rfl (lv_at hl 0 rfl) ?_
      refine lv_iload hx hb dX5_fadeRow_18 (lv_at hl 4 rfl) ?_
      refine lv_aload_n hx hb dX5_fadeRow_20 rfl (lv_at hl 1 rfl) ?_
      refine lv_iload hx hb dX5_fadeRow_21 (lv_at hl 4 rfl) ?_
      obtain ⟨i_2, h⟩ := sk_chkE h
      refine sk_iald (o := o1) C hM q1 i_2 dX5_fadeRow_23 ?_
      refine lv_iload_n hx hb dX5_fadeRow_24 rfl (lv_at hl 2 rfl) ?_
      refine lv_iload_n hx hb dX5_fadeRow_25 rfl (lv_at hl 3 rfl) ?_
      obtain ⟨x_3, M_4, h_5, h⟩ := sk_b2E h
      refine sk_contI (sk_runV (As := [.int a4, .int (M o1 a4.toNatClampNeg), .int a2, .int a3]) (rest := [.int (M o1 a4.toNatClampNeg), .int a4, .ref (sk_ad g o1)]) C (c_X5_loss g l o0 q0 a4 (M o1 a4.toNatClampNeg) a2 a3 M h_5) yo_X5_loss kw_492 (sk_recv (ci := 5) C hM (sk_isW_kd q0) rfl) (by decide) hM hS hl.1 rfl rfl (Nat.le_of_ble_eq_true rfl) dX5_fadeRow_26) hS (fun H locs hM hS => ?_)
      refine lv_isub hx hb dX5_fadeRow_29 ?_
      obtain ⟨i_6, h⟩ := sk_chkE h
      refine sk_iast (o := o1) C hM hS q1 i_6 dX5_fadeRow_30 (fun M_7 eM_7 H locs hM hS => ?_)
      have h := sk_letU h eM_7
      refine lv_iinc (v := (a4 + 1)) (lv' := [(4, .int (a4 + 1)), (0, .ref (sk_ad g o0)), (1, .ref (sk_ad g o1)), (2, .int a2), (3, .int a3)]) hx hb dX5_fadeRow_31 hl (k := 4) rfl rfl (by decide) rfl (fun ls hl => ?_)
      refine lv_goto hx hb dX5_fadeRow_34 rfl ?_
      exact ih (a4 + 1) M_7 _ _ _ (lv_sub hl [1, 2, 3, 4, 0] rfl) hM hS h kx
set_option maxHeartbeats 4000000 in
set_option maxRecDepth 100000 in
theorem c_X5_fadeRow (g : sk_G) (l : Launch) (o0 : Nat) (q0 : sk_isW o0) (o1 : Nat) (q1 : sk_kd o1 = (0, 9)) (a2 : Int32) (a3 : Int32) (M : sk_M) {MM : sk_M} (h : f_X5_fadeRow o0 o1 a2 a3 M = some MM) : sk_MV g l yX5_fadeRow cX5_fadeRow 5 none 4 [.ref (sk_ad g o0), .ref (sk_ad g o1), .int a2, .int a3] M MM := by
  refine sk_go [(0, .ref (sk_ad g o0)), (1, .ref (sk_ad g o1)), (2, .int a2), (3, .int a3)] (by decide) (Nat.le_of_ble_eq_true rfl) rfl ?_
  intro p e s m av below meth c C ls hl hM hS
  obtain ⟨hx, hb, hml, hown, hts, hK, hE, hr, hlocks⟩ := id C
  rw [f_X5_fadeRow] at h
  refine lv_iconst (v := 0) hx hb dX5_fadeRow_0 (by decide) ?_
  refine lv_istore (lv' := [(4, .int 0), (0, .ref (sk_ad g o0)), (1, .ref (sk_ad g o1)), (2, .int a2), (3, .int a3)]) hx hb dX5_fadeRow_1 hl (by decide) rfl (fun ls hl => ?_)
  obtain ⟨M_8, h_9, h⟩ := sk_b1E h
  refine w_X5_fadeRow_L3 C o0 q0 o1 q1 a2 a3 sk_FU 0 M _ _ _ (lv_sub hl [1, 2, 3, 4, 0] rfl) hM hS h_9 (fun y_10 H locs ls he hl hM hS => ?_)
  obtain rfl := Option.some.inj he
  exact sk_vret C hM hS (Option.some.inj h) dX5_fadeRow_37
theorem dX4_passDay_0 : decode cX4_passDay 0 = .ok (.aload_n 0, 1) := by decide +kernel
theorem dX4_passDay_1 : decode cX4_passDay 1 = .ok (.getfield 15, 3) := by decide +kernel
theorem dX4_passDay_4 : decode cX4_passDay 4 = .ok (.aload_n 0, 1) := by decide +kernel
theorem dX4_passDay_5 : decode cX4_passDay 5 = .ok (.getfield 9, 3) := by decide +kernel
theorem dX4_passDay_8 : decode cX4_passDay 8 = .ok (.aload_n 0, 1) := by decide +kernel
theorem dX4_passDay_9 : decode cX4_passDay 9 = .ok (.getfield 34, 3) := by decide +kernel
theorem dX4_passDay_12 : decode cX4_passDay 12 = .ok (.aload_n 0, 1) := by decide +kernel
theorem dX4_passDay_13 : decode cX4_passDay 13 = .ok (.getfield 41, 3) := by decide +kernel
theorem dX4_passDay_16 : decode cX4_passDay 16 = .ok (.invokevirtual 44, 3) := by decide +kernel
theorem dX4_passDay_19 : decode cX4_passDay 19 = .ok (.aload_n 0, 1) := by decide +kernel
theorem dX4_passDay_20 : decode cX4_passDay 20 = .ok (.dup, 1) := by decide +kernel
theorem dX4_passDay_21 : decode cX4_passDay 21 = .ok (.getfield 41, 3) := by decide +kernel
theorem dX4_passDay_24 : decode cX4_passDay 24 = .ok (.iconst 1, 1) := by decide +kernel
theorem dX4_passDay_25 : decode cX4_passDay 25 = .ok (.iadd, 1) := by decide +kernel
theorem dX4_passDay_26 : decode cX4_passDay 26 = .ok (.putfield 41, 3) := by decide +kernel
theorem dX4_passDay_29 : decode cX4_passDay 29 = .ok (.return_, 1) := by decide +kernel
set_option maxHeartbeats 4000000 in
set_option maxRecDepth 100000 in
theorem c_X4_passDay (g : sk_G) (l : Launch) (o0 : Nat) (q0 : sk_isT o0) (M : sk_M) {MM : sk_M} (h : f_X4_passDay o0 M = some MM) : sk_MV g l yX4_passDay cX4_passDay 1 none 5 [.ref (sk_ad g o0)] M MM := by
  refine sk_go [(0, .ref (sk_ad g o0))] (by decide) (Nat.le_of_ble_eq_true rfl) rfl ?_
  intro p e s m av below meth c C ls hl hM hS
  obtain ⟨hx, hb, hml, hown, hts, hK, hE, hr, hlocks⟩ := id C
  rw [f_X4_passDay] at h
  refine lv_aload_n hx hb dX4_passDay_0 rfl (lv_at hl 0 rfl) ?_
  refine sk_getR (o := o0) (ci := 4) (j := 0) (t := (sk_tw o0)) C hM (sk_isT_kd q0) rfl (by decide) rfl (sk_isT_r0 q0) kw_237 dX4_passDay_1 ?_
  refine lv_aload_n hx hb dX4_passDay_4 rfl (lv_at hl 0 rfl) ?_
  refine sk_getR (o := o0) (ci := 4) (j := 1) (t := (o0 + 1)) C hM (sk_isT_kd q0) rfl (by decide) rfl (sk_isT_r1 q0) kw_238 dX4_passDay_5 ?_
  refine lv_aload_n hx hb dX4_passDay_8 rfl (lv_at hl 0 rfl) ?_
  refine sk_getI (o := o0) (ci := 4) (j := 2) C hM (sk_isT_kd q0) rfl (by decide) rfl kw_239 dX4_passDay_9 ?_
  refine lv_aload_n hx hb dX4_passDay_12 rfl (lv_at hl 0 rfl) ?_
  refine sk_getI (o := o0) (ci := 4) (j := 3) C hM (sk_isT_kd q0) rfl (by decide) rfl kw_240 dX4_passDay_13 ?_
  obtain ⟨M_1, h_2, h⟩ := sk_b1E h
  refine sk_contV (sk_runV (As := [.ref (sk_ad g (o0 + 1)), .int (M o0 2), .int (M o0 3)]) (rest := []) C (c_X5_fadeRow g l (sk_tw o0) (sk_isT_w q0) (o0 + 1) (sk_isT_k1 q0) (M o0 2) (M o0 3) M h_2) yo_X5_fadeRow kw_533 (sk_recv (ci := 5) C hM (sk_isW_kd (sk_isT_w q0)) rfl) (by decide) hM hS hl.1 rfl rfl (Nat.le_of_ble_eq_true rfl) dX4_passDay_16) hS (fun H locs hM hS => ?_)
  refine lv_aload_n hx hb dX4_passDay_19 rfl (lv_at hl 0 rfl) ?_
  refine lv_dup hx hb dX4_passDay_20 rfl ?_
  refine sk_getI (o := o0) (ci := 4) (j := 3) C hM (sk_isT_kd q0) rfl (by decide) rfl kw_240 dX4_passDay_21 ?_
  refine lv_iconst (v := 1) hx hb dX4_passDay_24 (by decide) ?_
  refine lv_iadd hx hb dX4_passDay_25 ?_
  refine sk_putI (o := o0) (ci := 4) (j := 3) C hM hS (sk_isT_kd q0) rfl (by decide) rfl rfl (tyX4_ok 3 (by decide)) kw_240 dX4_passDay_26 (fun M_3 eM_3 H locs hM hS => ?_)
  have h := sk_letU h eM_3
  exact sk_vret C hM hS (Option.some.inj h) dX4_passDay_29
theorem dX4_passDays_0 : decode cX4_passDays 0 = .ok (.iconst 0, 1) := by decide +kernel
theorem dX4_passDays_1 : decode cX4_passDays 1 = .ok (.istore_n 2, 1) := by decide +kernel
theorem dX4_passDays_2 : decode cX4_passDays 2 = .ok (.iload_n 2, 1) := by decide +kernel
theorem dX4_passDays_3 : decode cX4_passDays 3 = .ok (.iload_n 1, 1) := by decide +kernel
theorem dX4_passDays_4 : decode cX4_passDays 4 = .ok (.if_icmp .ge 13, 3) := by decide +kernel
theorem dX4_passDays_7 : decode cX4_passDays 7 = .ok (.aload_n 0, 1) := by decide +kernel
theorem dX4_passDays_8 : decode cX4_passDays 8 = .ok (.invokevirtual 48, 3) := by decide +kernel
theorem dX4_passDays_11 : decode cX4_passDays 11 = .ok (.iinc 2 1, 3) := by decide +kernel
theorem dX4_passDays_14 : decode cX4_passDays 14 = .ok (.goto (-12), 3) := by decide +kernel
theorem dX4_passDays_17 : decode cX4_passDays 17 = .ok (.return_, 1) := by decide +kernel
set_option maxHeartbeats 4000000 in
set_option maxRecDepth 100000 in
theorem w_X4_passDays_L2 {g : sk_G} {l : Launch} {p : Program} {e : Env} {s : State} {m : MethodId} {av : Array Value} {below : List Frame} {meth : Method} {c : Code} (C : sk_C g p s m av meth c cX4_passDays 3 RX4 none) (o0 : Nat) (q0 : sk_isT o0) (a1 : Int32) {MM : sk_M} :
    ∀ (n : Nat) (a2 : Int32) (M : sk_M) (H : Heap) (locs : List Loc) (ls : Array Slot), lv_has ls 3 [(0, .ref (sk_ad g o0)), (1, .int a1), (2, .int a2)] → sk_P g M H → va_S (sk_A g) s.heap H locs → ∀ {out : sk_M}, f_X4_passDays_L2 o0 a1 n a2 M = some out → (∀ (M1 : sk_M) (H : Heap) (locs : List Loc) (ls : Array Slot), some M1 = some out → lv_has ls 3 [] → sk_P g M1 H → va_S (sk_A g) s.heap H locs → W p l e (sk_rm 6) s m av below meth c H locs 0 0 (MQ below (sk_QV g MM) av s 0 0 (sk_A g)) (F0 m 17 ls [])) → W p l e (sk_rm 6) s m av below meth c H locs 0 0 (MQ below (sk_QV g MM) av s 0 0 (sk_A g)) (F0 m 2 ls []) := by
  obtain ⟨hx, hb, hml, hown, hts, hK, hE, hr, hlocks⟩ := id C
  intro n
  induction n with
  | zero =>
    intro a2 M H locs ls hl hM hS out h
    cases h
  | succ n ih =>
    intro a2 M H locs ls hl hM hS out h kx
    rw [f_X4_passDays_L2] at h
    refine lv_iload_n hx hb dX4_passDays_2 rfl (lv_at hl 2 rfl) ?_
    refine lv_iload_n hx hb dX4_passDays_3 rfl (lv_at hl 1 rfl) ?_
    refine lv_icmp_ge hx hb dX4_passDays_4 rfl (fun hc => ?_) (fun hc => ?_)
    · have h := sk_pos h hc
      exact kx _ _ _ _ h (lv_sub hl [] rfl) hM hS
    · have h := sk_neg h hc
      refine lv_aload_n hx hb dX4_passDays_7 rfl (lv_at hl 0 rfl) ?_
      obtain ⟨M_1, h_2, h⟩ := sk_b1E h
      refine sk_contV (sk_runV (As := []) (rest := []) C (c_X4_passDay g l o0 q0 M h_2) yo_X4_passDay kw_529 (sk_recv (ci := 4) C hM (sk_isT_kd q0) rfl) (by decide) hM hS hl.1 rfl rfl (Nat.le_of_ble_eq_true rfl) dX4_passDays_8) hS (fun H locs hM hS => ?_)
      refine lv_iinc (v := (a2 + 1)) (lv' := [(2, .int (a2 + 1)), (0, .ref (sk_ad g o0)), (1, .int a1)]) hx hb dX4_passDays_11 hl (k := 2) rfl rfl (by decide) rfl (fun ls hl => ?_)
      refine lv_goto hx hb dX4_passDays_14 rfl ?_
      exact ih (a2 + 1) M_1 _ _ _ (lv_sub hl [1, 2, 0] rfl) hM hS h kx
set_option maxHeartbeats 4000000 in
set_option maxRecDepth 100000 in
theorem c_X4_passDays (g : sk_G) (l : Launch) (o0 : Nat) (q0 : sk_isT o0) (a1 : Int32) (M : sk_M) {MM : sk_M} (h : f_X4_passDays o0 a1 M = some MM) : sk_MV g l yX4_passDays cX4_passDays 3 none 6 [.ref (sk_ad g o0), .int a1] M MM := by
  refine sk_go [(0, .ref (sk_ad g o0)), (1, .int a1)] (by decide) (Nat.le_of_ble_eq_true rfl) rfl ?_
  intro p e s m av below meth c C ls hl hM hS
  obtain ⟨hx, hb, hml, hown, hts, hK, hE, hr, hlocks⟩ := id C
  rw [f_X4_passDays] at h
  refine lv_iconst (v := 0) hx hb dX4_passDays_0 (by decide) ?_
  refine lv_istore_n (lv' := [(2, .int 0), (0, .ref (sk_ad g o0)), (1, .int a1)]) hx hb dX4_passDays_1 rfl hl (by decide) rfl (fun ls hl => ?_)
  obtain ⟨M_3, h_4, h⟩ := sk_b1E h
  refine w_X4_passDays_L2 C o0 q0 a1 sk_FU 0 M _ _ _ (lv_sub hl [1, 2, 0] rfl) hM hS h_4 (fun y_5 H locs ls he hl hM hS => ?_)
  obtain rfl := Option.some.inj he
  exact sk_vret C hM hS (Option.some.inj h) dX4_passDays_17
