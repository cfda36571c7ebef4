theorem dX5_isHidden_0 : decode cX5_isHidden 0 = .ok (.iconst 0, 1) := by decide +kernel
theorem dX5_isHidden_1 : decode cX5_isHidden 1 = .ok (.istore_n 3, 1) := by decide +kernel
theorem dX5_isHidden_2 : decode cX5_isHidden 2 = .ok (.iload_n 3, 1) := by decide +kernel
theorem dX5_isHidden_3 : decode cX5_isHidden 3 = .ok (.aload_n 0, 1) := by decide +kernel
theorem dX5_isHidden_4 : decode cX5_isHidden 4 = .ok (.getfield 62, 3) := by decide +kernel
theorem dX5_isHidden_7 : decode cX5_isHidden 7 = .ok (.if_icmp .ge 36, 3) := by decide +kernel
theorem dX5_isHidden_10 : decode cX5_isHidden 10 = .ok (.aload_n 0, 1) := by decide +kernel
theorem dX5_isHidden_11 : decode cX5_isHidden 11 = .ok (.getfield 18, 3) := by decide +kernel
theorem dX5_isHidden_14 : decode cX5_isHidden 14 = .ok (.iload_n 3, 1) := by decide +kernel
theorem dX5_isHidden_15 : decode cX5_isHidden 15 = .ok (.iaload, 1) := by decide +kernel
theorem dX5_isHidden_16 : decode cX5_isHidden 16 = .ok (.iload_n 2, 1) := by decide +kernel
theorem dX5_isHidden_17 : decode cX5_isHidden 17 = .ok (.ishr, 1) := by decide +kernel
theorem dX5_isHidden_18 : decode cX5_isHidden 18 = .ok (.iconst 1, 1) := by decide +kernel
theorem dX5_isHidden_19 : decode cX5_isHidden 19 = .ok (.iand, 1) := by decide +kernel
theorem dX5_isHidden_20 : decode cX5_isHidden 20 = .ok (.iconst 1, 1) := by decide +kernel
theorem dX5_isHidden_21 : decode cX5_isHidden 21 = .ok (.if_icmp .ne 16, 3) := by decide +kernel
theorem dX5_isHidden_24 : decode cX5_isHidden 24 = .ok (.aload_n 1, 1) := by decide +kernel
theorem dX5_isHidden_25 : decode cX5_isHidden 25 = .ok (.iload_n 3, 1) := by decide +kernel
theorem dX5_isHidden_26 : decode cX5_isHidden 26 = .ok (.iaload, 1) := by decide +kernel
theorem dX5_isHidden_27 : decode cX5_isHidden 27 = .ok (.iconst 2, 1) := by decide +kernel
theorem dX5_isHidden_28 : decode cX5_isHidden 28 = .ok (.aload_n 1, 1) := by decide +kernel
theorem dX5_isHidden_29 : decode cX5_isHidden 29 = .ok (.iload_n 2, 1) := by decide +kernel
theorem dX5_isHidden_30 : decode cX5_isHidden 30 = .ok (.iaload, 1) := by decide +kernel
theorem dX5_isHidden_31 : decode cX5_isHidden 31 = .ok (.imul, 1) := by decide +kernel
theorem dX5_isHidden_32 : decode cX5_isHidden 32 = .ok (.if_icmp .lt 5, 3) := by decide +kernel
theorem dX5_isHidden_35 : decode cX5_isHidden 35 = .ok (.iconst 1, 1) := by decide +kernel
theorem dX5_isHidden_36 : decode cX5_isHidden 36 = .ok (.ireturn, 1) := by decide +kernel
theorem dX5_isHidden_37 : decode cX5_isHidden 37 = .ok (.iinc 3 1, 3) := by decide +kernel
theorem dX5_isHidden_40 : decode cX5_isHidden 40 = .ok (.goto (-38), 3) := by decide +kernel
theorem dX5_isHidden_43 : decode cX5_isHidden 43 = .ok (.iconst 0, 1) := by decide +kernel
theorem dX5_isHidden_44 : decode cX5_isHidden 44 = .ok (.ireturn, 1) := by decide +kernel
set_option maxHeartbeats 4000000 in
set_option maxRecDepth 100000 in
theorem w_X5_isHidden_L2 {g : sk_G} {l : Launch} {p : Program} {e : Env} {s : State} {m : MethodId} {av : Array Value} {below : List Frame} {meth : Method} {c : Code} (C : sk_C g p s m av meth c cX5_isHidden 4 RX5 (some .boolean)) (o0 : Nat) (q0 : sk_isW o0) (o1 : Nat) (q1 : sk_kd o1 = (0, 9)) (a2 : Int32) (M : sk_M) {rr : Int32} :
    ∀ (n : Nat) (a3 : Int32) (H : Heap) (locs : List Loc) (ls : Array Slot), lv_has ls 4 [(0, .ref (sk_ad g o0)), (1, .ref (sk_ad g o1)), (2, .int a2), (3, .int a3)] → sk_P g M H → va_S (sk_A g) s.heap H locs → ∀ {out : (Int32) ⊕ (Unit)}, f_X5_isHidden_L2 o0 o1 a2 M n a3 = some out → (∀ r, out = Sum.inl r → some r = some rr) → (∀  (H : Heap) (locs : List Loc) (ls : Array Slot), some (Sum.inr ()) = some out → lv_has ls 4 [] → sk_P g M H → va_S (sk_A g) s.heap H locs → W p l e (sk_rm 1) s m av below meth c H locs 0 0 (MQ below (sk_QI g rr M) av s 0 0 (sk_A g)) (F0 m 43 ls [])) → W p l e (sk_rm 1) s m av below meth c H locs 0 0 (MQ below (sk_QI g rr M) av s 0 0 (sk_A g)) (F0 m 2 ls []) := by
  obtain ⟨hx, hb, hml, hown, hts, hK, hE, hr, hlocks⟩ := id C
  intro n
  induction n with
  | zero =>
    intro a3 H locs ls hl hM hS out h
    cases h
  | succ n ih =>
    intro a3 H locs ls hl hM hS out h kr kx
    rw [f_X5_isHidden_L2] at h
    refine lv_iload_n hx hb dX5_isHidden_2 rfl (lv_at hl 3 rfl) ?_
    refine lv_aload_n hx hb dX5_isHidden_3 rfl (lv_at hl 0 rfl) ?_
    refine sk_getI (o := o0) (ci := 5) (j := 10) C hM (sk_isW_kd q0) rfl (by decide) rfl kw_185 dX5_isHidden_4 ?_
    refine lv_icmp_ge hx hb dX5_isHidden_7 rfl (fun hc => ?_) (fun hc => ?_)
    · have h := sk_pos h hc
      exact kx  _ _ _ h (lv_sub hl [] rfl) hM hS
    · have h := sk_neg h hc
      refine lv_aload_n hx hb dX5_isHidden_10 rfl (lv_at hl 0 rfl) ?_
      refine sk_getR (o := o0) (ci := 5) (j := 3) (t := (o0 + 3)) C hM (sk_isW_kd q0) rfl (by decide) rfl (sk_isW_r q0 3 (by decide) (by decide)) kw_170 dX5_isHidden_11 ?_
      refine lv_iload_n hx hb dX5_isHidden_14 rfl (lv_at hl 3 rfl) ?_
      obtain ⟨i_1, h⟩ := sk_chkE h
      refine sk_iald (o := (o0 + 3)) C hM (sk_isW_k3 q0) i_1 dX5_isHidden_15 ?_
      refine lv_iload_n hx hb dX5_isHidden_16 rfl (lv_at hl 2 rfl) ?_
      refine lv_ishr hx hb dX5_isHidden_17 ?_
      refine lv_iconst (v := 1) hx hb dX5_isHidden_18 (by decide) ?_
      refine lv_iand hx hb dX5_isHidden_19 ?_
      refine lv_iconst (v := 1) hx hb dX5_isHidden_20 (by decide) ?_
      refine lv_icmp_ne hx hb dX5_isHidden_21 rfl (fun hc => ?_) (fun hc => ?_)
      · have h := sk_neg h hc
        refine lv_iinc (v := (a3 + 1)) (lv' := [(3, .int (a3 + 1)), (0, .ref (sk_ad g o0)), (1, .ref (sk_ad g o1)), (2, .int a2)]) hx hb dX5_isHidden_37 hl (k := 3) rfl rfl (by decide) rfl (fun ls hl => ?_)
        refine lv_goto hx hb dX5_isHidden_40 rfl ?_
        exact ih (a3 + 1) _ _ _ (lv_sub hl [1, 2, 3, 0] rfl) hM hS h kr kx
      · have h := sk_pos h hc
        refine lv_aload_n hx hb dX5_isHidden_24 rfl (lv_at hl 1 rfl) ?_
        refine lv_iload_n hx hb dX5_isHidden_25 rfl (lv_at hl 3 rfl) ?_
        obtain ⟨i_2, h⟩ := sk_chkE h
        refine sk_iald (o := o1) C hM q1 i_2 dX5_isHidden_26 ?_
        refine lv_iconst (v := 2) hx hb dX5_isHidden_27 (by decide) ?_
        refine lv_aload_n hx hb dX5_isHidden_28 rfl (lv_at hl 1 rfl) ?_
        refine lv_iload_n hx hb dX5_isHidden_29 rfl (lv_at hl 2 rfl) ?_
        obtain ⟨i_3, h⟩ := sk_chkE h
        refine sk_iald (o := o1) C hM q1 i_3 dX5_isHidden_30 ?_
        refine lv_imul hx hb dX5_isHidden_31 ?_
        refine lv_icmp_lt hx hb dX5_isHidden_32 rfl (fun hc => ?_) (fun hc => ?_)
        · have h := sk_pos h hc
          refine lv_iinc (v := (a3 + 1)) (lv' := [(3, .int (a3 + 1)), (0, .ref (sk_ad g o0)), (1, .ref (sk_ad g o1)), (2, .int a2)]) hx hb dX5_isHidden_37 hl (k := 3) rfl rfl (by decide) rfl (fun ls hl => ?_)
          refine lv_goto hx hb dX5_isHidden_40 rfl ?_
          exact ih (a3 + 1) _ _ _ (lv_sub hl [1, 2, 3, 0] rfl) hM hS h kr kx
        · have h := sk_neg h hc
          refine lv_iconst (v := 1) hx hb dX5_isHidden_35 (by decide) ?_
          have h := kr _ (Option.some.inj h).symm
          exact sk_zret C hM hS (sk_nz (Or.inr rfl)) ⟨Option.some.inj h, rfl⟩ dX5_isHidden_36
set_option maxHeartbeats 4000000 in
set_option maxRecDepth 100000 in
theorem c_X5_isHidden (g : sk_G) (l : Launch) (o0 : Nat) (q0 : sk_isW o0) (o1 : Nat) (q1 : sk_kd o1 = (0, 9)) (a2 : Int32) (M : sk_M) {rr : Int32} (h : f_X5_isHidden o0 o1 a2 M = some rr) : sk_MI g l yX5_isHidden cX5_isHidden 4 (some .boolean) 1 [.ref (sk_ad g o0), .ref (sk_ad g o1), .int a2] M rr M := by
  refine sk_go [(0, .ref (sk_ad g o0)), (1, .ref (sk_ad g o1)), (2, .int a2)] (by decide) (Nat.le_of_ble_eq_true rfl) rfl ?_
  intro p e s m av below meth c C ls hl hM hS
  obtain ⟨hx, hb, hml, hown, hts, hK, hE, hr, hlocks⟩ := id C
  rw [f_X5_isHidden] at h
  refine lv_iconst (v := 0) hx hb dX5_isHidden_0 (by decide) ?_
  refine lv_istore_n (lv' := [(3, .int 0), (0, .ref (sk_ad g o0)), (1, .ref (sk_ad g o1)), (2, .int a2)]) hx hb dX5_isHidden_1 rfl hl (by decide) rfl (fun ls hl => ?_)
  obtain ⟨out_5, h_4, kf_6, kg_7⟩ := sk_s0E h
  refine w_X5_isHidden_L2 C o0 q0 o1 q1 a2 M sk_FU 0 _ _ _ (lv_sub hl [1, 2, 3, 0] rfl) hM hS h_4 kf_6 (fun  H locs ls he hl hM hS => ?_)
  have h := kg_7  (Option.some.inj he).symm
  refine lv_iconst (v := 0) hx hb dX5_isHidden_43 (by decide) ?_
  exact sk_zret C hM hS (sk_nz (Or.inl rfl)) ⟨Option.some.inj h, rfl⟩ dX5_isHidden_44
theorem dX5_smelled_0 : decode cX5_smelled 0 = .ok (.iconst 0, 1) := by decide +kernel
theorem dX5_smelled_1 : decode cX5_smelled 1 = .ok (.istore_n 3, 1) := by decide +kernel
theorem dX5_smelled_2 : decode cX5_smelled 2 = .ok (.iconst 0, 1) := by decide +kernel
theorem dX5_smelled_3 : decode cX5_smelled 3 = .ok (.istore 4, 2) := by decide +kernel
theorem dX5_smelled_5 : decode cX5_smelled 5 = .ok (.iload 4, 2) := by decide +kernel
theorem dX5_smelled_7 : decode cX5_smelled 7 = .ok (.aload_n 0, 1) := by decide +kernel
theorem dX5_smelled_8 : decode cX5_smelled 8 = .ok (.getfield 62, 3) := by decide +kernel
theorem dX5_smelled_11 : decode cX5_smelled 11 = .ok (.if_icmp .ge 39, 3) := by decide +kernel
theorem dX5_smelled_14 : decode cX5_smelled 14 = .ok (.aload_n 1, 1) := by decide +kernel
theorem dX5_smelled_15 : decode cX5_smelled 15 = .ok (.iload 4, 2) := by decide +kernel
theorem dX5_smelled_17 : decode cX5_smelled 17 = .ok (.iaload, 1) := by decide +kernel
theorem dX5_smelled_18 : decode cX5_smelled 18 = .ok (.aload_n 0, 1) := by decide +kernel
theorem dX5_smelled_19 : decode cX5_smelled 19 = .ok (.getfield 21, 3) := by decide +kernel
theorem dX5_smelled_22 : decode cX5_smelled 22 = .ok (.iload_n 2, 1) := by decide +kernel
theorem dX5_smelled_23 : decode cX5_smelled 23 = .ok (.iaload, 1) := by decide +kernel
theorem dX5_smelled_24 : decode cX5_smelled 24 = .ok (.if_icmp .lt 20, 3) := by decide +kernel
theorem dX5_smelled_27 : decode cX5_smelled 27 = .ok (.aload_n 0, 1) := by decide +kernel
theorem dX5_smelled_28 : decode cX5_smelled 28 = .ok (.aload_n 1, 1) := by decide +kernel
theorem dX5_smelled_29 : decode cX5_smelled 29 = .ok (.iload 4, 2) := by decide +kernel
theorem dX5_smelled_31 : decode cX5_smelled 31 = .ok (.invokevirtual 101, 3) := by decide +kernel
theorem dX5_smelled_34 : decode cX5_smelled 34 = .ok (.ifCond .ne 10, 3) := by decide +kernel
theorem dX5_smelled_37 : decode cX5_smelled 37 = .ok (.iload_n 3, 1) := by decide +kernel
theorem dX5_smelled_38 : decode cX5_smelled 38 = .ok (.iconst 1, 1) := by decide +kernel
theorem dX5_smelled_39 : decode cX5_smelled 39 = .ok (.iload 4, 2) := by decide +kernel
theorem dX5_smelled_41 : decode cX5_smelled 41 = .ok (.ishl, 1) := by decide +kernel
theorem dX5_smelled_42 : decode cX5_smelled 42 = .ok (.ior, 1) := by decide +kernel
theorem dX5_smelled_43 : decode cX5_smelled 43 = .ok (.istore_n 3, 1) := by decide +kernel
theorem dX5_smelled_44 : decode cX5_smelled 44 = .ok (.iinc 4 1, 3) := by decide +kernel
theorem dX5_smelled_47 : decode cX5_smelled 47 = .ok (.goto (-42), 3) := by decide +kernel
theorem dX5_smelled_50 : decode cX5_smelled 50 = .ok (.iload_n 3, 1) := by decide +kernel
theorem dX5_smelled_51 : decode cX5_smelled 51 = .ok (.ireturn, 1) := by decide +kernel
set_option maxHeartbeats 4000000 in
set_option maxRecDepth 100000 in
theorem w_X5_smelled_L5 {g : sk_G} {l : Launch} {p : Program} {e : Env} {s : State} {m : MethodId} {av : Array Value} {below : List Frame} {meth : Method} {c : Code} (C : sk_C g p s m av meth c cX5_smelled 5 RX5 (some .int)) (o0 : Nat) (q0 : sk_isW o0) (o1 : Nat) (q1 : sk_kd o1 = (0, 9)) (a2 : Int32) (M : sk_M) {rr : Int32} :
    ∀ (n : Nat) (a3 : Int32) (a4 : Int32) (H : Heap) (locs : List Loc) (ls : Array Slot), lv_has ls 5 [(0, .ref (sk_ad g o0)), (1, .ref (sk_ad g o1)), (2, .int a2), (3, .int a3), (4, .int a4)] → sk_P g M H → va_S (sk_A g) s.heap H locs → ∀ {out : Int32}, f_X5_smelled_L5 o0 o1 a2 M n a3 a4 = some out → (∀ (x3 : Int32) (H : Heap) (locs : List Loc) (ls : Array Slot), some x3 = some out → lv_has ls 5 [(3, .int x3)] → sk_P g M H → va_S (sk_A g) s.heap H locs → W p l e (sk_rm 2) s m av below meth c H locs 0 0 (MQ below (sk_QI g rr M) av s 0 0 (sk_A g)) (F0 m 50 ls [])) → W p l e (sk_rm 2) s m av below meth c H locs 0 0 (MQ below (sk_QI g rr M) av s 0 0 (sk_A g)) (F0 m 5 ls []) := by
  obtain ⟨hx, hb, hml, hown, hts, hK, hE, hr, hlocks⟩ := id C
  intro n
  induction n with
  | zero =>
    intro a3 a4 H locs ls hl hM hS out h
    cases h
  | succ n ih =>
    intro a3 a4 H locs ls hl hM hS out h kx
    rw [f_X5_smelled_L5] at h
    refine lv_iload hx hb dX5_smelled_5 (lv_at hl 4 rfl) ?_
    refine lv_aload_n hx hb dX5_smelled_7 rfl (lv_at hl 0 rfl) ?_
    refine sk_getI (o := o0) (ci := 5) (j := 10) C hM (sk_isW_kd q0) rfl (by decide) rfl kw_185 dX5_smelled_8 ?_
    refine lv_icmp_ge hx hb dX5_smelled_11 rfl (fun hc => ?_) (fun hc => ?_)
    · have h := sk_pos h hc
      exact kx _ _ _ _ h (lv_sub hl [3] rfl) hM hS
    · have h := sk_neg h hc
      refine lv_aload_n hx hb dX5_smelled_14 rfl (lv_at hl 1 rfl) ?_
      refine lv_iload hx hb dX5_smelled_15 (lv_at hl 4 rfl) ?_
      obtain ⟨i_1, h⟩ := sk_chkE h
      refine sk_iald (o := o1) C hM q1 i_1 dX5_smelled_17 ?_
      refine lv_aload_n hx hb dX5_smelled_18 rfl (lv_at hl 0 rfl) ?_
      refine sk_getR (o := o0) (ci := 5) (j := 4) (t := (o0 + 4)) C hM (sk_isW_kd q0) rfl (by decide) rfl (sk_isW_r q0 4 (by decide) (by decide)) kw_172 dX5_smelled_19 ?_
      refine lv_iload_n hx hb dX5_smelled_22 rfl (lv_at hl 2 rfl) ?_
      obtain ⟨i_2, h⟩ := sk_chkE h
      refine sk_iald (o := (o0 + 4)) C hM (sk_isW_k4 q0) i_2 dX5_smelled_23 ?_
      refine lv_icmp_lt hx hb dX5_smelled_24 rfl (fun hc => ?_) (fun hc => ?_)
      · have h := sk_pos h hc
        refine lv_iinc (v := (a4 + 1)) (lv' := [(4, .int (a4 + 1)), (0, .ref (sk_ad g o0)), (1, .ref (sk_ad g o1)), (2, .int a2), (3, .int a3)]) hx hb dX5_smelled_44 hl (k := 4) rfl rfl (by decide) rfl (fun ls hl => ?_)
        refine lv_goto hx hb dX5_smelled_47 rfl ?_
        exact ih a3 (a4 + 1) _ _ _ (lv_sub hl [1, 2, 3, 4, 0] rfl) hM hS h kx
      · have h := sk_neg h hc
        refine lv_aload_n hx hb dX5_smelled_27 rfl (lv_at hl 0 rfl) ?_
        refine lv_aload_n hx hb dX5_smelled_28 rfl (lv_at hl 1 rfl) ?_
        refine lv_iload hx hb dX5_smelled_29 (lv_at hl 4 rfl) ?_
        obtain ⟨x_3, h_4, h⟩ := sk_b1E h
        refine sk_contI (sk_runV (As := [.ref (sk_ad g o1), .int a4]) (rest := []) C (c_X5_isHidden g l o0 q0 o1 q1 a4 M h_4) yo_X5_isHidden kw_501 (sk_recv (ci := 5) C hM (sk_isW_kd q0) rfl) (by decide) hM hS hl.1 rfl rfl (Nat.le_of_ble_eq_true rfl) dX5_smelled_31) hS (fun H locs hM hS => ?_)
        refine lv_if_ne hx hb dX5_smelled_34 rfl (fun hc => ?_) (fun hc => ?_)
        · have h := sk_neg h hc
          refine lv_iinc (v := (a4 + 1)) (lv' := [(4, .int (a4 + 1)), (0, .ref (sk_ad g o0)), (1, .ref (sk_ad g o1)), (2, .int a2), (3, .int a3)]) hx hb dX5_smelled_44 hl (k := 4) rfl rfl (by decide) rfl (fun ls hl => ?_)
          refine lv_goto hx hb dX5_smelled_47 rfl ?_
          exact ih a3 (a4 + 1) _ _ _ (lv_sub hl [1, 2, 3, 4, 0] rfl) hM hS h kx
        · have h := sk_pos h hc
          refine lv_iload_n hx hb dX5_smelled_37 rfl (lv_at hl 3 rfl) ?_
          refine lv_iconst (v := 1) hx hb dX5_smelled_38 (by decide) ?_
          refine lv_iload hx hb dX5_smelled_39 (lv_at hl 4 rfl) ?_
          refine lv_ishl hx hb dX5_smelled_41 ?_
          refine lv_ior hx hb dX5_smelled_42 ?_
          refine lv_topi (fun x_5 ex_5 => ?_)
          have h := sk_letU h ex_5
          refine lv_istore_n (lv' := [(3, .int x_5), (0, .ref (sk_ad g o0)), (1, .ref (sk_ad g o1)), (2, .int a2), (4, .int a4)]) hx hb dX5_smelled_43 rfl hl (by decide) rfl (fun ls hl => ?_)
          refine lv_iinc (v := (a4 + 1)) (lv' := [(4, .int (a4 + 1)), (3, .int x_5), (0, .ref (sk_ad g o0)), (1, .ref (sk_ad g o1)), (2, .int a2)]) hx hb dX5_smelled_44 hl (k := 4) rfl rfl (by decide) rfl (fun ls hl => ?_)
          refine lv_goto hx hb dX5_smelled_47 rfl ?_
          exact ih x_5 (a4 + 1) _ _ _ (lv_sub hl [2, 3, 4, 1, 0] rfl) hM hS h kx
set_option maxHeartbeats 4000000 in
set_option maxRecDepth 100000 in
theorem c_X5_smelled (g : sk_G) (l : Launch) (o0 : Nat) (q0 : sk_isW o0) (o1 : Nat) (q1 : sk_kd o1 = (0, 9)) (a2 : Int32) (M : sk_M) {rr : Int32} (h : f_X5_smelled o0 o1 a2 M = some rr) : sk_MI g l yX5_smelled cX5_smelled 5 (some .int) 2 [.ref (sk_ad g o0), .ref (sk_ad g o1), .int a2] M rr M := by
  refine sk_go [(0, .ref (sk_ad g o0)), (1, .ref (sk_ad g o1)), (2, .int a2)] (by decide) (Nat.le_of_ble_eq_true rfl) rfl ?_
  intro p e s m av below meth c C ls hl hM hS
  obtain ⟨hx, hb, hml, hown, hts, hK, hE, hr, hlocks⟩ := id C
  rw [f_X5_smelled] at h
  refine lv_iconst (v := 0) hx hb dX5_smelled_0 (by decide) ?_
  refine lv_istore_n (lv' := [(3, .int 0), (0, .ref (sk_ad g o0)), (1, .ref (sk_ad g o1)), (2, .int a2)]) hx hb dX5_smelled_1 rfl hl (by decide) rfl (fun ls hl => ?_)
  refine lv_iconst (v := 0) hx hb dX5_smelled_2 (by decide) ?_
  refine lv_istore (lv' := [(4, .int 0), (3, .int 0), (0, .ref (sk_ad g o0)), (1, .ref (sk_ad g o1)), (2, .int a2)]) hx hb dX5_smelled_3 hl (by decide) rfl (fun ls hl => ?_)
  obtain ⟨x_6, h_7, h⟩ := sk_b1E h
  refine w_X5_smelled_L5 C o0 q0 o1 q1 a2 M sk_FU 0 0 _ _ _ (lv_sub hl [2, 3, 4, 1, 0] rfl) hM hS h_7 (fun y_8 H locs ls he hl hM hS => ?_)
  obtain rfl := Option.some.inj he
  refine lv_iload_n hx hb dX5_smelled_50 rfl (lv_at hl 0 rfl) ?_
  exact sk_iret C hM hS ⟨Option.some.inj h, rfl⟩ dX5_smelled_51
theorem dX4_smelledBy_0 : decode cX4_smelledBy 0 = .ok (.aload_n 0, 1) := by decide +kernel
theorem dX4_smelledBy_1 : decode cX4_smelledBy 1 = .ok (.getfield 15, 3) := by decide +kernel
theorem dX4_smelledBy_4 : decode cX4_smelledBy 4 = .ok (.aload_n 0, 1) := by decide +kernel
theorem dX4_smelledBy_5 : decode cX4_smelledBy 5 = .ok (.getfield 9, 3) := by decide +kernel
theorem dX4_smelledBy_8 : decode cX4_smelledBy 8 = .ok (.iload_n 1, 1) := by decide +kernel
theorem dX4_smelledBy_9 : decode cX4_smelledBy 9 = .ok (.invokevirtual 51, 3) := by decide +kernel
theorem dX4_smelledBy_12 : decode cX4_smelledBy 12 = .ok (.ireturn, 1) := by decide +kernel
set_option maxHeartbeats 4000000 in
set_option maxRecDepth 100000 in
theorem c_X4_smelledBy (g : sk_G) (l : Launch) (o0 : Nat) (q0 : sk_isT o0) (a1 : Int32) (M : sk_M) {rr : Int32} (h : f_X4_smelledBy o0 a1 M = some rr) : sk_MI g l yX4_smelledBy cX4_smelledBy 2 (some .int) 3 [.ref (sk_ad g o0), .int a1] M rr M := by
  refine sk_go [(0, .ref (sk_ad g o0)), (1, .int a1)] (by decide) (Nat.le_of_ble_eq_true rfl) rfl ?_
  intro p e s m av below meth c C ls hl hM hS
  obtain ⟨hx, hb, hml, hown, hts, hK, hE, hr, hlocks⟩ := id C
  rw [f_X4_smelledBy] at h
  refine lv_aload_n hx hb dX4_smelledBy_0 rfl (lv_at hl 0 rfl) ?_
  refine sk_getR (o := o0) (ci := 4) (j := 0) (t := (sk_tw o0)) C hM (sk_isT_kd q0) rfl (by decide) rfl (sk_isT_r0 q0) kw_237 dX4_smelledBy_1 ?_
  refine lv_aload_n hx hb dX4_smelledBy_4 rfl (lv_at hl 0 rfl) ?_
  refine sk_getR (o := o0) (ci := 4) (j := 1) (t := (o0 + 1)) C hM (sk_isT_kd q0) rfl (by decide) rfl (sk_isT_r1 q0) kw_238 dX4_smelledBy_5 ?_
  refine lv_iload_n hx hb dX4_smelledBy_8 rfl (lv_at hl 1 rfl) ?_
  obtain ⟨x_1, h_2, h⟩ := sk_b1E h
  refine sk_contI (sk_runV (As := [.ref (sk_ad g (o0 + 1)), .int a1]) (rest := []) C (c_X5_smelled g l (sk_tw o0) (sk_isT_w q0) (o0 + 1) (sk_isT_k1 q0) a1 M h_2) yo_X5_smelled kw_567 (sk_recv (ci := 5) C hM (sk_isW_kd (sk_isT_w q0)) rfl) (by decide) hM hS hl.1 rfl rfl (Nat.le_of_ble_eq_true rfl) dX4_smelledBy_9) hS (fun H locs hM hS => ?_)
  exact sk_iret C hM hS ⟨Option.some.inj h, rfl⟩ dX4_smelledBy_12
theorem dX5_said_0 : decode cX5_said 0 = .ok (.aload_n 0, 1) := by decide +kernel
theorem dX5_said_1 : decode cX5_said 1 = .ok (.aload_n 1, 1) := by decide +kernel
theorem dX5_said_2 : decode cX5_said 2 = .ok (.iload_n 2, 1) := by decide +kernel
theorem dX5_said_3 : decode cX5_said 3 = .ok (.invokevirtual 105, 3) := by decide +kernel
theorem dX5_said_6 : decode cX5_said 6 = .ok (.istore_n 3, 1) := by decide +kernel
theorem dX5_said_7 : decode cX5_said 7 = .ok (.iconst 0, 1) := by decide +kernel
theorem dX5_said_8 : decode cX5_said 8 = .ok (.istore 4, 2) := by decide +kernel
theorem dX5_said_10 : decode cX5_said 10 = .ok (.iload 4, 2) := by decide +kernel
theorem dX5_said_12 : decode cX5_said 12 = .ok (.aload_n 0, 1) := by decide +kernel
theorem dX5_said_13 : decode cX5_said 13 = .ok (.getfield 65, 3) := by decide +kernel
theorem dX5_said_16 : decode cX5_said 16 = .ok (.if_icmp .ge 23, 3) := by decide +kernel
theorem dX5_said_19 : decode cX5_said 19 = .ok (.aload_n 0, 1) := by decide +kernel
theorem dX5_said_20 : decode cX5_said 20 = .ok (.getfield 24, 3) := by decide +kernel
theorem dX5_said_23 : decode cX5_said 23 = .ok (.iload 4, 2) := by decide +kernel
theorem dX5_said_25 : decode cX5_said 25 = .ok (.iaload, 1) := by decide +kernel
theorem dX5_said_26 : decode cX5_said 26 = .ok (.iload_n 3, 1) := by decide +kernel
theorem dX5_said_27 : decode cX5_said 27 = .ok (.if_icmp .ne 6, 3) := by decide +kernel
theorem dX5_said_30 : decode cX5_said 30 = .ok (.iload 4, 2) := by decide +kernel
theorem dX5_said_32 : decode cX5_said 32 = .ok (.ireturn, 1) := by decide +kernel
theorem dX5_said_33 : decode cX5_said 33 = .ok (.iinc 4 1, 3) := by decide +kernel
theorem dX5_said_36 : decode cX5_said 36 = .ok (.goto (-26), 3) := by decide +kernel
theorem dX5_said_39 : decode cX5_said 39 = .ok (.ldc 51, 2) := by decide +kernel
theorem dX5_said_41 : decode cX5_said 41 = .ok (.ireturn, 1) := by decide +kernel
set_option maxHeartbeats 4000000 in
set_option maxRecDepth 100000 in
theorem w_X5_said_L10 {g : sk_G} {l : Launch} {p : Program} {e : Env} {s : State} {m : MethodId} {av : Array Value} {below : List Frame} {meth : Method} {c : Code} (C : sk_C g p s m av meth c cX5_said 5 RX5 (some .int)) (o0 : Nat) (q0 : sk_isW o0) (o1 : Nat) (q1 : sk_kd o1 = (0, 9)) (a3 : Int32) (M : sk_M) {rr : Int32} :
    ∀ (n : Nat) (a4 : Int32) (H : Heap) (locs : List Loc) (ls : Array Slot), lv_has ls 5 [(0, .ref (sk_ad g o0)), (3, .int a3), (4, .int a4)] → sk_P g M H → va_S (sk_A g) s.heap H locs → ∀ {out : (Int32) ⊕ (Unit)}, f_X5_said_L10 o0 o1 a3 M n a4 = some out → (∀ r, out = Sum.inl r → some r = some rr) → (∀  (H : Heap) (locs : List Loc) (ls : Array Slot), some (Sum.inr ()) = some out → lv_has ls 5 [] → sk_P g M H → va_S (sk_A g) s.heap H locs → W p l e (sk_rm 3) s m av below meth c H locs 0 0 (MQ below (sk_QI g rr M) av s 0 0 (sk_A g)) (F0 m 39 ls [])) → W p l e (sk_rm 3) s m av below meth c H locs 0 0 (MQ below (sk_QI g rr M) av s 0 0 (sk_A g)) (F0 m 10 ls []) := by
  obtain ⟨hx, hb, hml, hown, hts, hK, hE, hr, hlocks⟩ := id C
  intro n
  induction n with
  | zero =>
    intro a4 H locs ls hl hM hS out h
    cases h
  | succ n ih =>
    intro a4 H locs ls hl hM hS out h kr kx
    rw [f_X5_said_L10] at h
    refine lv_iload hx hb dX5_said_10 (lv_at hl 2 rfl) ?_
    refine lv_aload_n hx hb dX5_said_12 rfl (lv_at hl 0 rfl) ?_
    refine sk_getI (o := o0) (ci := 5) (j := 11) C hM (sk_isW_kd q0) rfl (by decide) rfl kw_187 dX5_said_13 ?_
    refine lv_icmp_ge hx hb dX5_said_16 rfl (fun hc => ?_) (fun hc => ?_)
    · have h := sk_pos h hc
      exact kx  _ _ _ h (lv_sub hl [] rfl) hM hS
    · have h := sk_neg h hc
      refine lv_aload_n hx hb dX5_said_19 rfl (lv_at hl 0 rfl) ?_
      refine sk_getR (o := o0) (ci := 5) (j := 5) (t := (o0 + 5)) C hM (sk_isW_kd q0) rfl (by decide) rfl (sk_isW_r q0 5 (by decide) (by decide)) kw_174 dX5_said_20 ?_
      refine lv_iload hx hb dX5_said_23 (lv_at hl 2 rfl) ?_
      obtain ⟨i_3, h⟩ := sk_chkE h
      refine sk_iald (o := (o0 + 5)) C hM (sk_isW_k5 q0) i_3 dX5_said_25 ?_
      refine lv_iload_n hx hb dX5_said_26 rfl (lv_at hl 1 rfl) ?_
      refine lv_icmp_ne hx hb dX5_said_27 rfl (fun hc => ?_) (fun hc => ?_)
      · have h := sk_neg h hc
        refine lv_iinc (v := (a4 + 1)) (lv' := [(4, .int (a4 + 1)), (0, .ref (sk_ad g o0)), (3, .int a3)]) hx hb dX5_said_33 hl (k := 2) rfl rfl (by decide) rfl (fun ls hl => ?_)
        refine lv_goto hx hb dX5_said_36 rfl ?_
        exact ih (a4 + 1) _ _ _ (lv_sub hl [1, 2, 0] rfl) hM hS h kr kx
      · have h := sk_pos h hc
        refine lv_iload hx hb dX5_said_30 (lv_at hl 2 rfl) ?_
        have h := kr _ (Option.some.inj h).symm
        exact sk_iret C hM hS ⟨Option.some.inj h, rfl⟩ dX5_said_32
set_option maxHeartbeats 4000000 in
set_option maxRecDepth 100000 in
theorem c_X5_said (g : sk_G) (l : Launch) (o0 : Nat) (q0 : sk_isW o0) (o1 : Nat) (q1 : sk_kd o1 = (0, 9)) (a2 : Int32) (M : sk_M) {rr : Int32} (h : f_X5_said o0 o1 a2 M = some rr) : sk_MI g l yX5_said cX5_said 5 (some .int) 3 [.ref (sk_ad g o0), .ref (sk_ad g o1), .int a2] M rr M := by
  refine sk_go [(0, .ref (sk_ad g o0)), (1, .ref (sk_ad g o1)), (2, .int a2)] (by decide) (Nat.le_of_ble_eq_true rfl) rfl ?_
  intro p e s m av below meth c C ls hl hM hS
  obtain ⟨hx, hb, hml, hown, hts, hK, hE, hr, hlocks⟩ := id C
  rw [f_X5_said] at h
  refine lv_aload_n hx hb dX5_said_0 rfl (lv_at hl 0 rfl) ?_
  refine lv_aload_n hx hb dX5_said_1 rfl (lv_at hl 1 rfl) ?_
  refine lv_iload_n hx hb dX5_said_2 rfl (lv_at hl 2 rfl) ?_
  obtain ⟨x_1, h_2, h⟩ := sk_b1E h
  refine sk_contI (sk_runV (As := [.ref (sk_ad g o1), .int a2]) (rest := []) C (c_X5_smelled g l o0 q0 o1 q1 a2 M h_2) yo_X5_smelled kw_513 (sk_recv (ci := 5) C hM (sk_isW_kd q0) rfl) (by decide) hM hS hl.1 rfl rfl (Nat.le_of_ble_eq_true rfl) dX5_said_3) hS (fun H locs hM hS => ?_)
  refine lv_istore_n (lv' := [(3, .int x_1), (0, .ref (sk_ad g o0)), (1, .ref (sk_ad g o1)), (2, .int a2)]) hx hb dX5_said_6 rfl hl (by decide) rfl (fun ls hl => ?_)
  refine lv_iconst (v := 0) hx hb dX5_said_7 (by decide) ?_
  refine lv_istore (lv' := [(4, .int 0), (3, .int x_1), (0, .ref (sk_ad g o0)), (1, .ref (sk_ad g o1)), (2, .int a2)]) hx hb dX5_said_8 hl (by decide) rfl (fun ls hl => ?_)
  obtain ⟨out_5, h_4, kf_6, kg_7⟩ := sk_s0E h
  refine w_X5_said_L10 C o0 q0 o1 q1 x_1 M sk_FU 0 _ _ _ (lv_sub hl [2, 1, 0] rfl) hM hS h_4 kf_6 (fun  H locs ls he hl hM hS => ?_)
  have h := kg_7  (Option.some.inj he).symm
  refine lv_ldc (v := (-1000000005)) hx hb hown (hts _ kw_164) dX5_said_39 ?_
  exact sk_iret C hM hS ⟨Option.some.inj h, rfl⟩ dX5_said_41
theorem dX4_saidTo_0 : decode cX4_saidTo 0 = .ok (.aload_n 0, 1) := by decide +kernel
theorem dX4_saidTo_1 : decode cX4_saidTo 1 = .ok (.getfield 15, 3) := by decide +kernel
theorem dX4_saidTo_4 : decode cX4_saidTo 4 = .ok (.aload_n 0, 1) := by decide +kernel
theorem dX4_saidTo_5 : decode cX4_saidTo 5 = .ok (.getfield 9, 3) := by decide +kernel
theorem dX4_saidTo_8 : decode cX4_saidTo 8 = .ok (.iload_n 1, 1) := by decide +kernel
theorem dX4_saidTo_9 : decode cX4_saidTo 9 = .ok (.invokevirtual 55, 3) := by decide +kernel
theorem dX4_saidTo_12 : decode cX4_saidTo 12 = .ok (.ireturn, 1) := by decide +kernel
set_option maxHeartbeats 4000000 in
set_option maxRecDepth 100000 in
theorem c_X4_saidTo (g : sk_G) (l : Launch) (o0 : Nat) (q0 : sk_isT o0) (a1 : Int32) (M : sk_M) {rr : Int32} (h : f_X4_saidTo o0 a1 M = some rr) : sk_MI g l yX4_saidTo cX4_saidTo 2 (some .int) 4 [.ref (sk_ad g o0), .int a1] M rr M := by
  refine sk_go [(0, .ref (sk_ad g o0)), (1, .int a1)] (by decide) (Nat.le_of_ble_eq_true rfl) rfl ?_
  intro p e s m av below meth c C ls hl hM hS
  obtain ⟨hx, hb, hml, hown, hts, hK, hE, hr, hlocks⟩ := id C
  rw [f_X4_saidTo] at h
  refine lv_aload_n hx hb dX4_saidTo_0 rfl (lv_at hl 0 rfl) ?_
  refine sk_getR (o := o0) (ci := 4) (j := 0) (t := (sk_tw o0)) C hM (sk_isT_kd q0) rfl (by decide) rfl (sk_isT_r0 q0) kw_237 dX4_saidTo_1 ?_
  refine lv_aload_n hx hb dX4_saidTo_4 rfl (lv_at hl 0 rfl) ?_
  refine sk_getR (o := o0) (ci := 4) (j := 1) (t := (o0 + 1)) C hM (sk_isT_kd q0) rfl (by decide) rfl (sk_isT_r1 q0) kw_238 dX4_saidTo_5 ?_
  refine lv_iload_n hx hb dX4_saidTo_8 rfl (lv_at hl 1 rfl) ?_
  obtain ⟨x_1, h_2, h⟩ := sk_b1E h
  refine sk_contI (sk_runV (As := [.ref (sk_ad g (o0 + 1)), .int a1]) (rest := []) C (c_X5_said g l (sk_tw o0) (sk_isT_w q0) (o0 + 1) (sk_isT_k1 q0) a1 M h_2) yo_X5_said kw_538 (sk_recv (ci := 5) C hM (sk_isW_kd (sk_isT_w q0)) rfl) (by decide) hM hS hl.1 rfl rfl (Nat.le_of_ble_eq_true rfl) dX4_saidTo_9) hS (fun H locs hM hS => ?_)
  exact sk_iret C hM hS ⟨Option.some.inj h, rfl⟩ dX4_saidTo_12
theorem dX5_sumOf_0 : decode cX5_sumOf 0 = .ok (.iconst 0, 1) := by decide +kernel
theorem dX5_sumOf_1 : decode cX5_sumOf 1 = .ok (.istore_n 2, 1) := by decide +kernel
theorem dX5_sumOf_2 : decode cX5_sumOf 2 = .ok (.iconst 0, 1) := by decide +kernel
theorem dX5_sumOf_3 : decode cX5_sumOf 3 = .ok (.istore_n 3, 1) := by decide +kernel
theorem dX5_sumOf_4 : decode cX5_sumOf 4 = .ok (.iload_n 3, 1) := by decide +kernel
theorem dX5_sumOf_5 : decode cX5_sumOf 5 = .ok (.aload_n 0, 1) := by decide +kernel
theorem dX5_sumOf_6 : decode cX5_sumOf 6 = .ok (.getfield 62, 3) := by decide +kernel
theorem dX5_sumOf_9 : decode cX5_sumOf 9 = .ok (.if_icmp .ge 15, 3) := by decide +kernel
theorem dX5_sumOf_12 : decode cX5_sumOf 12 = .ok (.iload_n 2, 1) := by decide +kernel
theorem dX5_sumOf_13 : decode cX5_sumOf 13 = .ok (.aload_n 1, 1) := by decide +kernel
theorem dX5_sumOf_14 : decode cX5_sumOf 14 = .ok (.iload_n 3, 1) := by decide +kernel
theorem dX5_sumOf_15 : decode cX5_sumOf 15 = .ok (.iaload, 1) := by decide +kernel
theorem dX5_sumOf_16 : decode cX5_sumOf 16 = .ok (.iadd, 1) := by decide +kernel
theorem dX5_sumOf_17 : decode cX5_sumOf 17 = .ok (.istore_n 2, 1) := by decide +kernel
theorem dX5_sumOf_18 : decode cX5_sumOf 18 = .ok (.iinc 3 1, 3) := by decide +kernel
theorem dX5_sumOf_21 : decode cX5_sumOf 21 = .ok (.goto (-17), 3) := by decide +kernel
theorem dX5_sumOf_24 : decode cX5_sumOf 24 = .ok (.iload_n 2, 1) := by decide +kernel
theorem dX5_sumOf_25 : decode cX5_sumOf 25 = .ok (.ireturn, 1) := by decide +kernel
set_option maxHeartbeats 4000000 in
set_option maxRecDepth 100000 in
theorem w_X5_sumOf_L4 {g : sk_G} {l : Launch} {p : Program} {e : Env} {s : State} {m : MethodId} {av : Array Value} {below : List Frame} {meth : Method} {c : Code} (C : sk_C g p s m av meth c cX5_sumOf 4 RX5 (some .int)) (o0 : Nat) (q0 : sk_isW o0) (o1 : Nat) (q1 : sk_kd o1 = (0, 9)) (M : sk_M) {rr : Int32} :
    ∀ (n : Nat) (a2 : Int32) (a3 : Int32) (H : Heap) (locs : List Loc) (ls : Array Slot), lv_has ls 4 [(0, .ref (sk_ad g o0)), (1, .ref (sk_ad g o1)), (2, .int a2), (3, .int a3)] → sk_P g M H → va_S (sk_A g) s.heap H locs → ∀ {out : Int32}, f_X5_sumOf_L4 o0 o1 M n a2 a3 = some out → (∀ (x2 : Int32) (H : Heap) (locs : List Loc) (ls : Array Slot), some x2 = some out → lv_has ls 4 [(2, .int x2)] → sk_P g M H → va_S (sk_A g) s.heap H locs → W p l e (sk_rm 1) s m av below meth c H locs 0 0 (MQ below (sk_QI g rr M) av s 0 0 (sk_A g)) (F0 m 24 ls [])) → W p l e (sk_rm 1) s m av below meth c H locs 0 0 (MQ below (sk_QI g rr M) av s 0 0 (sk_A g)) (F0 m 4 ls []) := by
  obtain ⟨hx, hb, hml, hown, hts, hK, hE, hr, hlocks⟩ := id C
  intro n
  induction n with
  | zero =>
    intro a2 a3 H locs ls hl hM hS out h
    cases h
  | succ n ih =>
    intro a2 a3 H locs ls hl hM hS out h kx
    rw [f_X5_sumOf_L4] at h
    refine lv_iload_n hx hb dX5_sumOf_4 rfl (lv_at hl 3 rfl) ?_
    refine lv_aload_n hx hb dX5_sumOf_5 rfl (lv_at hl 0 rfl) ?_
    refine sk_getI (o := o0) (ci := 5) (j := 10) C hM (sk_isW_kd q0) rfl (by decide) rfl kw_185 dX5_sumOf_6 ?_
    refine lv_icmp_ge hx hb dX5_sumOf_9 rfl (fun hc => ?_) (fun hc => ?_)
    · have h := sk_pos h hc
      exact kx _ _ _ _ h (lv_sub hl [2] rfl) hM hS
    · have h := sk_neg h hc
      refine lv_iload_n hx hb dX5_sumOf_12 rfl (lv_at hl 2 rfl) ?_
      refine lv_aload_n hx hb dX5_sumOf_13 rfl (lv_at hl 1 rfl) ?_
      refine lv_iload_n hx hb dX5_sumOf_14 rfl (lv_at hl 3 rfl) ?_
      obtain ⟨i_1, h⟩ := sk_chkE h
      refine sk_iald (o := o1) C hM q1 i_1 dX5_sumOf_15 ?_
      refine lv_iadd hx hb dX5_sumOf_16 ?_
      refine lv_topi (fun x_2 ex_2 => ?_)
      have h := sk_letU h ex_2
      refine lv_istore_n (lv' := [(2, .int x_2), (0, .ref (sk_ad g o0)), (1, .ref (sk_ad g o1)), (3, .int a3)]) hx hb dX5_sumOf_17 rfl hl (by decide) rfl (fun ls hl => ?_)
      refine lv_iinc (v := (a3 + 1)) (lv' := [(3, .int (a3 + 1)), (2, .int x_2), (0, .ref (sk_ad g o0)), (1, .ref (sk_ad g o1))]) hx hb dX5_sumOf_18 hl (k := 3) rfl rfl (by decide) rfl (fun ls hl => ?_)
      refine lv_goto hx hb dX5_sumOf_21 rfl ?_
      exact ih x_2 (a3 + 1) _ _ _ (lv_sub hl [2, 3, 1, 0] rfl) hM hS h kx
set_option maxHeartbeats 4000000 in
set_option maxRecDepth 100000 in
theorem c_X5_sumOf (g : sk_G) (l : Launch) (o0 : Nat) (q0 : sk_isW o0) (o1 : Nat) (q1 : sk_kd o1 = (0, 9)) (M : sk_M) {rr : Int32} (h : f_X5_sumOf o0 o1 M = some rr) : sk_MI g l yX5_sumOf cX5_sumOf 4 (some .int) 1 [.ref (sk_ad g o0), .ref (sk_ad g o1)] M rr M := by
  refine sk_go [(0, .ref (sk_ad g o0)), (1, .ref (sk_ad g o1))] (by decide) (Nat.le_of_ble_eq_true rfl) rfl ?_
  intro p e s m av below meth c C ls hl hM hS
  obtain ⟨hx, hb, hml, hown, hts, hK, hE, hr, hlocks⟩ := id C
  rw [f_X5_sumOf] at h
  refine lv_iconst (v := 0) hx hb dX5_sumOf_0 (by decide) ?_
  refine lv_istore_n (lv' := [(2, .int 0), (0, .ref (sk_ad g o0)), (1, .ref (sk_ad g o1))]) hx hb dX5_sumOf_1 rfl hl (by decide) rfl (fun ls hl => ?_)
  refine lv_iconst (v := 0) hx hb dX5_sumOf_2 (by decide) ?_
  refine lv_istore_n (lv' := [(3, .int 0), (2, .int 0), (0, .ref (sk_ad g o0)), (1, .ref (sk_ad g o1))]) hx hb dX5_sumOf_3 rfl hl (by decide) rfl (fun ls hl => ?_)
  obtain ⟨x_3, h_4, h⟩ := sk_b1E h
  refine w_X5_sumOf_L4 C o0 q0 o1 q1 M sk_FU 0 0 _ _ _ (lv_sub hl [2, 3, 1, 0] rfl) hM hS h_4 (fun y_5 H locs ls he hl hM hS => ?_)
  obtain rfl := Option.some.inj he
  refine lv_iload_n hx hb dX5_sumOf_24 rfl (lv_at hl 0 rfl) ?_
  exact sk_iret C hM hS ⟨Option.some.inj h, rfl⟩ dX5_sumOf_25
theorem dX4_sum_0 : decode cX4_sum 0 = .ok (.aload_n 0, 1) := by decide +kernel
theorem dX4_sum_1 : decode cX4_sum 1 = .ok (.getfield 15, 3) := by decide +kernel
theorem dX4_sum_4 : decode cX4_sum 4 = .ok (.aload_n 0, 1) := by decide +kernel
theorem dX4_sum_5 : decode cX4_sum 5 = .ok (.getfield 9, 3) := by decide +kernel
theorem dX4_sum_8 : decode cX4_sum 8 = .ok (.invokevirtual 58, 3) := by decide +kernel
theorem dX4_sum_11 : decode cX4_sum 11 = .ok (.ireturn, 1) := by decide +kernel
set_option maxHeartbeats 4000000 in
set_option maxRecDepth 100000 in
theorem c_X4_sum (g : sk_G) (l : Launch) (o0 : Nat) (q0 : sk_isT o0) (M : sk_M) {rr : Int32} (h : f_X4_sum o0 M = some rr) : sk_MI g l yX4_sum cX4_sum 1 (some .int) 2 [.ref (sk_ad g o0)] M rr M := by
  refine sk_go [(0, .ref (sk_ad g o0))] (by decide) (Nat.le_of_ble_eq_true rfl) rfl ?_
  intro p e s m av below meth c C ls hl hM hS
  obtain ⟨hx, hb, hml, hown, hts, hK, hE, hr, hlocks⟩ := id C
  rw [f_X4_sum] at h
  refine lv_aload_n hx hb dX4_sum_0 rfl (lv_at hl 0 rfl) ?_
  refine sk_getR (o := o0) (ci := 4) (j := 0) (t := (sk_tw o0)) C hM (sk_isT_kd q0) rfl (by decide) rfl (sk_isT_r0 q0) kw_237 dX4_sum_1 ?_
  refine lv_aload_n hx hb dX4_sum_4 rfl (lv_at hl 0 rfl) ?_
  refine sk_getR (o := o0) (ci := 4) (j := 1) (t := (o0 + 1)) C hM (sk_isT_kd q0) rfl (by decide) rfl (sk_isT_r1 q0) kw_238 dX4_sum_5 ?_
  obtain ⟨x_1, h_2, h⟩ := sk_b1E h
  refine sk_contI (sk_runV (As := [.ref (sk_ad g (o0 + 1))]) (rest := []) C (c_X5_sumOf g l (sk_tw o0) (sk_isT_w q0) (o0 + 1) (sk_isT_k1 q0) M h_2) yo_X5_sumOf kw_906 (sk_recv (ci := 5) C hM (sk_isW_kd (sk_isT_w q0)) rfl) (by decide) hM hS hl.1 rfl rfl (Nat.le_of_ble_eq_true rfl) dX4_sum_8) hS (fun H locs hM hS => ?_)
  exact sk_iret C hM hS ⟨Option.some.inj h, rfl⟩ dX4_sum_11
theorem dX5_becomeLike_0 : decode cX5_becomeLike 0 = .ok (.aload_n 1, 1) := by decide +kernel
theorem dX5_becomeLike_1 : decode cX5_becomeLike 1 = .ok (.getfield 9, 3) := by decide +kernel
theorem dX5_becomeLike_4 : decode cX5_becomeLike 4 = .ok (.iconst 0, 1) := by decide +kernel
theorem dX5_becomeLike_5 : decode cX5_becomeLike 5 = .ok (.aload_n 0, 1) := by decide +kernel
theorem dX5_becomeLike_6 : decode cX5_becomeLike 6 = .ok (.getfield 9, 3) := by decide +kernel
theorem dX5_becomeLike_9 : decode cX5_becomeLike 9 = .ok (.iconst 0, 1) := by decide +kernel
theorem dX5_becomeLike_10 : decode cX5_becomeLike 10 = .ok (.bipush 9, 2) := by decide +kernel
theorem dX5_becomeLike_12 : decode cX5_becomeLike 12 = .ok (.invokestatic 56, 3) := by decide +kernel
theorem dX5_becomeLike_15 : decode cX5_becomeLike 15 = .ok (.aload_n 1, 1) := by decide +kernel
theorem dX5_becomeLike_16 : decode cX5_becomeLike 16 = .ok (.getfield 15, 3) := by decide +kernel
theorem dX5_becomeLike_19 : decode cX5_becomeLike 19 = .ok (.iconst 0, 1) := by decide +kernel
theorem dX5_becomeLike_20 : decode cX5_becomeLike 20 = .ok (.aload_n 0, 1) := by decide +kernel
theorem dX5_becomeLike_21 : decode cX5_becomeLike 21 = .ok (.getfield 15, 3) := by decide +kernel
theorem dX5_becomeLike_24 : decode cX5_becomeLike 24 = .ok (.iconst 0, 1) := by decide +kernel
theorem dX5_becomeLike_25 : decode cX5_becomeLike 25 = .ok (.bipush 9, 2) := by decide +kernel
theorem dX5_becomeLike_27 : decode cX5_becomeLike 27 = .ok (.invokestatic 56, 3) := by decide +kernel
theorem dX5_becomeLike_30 : decode cX5_becomeLike 30 = .ok (.aload_n 1, 1) := by decide +kernel
theorem dX5_becomeLike_31 : decode cX5_becomeLike 31 = .ok (.getfield 18, 3) := by decide +kernel
theorem dX5_becomeLike_34 : decode cX5_becomeLike 34 = .ok (.iconst 0, 1) := by decide +kernel
theorem dX5_becomeLike_35 : decode cX5_becomeLike 35 = .ok (.aload_n 0, 1) := by decide +kernel
theorem dX5_becomeLike_36 : decode cX5_becomeLike 36 = .ok (.getfield 18, 3) := by decide +kernel
theorem dX5_becomeLike_39 : decode cX5_becomeLike 39 = .ok (.iconst 0, 1) := by decide +kernel
theorem dX5_becomeLike_40 : decode cX5_becomeLike 40 = .ok (.bipush 9, 2) := by decide +kernel
theorem dX5_becomeLike_42 : decode cX5_becomeLike 42 = .ok (.invokestatic 56, 3) := by decide +kernel
theorem dX5_becomeLike_45 : decode cX5_becomeLike 45 = .ok (.aload_n 1, 1) := by decide +kernel
theorem dX5_becomeLike_46 : decode cX5_becomeLike 46 = .ok (.getfield 21, 3) := by decide +kernel
theorem dX5_becomeLike_49 : decode cX5_becomeLike 49 = .ok (.iconst 0, 1) := by decide +kernel
theorem dX5_becomeLike_50 : decode cX5_becomeLike 50 = .ok (.aload_n 0, 1) := by decide +kernel
theorem dX5_becomeLike_51 : decode cX5_becomeLike 51 = .ok (.getfield 21, 3) := by decide +kernel
theorem dX5_becomeLike_54 : decode cX5_becomeLike 54 = .ok (.iconst 0, 1) := by decide +kernel
theorem dX5_becomeLike_55 : decode cX5_becomeLike 55 = .ok (.iconst 4, 1) := by decide +kernel
theorem dX5_becomeLike_56 : decode cX5_becomeLike 56 = .ok (.invokestatic 56, 3) := by decide +kernel
theorem dX5_becomeLike_59 : decode cX5_becomeLike 59 = .ok (.aload_n 1, 1) := by decide +kernel
theorem dX5_becomeLike_60 : decode cX5_becomeLike 60 = .ok (.getfield 24, 3) := by decide +kernel
theorem dX5_becomeLike_63 : decode cX5_becomeLike 63 = .ok (.iconst 0, 1) := by decide +kernel
theorem dX5_becomeLike_64 : decode cX5_becomeLike 64 = .ok (.aload_n 0, 1) := by decide +kernel
theorem dX5_becomeLike_65 : decode cX5_becomeLike 65 = .ok (.getfield 24, 3) := by decide +kernel
theorem dX5_becomeLike_68 : decode cX5_becomeLike 68 = .ok (.iconst 0, 1) := by decide +kernel
theorem dX5_becomeLike_69 : decode cX5_becomeLike 69 = .ok (.bipush 12, 2) := by decide +kernel
theorem dX5_becomeLike_71 : decode cX5_becomeLike 71 = .ok (.invokestatic 56, 3) := by decide +kernel
theorem dX5_becomeLike_74 : decode cX5_becomeLike 74 = .ok (.aload_n 1, 1) := by decide +kernel
theorem dX5_becomeLike_75 : decode cX5_becomeLike 75 = .ok (.getfield 27, 3) := by decide +kernel
theorem dX5_becomeLike_78 : decode cX5_becomeLike 78 = .ok (.iconst 0, 1) := by decide +kernel
theorem dX5_becomeLike_79 : decode cX5_becomeLike 79 = .ok (.aload_n 0, 1) := by decide +kernel
theorem dX5_becomeLike_80 : decode cX5_becomeLike 80 = .ok (.getfield 27, 3) := by decide +kernel
theorem dX5_becomeLike_83 : decode cX5_becomeLike 83 = .ok (.iconst 0, 1) := by decide +kernel
theorem dX5_becomeLike_84 : decode cX5_becomeLike 84 = .ok (.bipush 6, 2) := by decide +kernel
theorem dX5_becomeLike_86 : decode cX5_becomeLike 86 = .ok (.invokestatic 56, 3) := by decide +kernel
theorem dX5_becomeLike_89 : decode cX5_becomeLike 89 = .ok (.aload_n 1, 1) := by decide +kernel
theorem dX5_becomeLike_90 : decode cX5_becomeLike 90 = .ok (.getfield 35, 3) := by decide +kernel
theorem dX5_becomeLike_93 : decode cX5_becomeLike 93 = .ok (.iconst 0, 1) := by decide +kernel
theorem dX5_becomeLike_94 : decode cX5_becomeLike 94 = .ok (.aload_n 0, 1) := by decide +kernel
theorem dX5_becomeLike_95 : decode cX5_becomeLike 95 = .ok (.getfield 35, 3) := by decide +kernel
theorem dX5_becomeLike_98 : decode cX5_becomeLike 98 = .ok (.iconst 0, 1) := by decide +kernel
theorem dX5_becomeLike_99 : decode cX5_becomeLike 99 = .ok (.iconst 3, 1) := by decide +kernel
theorem dX5_becomeLike_100 : decode cX5_becomeLike 100 = .ok (.invokestatic 56, 3) := by decide +kernel
theorem dX5_becomeLike_103 : decode cX5_becomeLike 103 = .ok (.iconst 0, 1) := by decide +kernel
theorem dX5_becomeLike_104 : decode cX5_becomeLike 104 = .ok (.istore_n 2, 1) := by decide +kernel
theorem dX5_becomeLike_105 : decode cX5_becomeLike 105 = .ok (.iload_n 2, 1) := by decide +kernel
theorem dX5_becomeLike_106 : decode cX5_becomeLike 106 = .ok (.bipush 6, 2) := by decide +kernel
theorem dX5_becomeLike_108 : decode cX5_becomeLike 108 = .ok (.if_icmp .ge 28, 3) := by decide +kernel
theorem dX5_becomeLike_111 : decode cX5_becomeLike 111 = .ok (.aload_n 1, 1) := by decide +kernel
theorem dX5_becomeLike_112 : decode cX5_becomeLike 112 = .ok (.getfield 32, 3) := by decide +kernel
theorem dX5_becomeLike_115 : decode cX5_becomeLike 115 = .ok (.iload_n 2, 1) := by decide +kernel
theorem dX5_becomeLike_116 : decode cX5_becomeLike 116 = .ok (.aaload, 1) := by decide +kernel
theorem dX5_becomeLike_117 : decode cX5_becomeLike 117 = .ok (.iconst 0, 1) := by decide +kernel
theorem dX5_becomeLike_118 : decode cX5_becomeLike 118 = .ok (.aload_n 0, 1) := by decide +kernel
theorem dX5_becomeLike_119 : decode cX5_becomeLike 119 = .ok (.getfield 32, 3) := by decide +kernel
theorem dX5_becomeLike_122 : decode cX5_becomeLike 122 = .ok (.iload_n 2, 1) := by decide +kernel
theorem dX5_becomeLike_123 : decode cX5_becomeLike 123 = .ok (.aaload, 1) := by decide +kernel
theorem dX5_becomeLike_124 : decode cX5_becomeLike 124 = .ok (.iconst 0, 1) := by decide +kernel
theorem dX5_becomeLike_125 : decode cX5_becomeLike 125 = .ok (.bipush 9, 2) := by decide +kernel
theorem dX5_becomeLike_127 : decode cX5_becomeLike 127 = .ok (.invokestatic 56, 3) := by decide +kernel
theorem dX5_becomeLike_130 : decode cX5_becomeLike 130 = .ok (.iinc 2 1, 3) := by decide +kernel
theorem dX5_becomeLike_133 : decode cX5_becomeLike 133 = .ok (.goto (-28), 3) := by decide +kernel
theorem dX5_becomeLike_136 : decode cX5_becomeLike 136 = .ok (.aload_n 0, 1) := by decide +kernel
theorem dX5_becomeLike_137 : decode cX5_becomeLike 137 = .ok (.aload_n 1, 1) := by decide +kernel
theorem dX5_becomeLike_138 : decode cX5_becomeLike 138 = .ok (.getfield 62, 3) := by decide +kernel
theorem dX5_becomeLike_141 : decode cX5_becomeLike 141 = .ok (.putfield 62, 3) := by decide +kernel
theorem dX5_becomeLike_144 : decode cX5_becomeLike 144 = .ok (.aload_n 0, 1) := by decide +kernel
theorem dX5_becomeLike_145 : decode cX5_becomeLike 145 = .ok (.aload_n 1, 1) := by decide +kernel
theorem dX5_becomeLike_146 : decode cX5_becomeLike 146 = .ok (.getfield 65, 3) := by decide +kernel
theorem dX5_becomeLike_149 : decode cX5_becomeLike 149 = .ok (.putfield 65, 3) := by decide +kernel
theorem dX5_becomeLike_152 : decode cX5_becomeLike 152 = .ok (.aload_n 0, 1) := by decide +kernel
theorem dX5_becomeLike_153 : decode cX5_becomeLike 153 = .ok (.aload_n 1, 1) := by decide +kernel
theorem dX5_becomeLike_154 : decode cX5_becomeLike 154 = .ok (.getfield 68, 3) := by decide +kernel
theorem dX5_becomeLike_157 : decode cX5_becomeLike 157 = .ok (.putfield 68, 3) := by decide +kernel
theorem dX5_becomeLike_160 : decode cX5_becomeLike 160 = .ok (.aload_n 0, 1) := by decide +kernel
theorem dX5_becomeLike_161 : decode cX5_becomeLike 161 = .ok (.aload_n 1, 1) := by decide +kernel
theorem dX5_becomeLike_162 : decode cX5_becomeLike 162 = .ok (.getfield 71, 3) := by decide +kernel
theorem dX5_becomeLike_165 : decode cX5_becomeLike 165 = .ok (.putfield 71, 3) := by decide +kernel
theorem dX5_becomeLike_168 : decode cX5_becomeLike 168 = .ok (.aload_n 0, 1) := by decide +kernel
theorem dX5_becomeLike_169 : decode cX5_becomeLike 169 = .ok (.aload_n 1, 1) := by decide +kernel
theorem dX5_becomeLike_170 : decode cX5_becomeLike 170 = .ok (.getfield 74, 3) := by decide +kernel
theorem dX5_becomeLike_173 : decode cX5_becomeLike 173 = .ok (.putfield 74, 3) := by decide +kernel
theorem dX5_becomeLike_176 : decode cX5_becomeLike 176 = .ok (.aload_n 0, 1) := by decide +kernel
theorem dX5_becomeLike_177 : decode cX5_becomeLike 177 = .ok (.aload_n 1, 1) := by decide +kernel
theorem dX5_becomeLike_178 : decode cX5_becomeLike 178 = .ok (.getfield 52, 3) := by decide +kernel
theorem dX5_becomeLike_181 : decode cX5_becomeLike 181 = .ok (.putfield 52, 3) := by decide +kernel
theorem dX5_becomeLike_184 : decode cX5_becomeLike 184 = .ok (.return_, 1) := by decide +kernel
set_option maxHeartbeats 4000000 in
set_option maxRecDepth 100000 in
theorem w_X5_becomeLike_L105 {g : sk_G} {l : Launch} {p : Program} {e : Env} {s : State} {m : MethodId} {av : Array Value} {below : List Frame} {meth : Method} {c : Code} (C : sk_C g p s m av meth c cX5_becomeLike 3 RX5 none) (o0 : Nat) (q0 : sk_isW o0) (o1 : Nat) (q1 : sk_isW o1) {MM : sk_M} :
    ∀ (n : Nat) (a2 : Int32) (M : sk_M) (H : Heap) (locs : List Loc) (ls : Array Slot), lv_has ls 3 [(0, .ref (sk_ad g o0)), (1, .ref (sk_ad g o1)), (2, .int a2)] → sk_P g M H → va_S (sk_A g) s.heap H locs → ∀ {out : sk_M}, f_X5_becomeLike_L105 o0 o1 n a2 M = some out → (∀ (M1 : sk_M) (H : Heap) (locs : List Loc) (ls : Array Slot), some M1 = some out → lv_has ls 3 [(0, .ref (sk_ad g o0)), (1, .ref (sk_ad g o1))] → sk_P g M1 H → va_S (sk_A g) s.heap H locs → W p l e (sk_rm 1) s m av below meth c H locs 0 0 (MQ below (sk_QV g MM) av s 0 0 (sk_A g)) (F0 m 136 ls [])) → W p l e (sk_rm 1) s m av below meth c H locs 0 0 (MQ below (sk_QV g MM) av s 0 0 (sk_A g)) (F0 m 105 ls []) := by
  obtain ⟨hx, hb, hml, hown, hts, hK, hE, hr, hlocks⟩ := id C
  intro n
  induction n with
  | zero =>
    intro a2 M H locs ls hl hM hS out h
    cases h
  | succ n ih =>
    intro a2 M H locs ls hl hM hS out h kx
    rw [f_X5_becomeLike_L105] at h
    refine lv_iload_n hx hb dX5_becomeLike_105 rfl (lv_at hl 2 rfl) ?_
    refine lv_bipush (v := 6) hx hb dX5_becomeLike_106 (by decide) ?_
    refine lv_icmp_ge hx hb dX5_becomeLike_108 rfl (fun hc => ?_) (fun hc => ?_)
    · have h := sk_pos h hc
      exact kx _ _ _ _ h (lv_sub hl [0, 1] rfl) hM hS
    · have h := sk_neg h hc
      refine lv_aload_n hx hb dX5_becomeLike_111 rfl (lv_at hl 1 rfl) ?_
      refine sk_getR (o := o1) (ci := 5) (j := 7) (t := (o1 + 7)) C hM (sk_isW_kd q1) rfl (by decide) rfl (sk_isW_r q1 7 (by decide) (by decide)) kw_179 dX5_becomeLike_112 ?_
      refine lv_iload_n hx hb dX5_becomeLike_115 rfl (lv_at hl 2 rfl) ?_
      obtain ⟨i_8, h⟩ := sk_chkE h
      refine sk_aald (o := (o1 + 7)) (k := 0) (t := (o1 + 10 + a2.toNatClampNeg)) C hM (sk_isW_k7 q1) (by decide) i_8 (sk_isW_s q1 _) dX5_becomeLike_116 ?_
      refine lv_iconst (v := 0) hx hb dX5_becomeLike_117 (by decide) ?_
      refine lv_aload_n hx hb dX5_becomeLike_118 rfl (lv_at hl 0 rfl) ?_
      refine sk_getR (o := o0) (ci := 5) (j := 7) (t := (o0 + 7)) C hM (sk_isW_kd q0) rfl (by decide) rfl (sk_isW_r q0 7 (by decide) (by decide)) kw_179 dX5_becomeLike_119 ?_
      refine lv_iload_n hx hb dX5_becomeLike_122 rfl (lv_at hl 2 rfl) ?_
      obtain ⟨i_9, h⟩ := sk_chkE h
      refine sk_aald (o := (o0 + 7)) (k := 0) (t := (o0 + 10 + a2.toNatClampNeg)) C hM (sk_isW_k7 q0) (by decide) i_9 (sk_isW_s q0 _) dX5_becomeLike_123 ?_
      refine lv_iconst (v := 0) hx hb dX5_becomeLike_124 (by decide) ?_
      refine lv_bipush (v := 9) hx hb dX5_becomeLike_125 (by decide) ?_
      refine sk_copy (d := 1) (o0 := (o1 + 10 + a2.toNatClampNeg)) (o1 := (o0 + 10 + a2.toNatClampNeg)) C hl.1 sk_wcopy kw_915 (by decide) (Nat.le_of_ble_eq_true rfl) hM hS (sk_isW_sk q1 (sk_in_lt i_8)) (sk_isW_sk q0 (sk_in_lt i_9)) (by decide) (by decide) dX5_becomeLike_127 (fun M_10 eM_10 H locs hM hS => ?_)
      have h := sk_letU h eM_10
      refine lv_iinc (v := (a2 + 1)) (lv' := [(2, .int (a2 + 1)), (0, .ref (sk_ad g o0)), (1, .ref (sk_ad g o1))]) hx hb dX5_becomeLike_130 hl (k := 2) rfl rfl (by decide) rfl (fun ls hl => ?_)
      refine lv_goto hx hb dX5_becomeLike_133 rfl ?_
      exact ih (a2 + 1) M_10 _ _ _ (lv_sub hl [1, 2, 0] rfl) hM hS h kx
set_option maxHeartbeats 4000000 in
set_option maxRecDepth 100000 in
theorem c_X5_becomeLike (g : sk_G) (l : Launch) (o0 : Nat) (q0 : sk_isW o0) (o1 : Nat) (q1 : sk_isW o1) (M : sk_M) {MM : sk_M} (h : f_X5_becomeLike o0 o1 M = some MM) : sk_MV g l yX5_becomeLike cX5_becomeLike 3 none 1 [.ref (sk_ad g o0), .ref (sk_ad g o1)] M MM := by
  refine sk_go [(0, .ref (sk_ad g o0)), (1, .ref (sk_ad g o1))] (by decide) (Nat.le_of_ble_eq_true rfl) rfl ?_
  intro p e s m av below meth c C ls hl hM hS
  obtain ⟨hx, hb, hml, hown, hts, hK, hE, hr, hlocks⟩ := id C
  rw [f_X5_becomeLike] at h
  refine lv_aload_n hx hb dX5_becomeLike_0 rfl (lv_at hl 1 rfl) ?_
  refine sk_getR (o := o1) (ci := 5) (j := 1) (t := (o1 + 1)) C hM (sk_isW_kd q1) rfl (by decide) rfl (sk_isW_r q1 1 (by decide) (by decide)) kw_166 dX5_becomeLike_1 ?_
  refine lv_iconst (v := 0) hx hb dX5_becomeLike_4 (by decide) ?_
  refine lv_aload_n hx hb dX5_becomeLike_5 rfl (lv_at hl 0 rfl) ?_
  refine sk_getR (o := o0) (ci := 5) (j := 1) (t := (o0 + 1)) C hM (sk_isW_kd q0) rfl (by decide) rfl (sk_isW_r q0 1 (by decide) (by decide)) kw_166 dX5_becomeLike_6 ?_
  refine lv_iconst (v := 0) hx hb dX5_becomeLike_9 (by decide) ?_
  refine lv_bipush (v := 9) hx hb dX5_becomeLike_10 (by decide) ?_
  refine sk_copy (d := 1) (o0 := (o1 + 1)) (o1 := (o0 + 1)) C hl.1 sk_wcopy kw_915 (by decide) (Nat.le_of_ble_eq_true rfl) hM hS (sk_isW_k1 q1) (sk_isW_k1 q0) (by decide) (by decide) dX5_becomeLike_12 (fun M_1 eM_1 H locs hM hS => ?_)
  have h := sk_letU h eM_1
  refine lv_aload_n hx hb dX5_becomeLike_15 rfl (lv_at hl 1 rfl) ?_
  refine sk_getR (o := o1) (ci := 5) (j := 2) (t := (o1 + 2)) C hM (sk_isW_kd q1) rfl (by decide) rfl (sk_isW_r q1 2 (by decide) (by decide)) kw_168 dX5_becomeLike_16 ?_
  refine lv_iconst (v := 0) hx hb dX5_becomeLike_19 (by decide) ?_
  refine lv_aload_n hx hb dX5_becomeLike_20 rfl (lv_at hl 0 rfl) ?_
  refine sk_getR (o := o0) (ci := 5) (j := 2) (t := (o0 + 2)) C hM (sk_isW_kd q0) rfl (by decide) rfl (sk_isW_r q0 2 (by decide) (by decide)) kw_168 dX5_becomeLike_21 ?_
  refine lv_iconst (v := 0) hx hb dX5_becomeLike_24 (by decide) ?_
  refine lv_bipush (v := 9) hx hb dX5_becomeLike_25 (by decide) ?_
  refine sk_copy (d := 1) (o0 := (o1 + 2)) (o1 := (o0 + 2)) C hl.1 sk_wcopy kw_915 (by decide) (Nat.le_of_ble_eq_true rfl) hM hS (sk_isW_k2 q1) (sk_isW_k2 q0) (by decide) (by decide) dX5_becomeLike_27 (fun M_2 eM_2 H locs hM hS => ?_)
  have h := sk_letU h eM_2
  refine lv_aload_n hx hb dX5_becomeLike_30 rfl (lv_at hl 1 rfl) ?_
  refine sk_getR (o := o1) (ci := 5) (j := 3) (t := (o1 + 3)) C hM (sk_isW_kd q1) rfl (by decide) rfl (sk_isW_r q1 3 (by decide) (by decide)) kw_170 dX5_becomeLike_31 ?_
  refine lv_iconst (v := 0) hx hb dX5_becomeLike_34 (by decide) ?_
  refine lv_aload_n hx hb dX5_becomeLike_35 rfl (lv_at hl 0 rfl) ?_
  refine sk_getR (o := o0) (ci := 5) (j := 3) (t := (o0 + 3)) C hM (sk_isW_kd q0) rfl (by decide) rfl (sk_isW_r q0 3 (by decide) (by decide)) kw_170 dX5_becomeLike_36 ?_
  refine lv_iconst (v := 0) hx hb dX5_becomeLike_39 (by decide) ?_
  refine lv_bipush (v := 9) hx hb dX5_becomeLike_40 (by decide) ?_
  refine sk_copy (d := 1) (o0 := (o1 + 3)) (o1 := (o0 + 3)) C hl.1 sk_wcopy kw_915 (by decide) (Nat.le_of_ble_eq_true rfl) hM hS (sk_isW_k3 q1) (sk_isW_k3 q0) (by decide) (by decide) dX5_becomeLike_42 (fun M_3 eM_3 H locs hM hS => ?_)
  have h := sk_letU h eM_3
  refine lv_aload_n hx hb dX5_becomeLike_45 rfl (lv_at hl 1 rfl) ?_
  refine sk_getR (o := o1) (ci := 5) (j := 4) (t := (o1 + 4)) C hM (sk_isW_kd q1) rfl (by decide) rfl (sk_isW_r q1 4 (by decide) (by decide)) kw_172 dX5_becomeLike_46 ?_
  refine lv_iconst (v := 0) hx hb dX5_becomeLike_49 (by decide) ?_
  refine lv_aload_n hx hb dX5_becomeLike_50 rfl (lv_at hl 0 rfl) ?_
  refine sk_getR (o := o0) (ci := 5) (j := 4) (t := (o0 + 4)) C hM (sk_isW_kd q0) rfl (by decide) rfl (sk_isW_r q0 4 (by decide) (by decide)) kw_172 dX5_becomeLike_51 ?_
  refine lv_iconst (v := 0) hx hb dX5_becomeLike_54 (by decide) ?_
  refine lv_iconst (v := 4) hx hb dX5_becomeLike_55 (by decide) ?_
  refine sk_copy (d := 1) (o0 := (o1 + 4)) (o1 := (o0 + 4)) C hl.1 sk_wcopy kw_915 (by decide) (Nat.le_of_ble_eq_true rfl) hM hS (sk_isW_k4 q1) (sk_isW_k4 q0) (by decide) (by decide) dX5_becomeLike_56 (fun M_4 eM_4 H locs hM hS => ?_)
  have h := sk_letU h eM_4
  refine lv_aload_n hx hb dX5_becomeLike_59 rfl (lv_at hl 1 rfl) ?_
  refine sk_getR (o := o1) (ci := 5) (j := 5) (t := (o1 + 5)) C hM (sk_isW_kd q1) rfl (by decide) rfl (sk_isW_r q1 5 (by decide) (by decide)) kw_174 dX5_becomeLike_60 ?_
  refine lv_iconst (v := 0) hx hb dX5_becomeLike_63 (by decide) ?_
  refine lv_aload_n hx hb dX5_becomeLike_64 rfl (lv_at hl 0 rfl) ?_
  refine sk_getR (o := o0) (ci := 5) (j := 5) (t := (o0 + 5)) C hM (sk_isW_kd q0) rfl (by decide) rfl (sk_isW_r q0 5 (by decide) (by decide)) kw_174 dX5_becomeLike_65 ?_
  refine lv_iconst (v := 0) hx hb dX5_becomeLike_68 (by decide) ?_
  refine lv_bipush (v := 12) hx hb dX5_becomeLike_69 (by decide) ?_
  refine sk_copy (d := 1) (o0 := (o1 + 5)) (o1 := (o0 + 5)) C hl.1 sk_wcopy kw_915 (by decide) (Nat.le_of_ble_eq_true rfl) hM hS (sk_isW_k5 q1) (sk_isW_k5 q0) (by decide) (by decide) dX5_becomeLike_71 (fun M_5 eM_5 H locs hM hS => ?_)
  have h := sk_letU h eM_5
  refine lv_aload_n hx hb dX5_becomeLike_74 rfl (lv_at hl 1 rfl) ?_
  refine sk_getR (o := o1) (ci := 5) (j := 6) (t := (o1 + 6)) C hM (sk_isW_kd q1) rfl (by decide) rfl (sk_isW_r q1 6 (by decide) (by decide)) kw_176 dX5_becomeLike_75 ?_
  refine lv_iconst (v := 0) hx hb dX5_becomeLike_78 (by decide) ?_
  refine lv_aload_n hx hb dX5_becomeLike_79 rfl (lv_at hl 0 rfl) ?_
  refine sk_getR (o := o0) (ci := 5) (j := 6) (t := (o0 + 6)) C hM (sk_isW_kd q0) rfl (by decide) rfl (sk_isW_r q0 6 (by decide) (by decide)) kw_176 dX5_becomeLike_80 ?_
  refine lv_iconst (v := 0) hx hb dX5_becomeLike_83 (by decide) ?_
  refine lv_bipush (v := 6) hx hb dX5_becomeLike_84 (by decide) ?_
  refine sk_copy (d := 1) (o0 := (o1 + 6)) (o1 := (o0 + 6)) C hl.1 sk_wcopy kw_915 (by decide) (Nat.le_of_ble_eq_true rfl) hM hS (sk_isW_k6 q1) (sk_isW_k6 q0) (by decide) (by decide) dX5_becomeLike_86 (fun M_6 eM_6 H locs hM hS => ?_)
  have h := sk_letU h eM_6
  refine lv_aload_n hx hb dX5_becomeLike_89 rfl (lv_at hl 1 rfl) ?_
  refine sk_getR (o := o1) (ci := 5) (j := 8) (t := (o1 + 8)) C hM (sk_isW_kd q1) rfl (by decide) rfl (sk_isW_r q1 8 (by decide) (by decide)) kw_182 dX5_becomeLike_90 ?_
  refine lv_iconst (v := 0) hx hb dX5_becomeLike_93 (by decide) ?_
  refine lv_aload_n hx hb dX5_becomeLike_94 rfl (lv_at hl 0 rfl) ?_
  refine sk_getR (o := o0) (ci := 5) (j := 8) (t := (o0 + 8)) C hM (sk_isW_kd q0) rfl (by decide) rfl (sk_isW_r q0 8 (by decide) (by decide)) kw_182 dX5_becomeLike_95 ?_
  refine lv_iconst (v := 0) hx hb dX5_becomeLike_98 (by decide) ?_
  refine lv_iconst (v := 3) hx hb dX5_becomeLike_99 (by decide) ?_
  refine sk_copy (d := 1) (o0 := (o1 + 8)) (o1 := (o0 + 8)) C hl.1 sk_wcopy kw_915 (by decide) (Nat.le_of_ble_eq_true rfl) hM hS (sk_isW_k8 q1) (sk_isW_k8 q0) (by decide) (by decide) dX5_becomeLike_100 (fun M_7 eM_7 H locs hM hS => ?_)
  have h := sk_letU h eM_7
  refine lv_iconst (v := 0) hx hb dX5_becomeLike_103 (by decide) ?_
  refine lv_istore_n (lv' := [(2, .int 0), (0, .ref (sk_ad g o0)), (1, .ref (sk_ad g o1))]) hx hb dX5_becomeLike_104 rfl hl (by decide) rfl (fun ls hl => ?_)
  obtain ⟨M_11, h_18, h⟩ := sk_b1E h
  refine w_X5_becomeLike_L105 C o0 q0 o1 q1 sk_FU 0 M_7 _ _ _ (lv_sub hl [1, 2, 0] rfl) hM hS h_18 (fun y_19 H locs ls he hl hM hS => ?_)
  obtain rfl := Option.some.inj he
  refine lv_aload_n hx hb dX5_becomeLike_136 rfl (lv_at hl 0 rfl) ?_
  refine lv_aload_n hx hb dX5_becomeLike_137 rfl (lv_at hl 1 rfl) ?_
  refine sk_getI (o := o1) (ci := 5) (j := 10) C hM (sk_isW_kd q1) rfl (by decide) rfl kw_185 dX5_becomeLike_138 ?_
  refine sk_putI (o := o0) (ci := 5) (j := 10) C hM hS (sk_isW_kd q0) rfl (by decide) rfl rfl (tyX5_ok 10 (by decide)) kw_185 dX5_becomeLike_141 (fun M_12 eM_12 H locs hM hS => ?_)
  have h := sk_letU h eM_12
  refine lv_aload_n hx hb dX5_becomeLike_144 rfl (lv_at hl 0 rfl) ?_
  refine lv_aload_n hx hb dX5_becomeLike_145 rfl (lv_at hl 1 rfl) ?_
  refine sk_getI (o := o1) (ci := 5) (j := 11) C hM (sk_isW_kd q1) rfl (by decide) rfl kw_187 dX5_becomeLike_146 ?_
  refine sk_putI (o := o0) (ci := 5) (j := 11) C hM hS (sk_isW_kd q0) rfl (by decide) rfl rfl (tyX5_ok 11 (by decide)) kw_187 dX5_becomeLike_149 (fun M_13 eM_13 H locs hM hS => ?_)
  have h := sk_letU h eM_13
  refine lv_aload_n hx hb dX5_becomeLike_152 rfl (lv_at hl 0 rfl) ?_
  refine lv_aload_n hx hb dX5_becomeLike_153 rfl (lv_at hl 1 rfl) ?_
  refine sk_getI (o := o1) (ci := 5) (j := 12) C hM (sk_isW_kd q1) rfl (by decide) rfl kw_189 dX5_becomeLike_154 ?_
  refine sk_putI (o := o0) (ci := 5) (j := 12) C hM hS (sk_isW_kd q0) rfl (by decide) rfl rfl (tyX5_ok 12 (by decide)) kw_189 dX5_becomeLike_157 (fun M_14 eM_14 H locs hM hS => ?_)
  have h := sk_letU h eM_14
  refine lv_aload_n hx hb dX5_becomeLike_160 rfl (lv_at hl 0 rfl) ?_
  refine lv_aload_n hx hb dX5_becomeLike_161 rfl (lv_at hl 1 rfl) ?_
  refine sk_getI (o := o1) (ci := 5) (j := 13) C hM (sk_isW_kd q1) rfl (by decide) rfl kw_191 dX5_becomeLike_162 ?_
  refine sk_putI (o := o0) (ci := 5) (j := 13) C hM hS (sk_isW_kd q0) rfl (by decide) rfl rfl (tyX5_ok 13 (by decide)) kw_191 dX5_becomeLike_165 (fun M_15 eM_15 H locs hM hS => ?_)
  have h := sk_letU h eM_15
  refine lv_aload_n hx hb dX5_becomeLike_168 rfl (lv_at hl 0 rfl) ?_
  refine lv_aload_n hx hb dX5_becomeLike_169 rfl (lv_at hl 1 rfl) ?_
  refine sk_getI (o := o1) (ci := 5) (j := 14) C hM (sk_isW_kd q1) rfl (by decide) rfl kw_194 dX5_becomeLike_170 ?_
  refine sk_putI (o := o0) (ci := 5) (j := 14) C hM hS (sk_isW_kd q0) rfl (by decide) rfl rfl (tyX5_ok 14 (by decide)) kw_194 dX5_becomeLike_173 (fun M_16 eM_16 H locs hM hS => ?_)
  have h := sk_letU h eM_16
  refine lv_aload_n hx hb dX5_becomeLike_176 rfl (lv_at hl 0 rfl) ?_
  refine lv_aload_n hx hb dX5_becomeLike_177 rfl (lv_at hl 1 rfl) ?_
  refine sk_getI (o := o1) (ci := 5) (j := 15) C hM (sk_isW_kd q1) rfl (by decide) rfl kw_196 dX5_becomeLike_178 ?_
  refine sk_putI (o := o0) (ci := 5) (j := 15) C hM hS (sk_isW_kd q0) rfl (by decide) rfl rfl (tyX5_ok 15 (by decide)) kw_196 dX5_becomeLike_181 (fun M_17 eM_17 H locs hM hS => ?_)
  have h := sk_letU h eM_17
  exact sk_vret C hM hS (Option.some.inj h) dX5_becomeLike_184
theorem dX5_addScent_0 : decode cX5_addScent 0 = .ok (.aload_n 0, 1) := by decide +kernel
theorem dX5_addScent_1 : decode cX5_addScent 1 = .ok (.getfield 62, 3) := by decide +kernel
theorem dX5_addScent_4 : decode cX5_addScent 4 = .ok (.bipush 9, 2) := by decide +kernel
theorem dX5_addScent_6 : decode cX5_addScent 6 = .ok (.if_icmp .lt 6, 3) := by decide +kernel
theorem dX5_addScent_9 : decode cX5_addScent 9 = .ok (.ldc 77, 2) := by decide +kernel
theorem dX5_addScent_11 : decode cX5_addScent 11 = .ok (.ireturn, 1) := by decide +kernel
theorem dX5_addScent_12 : decode cX5_addScent 12 = .ok (.aload_n 0, 1) := by decide +kernel
theorem dX5_addScent_13 : decode cX5_addScent 13 = .ok (.getfield 9, 3) := by decide +kernel
theorem dX5_addScent_16 : decode cX5_addScent 16 = .ok (.aload_n 0, 1) := by decide +kernel
theorem dX5_addScent_17 : decode cX5_addScent 17 = .ok (.getfield 62, 3) := by decide +kernel
theorem dX5_addScent_20 : decode cX5_addScent 20 = .ok (.iload_n 1, 1) := by decide +kernel
theorem dX5_addScent_21 : decode cX5_addScent 21 = .ok (.iastore, 1) := by decide +kernel
theorem dX5_addScent_22 : decode cX5_addScent 22 = .ok (.aload_n 0, 1) := by decide +kernel
theorem dX5_addScent_23 : decode cX5_addScent 23 = .ok (.getfield 15, 3) := by decide +kernel
theorem dX5_addScent_26 : decode cX5_addScent 26 = .ok (.aload_n 0, 1) := by decide +kernel
theorem dX5_addScent_27 : decode cX5_addScent 27 = .ok (.getfield 62, 3) := by decide +kernel
theorem dX5_addScent_30 : decode cX5_addScent 30 = .ok (.iload_n 2, 1) := by decide +kernel
theorem dX5_addScent_31 : decode cX5_addScent 31 = .ok (.iastore, 1) := by decide +kernel
theorem dX5_addScent_32 : decode cX5_addScent 32 = .ok (.aload_n 0, 1) := by decide +kernel
theorem dX5_addScent_33 : decode cX5_addScent 33 = .ok (.dup, 1) := by decide +kernel
theorem dX5_addScent_34 : decode cX5_addScent 34 = .ok (.getfield 62, 3) := by decide +kernel
theorem dX5_addScent_37 : decode cX5_addScent 37 = .ok (.iconst 1, 1) := by decide +kernel
theorem dX5_addScent_38 : decode cX5_addScent 38 = .ok (.iadd, 1) := by decide +kernel
theorem dX5_addScent_39 : decode cX5_addScent 39 = .ok (.putfield 62, 3) := by decide +kernel
theorem dX5_addScent_42 : decode cX5_addScent 42 = .ok (.aload_n 0, 1) := by decide +kernel
theorem dX5_addScent_43 : decode cX5_addScent 43 = .ok (.getfield 62, 3) := by decide +kernel
theorem dX5_addScent_46 : decode cX5_addScent 46 = .ok (.iconst 1, 1) := by decide +kernel
theorem dX5_addScent_47 : decode cX5_addScent 47 = .ok (.isub, 1) := by decide +kernel
theorem dX5_addScent_48 : decode cX5_addScent 48 = .ok (.ireturn, 1) := by decide +kernel
set_option maxHeartbeats 4000000 in
set_option maxRecDepth 100000 in
theorem c_X5_addScent (g : sk_G) (l : Launch) (o0 : Nat) (q0 : sk_isW o0) (a1 : Int32) (a2 : Int32) (M : sk_M) {rr : Int32} {MM : sk_M} (h : f_X5_addScent o0 a1 a2 M = some (rr, MM)) : sk_MI g l yX5_addScent cX5_addScent 3 (some .int) 1 [.ref (sk_ad g o0), .int a1, .int a2] M rr MM := by
  refine sk_go [(0, .ref (sk_ad g o0)), (1, .int a1), (2, .int a2)] (by decide) (Nat.le_of_ble_eq_true rfl) rfl ?_
  intro p e s m av below meth c C ls hl hM hS
  obtain ⟨hx, hb, hml, hown, hts, hK, hE, hr, hlocks⟩ := id C
  rw [f_X5_addScent] at h
  refine lv_aload_n hx hb dX5_addScent_0 rfl (lv_at hl 0 rfl) ?_
  refine sk_getI (o := o0) (ci := 5) (j := 10) C hM (sk_isW_kd q0) rfl (by decide) rfl kw_185 dX5_addScent_1 ?_
  refine lv_bipush (v := 9) hx hb dX5_addScent_4 (by decide) ?_
  refine lv_icmp_lt hx hb dX5_addScent_6 rfl (fun hc => ?_) (fun hc => ?_)
  · have h := sk_pos h hc
    refine lv_aload_n hx hb dX5_addScent_12 rfl (lv_at hl 0 rfl) ?_
    refine sk_getR (o := o0) (ci := 5) (j := 1) (t := (o0 + 1)) C hM (sk_isW_kd q0) rfl (by decide) rfl (sk_isW_r q0 1 (by decide) (by decide)) kw_166 dX5_addScent_13 ?_
    refine lv_aload_n hx hb dX5_addScent_16 rfl (lv_at hl 0 rfl) ?_
    refine sk_getI (o := o0) (ci := 5) (j := 10) C hM (sk_isW_kd q0) rfl (by decide) rfl kw_185 dX5_addScent_17 ?_
    refine lv_iload_n hx hb dX5_addScent_20 rfl (lv_at hl 1 rfl) ?_
    obtain ⟨i_1, h⟩ := sk_chkE h
    refine sk_iast (o := (o0 + 1)) C hM hS (sk_isW_k1 q0) i_1 dX5_addScent_21 (fun M_2 eM_2 H locs hM hS => ?_)
    have h := sk_letU h eM_2
    refine lv_aload_n hx hb dX5_addScent_22 rfl (lv_at hl 0 rfl) ?_
    refine sk_getR (o := o0) (ci := 5) (j := 2) (t := (o0 + 2)) C hM (sk_isW_kd q0) rfl (by decide) rfl (sk_isW_r q0 2 (by decide) (by decide)) kw_168 dX5_addScent_23 ?_
    refine lv_aload_n hx hb dX5_addScent_26 rfl (lv_at hl 0 rfl) ?_
    refine sk_getI (o := o0) (ci := 5) (j := 10) C hM (sk_isW_kd q0) rfl (by decide) rfl kw_185 dX5_addScent_27 ?_
    refine lv_iload_n hx hb dX5_addScent_30 rfl (lv_at hl 2 rfl) ?_
    obtain ⟨i_3, h⟩ := sk_chkE h
    refine sk_iast (o := (o0 + 2)) C hM hS (sk_isW_k2 q0) i_3 dX5_addScent_31 (fun M_4 eM_4 H locs hM hS => ?_)
    have h := sk_letU h eM_4
    refine lv_aload_n hx hb dX5_addScent_32 rfl (lv_at hl 0 rfl) ?_
    refine lv_dup hx hb dX5_addScent_33 rfl ?_
    refine sk_getI (o := o0) (ci := 5) (j := 10) C hM (sk_isW_kd q0) rfl (by decide) rfl kw_185 dX5_addScent_34 ?_
    refine lv_iconst (v := 1) hx hb dX5_addScent_37 (by decide) ?_
    refine lv_iadd hx hb dX5_addScent_38 ?_
    refine sk_putI (o := o0) (ci := 5) (j := 10) C hM hS (sk_isW_kd q0) rfl (by decide) rfl rfl (tyX5_ok 10 (by decide)) kw_185 dX5_addScent_39 (fun M_5 eM_5 H locs hM hS => ?_)
    have h := sk_letU h eM_5
    refine lv_aload_n hx hb dX5_addScent_42 rfl (lv_at hl 0 rfl) ?_
    refine sk_getI (o := o0) (ci := 5) (j := 10) C hM (sk_isW_kd q0) rfl (by decide) rfl kw_185 dX5_addScent_43 ?_
    refine lv_iconst (v := 1) hx hb dX5_addScent_46 (by decide) ?_
    refine lv_isub hx hb dX5_addScent_47 ?_
    exact sk_iret C hM hS (sk_e2 h) dX5_addScent_48
  · have h := sk_neg h hc
    refine lv_ldc (v := (-1000000003)) hx hb hown (hts _ kw_352) dX5_addScent_9 ?_
    exact sk_iret C hM hS (sk_e2 h) dX5_addScent_11
theorem dX5_draw_0 : decode cX5_draw 0 = .ok (.aload_n 0, 1) := by decide +kernel
theorem dX5_draw_1 : decode cX5_draw 1 = .ok (.aload_n 0, 1) := by decide +kernel
theorem dX5_draw_2 : decode cX5_draw 2 = .ok (.getfield 52, 3) := by decide +kernel
theorem dX5_draw_5 : decode cX5_draw 5 = .ok (.ldc 78, 2) := by decide +kernel
theorem dX5_draw_7 : decode cX5_draw 7 = .ok (.imul, 1) := by decide +kernel
theorem dX5_draw_8 : decode cX5_draw 8 = .ok (.sipush 12345, 3) := by decide +kernel
theorem dX5_draw_11 : decode cX5_draw 11 = .ok (.iadd, 1) := by decide +kernel
theorem dX5_draw_12 : decode cX5_draw 12 = .ok (.putfield 52, 3) := by decide +kernel
theorem dX5_draw_15 : decode cX5_draw 15 = .ok (.aload_n 0, 1) := by decide +kernel
theorem dX5_draw_16 : decode cX5_draw 16 = .ok (.getfield 52, 3) := by decide +kernel
theorem dX5_draw_19 : decode cX5_draw 19 = .ok (.bipush 8, 2) := by decide +kernel
theorem dX5_draw_21 : decode cX5_draw 21 = .ok (.iushr, 1) := by decide +kernel
theorem dX5_draw_22 : decode cX5_draw 22 = .ok (.ireturn, 1) := by decide +kernel
set_option maxHeartbeats 4000000 in
set_option maxRecDepth 100000 in
theorem c_X5_draw (g : sk_G) (l : Launch) (o0 : Nat) (q0 : sk_isW o0) (M : sk_M) {rr : Int32} {MM : sk_M} (h : f_X5_draw o0 M = some (rr, MM)) : sk_MI g l yX5_draw cX5_draw 1 (some .int) 1 [.ref (sk_ad g o0)] M rr MM := by
  refine sk_go [(0, .ref (sk_ad g o0))] (by decide) (Nat.le_of_ble_eq_true rfl) rfl ?_
  intro p e s m av below meth c C ls hl hM hS
  obtain ⟨hx, hb, hml, hown, hts, hK, hE, hr, hlocks⟩ := id C
  rw [f_X5_draw] at h
  refine lv_aload_n hx hb dX5_draw_0 rfl (lv_at hl 0 rfl) ?_
  refine lv_aload_n hx hb dX5_draw_1 rfl (lv_at hl 0 rfl) ?_
  refine sk_getI (o := o0) (ci := 5) (j := 15) C hM (sk_isW_kd q0) rfl (by decide) rfl kw_196 dX5_draw_2 ?_
  refine lv_ldc (v := 1103515245) hx hb hown (hts _ kw_417) dX5_draw_5 ?_
  refine lv_imul hx hb dX5_draw_7 ?_
  refine lv_sipush (v := 12345) hx hb dX5_draw_8 (by decide) ?_
  refine lv_iadd hx hb dX5_draw_11 ?_
  refine sk_putI (o := o0) (ci := 5) (j := 15) C hM hS (sk_isW_kd q0) rfl (by decide) rfl rfl (tyX5_ok 15 (by decide)) kw_196 dX5_draw_12 (fun M_1 eM_1 H locs hM hS => ?_)
  have h := sk_letU h eM_1
  refine lv_aload_n hx hb dX5_draw_15 rfl (lv_at hl 0 rfl) ?_
  refine sk_getI (o := o0) (ci := 5) (j := 15) C hM (sk_isW_kd q0) rfl (by decide) rfl kw_196 dX5_draw_16 ?_
  refine lv_bipush (v := 8) hx hb dX5_draw_19 (by decide) ?_
  refine lv_iushr (v := (sk_ushr (M_1 o0 15) 8)) hx hb dX5_draw_21 rfl ?_
  exact sk_iret C hM hS (sk_e2 h) dX5_draw_22
theorem dX5_putSpot_0 : decode cX5_putSpot 0 = .ok (.aload_n 0, 1) := by decide +kernel
theorem dX5_putSpot_1 : decode cX5_putSpot 1 = .ok (.getfield 32, 3) := by decide +kernel
theorem dX5_putSpot_4 : decode cX5_putSpot 4 = .ok (.iload_n 1, 1) := by decide +kernel
theorem dX5_putSpot_5 : decode cX5_putSpot 5 = .ok (.aaload, 1) := by decide +kernel
theorem dX5_putSpot_6 : decode cX5_putSpot 6 = .ok (.iload_n 2, 1) := by decide +kernel
theorem dX5_putSpot_7 : decode cX5_putSpot 7 = .ok (.iaload, 1) := by decide +kernel
theorem dX5_putSpot_8 : decode cX5_putSpot 8 = .ok (.istore 4, 2) := by decide +kernel
theorem dX5_putSpot_10 : decode cX5_putSpot 10 = .ok (.aload_n 0, 1) := by decide +kernel
theorem dX5_putSpot_11 : decode cX5_putSpot 11 = .ok (.getfield 32, 3) := by decide +kernel
theorem dX5_putSpot_14 : decode cX5_putSpot 14 = .ok (.iload_n 1, 1) := by decide +kernel
theorem dX5_putSpot_15 : decode cX5_putSpot 15 = .ok (.aaload, 1) := by decide +kernel
theorem dX5_putSpot_16 : decode cX5_putSpot 16 = .ok (.iload_n 2, 1) := by decide +kernel
theorem dX5_putSpot_17 : decode cX5_putSpot 17 = .ok (.iload_n 3, 1) := by decide +kernel
theorem dX5_putSpot_18 : decode cX5_putSpot 18 = .ok (.iastore, 1) := by decide +kernel
theorem dX5_putSpot_19 : decode cX5_putSpot 19 = .ok (.iload 4, 2) := by decide +kernel
theorem dX5_putSpot_21 : decode cX5_putSpot 21 = .ok (.iload_n 3, 1) := by decide +kernel
theorem dX5_putSpot_22 : decode cX5_putSpot 22 = .ok (.if_icmp .ne 7, 3) := by decide +kernel
theorem dX5_putSpot_25 : decode cX5_putSpot 25 = .ok (.iconst 0, 1) := by decide +kernel
theorem dX5_putSpot_26 : decode cX5_putSpot 26 = .ok (.goto 4, 3) := by decide +kernel
theorem dX5_putSpot_29 : decode cX5_putSpot 29 = .ok (.iconst 1, 1) := by decide +kernel
theorem dX5_putSpot_30 : decode cX5_putSpot 30 = .ok (.ireturn, 1) := by decide +kernel
set_option maxHeartbeats 4000000 in
set_option maxRecDepth 100000 in
theorem c_X5_putSpot (g : sk_G) (l : Launch) (o0 : Nat) (q0 : sk_isW o0) (a1 : Int32) (a2 : Int32) (a3 : Int32) (M : sk_M) {rr : Int32} {MM : sk_M} (h : f_X5_putSpot o0 a1 a2 a3 M = some (rr, MM)) : sk_MI g l yX5_putSpot cX5_putSpot 5 (some .int) 1 [.ref (sk_ad g o0), .int a1, .int a2, .int a3] M rr MM := by
  refine sk_go [(0, .ref (sk_ad g o0)), (1, .int a1), (2, .int a2), (3, .int a3)] (by decide) (Nat.le_of_ble_eq_true rfl) rfl ?_
  intro p e s m av below meth c C ls hl hM hS
  obtain ⟨hx, hb, hml, hown, hts, hK, hE, hr, hlocks⟩ := id C
  rw [f_X5_putSpot] at h
  refine lv_aload_n hx hb dX5_putSpot_0 rfl (lv_at hl 0 rfl) ?_
  refine sk_getR (o := o0) (ci := 5) (j := 7) (t := (o0 + 7)) C hM (sk_isW_kd q0) rfl (by decide) rfl (sk_isW_r q0 7 (by decide) (by decide)) kw_179 dX5_putSpot_1 ?_
  refine lv_iload_n hx hb dX5_putSpot_4 rfl (lv_at hl 1 rfl) ?_
  obtain ⟨i_1, h⟩ := sk_chkE h
  refine sk_aald (o := (o0 + 7)) (k := 0) (t := (o0 + 10 + a1.toNatClampNeg)) C hM (sk_isW_k7 q0) (by decide) i_1 (sk_isW_s q0 _) dX5_putSpot_5 ?_
  refine lv_iload_n hx hb dX5_putSpot_6 rfl (lv_at hl 2 rfl) ?_
  obtain ⟨i_2, h⟩ := sk_chkE h
  refine sk_iald (o := (o0 + 10 + a1.toNatClampNeg)) C hM (sk_isW_sk q0 (sk_in_lt i_1)) i_2 dX5_putSpot_7 ?_
  refine lv_topi (fun x_3 ex_3 => ?_)
  have h := sk_letU h ex_3
  refine lv_istore (lv' := [(4, .int x_3), (0, .ref (sk_ad g o0)), (1, .int a1), (2, .int a2), (3, .int a3)]) hx hb dX5_putSpot_8 hl (by decide) rfl (fun ls hl => ?_)
  refine lv_aload_n hx hb dX5_putSpot_10 rfl (lv_at hl 1 rfl) ?_
  refine sk_getR (o := o0) (ci := 5) (j := 7) (t := (o0 + 7)) C hM (sk_isW_kd q0) rfl (by decide) rfl (sk_isW_r q0 7 (by decide) (by decide)) kw_179 dX5_putSpot_11 ?_
  refine lv_iload_n hx hb dX5_putSpot_14 rfl (lv_at hl 2 rfl) ?_
  obtain ⟨i_4, h⟩ := sk_chkE h
  refine sk_aald (o := (o0 + 7)) (k := 0) (t := (o0 + 10 + a1.toNatClampNeg)) C hM (sk_isW_k7 q0) (by decide) i_4 (sk_isW_s q0 _) dX5_putSpot_15 ?_
  refine lv_iload_n hx hb dX5_putSpot_16 rfl (lv_at hl 3 rfl) ?_
  refine lv_iload_n hx hb dX5_putSpot_17 rfl (lv_at hl 4 rfl) ?_
  obtain ⟨i_5, h⟩ := sk_chkE h
  refine sk_iast (o := (o0 + 10 + a1.toNatClampNeg)) C hM hS (sk_isW_sk q0 (sk_in_lt i_4)) i_5 dX5_putSpot_18 (fun M_6 eM_6 H locs hM hS => ?_)
  have h := sk_letU h eM_6
  refine lv_iload hx hb dX5_putSpot_19 (lv_at hl 0 rfl) ?_
  refine lv_iload_n hx hb dX5_putSpot_21 rfl (lv_at hl 4 rfl) ?_
  have J : ∀ (vv : Int32) (H : Heap) (locs : List Loc), (if x_3 = a3 then 0 else 1 : Int32) = vv → sk_P g M_6 H → va_S (sk_A g) s.heap H locs → W p l e (sk_rm 1) s m av below meth c H locs 0 0 (MQ below (sk_QI g rr MM) av s 0 0 (sk_A g)) (F0 m 30 ls [.int vv]) := by
    intro vv H locs hvv hM hS
    subst hvv
    exact sk_iret C hM hS (sk_e2 h) dX5_putSpot_30
  refine lv_icmp_ne hx hb dX5_putSpot_22 rfl (fun hc => ?_) (fun hc => ?_)
  · have J := fun vv H locs q => J vv H locs ((if_neg hc).trans q)
    refine lv_iconst (v := 1) hx hb dX5_putSpot_29 (by decide) ?_
    exact J _ _ _ rfl hM hS
  · have J := fun vv H locs q => J vv H locs ((if_pos hc).trans q)
    refine lv_iconst (v := 0) hx hb dX5_putSpot_25 (by decide) ?_
    refine lv_goto hx hb dX5_putSpot_26 rfl ?_
    exact J _ _ _ rfl hM hS
theorem dX5_passDay_0 : decode cX5_passDay 0 = .ok (.iconst 0, 1) := by decide +kernel
theorem dX5_passDay_1 : decode cX5_passDay 1 = .ok (.istore_n 1, 1) := by decide +kernel
theorem dX5_passDay_2 : decode cX5_passDay 2 = .ok (.iload_n 1, 1) := by decide +kernel
theorem dX5_passDay_3 : decode cX5_passDay 3 = .ok (.aload_n 0, 1) := by decide +kernel
theorem dX5_passDay_4 : decode cX5_passDay 4 = .ok (.getfield 68, 3) := by decide +kernel
theorem dX5_passDay_7 : decode cX5_passDay 7 = .ok (.if_icmp .ge 29, 3) := by decide +kernel
theorem dX5_passDay_10 : decode cX5_passDay 10 = .ok (.aload_n 0, 1) := by decide +kernel
theorem dX5_passDay_11 : decode cX5_passDay 11 = .ok (.aload_n 0, 1) := by decide +kernel
theorem dX5_passDay_12 : decode cX5_passDay 12 = .ok (.getfield 32, 3) := by decide +kernel
theorem dX5_passDay_15 : decode cX5_passDay 15 = .ok (.iload_n 1, 1) := by decide +kernel
theorem dX5_passDay_16 : decode cX5_passDay 16 = .ok (.aaload, 1) := by decide +kernel
theorem dX5_passDay_17 : decode cX5_passDay 17 = .ok (.aload_n 0, 1) := by decide +kernel
theorem dX5_passDay_18 : decode cX5_passDay 18 = .ok (.getfield 27, 3) := by decide +kernel
theorem dX5_passDay_21 : decode cX5_passDay 21 = .ok (.iload_n 1, 1) := by decide +kernel
theorem dX5_passDay_22 : decode cX5_passDay 22 = .ok (.iaload, 1) := by decide +kernel
theorem dX5_passDay_23 : decode cX5_passDay 23 = .ok (.aload_n 0, 1) := by decide +kernel
theorem dX5_passDay_24 : decode cX5_passDay 24 = .ok (.getfield 74, 3) := by decide +kernel
theorem dX5_passDay_27 : decode cX5_passDay 27 = .ok (.invokevirtual 97, 3) := by decide +kernel
theorem dX5_passDay_30 : decode cX5_passDay 30 = .ok (.iinc 1 1, 3) := by decide +kernel
theorem dX5_passDay_33 : decode cX5_passDay 33 = .ok (.goto (-31), 3) := by decide +kernel
theorem dX5_passDay_36 : decode cX5_passDay 36 = .ok (.aload_n 0, 1) := by decide +kernel
theorem dX5_passDay_37 : decode cX5_passDay 37 = .ok (.dup, 1) := by decide +kernel
theorem dX5_passDay_38 : decode cX5_passDay 38 = .ok (.getfield 74, 3) := by decide +kernel
theorem dX5_passDay_41 : decode cX5_passDay 41 = .ok (.iconst 1, 1) := by decide +kernel
theorem dX5_passDay_42 : decode cX5_passDay 42 = .ok (.iadd, 1) := by decide +kernel
theorem dX5_passDay_43 : decode cX5_passDay 43 = .ok (.putfield 74, 3) := by decide +kernel
theorem dX5_passDay_46 : decode cX5_passDay 46 = .ok (.return_, 1) := by decide +kernel
set_option maxHeartbeats 4000000 in
set_option maxRecDepth 100000 in
theorem w_X5_passDay_L2 {g : sk_G} {l : Launch} {p : Program} {e : Env} {s : State} {m : MethodId} {av : Array Value} {below : List Frame} {meth : Method} {c : Code} (C : sk_C g p s m av meth c cX5_passDay 2 RX5 none) (o0 : Nat) (q0 : sk_isW o0) {MM : sk_M} :
    ∀ (n : Nat) (a1 : Int32) (M : sk_M) (H : Heap) (locs : List Loc) (ls : Array Slot), lv_has ls 2 [(0, .ref (sk_ad g o0)), (1, .int a1)] → sk_P g M H → va_S (sk_A g) s.heap H locs → ∀ {out : sk_M}, f_X5_passDay_L2 o0 n a1 M = some out → (∀ (M1 : sk_M) (H : Heap) (locs : List Loc) (ls : Array Slot), some M1 = some out → lv_has ls 2 [(0, .ref (sk_ad g o0))] → sk_P g M1 H → va_S (sk_A g) s.heap H locs → W p l e (sk_rm 5) s m av below meth c H locs 0 0 (MQ below (sk_QV g MM) av s 0 0 (sk_A g)) (F0 m 36 ls [])) → W p l e (sk_rm 5) s m av below meth c H locs 0 0 (MQ below (sk_QV g MM) av s 0 0 (sk_A g)) (F0 m 2 ls []) := by
  obtain ⟨hx, hb, hml, hown, hts, hK, hE, hr, hlocks⟩ := id C
  intro n
  induction n with
  | zero =>
    intro a1 M H locs ls hl hM hS out h
    cases h
  | succ n ih =>
    intro a1 M H locs ls hl hM hS out h kx
    rw [f_X5_passDay_L2] at h
    refine lv_iload_n hx hb dX5_passDay_2 rfl (lv_at hl 1 rfl) ?_
    refine lv_aload_n hx hb dX5_passDay_3 rfl (lv_at hl 0 rfl) ?_
    refine sk_getI (o := o0) (ci := 5) (j := 12) C hM (sk_isW_kd q0) rfl (by decide) rfl kw_189 dX5_passDay_4 ?_
    refine lv_icmp_ge hx hb dX5_passDay_7 rfl (fun hc => ?_) (fun hc => ?_)
    · have h := sk_pos h hc
      exact kx _ _ _ _ h (lv_sub hl [0] rfl) hM hS
    · have h := sk_neg h hc
      refine lv_aload_n hx hb dX5_passDay_10 rfl (lv_at hl 0 rfl) ?_
      refine lv_aload_n hx hb dX5_passDay_11 rfl (lv_at hl 0 rfl) ?_
      refine sk_getR (o := o0) (ci := 5) (j := 7) (t := (o0 + 7)) C hM (sk_isW_kd q0) rfl (by decide) rfl (sk_isW_r q0 7 (by decide) (by decide)) kw_179 dX5_passDay_12 ?_
      refine lv_iload_n hx hb dX5_passDay_15 rfl (lv_at hl 1 rfl) ?_
      obtain ⟨i_1, h⟩ := sk_chkE h
      refine sk_aald (o := (o0 + 7)) (k := 0) (t := (o0 + 10 + a1.toNatClampNeg)) C hM (sk_isW_k7 q0) (by decide) i_1 (sk_isW_s q0 _) dX5_passDay_16 ?_
      refine lv_aload_n hx hb dX5_passDay_17 rfl (lv_at hl 0 rfl) ?_
      refine sk_getR (o := o0) (ci := 5) (j := 6) (t := (o0 + 6)) C hM (sk_isW_kd q0) rfl (by decide) rfl (sk_isW_r q0 6 (by decide) (by decide)) kw_176 dX5_passDay_18 ?_
      refine lv_iload_n hx hb dX5_passDay_21 rfl (lv_at hl 1 rfl) ?_
      obtain ⟨i_2, h⟩ := sk_chkE h
      refine sk_iald (o := (o0 + 6)) C hM (sk_isW_k6 q0) i_2 dX5_passDay_22 ?_
      refine lv_aload_n hx hb dX5_passDay_23 rfl (lv_at hl 0 rfl) ?_
      refine sk_getI (o := o0) (ci := 5) (j := 14) C hM (sk_isW_kd q0) rfl (by decide) rfl kw_194 dX5_passDay_24 ?_
      obtain ⟨M_3, h_4, h⟩ := sk_b1E h
      refine sk_contV (sk_runV (As := [.ref (sk_ad g (o0 + 10 + a1.toNatClampNeg)), .int (M (o0 + 6) a1.toNatClampNeg), .int (M o0 14)]) (rest := []) C (c_X5_fadeRow g l o0 q0 (o0 + 10 + a1.toNatClampNeg) (sk_isW_sk q0 (sk_in_lt i_1)) (M (o0 + 6) a1.toNatClampNeg) (M o0 14) M h_4) yo_X5_fadeRow kw_488 (sk_recv (ci := 5) C hM (sk_isW_kd q0) rfl) (by decide) hM hS hl.1 rfl rfl (Nat.le_of_ble_eq_true rfl) dX5_passDay_27) hS (fun H locs hM hS => ?_)
      refine lv_iinc (v := (a1 + 1)) (lv' := [(1, .int (a1 + 1)), (0, .ref (sk_ad g o0))]) hx hb dX5_passDay_30 hl (k := 1) rfl rfl (by decide) rfl (fun ls hl => ?_)
      refine lv_goto hx hb dX5_passDay_33 rfl ?_
      exact ih (a1 + 1) M_3 _ _ _ (lv_sub hl [1, 0] rfl) hM hS h kx
set_option maxHeartbeats 4000000 in
set_option maxRecDepth 100000 in
theorem c_X5_passDay (g : sk_G) (l : Launch) (o0 : Nat) (q0 : sk_isW o0) (M : sk_M) {MM : sk_M} (h : f_X5_passDay o0 M = some MM) : sk_MV g l yX5_passDay cX5_passDay 2 none 5 [.ref (sk_ad g o0)] M MM := by
  refine sk_go [(0, .ref (sk_ad g o0))] (by decide) (Nat.le_of_ble_eq_true rfl) rfl ?_
  intro p e s m av below meth c C ls hl hM hS
  obtain ⟨hx, hb, hml, hown, hts, hK, hE, hr, hlocks⟩ := id C
  rw [f_X5_passDay] at h
  refine lv_iconst (v := 0) hx hb dX5_passDay_0 (by decide) ?_
  refine lv_istore_n (lv' := [(1, .int 0), (0, .ref (sk_ad g o0))]) hx hb dX5_passDay_1 rfl hl (by decide) rfl (fun ls hl => ?_)
  obtain ⟨M_5, h_7, h⟩ := sk_b1E h
  refine w_X5_passDay_L2 C o0 q0 sk_FU 0 M _ _ _ (lv_sub hl [1, 0] rfl) hM hS h_7 (fun y_8 H locs ls he hl hM hS => ?_)
  obtain rfl := Option.some.inj he
  refine lv_aload_n hx hb dX5_passDay_36 rfl (lv_at hl 0 rfl) ?_
  refine lv_dup hx hb dX5_passDay_37 rfl ?_
  refine sk_getI (o := o0) (ci := 5) (j := 14) C hM (sk_isW_kd q0) rfl (by decide) rfl kw_194 dX5_passDay_38 ?_
  refine lv_iconst (v := 1) hx hb dX5_passDay_41 (by decide) ?_
  refine lv_iadd hx hb dX5_passDay_42 ?_
  refine sk_putI (o := o0) (ci := 5) (j := 14) C hM hS (sk_isW_kd q0) rfl (by decide) rfl rfl (tyX5_ok 14 (by decide)) kw_194 dX5_passDay_43 (fun M_6 eM_6 H locs hM hS => ?_)
  have h := sk_letU h eM_6
  exact sk_vret C hM hS (Option.some.inj h) dX5_passDay_46
theorem dX5_present_0 : decode cX5_present 0 = .ok (.iconst 0, 1) := by decide +kernel
theorem dX5_present_1 : decode cX5_present 1 = .ok (.istore_n 2, 1) := by decide +kernel
theorem dX5_present_2 : decode cX5_present 2 = .ok (.iconst 0, 1) := by decide +kernel
theorem dX5_present_3 : decode cX5_present 3 = .ok (.istore_n 3, 1) := by decide +kernel
theorem dX5_present_4 : decode cX5_present 4 = .ok (.iload_n 3, 1) := by decide +kernel
theorem dX5_present_5 : decode cX5_present 5 = .ok (.aload_n 0, 1) := by decide +kernel
theorem dX5_present_6 : decode cX5_present 6 = .ok (.getfield 62, 3) := by decide +kernel
theorem dX5_present_9 : decode cX5_present 9 = .ok (.if_icmp .ge 18, 3) := by decide +kernel
theorem dX5_present_12 : decode cX5_present 12 = .ok (.aload_n 1, 1) := by decide +kernel
theorem dX5_present_13 : decode cX5_present 13 = .ok (.iload_n 3, 1) := by decide +kernel
theorem dX5_present_14 : decode cX5_present 14 = .ok (.iaload, 1) := by decide +kernel
theorem dX5_present_15 : decode cX5_present 15 = .ok (.ifCond .eq 6, 3) := by decide +kernel
theorem dX5_present_18 : decode cX5_present 18 = .ok (.iinc 2 1, 3) := by decide +kernel
theorem dX5_present_21 : decode cX5_present 21 = .ok (.iinc 3 1, 3) := by decide +kernel
theorem dX5_present_24 : decode cX5_present 24 = .ok (.goto (-20), 3) := by decide +kernel
theorem dX5_present_27 : decode cX5_present 27 = .ok (.iload_n 2, 1) := by decide +kernel
theorem dX5_present_28 : decode cX5_present 28 = .ok (.ireturn, 1) := by decide +kernel
set_option maxHeartbeats 4000000 in
set_option maxRecDepth 100000 in
theorem w_X5_present_L4 {g : sk_G} {l : Launch} {p : Program} {e : Env} {s : State} {m : MethodId} {av : Array Value} {below : List Frame} {meth : Method} {c : Code} (C : sk_C g p s m av meth c cX5_present 4 RX5 (some .int)) (o0 : Nat) (q0 : sk_isW o0) (o1 : Nat) (q1 : sk_kd o1 = (0, 9)) (M : sk_M) {rr : Int32} :
    ∀ (n : Nat) (a2 : Int32) (a3 : Int32) (H : Heap) (locs : List Loc) (ls : Array Slot), lv_has ls 4 [(0, .ref (sk_ad g o0)), (1, .ref (sk_ad g o1)), (2, .int a2), (3, .int a3)] → sk_P g M H → va_S (sk_A g) s.heap H locs → ∀ {out : Int32}, f_X5_present_L4 o0 o1 M n a2 a3 = some out → (∀ (x2 : Int32) (H : Heap) (locs : List Loc) (ls : Array Slot), some x2 = some out → lv_has ls 4 [(2, .int x2)] → sk_P g M H → va_S (sk_A g) s.heap H locs → W p l e (sk_rm 1) s m av below meth c H locs 0 0 (MQ below (sk_QI g rr M) av s 0 0 (sk_A g)) (F0 m 27 ls [])) → W p l e (sk_rm 1) s m av below meth c H locs 0 0 (MQ below (sk_QI g rr M) av s 0 0 (sk_A g)) (F0 m 4 ls []) := by
  obtain ⟨hx, hb, hml, hown, hts, hK, hE, hr, hlocks⟩ := id C
  intro n
  induction n with
  | zero =>
    intro a2 a3 H locs ls hl hM hS out h
    cases h
  | succ n ih =>
    intro a2 a3 H locs ls hl hM hS out h kx
    rw [f_X5_present_L4] at h
    refine lv_iload_n hx hb dX5_present_4 rfl (lv_at hl 3 rfl) ?_
    refine lv_aload_n hx hb dX5_present_5 rfl (lv_at hl 0 rfl) ?_
    refine sk_getI (o := o0) (ci := 5) (j := 10) C hM (sk_isW_kd q0) rfl (by decide) rfl kw_185 dX5_present_6 ?_
    refine lv_icmp_ge hx hb dX5_present_9 rfl (fun hc => ?_) (fun hc => ?_)
    · have h := sk_pos h hc
      exact kx _ _ _ _ h (lv_sub hl [2] rfl) hM hS
    · have h := sk_neg h hc
      refine lv_aload_n hx hb dX5_present_12 rfl (lv_at hl 1 rfl) ?_
      refine lv_iload_n hx hb dX5_present_13 rfl (lv_at hl 3 rfl) ?_
      obtain ⟨i_1, h⟩ := sk_chkE h
      refine sk_iald (o := o1) C hM q1 i_1 dX5_present_14 ?_
      refine lv_if_eq hx hb dX5_present_15 rfl (fun hc => ?_) (fun hc => ?_)
      · have h := sk_pos h hc
        refine lv_iinc (v := (a3 + 1)) (lv' := [(3, .int (a3 + 1)), (0, .ref (sk_ad g o0)), (1, .ref (sk_ad g o1)), (2, .int a2)]) hx hb dX5_present_21 hl (k := 3) rfl rfl (by decide) rfl (fun ls hl => ?_)
        refine lv_goto hx hb dX5_present_24 rfl ?_
        exact ih a2 (a3 + 1) _ _ _ (lv_sub hl [1, 2, 3, 0] rfl) hM hS h kx
      · have h := sk_neg h hc
        refine lv_iinc (v := (a2 + 1)) (lv' := [(2, .int (a2 + 1)), (0, .ref (sk_ad g o0)), (1, .ref (sk_ad g o1)), (3, .int a3)]) hx hb dX5_present_18 hl (k := 2) rfl rfl (by decide) rfl (fun ls hl => ?_)
        refine lv_iinc (v := (a3 + 1)) (lv' := [(3, .int (a3 + 1)), (2, .int (a2 + 1)), (0, .ref (sk_ad g o0)), (1, .ref (sk_ad g o1))]) hx hb dX5_present_21 hl (k := 3) rfl rfl (by decide) rfl (fun ls hl => ?_)
        refine lv_goto hx hb dX5_present_24 rfl ?_
        exact ih (a2 + 1) (a3 + 1) _ _ _ (lv_sub hl [2, 3, 1, 0] rfl) hM hS h kx
set_option maxHeartbeats 4000000 in
set_option maxRecDepth 100000 in
theorem c_X5_present (g : sk_G) (l : Launch) (o0 : Nat) (q0 : sk_isW o0) (o1 : Nat) (q1 : sk_kd o1 = (0, 9)) (M : sk_M) {rr : Int32} (h : f_X5_present o0 o1 M = some rr) : sk_MI g l yX5_present cX5_present 4 (some .int) 1 [.ref (sk_ad g o0), .ref (sk_ad g o1)] M rr M := by
  refine sk_go [(0, .ref (sk_ad g o0)), (1, .ref (sk_ad g o1))] (by decide) (Nat.le_of_ble_eq_true rfl) rfl ?_
  intro p e s m av below meth c C ls hl hM hS
  obtain ⟨hx, hb, hml, hown, hts, hK, hE, hr, hlocks⟩ := id C
  rw [f_X5_present] at h
  refine lv_iconst (v := 0) hx hb dX5_present_0 (by decide) ?_
  refine lv_istore_n (lv' := [(2, .int 0), (0, .ref (sk_ad g o0)), (1, .ref (sk_ad g o1))]) hx hb dX5_present_1 rfl hl (by decide) rfl (fun ls hl => ?_)
  refine lv_iconst (v := 0) hx hb dX5_present_2 (by decide) ?_
  refine lv_istore_n (lv' := [(3, .int 0), (2, .int 0), (0, .ref (sk_ad g o0)), (1, .ref (sk_ad g o1))]) hx hb dX5_present_3 rfl hl (by decide) rfl (fun ls hl => ?_)
  obtain ⟨x_2, h_3, h⟩ := sk_b1E h
  refine w_X5_present_L4 C o0 q0 o1 q1 M sk_FU 0 0 _ _ _ (lv_sub hl [2, 3, 1, 0] rfl) hM hS h_3 (fun y_4 H locs ls he hl hM hS => ?_)
  obtain rfl := Option.some.inj he
  refine lv_iload_n hx hb dX5_present_27 rfl (lv_at hl 0 rfl) ?_
  exact sk_iret C hM hS ⟨Option.some.inj h, rfl⟩ dX5_present_28
theorem dX5_sumOfAll_0 : decode cX5_sumOfAll 0 = .ok (.iconst 0, 1) := by decide +kernel
theorem dX5_sumOfAll_1 : decode cX5_sumOfAll 1 = .ok (.istore_n 1, 1) := by decide +kernel
theorem dX5_sumOfAll_2 : decode cX5_sumOfAll 2 = .ok (.iconst 0, 1) := by decide +kernel
theorem dX5_sumOfAll_3 : decode cX5_sumOfAll 3 = .ok (.istore_n 2, 1) := by decide +kernel
theorem dX5_sumOfAll_4 : decode cX5_sumOfAll 4 = .ok (.iload_n 2, 1) := by decide +kernel
theorem dX5_sumOfAll_5 : decode cX5_sumOfAll 5 = .ok (.aload_n 0, 1) := by decide +kernel
theorem dX5_sumOfAll_6 : decode cX5_sumOfAll 6 = .ok (.getfield 68, 3) := by decide +kernel
theorem dX5_sumOfAll_9 : decode cX5_sumOfAll 9 = .ok (.if_icmp .ge 22, 3) := by decide +kernel
theorem dX5_sumOfAll_12 : decode cX5_sumOfAll 12 = .ok (.iload_n 1, 1) := by decide +kernel
theorem dX5_sumOfAll_13 : decode cX5_sumOfAll 13 = .ok (.aload_n 0, 1) := by decide +kernel
theorem dX5_sumOfAll_14 : decode cX5_sumOfAll 14 = .ok (.aload_n 0, 1) := by decide +kernel
theorem dX5_sumOfAll_15 : decode cX5_sumOfAll 15 = .ok (.getfield 32, 3) := by decide +kernel
theorem dX5_sumOfAll_18 : decode cX5_sumOfAll 18 = .ok (.iload_n 2, 1) := by decide +kernel
theorem dX5_sumOfAll_19 : decode cX5_sumOfAll 19 = .ok (.aaload, 1) := by decide +kernel
theorem dX5_sumOfAll_20 : decode cX5_sumOfAll 20 = .ok (.invokevirtual 109, 3) := by decide +kernel
theorem dX5_sumOfAll_23 : decode cX5_sumOfAll 23 = .ok (.iadd, 1) := by decide +kernel
theorem dX5_sumOfAll_24 : decode cX5_sumOfAll 24 = .ok (.istore_n 1, 1) := by decide +kernel
theorem dX5_sumOfAll_25 : decode cX5_sumOfAll 25 = .ok (.iinc 2 1, 3) := by decide +kernel
theorem dX5_sumOfAll_28 : decode cX5_sumOfAll 28 = .ok (.goto (-24), 3) := by decide +kernel
theorem dX5_sumOfAll_31 : decode cX5_sumOfAll 31 = .ok (.iload_n 1, 1) := by decide +kernel
theorem dX5_sumOfAll_32 : decode cX5_sumOfAll 32 = .ok (.ireturn, 1) := by decide +kernel
set_option maxHeartbeats 4000000 in
set_option maxRecDepth 100000 in
theorem w_X5_sumOfAll_L4 {g : sk_G} {l : Launch} {p : Program} {e : Env} {s : State} {m : MethodId} {av : Array Value} {below : List Frame} {meth : Method} {c : Code} (C : sk_C g p s m av meth c cX5_sumOfAll 3 RX5 (some .int)) (o0 : Nat) (q0 : sk_isW o0) (M : sk_M) {rr : Int32} :
    ∀ (n : Nat) (a1 : Int32) (a2 : Int32) (H : Heap) (locs : List Loc) (ls : Array Slot), lv_has ls 3 [(0, .ref (sk_ad g o0)), (1, .int a1), (2, .int a2)] → sk_P g M H → va_S (sk_A g) s.heap H locs → ∀ {out : Int32}, f_X5_sumOfAll_L4 o0 M n a1 a2 = some out → (∀ (x1 : Int32) (H : Heap) (locs : List Loc) (ls : Array Slot), some x1 = some out → lv_has ls 3 [(1, .int x1)] → sk_P g M H → va_S (sk_A g) s.heap H locs → W p l e (sk_rm 2) s m av below meth c H locs 0 0 (MQ below (sk_QI g rr M) av s 0 0 (sk_A g)) (F0 m 31 ls [])) → W p l e (sk_rm 2) s m av below meth c H locs 0 0 (MQ below (sk_QI g rr M) av s 0 0 (sk_A g)) (F0 m 4 ls []) := by
  obtain ⟨hx, hb, hml, hown, hts, hK, hE, hr, hlocks⟩ := id C
  intro n
  induction n with
  | zero =>
    intro a1 a2 H locs ls hl hM hS out h
    cases h
  | succ n ih =>
    intro a1 a2 H locs ls hl hM hS out h kx
    rw [f_X5_sumOfAll_L4] at h
    refine lv_iload_n hx hb dX5_sumOfAll_4 rfl (lv_at hl 2 rfl) ?_
    refine lv_aload_n hx hb dX5_sumOfAll_5 rfl (lv_at hl 0 rfl) ?_
    refine sk_getI (o := o0) (ci := 5) (j := 12) C hM (sk_isW_kd q0) rfl (by decide) rfl kw_189 dX5_sumOfAll_6 ?_
    refine lv_icmp_ge hx hb dX5_sumOfAll_9 rfl (fun hc => ?_) (fun hc => ?_)
    · have h := sk_pos h hc
      exact kx _ _ _ _ h (lv_sub hl [1] rfl) hM hS
    · have h := sk_neg h hc
      refine lv_iload_n hx hb dX5_sumOfAll_12 rfl (lv_at hl 1 rfl) ?_
      refine lv_aload_n hx hb dX5_sumOfAll_13 rfl (lv_at hl 0 rfl) ?_
      refine lv_aload_n hx hb dX5_sumOfAll_14 rfl (lv_at hl 0 rfl) ?_
      refine sk_getR (o := o0) (ci := 5) (j := 7) (t := (o0 + 7)) C hM (sk_isW_kd q0) rfl (by decide) rfl (sk_isW_r q0 7 (by decide) (by decide)) kw_179 dX5_sumOfAll_15 ?_
      refine lv_iload_n hx hb dX5_sumOfAll_18 rfl (lv_at hl 2 rfl) ?_
      obtain ⟨i_1, h⟩ := sk_chkE h
      refine sk_aald (o := (o0 + 7)) (k := 0) (t := (o0 + 10 + a2.toNatClampNeg)) C hM (sk_isW_k7 q0) (by decide) i_1 (sk_isW_s q0 _) dX5_sumOfAll_19 ?_
      obtain ⟨x_2, h_3, h⟩ := sk_b1E h
      refine sk_contI (sk_runV (As := [.ref (sk_ad g (o0 + 10 + a2.toNatClampNeg))]) (rest := [.int a1]) C (c_X5_sumOf g l o0 q0 (o0 + 10 + a2.toNatClampNeg) (sk_isW_sk q0 (sk_in_lt i_1)) M h_3) yo_X5_sumOf kw_928 (sk_recv (ci := 5) C hM (sk_isW_kd q0) rfl) (by decide) hM hS hl.1 rfl rfl (Nat.le_of_ble_eq_true rfl) dX5_sumOfAll_20) hS (fun H locs hM hS => ?_)
      refine lv_iadd hx hb dX5_sumOfAll_23 ?_
      refine lv_topi (fun x_4 ex_4 => ?_)
      have h := sk_letU h ex_4
      refine lv_istore_n (lv' := [(1, .int x_4), (0, .ref (sk_ad g o0)), (2, .int a2)]) hx hb dX5_sumOfAll_24 rfl hl (by decide) rfl (fun ls hl => ?_)
      refine lv_iinc (v := (a2 + 1)) (lv' := [(2, .int (a2 + 1)), (1, .int x_4), (0, .ref (sk_ad g o0))]) hx hb dX5_sumOfAll_25 hl (k := 2) rfl rfl (by decide) rfl (fun ls hl => ?_)
      refine lv_goto hx hb dX5_sumOfAll_28 rfl ?_
      exact ih x_4 (a2 + 1) _ _ _ (lv_sub hl [2, 1, 0] rfl) hM hS h kx
set_option maxHeartbeats 4000000 in
set_option maxRecDepth 100000 in
theorem c_X5_sumOfAll (g : sk_G) (l : Launch) (o0 : Nat) (q0 : sk_isW o0) (M : sk_M) {rr : Int32} (h : f_X5_sumOfAll o0 M = some rr) : sk_MI g l yX5_sumOfAll cX5_sumOfAll 3 (some .int) 2 [.ref (sk_ad g o0)] M rr M := by
  refine sk_go [(0, .ref (sk_ad g o0))] (by decide) (Nat.le_of_ble_eq_true rfl) rfl ?_
  intro p e s m av below meth c C ls hl hM hS
  obtain ⟨hx, hb, hml, hown, hts, hK, hE, hr, hlocks⟩ := id C
  rw [f_X5_sumOfAll] at h
  refine lv_iconst (v := 0) hx hb dX5_sumOfAll_0 (by decide) ?_
  refine lv_istore_n (lv' := [(1, .int 0), (0, .ref (sk_ad g o0))]) hx hb dX5_sumOfAll_1 rfl hl (by decide) rfl (fun ls hl => ?_)
  refine lv_iconst (v := 0) hx hb dX5_sumOfAll_2 (by decide) ?_
  refine lv_istore_n (lv' := [(2, .int 0), (1, .int 0), (0, .ref (sk_ad g o0))]) hx hb dX5_sumOfAll_3 rfl hl (by decide) rfl (fun ls hl => ?_)
  obtain ⟨x_5, h_6, h⟩ := sk_b1E h
  refine w_X5_sumOfAll_L4 C o0 q0 M sk_FU 0 0 _ _ _ (lv_sub hl [2, 1, 0] rfl) hM hS h_6 (fun y_7 H locs ls he hl hM hS => ?_)
  obtain rfl := Option.some.inj he
  refine lv_iload_n hx hb dX5_sumOfAll_31 rfl (lv_at hl 0 rfl) ?_
  exact sk_iret C hM hS ⟨Option.some.inj h, rfl⟩ dX5_sumOfAll_32
theorem dX5_fadings_0 : decode cX5_fadings 0 = .ok (.aload_n 0, 1) := by decide +kernel
theorem dX5_fadings_1 : decode cX5_fadings 1 = .ok (.getfield 9, 3) := by decide +kernel
theorem dX5_fadings_4 : decode cX5_fadings 4 = .ok (.iload_n 1, 1) := by decide +kernel
theorem dX5_fadings_5 : decode cX5_fadings 5 = .ok (.iaload, 1) := by decide +kernel
theorem dX5_fadings_6 : decode cX5_fadings 6 = .ok (.iconst 5, 1) := by decide +kernel
theorem dX5_fadings_7 : decode cX5_fadings 7 = .ok (.if_icmp .ne 21, 3) := by decide +kernel
theorem dX5_fadings_10 : decode cX5_fadings 10 = .ok (.aload_n 0, 1) := by decide +kernel
theorem dX5_fadings_11 : decode cX5_fadings 11 = .ok (.getfield 74, 3) := by decide +kernel
theorem dX5_fadings_14 : decode cX5_fadings 14 = .ok (.iload_n 2, 1) := by decide +kernel
theorem dX5_fadings_15 : decode cX5_fadings 15 = .ok (.iadd, 1) := by decide +kernel
theorem dX5_fadings_16 : decode cX5_fadings 16 = .ok (.iconst 2, 1) := by decide +kernel
theorem dX5_fadings_17 : decode cX5_fadings 17 = .ok (.idiv, 1) := by decide +kernel
theorem dX5_fadings_18 : decode cX5_fadings 18 = .ok (.aload_n 0, 1) := by decide +kernel
theorem dX5_fadings_19 : decode cX5_fadings 19 = .ok (.getfield 74, 3) := by decide +kernel
theorem dX5_fadings_22 : decode cX5_fadings 22 = .ok (.iconst 2, 1) := by decide +kernel
theorem dX5_fadings_23 : decode cX5_fadings 23 = .ok (.idiv, 1) := by decide +kernel
theorem dX5_fadings_24 : decode cX5_fadings 24 = .ok (.isub, 1) := by decide +kernel
theorem dX5_fadings_25 : decode cX5_fadings 25 = .ok (.goto 4, 3) := by decide +kernel
theorem dX5_fadings_28 : decode cX5_fadings 28 = .ok (.iload_n 2, 1) := by decide +kernel
theorem dX5_fadings_29 : decode cX5_fadings 29 = .ok (.ireturn, 1) := by decide +kernel
set_option maxHeartbeats 4000000 in
set_option maxRecDepth 100000 in
theorem c_X5_fadings (g : sk_G) (l : Launch) (o0 : Nat) (q0 : sk_isW o0) (a1 : Int32) (a2 : Int32) (M : sk_M) {rr : Int32} (h : f_X5_fadings o0 a1 a2 M = some rr) : sk_MI g l yX5_fadings cX5_fadings 3 (some .int) 1 [.ref (sk_ad g o0), .int a1, .int a2] M rr M := by
  refine sk_go [(0, .ref (sk_ad g o0)), (1, .int a1), (2, .int a2)] (by decide) (Nat.le_of_ble_eq_true rfl) rfl ?_
  intro p e s m av below meth c C ls hl hM hS
  obtain ⟨hx, hb, hml, hown, hts, hK, hE, hr, hlocks⟩ := id C
  rw [f_X5_fadings] at h
  refine lv_aload_n hx hb dX5_fadings_0 rfl (lv_at hl 0 rfl) ?_
  refine sk_getR (o := o0) (ci := 5) (j := 1) (t := (o0 + 1)) C hM (sk_isW_kd q0) rfl (by decide) rfl (sk_isW_r q0 1 (by decide) (by decide)) kw_166 dX5_fadings_1 ?_
  refine lv_iload_n hx hb dX5_fadings_4 rfl (lv_at hl 1 rfl) ?_
  obtain ⟨i_1, h⟩ := sk_chkE h
  refine sk_iald (o := (o0 + 1)) C hM (sk_isW_k1 q0) i_1 dX5_fadings_5 ?_
  refine lv_iconst (v := 5) hx hb dX5_fadings_6 (by decide) ?_
  have J : ∀ (vv : Int32) (H : Heap) (locs : List Loc), (if (M (o0 + 1) a1.toNatClampNeg) = 5 then ((((M o0 14) + a2) / 2) - ((M o0 14) / 2)) else a2 : Int32) = vv → sk_P g M H → va_S (sk_A g) s.heap H locs → W p l e (sk_rm 1) s m av below meth c H locs 0 0 (MQ below (sk_QI g rr M) av s 0 0 (sk_A g)) (F0 m 29 ls [.int vv]) := by
    intro vv H locs hvv hM hS
    subst hvv
    exact sk_iret C hM hS ⟨Option.some.inj h, rfl⟩ dX5_fadings_29
  refine lv_icmp_ne hx hb dX5_fadings_7 rfl (fun hc => ?_) (fun hc => ?_)
  · have J := fun vv H locs q => J vv H locs ((if_neg hc).trans q)
    refine lv_iload_n hx hb dX5_fadings_28 rfl (lv_at hl 2 rfl) ?_
    exact J _ _ _ rfl hM hS
  · have J := fun vv H locs q => J vv H locs ((if_pos hc).trans q)
    refine lv_aload_n hx hb dX5_fadings_10 rfl (lv_at hl 0 rfl) ?_
    refine sk_getI (o := o0) (ci := 5) (j := 14) C hM (sk_isW_kd q0) rfl (by decide) rfl kw_194 dX5_fadings_11 ?_
    refine lv_iload_n hx hb dX5_fadings_14 rfl (lv_at hl 2 rfl) ?_
    refine lv_iadd hx hb dX5_fadings_15 ?_
    refine lv_iconst (v := 2) hx hb dX5_fadings_16 (by decide) ?_
    refine lv_idiv hx hb dX5_fadings_17 (by decide) ?_
    refine lv_aload_n hx hb dX5_fadings_18 rfl (lv_at hl 0 rfl) ?_
    refine sk_getI (o := o0) (ci := 5) (j := 14) C hM (sk_isW_kd q0) rfl (by decide) rfl kw_194 dX5_fadings_19 ?_
    refine lv_iconst (v := 2) hx hb dX5_fadings_22 (by decide) ?_
    refine lv_idiv hx hb dX5_fadings_23 (by decide) ?_
    refine lv_isub hx hb dX5_fadings_24 ?_
    refine lv_goto hx hb dX5_fadings_25 rfl ?_
    exact J _ _ _ rfl hM hS
theorem dX5_leastLeft_0 : decode cX5_leastLeft 0 = .ok (.bipush 100, 2) := by decide +kernel
theorem dX5_leastLeft_2 : decode cX5_leastLeft 2 = .ok (.istore 5, 2) := by decide +kernel
theorem dX5_leastLeft_4 : decode cX5_leastLeft 4 = .ok (.iconst 1, 1) := by decide +kernel
theorem dX5_leastLeft_5 : decode cX5_leastLeft 5 = .ok (.istore 6, 2) := by decide +kernel
theorem dX5_leastLeft_7 : decode cX5_leastLeft 7 = .ok (.aload_n 0, 1) := by decide +kernel
theorem dX5_leastLeft_8 : decode cX5_leastLeft 8 = .ok (.iload_n 1, 1) := by decide +kernel
theorem dX5_leastLeft_9 : decode cX5_leastLeft 9 = .ok (.iload 4, 2) := by decide +kernel
theorem dX5_leastLeft_11 : decode cX5_leastLeft 11 = .ok (.invokevirtual 113, 3) := by decide +kernel
theorem dX5_leastLeft_14 : decode cX5_leastLeft 14 = .ok (.istore 7, 2) := by decide +kernel
theorem dX5_leastLeft_16 : decode cX5_leastLeft 16 = .ok (.iload_n 3, 1) := by decide +kernel
theorem dX5_leastLeft_17 : decode cX5_leastLeft 17 = .ok (.istore 8, 2) := by decide +kernel
theorem dX5_leastLeft_19 : decode cX5_leastLeft 19 = .ok (.iload 8, 2) := by decide +kernel
theorem dX5_leastLeft_21 : decode cX5_leastLeft 21 = .ok (.sipush 999, 3) := by decide +kernel
theorem dX5_leastLeft_24 : decode cX5_leastLeft 24 = .ok (.if_icmp .gt 84, 3) := by decide +kernel
theorem dX5_leastLeft_27 : decode cX5_leastLeft 27 = .ok (.iload 8, 2) := by decide +kernel
theorem dX5_leastLeft_29 : decode cX5_leastLeft 29 = .ok (.aload_n 0, 1) := by decide +kernel
theorem dX5_leastLeft_30 : decode cX5_leastLeft 30 = .ok (.iload_n 1, 1) := by decide +kernel
theorem dX5_leastLeft_31 : decode cX5_leastLeft 31 = .ok (.iload 8, 2) := by decide +kernel
theorem dX5_leastLeft_33 : decode cX5_leastLeft 33 = .ok (.iload_n 2, 1) := by decide +kernel
theorem dX5_leastLeft_34 : decode cX5_leastLeft 34 = .ok (.iload 6, 2) := by decide +kernel
theorem dX5_leastLeft_36 : decode cX5_leastLeft 36 = .ok (.invokevirtual 94, 3) := by decide +kernel
theorem dX5_leastLeft_39 : decode cX5_leastLeft 39 = .ok (.isub, 1) := by decide +kernel
theorem dX5_leastLeft_40 : decode cX5_leastLeft 40 = .ok (.istore 9, 2) := by decide +kernel
theorem dX5_leastLeft_42 : decode cX5_leastLeft 42 = .ok (.iload 9, 2) := by decide +kernel
theorem dX5_leastLeft_44 : decode cX5_leastLeft 44 = .ok (.iload 8, 2) := by decide +kernel
theorem dX5_leastLeft_46 : decode cX5_leastLeft 46 = .ok (.if_icmp .ne 15, 3) := by decide +kernel
theorem dX5_leastLeft_49 : decode cX5_leastLeft 49 = .ok (.aload_n 0, 1) := by decide +kernel
theorem dX5_leastLeft_50 : decode cX5_leastLeft 50 = .ok (.getfield 38, 3) := by decide +kernel
theorem dX5_leastLeft_53 : decode cX5_leastLeft 53 = .ok (.iload 8, 2) := by decide +kernel
theorem dX5_leastLeft_55 : decode cX5_leastLeft 55 = .ok (.iload 5, 2) := by decide +kernel
theorem dX5_leastLeft_57 : decode cX5_leastLeft 57 = .ok (.iastore, 1) := by decide +kernel
theorem dX5_leastLeft_58 : decode cX5_leastLeft 58 = .ok (.goto 29, 3) := by decide +kernel
theorem dX5_leastLeft_61 : decode cX5_leastLeft 61 = .ok (.aload_n 0, 1) := by decide +kernel
theorem dX5_leastLeft_62 : decode cX5_leastLeft 62 = .ok (.getfield 38, 3) := by decide +kernel
theorem dX5_leastLeft_65 : decode cX5_leastLeft 65 = .ok (.iload 8, 2) := by decide +kernel
theorem dX5_leastLeft_67 : decode cX5_leastLeft 67 = .ok (.iload 9, 2) := by decide +kernel
theorem dX5_leastLeft_69 : decode cX5_leastLeft 69 = .ok (.iload_n 3, 1) := by decide +kernel
theorem dX5_leastLeft_70 : decode cX5_leastLeft 70 = .ok (.if_icmp .ge 7, 3) := by decide +kernel
theorem dX5_leastLeft_73 : decode cX5_leastLeft 73 = .ok (.iconst 0, 1) := by decide +kernel
theorem dX5_leastLeft_74 : decode cX5_leastLeft 74 = .ok (.goto 12, 3) := by decide +kernel
theorem dX5_leastLeft_77 : decode cX5_leastLeft 77 = .ok (.aload_n 0, 1) := by decide +kernel
theorem dX5_leastLeft_78 : decode cX5_leastLeft 78 = .ok (.getfield 38, 3) := by decide +kernel
theorem dX5_leastLeft_81 : decode cX5_leastLeft 81 = .ok (.iload 9, 2) := by decide +kernel
theorem dX5_leastLeft_83 : decode cX5_leastLeft 83 = .ok (.iaload, 1) := by decide +kernel
theorem dX5_leastLeft_84 : decode cX5_leastLeft 84 = .ok (.iconst 1, 1) := by decide +kernel
theorem dX5_leastLeft_85 : decode cX5_leastLeft 85 = .ok (.iadd, 1) := by decide +kernel
theorem dX5_leastLeft_86 : decode cX5_leastLeft 86 = .ok (.iastore, 1) := by decide +kernel
theorem dX5_leastLeft_87 : decode cX5_leastLeft 87 = .ok (.aload_n 0, 1) := by decide +kernel
theorem dX5_leastLeft_88 : decode cX5_leastLeft 88 = .ok (.getfield 38, 3) := by decide +kernel
theorem dX5_leastLeft_91 : decode cX5_leastLeft 91 = .ok (.iload 8, 2) := by decide +kernel
theorem dX5_leastLeft_93 : decode cX5_leastLeft 93 = .ok (.iaload, 1) := by decide +kernel
theorem dX5_leastLeft_94 : decode cX5_leastLeft 94 = .ok (.iload 7, 2) := by decide +kernel
theorem dX5_leastLeft_96 : decode cX5_leastLeft 96 = .ok (.if_icmp .lt 6, 3) := by decide +kernel
theorem dX5_leastLeft_99 : decode cX5_leastLeft 99 = .ok (.iload 8, 2) := by decide +kernel
theorem dX5_leastLeft_101 : decode cX5_leastLeft 101 = .ok (.ireturn, 1) := by decide +kernel
theorem dX5_leastLeft_102 : decode cX5_leastLeft 102 = .ok (.iinc 8 1, 3) := by decide +kernel
theorem dX5_leastLeft_105 : decode cX5_leastLeft 105 = .ok (.goto (-86), 3) := by decide +kernel
theorem dX5_leastLeft_108 : decode cX5_leastLeft 108 = .ok (.ldc 51, 2) := by decide +kernel
theorem dX5_leastLeft_110 : decode cX5_leastLeft 110 = .ok (.ireturn, 1) := by decide +kernel
set_option maxHeartbeats 4000000 in
set_option maxRecDepth 100000 in
theorem w_X5_leastLeft_L19 {g : sk_G} {l : Launch} {p : Program} {e : Env} {s : State} {m : MethodId} {av : Array Value} {below : List Frame} {meth : Method} {c : Code} (C : sk_C g p s m av meth c cX5_leastLeft 10 RX5 (some .int)) (o0 : Nat) (q0 : sk_isW o0) (a1 : Int32) (a2 : Int32) (a3 : Int32) (a5 : Int32) (a6 : Int32) (a7 : Int32) {rr : Int32} {MM : sk_M} :
    ∀ (n : Nat) (a8 : Int32) (M : sk_M) (H : Heap) (locs : List Loc) (ls : Array Slot), lv_has ls 10 [(0, .ref (sk_ad g o0)), (1, .int a1), (2, .int a2), (3, .int a3), (5, .int a5), (6, .int a6), (7, .int a7), (8, .int a8)] → sk_P g M H → va_S (sk_A g) s.heap H locs → ∀ {out : (Int32 × sk_M) ⊕ (sk_M)}, f_X5_leastLeft_L19 o0 a1 a2 a3 a5 a6 a7 n a8 M = some out → (∀ r, out = Sum.inl r → some r = some (rr, MM)) → (∀ (M1 : sk_M) (H : Heap) (locs : List Loc) (ls : Array Slot), some (Sum.inr M1) = some out → lv_has ls 10 [] → sk_P g M1 H → va_S (sk_A g) s.heap H locs → W p l e (sk_rm 4) s m av below meth c H locs 0 0 (MQ below (sk_QI g rr MM) av s 0 0 (sk_A g)) (F0 m 108 ls [])) → W p l e (sk_rm 4) s m av below meth c H locs 0 0 (MQ below (sk_QI g rr MM) av s 0 0 (sk_A g)) (F0 m 19 ls []) := by
  obtain ⟨hx, hb, hml, hown, hts, hK, hE, hr, hlocks⟩ := id C
  intro n
  induction n with
  | zero =>
    intro a8 M H locs ls hl hM hS out h
    cases h
  | succ n ih =>
    intro a8 M H locs ls hl hM hS out h kr kx
    rw [f_X5_leastLeft_L19] at h
    refine lv_iload hx hb dX5_leastLeft_19 (lv_at hl 7 rfl) ?_
    refine lv_sipush (v := 999) hx hb dX5_leastLeft_21 (by decide) ?_
    refine lv_icmp_gt hx hb dX5_leastLeft_24 rfl (fun hc => ?_) (fun hc => ?_)
    · have h := sk_pos h hc
      exact kx _ _ _ _ h (lv_sub hl [] rfl) hM hS
    · have h := sk_neg h hc
      refine lv_iload hx hb dX5_leastLeft_27 (lv_at hl 7 rfl) ?_
      refine lv_aload_n hx hb dX5_leastLeft_29 rfl (lv_at hl 0 rfl) ?_
      refine lv_iload_n hx hb dX5_leastLeft_30 rfl (lv_at hl 1 rfl) ?_
      refine lv_iload hx hb dX5_leastLeft_31 (lv_at hl 7 rfl) ?_
      refine lv_iload_n hx hb dX5_leastLeft_33 rfl (lv_at hl 2 rfl) ?_
      refine lv_iload hx hb dX5_leastLeft_34 (lv_at hl 5 rfl) ?_
      obtain ⟨x_3, M_4, h_5, h⟩ := sk_b2E h
      refine sk_contI (sk_runV (As := [.int a1, .int a8, .int a2, .int a6]) (rest := [.int a8]) C (c_X5_loss g l o0 q0 a1 a8 a2 a6 M h_5) yo_X5_loss kw_492 (sk_recv (ci := 5) C hM (sk_isW_kd q0) rfl) (by decide) hM hS hl.1 rfl rfl (Nat.le_of_ble_eq_true rfl) dX5_leastLeft_36) hS (fun H locs hM hS => ?_)
      refine lv_isub hx hb dX5_leastLeft_39 ?_
      refine lv_topi (fun x_6 ex_6 => ?_)
      have h := sk_letU h ex_6
      refine lv_istore (lv' := [(9, .int x_6), (0, .ref (sk_ad g o0)), (1, .int a1), (2, .int a2), (3, .int a3), (5, .int a5), (6, .int a6), (7, .int a7), (8, .int a8)]) hx hb dX5_leastLeft_40 hl (by decide) rfl (fun ls hl => ?_)
      refine lv_iload hx hb dX5_leastLeft_42 (lv_at hl 0 rfl) ?_
      refine lv_iload hx hb dX5_leastLeft_44 (lv_at hl 8 rfl) ?_
      obtain ⟨y0_7, h_7, kg_7⟩ := sk_b1E h
      have J_7 : ∀ (M_15 : sk_M) (H : Heap) (locs : List Loc) (ls : Array Slot), some M_15 = some y0_7 → lv_has ls 10 [(0, .ref (sk_ad g o0)), (1, .int a1), (2, .int a2), (3, .int a3), (5, .int a5), (6, .int a6), (7, .int a7), (8, .int a8)] → sk_P g M_15 H → va_S (sk_A g) s.heap H locs → W p l e (sk_rm 4) s m av below meth c H locs 0 0 (MQ below (sk_QI g rr MM) av s 0 0 (sk_A g)) (F0 m 87 ls []) := by
        intro M_15 H locs ls he hl hM hS
        obtain rfl := Option.some.inj he
        have h := kg_7
        refine lv_aload_n hx hb dX5_leastLeft_87 rfl (lv_at hl 0 rfl) ?_
        refine sk_getR (o := o0) (ci := 5) (j := 9) (t := (o0 + 9)) C hM (sk_isW_kd q0) rfl (by decide) rfl (sk_isW_r q0 9 (by decide) (by decide)) kw_184 dX5_leastLeft_88 ?_
        refine lv_iload hx hb dX5_leastLeft_91 (lv_at hl 7 rfl) ?_
        obtain ⟨i_16, h⟩ := sk_chkE h
        refine sk_iald (o := (o0 + 9)) C hM (sk_isW_k9 q0) i_16 dX5_leastLeft_93 ?_
        refine lv_iload hx hb dX5_leastLeft_94 (lv_at hl 6 rfl) ?_
        refine lv_icmp_lt hx hb dX5_leastLeft_96 rfl (fun hc => ?_) (fun hc => ?_)
        · have h := sk_pos h hc
          refine lv_iinc (v := (a8 + 1)) (lv' := [(8, .int (a8 + 1)), (0, .ref (sk_ad g o0)), (1, .int a1), (2, .int a2), (3, .int a3), (5, .int a5), (6, .int a6), (7, .int a7)]) hx hb dX5_leastLeft_102 hl (k := 7) rfl rfl (by decide) rfl (fun ls hl => ?_)
          refine lv_goto hx hb dX5_leastLeft_105 rfl ?_
          exact ih (a8 + 1) M_15 _ _ _ (lv_sub hl [1, 2, 3, 4, 5, 6, 7, 0] rfl) hM hS h kr kx
        · have h := sk_neg h hc
          refine lv_iload hx hb dX5_leastLeft_99 (lv_at hl 7 rfl) ?_
          have h := kr _ (Option.some.inj h).symm
          exact sk_iret C hM hS (sk_e2 h) dX5_leastLeft_101
      have h := h_7
      refine lv_icmp_ne hx hb dX5_leastLeft_46 rfl (fun hc => ?_) (fun hc => ?_)
      · have h := sk_neg h hc
        refine lv_aload_n hx hb dX5_leastLeft_61 rfl (lv_at hl 1 rfl) ?_
        refine sk_getR (o := o0) (ci := 5) (j := 9) (t := (o0 + 9)) C hM (sk_isW_kd q0) rfl (by decide) rfl (sk_isW_r q0 9 (by decide) (by decide)) kw_184 dX5_leastLeft_62 ?_
        refine lv_iload hx hb dX5_leastLeft_65 (lv_at hl 8 rfl) ?_
        refine lv_iload hx hb dX5_leastLeft_67 (lv_at hl 0 rfl) ?_
        refine lv_iload_n hx hb dX5_leastLeft_69 rfl (lv_at hl 4 rfl) ?_
        refine lv_icmp_ge hx hb dX5_leastLeft_70 rfl (fun hc => ?_) (fun hc => ?_)
        · have h := sk_pos h hc
          refine lv_aload_n hx hb dX5_leastLeft_77 rfl (lv_at hl 1 rfl) ?_
          refine sk_getR (o := o0) (ci := 5) (j := 9) (t := (o0 + 9)) C hM (sk_isW_kd q0) rfl (by decide) rfl (sk_isW_r q0 9 (by decide) (by decide)) kw_184 dX5_leastLeft_78 ?_
          refine lv_iload hx hb dX5_leastLeft_81 (lv_at hl 0 rfl) ?_
          obtain ⟨i_8, h⟩ := sk_chkE h
          refine sk_iald (o := (o0 + 9)) C hM (sk_isW_k9 q0) i_8 dX5_leastLeft_83 ?_
          refine lv_iconst (v := 1) hx hb dX5_leastLeft_84 (by decide) ?_
          refine lv_iadd hx hb dX5_leastLeft_85 ?_
          obtain ⟨i_9, h⟩ := sk_chkE h
          refine sk_iast (o := (o0 + 9)) C hM hS (sk_isW_k9 q0) i_9 dX5_leastLeft_86 (fun M_10 eM_10 H locs hM hS => ?_)
          have h := sk_letU h eM_10
          exact J_7 _ _ _ _ h (lv_sub hl [1, 2, 3, 4, 5, 6, 7, 8] rfl) hM hS
        · have h := sk_neg h hc
          refine lv_iconst (v := 0) hx hb dX5_leastLeft_73 (by decide) ?_
          refine lv_goto hx hb dX5_leastLeft_74 rfl ?_
          obtain ⟨i_11, h⟩ := sk_chkE h
          refine sk_iast (o := (o0 + 9)) C hM hS (sk_isW_k9 q0) i_11 dX5_leastLeft_86 (fun M_12 eM_12 H locs hM hS => ?_)
          have h := sk_letU h eM_12
          exact J_7 _ _ _ _ h (lv_sub hl [1, 2, 3, 4, 5, 6, 7, 8] rfl) hM hS
      · have h := sk_pos h hc
        refine lv_aload_n hx hb dX5_leastLeft_49 rfl (lv_at hl 1 rfl) ?_
        refine sk_getR (o := o0) (ci := 5) (j := 9) (t := (o0 + 9)) C hM (sk_isW_kd q0) rfl (by decide) rfl (sk_isW_r q0 9 (by decide) (by decide)) kw_184 dX5_leastLeft_50 ?_
        refine lv_iload hx hb dX5_leastLeft_53 (lv_at hl 8 rfl) ?_
        refine lv_iload hx hb dX5_leastLeft_55 (lv_at hl 5 rfl) ?_
        obtain ⟨i_13, h⟩ := sk_chkE h
        refine sk_iast (o := (o0 + 9)) C hM hS (sk_isW_k9 q0) i_13 dX5_leastLeft_57 (fun M_14 eM_14 H locs hM hS => ?_)
        have h := sk_letU h eM_14
        refine lv_goto hx hb dX5_leastLeft_58 rfl ?_
        exact J_7 _ _ _ _ h (lv_sub hl [1, 2, 3, 4, 5, 6, 7, 8] rfl) hM hS
set_option maxHeartbeats 4000000 in
set_option maxRecDepth 100000 in
theorem c_X5_leastLeft (g : sk_G) (l : Launch) (o0 : Nat) (q0 : sk_isW o0) (a1 : Int32) (a2 : Int32) (a3 : Int32) (a4 : Int32) (M : sk_M) {rr : Int32} {MM : sk_M} (h : f_X5_leastLeft o0 a1 a2 a3 a4 M = some (rr, MM)) : sk_MI g l yX5_leastLeft cX5_leastLeft 10 (some .int) 4 [.ref (sk_ad g o0), .int a1, .int a2, .int a3, .int a4] M rr MM := by
  refine sk_go [(0, .ref (sk_ad g o0)), (1, .int a1), (2, .int a2), (3, .int a3), (4, .int a4)] (by decide) (Nat.le_of_ble_eq_true rfl) rfl ?_
  intro p e s m av below meth c C ls hl hM hS
  obtain ⟨hx, hb, hml, hown, hts, hK, hE, hr, hlocks⟩ := id C
  rw [f_X5_leastLeft] at h
  refine lv_bipush (v := 100) hx hb dX5_leastLeft_0 (by decide) ?_
  refine lv_istore (lv' := [(5, .int 100), (0, .ref (sk_ad g o0)), (1, .int a1), (2, .int a2), (3, .int a3), (4, .int a4)]) hx hb dX5_leastLeft_2 hl (by decide) rfl (fun ls hl => ?_)
  refine lv_iconst (v := 1) hx hb dX5_leastLeft_4 (by decide) ?_
  refine lv_istore (lv' := [(6, .int 1), (5, .int 100), (0, .ref (sk_ad g o0)), (1, .int a1), (2, .int a2), (3, .int a3), (4, .int a4)]) hx hb dX5_leastLeft_5 hl (by decide) rfl (fun ls hl => ?_)
  refine lv_aload_n hx hb dX5_leastLeft_7 rfl (lv_at hl 2 rfl) ?_
  refine lv_iload_n hx hb dX5_leastLeft_8 rfl (lv_at hl 3 rfl) ?_
  refine lv_iload hx hb dX5_leastLeft_9 (lv_at hl 6 rfl) ?_
  obtain ⟨x_1, h_2, h⟩ := sk_b1E h
  refine sk_contI (sk_runV (As := [.int a1, .int a4]) (rest := []) C (c_X5_fadings g l o0 q0 a1 a4 M h_2) yo_X5_fadings kw_580 (sk_recv (ci := 5) C hM (sk_isW_kd q0) rfl) (by decide) hM hS hl.1 rfl rfl (Nat.le_of_ble_eq_true rfl) dX5_leastLeft_11) hS (fun H locs hM hS => ?_)
  refine lv_istore (lv' := [(7, .int x_1), (6, .int 1), (5, .int 100), (0, .ref (sk_ad g o0)), (1, .int a1), (2, .int a2), (3, .int a3), (4, .int a4)]) hx hb dX5_leastLeft_14 hl (by decide) rfl (fun ls hl => ?_)
  refine lv_iload_n hx hb dX5_leastLeft_16 rfl (lv_at hl 6 rfl) ?_
  refine lv_istore (lv' := [(8, .int a3), (7, .int x_1), (6, .int 1), (5, .int 100), (0, .ref (sk_ad g o0)), (1, .int a1), (2, .int a2), (3, .int a3), (4, .int a4)]) hx hb dX5_leastLeft_17 hl (by decide) rfl (fun ls hl => ?_)
  obtain ⟨out_19, h_18, kf_20, kg_21⟩ := sk_s1E h
  refine w_X5_leastLeft_L19 C o0 q0 a1 a2 a3 100 1 x_1 sk_FU a3 M _ _ _ (lv_sub hl [4, 5, 6, 7, 3, 2, 1, 0] rfl) hM hS h_18 kf_20 (fun M_17 H locs ls he hl hM hS => ?_)
  have h := kg_21 M_17 (Option.some.inj he).symm
  refine lv_ldc (v := (-1000000005)) hx hb hown (hts _ kw_164) dX5_leastLeft_108 ?_
  exact sk_iret C hM hS (sk_e2 h) dX5_leastLeft_110
theorem dX6_within_0 : decode cX6_within 0 = .ok (.iload_n 0, 1) := by decide +kernel
theorem dX6_within_1 : decode cX6_within 1 = .ok (.iload_n 1, 1) := by decide +kernel
theorem dX6_within_2 : decode cX6_within 2 = .ok (.if_icmp .lt 12, 3) := by decide +kernel
theorem dX6_within_5 : decode cX6_within 5 = .ok (.iload_n 0, 1) := by decide +kernel
theorem dX6_within_6 : decode cX6_within 6 = .ok (.iload_n 2, 1) := by decide +kernel
theorem dX6_within_7 : decode cX6_within 7 = .ok (.if_icmp .gt 7, 3) := by decide +kernel
theorem dX6_within_10 : decode cX6_within 10 = .ok (.iconst 1, 1) := by decide +kernel
theorem dX6_within_11 : decode cX6_within 11 = .ok (.goto 4, 3) := by decide +kernel
theorem dX6_within_14 : decode cX6_within 14 = .ok (.iconst 0, 1) := by decide +kernel
theorem dX6_within_15 : decode cX6_within 15 = .ok (.ireturn, 1) := by decide +kernel
set_option maxHeartbeats 4000000 in
set_option maxRecDepth 100000 in
theorem c_X6_within (g : sk_G) (l : Launch) (a0 : Int32) (a1 : Int32) (a2 : Int32) (M : sk_M) {rr : Int32} (h : f_X6_within a0 a1 a2 = rr) : sk_MI g l yX6_within cX6_within 3 (some .boolean) 1 [.int a0, .int a1, .int a2] M rr M := by
  refine sk_go [(0, .int a0), (1, .int a1), (2, .int a2)] (by decide) (Nat.le_of_ble_eq_true rfl) rfl ?_
  intro p e s m av below meth c C ls hl hM hS
  obtain ⟨hx, hb, hml, hown, hts, hK, hE, hr, hlocks⟩ := id C
  rw [f_X6_within] at h
  refine lv_iload_n hx hb dX6_within_0 rfl (lv_at hl 0 rfl) ?_
  refine lv_iload_n hx hb dX6_within_1 rfl (lv_at hl 1 rfl) ?_
  have J : ∀ (vv : Int32) (H : Heap) (locs : List Loc), (if a0 < a1 then 0 else (if a2 < a0 then 0 else 1 : Int32) : Int32) = vv → sk_P g M H → va_S (sk_A g) s.heap H locs → W p l e (sk_rm 1) s m av below meth c H locs 0 0 (MQ below (sk_QI g rr M) av s 0 0 (sk_A g)) (F0 m 15 ls [.int vv]) := by
    intro vv H locs hvv hM hS
    subst hvv
    exact sk_zret C hM hS (sk_nz (sk_zi (Or.inl rfl) (sk_zi (Or.inl rfl) (Or.inr rfl)))) ⟨h, rfl⟩ dX6_within_15
  refine lv_icmp_lt hx hb dX6_within_2 rfl (fun hc => ?_) (fun hc => ?_)
  · have J := fun vv H locs q => J vv H locs ((if_pos hc).trans q)
    refine lv_iconst (v := 0) hx hb dX6_within_14 (by decide) ?_
    exact J _ _ _ rfl hM hS
  · have J := fun vv H locs q => J vv H locs ((if_neg hc).trans q)
    refine lv_iload_n hx hb dX6_within_5 rfl (lv_at hl 0 rfl) ?_
    refine lv_iload_n hx hb dX6_within_6 rfl (lv_at hl 2 rfl) ?_
    refine lv_icmp_gt hx hb dX6_within_7 rfl (fun hc => ?_) (fun hc => ?_)
    · have J := fun vv H locs q => J vv H locs ((if_pos hc).trans q)
      refine lv_iconst (v := 0) hx hb dX6_within_14 (by decide) ?_
      exact J _ _ _ rfl hM hS
    · have J := fun vv H locs q => J vv H locs ((if_neg hc).trans q)
      refine lv_iconst (v := 1) hx hb dX6_within_10 (by decide) ?_
      refine lv_goto hx hb dX6_within_11 rfl ?_
      exact J _ _ _ rfl hM hS
theorem dX6_isKind_0 : decode cX6_isKind 0 = .ok (.iload_n 0, 1) := by decide +kernel
theorem dX6_isKind_1 : decode cX6_isKind 1 = .ok (.iconst 0, 1) := by decide +kernel
theorem dX6_isKind_2 : decode cX6_isKind 2 = .ok (.iconst 5, 1) := by decide +kernel
theorem dX6_isKind_3 : decode cX6_isKind 3 = .ok (.invokestatic 75, 3) := by decide +kernel
theorem dX6_isKind_6 : decode cX6_isKind 6 = .ok (.ireturn, 1) := by decide +kernel
set_option maxHeartbeats 4000000 in
set_option maxRecDepth 100000 in
theorem c_X6_isKind (g : sk_G) (l : Launch) (a0 : Int32) (M : sk_M) {rr : Int32} (h : f_X6_isKind a0 = rr) : sk_MI g l yX6_isKind cX6_isKind 1 (some .boolean) 2 [.int a0] M rr M := by
  refine sk_go [(0, .int a0)] (by decide) (Nat.le_of_ble_eq_true rfl) rfl ?_
  intro p e s m av below meth c C ls hl hM hS
  obtain ⟨hx, hb, hml, hown, hts, hK, hE, hr, hlocks⟩ := id C
  rw [f_X6_isKind] at h
  refine lv_iload_n hx hb dX6_isKind_0 rfl (lv_at hl 0 rfl) ?_
  refine lv_iconst (v := 0) hx hb dX6_isKind_1 (by decide) ?_
  refine lv_iconst (v := 5) hx hb dX6_isKind_2 (by decide) ?_
  refine sk_contI (sk_runS (As := [.int a0, .int 0, .int 5]) (rest := []) C (c_X6_within g l a0 0 5 M rfl) yo_X6_within kw_344 (by decide) hM hS hl.1 rfl rfl (Nat.le_of_ble_eq_true rfl) dX6_isKind_3) hS (fun H locs hM hS => ?_)
  exact sk_zret C hM hS (sk_nz (fz_X6_within a0 0 5)) ⟨h, rfl⟩ dX6_isKind_6
theorem dX6_scent_0 : decode cX6_scent 0 = .ok (.iload_n 1, 1) := by decide +kernel
theorem dX6_scent_1 : decode cX6_scent 1 = .ok (.invokestatic 71, 3) := by decide +kernel
theorem dX6_scent_4 : decode cX6_scent 4 = .ok (.ifCond .eq 13, 3) := by decide +kernel
theorem dX6_scent_7 : decode cX6_scent 7 = .ok (.iload_n 2, 1) := by decide +kernel
theorem dX6_scent_8 : decode cX6_scent 8 = .ok (.iconst 0, 1) := by decide +kernel
theorem dX6_scent_9 : decode cX6_scent 9 = .ok (.bipush 50, 2) := by decide +kernel
theorem dX6_scent_11 : decode cX6_scent 11 = .ok (.invokestatic 75, 3) := by decide +kernel
theorem dX6_scent_14 : decode cX6_scent 14 = .ok (.ifCond .ne 6, 3) := by decide +kernel
theorem dX6_scent_17 : decode cX6_scent 17 = .ok (.ldc 79, 2) := by decide +kernel
theorem dX6_scent_19 : decode cX6_scent 19 = .ok (.ireturn, 1) := by decide +kernel
theorem dX6_scent_20 : decode cX6_scent 20 = .ok (.aload_n 0, 1) := by decide +kernel
theorem dX6_scent_21 : decode cX6_scent 21 = .ok (.getfield 28, 3) := by decide +kernel
theorem dX6_scent_24 : decode cX6_scent 24 = .ok (.iload_n 1, 1) := by decide +kernel
theorem dX6_scent_25 : decode cX6_scent 25 = .ok (.iload_n 2, 1) := by decide +kernel
theorem dX6_scent_26 : decode cX6_scent 26 = .ok (.invokevirtual 80, 3) := by decide +kernel
theorem dX6_scent_29 : decode cX6_scent 29 = .ok (.ireturn, 1) := by decide +kernel
set_option maxHeartbeats 4000000 in
set_option maxRecDepth 100000 in
theorem c_X6_scent (g : sk_G) (l : Launch) (a1 : Int32) (a2 : Int32) (M : sk_M) {rr : Int32} {MM : sk_M} (h : f_X6_scent a1 a2 M = some (rr, MM)) : sk_MI g l yX6_scent cX6_scent 3 (some .int) 3 [.ref (sk_ad g 0), .int a1, .int a2] M rr MM := by
  refine sk_go [(0, .ref (sk_ad g 0)), (1, .int a1), (2, .int a2)] (by decide) (Nat.le_of_ble_eq_true rfl) rfl ?_
  intro p e s m av below meth c C ls hl hM hS
  obtain ⟨hx, hb, hml, hown, hts, hK, hE, hr, hlocks⟩ := id C
  rw [f_X6_scent] at h
  refine lv_iload_n hx hb dX6_scent_0 rfl (lv_at hl 1 rfl) ?_
  refine sk_contI (sk_runS (As := [.int a1]) (rest := []) C (c_X6_isKind g l a1 M rfl) yo_X6_isKind kw_341 (by decide) hM hS hl.1 rfl rfl (Nat.le_of_ble_eq_true rfl) dX6_scent_1) hS (fun H locs hM hS => ?_)
  refine lv_if_eq hx hb dX6_scent_4 rfl (fun hc => ?_) (fun hc => ?_)
  · have h := sk_pos h hc
    refine lv_ldc (v := (-1000000001)) hx hb hown (hts _ kw_347) dX6_scent_17 ?_
    exact sk_iret C hM hS (sk_e2 h) dX6_scent_19
  · have h := sk_neg h hc
    refine lv_iload_n hx hb dX6_scent_7 rfl (lv_at hl 2 rfl) ?_
    refine lv_iconst (v := 0) hx hb dX6_scent_8 (by decide) ?_
    refine lv_bipush (v := 50) hx hb dX6_scent_9 (by decide) ?_
    refine sk_contI (sk_runS (As := [.int a2, .int 0, .int 50]) (rest := []) C (c_X6_within g l a2 0 50 M rfl) yo_X6_within kw_344 (by decide) hM hS hl.1 rfl rfl (Nat.le_of_ble_eq_true rfl) dX6_scent_11) hS (fun H locs hM hS => ?_)
    refine lv_if_ne hx hb dX6_scent_14 rfl (fun hc => ?_) (fun hc => ?_)
    · have h := sk_neg h hc
      refine lv_aload_n hx hb dX6_scent_20 rfl (lv_at hl 0 rfl) ?_
      refine sk_getR (o := 0) (ci := 6) (j := 0) (t := 10) C hM rfl rfl (by decide) rfl rfl kw_297 dX6_scent_21 ?_
      refine lv_iload_n hx hb dX6_scent_24 rfl (lv_at hl 1 rfl) ?_
      refine lv_iload_n hx hb dX6_scent_25 rfl (lv_at hl 2 rfl) ?_
      obtain ⟨x_3, M_4, h_5, h⟩ := sk_b2E h
      refine sk_contI (sk_runV (As := [.int a1, .int a2]) (rest := []) C (c_X5_addScent g l 10 (Or.inl rfl) a1 a2 M h_5) yo_X5_addScent kw_348 (sk_recv (ci := 5) C hM rfl rfl) (by decide) hM hS hl.1 rfl rfl (Nat.le_of_ble_eq_true rfl) dX6_scent_26) hS (fun H locs hM hS => ?_)
      exact sk_iret C hM hS (sk_e2 h) dX6_scent_29
    · have h := sk_pos h hc
      refine lv_ldc (v := (-1000000001)) hx hb hown (hts _ kw_347) dX6_scent_17 ?_
      exact sk_iret C hM hS (sk_e2 h) dX6_scent_19
theorem dX6_isScent_0 : decode cX6_isScent 0 = .ok (.iload_n 1, 1) := by decide +kernel
theorem dX6_isScent_1 : decode cX6_isScent 1 = .ok (.iconst 0, 1) := by decide +kernel
theorem dX6_isScent_2 : decode cX6_isScent 2 = .ok (.aload_n 0, 1) := by decide +kernel
theorem dX6_isScent_3 : decode cX6_isScent 3 = .ok (.getfield 28, 3) := by decide +kernel
theorem dX6_isScent_6 : decode cX6_isScent 6 = .ok (.getfield 110, 3) := by decide +kernel
theorem dX6_isScent_9 : decode cX6_isScent 9 = .ok (.iconst 1, 1) := by decide +kernel
theorem dX6_isScent_10 : decode cX6_isScent 10 = .ok (.isub, 1) := by decide +kernel
theorem dX6_isScent_11 : decode cX6_isScent 11 = .ok (.invokestatic 75, 3) := by decide +kernel
theorem dX6_isScent_14 : decode cX6_isScent 14 = .ok (.ireturn, 1) := by decide +kernel
set_option maxHeartbeats 4000000 in
set_option maxRecDepth 100000 in
theorem c_X6_isScent (g : sk_G) (l : Launch) (a1 : Int32) (M : sk_M) {rr : Int32} (h : f_X6_isScent a1 M = rr) : sk_MI g l yX6_isScent cX6_isScent 2 (some .boolean) 2 [.ref (sk_ad g 0), .int a1] M rr M := by
  refine sk_go [(0, .ref (sk_ad g 0)), (1, .int a1)] (by decide) (Nat.le_of_ble_eq_true rfl) rfl ?_
  intro p e s m av below meth c C ls hl hM hS
  obtain ⟨hx, hb, hml, hown, hts, hK, hE, hr, hlocks⟩ := id C
  rw [f_X6_isScent] at h
  refine lv_iload_n hx hb dX6_isScent_0 rfl (lv_at hl 1 rfl) ?_
  refine lv_iconst (v := 0) hx hb dX6_isScent_1 (by decide) ?_
  refine lv_aload_n hx hb dX6_isScent_2 rfl (lv_at hl 0 rfl) ?_
  refine sk_getR (o := 0) (ci := 6) (j := 0) (t := 10) C hM rfl rfl (by decide) rfl rfl kw_297 dX6_isScent_3 ?_
  refine sk_getI (o := 10) (ci := 5) (j := 10) C hM rfl rfl (by decide) rfl kw_186 dX6_isScent_6 ?_
  refine lv_iconst (v := 1) hx hb dX6_isScent_9 (by decide) ?_
  refine lv_isub hx hb dX6_isScent_10 ?_
  refine sk_contI (sk_runS (As := [.int a1, .int 0, .int ((M 10 10) - 1)]) (rest := []) C (c_X6_within g l a1 0 ((M 10 10) - 1) M rfl) yo_X6_within kw_344 (by decide) hM hS hl.1 rfl rfl (Nat.le_of_ble_eq_true rfl) dX6_isScent_11) hS (fun H locs hM hS => ?_)
  exact sk_zret C hM hS (sk_nz (fz_X6_within a1 0 ((M 10 10) - 1))) ⟨h, rfl⟩ dX6_isScent_14
theorem dX6_worth_0 : decode cX6_worth 0 = .ok (.iload_n 0, 1) := by decide +kernel
theorem dX6_worth_1 : decode cX6_worth 1 = .ok (.tableswitch 61 1 5 #[35, 47, 40, 51, 58], 35) := by decide +kernel
theorem dX6_worth_36 : decode cX6_worth 36 = .ok (.bipush 60, 2) := by decide +kernel
theorem dX6_worth_38 : decode cX6_worth 38 = .ok (.iload_n 1, 1) := by decide +kernel
theorem dX6_worth_39 : decode cX6_worth 39 = .ok (.isub, 1) := by decide +kernel
theorem dX6_worth_40 : decode cX6_worth 40 = .ok (.ireturn, 1) := by decide +kernel
theorem dX6_worth_41 : decode cX6_worth 41 = .ok (.iconst 2, 1) := by decide +kernel
theorem dX6_worth_42 : decode cX6_worth 42 = .ok (.bipush 60, 2) := by decide +kernel
theorem dX6_worth_44 : decode cX6_worth 44 = .ok (.iload_n 1, 1) := by decide +kernel
theorem dX6_worth_45 : decode cX6_worth 45 = .ok (.isub, 1) := by decide +kernel
theorem dX6_worth_46 : decode cX6_worth 46 = .ok (.imul, 1) := by decide +kernel
theorem dX6_worth_47 : decode cX6_worth 47 = .ok (.ireturn, 1) := by decide +kernel
theorem dX6_worth_48 : decode cX6_worth 48 = .ok (.iload_n 1, 1) := by decide +kernel
theorem dX6_worth_49 : decode cX6_worth 49 = .ok (.iconst 5, 1) := by decide +kernel
theorem dX6_worth_50 : decode cX6_worth 50 = .ok (.iadd, 1) := by decide +kernel
theorem dX6_worth_51 : decode cX6_worth 51 = .ok (.ireturn, 1) := by decide +kernel
theorem dX6_worth_52 : decode cX6_worth 52 = .ok (.iload_n 1, 1) := by decide +kernel
theorem dX6_worth_53 : decode cX6_worth 53 = .ok (.iconst 5, 1) := by decide +kernel
theorem dX6_worth_54 : decode cX6_worth 54 = .ok (.iadd, 1) := by decide +kernel
theorem dX6_worth_55 : decode cX6_worth 55 = .ok (.bipush 7, 2) := by decide +kernel
theorem dX6_worth_57 : decode cX6_worth 57 = .ok (.isub, 1) := by decide +kernel
theorem dX6_worth_58 : decode cX6_worth 58 = .ok (.ireturn, 1) := by decide +kernel
theorem dX6_worth_59 : decode cX6_worth 59 = .ok (.bipush 99, 2) := by decide +kernel
theorem dX6_worth_61 : decode cX6_worth 61 = .ok (.ireturn, 1) := by decide +kernel
theorem dX6_worth_62 : decode cX6_worth 62 = .ok (.iload_n 1, 1) := by decide +kernel
theorem dX6_worth_63 : decode cX6_worth 63 = .ok (.ireturn, 1) := by decide +kernel
set_option maxHeartbeats 4000000 in
set_option maxRecDepth 100000 in
theorem c_X6_worth (g : sk_G) (l : Launch) (a0 : Int32) (a1 : Int32) (M : sk_M) {rr : Int32} (h : f_X6_worth a0 a1 = rr) : sk_MI g l yX6_worth cX6_worth 2 (some .int) 1 [.int a0, .int a1] M rr M := by
  refine sk_go [(0, .int a0), (1, .int a1)] (by decide) (Nat.le_of_ble_eq_true rfl) rfl ?_
  intro p e s m av below meth c C ls hl hM hS
  obtain ⟨hx, hb, hml, hown, hts, hK, hE, hr, hlocks⟩ := id C
  rw [f_X6_worth] at h
  refine lv_iload_n hx hb dX6_worth_0 rfl (lv_at hl 0 rfl) ?_
  by_cases hk_1 : a0 = 1
  · refine lv_tableIn (off := 35) hx hb dX6_worth_1 (by rw [hk_1]; decide) (by rw [hk_1]; decide) (by rw [hk_1]; rfl) rfl ?_
    have h := sk_pos h hk_1
    refine lv_bipush (v := 60) hx hb dX6_worth_36 (by decide) ?_
    refine lv_iload_n hx hb dX6_worth_38 rfl (lv_at hl 1 rfl) ?_
    refine lv_isub hx hb dX6_worth_39 ?_
    exact sk_iret C hM hS ⟨h, rfl⟩ dX6_worth_40
  have h := sk_neg h hk_1
  by_cases hk_2 : a0 = 2
  · refine lv_tableIn (off := 47) hx hb dX6_worth_1 (by rw [hk_2]; decide) (by rw [hk_2]; decide) (by rw [hk_2]; rfl) rfl ?_
    have h := sk_pos h hk_2
    refine lv_iload_n hx hb dX6_worth_48 rfl (lv_at hl 1 rfl) ?_
    refine lv_iconst (v := 5) hx hb dX6_worth_49 (by decide) ?_
    refine lv_iadd hx hb dX6_worth_50 ?_
    exact sk_iret C hM hS ⟨h, rfl⟩ dX6_worth_51
  have h := sk_neg h hk_2
  by_cases hk_3 : a0 = 3
  · refine lv_tableIn (off := 40) hx hb dX6_worth_1 (by rw [hk_3]; decide) (by rw [hk_3]; decide) (by rw [hk_3]; rfl) rfl ?_
    have h := sk_pos h hk_3
    refine lv_iconst (v := 2) hx hb dX6_worth_41 (by decide) ?_
    refine lv_bipush (v := 60) hx hb dX6_worth_42 (by decide) ?_
    refine lv_iload_n hx hb dX6_worth_44 rfl (lv_at hl 1 rfl) ?_
    refine lv_isub hx hb dX6_worth_45 ?_
    refine lv_imul hx hb dX6_worth_46 ?_
    exact sk_iret C hM hS ⟨h, rfl⟩ dX6_worth_47
  have h := sk_neg h hk_3
  by_cases hk_4 : a0 = 4
  · refine lv_tableIn (off := 51) hx hb dX6_worth_1 (by rw [hk_4]; decide) (by rw [hk_4]; decide) (by rw [hk_4]; rfl) rfl ?_
    have h := sk_pos h hk_4
    refine lv_iload_n hx hb dX6_worth_52 rfl (lv_at hl 1 rfl) ?_
    refine lv_iconst (v := 5) hx hb dX6_worth_53 (by decide) ?_
    refine lv_iadd hx hb dX6_worth_54 ?_
    refine lv_bipush (v := 7) hx hb dX6_worth_55 (by decide) ?_
    refine lv_isub hx hb dX6_worth_57 ?_
    exact sk_iret C hM hS ⟨h, rfl⟩ dX6_worth_58
  have h := sk_neg h hk_4
  by_cases hk_5 : a0 = 5
  · refine lv_tableIn (off := 58) hx hb dX6_worth_1 (by rw [hk_5]; decide) (by rw [hk_5]; decide) (by rw [hk_5]; rfl) rfl ?_
    have h := sk_pos h hk_5
    refine lv_bipush (v := 99) hx hb dX6_worth_59 (by decide) ?_
    exact sk_iret C hM hS ⟨h, rfl⟩ dX6_worth_61
  have h := sk_neg h hk_5
  refine lv_tableOut hx hb dX6_worth_1 (by have zhk_1 := sk_tn hk_1 (z := 1) rfl; have zhk_2 := sk_tn hk_2 (z := 2) rfl; have zhk_3 := sk_tn hk_3 (z := 3) rfl; have zhk_4 := sk_tn hk_4 (z := 4) rfl; have zhk_5 := sk_tn hk_5 (z := 5) rfl; omega) rfl ?_
  refine lv_iload_n hx hb dX6_worth_62 rfl (lv_at hl 1 rfl) ?_
  exact sk_iret C hM hS ⟨h, rfl⟩ dX6_worth_63
theorem dX6_told_0 : decode cX6_told 0 = .ok (.aload_n 0, 1) := by decide +kernel
theorem dX6_told_1 : decode cX6_told 1 = .ok (.iload_n 1, 1) := by decide +kernel
theorem dX6_told_2 : decode cX6_told 2 = .ok (.invokevirtual 84, 3) := by decide +kernel
theorem dX6_told_5 : decode cX6_told 5 = .ok (.ifCond .ne 6, 3) := by decide +kernel
theorem dX6_told_8 : decode cX6_told 8 = .ok (.ldc 79, 2) := by decide +kernel
theorem dX6_told_10 : decode cX6_told 10 = .ok (.ireturn, 1) := by decide +kernel
theorem dX6_told_11 : decode cX6_told 11 = .ok (.iload_n 2, 1) := by decide +kernel
theorem dX6_told_12 : decode cX6_told 12 = .ok (.tableswitch 84 0 3 #[32, 42, 52, 74], 32) := by decide +kernel
theorem dX6_told_44 : decode cX6_told 44 = .ok (.aload_n 0, 1) := by decide +kernel
theorem dX6_told_45 : decode cX6_told 45 = .ok (.getfield 28, 3) := by decide +kernel
theorem dX6_told_48 : decode cX6_told 48 = .ok (.getfield 87, 3) := by decide +kernel
theorem dX6_told_51 : decode cX6_told 51 = .ok (.iload_n 1, 1) := by decide +kernel
theorem dX6_told_52 : decode cX6_told 52 = .ok (.iaload, 1) := by decide +kernel
theorem dX6_told_53 : decode cX6_told 53 = .ok (.ireturn, 1) := by decide +kernel
theorem dX6_told_54 : decode cX6_told 54 = .ok (.aload_n 0, 1) := by decide +kernel
theorem dX6_told_55 : decode cX6_told 55 = .ok (.getfield 28, 3) := by decide +kernel
theorem dX6_told_58 : decode cX6_told 58 = .ok (.getfield 90, 3) := by decide +kernel
theorem dX6_told_61 : decode cX6_told 61 = .ok (.iload_n 1, 1) := by decide +kernel
theorem dX6_told_62 : decode cX6_told 62 = .ok (.iaload, 1) := by decide +kernel
theorem dX6_told_63 : decode cX6_told 63 = .ok (.ireturn, 1) := by decide +kernel
theorem dX6_told_64 : decode cX6_told 64 = .ok (.aload_n 0, 1) := by decide +kernel
theorem dX6_told_65 : decode cX6_told 65 = .ok (.getfield 28, 3) := by decide +kernel
theorem dX6_told_68 : decode cX6_told 68 = .ok (.getfield 87, 3) := by decide +kernel
theorem dX6_told_71 : decode cX6_told 71 = .ok (.iload_n 1, 1) := by decide +kernel
theorem dX6_told_72 : decode cX6_told 72 = .ok (.iaload, 1) := by decide +kernel
theorem dX6_told_73 : decode cX6_told 73 = .ok (.aload_n 0, 1) := by decide +kernel
theorem dX6_told_74 : decode cX6_told 74 = .ok (.getfield 28, 3) := by decide +kernel
theorem dX6_told_77 : decode cX6_told 77 = .ok (.getfield 90, 3) := by decide +kernel
theorem dX6_told_80 : decode cX6_told 80 = .ok (.iload_n 1, 1) := by decide +kernel
theorem dX6_told_81 : decode cX6_told 81 = .ok (.iaload, 1) := by decide +kernel
theorem dX6_told_82 : decode cX6_told 82 = .ok (.invokestatic 93, 3) := by decide +kernel
theorem dX6_told_85 : decode cX6_told 85 = .ok (.ireturn, 1) := by decide +kernel
theorem dX6_told_86 : decode cX6_told 86 = .ok (.aload_n 0, 1) := by decide +kernel
theorem dX6_told_87 : decode cX6_told 87 = .ok (.getfield 28, 3) := by decide +kernel
theorem dX6_told_90 : decode cX6_told 90 = .ok (.getfield 96, 3) := by decide +kernel
theorem dX6_told_93 : decode cX6_told 93 = .ok (.iload_n 1, 1) := by decide +kernel
theorem dX6_told_94 : decode cX6_told 94 = .ok (.iaload, 1) := by decide +kernel
theorem dX6_told_95 : decode cX6_told 95 = .ok (.ireturn, 1) := by decide +kernel
theorem dX6_told_96 : decode cX6_told 96 = .ok (.ldc 79, 2) := by decide +kernel
theorem dX6_told_98 : decode cX6_told 98 = .ok (.ireturn, 1) := by decide +kernel
set_option maxHeartbeats 4000000 in
set_option maxRecDepth 100000 in
theorem c_X6_told (g : sk_G) (l : Launch) (a1 : Int32) (a2 : Int32) (M : sk_M) {rr : Int32} (h : f_X6_told a1 a2 M = some rr) : sk_MI g l yX6_told cX6_told 3 (some .int) 3 [.ref (sk_ad g 0), .int a1, .int a2] M rr M := by
  refine sk_go [(0, .ref (sk_ad g 0)), (1, .int a1), (2, .int a2)] (by decide) (Nat.le_of_ble_eq_true rfl) rfl ?_
  intro p e s m av below meth c C ls hl hM hS
  obtain ⟨hx, hb, hml, hown, hts, hK, hE, hr, hlocks⟩ := id C
  rw [f_X6_told] at h
  refine lv_aload_n hx hb dX6_told_0 rfl (lv_at hl 0 rfl) ?_
  refine lv_iload_n hx hb dX6_told_1 rfl (lv_at hl 1 rfl) ?_
  refine sk_contI (sk_runV (As := [.int a1]) (rest := []) C (c_X6_isScent g l a1 M rfl) yo_X6_isScent kw_357 (sk_recv (ci := 6) C hM rfl rfl) (by decide) hM hS hl.1 rfl rfl (Nat.le_of_ble_eq_true rfl) dX6_told_2) hS (fun H locs hM hS => ?_)
  refine lv_if_ne hx hb dX6_told_5 rfl (fun hc => ?_) (fun hc => ?_)
  · have h := sk_neg h hc
    refine lv_iload_n hx hb dX6_told_11 rfl (lv_at hl 2 rfl) ?_
    by_cases hk_3 : a2 = 0
    · refine lv_tableIn (off := 32) hx hb dX6_told_12 (by rw [hk_3]; decide) (by rw [hk_3]; decide) (by rw [hk_3]; rfl) rfl ?_
      have h := sk_pos h hk_3
      refine lv_aload_n hx hb dX6_told_44 rfl (lv_at hl 0 rfl) ?_
      refine sk_getR (o := 0) (ci := 6) (j := 0) (t := 10) C hM rfl rfl (by decide) rfl rfl kw_297 dX6_told_45 ?_
      refine sk_getR (o := 10) (ci := 5) (j := 1) (t := 11) C hM rfl rfl (by decide) rfl rfl kw_167 dX6_told_48 ?_
      refine lv_iload_n hx hb dX6_told_51 rfl (lv_at hl 1 rfl) ?_
      obtain ⟨i_2, h⟩ := sk_chkE h
      refine sk_iald (o := 11) C hM rfl i_2 dX6_told_52 ?_
      exact sk_iret C hM hS ⟨Option.some.inj h, rfl⟩ dX6_told_53
    have h := sk_neg h hk_3
    by_cases hk_5 : a2 = 1
    · refine lv_tableIn (off := 42) hx hb dX6_told_12 (by rw [hk_5]; decide) (by rw [hk_5]; decide) (by rw [hk_5]; rfl) rfl ?_
      have h := sk_pos h hk_5
      refine lv_aload_n hx hb dX6_told_54 rfl (lv_at hl 0 rfl) ?_
      refine sk_getR (o := 0) (ci := 6) (j := 0) (t := 10) C hM rfl rfl (by decide) rfl rfl kw_297 dX6_told_55 ?_
      refine sk_getR (o := 10) (ci := 5) (j := 2) (t := 12) C hM rfl rfl (by decide) rfl rfl kw_169 dX6_told_58 ?_
      refine lv_iload_n hx hb dX6_told_61 rfl (lv_at hl 1 rfl) ?_
      obtain ⟨i_4, h⟩ := sk_chkE h
      refine sk_iald (o := 12) C hM rfl i_4 dX6_told_62 ?_
      exact sk_iret C hM hS ⟨Option.some.inj h, rfl⟩ dX6_told_63
    have h := sk_neg h hk_5
    by_cases hk_9 : a2 = 2
    · refine lv_tableIn (off := 52) hx hb dX6_told_12 (by rw [hk_9]; decide) (by rw [hk_9]; decide) (by rw [hk_9]; rfl) rfl ?_
      have h := sk_pos h hk_9
      refine lv_aload_n hx hb dX6_told_64 rfl (lv_at hl 0 rfl) ?_
      refine sk_getR (o := 0) (ci := 6) (j := 0) (t := 10) C hM rfl rfl (by decide) rfl rfl kw_297 dX6_told_65 ?_
      refine sk_getR (o := 10) (ci := 5) (j := 1) (t := 11) C hM rfl rfl (by decide) rfl rfl kw_167 dX6_told_68 ?_
      refine lv_iload_n hx hb dX6_told_71 rfl (lv_at hl 1 rfl) ?_
      obtain ⟨i_6, h⟩ := sk_chkE h
      refine sk_iald (o := 11) C hM rfl i_6 dX6_told_72 ?_
      refine lv_aload_n hx hb dX6_told_73 rfl (lv_at hl 0 rfl) ?_
      refine sk_getR (o := 0) (ci := 6) (j := 0) (t := 10) C hM rfl rfl (by decide) rfl rfl kw_297 dX6_told_74 ?_
      refine sk_getR (o := 10) (ci := 5) (j := 2) (t := 12) C hM rfl rfl (by decide) rfl rfl kw_169 dX6_told_77 ?_
      refine lv_iload_n hx hb dX6_told_80 rfl (lv_at hl 1 rfl) ?_
      obtain ⟨i_7, h⟩ := sk_chkE h
      refine sk_iald (o := 12) C hM rfl i_7 dX6_told_81 ?_
      refine sk_contI (sk_runS (As := [.int (M 11 a1.toNatClampNeg), .int (M 12 a1.toNatClampNeg)]) (rest := []) C (c_X6_worth g l (M 11 a1.toNatClampNeg) (M 12 a1.toNatClampNeg) M rfl) yo_X6_worth kw_361 (by decide) hM hS hl.1 rfl rfl (Nat.le_of_ble_eq_true rfl) dX6_told_82) hS (fun H locs hM hS => ?_)
      exact sk_iret C hM hS ⟨Option.some.inj h, rfl⟩ dX6_told_85
    have h := sk_neg h hk_9
    by_cases hk_11 : a2 = 3
    · refine lv_tableIn (off := 74) hx hb dX6_told_12 (by rw [hk_11]; decide) (by rw [hk_11]; decide) (by rw [hk_11]; rfl) rfl ?_
      have h := sk_pos h hk_11
      refine lv_aload_n hx hb dX6_told_86 rfl (lv_at hl 0 rfl) ?_
      refine sk_getR (o := 0) (ci := 6) (j := 0) (t := 10) C hM rfl rfl (by decide) rfl rfl kw_297 dX6_told_87 ?_
      refine sk_getR (o := 10) (ci := 5) (j := 3) (t := 13) C hM rfl rfl (by decide) rfl rfl kw_171 dX6_told_90 ?_
      refine lv_iload_n hx hb dX6_told_93 rfl (lv_at hl 1 rfl) ?_
      obtain ⟨i_10, h⟩ := sk_chkE h
      refine sk_iald (o := 13) C hM rfl i_10 dX6_told_94 ?_
      exact sk_iret C hM hS ⟨Option.some.inj h, rfl⟩ dX6_told_95
    have h := sk_neg h hk_11
    refine lv_tableOut hx hb dX6_told_12 (by have zhk_3 := sk_tn hk_3 (z := 0) rfl; have zhk_5 := sk_tn hk_5 (z := 1) rfl; have zhk_9 := sk_tn hk_9 (z := 2) rfl; have zhk_11 := sk_tn hk_11 (z := 3) rfl; omega) rfl ?_
    refine lv_ldc (v := (-1000000001)) hx hb hown (hts _ kw_347) dX6_told_96 ?_
    exact sk_iret C hM hS ⟨Option.some.inj h, rfl⟩ dX6_told_98
  · have h := sk_pos h hc
    refine lv_ldc (v := (-1000000001)) hx hb hown (hts _ kw_347) dX6_told_8 ?_
    exact sk_iret C hM hS ⟨Option.some.inj h, rfl⟩ dX6_told_10
theorem dX6_isUnder_0 : decode cX6_isUnder 0 = .ok (.iload_n 0, 1) := by decide +kernel
theorem dX6_isUnder_1 : decode cX6_isUnder 1 = .ok (.istore_n 2, 1) := by decide +kernel
theorem dX6_isUnder_2 : decode cX6_isUnder 2 = .ok (.iconst 0, 1) := by decide +kernel
theorem dX6_isUnder_3 : decode cX6_isUnder 3 = .ok (.istore_n 3, 1) := by decide +kernel
theorem dX6_isUnder_4 : decode cX6_isUnder 4 = .ok (.iload_n 3, 1) := by decide +kernel
theorem dX6_isUnder_5 : decode cX6_isUnder 5 = .ok (.bipush 6, 2) := by decide +kernel
theorem dX6_isUnder_7 : decode cX6_isUnder 7 = .ok (.if_icmp .ge 29, 3) := by decide +kernel
theorem dX6_isUnder_10 : decode cX6_isUnder 10 = .ok (.iload_n 2, 1) := by decide +kernel
theorem dX6_isUnder_11 : decode cX6_isUnder 11 = .ok (.invokestatic 71, 3) := by decide +kernel
theorem dX6_isUnder_14 : decode cX6_isUnder 14 = .ok (.ifCond .eq 22, 3) := by decide +kernel
theorem dX6_isUnder_17 : decode cX6_isUnder 17 = .ok (.iload_n 2, 1) := by decide +kernel
theorem dX6_isUnder_18 : decode cX6_isUnder 18 = .ok (.iload_n 1, 1) := by decide +kernel
theorem dX6_isUnder_19 : decode cX6_isUnder 19 = .ok (.if_icmp .ne 5, 3) := by decide +kernel
theorem dX6_isUnder_22 : decode cX6_isUnder 22 = .ok (.iconst 1, 1) := by decide +kernel
theorem dX6_isUnder_23 : decode cX6_isUnder 23 = .ok (.ireturn, 1) := by decide +kernel
theorem dX6_isUnder_24 : decode cX6_isUnder 24 = .ok (.getstatic 320, 3) := by decide +kernel
theorem dX6_isUnder_27 : decode cX6_isUnder 27 = .ok (.iload_n 2, 1) := by decide +kernel
theorem dX6_isUnder_28 : decode cX6_isUnder 28 = .ok (.iaload, 1) := by decide +kernel
theorem dX6_isUnder_29 : decode cX6_isUnder 29 = .ok (.istore_n 2, 1) := by decide +kernel
theorem dX6_isUnder_30 : decode cX6_isUnder 30 = .ok (.iinc 3 1, 3) := by decide +kernel
theorem dX6_isUnder_33 : decode cX6_isUnder 33 = .ok (.goto (-29), 3) := by decide +kernel
theorem dX6_isUnder_36 : decode cX6_isUnder 36 = .ok (.iconst 0, 1) := by decide +kernel
theorem dX6_isUnder_37 : decode cX6_isUnder 37 = .ok (.ireturn, 1) := by decide +kernel
set_option maxHeartbeats 4000000 in
set_option maxRecDepth 100000 in
theorem w_X6_isUnder_L4 {g : sk_G} {l : Launch} {p : Program} {e : Env} {s : State} {m : MethodId} {av : Array Value} {below : List Frame} {meth : Method} {c : Code} (C : sk_C g p s m av meth c cX6_isUnder 4 RX6 (some .boolean)) (a1 : Int32) (M : sk_M) {rr : Int32} :
    ∀ (n : Nat) (a2 : Int32) (a3 : Int32) (H : Heap) (locs : List Loc) (ls : Array Slot), lv_has ls 4 [(1, .int a1), (2, .int a2), (3, .int a3)] → sk_P g M H → va_S (sk_A g) s.heap H locs → ∀ {out : (Int32) ⊕ (Unit)}, f_X6_isUnder_L4 a1 M n a2 a3 = some out → (∀ r, out = Sum.inl r → some r = some rr) → (∀  (H : Heap) (locs : List Loc) (ls : Array Slot), some (Sum.inr ()) = some out → lv_has ls 4 [] → sk_P g M H → va_S (sk_A g) s.heap H locs → W p l e (sk_rm 3) s m av below meth c H locs 0 0 (MQ below (sk_QI g rr M) av s 0 0 (sk_A g)) (F0 m 36 ls [])) → W p l e (sk_rm 3) s m av below meth c H locs 0 0 (MQ below (sk_QI g rr M) av s 0 0 (sk_A g)) (F0 m 4 ls []) := by
  obtain ⟨hx, hb, hml, hown, hts, hK, hE, hr, hlocks⟩ := id C
  intro n
  induction n with
  | zero =>
    intro a2 a3 H locs ls hl hM hS out h
    cases h
  | succ n ih =>
    intro a2 a3 H locs ls hl hM hS out h kr kx
    rw [f_X6_isUnder_L4] at h
    refine lv_iload_n hx hb dX6_isUnder_4 rfl (lv_at hl 2 rfl) ?_
    refine lv_bipush (v := 6) hx hb dX6_isUnder_5 (by decide) ?_
    refine lv_icmp_ge hx hb dX6_isUnder_7 rfl (fun hc => ?_) (fun hc => ?_)
    · have h := sk_pos h hc
      exact kx  _ _ _ h (lv_sub hl [] rfl) hM hS
    · have h := sk_neg h hc
      refine lv_iload_n hx hb dX6_isUnder_10 rfl (lv_at hl 1 rfl) ?_
      refine sk_contI (sk_runS (As := [.int a2]) (rest := []) C (c_X6_isKind g l a2 M rfl) yo_X6_isKind kw_341 (by decide) hM hS hl.1 rfl rfl (Nat.le_of_ble_eq_true rfl) dX6_isUnder_11) hS (fun H locs hM hS => ?_)
      refine lv_if_eq hx hb dX6_isUnder_14 rfl (fun hc => ?_) (fun hc => ?_)
      · have h := sk_pos h hc
        exact kx  _ _ _ h (lv_sub hl [] rfl) hM hS
      · have h := sk_neg h hc
        refine lv_iload_n hx hb dX6_isUnder_17 rfl (lv_at hl 1 rfl) ?_
        refine lv_iload_n hx hb dX6_isUnder_18 rfl (lv_at hl 0 rfl) ?_
        refine lv_icmp_ne hx hb dX6_isUnder_19 rfl (fun hc => ?_) (fun hc => ?_)
        · have h := sk_neg h hc
          refine va_gets hx hb hE.1 hS hown (hts _ kw_371) (fun _ h9 => h9) dX6_isUnder_24 ?_
          refine lv_iload_n hx hb dX6_isUnder_27 rfl (lv_at hl 1 rfl) ?_
          obtain ⟨i_2, h⟩ := sk_chkE h
          refine va_ti hx hb hE.2.1 hS (sk_in_vp i_2) rfl dX6_isUnder_28 ?_
          refine lv_topi (fun x_3 ex_3 => ?_)
          have h := sk_letU h ex_3
          refine lv_istore_n (lv' := [(2, .int x_3), (1, .int a1), (3, .int a3)]) hx hb dX6_isUnder_29 rfl hl (by decide) rfl (fun ls hl => ?_)
          refine lv_iinc (v := (a3 + 1)) (lv' := [(3, .int (a3 + 1)), (2, .int x_3), (1, .int a1)]) hx hb dX6_isUnder_30 hl (k := 2) rfl rfl (by decide) rfl (fun ls hl => ?_)
          refine lv_goto hx hb dX6_isUnder_33 rfl ?_
          exact ih x_3 (a3 + 1) _ _ _ (lv_sub hl [2, 1, 0] rfl) hM hS h kr kx
        · have h := sk_pos h hc
          refine lv_iconst (v := 1) hx hb dX6_isUnder_22 (by decide) ?_
          have h := kr _ (Option.some.inj h).symm
          exact sk_zret C hM hS (sk_nz (Or.inr rfl)) ⟨Option.some.inj h, rfl⟩ dX6_isUnder_23
set_option maxHeartbeats 4000000 in
set_option maxRecDepth 100000 in
theorem c_X6_isUnder (g : sk_G) (l : Launch) (a0 : Int32) (a1 : Int32) (M : sk_M) {rr : Int32} (h : f_X6_isUnder a0 a1 M = some rr) : sk_MI g l yX6_isUnder cX6_isUnder 4 (some .boolean) 3 [.int a0, .int a1] M rr M := by
  refine sk_go [(0, .int a0), (1, .int a1)] (by decide) (Nat.le_of_ble_eq_true rfl) rfl ?_
  intro p e s m av below meth c C ls hl hM hS
  obtain ⟨hx, hb, hml, hown, hts, hK, hE, hr, hlocks⟩ := id C
  rw [f_X6_isUnder] at h
  refine lv_iload_n hx hb dX6_isUnder_0 rfl (lv_at hl 0 rfl) ?_
  refine lv_istore_n (lv' := [(2, .int a0), (0, .int a0), (1, .int a1)]) hx hb dX6_isUnder_1 rfl hl (by decide) rfl (fun ls hl => ?_)
  refine lv_iconst (v := 0) hx hb dX6_isUnder_2 (by decide) ?_
  refine lv_istore_n (lv' := [(3, .int 0), (2, .int a0), (0, .int a0), (1, .int a1)]) hx hb dX6_isUnder_3 rfl hl (by decide) rfl (fun ls hl => ?_)
  obtain ⟨out_5, h_4, kf_6, kg_7⟩ := sk_s0E h
  refine w_X6_isUnder_L4 C a1 M sk_FU a0 0 _ _ _ (lv_sub hl [3, 1, 0] rfl) hM hS h_4 kf_6 (fun  H locs ls he hl hM hS => ?_)
  have h := kg_7  (Option.some.inj he).symm
  refine lv_iconst (v := 0) hx hb dX6_isUnder_36 (by decide) ?_
  exact sk_zret C hM hS (sk_nz (Or.inl rfl)) ⟨Option.some.inj h, rfl⟩ dX6_isUnder_37
theorem dX6_as_0 : decode cX6_as 0 = .ok (.aload_n 0, 1) := by decide +kernel
theorem dX6_as_1 : decode cX6_as 1 = .ok (.iload_n 1, 1) := by decide +kernel
theorem dX6_as_2 : decode cX6_as 2 = .ok (.invokevirtual 84, 3) := by decide +kernel
theorem dX6_as_5 : decode cX6_as 5 = .ok (.ifCond .eq 10, 3) := by decide +kernel
theorem dX6_as_8 : decode cX6_as 8 = .ok (.iload_n 2, 1) := by decide +kernel
theorem dX6_as_9 : decode cX6_as 9 = .ok (.invokestatic 71, 3) := by decide +kernel
theorem dX6_as_12 : decode cX6_as 12 = .ok (.ifCond .ne 6, 3) := by decide +kernel
theorem dX6_as_15 : decode cX6_as 15 = .ok (.ldc 79, 2) := by decide +kernel
theorem dX6_as_17 : decode cX6_as 17 = .ok (.ireturn, 1) := by decide +kernel
theorem dX6_as_18 : decode cX6_as 18 = .ok (.aload_n 0, 1) := by decide +kernel
theorem dX6_as_19 : decode cX6_as 19 = .ok (.getfield 28, 3) := by decide +kernel
theorem dX6_as_22 : decode cX6_as 22 = .ok (.getfield 87, 3) := by decide +kernel
theorem dX6_as_25 : decode cX6_as 25 = .ok (.iload_n 1, 1) := by decide +kernel
theorem dX6_as_26 : decode cX6_as 26 = .ok (.iaload, 1) := by decide +kernel
theorem dX6_as_27 : decode cX6_as 27 = .ok (.iload_n 2, 1) := by decide +kernel
theorem dX6_as_28 : decode cX6_as 28 = .ok (.invokestatic 99, 3) := by decide +kernel
theorem dX6_as_31 : decode cX6_as 31 = .ok (.ifCond .eq 15, 3) := by decide +kernel
theorem dX6_as_34 : decode cX6_as 34 = .ok (.aload_n 0, 1) := by decide +kernel
theorem dX6_as_35 : decode cX6_as 35 = .ok (.getfield 28, 3) := by decide +kernel
theorem dX6_as_38 : decode cX6_as 38 = .ok (.getfield 90, 3) := by decide +kernel
theorem dX6_as_41 : decode cX6_as 41 = .ok (.iload_n 1, 1) := by decide +kernel
theorem dX6_as_42 : decode cX6_as 42 = .ok (.iaload, 1) := by decide +kernel
theorem dX6_as_43 : decode cX6_as 43 = .ok (.goto 5, 3) := by decide +kernel
theorem dX6_as_46 : decode cX6_as 46 = .ok (.ldc 103, 2) := by decide +kernel
theorem dX6_as_48 : decode cX6_as 48 = .ok (.ireturn, 1) := by decide +kernel
set_option maxHeartbeats 4000000 in
set_option maxRecDepth 100000 in
theorem c_X6_as (g : sk_G) (l : Launch) (a1 : Int32) (a2 : Int32) (M : sk_M) {rr : Int32} (h : f_X6_as a1 a2 M = some rr) : sk_MI g l yX6_as cX6_as 3 (some .int) 4 [.ref (sk_ad g 0), .int a1, .int a2] M rr M := by
  refine sk_go [(0, .ref (sk_ad g 0)), (1, .int a1), (2, .int a2)] (by decide) (Nat.le_of_ble_eq_true rfl) rfl ?_
  intro p e s m av below meth c C ls hl hM hS
  obtain ⟨hx, hb, hml, hown, hts, hK, hE, hr, hlocks⟩ := id C
  rw [f_X6_as] at h
  refine lv_aload_n hx hb dX6_as_0 rfl (lv_at hl 0 rfl) ?_
  refine lv_iload_n hx hb dX6_as_1 rfl (lv_at hl 1 rfl) ?_
  refine sk_contI (sk_runV (As := [.int a1]) (rest := []) C (c_X6_isScent g l a1 M rfl) yo_X6_isScent kw_357 (sk_recv (ci := 6) C hM rfl rfl) (by decide) hM hS hl.1 rfl rfl (Nat.le_of_ble_eq_true rfl) dX6_as_2) hS (fun H locs hM hS => ?_)
  refine lv_if_eq hx hb dX6_as_5 rfl (fun hc => ?_) (fun hc => ?_)
  · have h := sk_pos h hc
    refine lv_ldc (v := (-1000000001)) hx hb hown (hts _ kw_347) dX6_as_15 ?_
    exact sk_iret C hM hS ⟨Option.some.inj h, rfl⟩ dX6_as_17
  · have h := sk_neg h hc
    refine lv_iload_n hx hb dX6_as_8 rfl (lv_at hl 2 rfl) ?_
    refine sk_contI (sk_runS (As := [.int a2]) (rest := []) C (c_X6_isKind g l a2 M rfl) yo_X6_isKind kw_341 (by decide) hM hS hl.1 rfl rfl (Nat.le_of_ble_eq_true rfl) dX6_as_9) hS (fun H locs hM hS => ?_)
    refine lv_if_ne hx hb dX6_as_12 rfl (fun hc => ?_) (fun hc => ?_)
    · have h := sk_neg h hc
      refine lv_aload_n hx hb dX6_as_18 rfl (lv_at hl 0 rfl) ?_
      refine sk_getR (o := 0) (ci := 6) (j := 0) (t := 10) C hM rfl rfl (by decide) rfl rfl kw_297 dX6_as_19 ?_
      refine sk_getR (o := 10) (ci := 5) (j := 1) (t := 11) C hM rfl rfl (by decide) rfl rfl kw_167 dX6_as_22 ?_
      refine lv_iload_n hx hb dX6_as_25 rfl (lv_at hl 1 rfl) ?_
      obtain ⟨i_3, h⟩ := sk_chkE h
      refine sk_iald (o := 11) C hM rfl i_3 dX6_as_26 ?_
      refine lv_iload_n hx hb dX6_as_27 rfl (lv_at hl 2 rfl) ?_
      obtain ⟨x_4, h_5, h⟩ := sk_b1E h
      refine sk_contI (sk_runS (As := [.int (M 11 a1.toNatClampNeg), .int a2]) (rest := []) C (c_X6_isUnder g l (M 11 a1.toNatClampNeg) a2 M h_5) yo_X6_isUnder kw_368 (by decide) hM hS hl.1 rfl rfl (Nat.le_of_ble_eq_true rfl) dX6_as_28) hS (fun H locs hM hS => ?_)
      refine lv_if_eq hx hb dX6_as_31 rfl (fun hc => ?_) (fun hc => ?_)
      · have h := sk_pos h hc
        refine lv_ldc (v := (-1000000012)) hx hb hown (hts _ kw_373) dX6_as_46 ?_
        exact sk_iret C hM hS ⟨Option.some.inj h, rfl⟩ dX6_as_48
      · have h := sk_neg h hc
        refine lv_aload_n hx hb dX6_as_34 rfl (lv_at hl 0 rfl) ?_
        refine sk_getR (o := 0) (ci := 6) (j := 0) (t := 10) C hM rfl rfl (by decide) rfl rfl kw_297 dX6_as_35 ?_
        refine sk_getR (o := 10) (ci := 5) (j := 2) (t := 12) C hM rfl rfl (by decide) rfl rfl kw_169 dX6_as_38 ?_
        refine lv_iload_n hx hb dX6_as_41 rfl (lv_at hl 1 rfl) ?_
        obtain ⟨i_6, h⟩ := sk_chkE h
        refine sk_iald (o := 12) C hM rfl i_6 dX6_as_42 ?_
        refine lv_goto hx hb dX6_as_43 rfl ?_
        exact sk_iret C hM hS ⟨Option.some.inj h, rfl⟩ dX6_as_48
    · have h := sk_pos h hc
      refine lv_ldc (v := (-1000000001)) hx hb hown (hts _ kw_347) dX6_as_15 ?_
      exact sk_iret C hM hS ⟨Option.some.inj h, rfl⟩ dX6_as_17
theorem dX6_turns_0 : decode cX6_turns 0 = .ok (.aload_n 0, 1) := by decide +kernel
theorem dX6_turns_1 : decode cX6_turns 1 = .ok (.iload_n 1, 1) := by decide +kernel
theorem dX6_turns_2 : decode cX6_turns 2 = .ok (.invokevirtual 84, 3) := by decide +kernel
theorem dX6_turns_5 : decode cX6_turns 5 = .ok (.ifCond .eq 10, 3) := by decide +kernel
theorem dX6_turns_8 : decode cX6_turns 8 = .ok (.iload_n 2, 1) := by decide +kernel
theorem dX6_turns_9 : decode cX6_turns 9 = .ok (.invokestatic 71, 3) := by decide +kernel
theorem dX6_turns_12 : decode cX6_turns 12 = .ok (.ifCond .ne 6, 3) := by decide +kernel
theorem dX6_turns_15 : decode cX6_turns 15 = .ok (.ldc 79, 2) := by decide +kernel
theorem dX6_turns_17 : decode cX6_turns 17 = .ok (.ireturn, 1) := by decide +kernel
theorem dX6_turns_18 : decode cX6_turns 18 = .ok (.aload_n 0, 1) := by decide +kernel
theorem dX6_turns_19 : decode cX6_turns 19 = .ok (.getfield 28, 3) := by decide +kernel
theorem dX6_turns_22 : decode cX6_turns 22 = .ok (.getfield 87, 3) := by decide +kernel
theorem dX6_turns_25 : decode cX6_turns 25 = .ok (.iload_n 1, 1) := by decide +kernel
theorem dX6_turns_26 : decode cX6_turns 26 = .ok (.iaload, 1) := by decide +kernel
theorem dX6_turns_27 : decode cX6_turns 27 = .ok (.istore_n 3, 1) := by decide +kernel
theorem dX6_turns_28 : decode cX6_turns 28 = .ok (.aload_n 0, 1) := by decide +kernel
theorem dX6_turns_29 : decode cX6_turns 29 = .ok (.getfield 28, 3) := by decide +kernel
theorem dX6_turns_32 : decode cX6_turns 32 = .ok (.getfield 87, 3) := by decide +kernel
theorem dX6_turns_35 : decode cX6_turns 35 = .ok (.iload_n 1, 1) := by decide +kernel
theorem dX6_turns_36 : decode cX6_turns 36 = .ok (.iload_n 2, 1) := by decide +kernel
theorem dX6_turns_37 : decode cX6_turns 37 = .ok (.iastore, 1) := by decide +kernel
theorem dX6_turns_38 : decode cX6_turns 38 = .ok (.iload_n 3, 1) := by decide +kernel
theorem dX6_turns_39 : decode cX6_turns 39 = .ok (.ireturn, 1) := by decide +kernel
set_option maxHeartbeats 4000000 in
set_option maxRecDepth 100000 in
theorem c_X6_turns (g : sk_G) (l : Launch) (a1 : Int32) (a2 : Int32) (M : sk_M) {rr : Int32} {MM : sk_M} (h : f_X6_turns a1 a2 M = some (rr, MM)) : sk_MI g l yX6_turns cX6_turns 4 (some .int) 3 [.ref (sk_ad g 0), .int a1, .int a2] M rr MM := by
  refine sk_go [(0, .ref (sk_ad g 0)), (1, .int a1), (2, .int a2)] (by decide) (Nat.le_of_ble_eq_true rfl) rfl ?_
  intro p e s m av below meth c C ls hl hM hS
  obtain ⟨hx, hb, hml, hown, hts, hK, hE, hr, hlocks⟩ := id C
  rw [f_X6_turns] at h
  refine lv_aload_n hx hb dX6_turns_0 rfl (lv_at hl 0 rfl) ?_
  refine lv_iload_n hx hb dX6_turns_1 rfl (lv_at hl 1 rfl) ?_
  refine sk_contI (sk_runV (As := [.int a1]) (rest := []) C (c_X6_isScent g l a1 M rfl) yo_X6_isScent kw_357 (sk_recv (ci := 6) C hM rfl rfl) (by decide) hM hS hl.1 rfl rfl (Nat.le_of_ble_eq_true rfl) dX6_turns_2) hS (fun H locs hM hS => ?_)
  refine lv_if_eq hx hb dX6_turns_5 rfl (fun hc => ?_) (fun hc => ?_)
  · have h := sk_pos h hc
    refine lv_ldc (v := (-1000000001)) hx hb hown (hts _ kw_347) dX6_turns_15 ?_
    exact sk_iret C hM hS (sk_e2 h) dX6_turns_17
  · have h := sk_neg h hc
    refine lv_iload_n hx hb dX6_turns_8 rfl (lv_at hl 2 rfl) ?_
    refine sk_contI (sk_runS (As := [.int a2]) (rest := []) C (c_X6_isKind g l a2 M rfl) yo_X6_isKind kw_341 (by decide) hM hS hl.1 rfl rfl (Nat.le_of_ble_eq_true rfl) dX6_turns_9) hS (fun H locs hM hS => ?_)
    refine lv_if_ne hx hb dX6_turns_12 rfl (fun hc => ?_) (fun hc => ?_)
    · have h := sk_neg h hc
      refine lv_aload_n hx hb dX6_turns_18 rfl (lv_at hl 0 rfl) ?_
      refine sk_getR (o := 0) (ci := 6) (j := 0) (t := 10) C hM rfl rfl (by decide) rfl rfl kw_297 dX6_turns_19 ?_
      refine sk_getR (o := 10) (ci := 5) (j := 1) (t := 11) C hM rfl rfl (by decide) rfl rfl kw_167 dX6_turns_22 ?_
      refine lv_iload_n hx hb dX6_turns_25 rfl (lv_at hl 1 rfl) ?_
      obtain ⟨i_3, h⟩ := sk_chkE h
      refine sk_iald (o := 11) C hM rfl i_3 dX6_turns_26 ?_
      refine lv_topi (fun x_4 ex_4 => ?_)
      have h := sk_letU h ex_4
      refine lv_istore_n (lv' := [(3, .int x_4), (0, .ref (sk_ad g 0)), (1, .int a1), (2, .int a2)]) hx hb dX6_turns_27 rfl hl (by decide) rfl (fun ls hl => ?_)
      refine lv_aload_n hx hb dX6_turns_28 rfl (lv_at hl 1 rfl) ?_
      refine sk_getR (o := 0) (ci := 6) (j := 0) (t := 10) C hM rfl rfl (by decide) rfl rfl kw_297 dX6_turns_29 ?_
      refine sk_getR (o := 10) (ci := 5) (j := 1) (t := 11) C hM rfl rfl (by decide) rfl rfl kw_167 dX6_turns_32 ?_
      refine lv_iload_n hx hb dX6_turns_35 rfl (lv_at hl 2 rfl) ?_
      refine lv_iload_n hx hb dX6_turns_36 rfl (lv_at hl 3 rfl) ?_
      obtain ⟨i_5, h⟩ := sk_chkE h
      refine sk_iast (o := 11) C hM hS rfl i_5 dX6_turns_37 (fun M_6 eM_6 H locs hM hS => ?_)
      have h := sk_letU h eM_6
      refine lv_iload_n hx hb dX6_turns_38 rfl (lv_at hl 0 rfl) ?_
      exact sk_iret C hM hS (sk_e2 h) dX6_turns_39
    · have h := sk_pos h hc
      refine lv_ldc (v := (-1000000001)) hx hb hown (hts _ kw_347) dX6_turns_15 ?_
      exact sk_iret C hM hS (sk_e2 h) dX6_turns_17
theorem dX6_pace_0 : decode cX6_pace 0 = .ok (.aload_n 0, 1) := by decide +kernel
theorem dX6_pace_1 : decode cX6_pace 1 = .ok (.iload_n 1, 1) := by decide +kernel
theorem dX6_pace_2 : decode cX6_pace 2 = .ok (.invokevirtual 84, 3) := by decide +kernel
theorem dX6_pace_5 : decode cX6_pace 5 = .ok (.ifCond .eq 13, 3) := by decide +kernel
theorem dX6_pace_8 : decode cX6_pace 8 = .ok (.iload_n 2, 1) := by decide +kernel
theorem dX6_pace_9 : decode cX6_pace 9 = .ok (.iconst 0, 1) := by decide +kernel
theorem dX6_pace_10 : decode cX6_pace 10 = .ok (.bipush 50, 2) := by decide +kernel
theorem dX6_pace_12 : decode cX6_pace 12 = .ok (.invokestatic 75, 3) := by decide +kernel
theorem dX6_pace_15 : decode cX6_pace 15 = .ok (.ifCond .ne 6, 3) := by decide +kernel
theorem dX6_pace_18 : decode cX6_pace 18 = .ok (.ldc 79, 2) := by decide +kernel
theorem dX6_pace_20 : decode cX6_pace 20 = .ok (.ireturn, 1) := by decide +kernel
theorem dX6_pace_21 : decode cX6_pace 21 = .ok (.aload_n 0, 1) := by decide +kernel
theorem dX6_pace_22 : decode cX6_pace 22 = .ok (.getfield 28, 3) := by decide +kernel
theorem dX6_pace_25 : decode cX6_pace 25 = .ok (.getfield 90, 3) := by decide +kernel
theorem dX6_pace_28 : decode cX6_pace 28 = .ok (.iload_n 1, 1) := by decide +kernel
theorem dX6_pace_29 : decode cX6_pace 29 = .ok (.iaload, 1) := by decide +kernel
theorem dX6_pace_30 : decode cX6_pace 30 = .ok (.istore_n 3, 1) := by decide +kernel
theorem dX6_pace_31 : decode cX6_pace 31 = .ok (.aload_n 0, 1) := by decide +kernel
theorem dX6_pace_32 : decode cX6_pace 32 = .ok (.getfield 28, 3) := by decide +kernel
theorem dX6_pace_35 : decode cX6_pace 35 = .ok (.getfield 90, 3) := by decide +kernel
theorem dX6_pace_38 : decode cX6_pace 38 = .ok (.iload_n 1, 1) := by decide +kernel
theorem dX6_pace_39 : decode cX6_pace 39 = .ok (.iload_n 2, 1) := by decide +kernel
theorem dX6_pace_40 : decode cX6_pace 40 = .ok (.iastore, 1) := by decide +kernel
theorem dX6_pace_41 : decode cX6_pace 41 = .ok (.iload_n 3, 1) := by decide +kernel
theorem dX6_pace_42 : decode cX6_pace 42 = .ok (.ireturn, 1) := by decide +kernel
set_option maxHeartbeats 4000000 in
set_option maxRecDepth 100000 in
theorem c_X6_pace (g : sk_G) (l : Launch) (a1 : Int32) (a2 : Int32) (M : sk_M) {rr : Int32} {MM : sk_M} (h : f_X6_pace a1 a2 M = some (rr, MM)) : sk_MI g l yX6_pace cX6_pace 4 (some .int) 3 [.ref (sk_ad g 0), .int a1, .int a2] M rr MM := by
  refine sk_go [(0, .ref (sk_ad g 0)), (1, .int a1), (2, .int a2)] (by decide) (Nat.le_of_ble_eq_true rfl) rfl ?_
  intro p e s m av below meth c C ls hl hM hS
  obtain ⟨hx, hb, hml, hown, hts, hK, hE, hr, hlocks⟩ := id C
  rw [f_X6_pace] at h
  refine lv_aload_n hx hb dX6_pace_0 rfl (lv_at hl 0 rfl) ?_
  refine lv_iload_n hx hb dX6_pace_1 rfl (lv_at hl 1 rfl) ?_
  refine sk_contI (sk_runV (As := [.int a1]) (rest := []) C (c_X6_isScent g l a1 M rfl) yo_X6_isScent kw_357 (sk_recv (ci := 6) C hM rfl rfl) (by decide) hM hS hl.1 rfl rfl (Nat.le_of_ble_eq_true rfl) dX6_pace_2) hS (fun H locs hM hS => ?_)
  refine lv_if_eq hx hb dX6_pace_5 rfl (fun hc => ?_) (fun hc => ?_)
  · have h := sk_pos h hc
    refine lv_ldc (v := (-1000000001)) hx hb hown (hts _ kw_347) dX6_pace_18 ?_
    exact sk_iret C hM hS (sk_e2 h) dX6_pace_20
  · have h := sk_neg h hc
    refine lv_iload_n hx hb dX6_pace_8 rfl (lv_at hl 2 rfl) ?_
    refine lv_iconst (v := 0) hx hb dX6_pace_9 (by decide) ?_
    refine lv_bipush (v := 50) hx hb dX6_pace_10 (by decide) ?_
    refine sk_contI (sk_runS (As := [.int a2, .int 0, .int 50]) (rest := []) C (c_X6_within g l a2 0 50 M rfl) yo_X6_within kw_344 (by decide) hM hS hl.1 rfl rfl (Nat.le_of_ble_eq_true rfl) dX6_pace_12) hS (fun H locs hM hS => ?_)
    refine lv_if_ne hx hb dX6_pace_15 rfl (fun hc => ?_) (fun hc => ?_)
    · have h := sk_neg h hc
      refine lv_aload_n hx hb dX6_pace_21 rfl (lv_at hl 0 rfl) ?_
      refine sk_getR (o := 0) (ci := 6) (j := 0) (t := 10) C hM rfl rfl (by decide) rfl rfl kw_297 dX6_pace_22 ?_
      refine sk_getR (o := 10) (ci := 5) (j := 2) (t := 12) C hM rfl rfl (by decide) rfl rfl kw_169 dX6_pace_25 ?_
      refine lv_iload_n hx hb dX6_pace_28 rfl (lv_at hl 1 rfl) ?_
      obtain ⟨i_3, h⟩ := sk_chkE h
      refine sk_iald (o := 12) C hM rfl i_3 dX6_pace_29 ?_
      refine lv_topi (fun x_4 ex_4 => ?_)
      have h := sk_letU h ex_4
      refine lv_istore_n (lv' := [(3, .int x_4), (0, .ref (sk_ad g 0)), (1, .int a1), (2, .int a2)]) hx hb dX6_pace_30 rfl hl (by decide) rfl (fun ls hl => ?_)
      refine lv_aload_n hx hb dX6_pace_31 rfl (lv_at hl 1 rfl) ?_
      refine sk_getR (o := 0) (ci := 6) (j := 0) (t := 10) C hM rfl rfl (by decide) rfl rfl kw_297 dX6_pace_32 ?_
      refine sk_getR (o := 10) (ci := 5) (j := 2) (t := 12) C hM rfl rfl (by decide) rfl rfl kw_169 dX6_pace_35 ?_
      refine lv_iload_n hx hb dX6_pace_38 rfl (lv_at hl 2 rfl) ?_
      refine lv_iload_n hx hb dX6_pace_39 rfl (lv_at hl 3 rfl) ?_
      obtain ⟨i_5, h⟩ := sk_chkE h
      refine sk_iast (o := 12) C hM hS rfl i_5 dX6_pace_40 (fun M_6 eM_6 H locs hM hS => ?_)
      have h := sk_letU h eM_6
      refine lv_iload_n hx hb dX6_pace_41 rfl (lv_at hl 0 rfl) ?_
      exact sk_iret C hM hS (sk_e2 h) dX6_pace_42
    · have h := sk_pos h hc
      refine lv_ldc (v := (-1000000001)) hx hb hown (hts _ kw_347) dX6_pace_18 ?_
      exact sk_iret C hM hS (sk_e2 h) dX6_pace_20
theorem dX6_hide_0 : decode cX6_hide 0 = .ok (.aload_n 0, 1) := by decide +kernel
theorem dX6_hide_1 : decode cX6_hide 1 = .ok (.iload_n 1, 1) := by decide +kernel
theorem dX6_hide_2 : decode cX6_hide 2 = .ok (.invokevirtual 84, 3) := by decide +kernel
theorem dX6_hide_5 : decode cX6_hide 5 = .ok (.ifCond .eq 25, 3) := by decide +kernel
theorem dX6_hide_8 : decode cX6_hide 8 = .ok (.aload_n 0, 1) := by decide +kernel
theorem dX6_hide_9 : decode cX6_hide 9 = .ok (.iload_n 2, 1) := by decide +kernel
theorem dX6_hide_10 : decode cX6_hide 10 = .ok (.invokevirtual 84, 3) := by decide +kernel
theorem dX6_hide_13 : decode cX6_hide 13 = .ok (.ifCond .eq 17, 3) := by decide +kernel
theorem dX6_hide_16 : decode cX6_hide 16 = .ok (.iload_n 1, 1) := by decide +kernel
theorem dX6_hide_17 : decode cX6_hide 17 = .ok (.iload_n 2, 1) := by decide +kernel
theorem dX6_hide_18 : decode cX6_hide 18 = .ok (.if_icmp .eq 12, 3) := by decide +kernel
theorem dX6_hide_21 : decode cX6_hide 21 = .ok (.iload_n 3, 1) := by decide +kernel
theorem dX6_hide_22 : decode cX6_hide 22 = .ok (.iconst 0, 1) := by decide +kernel
theorem dX6_hide_23 : decode cX6_hide 23 = .ok (.iconst 1, 1) := by decide +kernel
theorem dX6_hide_24 : decode cX6_hide 24 = .ok (.invokestatic 75, 3) := by decide +kernel
theorem dX6_hide_27 : decode cX6_hide 27 = .ok (.ifCond .ne 6, 3) := by decide +kernel
theorem dX6_hide_30 : decode cX6_hide 30 = .ok (.ldc 79, 2) := by decide +kernel
theorem dX6_hide_32 : decode cX6_hide 32 = .ok (.ireturn, 1) := by decide +kernel
theorem dX6_hide_33 : decode cX6_hide 33 = .ok (.aload_n 0, 1) := by decide +kernel
theorem dX6_hide_34 : decode cX6_hide 34 = .ok (.getfield 28, 3) := by decide +kernel
theorem dX6_hide_37 : decode cX6_hide 37 = .ok (.getfield 96, 3) := by decide +kernel
theorem dX6_hide_40 : decode cX6_hide 40 = .ok (.iload_n 1, 1) := by decide +kernel
theorem dX6_hide_41 : decode cX6_hide 41 = .ok (.iaload, 1) := by decide +kernel
theorem dX6_hide_42 : decode cX6_hide 42 = .ok (.iload_n 2, 1) := by decide +kernel
theorem dX6_hide_43 : decode cX6_hide 43 = .ok (.ishr, 1) := by decide +kernel
theorem dX6_hide_44 : decode cX6_hide 44 = .ok (.iconst 1, 1) := by decide +kernel
theorem dX6_hide_45 : decode cX6_hide 45 = .ok (.iand, 1) := by decide +kernel
theorem dX6_hide_46 : decode cX6_hide 46 = .ok (.istore 4, 2) := by decide +kernel
theorem dX6_hide_48 : decode cX6_hide 48 = .ok (.aload_n 0, 1) := by decide +kernel
theorem dX6_hide_49 : decode cX6_hide 49 = .ok (.getfield 28, 3) := by decide +kernel
theorem dX6_hide_52 : decode cX6_hide 52 = .ok (.getfield 96, 3) := by decide +kernel
theorem dX6_hide_55 : decode cX6_hide 55 = .ok (.iload_n 1, 1) := by decide +kernel
theorem dX6_hide_56 : decode cX6_hide 56 = .ok (.aload_n 0, 1) := by decide +kernel
theorem dX6_hide_57 : decode cX6_hide 57 = .ok (.getfield 28, 3) := by decide +kernel
theorem dX6_hide_60 : decode cX6_hide 60 = .ok (.getfield 96, 3) := by decide +kernel
theorem dX6_hide_63 : decode cX6_hide 63 = .ok (.iload_n 1, 1) := by decide +kernel
theorem dX6_hide_64 : decode cX6_hide 64 = .ok (.iaload, 1) := by decide +kernel
theorem dX6_hide_65 : decode cX6_hide 65 = .ok (.iconst 1, 1) := by decide +kernel
theorem dX6_hide_66 : decode cX6_hide 66 = .ok (.iload_n 2, 1) := by decide +kernel
theorem dX6_hide_67 : decode cX6_hide 67 = .ok (.ishl, 1) := by decide +kernel
theorem dX6_hide_68 : decode cX6_hide 68 = .ok (.iconst (-1), 1) := by decide +kernel
theorem dX6_hide_69 : decode cX6_hide 69 = .ok (.ixor, 1) := by decide +kernel
theorem dX6_hide_70 : decode cX6_hide 70 = .ok (.iand, 1) := by decide +kernel
theorem dX6_hide_71 : decode cX6_hide 71 = .ok (.iload_n 3, 1) := by decide +kernel
theorem dX6_hide_72 : decode cX6_hide 72 = .ok (.iload_n 2, 1) := by decide +kernel
theorem dX6_hide_73 : decode cX6_hide 73 = .ok (.ishl, 1) := by decide +kernel
theorem dX6_hide_74 : decode cX6_hide 74 = .ok (.ior, 1) := by decide +kernel
theorem dX6_hide_75 : decode cX6_hide 75 = .ok (.iastore, 1) := by decide +kernel
theorem dX6_hide_76 : decode cX6_hide 76 = .ok (.iload 4, 2) := by decide +kernel
theorem dX6_hide_78 : decode cX6_hide 78 = .ok (.ireturn, 1) := by decide +kernel
set_option maxHeartbeats 4000000 in
set_option maxRecDepth 100000 in
theorem c_X6_hide (g : sk_G) (l : Launch) (a1 : Int32) (a2 : Int32) (a3 : Int32) (M : sk_M) {rr : Int32} {MM : sk_M} (h : f_X6_hide a1 a2 a3 M = some (rr, MM)) : sk_MI g l yX6_hide cX6_hide 5 (some .int) 3 [.ref (sk_ad g 0), .int a1, .int a2, .int a3] M rr MM := by
  refine sk_go [(0, .ref (sk_ad g 0)), (1, .int a1), (2, .int a2), (3, .int a3)] (by decide) (Nat.le_of_ble_eq_true rfl) rfl ?_
  intro p e s m av below meth c C ls hl hM hS
  obtain ⟨hx, hb, hml, hown, hts, hK, hE, hr, hlocks⟩ := id C
  rw [f_X6_hide] at h
  refine lv_aload_n hx hb dX6_hide_0 rfl (lv_at hl 0 rfl) ?_
  refine lv_iload_n hx hb dX6_hide_1 rfl (lv_at hl 1 rfl) ?_
  refine sk_contI (sk_runV (As := [.int a1]) (rest := []) C (c_X6_isScent g l a1 M rfl) yo_X6_isScent kw_357 (sk_recv (ci := 6) C hM rfl rfl) (by decide) hM hS hl.1 rfl rfl (Nat.le_of_ble_eq_true rfl) dX6_hide_2) hS (fun H locs hM hS => ?_)
  refine lv_if_eq hx hb dX6_hide_5 rfl (fun hc => ?_) (fun hc => ?_)
  · have h := sk_pos h hc
    refine lv_ldc (v := (-1000000001)) hx hb hown (hts _ kw_347) dX6_hide_30 ?_
    exact sk_iret C hM hS (sk_e2 h) dX6_hide_32
  · have h := sk_neg h hc
    refine lv_aload_n hx hb dX6_hide_8 rfl (lv_at hl 0 rfl) ?_
    refine lv_iload_n hx hb dX6_hide_9 rfl (lv_at hl 2 rfl) ?_
    refine sk_contI (sk_runV (As := [.int a2]) (rest := []) C (c_X6_isScent g l a2 M rfl) yo_X6_isScent kw_357 (sk_recv (ci := 6) C hM rfl rfl) (by decide) hM hS hl.1 rfl rfl (Nat.le_of_ble_eq_true rfl) dX6_hide_10) hS (fun H locs hM hS => ?_)
    refine lv_if_eq hx hb dX6_hide_13 rfl (fun hc => ?_) (fun hc => ?_)
    · have h := sk_pos h hc
      refine lv_ldc (v := (-1000000001)) hx hb hown (hts _ kw_347) dX6_hide_30 ?_
      exact sk_iret C hM hS (sk_e2 h) dX6_hide_32
    · have h := sk_neg h hc
      refine lv_iload_n hx hb dX6_hide_16 rfl (lv_at hl 1 rfl) ?_
      refine lv_iload_n hx hb dX6_hide_17 rfl (lv_at hl 2 rfl) ?_
      refine lv_icmp_eq hx hb dX6_hide_18 rfl (fun hc => ?_) (fun hc => ?_)
      · have h := sk_pos h hc
        refine lv_ldc (v := (-1000000001)) hx hb hown (hts _ kw_347) dX6_hide_30 ?_
        exact sk_iret C hM hS (sk_e2 h) dX6_hide_32
      · have h := sk_neg h hc
        refine lv_iload_n hx hb dX6_hide_21 rfl (lv_at hl 3 rfl) ?_
        refine lv_iconst (v := 0) hx hb dX6_hide_22 (by decide) ?_
        refine lv_iconst (v := 1) hx hb dX6_hide_23 (by decide) ?_
        refine sk_contI (sk_runS (As := [.int a3, .int 0, .int 1]) (rest := []) C (c_X6_within g l a3 0 1 M rfl) yo_X6_within kw_344 (by decide) hM hS hl.1 rfl rfl (Nat.le_of_ble_eq_true rfl) dX6_hide_24) hS (fun H locs hM hS => ?_)
        refine lv_if_ne hx hb dX6_hide_27 rfl (fun hc => ?_) (fun hc => ?_)
        · have h := sk_neg h hc
          refine lv_aload_n hx hb dX6_hide_33 rfl (lv_at hl 0 rfl) ?_
          refine sk_getR (o := 0) (ci := 6) (j := 0) (t := 10) C hM rfl rfl (by decide) rfl rfl kw_297 dX6_hide_34 ?_
          refine sk_getR (o := 10) (ci := 5) (j := 3) (t := 13) C hM rfl rfl (by decide) rfl rfl kw_171 dX6_hide_37 ?_
          refine lv_iload_n hx hb dX6_hide_40 rfl (lv_at hl 1 rfl) ?_
          obtain ⟨i_4, h⟩ := sk_chkE h
          refine sk_iald (o := 13) C hM rfl i_4 dX6_hide_41 ?_
          refine lv_iload_n hx hb dX6_hide_42 rfl (lv_at hl 2 rfl) ?_
          refine lv_ishr hx hb dX6_hide_43 ?_
          refine lv_iconst (v := 1) hx hb dX6_hide_44 (by decide) ?_
          refine lv_iand hx hb dX6_hide_45 ?_
          refine lv_topi (fun x_5 ex_5 => ?_)
          have h := sk_letU h ex_5
          refine lv_istore (lv' := [(4, .int x_5), (0, .ref (sk_ad g 0)), (1, .int a1), (2, .int a2), (3, .int a3)]) hx hb dX6_hide_46 hl (by decide) rfl (fun ls hl => ?_)
          refine lv_aload_n hx hb dX6_hide_48 rfl (lv_at hl 1 rfl) ?_
          refine sk_getR (o := 0) (ci := 6) (j := 0) (t := 10) C hM rfl rfl (by decide) rfl rfl kw_297 dX6_hide_49 ?_
          refine sk_getR (o := 10) (ci := 5) (j := 3) (t := 13) C hM rfl rfl (by decide) rfl rfl kw_171 dX6_hide_52 ?_
          refine lv_iload_n hx hb dX6_hide_55 rfl (lv_at hl 2 rfl) ?_
          refine lv_aload_n hx hb dX6_hide_56 rfl (lv_at hl 1 rfl) ?_
          refine sk_getR (o := 0) (ci := 6) (j := 0) (t := 10) C hM rfl rfl (by decide) rfl rfl kw_297 dX6_hide_57 ?_
          refine sk_getR (o := 10) (ci := 5) (j := 3) (t := 13) C hM rfl rfl (by decide) rfl rfl kw_171 dX6_hide_60 ?_
          refine lv_iload_n hx hb dX6_hide_63 rfl (lv_at hl 2 rfl) ?_
          obtain ⟨i_6, h⟩ := sk_chkE h
          refine sk_iald (o := 13) C hM rfl i_6 dX6_hide_64 ?_
          refine lv_iconst (v := 1) hx hb dX6_hide_65 (by decide) ?_
          refine lv_iload_n hx hb dX6_hide_66 rfl (lv_at hl 3 rfl) ?_
          refine lv_ishl hx hb dX6_hide_67 ?_
          refine lv_iconst (v := (-1)) hx hb dX6_hide_68 (by decide) ?_
          refine lv_ixor hx hb dX6_hide_69 ?_
          refine lv_iand hx hb dX6_hide_70 ?_
          refine lv_iload_n hx hb dX6_hide_71 rfl (lv_at hl 4 rfl) ?_
          refine lv_iload_n hx hb dX6_hide_72 rfl (lv_at hl 3 rfl) ?_
          refine lv_ishl hx hb dX6_hide_73 ?_
          refine lv_ior hx hb dX6_hide_74 ?_
          obtain ⟨i_7, h⟩ := sk_chkE h
          refine sk_iast (o := 13) C hM hS rfl i_7 dX6_hide_75 (fun M_8 eM_8 H locs hM hS => ?_)
          have h := sk_letU h eM_8
          refine lv_iload hx hb dX6_hide_76 (lv_at hl 0 rfl) ?_
          exact sk_iret C hM hS (sk_e2 h) dX6_hide_78
        · have h := sk_pos h hc
          refine lv_ldc (v := (-1000000001)) hx hb hown (hts _ kw_347) dX6_hide_30 ?_
          exact sk_iret C hM hS (sk_e2 h) dX6_hide_32
theorem dX6_isNose_0 : decode cX6_isNose 0 = .ok (.iload_n 0, 1) := by decide +kernel
theorem dX6_isNose_1 : decode cX6_isNose 1 = .ok (.iconst 0, 1) := by decide +kernel
theorem dX6_isNose_2 : decode cX6_isNose 2 = .ok (.iconst 3, 1) := by decide +kernel
theorem dX6_isNose_3 : decode cX6_isNose 3 = .ok (.invokestatic 75, 3) := by decide +kernel
theorem dX6_isNose_6 : decode cX6_isNose 6 = .ok (.ireturn, 1) := by decide +kernel
set_option maxHeartbeats 4000000 in
set_option maxRecDepth 100000 in
theorem c_X6_isNose (g : sk_G) (l : Launch) (a0 : Int32) (M : sk_M) {rr : Int32} (h : f_X6_isNose a0 = rr) : sk_MI g l yX6_isNose cX6_isNose 1 (some .boolean) 2 [.int a0] M rr M := by
  refine sk_go [(0, .int a0)] (by decide) (Nat.le_of_ble_eq_true rfl) rfl ?_
  intro p e s m av below meth c C ls hl hM hS
  obtain ⟨hx, hb, hml, hown, hts, hK, hE, hr, hlocks⟩ := id C
  rw [f_X6_isNose] at h
  refine lv_iload_n hx hb dX6_isNose_0 rfl (lv_at hl 0 rfl) ?_
  refine lv_iconst (v := 0) hx hb dX6_isNose_1 (by decide) ?_
  refine lv_iconst (v := 3) hx hb dX6_isNose_2 (by decide) ?_
  refine sk_contI (sk_runS (As := [.int a0, .int 0, .int 3]) (rest := []) C (c_X6_within g l a0 0 3 M rfl) yo_X6_within kw_344 (by decide) hM hS hl.1 rfl rfl (Nat.le_of_ble_eq_true rfl) dX6_isNose_3) hS (fun H locs hM hS => ?_)
  exact sk_zret C hM hS (sk_nz (fz_X6_within a0 0 3)) ⟨h, rfl⟩ dX6_isNose_6
theorem dX6_nose_0 : decode cX6_nose 0 = .ok (.iload_n 1, 1) := by decide +kernel
theorem dX6_nose_1 : decode cX6_nose 1 = .ok (.invokestatic 104, 3) := by decide +kernel
theorem dX6_nose_4 : decode cX6_nose 4 = .ok (.ifCond .eq 14, 3) := by decide +kernel
theorem dX6_nose_7 : decode cX6_nose 7 = .ok (.iload_n 2, 1) := by decide +kernel
theorem dX6_nose_8 : decode cX6_nose 8 = .ok (.iconst 1, 1) := by decide +kernel
theorem dX6_nose_9 : decode cX6_nose 9 = .ok (.sipush 999, 3) := by decide +kernel
theorem dX6_nose_12 : decode cX6_nose 12 = .ok (.invokestatic 75, 3) := by decide +kernel
theorem dX6_nose_15 : decode cX6_nose 15 = .ok (.ifCond .ne 6, 3) := by decide +kernel
theorem dX6_nose_18 : decode cX6_nose 18 = .ok (.ldc 79, 2) := by decide +kernel
theorem dX6_nose_20 : decode cX6_nose 20 = .ok (.ireturn, 1) := by decide +kernel
theorem dX6_nose_21 : decode cX6_nose 21 = .ok (.aload_n 0, 1) := by decide +kernel
theorem dX6_nose_22 : decode cX6_nose 22 = .ok (.getfield 28, 3) := by decide +kernel
theorem dX6_nose_25 : decode cX6_nose 25 = .ok (.getfield 107, 3) := by decide +kernel
theorem dX6_nose_28 : decode cX6_nose 28 = .ok (.iload_n 1, 1) := by decide +kernel
theorem dX6_nose_29 : decode cX6_nose 29 = .ok (.iaload, 1) := by decide +kernel
theorem dX6_nose_30 : decode cX6_nose 30 = .ok (.istore_n 3, 1) := by decide +kernel
theorem dX6_nose_31 : decode cX6_nose 31 = .ok (.aload_n 0, 1) := by decide +kernel
theorem dX6_nose_32 : decode cX6_nose 32 = .ok (.getfield 28, 3) := by decide +kernel
theorem dX6_nose_35 : decode cX6_nose 35 = .ok (.getfield 107, 3) := by decide +kernel
theorem dX6_nose_38 : decode cX6_nose 38 = .ok (.iload_n 1, 1) := by decide +kernel
theorem dX6_nose_39 : decode cX6_nose 39 = .ok (.iload_n 2, 1) := by decide +kernel
theorem dX6_nose_40 : decode cX6_nose 40 = .ok (.iastore, 1) := by decide +kernel
theorem dX6_nose_41 : decode cX6_nose 41 = .ok (.iload_n 3, 1) := by decide +kernel
theorem dX6_nose_42 : decode cX6_nose 42 = .ok (.ireturn, 1) := by decide +kernel
set_option maxHeartbeats 4000000 in
set_option maxRecDepth 100000 in
theorem c_X6_nose (g : sk_G) (l : Launch) (a1 : Int32) (a2 : Int32) (M : sk_M) {rr : Int32} {MM : sk_M} (h : f_X6_nose a1 a2 M = some (rr, MM)) : sk_MI g l yX6_nose cX6_nose 4 (some .int) 3 [.ref (sk_ad g 0), .int a1, .int a2] M rr MM := by
  refine sk_go [(0, .ref (sk_ad g 0)), (1, .int a1), (2, .int a2)] (by decide) (Nat.le_of_ble_eq_true rfl) rfl ?_
  intro p e s m av below meth c C ls hl hM hS
  obtain ⟨hx, hb, hml, hown, hts, hK, hE, hr, hlocks⟩ := id C
  rw [f_X6_nose] at h
  refine lv_iload_n hx hb dX6_nose_0 rfl (lv_at hl 1 rfl) ?_
  refine sk_contI (sk_runS (As := [.int a1]) (rest := []) C (c_X6_isNose g l a1 M rfl) yo_X6_isNose kw_390 (by decide) hM hS hl.1 rfl rfl (Nat.le_of_ble_eq_true rfl) dX6_nose_1) hS (fun H locs hM hS => ?_)
  refine lv_if_eq hx hb dX6_nose_4 rfl (fun hc => ?_) (fun hc => ?_)
  · have h := sk_pos h hc
    refine lv_ldc (v := (-1000000001)) hx hb hown (hts _ kw_347) dX6_nose_18 ?_
    exact sk_iret C hM hS (sk_e2 h) dX6_nose_20
  · have h := sk_neg h hc
    refine lv_iload_n hx hb dX6_nose_7 rfl (lv_at hl 2 rfl) ?_
    refine lv_iconst (v := 1) hx hb dX6_nose_8 (by decide) ?_
    refine lv_sipush (v := 999) hx hb dX6_nose_9 (by decide) ?_
    refine sk_contI (sk_runS (As := [.int a2, .int 1, .int 999]) (rest := []) C (c_X6_within g l a2 1 999 M rfl) yo_X6_within kw_344 (by decide) hM hS hl.1 rfl rfl (Nat.le_of_ble_eq_true rfl) dX6_nose_12) hS (fun H locs hM hS => ?_)
    refine lv_if_ne hx hb dX6_nose_15 rfl (fun hc => ?_) (fun hc => ?_)
    · have h := sk_neg h hc
      refine lv_aload_n hx hb dX6_nose_21 rfl (lv_at hl 0 rfl) ?_
      refine sk_getR (o := 0) (ci := 6) (j := 0) (t := 10) C hM rfl rfl (by decide) rfl rfl kw_297 dX6_nose_22 ?_
      refine sk_getR (o := 10) (ci := 5) (j := 4) (t := 14) C hM rfl rfl (by decide) rfl rfl kw_173 dX6_nose_25 ?_
      refine lv_iload_n hx hb dX6_nose_28 rfl (lv_at hl 1 rfl) ?_
      obtain ⟨i_3, h⟩ := sk_chkE h
      refine sk_iald (o := 14) C hM rfl i_3 dX6_nose_29 ?_
      refine lv_topi (fun x_4 ex_4 => ?_)
      have h := sk_letU h ex_4
      refine lv_istore_n (lv' := [(3, .int x_4), (0, .ref (sk_ad g 0)), (1, .int a1), (2, .int a2)]) hx hb dX6_nose_30 rfl hl (by decide) rfl (fun ls hl => ?_)
      refine lv_aload_n hx hb dX6_nose_31 rfl (lv_at hl 1 rfl) ?_
      refine sk_getR (o := 0) (ci := 6) (j := 0) (t := 10) C hM rfl rfl (by decide) rfl rfl kw_297 dX6_nose_32 ?_
      refine sk_getR (o := 10) (ci := 5) (j := 4) (t := 14) C hM rfl rfl (by decide) rfl rfl kw_173 dX6_nose_35 ?_
      refine lv_iload_n hx hb dX6_nose_38 rfl (lv_at hl 2 rfl) ?_
      refine lv_iload_n hx hb dX6_nose_39 rfl (lv_at hl 3 rfl) ?_
      obtain ⟨i_5, h⟩ := sk_chkE h
      refine sk_iast (o := 14) C hM hS rfl i_5 dX6_nose_40 (fun M_6 eM_6 H locs hM hS => ?_)
      have h := sk_letU h eM_6
      refine lv_iload_n hx hb dX6_nose_41 rfl (lv_at hl 0 rfl) ?_
      exact sk_iret C hM hS (sk_e2 h) dX6_nose_42
    · have h := sk_pos h hc
      refine lv_ldc (v := (-1000000001)) hx hb hown (hts _ kw_347) dX6_nose_18 ?_
      exact sk_iret C hM hS (sk_e2 h) dX6_nose_20
theorem dX6_word_0 : decode cX6_word 0 = .ok (.iconst 1, 1) := by decide +kernel
theorem dX6_word_1 : decode cX6_word 1 = .ok (.aload_n 0, 1) := by decide +kernel
theorem dX6_word_2 : decode cX6_word 2 = .ok (.getfield 28, 3) := by decide +kernel
theorem dX6_word_5 : decode cX6_word 5 = .ok (.getfield 110, 3) := by decide +kernel
theorem dX6_word_8 : decode cX6_word 8 = .ok (.ishl, 1) := by decide +kernel
theorem dX6_word_9 : decode cX6_word 9 = .ok (.iconst 1, 1) := by decide +kernel
theorem dX6_word_10 : decode cX6_word 10 = .ok (.isub, 1) := by decide +kernel
theorem dX6_word_11 : decode cX6_word 11 = .ok (.istore_n 2, 1) := by decide +kernel
theorem dX6_word_12 : decode cX6_word 12 = .ok (.iload_n 1, 1) := by decide +kernel
theorem dX6_word_13 : decode cX6_word 13 = .ok (.ifCond .eq 11, 3) := by decide +kernel
theorem dX6_word_16 : decode cX6_word 16 = .ok (.iload_n 1, 1) := by decide +kernel
theorem dX6_word_17 : decode cX6_word 17 = .ok (.iload_n 2, 1) := by decide +kernel
theorem dX6_word_18 : decode cX6_word 18 = .ok (.iconst (-1), 1) := by decide +kernel
theorem dX6_word_19 : decode cX6_word 19 = .ok (.ixor, 1) := by decide +kernel
theorem dX6_word_20 : decode cX6_word 20 = .ok (.iand, 1) := by decide +kernel
theorem dX6_word_21 : decode cX6_word 21 = .ok (.ifCond .eq 6, 3) := by decide +kernel
theorem dX6_word_24 : decode cX6_word 24 = .ok (.ldc 79, 2) := by decide +kernel
theorem dX6_word_26 : decode cX6_word 26 = .ok (.ireturn, 1) := by decide +kernel
theorem dX6_word_27 : decode cX6_word 27 = .ok (.aload_n 0, 1) := by decide +kernel
theorem dX6_word_28 : decode cX6_word 28 = .ok (.getfield 28, 3) := by decide +kernel
theorem dX6_word_31 : decode cX6_word 31 = .ok (.getfield 114, 3) := by decide +kernel
theorem dX6_word_34 : decode cX6_word 34 = .ok (.bipush 12, 2) := by decide +kernel
theorem dX6_word_36 : decode cX6_word 36 = .ok (.if_icmp .lt 6, 3) := by decide +kernel
theorem dX6_word_39 : decode cX6_word 39 = .ok (.ldc 117, 2) := by decide +kernel
theorem dX6_word_41 : decode cX6_word 41 = .ok (.ireturn, 1) := by decide +kernel
theorem dX6_word_42 : decode cX6_word 42 = .ok (.aload_n 0, 1) := by decide +kernel
theorem dX6_word_43 : decode cX6_word 43 = .ok (.getfield 28, 3) := by decide +kernel
theorem dX6_word_46 : decode cX6_word 46 = .ok (.getfield 118, 3) := by decide +kernel
theorem dX6_word_49 : decode cX6_word 49 = .ok (.aload_n 0, 1) := by decide +kernel
theorem dX6_word_50 : decode cX6_word 50 = .ok (.getfield 28, 3) := by decide +kernel
theorem dX6_word_53 : decode cX6_word 53 = .ok (.getfield 114, 3) := by decide +kernel
theorem dX6_word_56 : decode cX6_word 56 = .ok (.iload_n 1, 1) := by decide +kernel
theorem dX6_word_57 : decode cX6_word 57 = .ok (.iastore, 1) := by decide +kernel
theorem dX6_word_58 : decode cX6_word 58 = .ok (.aload_n 0, 1) := by decide +kernel
theorem dX6_word_59 : decode cX6_word 59 = .ok (.getfield 28, 3) := by decide +kernel
theorem dX6_word_62 : decode cX6_word 62 = .ok (.dup, 1) := by decide +kernel
theorem dX6_word_63 : decode cX6_word 63 = .ok (.getfield 114, 3) := by decide +kernel
theorem dX6_word_66 : decode cX6_word 66 = .ok (.iconst 1, 1) := by decide +kernel
theorem dX6_word_67 : decode cX6_word 67 = .ok (.iadd, 1) := by decide +kernel
theorem dX6_word_68 : decode cX6_word 68 = .ok (.putfield 114, 3) := by decide +kernel
theorem dX6_word_71 : decode cX6_word 71 = .ok (.aload_n 0, 1) := by decide +kernel
theorem dX6_word_72 : decode cX6_word 72 = .ok (.getfield 28, 3) := by decide +kernel
theorem dX6_word_75 : decode cX6_word 75 = .ok (.getfield 114, 3) := by decide +kernel
theorem dX6_word_78 : decode cX6_word 78 = .ok (.iconst 1, 1) := by decide +kernel
theorem dX6_word_79 : decode cX6_word 79 = .ok (.isub, 1) := by decide +kernel
theorem dX6_word_80 : decode cX6_word 80 = .ok (.ireturn, 1) := by decide +kernel
set_option maxHeartbeats 4000000 in
set_option maxRecDepth 100000 in
theorem c_X6_word (g : sk_G) (l : Launch) (a1 : Int32) (M : sk_M) {rr : Int32} {MM : sk_M} (h : f_X6_word a1 M = some (rr, MM)) : sk_MI g l yX6_word cX6_word 3 (some .int) 1 [.ref (sk_ad g 0), .int a1] M rr MM := by
  refine sk_go [(0, .ref (sk_ad g 0)), (1, .int a1)] (by decide) (Nat.le_of_ble_eq_true rfl) rfl ?_
  intro p e s m av below meth c C ls hl hM hS
  obtain ⟨hx, hb, hml, hown, hts, hK, hE, hr, hlocks⟩ := id C
  rw [f_X6_word] at h
  refine lv_iconst (v := 1) hx hb dX6_word_0 (by decide) ?_
  refine lv_aload_n hx hb dX6_word_1 rfl (lv_at hl 0 rfl) ?_
  refine sk_getR (o := 0) (ci := 6) (j := 0) (t := 10) C hM rfl rfl (by decide) rfl rfl kw_297 dX6_word_2 ?_
  refine sk_getI (o := 10) (ci := 5) (j := 10) C hM rfl rfl (by decide) rfl kw_186 dX6_word_5 ?_
  refine lv_ishl hx hb dX6_word_8 ?_
  refine lv_iconst (v := 1) hx hb dX6_word_9 (by decide) ?_
  refine lv_isub hx hb dX6_word_10 ?_
  refine lv_topi (fun x_1 ex_1 => ?_)
  have h := sk_letU h ex_1
  refine lv_istore_n (lv' := [(2, .int x_1), (0, .ref (sk_ad g 0)), (1, .int a1)]) hx hb dX6_word_11 rfl hl (by decide) rfl (fun ls hl => ?_)
  refine lv_iload_n hx hb dX6_word_12 rfl (lv_at hl 2 rfl) ?_
  refine lv_if_eq hx hb dX6_word_13 rfl (fun hc => ?_) (fun hc => ?_)
  · have h := sk_pos h hc
    refine lv_ldc (v := (-1000000001)) hx hb hown (hts _ kw_347) dX6_word_24 ?_
    exact sk_iret C hM hS (sk_e2 h) dX6_word_26
  · have h := sk_neg h hc
    refine lv_iload_n hx hb dX6_word_16 rfl (lv_at hl 2 rfl) ?_
    refine lv_iload_n hx hb dX6_word_17 rfl (lv_at hl 0 rfl) ?_
    refine lv_iconst (v := (-1)) hx hb dX6_word_18 (by decide) ?_
    refine lv_ixor hx hb dX6_word_19 ?_
    refine lv_iand hx hb dX6_word_20 ?_
    refine lv_if_eq hx hb dX6_word_21 rfl (fun hc => ?_) (fun hc => ?_)
    · have h := sk_pos h hc
      refine lv_aload_n hx hb dX6_word_27 rfl (lv_at hl 1 rfl) ?_
      refine sk_getR (o := 0) (ci := 6) (j := 0) (t := 10) C hM rfl rfl (by decide) rfl rfl kw_297 dX6_word_28 ?_
      refine sk_getI (o := 10) (ci := 5) (j := 11) C hM rfl rfl (by decide) rfl kw_188 dX6_word_31 ?_
      refine lv_bipush (v := 12) hx hb dX6_word_34 (by decide) ?_
      refine lv_icmp_lt hx hb dX6_word_36 rfl (fun hc => ?_) (fun hc => ?_)
      · have h := sk_pos h hc
        refine lv_aload_n hx hb dX6_word_42 rfl (lv_at hl 1 rfl) ?_
        refine sk_getR (o := 0) (ci := 6) (j := 0) (t := 10) C hM rfl rfl (by decide) rfl rfl kw_297 dX6_word_43 ?_
        refine sk_getR (o := 10) (ci := 5) (j := 5) (t := 15) C hM rfl rfl (by decide) rfl rfl kw_175 dX6_word_46 ?_
        refine lv_aload_n hx hb dX6_word_49 rfl (lv_at hl 1 rfl) ?_
        refine sk_getR (o := 0) (ci := 6) (j := 0) (t := 10) C hM rfl rfl (by decide) rfl rfl kw_297 dX6_word_50 ?_
        refine sk_getI (o := 10) (ci := 5) (j := 11) C hM rfl rfl (by decide) rfl kw_188 dX6_word_53 ?_
        refine lv_iload_n hx hb dX6_word_56 rfl (lv_at hl 2 rfl) ?_
        obtain ⟨i_2, h⟩ := sk_chkE h
        refine sk_iast (o := 15) C hM hS rfl i_2 dX6_word_57 (fun M_3 eM_3 H locs hM hS => ?_)
        have h := sk_letU h eM_3
        refine lv_aload_n hx hb dX6_word_58 rfl (lv_at hl 1 rfl) ?_
        refine sk_getR (o := 0) (ci := 6) (j := 0) (t := 10) C hM rfl rfl (by decide) rfl rfl kw_297 dX6_word_59 ?_
        refine lv_dup hx hb dX6_word_62 rfl ?_
        refine sk_getI (o := 10) (ci := 5) (j := 11) C hM rfl rfl (by decide) rfl kw_188 dX6_word_63 ?_
        refine lv_iconst (v := 1) hx hb dX6_word_66 (by decide) ?_
        refine lv_iadd hx hb dX6_word_67 ?_
        refine sk_putI (o := 10) (ci := 5) (j := 11) C hM hS rfl rfl (by decide) rfl rfl (tyX5_ok 11 (by decide)) kw_188 dX6_word_68 (fun M_4 eM_4 H locs hM hS => ?_)
        have h := sk_letU h eM_4
        refine lv_aload_n hx hb dX6_word_71 rfl (lv_at hl 1 rfl) ?_
        refine sk_getR (o := 0) (ci := 6) (j := 0) (t := 10) C hM rfl rfl (by decide) rfl rfl kw_297 dX6_word_72 ?_
        refine sk_getI (o := 10) (ci := 5) (j := 11) C hM rfl rfl (by decide) rfl kw_188 dX6_word_75 ?_
        refine lv_iconst (v := 1) hx hb dX6_word_78 (by decide) ?_
        refine lv_isub hx hb dX6_word_79 ?_
        exact sk_iret C hM hS (sk_e2 h) dX6_word_80
      · have h := sk_neg h hc
        refine lv_ldc (v := (-1000000003)) hx hb hown (hts _ kw_397) dX6_word_39 ?_
        exact sk_iret C hM hS (sk_e2 h) dX6_word_41
    · have h := sk_neg h hc
      refine lv_ldc (v := (-1000000001)) hx hb hown (hts _ kw_347) dX6_word_24 ?_
      exact sk_iret C hM hS (sk_e2 h) dX6_word_26
theorem dX6_isWord_0 : decode cX6_isWord 0 = .ok (.iload_n 1, 1) := by decide +kernel
theorem dX6_isWord_1 : decode cX6_isWord 1 = .ok (.iconst 0, 1) := by decide +kernel
theorem dX6_isWord_2 : decode cX6_isWord 2 = .ok (.aload_n 0, 1) := by decide +kernel
theorem dX6_isWord_3 : decode cX6_isWord 3 = .ok (.getfield 28, 3) := by decide +kernel
theorem dX6_isWord_6 : decode cX6_isWord 6 = .ok (.getfield 114, 3) := by decide +kernel
theorem dX6_isWord_9 : decode cX6_isWord 9 = .ok (.iconst 1, 1) := by decide +kernel
theorem dX6_isWord_10 : decode cX6_isWord 10 = .ok (.isub, 1) := by decide +kernel
theorem dX6_isWord_11 : decode cX6_isWord 11 = .ok (.invokestatic 75, 3) := by decide +kernel
theorem dX6_isWord_14 : decode cX6_isWord 14 = .ok (.ireturn, 1) := by decide +kernel
set_option maxHeartbeats 4000000 in
set_option maxRecDepth 100000 in
theorem c_X6_isWord (g : sk_G) (l : Launch) (a1 : Int32) (M : sk_M) {rr : Int32} (h : f_X6_isWord a1 M = rr) : sk_MI g l yX6_isWord cX6_isWord 2 (some .boolean) 2 [.ref (sk_ad g 0), .int a1] M rr M := by
  refine sk_go [(0, .ref (sk_ad g 0)), (1, .int a1)] (by decide) (Nat.le_of_ble_eq_true rfl) rfl ?_
  intro p e s m av below meth c C ls hl hM hS
  obtain ⟨hx, hb, hml, hown, hts, hK, hE, hr, hlocks⟩ := id C
  rw [f_X6_isWord] at h
  refine lv_iload_n hx hb dX6_isWord_0 rfl (lv_at hl 1 rfl) ?_
  refine lv_iconst (v := 0) hx hb dX6_isWord_1 (by decide) ?_
  refine lv_aload_n hx hb dX6_isWord_2 rfl (lv_at hl 0 rfl) ?_
  refine sk_getR (o := 0) (ci := 6) (j := 0) (t := 10) C hM rfl rfl (by decide) rfl rfl kw_297 dX6_isWord_3 ?_
  refine sk_getI (o := 10) (ci := 5) (j := 11) C hM rfl rfl (by decide) rfl kw_188 dX6_isWord_6 ?_
  refine lv_iconst (v := 1) hx hb dX6_isWord_9 (by decide) ?_
  refine lv_isub hx hb dX6_isWord_10 ?_
  refine sk_contI (sk_runS (As := [.int a1, .int 0, .int ((M 10 11) - 1)]) (rest := []) C (c_X6_within g l a1 0 ((M 10 11) - 1) M rfl) yo_X6_within kw_344 (by decide) hM hS hl.1 rfl rfl (Nat.le_of_ble_eq_true rfl) dX6_isWord_11) hS (fun H locs hM hS => ?_)
  exact sk_zret C hM hS (sk_nz (fz_X6_within a1 0 ((M 10 11) - 1))) ⟨h, rfl⟩ dX6_isWord_14
theorem dX6_wordOf_0 : decode cX6_wordOf 0 = .ok (.aload_n 0, 1) := by decide +kernel
theorem dX6_wordOf_1 : decode cX6_wordOf 1 = .ok (.iload_n 1, 1) := by decide +kernel
theorem dX6_wordOf_2 : decode cX6_wordOf 2 = .ok (.invokevirtual 121, 3) := by decide +kernel
theorem dX6_wordOf_5 : decode cX6_wordOf 5 = .ok (.ifCond .eq 15, 3) := by decide +kernel
theorem dX6_wordOf_8 : decode cX6_wordOf 8 = .ok (.aload_n 0, 1) := by decide +kernel
theorem dX6_wordOf_9 : decode cX6_wordOf 9 = .ok (.getfield 28, 3) := by decide +kernel
theorem dX6_wordOf_12 : decode cX6_wordOf 12 = .ok (.getfield 118, 3) := by decide +kernel
theorem dX6_wordOf_15 : decode cX6_wordOf 15 = .ok (.iload_n 1, 1) := by decide +kernel
theorem dX6_wordOf_16 : decode cX6_wordOf 16 = .ok (.iaload, 1) := by decide +kernel
theorem dX6_wordOf_17 : decode cX6_wordOf 17 = .ok (.goto 5, 3) := by decide +kernel
theorem dX6_wordOf_20 : decode cX6_wordOf 20 = .ok (.ldc 79, 2) := by decide +kernel
theorem dX6_wordOf_22 : decode cX6_wordOf 22 = .ok (.ireturn, 1) := by decide +kernel
set_option maxHeartbeats 4000000 in
set_option maxRecDepth 100000 in
theorem c_X6_wordOf (g : sk_G) (l : Launch) (a1 : Int32) (M : sk_M) {rr : Int32} (h : f_X6_wordOf a1 M = some rr) : sk_MI g l yX6_wordOf cX6_wordOf 2 (some .int) 3 [.ref (sk_ad g 0), .int a1] M rr M := by
  refine sk_go [(0, .ref (sk_ad g 0)), (1, .int a1)] (by decide) (Nat.le_of_ble_eq_true rfl) rfl ?_
  intro p e s m av below meth c C ls hl hM hS
  obtain ⟨hx, hb, hml, hown, hts, hK, hE, hr, hlocks⟩ := id C
  rw [f_X6_wordOf] at h
  refine lv_aload_n hx hb dX6_wordOf_0 rfl (lv_at hl 0 rfl) ?_
  refine lv_iload_n hx hb dX6_wordOf_1 rfl (lv_at hl 1 rfl) ?_
  refine sk_contI (sk_runV (As := [.int a1]) (rest := []) C (c_X6_isWord g l a1 M rfl) yo_X6_isWord kw_402 (sk_recv (ci := 6) C hM rfl rfl) (by decide) hM hS hl.1 rfl rfl (Nat.le_of_ble_eq_true rfl) dX6_wordOf_2) hS (fun H locs hM hS => ?_)
  refine lv_if_eq hx hb dX6_wordOf_5 rfl (fun hc => ?_) (fun hc => ?_)
  · have h := sk_pos h hc
    refine lv_ldc (v := (-1000000001)) hx hb hown (hts _ kw_347) dX6_wordOf_20 ?_
    exact sk_iret C hM hS ⟨Option.some.inj h, rfl⟩ dX6_wordOf_22
  · have h := sk_neg h hc
    refine lv_aload_n hx hb dX6_wordOf_8 rfl (lv_at hl 0 rfl) ?_
    refine sk_getR (o := 0) (ci := 6) (j := 0) (t := 10) C hM rfl rfl (by decide) rfl rfl kw_297 dX6_wordOf_9 ?_
    refine sk_getR (o := 10) (ci := 5) (j := 5) (t := 15) C hM rfl rfl (by decide) rfl rfl kw_175 dX6_wordOf_12 ?_
    refine lv_iload_n hx hb dX6_wordOf_15 rfl (lv_at hl 1 rfl) ?_
    obtain ⟨i_2, h⟩ := sk_chkE h
    refine sk_iald (o := 15) C hM rfl i_2 dX6_wordOf_16 ?_
    refine lv_goto hx hb dX6_wordOf_17 rfl ?_
    exact sk_iret C hM hS ⟨Option.some.inj h, rfl⟩ dX6_wordOf_22
theorem dX6_deal_0 : decode cX6_deal 0 = .ok (.iload_n 1, 1) := by decide +kernel
theorem dX6_deal_1 : decode cX6_deal 1 = .ok (.iconst 1, 1) := by decide +kernel
theorem dX6_deal_2 : decode cX6_deal 2 = .ok (.bipush 9, 2) := by decide +kernel
theorem dX6_deal_4 : decode cX6_deal 4 = .ok (.invokestatic 75, 3) := by decide +kernel
theorem dX6_deal_7 : decode cX6_deal 7 = .ok (.ifCond .ne 6, 3) := by decide +kernel
theorem dX6_deal_10 : decode cX6_deal 10 = .ok (.ldc 79, 2) := by decide +kernel
theorem dX6_deal_12 : decode cX6_deal 12 = .ok (.ireturn, 1) := by decide +kernel
theorem dX6_deal_13 : decode cX6_deal 13 = .ok (.iload_n 1, 1) := by decide +kernel
theorem dX6_deal_14 : decode cX6_deal 14 = .ok (.bipush 9, 2) := by decide +kernel
theorem dX6_deal_16 : decode cX6_deal 16 = .ok (.aload_n 0, 1) := by decide +kernel
theorem dX6_deal_17 : decode cX6_deal 17 = .ok (.getfield 28, 3) := by decide +kernel
theorem dX6_deal_20 : decode cX6_deal 20 = .ok (.getfield 110, 3) := by decide +kernel
theorem dX6_deal_23 : decode cX6_deal 23 = .ok (.isub, 1) := by decide +kernel
theorem dX6_deal_24 : decode cX6_deal 24 = .ok (.invokestatic 124, 3) := by decide +kernel
theorem dX6_deal_27 : decode cX6_deal 27 = .ok (.istore_n 2, 1) := by decide +kernel
theorem dX6_deal_28 : decode cX6_deal 28 = .ok (.iconst 0, 1) := by decide +kernel
theorem dX6_deal_29 : decode cX6_deal 29 = .ok (.istore_n 3, 1) := by decide +kernel
theorem dX6_deal_30 : decode cX6_deal 30 = .ok (.iload_n 3, 1) := by decide +kernel
theorem dX6_deal_31 : decode cX6_deal 31 = .ok (.iload_n 2, 1) := by decide +kernel
theorem dX6_deal_32 : decode cX6_deal 32 = .ok (.if_icmp .ge 45, 3) := by decide +kernel
theorem dX6_deal_35 : decode cX6_deal 35 = .ok (.aload_n 0, 1) := by decide +kernel
theorem dX6_deal_36 : decode cX6_deal 36 = .ok (.getfield 28, 3) := by decide +kernel
theorem dX6_deal_39 : decode cX6_deal 39 = .ok (.invokevirtual 129, 3) := by decide +kernel
theorem dX6_deal_42 : decode cX6_deal 42 = .ok (.bipush 6, 2) := by decide +kernel
theorem dX6_deal_44 : decode cX6_deal 44 = .ok (.irem, 1) := by decide +kernel
theorem dX6_deal_45 : decode cX6_deal 45 = .ok (.istore 4, 2) := by decide +kernel
theorem dX6_deal_47 : decode cX6_deal 47 = .ok (.aload_n 0, 1) := by decide +kernel
theorem dX6_deal_48 : decode cX6_deal 48 = .ok (.getfield 28, 3) := by decide +kernel
theorem dX6_deal_51 : decode cX6_deal 51 = .ok (.invokevirtual 129, 3) := by decide +kernel
theorem dX6_deal_54 : decode cX6_deal 54 = .ok (.bipush 51, 2) := by decide +kernel
theorem dX6_deal_56 : decode cX6_deal 56 = .ok (.irem, 1) := by decide +kernel
theorem dX6_deal_57 : decode cX6_deal 57 = .ok (.istore 5, 2) := by decide +kernel
theorem dX6_deal_59 : decode cX6_deal 59 = .ok (.aload_n 0, 1) := by decide +kernel
theorem dX6_deal_60 : decode cX6_deal 60 = .ok (.getfield 28, 3) := by decide +kernel
theorem dX6_deal_63 : decode cX6_deal 63 = .ok (.iload 4, 2) := by decide +kernel
theorem dX6_deal_65 : decode cX6_deal 65 = .ok (.iload 5, 2) := by decide +kernel
theorem dX6_deal_67 : decode cX6_deal 67 = .ok (.invokevirtual 80, 3) := by decide +kernel
theorem dX6_deal_70 : decode cX6_deal 70 = .ok (.pop, 1) := by decide +kernel
theorem dX6_deal_71 : decode cX6_deal 71 = .ok (.iinc 3 1, 3) := by decide +kernel
theorem dX6_deal_74 : decode cX6_deal 74 = .ok (.goto (-44), 3) := by decide +kernel
theorem dX6_deal_77 : decode cX6_deal 77 = .ok (.iload_n 2, 1) := by decide +kernel
theorem dX6_deal_78 : decode cX6_deal 78 = .ok (.ireturn, 1) := by decide +kernel
set_option maxHeartbeats 4000000 in
set_option maxRecDepth 100000 in
theorem w_X6_deal_L30 {g : sk_G} {l : Launch} {p : Program} {e : Env} {s : State} {m : MethodId} {av : Array Value} {below : List Frame} {meth : Method} {c : Code} (C : sk_C g p s m av meth c cX6_deal 6 RX6 (some .int)) (a2 : Int32) {rr : Int32} {MM : sk_M} :
    ∀ (n : Nat) (a3 : Int32) (M : sk_M) (H : Heap) (locs : List Loc) (ls : Array Slot), lv_has ls 6 [(0, .ref (sk_ad g 0)), (2, .int a2), (3, .int a3)] → sk_P g M H → va_S (sk_A g) s.heap H locs → ∀ {out : sk_M}, f_X6_deal_L30 a2 n a3 M = some out → (∀ (M1 : sk_M) (H : Heap) (locs : List Loc) (ls : Array Slot), some M1 = some out → lv_has ls 6 [(2, .int a2)] → sk_P g M1 H → va_S (sk_A g) s.heap H locs → W p l e (sk_rm 2) s m av below meth c H locs 0 0 (MQ below (sk_QI g rr MM) av s 0 0 (sk_A g)) (F0 m 77 ls [])) → W p l e (sk_rm 2) s m av below meth c H locs 0 0 (MQ below (sk_QI g rr MM) av s 0 0 (sk_A g)) (F0 m 30 ls []) := by
  obtain ⟨hx, hb, hml, hown, hts, hK, hE, hr, hlocks⟩ := id C
  intro n
  induction n with
  | zero =>
    intro a3 M H locs ls hl hM hS out h
    cases h
  | succ n ih =>
    intro a3 M H locs ls hl hM hS out h kx
    rw [f_X6_deal_L30] at h
    refine lv_iload_n hx hb dX6_deal_30 rfl (lv_at hl 2 rfl) ?_
    refine lv_iload_n hx hb dX6_deal_31 rfl (lv_at hl 1 rfl) ?_
    refine lv_icmp_ge hx hb dX6_deal_32 rfl (fun hc => ?_) (fun hc => ?_)
    · have h := sk_pos h hc
      exact kx _ _ _ _ h (lv_sub hl [1] rfl) hM hS
    · have h := sk_neg h hc
      refine lv_aload_n hx hb dX6_deal_35 rfl (lv_at hl 0 rfl) ?_
      refine sk_getR (o := 0) (ci := 6) (j := 0) (t := 10) C hM rfl rfl (by decide) rfl rfl kw_297 dX6_deal_36 ?_
      obtain ⟨x_3, M_4, h_5, h⟩ := sk_b2E h
      refine sk_contI (sk_runV (As := []) (rest := []) C (c_X5_draw g l 10 (Or.inl rfl) M h_5) yo_X5_draw kw_413 (sk_recv (ci := 5) C hM rfl rfl) (by decide) hM hS hl.1 rfl rfl (Nat.le_of_ble_eq_true rfl) dX6_deal_39) hS (fun H locs hM hS => ?_)
      refine lv_bipush (v := 6) hx hb dX6_deal_42 (by decide) ?_
      refine lv_irem hx hb dX6_deal_44 (by decide) ?_
      refine lv_topi (fun x_6 ex_6 => ?_)
      have h := sk_letU h ex_6
      refine lv_istore (lv' := [(4, .int x_6), (0, .ref (sk_ad g 0)), (2, .int a2), (3, .int a3)]) hx hb dX6_deal_45 hl (by decide) rfl (fun ls hl => ?_)
      refine lv_aload_n hx hb dX6_deal_47 rfl (lv_at hl 1 rfl) ?_
      refine sk_getR (o := 0) (ci := 6) (j := 0) (t := 10) C hM rfl rfl (by decide) rfl rfl kw_297 dX6_deal_48 ?_
      obtain ⟨x_7, M_8, h_9, h⟩ := sk_b2E h
      refine sk_contI (sk_runV (As := []) (rest := []) C (c_X5_draw g l 10 (Or.inl rfl) M_4 h_9) yo_X5_draw kw_413 (sk_recv (ci := 5) C hM rfl rfl) (by decide) hM hS hl.1 rfl rfl (Nat.le_of_ble_eq_true rfl) dX6_deal_51) hS (fun H locs hM hS => ?_)
      refine lv_bipush (v := 51) hx hb dX6_deal_54 (by decide) ?_
      refine lv_irem hx hb dX6_deal_56 (by decide) ?_
      refine lv_topi (fun x_10 ex_10 => ?_)
      have h := sk_letU h ex_10
      refine lv_istore (lv' := [(5, .int x_10), (4, .int x_6), (0, .ref (sk_ad g 0)), (2, .int a2), (3, .int a3)]) hx hb dX6_deal_57 hl (by decide) rfl (fun ls hl => ?_)
      refine lv_aload_n hx hb dX6_deal_59 rfl (lv_at hl 2 rfl) ?_
      refine sk_getR (o := 0) (ci := 6) (j := 0) (t := 10) C hM rfl rfl (by decide) rfl rfl kw_297 dX6_deal_60 ?_
      refine lv_iload hx hb dX6_deal_63 (lv_at hl 1 rfl) ?_
      refine lv_iload hx hb dX6_deal_65 (lv_at hl 0 rfl) ?_
      obtain ⟨x_11, M_12, h_13, h⟩ := sk_b2E h
      refine sk_contI (sk_runV (As := [.int x_6, .int x_10]) (rest := []) C (c_X5_addScent g l 10 (Or.inl rfl) x_6 x_10 M_8 h_13) yo_X5_addScent kw_348 (sk_recv (ci := 5) C hM rfl rfl) (by decide) hM hS hl.1 rfl rfl (Nat.le_of_ble_eq_true rfl) dX6_deal_67) hS (fun H locs hM hS => ?_)
      refine lv_pop hx hb dX6_deal_70 rfl ?_
      refine lv_iinc (v := (a3 + 1)) (lv' := [(3, .int (a3 + 1)), (5, .int x_10), (4, .int x_6), (0, .ref (sk_ad g 0)), (2, .int a2)]) hx hb dX6_deal_71 hl (k := 4) rfl rfl (by decide) rfl (fun ls hl => ?_)
      refine lv_goto hx hb dX6_deal_74 rfl ?_
      exact ih (a3 + 1) M_12 _ _ _ (lv_sub hl [3, 4, 0] rfl) hM hS h kx
set_option maxHeartbeats 4000000 in
set_option maxRecDepth 100000 in
theorem c_X6_deal (g : sk_G) (l : Launch) (a1 : Int32) (M : sk_M) {rr : Int32} {MM : sk_M} (h : f_X6_deal a1 M = some (rr, MM)) : sk_MI g l yX6_deal cX6_deal 6 (some .int) 2 [.ref (sk_ad g 0), .int a1] M rr MM := by
  refine sk_go [(0, .ref (sk_ad g 0)), (1, .int a1)] (by decide) (Nat.le_of_ble_eq_true rfl) rfl ?_
  intro p e s m av below meth c C ls hl hM hS
  obtain ⟨hx, hb, hml, hown, hts, hK, hE, hr, hlocks⟩ := id C
  rw [f_X6_deal] at h
  refine lv_iload_n hx hb dX6_deal_0 rfl (lv_at hl 1 rfl) ?_
  refine lv_iconst (v := 1) hx hb dX6_deal_1 (by decide) ?_
  refine lv_bipush (v := 9) hx hb dX6_deal_2 (by decide) ?_
  refine sk_contI (sk_runS (As := [.int a1, .int 1, .int 9]) (rest := []) C (c_X6_within g l a1 1 9 M rfl) yo_X6_within kw_344 (by decide) hM hS hl.1 rfl rfl (Nat.le_of_ble_eq_true rfl) dX6_deal_4) hS (fun H locs hM hS => ?_)
  refine lv_if_ne hx hb dX6_deal_7 rfl (fun hc => ?_) (fun hc => ?_)
  · have h := sk_neg h hc
    refine lv_iload_n hx hb dX6_deal_13 rfl (lv_at hl 1 rfl) ?_
    refine lv_bipush (v := 9) hx hb dX6_deal_14 (by decide) ?_
    refine lv_aload_n hx hb dX6_deal_16 rfl (lv_at hl 0 rfl) ?_
    refine sk_getR (o := 0) (ci := 6) (j := 0) (t := 10) C hM rfl rfl (by decide) rfl rfl kw_297 dX6_deal_17 ?_
    refine sk_getI (o := 10) (ci := 5) (j := 10) C hM rfl rfl (by decide) rfl kw_186 dX6_deal_20 ?_
    refine lv_isub hx hb dX6_deal_23 ?_
    refine sk_mmin (d := 2) C hl.1 sk_wmin kw_410 (by decide) (Nat.le_of_ble_eq_true rfl) dX6_deal_24 ?_
    refine lv_topi (fun x_2 ex_2 => ?_)
    have h := sk_letU h ex_2
    refine lv_istore_n (lv' := [(2, .int x_2), (0, .ref (sk_ad g 0)), (1, .int a1)]) hx hb dX6_deal_27 rfl hl (by decide) rfl (fun ls hl => ?_)
    refine lv_iconst (v := 0) hx hb dX6_deal_28 (by decide) ?_
    refine lv_istore_n (lv' := [(3, .int 0), (2, .int x_2), (0, .ref (sk_ad g 0)), (1, .int a1)]) hx hb dX6_deal_29 rfl hl (by decide) rfl (fun ls hl => ?_)
    obtain ⟨M_14, h_15, h⟩ := sk_b1E h
    refine w_X6_deal_L30 C x_2 sk_FU 0 M _ _ _ (lv_sub hl [2, 1, 0] rfl) hM hS h_15 (fun y_16 H locs ls he hl hM hS => ?_)
    obtain rfl := Option.some.inj he
    refine lv_iload_n hx hb dX6_deal_77 rfl (lv_at hl 0 rfl) ?_
    exact sk_iret C hM hS (sk_e2 h) dX6_deal_78
  · have h := sk_pos h hc
    refine lv_ldc (v := (-1000000001)) hx hb hown (hts _ kw_347) dX6_deal_10 ?_
    exact sk_iret C hM hS (sk_e2 h) dX6_deal_12
theorem dX6_seed_0 : decode cX6_seed 0 = .ok (.aload_n 0, 1) := by decide +kernel
theorem dX6_seed_1 : decode cX6_seed 1 = .ok (.getfield 28, 3) := by decide +kernel
theorem dX6_seed_4 : decode cX6_seed 4 = .ok (.getfield 133, 3) := by decide +kernel
theorem dX6_seed_7 : decode cX6_seed 7 = .ok (.istore_n 2, 1) := by decide +kernel
theorem dX6_seed_8 : decode cX6_seed 8 = .ok (.aload_n 0, 1) := by decide +kernel
theorem dX6_seed_9 : decode cX6_seed 9 = .ok (.getfield 28, 3) := by decide +kernel
theorem dX6_seed_12 : decode cX6_seed 12 = .ok (.iload_n 1, 1) := by decide +kernel
theorem dX6_seed_13 : decode cX6_seed 13 = .ok (.putfield 133, 3) := by decide +kernel
theorem dX6_seed_16 : decode cX6_seed 16 = .ok (.iload_n 2, 1) := by decide +kernel
theorem dX6_seed_17 : decode cX6_seed 17 = .ok (.ireturn, 1) := by decide +kernel
set_option maxHeartbeats 4000000 in
set_option maxRecDepth 100000 in
theorem c_X6_seed (g : sk_G) (l : Launch) (a1 : Int32) (M : sk_M) {rr : Int32} {MM : sk_M} (h : f_X6_seed a1 M = some (rr, MM)) : sk_MI g l yX6_seed cX6_seed 3 (some .int) 1 [.ref (sk_ad g 0), .int a1] M rr MM := by
  refine sk_go [(0, .ref (sk_ad g 0)), (1, .int a1)] (by decide) (Nat.le_of_ble_eq_true rfl) rfl ?_
  intro p e s m av below meth c C ls hl hM hS
  obtain ⟨hx, hb, hml, hown, hts, hK, hE, hr, hlocks⟩ := id C
  rw [f_X6_seed] at h
  refine lv_aload_n hx hb dX6_seed_0 rfl (lv_at hl 0 rfl) ?_
  refine sk_getR (o := 0) (ci := 6) (j := 0) (t := 10) C hM rfl rfl (by decide) rfl rfl kw_297 dX6_seed_1 ?_
  refine sk_getI (o := 10) (ci := 5) (j := 15) C hM rfl rfl (by decide) rfl kw_197 dX6_seed_4 ?_
  refine lv_topi (fun x_1 ex_1 => ?_)
  have h := sk_letU h ex_1
  refine lv_istore_n (lv' := [(2, .int x_1), (0, .ref (sk_ad g 0)), (1, .int a1)]) hx hb dX6_seed_7 rfl hl (by decide) rfl (fun ls hl => ?_)
  refine lv_aload_n hx hb dX6_seed_8 rfl (lv_at hl 1 rfl) ?_
  refine sk_getR (o := 0) (ci := 6) (j := 0) (t := 10) C hM rfl rfl (by decide) rfl rfl kw_297 dX6_seed_9 ?_
  refine lv_iload_n hx hb dX6_seed_12 rfl (lv_at hl 2 rfl) ?_
  refine sk_putI (o := 10) (ci := 5) (j := 15) C hM hS rfl rfl (by decide) rfl rfl (tyX5_ok 15 (by decide)) kw_197 dX6_seed_13 (fun M_2 eM_2 H locs hM hS => ?_)
  have h := sk_letU h eM_2
  refine lv_iload_n hx hb dX6_seed_16 rfl (lv_at hl 0 rfl) ?_
  exact sk_iret C hM hS (sk_e2 h) dX6_seed_17
theorem dX6_cloth_0 : decode cX6_cloth 0 = .ok (.aload_n 0, 1) := by decide +kernel
theorem dX6_cloth_1 : decode cX6_cloth 1 = .ok (.getfield 28, 3) := by decide +kernel
theorem dX6_cloth_4 : decode cX6_cloth 4 = .ok (.getfield 136, 3) := by decide +kernel
theorem dX6_cloth_7 : decode cX6_cloth 7 = .ok (.bipush 6, 2) := by decide +kernel
theorem dX6_cloth_9 : decode cX6_cloth 9 = .ok (.if_icmp .lt 6, 3) := by decide +kernel
theorem dX6_cloth_12 : decode cX6_cloth 12 = .ok (.ldc 117, 2) := by decide +kernel
theorem dX6_cloth_14 : decode cX6_cloth 14 = .ok (.ireturn, 1) := by decide +kernel
theorem dX6_cloth_15 : decode cX6_cloth 15 = .ok (.aload_n 0, 1) := by decide +kernel
theorem dX6_cloth_16 : decode cX6_cloth 16 = .ok (.getfield 28, 3) := by decide +kernel
theorem dX6_cloth_19 : decode cX6_cloth 19 = .ok (.dup, 1) := by decide +kernel
theorem dX6_cloth_20 : decode cX6_cloth 20 = .ok (.getfield 136, 3) := by decide +kernel
theorem dX6_cloth_23 : decode cX6_cloth 23 = .ok (.iconst 1, 1) := by decide +kernel
theorem dX6_cloth_24 : decode cX6_cloth 24 = .ok (.iadd, 1) := by decide +kernel
theorem dX6_cloth_25 : decode cX6_cloth 25 = .ok (.putfield 136, 3) := by decide +kernel
theorem dX6_cloth_28 : decode cX6_cloth 28 = .ok (.aload_n 0, 1) := by decide +kernel
theorem dX6_cloth_29 : decode cX6_cloth 29 = .ok (.getfield 28, 3) := by decide +kernel
theorem dX6_cloth_32 : decode cX6_cloth 32 = .ok (.getfield 136, 3) := by decide +kernel
theorem dX6_cloth_35 : decode cX6_cloth 35 = .ok (.iconst 1, 1) := by decide +kernel
theorem dX6_cloth_36 : decode cX6_cloth 36 = .ok (.isub, 1) := by decide +kernel
theorem dX6_cloth_37 : decode cX6_cloth 37 = .ok (.ireturn, 1) := by decide +kernel
set_option maxHeartbeats 4000000 in
set_option maxRecDepth 100000 in
theorem c_X6_cloth (g : sk_G) (l : Launch)  (M : sk_M) {rr : Int32} {MM : sk_M} (h : f_X6_cloth M = some (rr, MM)) : sk_MI g l yX6_cloth cX6_cloth 1 (some .int) 1 [.ref (sk_ad g 0)] M rr MM := by
  refine sk_go [(0, .ref (sk_ad g 0))] (by decide) (Nat.le_of_ble_eq_true rfl) rfl ?_
  intro p e s m av below meth c C ls hl hM hS
  obtain ⟨hx, hb, hml, hown, hts, hK, hE, hr, hlocks⟩ := id C
  rw [f_X6_cloth] at h
  refine lv_aload_n hx hb dX6_cloth_0 rfl (lv_at hl 0 rfl) ?_
  refine sk_getR (o := 0) (ci := 6) (j := 0) (t := 10) C hM rfl rfl (by decide) rfl rfl kw_297 dX6_cloth_1 ?_
  refine sk_getI (o := 10) (ci := 5) (j := 12) C hM rfl rfl (by decide) rfl kw_190 dX6_cloth_4 ?_
  refine lv_bipush (v := 6) hx hb dX6_cloth_7 (by decide) ?_
  refine lv_icmp_lt hx hb dX6_cloth_9 rfl (fun hc => ?_) (fun hc => ?_)
  · have h := sk_pos h hc
    refine lv_aload_n hx hb dX6_cloth_15 rfl (lv_at hl 0 rfl) ?_
    refine sk_getR (o := 0) (ci := 6) (j := 0) (t := 10) C hM rfl rfl (by decide) rfl rfl kw_297 dX6_cloth_16 ?_
    refine lv_dup hx hb dX6_cloth_19 rfl ?_
    refine sk_getI (o := 10) (ci := 5) (j := 12) C hM rfl rfl (by decide) rfl kw_190 dX6_cloth_20 ?_
    refine lv_iconst (v := 1) hx hb dX6_cloth_23 (by decide) ?_
    refine lv_iadd hx hb dX6_cloth_24 ?_
    refine sk_putI (o := 10) (ci := 5) (j := 12) C hM hS rfl rfl (by decide) rfl rfl (tyX5_ok 12 (by decide)) kw_190 dX6_cloth_25 (fun M_1 eM_1 H locs hM hS => ?_)
    have h := sk_letU h eM_1
    refine lv_aload_n hx hb dX6_cloth_28 rfl (lv_at hl 0 rfl) ?_
    refine sk_getR (o := 0) (ci := 6) (j := 0) (t := 10) C hM rfl rfl (by decide) rfl rfl kw_297 dX6_cloth_29 ?_
    refine sk_getI (o := 10) (ci := 5) (j := 12) C hM rfl rfl (by decide) rfl kw_190 dX6_cloth_32 ?_
    refine lv_iconst (v := 1) hx hb dX6_cloth_35 (by decide) ?_
    refine lv_isub hx hb dX6_cloth_36 ?_
    exact sk_iret C hM hS (sk_e2 h) dX6_cloth_37
  · have h := sk_neg h hc
    refine lv_ldc (v := (-1000000003)) hx hb hown (hts _ kw_397) dX6_cloth_12 ?_
    exact sk_iret C hM hS (sk_e2 h) dX6_cloth_14
theorem dX6_isCloth_0 : decode cX6_isCloth 0 = .ok (.iload_n 1, 1) := by decide +kernel
theorem dX6_isCloth_1 : decode cX6_isCloth 1 = .ok (.iconst 0, 1) := by decide +kernel
theorem dX6_isCloth_2 : decode cX6_isCloth 2 = .ok (.aload_n 0, 1) := by decide +kernel
theorem dX6_isCloth_3 : decode cX6_isCloth 3 = .ok (.getfield 28, 3) := by decide +kernel
theorem dX6_isCloth_6 : decode cX6_isCloth 6 = .ok (.getfield 136, 3) := by decide +kernel
theorem dX6_isCloth_9 : decode cX6_isCloth 9 = .ok (.iconst 1, 1) := by decide +kernel
theorem dX6_isCloth_10 : decode cX6_isCloth 10 = .ok (.isub, 1) := by decide +kernel
theorem dX6_isCloth_11 : decode cX6_isCloth 11 = .ok (.invokestatic 75, 3) := by decide +kernel
theorem dX6_isCloth_14 : decode cX6_isCloth 14 = .ok (.ireturn, 1) := by decide +kernel
set_option maxHeartbeats 4000000 in
set_option maxRecDepth 100000 in
theorem c_X6_isCloth (g : sk_G) (l : Launch) (a1 : Int32) (M : sk_M) {rr : Int32} (h : f_X6_isCloth a1 M = rr) : sk_MI g l yX6_isCloth cX6_isCloth 2 (some .boolean) 2 [.ref (sk_ad g 0), .int a1] M rr M := by
  refine sk_go [(0, .ref (sk_ad g 0)), (1, .int a1)] (by decide) (Nat.le_of_ble_eq_true rfl) rfl ?_
  intro p e s m av below meth c C ls hl hM hS
  obtain ⟨hx, hb, hml, hown, hts, hK, hE, hr, hlocks⟩ := id C
  rw [f_X6_isCloth] at h
  refine lv_iload_n hx hb dX6_isCloth_0 rfl (lv_at hl 1 rfl) ?_
  refine lv_iconst (v := 0) hx hb dX6_isCloth_1 (by decide) ?_
  refine lv_aload_n hx hb dX6_isCloth_2 rfl (lv_at hl 0 rfl) ?_
  refine sk_getR (o := 0) (ci := 6) (j := 0) (t := 10) C hM rfl rfl (by decide) rfl rfl kw_297 dX6_isCloth_3 ?_
  refine sk_getI (o := 10) (ci := 5) (j := 12) C hM rfl rfl (by decide) rfl kw_190 dX6_isCloth_6 ?_
  refine lv_iconst (v := 1) hx hb dX6_isCloth_9 (by decide) ?_
  refine lv_isub hx hb dX6_isCloth_10 ?_
  refine sk_contI (sk_runS (As := [.int a1, .int 0, .int ((M 10 12) - 1)]) (rest := []) C (c_X6_within g l a1 0 ((M 10 12) - 1) M rfl) yo_X6_within kw_344 (by decide) hM hS hl.1 rfl rfl (Nat.le_of_ble_eq_true rfl) dX6_isCloth_11) hS (fun H locs hM hS => ?_)
  exact sk_zret C hM hS (sk_nz (fz_X6_within a1 0 ((M 10 12) - 1))) ⟨h, rfl⟩ dX6_isCloth_14
theorem dX6_isSpot_0 : decode cX6_isSpot 0 = .ok (.aload_n 0, 1) := by decide +kernel
theorem dX6_isSpot_1 : decode cX6_isSpot 1 = .ok (.iload_n 1, 1) := by decide +kernel
theorem dX6_isSpot_2 : decode cX6_isSpot 2 = .ok (.invokevirtual 160, 3) := by decide +kernel
theorem dX6_isSpot_5 : decode cX6_isSpot 5 = .ok (.ifCond .eq 15, 3) := by decide +kernel
theorem dX6_isSpot_8 : decode cX6_isSpot 8 = .ok (.aload_n 0, 1) := by decide +kernel
theorem dX6_isSpot_9 : decode cX6_isSpot 9 = .ok (.iload_n 2, 1) := by decide +kernel
theorem dX6_isSpot_10 : decode cX6_isSpot 10 = .ok (.invokevirtual 84, 3) := by decide +kernel
theorem dX6_isSpot_13 : decode cX6_isSpot 13 = .ok (.ifCond .eq 7, 3) := by decide +kernel
theorem dX6_isSpot_16 : decode cX6_isSpot 16 = .ok (.iconst 1, 1) := by decide +kernel
theorem dX6_isSpot_17 : decode cX6_isSpot 17 = .ok (.goto 4, 3) := by decide +kernel
theorem dX6_isSpot_20 : decode cX6_isSpot 20 = .ok (.iconst 0, 1) := by decide +kernel
theorem dX6_isSpot_21 : decode cX6_isSpot 21 = .ok (.ireturn, 1) := by decide +kernel
set_option maxHeartbeats 4000000 in
set_option maxRecDepth 100000 in
theorem c_X6_isSpot (g : sk_G) (l : Launch) (a1 : Int32) (a2 : Int32) (M : sk_M) {rr : Int32} (h : f_X6_isSpot a1 a2 M = rr) : sk_MI g l yX6_isSpot cX6_isSpot 3 (some .boolean) 3 [.ref (sk_ad g 0), .int a1, .int a2] M rr M := by
  refine sk_go [(0, .ref (sk_ad g 0)), (1, .int a1), (2, .int a2)] (by decide) (Nat.le_of_ble_eq_true rfl) rfl ?_
  intro p e s m av below meth c C ls hl hM hS
  obtain ⟨hx, hb, hml, hown, hts, hK, hE, hr, hlocks⟩ := id C
  rw [f_X6_isSpot] at h
  refine lv_aload_n hx hb dX6_isSpot_0 rfl (lv_at hl 0 rfl) ?_
  refine lv_iload_n hx hb dX6_isSpot_1 rfl (lv_at hl 1 rfl) ?_
  refine sk_contI (sk_runV (As := [.int a1]) (rest := []) C (c_X6_isCloth g l a1 M rfl) yo_X6_isCloth kw_434 (sk_recv (ci := 6) C hM rfl rfl) (by decide) hM hS hl.1 rfl rfl (Nat.le_of_ble_eq_true rfl) dX6_isSpot_2) hS (fun H locs hM hS => ?_)
  have J : ∀ (vv : Int32) (H : Heap) (locs : List Loc), (if (f_X6_isCloth a1 M) = 0 then 0 else (if (f_X6_isScent a2 M) = 0 then 0 else 1 : Int32) : Int32) = vv → sk_P g M H → va_S (sk_A g) s.heap H locs → W p l e (sk_rm 3) s m av below meth c H locs 0 0 (MQ below (sk_QI g rr M) av s 0 0 (sk_A g)) (F0 m 21 ls [.int vv]) := by
    intro vv H locs hvv hM hS
    subst hvv
    exact sk_zret C hM hS (sk_nz (sk_zi (Or.inl rfl) (sk_zi (Or.inl rfl) (Or.inr rfl)))) ⟨h, rfl⟩ dX6_isSpot_21
  refine lv_if_eq hx hb dX6_isSpot_5 rfl (fun hc => ?_) (fun hc => ?_)
  · have J := fun vv H locs q => J vv H locs ((if_pos hc).trans q)
    refine lv_iconst (v := 0) hx hb dX6_isSpot_20 (by decide) ?_
    exact J _ _ _ rfl hM hS
  · have J := fun vv H locs q => J vv H locs ((if_neg hc).trans q)
    refine lv_aload_n hx hb dX6_isSpot_8 rfl (lv_at hl 0 rfl) ?_
    refine lv_iload_n hx hb dX6_isSpot_9 rfl (lv_at hl 2 rfl) ?_
    refine sk_contI (sk_runV (As := [.int a2]) (rest := []) C (c_X6_isScent g l a2 M rfl) yo_X6_isScent kw_357 (sk_recv (ci := 6) C hM rfl rfl) (by decide) hM hS hl.1 rfl rfl (Nat.le_of_ble_eq_true rfl) dX6_isSpot_10) hS (fun H locs hM hS => ?_)
    refine lv_if_eq hx hb dX6_isSpot_13 rfl (fun hc => ?_) (fun hc => ?_)
    · have J := fun vv H locs q => J vv H locs ((if_pos hc).trans q)
      refine lv_iconst (v := 0) hx hb dX6_isSpot_20 (by decide) ?_
      exact J _ _ _ rfl hM hS
    · have J := fun vv H locs q => J vv H locs ((if_neg hc).trans q)
      refine lv_iconst (v := 1) hx hb dX6_isSpot_16 (by decide) ?_
      refine lv_goto hx hb dX6_isSpot_17 rfl ?_
      exact J _ _ _ rfl hM hS
theorem dX6_strength_0 : decode cX6_strength 0 = .ok (.aload_n 0, 1) := by decide +kernel
theorem dX6_strength_1 : decode cX6_strength 1 = .ok (.iload_n 1, 1) := by decide +kernel
theorem dX6_strength_2 : decode cX6_strength 2 = .ok (.iload_n 2, 1) := by decide +kernel
theorem dX6_strength_3 : decode cX6_strength 3 = .ok (.invokevirtual 139, 3) := by decide +kernel
theorem dX6_strength_6 : decode cX6_strength 6 = .ok (.ifCond .eq 17, 3) := by decide +kernel
theorem dX6_strength_9 : decode cX6_strength 9 = .ok (.aload_n 0, 1) := by decide +kernel
theorem dX6_strength_10 : decode cX6_strength 10 = .ok (.getfield 28, 3) := by decide +kernel
theorem dX6_strength_13 : decode cX6_strength 13 = .ok (.getfield 142, 3) := by decide +kernel
theorem dX6_strength_16 : decode cX6_strength 16 = .ok (.iload_n 1, 1) := by decide +kernel
theorem dX6_strength_17 : decode cX6_strength 17 = .ok (.aaload, 1) := by decide +kernel
theorem dX6_strength_18 : decode cX6_strength 18 = .ok (.iload_n 2, 1) := by decide +kernel
theorem dX6_strength_19 : decode cX6_strength 19 = .ok (.iaload, 1) := by decide +kernel
theorem dX6_strength_20 : decode cX6_strength 20 = .ok (.goto 5, 3) := by decide +kernel
theorem dX6_strength_23 : decode cX6_strength 23 = .ok (.ldc 79, 2) := by decide +kernel
theorem dX6_strength_25 : decode cX6_strength 25 = .ok (.ireturn, 1) := by decide +kernel
set_option maxHeartbeats 4000000 in
set_option maxRecDepth 100000 in
theorem c_X6_strength (g : sk_G) (l : Launch) (a1 : Int32) (a2 : Int32) (M : sk_M) {rr : Int32} (h : f_X6_strength a1 a2 M = some rr) : sk_MI g l yX6_strength cX6_strength 3 (some .int) 4 [.ref (sk_ad g 0), .int a1, .int a2] M rr M := by
  refine sk_go [(0, .ref (sk_ad g 0)), (1, .int a1), (2, .int a2)] (by decide) (Nat.le_of_ble_eq_true rfl) rfl ?_
  intro p e s m av below meth c C ls hl hM hS
  obtain ⟨hx, hb, hml, hown, hts, hK, hE, hr, hlocks⟩ := id C
  rw [f_X6_strength] at h
  refine lv_aload_n hx hb dX6_strength_0 rfl (lv_at hl 0 rfl) ?_
  refine lv_iload_n hx hb dX6_strength_1 rfl (lv_at hl 1 rfl) ?_
  refine lv_iload_n hx hb dX6_strength_2 rfl (lv_at hl 2 rfl) ?_
  refine sk_contI (sk_runV (As := [.int a1, .int a2]) (rest := []) C (c_X6_isSpot g l a1 a2 M rfl) yo_X6_isSpot kw_430 (sk_recv (ci := 6) C hM rfl rfl) (by decide) hM hS hl.1 rfl rfl (Nat.le_of_ble_eq_true rfl) dX6_strength_3) hS (fun H locs hM hS => ?_)
  refine lv_if_eq hx hb dX6_strength_6 rfl (fun hc => ?_) (fun hc => ?_)
  · have h := sk_pos h hc
    refine lv_ldc (v := (-1000000001)) hx hb hown (hts _ kw_347) dX6_strength_23 ?_
    exact sk_iret C hM hS ⟨Option.some.inj h, rfl⟩ dX6_strength_25
  · have h := sk_neg h hc
    refine lv_aload_n hx hb dX6_strength_9 rfl (lv_at hl 0 rfl) ?_
    refine sk_getR (o := 0) (ci := 6) (j := 0) (t := 10) C hM rfl rfl (by decide) rfl rfl kw_297 dX6_strength_10 ?_
    refine sk_getR (o := 10) (ci := 5) (j := 7) (t := 17) C hM rfl rfl (by decide) rfl rfl kw_181 dX6_strength_13 ?_
    refine lv_iload_n hx hb dX6_strength_16 rfl (lv_at hl 1 rfl) ?_
    obtain ⟨i_2, h⟩ := sk_chkE h
    refine sk_aald (o := 17) (k := 0) (t := (20 + a1.toNatClampNeg)) C hM rfl (by decide) i_2 rfl dX6_strength_17 ?_
    refine lv_iload_n hx hb dX6_strength_18 rfl (lv_at hl 2 rfl) ?_
    obtain ⟨i_3, h⟩ := sk_chkE h
    refine sk_iald (o := (20 + a1.toNatClampNeg)) C hM (sk_kd_s20 (sk_in_lt i_2)) i_3 dX6_strength_19 ?_
    refine lv_goto hx hb dX6_strength_20 rfl ?_
    exact sk_iret C hM hS ⟨Option.some.inj h, rfl⟩ dX6_strength_25
theorem dX6_loses_0 : decode cX6_loses 0 = .ok (.aload_n 0, 1) := by decide +kernel
theorem dX6_loses_1 : decode cX6_loses 1 = .ok (.iload_n 1, 1) := by decide +kernel
theorem dX6_loses_2 : decode cX6_loses 2 = .ok (.iload_n 2, 1) := by decide +kernel
theorem dX6_loses_3 : decode cX6_loses 3 = .ok (.invokevirtual 139, 3) := by decide +kernel
theorem dX6_loses_6 : decode cX6_loses 6 = .ok (.ifCond .ne 6, 3) := by decide +kernel
theorem dX6_loses_9 : decode cX6_loses 9 = .ok (.ldc 79, 2) := by decide +kernel
theorem dX6_loses_11 : decode cX6_loses 11 = .ok (.ireturn, 1) := by decide +kernel
theorem dX6_loses_12 : decode cX6_loses 12 = .ok (.aload_n 0, 1) := by decide +kernel
theorem dX6_loses_13 : decode cX6_loses 13 = .ok (.getfield 28, 3) := by decide +kernel
theorem dX6_loses_16 : decode cX6_loses 16 = .ok (.iload_n 2, 1) := by decide +kernel
theorem dX6_loses_17 : decode cX6_loses 17 = .ok (.aload_n 0, 1) := by decide +kernel
theorem dX6_loses_18 : decode cX6_loses 18 = .ok (.getfield 28, 3) := by decide +kernel
theorem dX6_loses_21 : decode cX6_loses 21 = .ok (.getfield 142, 3) := by decide +kernel
theorem dX6_loses_24 : decode cX6_loses 24 = .ok (.iload_n 1, 1) := by decide +kernel
theorem dX6_loses_25 : decode cX6_loses 25 = .ok (.aaload, 1) := by decide +kernel
theorem dX6_loses_26 : decode cX6_loses 26 = .ok (.iload_n 2, 1) := by decide +kernel
theorem dX6_loses_27 : decode cX6_loses 27 = .ok (.iaload, 1) := by decide +kernel
theorem dX6_loses_28 : decode cX6_loses 28 = .ok (.aload_n 0, 1) := by decide +kernel
theorem dX6_loses_29 : decode cX6_loses 29 = .ok (.getfield 28, 3) := by decide +kernel
theorem dX6_loses_32 : decode cX6_loses 32 = .ok (.getfield 146, 3) := by decide +kernel
theorem dX6_loses_35 : decode cX6_loses 35 = .ok (.iload_n 1, 1) := by decide +kernel
theorem dX6_loses_36 : decode cX6_loses 36 = .ok (.iaload, 1) := by decide +kernel
theorem dX6_loses_37 : decode cX6_loses 37 = .ok (.aload_n 0, 1) := by decide +kernel
theorem dX6_loses_38 : decode cX6_loses 38 = .ok (.getfield 28, 3) := by decide +kernel
theorem dX6_loses_41 : decode cX6_loses 41 = .ok (.getfield 149, 3) := by decide +kernel
theorem dX6_loses_44 : decode cX6_loses 44 = .ok (.invokevirtual 152, 3) := by decide +kernel
theorem dX6_loses_47 : decode cX6_loses 47 = .ok (.ireturn, 1) := by decide +kernel
set_option maxHeartbeats 4000000 in
set_option maxRecDepth 100000 in
theorem c_X6_loses (g : sk_G) (l : Launch) (a1 : Int32) (a2 : Int32) (M : sk_M) {rr : Int32} {MM : sk_M} (h : f_X6_loses a1 a2 M = some (rr, MM)) : sk_MI g l yX6_loses cX6_loses 3 (some .int) 4 [.ref (sk_ad g 0), .int a1, .int a2] M rr MM := by
  refine sk_go [(0, .ref (sk_ad g 0)), (1, .int a1), (2, .int a2)] (by decide) (Nat.le_of_ble_eq_true rfl) rfl ?_
  intro p e s m av below meth c C ls hl hM hS
  obtain ⟨hx, hb, hml, hown, hts, hK, hE, hr, hlocks⟩ := id C
  rw [f_X6_loses] at h
  refine lv_aload_n hx hb dX6_loses_0 rfl (lv_at hl 0 rfl) ?_
  refine lv_iload_n hx hb dX6_loses_1 rfl (lv_at hl 1 rfl) ?_
  refine lv_iload_n hx hb dX6_loses_2 rfl (lv_at hl 2 rfl) ?_
  refine sk_contI (sk_runV (As := [.int a1, .int a2]) (rest := []) C (c_X6_isSpot g l a1 a2 M rfl) yo_X6_isSpot kw_430 (sk_recv (ci := 6) C hM rfl rfl) (by decide) hM hS hl.1 rfl rfl (Nat.le_of_ble_eq_true rfl) dX6_loses_3) hS (fun H locs hM hS => ?_)
  refine lv_if_ne hx hb dX6_loses_6 rfl (fun hc => ?_) (fun hc => ?_)
  · have h := sk_neg h hc
    refine lv_aload_n hx hb dX6_loses_12 rfl (lv_at hl 0 rfl) ?_
    refine sk_getR (o := 0) (ci := 6) (j := 0) (t := 10) C hM rfl rfl (by decide) rfl rfl kw_297 dX6_loses_13 ?_
    refine lv_iload_n hx hb dX6_loses_16 rfl (lv_at hl 2 rfl) ?_
    refine lv_aload_n hx hb dX6_loses_17 rfl (lv_at hl 0 rfl) ?_
    refine sk_getR (o := 0) (ci := 6) (j := 0) (t := 10) C hM rfl rfl (by decide) rfl rfl kw_297 dX6_loses_18 ?_
    refine sk_getR (o := 10) (ci := 5) (j := 7) (t := 17) C hM rfl rfl (by decide) rfl rfl kw_181 dX6_loses_21 ?_
    refine lv_iload_n hx hb dX6_loses_24 rfl (lv_at hl 1 rfl) ?_
    obtain ⟨i_2, h⟩ := sk_chkE h
    refine sk_aald (o := 17) (k := 0) (t := (20 + a1.toNatClampNeg)) C hM rfl (by decide) i_2 rfl dX6_loses_25 ?_
    refine lv_iload_n hx hb dX6_loses_26 rfl (lv_at hl 2 rfl) ?_
    obtain ⟨i_3, h⟩ := sk_chkE h
    refine sk_iald (o := (20 + a1.toNatClampNeg)) C hM (sk_kd_s20 (sk_in_lt i_2)) i_3 dX6_loses_27 ?_
    refine lv_aload_n hx hb dX6_loses_28 rfl (lv_at hl 0 rfl) ?_
    refine sk_getR (o := 0) (ci := 6) (j := 0) (t := 10) C hM rfl rfl (by decide) rfl rfl kw_297 dX6_loses_29 ?_
    refine sk_getR (o := 10) (ci := 5) (j := 6) (t := 16) C hM rfl rfl (by decide) rfl rfl kw_178 dX6_loses_32 ?_
    refine lv_iload_n hx hb dX6_loses_35 rfl (lv_at hl 1 rfl) ?_
    obtain ⟨i_4, h⟩ := sk_chkE h
    refine sk_iald (o := 16) C hM rfl i_4 dX6_loses_36 ?_
    refine lv_aload_n hx hb dX6_loses_37 rfl (lv_at hl 0 rfl) ?_
    refine sk_getR (o := 0) (ci := 6) (j := 0) (t := 10) C hM rfl rfl (by decide) rfl rfl kw_297 dX6_loses_38 ?_
    refine sk_getI (o := 10) (ci := 5) (j := 14) C hM rfl rfl (by decide) rfl kw_195 dX6_loses_41 ?_
    obtain ⟨x_5, M_6, h_7, h⟩ := sk_b2E h
    refine sk_contI (sk_runV (As := [.int a2, .int (M (20 + a1.toNatClampNeg) a2.toNatClampNeg), .int (M 16 a1.toNatClampNeg), .int (M 10 14)]) (rest := []) C (c_X5_loss g l 10 (Or.inl rfl) a2 (M (20 + a1.toNatClampNeg) a2.toNatClampNeg) (M 16 a1.toNatClampNeg) (M 10 14) M h_7) yo_X5_loss kw_442 (sk_recv (ci := 5) C hM rfl rfl) (by decide) hM hS hl.1 rfl rfl (Nat.le_of_ble_eq_true rfl) dX6_loses_44) hS (fun H locs hM hS => ?_)
    exact sk_iret C hM hS (sk_e2 h) dX6_loses_47
  · have h := sk_pos h hc
    refine lv_ldc (v := (-1000000001)) hx hb hown (hts _ kw_347) dX6_loses_9 ?_
    exact sk_iret C hM hS (sk_e2 h) dX6_loses_11
theorem dX6_held_0 : decode cX6_held 0 = .ok (.iconst 0, 1) := by decide +kernel
theorem dX6_held_1 : decode cX6_held 1 = .ok (.sipush 999, 3) := by decide +kernel
theorem dX6_held_4 : decode cX6_held 4 = .ok (.iload_n 0, 1) := by decide +kernel
theorem dX6_held_5 : decode cX6_held 5 = .ok (.invokestatic 124, 3) := by decide +kernel
theorem dX6_held_8 : decode cX6_held 8 = .ok (.invokestatic 317, 3) := by decide +kernel
theorem dX6_held_11 : decode cX6_held 11 = .ok (.ireturn, 1) := by decide +kernel
set_option maxHeartbeats 4000000 in
set_option maxRecDepth 100000 in
theorem c_X6_held (g : sk_G) (l : Launch) (a0 : Int32) (M : sk_M) {rr : Int32} (h : f_X6_held a0 = rr) : sk_MI g l yX6_held cX6_held 1 (some .int) 1 [.int a0] M rr M := by
  refine sk_go [(0, .int a0)] (by decide) (Nat.le_of_ble_eq_true rfl) rfl ?_
  intro p e s m av below meth c C ls hl hM hS
  obtain ⟨hx, hb, hml, hown, hts, hK, hE, hr, hlocks⟩ := id C
  rw [f_X6_held] at h
  refine lv_iconst (v := 0) hx hb dX6_held_0 (by decide) ?_
  refine lv_sipush (v := 999) hx hb dX6_held_1 (by decide) ?_
  refine lv_iload_n hx hb dX6_held_4 rfl (lv_at hl 0 rfl) ?_
  refine sk_mmin (d := 1) C hl.1 sk_wmin kw_410 (by decide) (Nat.le_of_ble_eq_true rfl) dX6_held_5 ?_
  refine sk_mmax (d := 1) C hl.1 sk_wmax kw_467 (by decide) (Nat.le_of_ble_eq_true rfl) dX6_held_8 ?_
  refine lv_topi (fun x_1 ex_1 => ?_)
  have h := sk_letU h ex_1
  exact sk_iret C hM hS ⟨h, rfl⟩ dX6_held_11
theorem dX6_dab_0 : decode cX6_dab 0 = .ok (.aload_n 0, 1) := by decide +kernel
theorem dX6_dab_1 : decode cX6_dab 1 = .ok (.iload_n 1, 1) := by decide +kernel
theorem dX6_dab_2 : decode cX6_dab 2 = .ok (.iload_n 2, 1) := by decide +kernel
theorem dX6_dab_3 : decode cX6_dab 3 = .ok (.invokevirtual 139, 3) := by decide +kernel
theorem dX6_dab_6 : decode cX6_dab 6 = .ok (.ifCond .eq 16, 3) := by decide +kernel
theorem dX6_dab_9 : decode cX6_dab 9 = .ok (.iload_n 3, 1) := by decide +kernel
theorem dX6_dab_10 : decode cX6_dab 10 = .ok (.sipush (-999), 3) := by decide +kernel
theorem dX6_dab_13 : decode cX6_dab 13 = .ok (.sipush 999, 3) := by decide +kernel
theorem dX6_dab_16 : decode cX6_dab 16 = .ok (.invokestatic 75, 3) := by decide +kernel
theorem dX6_dab_19 : decode cX6_dab 19 = .ok (.ifCond .ne 6, 3) := by decide +kernel
theorem dX6_dab_22 : decode cX6_dab 22 = .ok (.ldc 79, 2) := by decide +kernel
theorem dX6_dab_24 : decode cX6_dab 24 = .ok (.ireturn, 1) := by decide +kernel
theorem dX6_dab_25 : decode cX6_dab 25 = .ok (.aload_n 0, 1) := by decide +kernel
theorem dX6_dab_26 : decode cX6_dab 26 = .ok (.getfield 28, 3) := by decide +kernel
theorem dX6_dab_29 : decode cX6_dab 29 = .ok (.getfield 142, 3) := by decide +kernel
theorem dX6_dab_32 : decode cX6_dab 32 = .ok (.iload_n 1, 1) := by decide +kernel
theorem dX6_dab_33 : decode cX6_dab 33 = .ok (.aaload, 1) := by decide +kernel
theorem dX6_dab_34 : decode cX6_dab 34 = .ok (.iload_n 2, 1) := by decide +kernel
theorem dX6_dab_35 : decode cX6_dab 35 = .ok (.aload_n 0, 1) := by decide +kernel
theorem dX6_dab_36 : decode cX6_dab 36 = .ok (.getfield 28, 3) := by decide +kernel
theorem dX6_dab_39 : decode cX6_dab 39 = .ok (.getfield 142, 3) := by decide +kernel
theorem dX6_dab_42 : decode cX6_dab 42 = .ok (.iload_n 1, 1) := by decide +kernel
theorem dX6_dab_43 : decode cX6_dab 43 = .ok (.aaload, 1) := by decide +kernel
theorem dX6_dab_44 : decode cX6_dab 44 = .ok (.iload_n 2, 1) := by decide +kernel
theorem dX6_dab_45 : decode cX6_dab 45 = .ok (.iaload, 1) := by decide +kernel
theorem dX6_dab_46 : decode cX6_dab 46 = .ok (.iload_n 3, 1) := by decide +kernel
theorem dX6_dab_47 : decode cX6_dab 47 = .ok (.iadd, 1) := by decide +kernel
theorem dX6_dab_48 : decode cX6_dab 48 = .ok (.invokestatic 156, 3) := by decide +kernel
theorem dX6_dab_51 : decode cX6_dab 51 = .ok (.iastore, 1) := by decide +kernel
theorem dX6_dab_52 : decode cX6_dab 52 = .ok (.aload_n 0, 1) := by decide +kernel
theorem dX6_dab_53 : decode cX6_dab 53 = .ok (.getfield 28, 3) := by decide +kernel
theorem dX6_dab_56 : decode cX6_dab 56 = .ok (.getfield 142, 3) := by decide +kernel
theorem dX6_dab_59 : decode cX6_dab 59 = .ok (.iload_n 1, 1) := by decide +kernel
theorem dX6_dab_60 : decode cX6_dab 60 = .ok (.aaload, 1) := by decide +kernel
theorem dX6_dab_61 : decode cX6_dab 61 = .ok (.iload_n 2, 1) := by decide +kernel
theorem dX6_dab_62 : decode cX6_dab 62 = .ok (.iaload, 1) := by decide +kernel
theorem dX6_dab_63 : decode cX6_dab 63 = .ok (.ireturn, 1) := by decide +kernel
set_option maxHeartbeats 4000000 in
set_option maxRecDepth 100000 in
theorem c_X6_dab (g : sk_G) (l : Launch) (a1 : Int32) (a2 : Int32) (a3 : Int32) (M : sk_M) {rr : Int32} {MM : sk_M} (h : f_X6_dab a1 a2 a3 M = some (rr, MM)) : sk_MI g l yX6_dab cX6_dab 4 (some .int) 4 [.ref (sk_ad g 0), .int a1, .int a2, .int a3] M rr MM := by
  refine sk_go [(0, .ref (sk_ad g 0)), (1, .int a1), (2, .int a2), (3, .int a3)] (by decide) (Nat.le_of_ble_eq_true rfl) rfl ?_
  intro p e s m av below meth c C ls hl hM hS
  obtain ⟨hx, hb, hml, hown, hts, hK, hE, hr, hlocks⟩ := id C
  rw [f_X6_dab] at h
  refine lv_aload_n hx hb dX6_dab_0 rfl (lv_at hl 0 rfl) ?_
  refine lv_iload_n hx hb dX6_dab_1 rfl (lv_at hl 1 rfl) ?_
  refine lv_iload_n hx hb dX6_dab_2 rfl (lv_at hl 2 rfl) ?_
  refine sk_contI (sk_runV (As := [.int a1, .int a2]) (rest := []) C (c_X6_isSpot g l a1 a2 M rfl) yo_X6_isSpot kw_430 (sk_recv (ci := 6) C hM rfl rfl) (by decide) hM hS hl.1 rfl rfl (Nat.le_of_ble_eq_true rfl) dX6_dab_3) hS (fun H locs hM hS => ?_)
  refine lv_if_eq hx hb dX6_dab_6 rfl (fun hc => ?_) (fun hc => ?_)
  · have h := sk_pos h hc
    refine lv_ldc (v := (-1000000001)) hx hb hown (hts _ kw_347) dX6_dab_22 ?_
    exact sk_iret C hM hS (sk_e2 h) dX6_dab_24
  · have h := sk_neg h hc
    refine lv_iload_n hx hb dX6_dab_9 rfl (lv_at hl 3 rfl) ?_
    refine lv_sipush (v := (-999)) hx hb dX6_dab_10 (by decide) ?_
    refine lv_sipush (v := 999) hx hb dX6_dab_13 (by decide) ?_
    refine sk_contI (sk_runS (As := [.int a3, .int (-999), .int 999]) (rest := []) C (c_X6_within g l a3 (-999) 999 M rfl) yo_X6_within kw_344 (by decide) hM hS hl.1 rfl rfl (Nat.le_of_ble_eq_true rfl) dX6_dab_16) hS (fun H locs hM hS => ?_)
    refine lv_if_ne hx hb dX6_dab_19 rfl (fun hc => ?_) (fun hc => ?_)
    · have h := sk_neg h hc
      refine lv_aload_n hx hb dX6_dab_25 rfl (lv_at hl 0 rfl) ?_
      refine sk_getR (o := 0) (ci := 6) (j := 0) (t := 10) C hM rfl rfl (by decide) rfl rfl kw_297 dX6_dab_26 ?_
      refine sk_getR (o := 10) (ci := 5) (j := 7) (t := 17) C hM rfl rfl (by decide) rfl rfl kw_181 dX6_dab_29 ?_
      refine lv_iload_n hx hb dX6_dab_32 rfl (lv_at hl 1 rfl) ?_
      obtain ⟨i_3, h⟩ := sk_chkE h
      refine sk_aald (o := 17) (k := 0) (t := (20 + a1.toNatClampNeg)) C hM rfl (by decide) i_3 rfl dX6_dab_33 ?_
      refine lv_iload_n hx hb dX6_dab_34 rfl (lv_at hl 2 rfl) ?_
      refine lv_aload_n hx hb dX6_dab_35 rfl (lv_at hl 0 rfl) ?_
      refine sk_getR (o := 0) (ci := 6) (j := 0) (t := 10) C hM rfl rfl (by decide) rfl rfl kw_297 dX6_dab_36 ?_
      refine sk_getR (o := 10) (ci := 5) (j := 7) (t := 17) C hM rfl rfl (by decide) rfl rfl kw_181 dX6_dab_39 ?_
      refine lv_iload_n hx hb dX6_dab_42 rfl (lv_at hl 1 rfl) ?_
      obtain ⟨i_4, h⟩ := sk_chkE h
      refine sk_aald (o := 17) (k := 0) (t := (20 + a1.toNatClampNeg)) C hM rfl (by decide) i_4 rfl dX6_dab_43 ?_
      refine lv_iload_n hx hb dX6_dab_44 rfl (lv_at hl 2 rfl) ?_
      obtain ⟨i_5, h⟩ := sk_chkE h
      refine sk_iald (o := (20 + a1.toNatClampNeg)) C hM (sk_kd_s20 (sk_in_lt i_4)) i_5 dX6_dab_45 ?_
      refine lv_iload_n hx hb dX6_dab_46 rfl (lv_at hl 3 rfl) ?_
      refine lv_iadd hx hb dX6_dab_47 ?_
      refine sk_contI (sk_runS (As := [.int ((M (20 + a1.toNatClampNeg) a2.toNatClampNeg) + a3)]) (rest := [.int a2, .ref (sk_ad g (20 + a1.toNatClampNeg))]) C (c_X6_held g l ((M (20 + a1.toNatClampNeg) a2.toNatClampNeg) + a3) M rfl) yo_X6_held kw_464 (by decide) hM hS hl.1 rfl rfl (Nat.le_of_ble_eq_true rfl) dX6_dab_48) hS (fun H locs hM hS => ?_)
      obtain ⟨i_7, h⟩ := sk_chkE h
      refine sk_iast (o := (20 + a1.toNatClampNeg)) C hM hS (sk_kd_s20 (sk_in_lt i_3)) i_7 dX6_dab_51 (fun M_8 eM_8 H locs hM hS => ?_)
      have h := sk_letU h eM_8
      refine lv_aload_n hx hb dX6_dab_52 rfl (lv_at hl 0 rfl) ?_
      refine sk_getR (o := 0) (ci := 6) (j := 0) (t := 10) C hM rfl rfl (by decide) rfl rfl kw_297 dX6_dab_53 ?_
      refine sk_getR (o := 10) (ci := 5) (j := 7) (t := 17) C hM rfl rfl (by decide) rfl rfl kw_181 dX6_dab_56 ?_
      refine lv_iload_n hx hb dX6_dab_59 rfl (lv_at hl 1 rfl) ?_
      obtain ⟨i_9, h⟩ := sk_chkE h
      refine sk_aald (o := 17) (k := 0) (t := (20 + a1.toNatClampNeg)) C hM rfl (by decide) i_9 rfl dX6_dab_60 ?_
      refine lv_iload_n hx hb dX6_dab_61 rfl (lv_at hl 2 rfl) ?_
      obtain ⟨i_10, h⟩ := sk_chkE h
      refine sk_iald (o := (20 + a1.toNatClampNeg)) C hM (sk_kd_s20 (sk_in_lt i_9)) i_10 dX6_dab_62 ?_
      exact sk_iret C hM hS (sk_e2 h) dX6_dab_63
    · have h := sk_pos h hc
      refine lv_ldc (v := (-1000000001)) hx hb hown (hts _ kw_347) dX6_dab_22 ?_
      exact sk_iret C hM hS (sk_e2 h) dX6_dab_24
theorem dX6_warm_0 : decode cX6_warm 0 = .ok (.aload_n 0, 1) := by decide +kernel
theorem dX6_warm_1 : decode cX6_warm 1 = .ok (.iload_n 1, 1) := by decide +kernel
theorem dX6_warm_2 : decode cX6_warm 2 = .ok (.invokevirtual 160, 3) := by decide +kernel
theorem dX6_warm_5 : decode cX6_warm 5 = .ok (.ifCond .eq 13, 3) := by decide +kernel
theorem dX6_warm_8 : decode cX6_warm 8 = .ok (.iload_n 2, 1) := by decide +kernel
theorem dX6_warm_9 : decode cX6_warm 9 = .ok (.iconst 0, 1) := by decide +kernel
theorem dX6_warm_10 : decode cX6_warm 10 = .ok (.bipush 50, 2) := by decide +kernel
theorem dX6_warm_12 : decode cX6_warm 12 = .ok (.invokestatic 75, 3) := by decide +kernel
theorem dX6_warm_15 : decode cX6_warm 15 = .ok (.ifCond .ne 6, 3) := by decide +kernel
theorem dX6_warm_18 : decode cX6_warm 18 = .ok (.ldc 79, 2) := by decide +kernel
theorem dX6_warm_20 : decode cX6_warm 20 = .ok (.ireturn, 1) := by decide +kernel
theorem dX6_warm_21 : decode cX6_warm 21 = .ok (.aload_n 0, 1) := by decide +kernel
theorem dX6_warm_22 : decode cX6_warm 22 = .ok (.getfield 28, 3) := by decide +kernel
theorem dX6_warm_25 : decode cX6_warm 25 = .ok (.getfield 146, 3) := by decide +kernel
theorem dX6_warm_28 : decode cX6_warm 28 = .ok (.iload_n 1, 1) := by decide +kernel
theorem dX6_warm_29 : decode cX6_warm 29 = .ok (.iaload, 1) := by decide +kernel
theorem dX6_warm_30 : decode cX6_warm 30 = .ok (.istore_n 3, 1) := by decide +kernel
theorem dX6_warm_31 : decode cX6_warm 31 = .ok (.aload_n 0, 1) := by decide +kernel
theorem dX6_warm_32 : decode cX6_warm 32 = .ok (.getfield 28, 3) := by decide +kernel
theorem dX6_warm_35 : decode cX6_warm 35 = .ok (.getfield 146, 3) := by decide +kernel
theorem dX6_warm_38 : decode cX6_warm 38 = .ok (.iload_n 1, 1) := by decide +kernel
theorem dX6_warm_39 : decode cX6_warm 39 = .ok (.iload_n 2, 1) := by decide +kernel
theorem dX6_warm_40 : decode cX6_warm 40 = .ok (.iastore, 1) := by decide +kernel
theorem dX6_warm_41 : decode cX6_warm 41 = .ok (.iload_n 3, 1) := by decide +kernel
theorem dX6_warm_42 : decode cX6_warm 42 = .ok (.ireturn, 1) := by decide +kernel
set_option maxHeartbeats 4000000 in
set_option maxRecDepth 100000 in
theorem c_X6_warm (g : sk_G) (l : Launch) (a1 : Int32) (a2 : Int32) (M : sk_M) {rr : Int32} {MM : sk_M} (h : f_X6_warm a1 a2 M = some (rr, MM)) : sk_MI g l yX6_warm cX6_warm 4 (some .int) 3 [.ref (sk_ad g 0), .int a1, .int a2] M rr MM := by
  refine sk_go [(0, .ref (sk_ad g 0)), (1, .int a1), (2, .int a2)] (by decide) (Nat.le_of_ble_eq_true rfl) rfl ?_
  intro p e s m av below meth c C ls hl hM hS
  obtain ⟨hx, hb, hml, hown, hts, hK, hE, hr, hlocks⟩ := id C
  rw [f_X6_warm] at h
  refine lv_aload_n hx hb dX6_warm_0 rfl (lv_at hl 0 rfl) ?_
  refine lv_iload_n hx hb dX6_warm_1 rfl (lv_at hl 1 rfl) ?_
  refine sk_contI (sk_runV (As := [.int a1]) (rest := []) C (c_X6_isCloth g l a1 M rfl) yo_X6_isCloth kw_434 (sk_recv (ci := 6) C hM rfl rfl) (by decide) hM hS hl.1 rfl rfl (Nat.le_of_ble_eq_true rfl) dX6_warm_2) hS (fun H locs hM hS => ?_)
  refine lv_if_eq hx hb dX6_warm_5 rfl (fun hc => ?_) (fun hc => ?_)
  · have h := sk_pos h hc
    refine lv_ldc (v := (-1000000001)) hx hb hown (hts _ kw_347) dX6_warm_18 ?_
    exact sk_iret C hM hS (sk_e2 h) dX6_warm_20
  · have h := sk_neg h hc
    refine lv_iload_n hx hb dX6_warm_8 rfl (lv_at hl 2 rfl) ?_
    refine lv_iconst (v := 0) hx hb dX6_warm_9 (by decide) ?_
    refine lv_bipush (v := 50) hx hb dX6_warm_10 (by decide) ?_
    refine sk_contI (sk_runS (As := [.int a2, .int 0, .int 50]) (rest := []) C (c_X6_within g l a2 0 50 M rfl) yo_X6_within kw_344 (by decide) hM hS hl.1 rfl rfl (Nat.le_of_ble_eq_true rfl) dX6_warm_12) hS (fun H locs hM hS => ?_)
    refine lv_if_ne hx hb dX6_warm_15 rfl (fun hc => ?_) (fun hc => ?_)
    · have h := sk_neg h hc
      refine lv_aload_n hx hb dX6_warm_21 rfl (lv_at hl 0 rfl) ?_
      refine sk_getR (o := 0) (ci := 6) (j := 0) (t := 10) C hM rfl rfl (by decide) rfl rfl kw_297 dX6_warm_22 ?_
      refine sk_getR (o := 10) (ci := 5) (j := 6) (t := 16) C hM rfl rfl (by decide) rfl rfl kw_178 dX6_warm_25 ?_
      refine lv_iload_n hx hb dX6_warm_28 rfl (lv_at hl 1 rfl) ?_
      obtain ⟨i_3, h⟩ := sk_chkE h
      refine sk_iald (o := 16) C hM rfl i_3 dX6_warm_29 ?_
      refine lv_topi (fun x_4 ex_4 => ?_)
      have h := sk_letU h ex_4
      refine lv_istore_n (lv' := [(3, .int x_4), (0, .ref (sk_ad g 0)), (1, .int a1), (2, .int a2)]) hx hb dX6_warm_30 rfl hl (by decide) rfl (fun ls hl => ?_)
      refine lv_aload_n hx hb dX6_warm_31 rfl (lv_at hl 1 rfl) ?_
      refine sk_getR (o := 0) (ci := 6) (j := 0) (t := 10) C hM rfl rfl (by decide) rfl rfl kw_297 dX6_warm_32 ?_
      refine sk_getR (o := 10) (ci := 5) (j := 6) (t := 16) C hM rfl rfl (by decide) rfl rfl kw_178 dX6_warm_35 ?_
      refine lv_iload_n hx hb dX6_warm_38 rfl (lv_at hl 2 rfl) ?_
      refine lv_iload_n hx hb dX6_warm_39 rfl (lv_at hl 3 rfl) ?_
      obtain ⟨i_5, h⟩ := sk_chkE h
      refine sk_iast (o := 16) C hM hS rfl i_5 dX6_warm_40 (fun M_6 eM_6 H locs hM hS => ?_)
      have h := sk_letU h eM_6
      refine lv_iload_n hx hb dX6_warm_41 rfl (lv_at hl 0 rfl) ?_
      exact sk_iret C hM hS (sk_e2 h) dX6_warm_42
    · have h := sk_pos h hc
      refine lv_ldc (v := (-1000000001)) hx hb hown (hts _ kw_347) dX6_warm_18 ?_
      exact sk_iret C hM hS (sk_e2 h) dX6_warm_20
theorem dX6_touch_0 : decode cX6_touch 0 = .ok (.aload_n 0, 1) := by decide +kernel
theorem dX6_touch_1 : decode cX6_touch 1 = .ok (.iload_n 1, 1) := by decide +kernel
theorem dX6_touch_2 : decode cX6_touch 2 = .ok (.invokevirtual 160, 3) := by decide +kernel
theorem dX6_touch_5 : decode cX6_touch 5 = .ok (.ifCond .eq 16, 3) := by decide +kernel
theorem dX6_touch_8 : decode cX6_touch 8 = .ok (.aload_n 0, 1) := by decide +kernel
theorem dX6_touch_9 : decode cX6_touch 9 = .ok (.iload_n 2, 1) := by decide +kernel
theorem dX6_touch_10 : decode cX6_touch 10 = .ok (.invokevirtual 160, 3) := by decide +kernel
theorem dX6_touch_13 : decode cX6_touch 13 = .ok (.ifCond .eq 8, 3) := by decide +kernel
theorem dX6_touch_16 : decode cX6_touch 16 = .ok (.iload_n 1, 1) := by decide +kernel
theorem dX6_touch_17 : decode cX6_touch 17 = .ok (.iload_n 2, 1) := by decide +kernel
theorem dX6_touch_18 : decode cX6_touch 18 = .ok (.if_icmp .ne 6, 3) := by decide +kernel
theorem dX6_touch_21 : decode cX6_touch 21 = .ok (.ldc 79, 2) := by decide +kernel
theorem dX6_touch_23 : decode cX6_touch 23 = .ok (.ireturn, 1) := by decide +kernel
theorem dX6_touch_24 : decode cX6_touch 24 = .ok (.iconst 0, 1) := by decide +kernel
theorem dX6_touch_25 : decode cX6_touch 25 = .ok (.istore_n 3, 1) := by decide +kernel
theorem dX6_touch_26 : decode cX6_touch 26 = .ok (.iconst 0, 1) := by decide +kernel
theorem dX6_touch_27 : decode cX6_touch 27 = .ok (.istore 4, 2) := by decide +kernel
theorem dX6_touch_29 : decode cX6_touch 29 = .ok (.iload 4, 2) := by decide +kernel
theorem dX6_touch_31 : decode cX6_touch 31 = .ok (.aload_n 0, 1) := by decide +kernel
theorem dX6_touch_32 : decode cX6_touch 32 = .ok (.getfield 28, 3) := by decide +kernel
theorem dX6_touch_35 : decode cX6_touch 35 = .ok (.getfield 110, 3) := by decide +kernel
theorem dX6_touch_38 : decode cX6_touch 38 = .ok (.if_icmp .ge 66, 3) := by decide +kernel
theorem dX6_touch_41 : decode cX6_touch 41 = .ok (.aload_n 0, 1) := by decide +kernel
theorem dX6_touch_42 : decode cX6_touch 42 = .ok (.getfield 28, 3) := by decide +kernel
theorem dX6_touch_45 : decode cX6_touch 45 = .ok (.getfield 142, 3) := by decide +kernel
theorem dX6_touch_48 : decode cX6_touch 48 = .ok (.iload_n 1, 1) := by decide +kernel
theorem dX6_touch_49 : decode cX6_touch 49 = .ok (.aaload, 1) := by decide +kernel
theorem dX6_touch_50 : decode cX6_touch 50 = .ok (.iload 4, 2) := by decide +kernel
theorem dX6_touch_52 : decode cX6_touch 52 = .ok (.iaload, 1) := by decide +kernel
theorem dX6_touch_53 : decode cX6_touch 53 = .ok (.aload_n 0, 1) := by decide +kernel
theorem dX6_touch_54 : decode cX6_touch 54 = .ok (.getfield 28, 3) := by decide +kernel
theorem dX6_touch_57 : decode cX6_touch 57 = .ok (.getfield 142, 3) := by decide +kernel
theorem dX6_touch_60 : decode cX6_touch 60 = .ok (.iload_n 2, 1) := by decide +kernel
theorem dX6_touch_61 : decode cX6_touch 61 = .ok (.aaload, 1) := by decide +kernel
theorem dX6_touch_62 : decode cX6_touch 62 = .ok (.iload 4, 2) := by decide +kernel
theorem dX6_touch_64 : decode cX6_touch 64 = .ok (.iaload, 1) := by decide +kernel
theorem dX6_touch_65 : decode cX6_touch 65 = .ok (.iadd, 1) := by decide +kernel
theorem dX6_touch_66 : decode cX6_touch 66 = .ok (.iconst 2, 1) := by decide +kernel
theorem dX6_touch_67 : decode cX6_touch 67 = .ok (.idiv, 1) := by decide +kernel
theorem dX6_touch_68 : decode cX6_touch 68 = .ok (.istore 5, 2) := by decide +kernel
theorem dX6_touch_70 : decode cX6_touch 70 = .ok (.iload_n 3, 1) := by decide +kernel
theorem dX6_touch_71 : decode cX6_touch 71 = .ok (.aload_n 0, 1) := by decide +kernel
theorem dX6_touch_72 : decode cX6_touch 72 = .ok (.getfield 28, 3) := by decide +kernel
theorem dX6_touch_75 : decode cX6_touch 75 = .ok (.iload_n 1, 1) := by decide +kernel
theorem dX6_touch_76 : decode cX6_touch 76 = .ok (.iload 4, 2) := by decide +kernel
theorem dX6_touch_78 : decode cX6_touch 78 = .ok (.iload 5, 2) := by decide +kernel
theorem dX6_touch_80 : decode cX6_touch 80 = .ok (.invokevirtual 163, 3) := by decide +kernel
theorem dX6_touch_83 : decode cX6_touch 83 = .ok (.aload_n 0, 1) := by decide +kernel
theorem dX6_touch_84 : decode cX6_touch 84 = .ok (.getfield 28, 3) := by decide +kernel
theorem dX6_touch_87 : decode cX6_touch 87 = .ok (.iload_n 2, 1) := by decide +kernel
theorem dX6_touch_88 : decode cX6_touch 88 = .ok (.iload 4, 2) := by decide +kernel
theorem dX6_touch_90 : decode cX6_touch 90 = .ok (.iload 5, 2) := by decide +kernel
theorem dX6_touch_92 : decode cX6_touch 92 = .ok (.invokevirtual 163, 3) := by decide +kernel
theorem dX6_touch_95 : decode cX6_touch 95 = .ok (.iadd, 1) := by decide +kernel
theorem dX6_touch_96 : decode cX6_touch 96 = .ok (.iadd, 1) := by decide +kernel
theorem dX6_touch_97 : decode cX6_touch 97 = .ok (.istore_n 3, 1) := by decide +kernel
theorem dX6_touch_98 : decode cX6_touch 98 = .ok (.iinc 4 1, 3) := by decide +kernel
theorem dX6_touch_101 : decode cX6_touch 101 = .ok (.goto (-72), 3) := by decide +kernel
theorem dX6_touch_104 : decode cX6_touch 104 = .ok (.iload_n 3, 1) := by decide +kernel
theorem dX6_touch_105 : decode cX6_touch 105 = .ok (.ireturn, 1) := by decide +kernel
set_option maxHeartbeats 4000000 in
set_option maxRecDepth 100000 in
theorem w_X6_touch_L29 {g : sk_G} {l : Launch} {p : Program} {e : Env} {s : State} {m : MethodId} {av : Array Value} {below : List Frame} {meth : Method} {c : Code} (C : sk_C g p s m av meth c cX6_touch 6 RX6 (some .int)) (a1 : Int32) (a2 : Int32) {rr : Int32} {MM : sk_M} :
    ∀ (n : Nat) (a3 : Int32) (a4 : Int32) (M : sk_M) (H : Heap) (locs : List Loc) (ls : Array Slot), lv_has ls 6 [(0, .ref (sk_ad g 0)), (1, .int a1), (2, .int a2), (3, .int a3), (4, .int a4)] → sk_P g M H → va_S (sk_A g) s.heap H locs → ∀ {out : Int32 × sk_M}, f_X6_touch_L29 a1 a2 n a3 a4 M = some out → (∀ (x3 : Int32) (M1 : sk_M) (H : Heap) (locs : List Loc) (ls : Array Slot), some (x3, M1) = some out → lv_has ls 6 [(3, .int x3)] → sk_P g M1 H → va_S (sk_A g) s.heap H locs → W p l e (sk_rm 3) s m av below meth c H locs 0 0 (MQ below (sk_QI g rr MM) av s 0 0 (sk_A g)) (F0 m 104 ls [])) → W p l e (sk_rm 3) s m av below meth c H locs 0 0 (MQ below (sk_QI g rr MM) av s 0 0 (sk_A g)) (F0 m 29 ls []) := by
  obtain ⟨hx, hb, hml, hown, hts, hK, hE, hr, hlocks⟩ := id C
  intro n
  induction n with
  | zero =>
    intro a3 a4 M H locs ls hl hM hS out h
    cases h
  | succ n ih =>
    intro a3 a4 M H locs ls hl hM hS out h kx
    rw [f_X6_touch_L29] at h
    refine lv_iload hx hb dX6_touch_29 (lv_at hl 4 rfl) ?_
    refine lv_aload_n hx hb dX6_touch_31 rfl (lv_at hl 0 rfl) ?_
    refine sk_getR (o := 0) (ci := 6) (j := 0) (t := 10) C hM rfl rfl (by decide) rfl rfl kw_297 dX6_touch_32 ?_
    refine sk_getI (o := 10) (ci := 5) (j := 10) C hM rfl rfl (by decide) rfl kw_186 dX6_touch_35 ?_
    refine lv_icmp_ge hx hb dX6_touch_38 rfl (fun hc => ?_) (fun hc => ?_)
    · have h := sk_pos h hc
      exact kx _ _ _ _ _ h (lv_sub hl [3] rfl) hM hS
    · have h := sk_neg h hc
      refine lv_aload_n hx hb dX6_touch_41 rfl (lv_at hl 0 rfl) ?_
      refine sk_getR (o := 0) (ci := 6) (j := 0) (t := 10) C hM rfl rfl (by decide) rfl rfl kw_297 dX6_touch_42 ?_
      refine sk_getR (o := 10) (ci := 5) (j := 7) (t := 17) C hM rfl rfl (by decide) rfl rfl kw_181 dX6_touch_45 ?_
      refine lv_iload_n hx hb dX6_touch_48 rfl (lv_at hl 1 rfl) ?_
      obtain ⟨i_3, h⟩ := sk_chkE h
      refine sk_aald (o := 17) (k := 0) (t := (20 + a1.toNatClampNeg)) C hM rfl (by decide) i_3 rfl dX6_touch_49 ?_
      refine lv_iload hx hb dX6_touch_50 (lv_at hl 4 rfl) ?_
      obtain ⟨i_4, h⟩ := sk_chkE h
      refine sk_iald (o := (20 + a1.toNatClampNeg)) C hM (sk_kd_s20 (sk_in_lt i_3)) i_4 dX6_touch_52 ?_
      refine lv_aload_n hx hb dX6_touch_53 rfl (lv_at hl 0 rfl) ?_
      refine sk_getR (o := 0) (ci := 6) (j := 0) (t := 10) C hM rfl rfl (by decide) rfl rfl kw_297 dX6_touch_54 ?_
      refine sk_getR (o := 10) (ci := 5) (j := 7) (t := 17) C hM rfl rfl (by decide) rfl rfl kw_181 dX6_touch_57 ?_
      refine lv_iload_n hx hb dX6_touch_60 rfl (lv_at hl 2 rfl) ?_
      obtain ⟨i_5, h⟩ := sk_chkE h
      refine sk_aald (o := 17) (k := 0) (t := (20 + a2.toNatClampNeg)) C hM rfl (by decide) i_5 rfl dX6_touch_61 ?_
      refine lv_iload hx hb dX6_touch_62 (lv_at hl 4 rfl) ?_
      obtain ⟨i_6, h⟩ := sk_chkE h
      refine sk_iald (o := (20 + a2.toNatClampNeg)) C hM (sk_kd_s20 (sk_in_lt i_5)) i_6 dX6_touch_64 ?_
      refine lv_iadd hx hb dX6_touch_65 ?_
      refine lv_iconst (v := 2) hx hb dX6_touch_66 (by decide) ?_
      refine lv_idiv hx hb dX6_touch_67 (by decide) ?_
      refine lv_topi (fun x_7 ex_7 => ?_)
      have h := sk_letU h ex_7
      refine lv_istore (lv' := [(5, .int x_7), (0, .ref (sk_ad g 0)), (1, .int a1), (2, .int a2), (3, .int a3), (4, .int a4)]) hx hb dX6_touch_68 hl (by decide) rfl (fun ls hl => ?_)
      refine lv_iload_n hx hb dX6_touch_70 rfl (lv_at hl 4 rfl) ?_
      refine lv_aload_n hx hb dX6_touch_71 rfl (lv_at hl 1 rfl) ?_
      refine sk_getR (o := 0) (ci := 6) (j := 0) (t := 10) C hM rfl rfl (by decide) rfl rfl kw_297 dX6_touch_72 ?_
      refine lv_iload_n hx hb dX6_touch_75 rfl (lv_at hl 2 rfl) ?_
      refine lv_iload hx hb dX6_touch_76 (lv_at hl 5 rfl) ?_
      refine lv_iload hx hb dX6_touch_78 (lv_at hl 0 rfl) ?_
      obtain ⟨x_8, M_9, h_10, h⟩ := sk_b2E h
      refine sk_contI (sk_runV (As := [.int a1, .int a4, .int x_7]) (rest := [.int a3]) C (c_X5_putSpot g l 10 (Or.inl rfl) a1 a4 x_7 M h_10) yo_X5_putSpot kw_476 (sk_recv (ci := 5) C hM rfl rfl) (by decide) hM hS hl.1 rfl rfl (Nat.le_of_ble_eq_true rfl) dX6_touch_80) hS (fun H locs hM hS => ?_)
      refine lv_aload_n hx hb dX6_touch_83 rfl (lv_at hl 1 rfl) ?_
      refine sk_getR (o := 0) (ci := 6) (j := 0) (t := 10) C hM rfl rfl (by decide) rfl rfl kw_297 dX6_touch_84 ?_
      refine lv_iload_n hx hb dX6_touch_87 rfl (lv_at hl 3 rfl) ?_
      refine lv_iload hx hb dX6_touch_88 (lv_at hl 5 rfl) ?_
      refine lv_iload hx hb dX6_touch_90 (lv_at hl 0 rfl) ?_
      obtain ⟨x_11, M_12, h_13, h⟩ := sk_b2E h
      refine sk_contI (sk_runV (As := [.int a2, .int a4, .int x_7]) (rest := [.int x_8, .int a3]) C (c_X5_putSpot g l 10 (Or.inl rfl) a2 a4 x_7 M_9 h_13) yo_X5_putSpot kw_476 (sk_recv (ci := 5) C hM rfl rfl) (by decide) hM hS hl.1 rfl rfl (Nat.le_of_ble_eq_true rfl) dX6_touch_92) hS (fun H locs hM hS => ?_)
      refine lv_iadd hx hb dX6_touch_95 ?_
      refine lv_iadd hx hb dX6_touch_96 ?_
      refine lv_topi (fun x_14 ex_14 => ?_)
      have h := sk_letU h ex_14
      refine lv_istore_n (lv' := [(3, .int x_14), (5, .int x_7), (0, .ref (sk_ad g 0)), (1, .int a1), (2, .int a2), (4, .int a4)]) hx hb dX6_touch_97 rfl hl (by decide) rfl (fun ls hl => ?_)
      refine lv_iinc (v := (a4 + 1)) (lv' := [(4, .int (a4 + 1)), (3, .int x_14), (5, .int x_7), (0, .ref (sk_ad g 0)), (1, .int a1), (2, .int a2)]) hx hb dX6_touch_98 hl (k := 5) rfl rfl (by decide) rfl (fun ls hl => ?_)
      refine lv_goto hx hb dX6_touch_101 rfl ?_
      exact ih x_14 (a4 + 1) M_12 _ _ _ (lv_sub hl [3, 4, 5, 1, 0] rfl) hM hS h kx
set_option maxHeartbeats 4000000 in
set_option maxRecDepth 100000 in
theorem c_X6_touch (g : sk_G) (l : Launch) (a1 : Int32) (a2 : Int32) (M : sk_M) {rr : Int32} {MM : sk_M} (h : f_X6_touch a1 a2 M = some (rr, MM)) : sk_MI g l yX6_touch cX6_touch 6 (some .int) 3 [.ref (sk_ad g 0), .int a1, .int a2] M rr MM := by
  refine sk_go [(0, .ref (sk_ad g 0)), (1, .int a1), (2, .int a2)] (by decide) (Nat.le_of_ble_eq_true rfl) rfl ?_
  intro p e s m av below meth c C ls hl hM hS
  obtain ⟨hx, hb, hml, hown, hts, hK, hE, hr, hlocks⟩ := id C
  rw [f_X6_touch] at h
  refine lv_aload_n hx hb dX6_touch_0 rfl (lv_at hl 0 rfl) ?_
  refine lv_iload_n hx hb dX6_touch_1 rfl (lv_at hl 1 rfl) ?_
  refine sk_contI (sk_runV (As := [.int a1]) (rest := []) C (c_X6_isCloth g l a1 M rfl) yo_X6_isCloth kw_434 (sk_recv (ci := 6) C hM rfl rfl) (by decide) hM hS hl.1 rfl rfl (Nat.le_of_ble_eq_true rfl) dX6_touch_2) hS (fun H locs hM hS => ?_)
  refine lv_if_eq hx hb dX6_touch_5 rfl (fun hc => ?_) (fun hc => ?_)
  · have h := sk_pos h hc
    refine lv_ldc (v := (-1000000001)) hx hb hown (hts _ kw_347) dX6_touch_21 ?_
    exact sk_iret C hM hS (sk_e2 h) dX6_touch_23
  · have h := sk_neg h hc
    refine lv_aload_n hx hb dX6_touch_8 rfl (lv_at hl 0 rfl) ?_
    refine lv_iload_n hx hb dX6_touch_9 rfl (lv_at hl 2 rfl) ?_
    refine sk_contI (sk_runV (As := [.int a2]) (rest := []) C (c_X6_isCloth g l a2 M rfl) yo_X6_isCloth kw_434 (sk_recv (ci := 6) C hM rfl rfl) (by decide) hM hS hl.1 rfl rfl (Nat.le_of_ble_eq_true rfl) dX6_touch_10) hS (fun H locs hM hS => ?_)
    refine lv_if_eq hx hb dX6_touch_13 rfl (fun hc => ?_) (fun hc => ?_)
    · have h := sk_pos h hc
      refine lv_ldc (v := (-1000000001)) hx hb hown (hts _ kw_347) dX6_touch_21 ?_
      exact sk_iret C hM hS (sk_e2 h) dX6_touch_23
    · have h := sk_neg h hc
      refine lv_iload_n hx hb dX6_touch_16 rfl (lv_at hl 1 rfl) ?_
      refine lv_iload_n hx hb dX6_touch_17 rfl (lv_at hl 2 rfl) ?_
      refine lv_icmp_ne hx hb dX6_touch_18 rfl (fun hc => ?_) (fun hc => ?_)
      · have h := sk_neg h hc
        refine lv_iconst (v := 0) hx hb dX6_touch_24 (by decide) ?_
        refine lv_istore_n (lv' := [(3, .int 0), (0, .ref (sk_ad g 0)), (1, .int a1), (2, .int a2)]) hx hb dX6_touch_25 rfl hl (by decide) rfl (fun ls hl => ?_)
        refine lv_iconst (v := 0) hx hb dX6_touch_26 (by decide) ?_
        refine lv_istore (lv' := [(4, .int 0), (3, .int 0), (0, .ref (sk_ad g 0)), (1, .int a1), (2, .int a2)]) hx hb dX6_touch_27 hl (by decide) rfl (fun ls hl => ?_)
        obtain ⟨x_15, M_16, h_17, h⟩ := sk_b2E h
        refine w_X6_touch_L29 C a1 a2 sk_FU 0 0 M _ _ _ (lv_sub hl [2, 3, 4, 1, 0] rfl) hM hS h_17 (fun y_18 y_19 H locs ls he hl hM hS => ?_)
        obtain ⟨rfl, rfl⟩ := sk_e2 he
        refine lv_iload_n hx hb dX6_touch_104 rfl (lv_at hl 0 rfl) ?_
        exact sk_iret C hM hS (sk_e2 h) dX6_touch_105
      · have h := sk_pos h hc
        refine lv_ldc (v := (-1000000001)) hx hb hown (hts _ kw_347) dX6_touch_21 ?_
        exact sk_iret C hM hS (sk_e2 h) dX6_touch_23
theorem dX6_days_0 : decode cX6_days 0 = .ok (.iload_n 1, 1) := by decide +kernel
theorem dX6_days_1 : decode cX6_days 1 = .ok (.iconst 1, 1) := by decide +kernel
theorem dX6_days_2 : decode cX6_days 2 = .ok (.bipush 60, 2) := by decide +kernel
theorem dX6_days_4 : decode cX6_days 4 = .ok (.invokestatic 75, 3) := by decide +kernel
theorem dX6_days_7 : decode cX6_days 7 = .ok (.ifCond .ne 6, 3) := by decide +kernel
theorem dX6_days_10 : decode cX6_days 10 = .ok (.ldc 79, 2) := by decide +kernel
theorem dX6_days_12 : decode cX6_days 12 = .ok (.ireturn, 1) := by decide +kernel
theorem dX6_days_13 : decode cX6_days 13 = .ok (.iconst 0, 1) := by decide +kernel
theorem dX6_days_14 : decode cX6_days 14 = .ok (.istore_n 2, 1) := by decide +kernel
theorem dX6_days_15 : decode cX6_days 15 = .ok (.iload_n 2, 1) := by decide +kernel
theorem dX6_days_16 : decode cX6_days 16 = .ok (.iload_n 1, 1) := by decide +kernel
theorem dX6_days_17 : decode cX6_days 17 = .ok (.if_icmp .ge 29, 3) := by decide +kernel
theorem dX6_days_20 : decode cX6_days 20 = .ok (.aload_n 0, 1) := by decide +kernel
theorem dX6_days_21 : decode cX6_days 21 = .ok (.getfield 28, 3) := by decide +kernel
theorem dX6_days_24 : decode cX6_days 24 = .ok (.getfield 149, 3) := by decide +kernel
theorem dX6_days_27 : decode cX6_days 27 = .ok (.sipush 9999, 3) := by decide +kernel
theorem dX6_days_30 : decode cX6_days 30 = .ok (.if_icmp .ge 16, 3) := by decide +kernel
theorem dX6_days_33 : decode cX6_days 33 = .ok (.aload_n 0, 1) := by decide +kernel
theorem dX6_days_34 : decode cX6_days 34 = .ok (.getfield 28, 3) := by decide +kernel
theorem dX6_days_37 : decode cX6_days 37 = .ok (.invokevirtual 167, 3) := by decide +kernel
theorem dX6_days_40 : decode cX6_days 40 = .ok (.iinc 2 1, 3) := by decide +kernel
theorem dX6_days_43 : decode cX6_days 43 = .ok (.goto (-28), 3) := by decide +kernel
theorem dX6_days_46 : decode cX6_days 46 = .ok (.aload_n 0, 1) := by decide +kernel
theorem dX6_days_47 : decode cX6_days 47 = .ok (.getfield 28, 3) := by decide +kernel
theorem dX6_days_50 : decode cX6_days 50 = .ok (.getfield 149, 3) := by decide +kernel
theorem dX6_days_53 : decode cX6_days 53 = .ok (.ireturn, 1) := by decide +kernel
set_option maxHeartbeats 4000000 in
set_option maxRecDepth 100000 in
theorem w_X6_days_L15 {g : sk_G} {l : Launch} {p : Program} {e : Env} {s : State} {m : MethodId} {av : Array Value} {below : List Frame} {meth : Method} {c : Code} (C : sk_C g p s m av meth c cX6_days 3 RX6 (some .int)) (a1 : Int32) {rr : Int32} {MM : sk_M} :
    ∀ (n : Nat) (a2 : Int32) (M : sk_M) (H : Heap) (locs : List Loc) (ls : Array Slot), lv_has ls 3 [(0, .ref (sk_ad g 0)), (1, .int a1), (2, .int a2)] → sk_P g M H → va_S (sk_A g) s.heap H locs → ∀ {out : sk_M}, f_X6_days_L15 a1 n a2 M = some out → (∀ (M1 : sk_M) (H : Heap) (locs : List Loc) (ls : Array Slot), some M1 = some out → lv_has ls 3 [(0, .ref (sk_ad g 0))] → sk_P g M1 H → va_S (sk_A g) s.heap H locs → W p l e (sk_rm 6) s m av below meth c H locs 0 0 (MQ below (sk_QI g rr MM) av s 0 0 (sk_A g)) (F0 m 46 ls [])) → W p l e (sk_rm 6) s m av below meth c H locs 0 0 (MQ below (sk_QI g rr MM) av s 0 0 (sk_A g)) (F0 m 15 ls []) := by
  obtain ⟨hx, hb, hml, hown, hts, hK, hE, hr, hlocks⟩ := id C
  intro n
  induction n with
  | zero =>
    intro a2 M H locs ls hl hM hS out h
    cases h
  | succ n ih =>
    intro a2 M H locs ls hl hM hS out h kx
    rw [f_X6_days_L15] at h
    refine lv_iload_n hx hb dX6_days_15 rfl (lv_at hl 2 rfl) ?_
    refine lv_iload_n hx hb dX6_days_16 rfl (lv_at hl 1 rfl) ?_
    refine lv_icmp_ge hx hb dX6_days_17 rfl (fun hc => ?_) (fun hc => ?_)
    · have h := sk_pos h hc
      exact kx _ _ _ _ h (lv_sub hl [0] rfl) hM hS
    · have h := sk_neg h hc
      refine lv_aload_n hx hb dX6_days_20 rfl (lv_at hl 0 rfl) ?_
      refine sk_getR (o := 0) (ci := 6) (j := 0) (t := 10) C hM rfl rfl (by decide) rfl rfl kw_297 dX6_days_21 ?_
      refine sk_getI (o := 10) (ci := 5) (j := 14) C hM rfl rfl (by decide) rfl kw_195 dX6_days_24 ?_
      refine lv_sipush (v := 9999) hx hb dX6_days_27 (by decide) ?_
      refine lv_icmp_ge hx hb dX6_days_30 rfl (fun hc => ?_) (fun hc => ?_)
      · have h := sk_pos h hc
        exact kx _ _ _ _ h (lv_sub hl [0] rfl) hM hS
      · have h := sk_neg h hc
        refine lv_aload_n hx hb dX6_days_33 rfl (lv_at hl 0 rfl) ?_
        refine sk_getR (o := 0) (ci := 6) (j := 0) (t := 10) C hM rfl rfl (by decide) rfl rfl kw_297 dX6_days_34 ?_
        obtain ⟨M_2, h_3, h⟩ := sk_b1E h
        refine sk_contV (sk_runV (As := []) (rest := []) C (c_X5_passDay g l 10 (Or.inl rfl) M h_3) yo_X5_passDay kw_484 (sk_recv (ci := 5) C hM rfl rfl) (by decide) hM hS hl.1 rfl rfl (Nat.le_of_ble_eq_true rfl) dX6_days_37) hS (fun H locs hM hS => ?_)
        refine lv_iinc (v := (a2 + 1)) (lv' := [(2, .int (a2 + 1)), (0, .ref (sk_ad g 0)), (1, .int a1)]) hx hb dX6_days_40 hl (k := 2) rfl rfl (by decide) rfl (fun ls hl => ?_)
        refine lv_goto hx hb dX6_days_43 rfl ?_
        exact ih (a2 + 1) M_2 _ _ _ (lv_sub hl [1, 2, 0] rfl) hM hS h kx
set_option maxHeartbeats 4000000 in
set_option maxRecDepth 100000 in
theorem c_X6_days (g : sk_G) (l : Launch) (a1 : Int32) (M : sk_M) {rr : Int32} {MM : sk_M} (h : f_X6_days a1 M = some (rr, MM)) : sk_MI g l yX6_days cX6_days 3 (some .int) 6 [.ref (sk_ad g 0), .int a1] M rr MM := by
  refine sk_go [(0, .ref (sk_ad g 0)), (1, .int a1)] (by decide) (Nat.le_of_ble_eq_true rfl) rfl ?_
  intro p e s m av below meth c C ls hl hM hS
  obtain ⟨hx, hb, hml, hown, hts, hK, hE, hr, hlocks⟩ := id C
  rw [f_X6_days] at h
  refine lv_iload_n hx hb dX6_days_0 rfl (lv_at hl 1 rfl) ?_
  refine lv_iconst (v := 1) hx hb dX6_days_1 (by decide) ?_
  refine lv_bipush (v := 60) hx hb dX6_days_2 (by decide) ?_
  refine sk_contI (sk_runS (As := [.int a1, .int 1, .int 60]) (rest := []) C (c_X6_within g l a1 1 60 M rfl) yo_X6_within kw_344 (by decide) hM hS hl.1 rfl rfl (Nat.le_of_ble_eq_true rfl) dX6_days_4) hS (fun H locs hM hS => ?_)
  refine lv_if_ne hx hb dX6_days_7 rfl (fun hc => ?_) (fun hc => ?_)
  · have h := sk_neg h hc
    refine lv_iconst (v := 0) hx hb dX6_days_13 (by decide) ?_
    refine lv_istore_n (lv' := [(2, .int 0), (0, .ref (sk_ad g 0)), (1, .int a1)]) hx hb dX6_days_14 rfl hl (by decide) rfl (fun ls hl => ?_)
    obtain ⟨M_4, h_5, h⟩ := sk_b1E h
    refine w_X6_days_L15 C a1 sk_FU 0 M _ _ _ (lv_sub hl [1, 2, 0] rfl) hM hS h_5 (fun y_6 H locs ls he hl hM hS => ?_)
    obtain rfl := Option.some.inj he
    refine lv_aload_n hx hb dX6_days_46 rfl (lv_at hl 0 rfl) ?_
    refine sk_getR (o := 0) (ci := 6) (j := 0) (t := 10) C hM rfl rfl (by decide) rfl rfl kw_297 dX6_days_47 ?_
    refine sk_getI (o := 10) (ci := 5) (j := 14) C hM rfl rfl (by decide) rfl kw_195 dX6_days_50 ?_
    exact sk_iret C hM hS (sk_e2 h) dX6_days_53
  · have h := sk_pos h hc
    refine lv_ldc (v := (-1000000001)) hx hb hown (hts _ kw_347) dX6_days_10 ?_
    exact sk_iret C hM hS (sk_e2 h) dX6_days_12
theorem dX6_smells_0 : decode cX6_smells 0 = .ok (.aload_n 0, 1) := by decide +kernel
theorem dX6_smells_1 : decode cX6_smells 1 = .ok (.iload_n 1, 1) := by decide +kernel
theorem dX6_smells_2 : decode cX6_smells 2 = .ok (.invokevirtual 160, 3) := by decide +kernel
theorem dX6_smells_5 : decode cX6_smells 5 = .ok (.ifCond .eq 10, 3) := by decide +kernel
theorem dX6_smells_8 : decode cX6_smells 8 = .ok (.iload_n 2, 1) := by decide +kernel
theorem dX6_smells_9 : decode cX6_smells 9 = .ok (.invokestatic 104, 3) := by decide +kernel
theorem dX6_smells_12 : decode cX6_smells 12 = .ok (.ifCond .ne 6, 3) := by decide +kernel
theorem dX6_smells_15 : decode cX6_smells 15 = .ok (.ldc 79, 2) := by decide +kernel
theorem dX6_smells_17 : decode cX6_smells 17 = .ok (.ireturn, 1) := by decide +kernel
theorem dX6_smells_18 : decode cX6_smells 18 = .ok (.aload_n 0, 1) := by decide +kernel
theorem dX6_smells_19 : decode cX6_smells 19 = .ok (.getfield 28, 3) := by decide +kernel
theorem dX6_smells_22 : decode cX6_smells 22 = .ok (.aload_n 0, 1) := by decide +kernel
theorem dX6_smells_23 : decode cX6_smells 23 = .ok (.getfield 28, 3) := by decide +kernel
theorem dX6_smells_26 : decode cX6_smells 26 = .ok (.getfield 142, 3) := by decide +kernel
theorem dX6_smells_29 : decode cX6_smells 29 = .ok (.iload_n 1, 1) := by decide +kernel
theorem dX6_smells_30 : decode cX6_smells 30 = .ok (.aaload, 1) := by decide +kernel
theorem dX6_smells_31 : decode cX6_smells 31 = .ok (.iload_n 2, 1) := by decide +kernel
theorem dX6_smells_32 : decode cX6_smells 32 = .ok (.invokevirtual 170, 3) := by decide +kernel
theorem dX6_smells_35 : decode cX6_smells 35 = .ok (.ireturn, 1) := by decide +kernel
set_option maxHeartbeats 4000000 in
set_option maxRecDepth 100000 in
theorem c_X6_smells (g : sk_G) (l : Launch) (a1 : Int32) (a2 : Int32) (M : sk_M) {rr : Int32} (h : f_X6_smells a1 a2 M = some rr) : sk_MI g l yX6_smells cX6_smells 3 (some .int) 3 [.ref (sk_ad g 0), .int a1, .int a2] M rr M := by
  refine sk_go [(0, .ref (sk_ad g 0)), (1, .int a1), (2, .int a2)] (by decide) (Nat.le_of_ble_eq_true rfl) rfl ?_
  intro p e s m av below meth c C ls hl hM hS
  obtain ⟨hx, hb, hml, hown, hts, hK, hE, hr, hlocks⟩ := id C
  rw [f_X6_smells] at h
  refine lv_aload_n hx hb dX6_smells_0 rfl (lv_at hl 0 rfl) ?_
  refine lv_iload_n hx hb dX6_smells_1 rfl (lv_at hl 1 rfl) ?_
  refine sk_contI (sk_runV (As := [.int a1]) (rest := []) C (c_X6_isCloth g l a1 M rfl) yo_X6_isCloth kw_434 (sk_recv (ci := 6) C hM rfl rfl) (by decide) hM hS hl.1 rfl rfl (Nat.le_of_ble_eq_true rfl) dX6_smells_2) hS (fun H locs hM hS => ?_)
  refine lv_if_eq hx hb dX6_smells_5 rfl (fun hc => ?_) (fun hc => ?_)
  · have h := sk_pos h hc
    refine lv_ldc (v := (-1000000001)) hx hb hown (hts _ kw_347) dX6_smells_15 ?_
    exact sk_iret C hM hS ⟨Option.some.inj h, rfl⟩ dX6_smells_17
  · have h := sk_neg h hc
    refine lv_iload_n hx hb dX6_smells_8 rfl (lv_at hl 2 rfl) ?_
    refine sk_contI (sk_runS (As := [.int a2]) (rest := []) C (c_X6_isNose g l a2 M rfl) yo_X6_isNose kw_390 (by decide) hM hS hl.1 rfl rfl (Nat.le_of_ble_eq_true rfl) dX6_smells_9) hS (fun H locs hM hS => ?_)
    refine lv_if_ne hx hb dX6_smells_12 rfl (fun hc => ?_) (fun hc => ?_)
    · have h := sk_neg h hc
      refine lv_aload_n hx hb dX6_smells_18 rfl (lv_at hl 0 rfl) ?_
      refine sk_getR (o := 0) (ci := 6) (j := 0) (t := 10) C hM rfl rfl (by decide) rfl rfl kw_297 dX6_smells_19 ?_
      refine lv_aload_n hx hb dX6_smells_22 rfl (lv_at hl 0 rfl) ?_
      refine sk_getR (o := 0) (ci := 6) (j := 0) (t := 10) C hM rfl rfl (by decide) rfl rfl kw_297 dX6_smells_23 ?_
      refine sk_getR (o := 10) (ci := 5) (j := 7) (t := 17) C hM rfl rfl (by decide) rfl rfl kw_181 dX6_smells_26 ?_
      refine lv_iload_n hx hb dX6_smells_29 rfl (lv_at hl 1 rfl) ?_
      obtain ⟨i_3, h⟩ := sk_chkE h
      refine sk_aald (o := 17) (k := 0) (t := (20 + a1.toNatClampNeg)) C hM rfl (by decide) i_3 rfl dX6_smells_30 ?_
      refine lv_iload_n hx hb dX6_smells_31 rfl (lv_at hl 2 rfl) ?_
      obtain ⟨x_4, h_5, h⟩ := sk_b1E h
      refine sk_contI (sk_runV (As := [.ref (sk_ad g (20 + a1.toNatClampNeg)), .int a2]) (rest := []) C (c_X5_smelled g l 10 (Or.inl rfl) (20 + a1.toNatClampNeg) (sk_kd_s20 (sk_in_lt i_3)) a2 M h_5) yo_X5_smelled kw_497 (sk_recv (ci := 5) C hM rfl rfl) (by decide) hM hS hl.1 rfl rfl (Nat.le_of_ble_eq_true rfl) dX6_smells_32) hS (fun H locs hM hS => ?_)
      exact sk_iret C hM hS ⟨Option.some.inj h, rfl⟩ dX6_smells_35
    · have h := sk_pos h hc
      refine lv_ldc (v := (-1000000001)) hx hb hown (hts _ kw_347) dX6_smells_15 ?_
      exact sk_iret C hM hS ⟨Option.some.inj h, rfl⟩ dX6_smells_17
