/-! The law: each of its calls, in both. -/
theorem z_case0 {g : sk_G} {p : Program} {l : Launch} {e : Env} {s : State} {m : MethodId} {below : List Frame} {meth : Method} {c : Code} {b L i : Nat} {xs : Nat → Int32} {H : Heap} {locs : List Loc} {ls : Array Slot} {cells slots : Nat} {Q : State → Prop} {M : sk_M} (Z : z_C g p s m meth c b L xs) (hL : L ≤ 3072) (hi : i + 6 ≤ L) (hl : lv_has ls 4 [(0, .ref b), (1, .ref (sk_ad g 0)), (2, .ref (sk_ad g 88)), (3, .int (nI i))]) (hS : va_S (fun q => s.heap.size ≤ q) s.heap H locs) (hP : sk_P g M H) (hR : r_all M) (hc1 : cells ≤ 600000) (hc2 : slots ≤ 7302250)
    (kk : ∀ (M2 : sk_M) (H2 : Heap) (locs2 : List Loc), r_all M2 → sk_P g M2 H2 → va_S (fun q => s.heap.size ≤ q) s.heap H2 locs2 → W p l e room_1 s m #[Value.ref b] below meth c H2 locs2 cells slots Q (F0 m 1871 ls [])) : W p l e room_1 s m #[Value.ref b] below meth c H locs cells slots Q (F0 m 244 ls []) := by
  have hx := Z.1
  have hb := Z.2.1
  obtain ⟨r, M1, M2, h6, h7, hR2⟩ := t_scent (xs (i + 1)) (xs (i + 2)) M hR
  refine lv_aload_n hx hb zd_244 rfl (lv_at hl 1 rfl) ?_
  refine z_arg (j := 1) Z hl hS hL (by omega) (by decide) za_245 ?_
  refine z_arg (j := 2) Z hl hS hL (by omega) (by decide) za_250 ?_
  refine z_call (As := [.int (xs (i + 1)), .int (xs (i + 2))]) (rest := []) Z hS hP (c_X6_scent g l (xs (i + 1)) (xs (i + 2)) M h6) yo_X6_scent kw_337 (z_recv6 Z hP) (by decide) hl.1 rfl rfl (Nat.le_of_ble_eq_true rfl) zd_255 (fun H locs hP hS => ?_)
  refine lv_aload_n hx hb zd_258 rfl (lv_at hl 2 rfl) ?_
  refine z_arg (j := 1) Z hl hS hL (by omega) (by decide) za_259 ?_
  refine z_arg (j := 2) Z hl hS hL (by omega) (by decide) za_264 ?_
  refine z_call (As := [.int (xs (i + 1)), .int (xs (i + 2))]) (rest := [.int r]) Z hS hP (c_X7_scent g l (xs (i + 1)) (xs (i + 2)) M1 h7) yo_X7_scent kw_1035 (z_recv7 Z hP) (by decide) hl.1 rfl rfl (Nat.le_of_ble_eq_true rfl) zd_269 (fun H locs hP hS => ?_)
  refine lv_icmp_eq (tgt := 1871) hx hb zd_272 (by decide) (fun _ => ?_) (fun c9 => absurd rfl c9)
  exact kk M2 H locs hR2 hP hS
theorem z_case1 {g : sk_G} {p : Program} {l : Launch} {e : Env} {s : State} {m : MethodId} {below : List Frame} {meth : Method} {c : Code} {b L i : Nat} {xs : Nat → Int32} {H : Heap} {locs : List Loc} {ls : Array Slot} {cells slots : Nat} {Q : State → Prop} {M : sk_M} (Z : z_C g p s m meth c b L xs) (hL : L ≤ 3072) (hi : i + 6 ≤ L) (hl : lv_has ls 4 [(0, .ref b), (1, .ref (sk_ad g 0)), (2, .ref (sk_ad g 88)), (3, .int (nI i))]) (hS : va_S (fun q => s.heap.size ≤ q) s.heap H locs) (hP : sk_P g M H) (hR : r_all M) (hc1 : cells ≤ 600000) (hc2 : slots ≤ 7302250)
    (kk : ∀ (M2 : sk_M) (H2 : Heap) (locs2 : List Loc), r_all M2 → sk_P g M2 H2 → va_S (fun q => s.heap.size ≤ q) s.heap H2 locs2 → W p l e room_1 s m #[Value.ref b] below meth c H2 locs2 cells slots Q (F0 m 1871 ls [])) : W p l e room_1 s m #[Value.ref b] below meth c H locs cells slots Q (F0 m 277 ls []) := by
  have hx := Z.1
  have hb := Z.2.1
  obtain ⟨r, h6, h7⟩ := t_told (xs (i + 1)) (xs (i + 2)) M hR
  refine lv_aload_n hx hb zd_277 rfl (lv_at hl 1 rfl) ?_
  refine z_arg (j := 1) Z hl hS hL (by omega) (by decide) za_278 ?_
  refine z_arg (j := 2) Z hl hS hL (by omega) (by decide) za_283 ?_
  refine z_call (As := [.int (xs (i + 1)), .int (xs (i + 2))]) (rest := []) Z hS hP (c_X6_told g l (xs (i + 1)) (xs (i + 2)) M h6) yo_X6_told kw_353 (z_recv6 Z hP) (by decide) hl.1 rfl rfl (Nat.le_of_ble_eq_true rfl) zd_288 (fun H locs hP hS => ?_)
  refine lv_aload_n hx hb zd_291 rfl (lv_at hl 2 rfl) ?_
  refine z_arg (j := 1) Z hl hS hL (by omega) (by decide) za_292 ?_
  refine z_arg (j := 2) Z hl hS hL (by omega) (by decide) za_297 ?_
  refine z_call (As := [.int (xs (i + 1)), .int (xs (i + 2))]) (rest := [.int r]) Z hS hP (c_X7_told g l (xs (i + 1)) (xs (i + 2)) M h7) yo_X7_told kw_1050 (z_recv7 Z hP) (by decide) hl.1 rfl rfl (Nat.le_of_ble_eq_true rfl) zd_302 (fun H locs hP hS => ?_)
  refine lv_icmp_eq (tgt := 1871) hx hb zd_305 (by decide) (fun _ => ?_) (fun c9 => absurd rfl c9)
  exact kk M H locs hR hP hS
theorem z_case2 {g : sk_G} {p : Program} {l : Launch} {e : Env} {s : State} {m : MethodId} {below : List Frame} {meth : Method} {c : Code} {b L i : Nat} {xs : Nat → Int32} {H : Heap} {locs : List Loc} {ls : Array Slot} {cells slots : Nat} {Q : State → Prop} {M : sk_M} (Z : z_C g p s m meth c b L xs) (hL : L ≤ 3072) (hi : i + 6 ≤ L) (hl : lv_has ls 4 [(0, .ref b), (1, .ref (sk_ad g 0)), (2, .ref (sk_ad g 88)), (3, .int (nI i))]) (hS : va_S (fun q => s.heap.size ≤ q) s.heap H locs) (hP : sk_P g M H) (hR : r_all M) (hc1 : cells ≤ 600000) (hc2 : slots ≤ 7302250)
    (kk : ∀ (M2 : sk_M) (H2 : Heap) (locs2 : List Loc), r_all M2 → sk_P g M2 H2 → va_S (fun q => s.heap.size ≤ q) s.heap H2 locs2 → W p l e room_1 s m #[Value.ref b] below meth c H2 locs2 cells slots Q (F0 m 1871 ls [])) : W p l e room_1 s m #[Value.ref b] below meth c H locs cells slots Q (F0 m 310 ls []) := by
  have hx := Z.1
  have hb := Z.2.1
  obtain ⟨r, h6, h7⟩ := t_as (xs (i + 1)) (xs (i + 2)) M hR
  refine lv_aload_n hx hb zd_310 rfl (lv_at hl 1 rfl) ?_
  refine z_arg (j := 1) Z hl hS hL (by omega) (by decide) za_311 ?_
  refine z_arg (j := 2) Z hl hS hL (by omega) (by decide) za_316 ?_
  refine z_call (As := [.int (xs (i + 1)), .int (xs (i + 2))]) (rest := []) Z hS hP (c_X6_as g l (xs (i + 1)) (xs (i + 2)) M h6) yo_X6_as kw_364 (z_recv6 Z hP) (by decide) hl.1 rfl rfl (Nat.le_of_ble_eq_true rfl) zd_321 (fun H locs hP hS => ?_)
  refine lv_aload_n hx hb zd_324 rfl (lv_at hl 2 rfl) ?_
  refine z_arg (j := 1) Z hl hS hL (by omega) (by decide) za_325 ?_
  refine z_arg (j := 2) Z hl hS hL (by omega) (by decide) za_330 ?_
  refine z_call (As := [.int (xs (i + 1)), .int (xs (i + 2))]) (rest := [.int r]) Z hS hP (c_X7_as g l (xs (i + 1)) (xs (i + 2)) M h7) yo_X7_as kw_1067 (z_recv7 Z hP) (by decide) hl.1 rfl rfl (Nat.le_of_ble_eq_true rfl) zd_335 (fun H locs hP hS => ?_)
  refine lv_icmp_eq (tgt := 1871) hx hb zd_338 (by decide) (fun _ => ?_) (fun c9 => absurd rfl c9)
  exact kk M H locs hR hP hS
theorem z_case3 {g : sk_G} {p : Program} {l : Launch} {e : Env} {s : State} {m : MethodId} {below : List Frame} {meth : Method} {c : Code} {b L i : Nat} {xs : Nat → Int32} {H : Heap} {locs : List Loc} {ls : Array Slot} {cells slots : Nat} {Q : State → Prop} {M : sk_M} (Z : z_C g p s m meth c b L xs) (hL : L ≤ 3072) (hi : i + 6 ≤ L) (hl : lv_has ls 4 [(0, .ref b), (1, .ref (sk_ad g 0)), (2, .ref (sk_ad g 88)), (3, .int (nI i))]) (hS : va_S (fun q => s.heap.size ≤ q) s.heap H locs) (hP : sk_P g M H) (hR : r_all M) (hc1 : cells ≤ 600000) (hc2 : slots ≤ 7302250)
    (kk : ∀ (M2 : sk_M) (H2 : Heap) (locs2 : List Loc), r_all M2 → sk_P g M2 H2 → va_S (fun q => s.heap.size ≤ q) s.heap H2 locs2 → W p l e room_1 s m #[Value.ref b] below meth c H2 locs2 cells slots Q (F0 m 1871 ls [])) : W p l e room_1 s m #[Value.ref b] below meth c H locs cells slots Q (F0 m 343 ls []) := by
  have hx := Z.1
  have hb := Z.2.1
  obtain ⟨r, M1, M2, h6, h7, hR2⟩ := t_turns (xs (i + 1)) (xs (i + 2)) M hR
  refine lv_aload_n hx hb zd_343 rfl (lv_at hl 1 rfl) ?_
  refine z_arg (j := 1) Z hl hS hL (by omega) (by decide) za_344 ?_
  refine z_arg (j := 2) Z hl hS hL (by omega) (by decide) za_349 ?_
  refine z_call (As := [.int (xs (i + 1)), .int (xs (i + 2))]) (rest := []) Z hS hP (c_X6_turns g l (xs (i + 1)) (xs (i + 2)) M h6) yo_X6_turns kw_374 (z_recv6 Z hP) (by decide) hl.1 rfl rfl (Nat.le_of_ble_eq_true rfl) zd_354 (fun H locs hP hS => ?_)
  refine lv_aload_n hx hb zd_357 rfl (lv_at hl 2 rfl) ?_
  refine z_arg (j := 1) Z hl hS hL (by omega) (by decide) za_358 ?_
  refine z_arg (j := 2) Z hl hS hL (by omega) (by decide) za_363 ?_
  refine z_call (As := [.int (xs (i + 1)), .int (xs (i + 2))]) (rest := [.int r]) Z hS hP (c_X7_turns g l (xs (i + 1)) (xs (i + 2)) M1 h7) yo_X7_turns kw_1075 (z_recv7 Z hP) (by decide) hl.1 rfl rfl (Nat.le_of_ble_eq_true rfl) zd_368 (fun H locs hP hS => ?_)
  refine lv_icmp_eq (tgt := 1871) hx hb zd_371 (by decide) (fun _ => ?_) (fun c9 => absurd rfl c9)
  exact kk M2 H locs hR2 hP hS
theorem z_case4 {g : sk_G} {p : Program} {l : Launch} {e : Env} {s : State} {m : MethodId} {below : List Frame} {meth : Method} {c : Code} {b L i : Nat} {xs : Nat → Int32} {H : Heap} {locs : List Loc} {ls : Array Slot} {cells slots : Nat} {Q : State → Prop} {M : sk_M} (Z : z_C g p s m meth c b L xs) (hL : L ≤ 3072) (hi : i + 6 ≤ L) (hl : lv_has ls 4 [(0, .ref b), (1, .ref (sk_ad g 0)), (2, .ref (sk_ad g 88)), (3, .int (nI i))]) (hS : va_S (fun q => s.heap.size ≤ q) s.heap H locs) (hP : sk_P g M H) (hR : r_all M) (hc1 : cells ≤ 600000) (hc2 : slots ≤ 7302250)
    (kk : ∀ (M2 : sk_M) (H2 : Heap) (locs2 : List Loc), r_all M2 → sk_P g M2 H2 → va_S (fun q => s.heap.size ≤ q) s.heap H2 locs2 → W p l e room_1 s m #[Value.ref b] below meth c H2 locs2 cells slots Q (F0 m 1871 ls [])) : W p l e room_1 s m #[Value.ref b] below meth c H locs cells slots Q (F0 m 376 ls []) := by
  have hx := Z.1
  have hb := Z.2.1
  obtain ⟨r, M1, M2, h6, h7, hR2⟩ := t_pace (xs (i + 1)) (xs (i + 2)) M hR
  refine lv_aload_n hx hb zd_376 rfl (lv_at hl 1 rfl) ?_
  refine z_arg (j := 1) Z hl hS hL (by omega) (by decide) za_377 ?_
  refine z_arg (j := 2) Z hl hS hL (by omega) (by decide) za_382 ?_
  refine z_call (As := [.int (xs (i + 1)), .int (xs (i + 2))]) (rest := []) Z hS hP (c_X6_pace g l (xs (i + 1)) (xs (i + 2)) M h6) yo_X6_pace kw_378 (z_recv6 Z hP) (by decide) hl.1 rfl rfl (Nat.le_of_ble_eq_true rfl) zd_387 (fun H locs hP hS => ?_)
  refine lv_aload_n hx hb zd_390 rfl (lv_at hl 2 rfl) ?_
  refine z_arg (j := 1) Z hl hS hL (by omega) (by decide) za_391 ?_
  refine z_arg (j := 2) Z hl hS hL (by omega) (by decide) za_396 ?_
  refine z_call (As := [.int (xs (i + 1)), .int (xs (i + 2))]) (rest := [.int r]) Z hS hP (c_X7_pace g l (xs (i + 1)) (xs (i + 2)) M1 h7) yo_X7_pace kw_1083 (z_recv7 Z hP) (by decide) hl.1 rfl rfl (Nat.le_of_ble_eq_true rfl) zd_401 (fun H locs hP hS => ?_)
  refine lv_icmp_eq (tgt := 1871) hx hb zd_404 (by decide) (fun _ => ?_) (fun c9 => absurd rfl c9)
  exact kk M2 H locs hR2 hP hS
theorem z_case5 {g : sk_G} {p : Program} {l : Launch} {e : Env} {s : State} {m : MethodId} {below : List Frame} {meth : Method} {c : Code} {b L i : Nat} {xs : Nat → Int32} {H : Heap} {locs : List Loc} {ls : Array Slot} {cells slots : Nat} {Q : State → Prop} {M : sk_M} (Z : z_C g p s m meth c b L xs) (hL : L ≤ 3072) (hi : i + 6 ≤ L) (hl : lv_has ls 4 [(0, .ref b), (1, .ref (sk_ad g 0)), (2, .ref (sk_ad g 88)), (3, .int (nI i))]) (hS : va_S (fun q => s.heap.size ≤ q) s.heap H locs) (hP : sk_P g M H) (hR : r_all M) (hc1 : cells ≤ 600000) (hc2 : slots ≤ 7302250)
    (kk : ∀ (M2 : sk_M) (H2 : Heap) (locs2 : List Loc), r_all M2 → sk_P g M2 H2 → va_S (fun q => s.heap.size ≤ q) s.heap H2 locs2 → W p l e room_1 s m #[Value.ref b] below meth c H2 locs2 cells slots Q (F0 m 1871 ls [])) : W p l e room_1 s m #[Value.ref b] below meth c H locs cells slots Q (F0 m 409 ls []) := by
  have hx := Z.1
  have hb := Z.2.1
  obtain ⟨r, M1, M2, h6, h7, hR2⟩ := t_hide (xs (i + 1)) (xs (i + 2)) (xs (i + 3)) M hR
  refine lv_aload_n hx hb zd_409 rfl (lv_at hl 1 rfl) ?_
  refine z_arg (j := 1) Z hl hS hL (by omega) (by decide) za_410 ?_
  refine z_arg (j := 2) Z hl hS hL (by omega) (by decide) za_415 ?_
  refine z_arg (j := 3) Z hl hS hL (by omega) (by decide) za_420 ?_
  refine z_call (As := [.int (xs (i + 1)), .int (xs (i + 2)), .int (xs (i + 3))]) (rest := []) Z hS hP (c_X6_hide g l (xs (i + 1)) (xs (i + 2)) (xs (i + 3)) M h6) yo_X6_hide kw_382 (z_recv6 Z hP) (by decide) hl.1 rfl rfl (Nat.le_of_ble_eq_true rfl) zd_425 (fun H locs hP hS => ?_)
  refine lv_aload_n hx hb zd_428 rfl (lv_at hl 2 rfl) ?_
  refine z_arg (j := 1) Z hl hS hL (by omega) (by decide) za_429 ?_
  refine z_arg (j := 2) Z hl hS hL (by omega) (by decide) za_434 ?_
  refine z_arg (j := 3) Z hl hS hL (by omega) (by decide) za_439 ?_
  refine z_call (As := [.int (xs (i + 1)), .int (xs (i + 2)), .int (xs (i + 3))]) (rest := [.int r]) Z hS hP (c_X7_hide g l (xs (i + 1)) (xs (i + 2)) (xs (i + 3)) M1 h7) yo_X7_hide kw_1087 (z_recv7 Z hP) (by decide) hl.1 rfl rfl (Nat.le_of_ble_eq_true rfl) zd_444 (fun H locs hP hS => ?_)
  refine lv_icmp_eq (tgt := 1871) hx hb zd_447 (by decide) (fun _ => ?_) (fun c9 => absurd rfl c9)
  exact kk M2 H locs hR2 hP hS
theorem z_case6 {g : sk_G} {p : Program} {l : Launch} {e : Env} {s : State} {m : MethodId} {below : List Frame} {meth : Method} {c : Code} {b L i : Nat} {xs : Nat → Int32} {H : Heap} {locs : List Loc} {ls : Array Slot} {cells slots : Nat} {Q : State → Prop} {M : sk_M} (Z : z_C g p s m meth c b L xs) (hL : L ≤ 3072) (hi : i + 6 ≤ L) (hl : lv_has ls 4 [(0, .ref b), (1, .ref (sk_ad g 0)), (2, .ref (sk_ad g 88)), (3, .int (nI i))]) (hS : va_S (fun q => s.heap.size ≤ q) s.heap H locs) (hP : sk_P g M H) (hR : r_all M) (hc1 : cells ≤ 600000) (hc2 : slots ≤ 7302250)
    (kk : ∀ (M2 : sk_M) (H2 : Heap) (locs2 : List Loc), r_all M2 → sk_P g M2 H2 → va_S (fun q => s.heap.size ≤ q) s.heap H2 locs2 → W p l e room_1 s m #[Value.ref b] below meth c H2 locs2 cells slots Q (F0 m 1871 ls [])) : W p l e room_1 s m #[Value.ref b] below meth c H locs cells slots Q (F0 m 452 ls []) := by
  have hx := Z.1
  have hb := Z.2.1
  obtain ⟨r, M1, M2, h6, h7, hR2⟩ := t_nose (xs (i + 1)) (xs (i + 2)) M hR
  refine lv_aload_n hx hb zd_452 rfl (lv_at hl 1 rfl) ?_
  refine z_arg (j := 1) Z hl hS hL (by omega) (by decide) za_453 ?_
  refine z_arg (j := 2) Z hl hS hL (by omega) (by decide) za_458 ?_
  refine z_call (As := [.int (xs (i + 1)), .int (xs (i + 2))]) (rest := []) Z hS hP (c_X6_nose g l (xs (i + 1)) (xs (i + 2)) M h6) yo_X6_nose kw_386 (z_recv6 Z hP) (by decide) hl.1 rfl rfl (Nat.le_of_ble_eq_true rfl) zd_463 (fun H locs hP hS => ?_)
  refine lv_aload_n hx hb zd_466 rfl (lv_at hl 2 rfl) ?_
  refine z_arg (j := 1) Z hl hS hL (by omega) (by decide) za_467 ?_
  refine z_arg (j := 2) Z hl hS hL (by omega) (by decide) za_472 ?_
  refine z_call (As := [.int (xs (i + 1)), .int (xs (i + 2))]) (rest := [.int r]) Z hS hP (c_X7_nose g l (xs (i + 1)) (xs (i + 2)) M1 h7) yo_X7_nose kw_1091 (z_recv7 Z hP) (by decide) hl.1 rfl rfl (Nat.le_of_ble_eq_true rfl) zd_477 (fun H locs hP hS => ?_)
  refine lv_icmp_eq (tgt := 1871) hx hb zd_480 (by decide) (fun _ => ?_) (fun c9 => absurd rfl c9)
  exact kk M2 H locs hR2 hP hS
theorem z_case7 {g : sk_G} {p : Program} {l : Launch} {e : Env} {s : State} {m : MethodId} {below : List Frame} {meth : Method} {c : Code} {b L i : Nat} {xs : Nat → Int32} {H : Heap} {locs : List Loc} {ls : Array Slot} {cells slots : Nat} {Q : State → Prop} {M : sk_M} (Z : z_C g p s m meth c b L xs) (hL : L ≤ 3072) (hi : i + 6 ≤ L) (hl : lv_has ls 4 [(0, .ref b), (1, .ref (sk_ad g 0)), (2, .ref (sk_ad g 88)), (3, .int (nI i))]) (hS : va_S (fun q => s.heap.size ≤ q) s.heap H locs) (hP : sk_P g M H) (hR : r_all M) (hc1 : cells ≤ 600000) (hc2 : slots ≤ 7302250)
    (kk : ∀ (M2 : sk_M) (H2 : Heap) (locs2 : List Loc), r_all M2 → sk_P g M2 H2 → va_S (fun q => s.heap.size ≤ q) s.heap H2 locs2 → W p l e room_1 s m #[Value.ref b] below meth c H2 locs2 cells slots Q (F0 m 1871 ls [])) : W p l e room_1 s m #[Value.ref b] below meth c H locs cells slots Q (F0 m 485 ls []) := by
  have hx := Z.1
  have hb := Z.2.1
  obtain ⟨r, M1, M2, h6, h7, hR2⟩ := t_word (xs (i + 1)) M hR
  refine lv_aload_n hx hb zd_485 rfl (lv_at hl 1 rfl) ?_
  refine z_arg (j := 1) Z hl hS hL (by omega) (by decide) za_486 ?_
  refine z_call (As := [.int (xs (i + 1))]) (rest := []) Z hS hP (c_X6_word g l (xs (i + 1)) M h6) yo_X6_word kw_393 (z_recv6 Z hP) (by decide) hl.1 rfl rfl (Nat.le_of_ble_eq_true rfl) zd_491 (fun H locs hP hS => ?_)
  refine lv_aload_n hx hb zd_494 rfl (lv_at hl 2 rfl) ?_
  refine z_arg (j := 1) Z hl hS hL (by omega) (by decide) za_495 ?_
  refine z_call (As := [.int (xs (i + 1))]) (rest := [.int r]) Z hS hP (c_X7_word g l (xs (i + 1)) M1 h7) yo_X7_word kw_1099 (z_recv7 Z hP) (by decide) hl.1 rfl rfl (Nat.le_of_ble_eq_true rfl) zd_500 (fun H locs hP hS => ?_)
  refine lv_icmp_eq (tgt := 1871) hx hb zd_503 (by decide) (fun _ => ?_) (fun c9 => absurd rfl c9)
  exact kk M2 H locs hR2 hP hS
theorem z_case8 {g : sk_G} {p : Program} {l : Launch} {e : Env} {s : State} {m : MethodId} {below : List Frame} {meth : Method} {c : Code} {b L i : Nat} {xs : Nat → Int32} {H : Heap} {locs : List Loc} {ls : Array Slot} {cells slots : Nat} {Q : State → Prop} {M : sk_M} (Z : z_C g p s m meth c b L xs) (hL : L ≤ 3072) (hi : i + 6 ≤ L) (hl : lv_has ls 4 [(0, .ref b), (1, .ref (sk_ad g 0)), (2, .ref (sk_ad g 88)), (3, .int (nI i))]) (hS : va_S (fun q => s.heap.size ≤ q) s.heap H locs) (hP : sk_P g M H) (hR : r_all M) (hc1 : cells ≤ 600000) (hc2 : slots ≤ 7302250)
    (kk : ∀ (M2 : sk_M) (H2 : Heap) (locs2 : List Loc), r_all M2 → sk_P g M2 H2 → va_S (fun q => s.heap.size ≤ q) s.heap H2 locs2 → W p l e room_1 s m #[Value.ref b] below meth c H2 locs2 cells slots Q (F0 m 1871 ls [])) : W p l e room_1 s m #[Value.ref b] below meth c H locs cells slots Q (F0 m 508 ls []) := by
  have hx := Z.1
  have hb := Z.2.1
  obtain ⟨r, h6, h7⟩ := t_wordOf (xs (i + 1)) M hR
  refine lv_aload_n hx hb zd_508 rfl (lv_at hl 1 rfl) ?_
  refine z_arg (j := 1) Z hl hS hL (by omega) (by decide) za_509 ?_
  refine z_call (As := [.int (xs (i + 1))]) (rest := []) Z hS hP (c_X6_wordOf g l (xs (i + 1)) M h6) yo_X6_wordOf kw_398 (z_recv6 Z hP) (by decide) hl.1 rfl rfl (Nat.le_of_ble_eq_true rfl) zd_514 (fun H locs hP hS => ?_)
  refine lv_aload_n hx hb zd_517 rfl (lv_at hl 2 rfl) ?_
  refine z_arg (j := 1) Z hl hS hL (by omega) (by decide) za_518 ?_
  refine z_call (As := [.int (xs (i + 1))]) (rest := [.int r]) Z hS hP (c_X7_wordOf g l (xs (i + 1)) M h7) yo_X7_wordOf kw_1103 (z_recv7 Z hP) (by decide) hl.1 rfl rfl (Nat.le_of_ble_eq_true rfl) zd_523 (fun H locs hP hS => ?_)
  refine lv_icmp_eq (tgt := 1871) hx hb zd_526 (by decide) (fun _ => ?_) (fun c9 => absurd rfl c9)
  exact kk M H locs hR hP hS
theorem z_case9 {g : sk_G} {p : Program} {l : Launch} {e : Env} {s : State} {m : MethodId} {below : List Frame} {meth : Method} {c : Code} {b L i : Nat} {xs : Nat → Int32} {H : Heap} {locs : List Loc} {ls : Array Slot} {cells slots : Nat} {Q : State → Prop} {M : sk_M} (Z : z_C g p s m meth c b L xs) (hL : L ≤ 3072) (hi : i + 6 ≤ L) (hl : lv_has ls 4 [(0, .ref b), (1, .ref (sk_ad g 0)), (2, .ref (sk_ad g 88)), (3, .int (nI i))]) (hS : va_S (fun q => s.heap.size ≤ q) s.heap H locs) (hP : sk_P g M H) (hR : r_all M) (hc1 : cells ≤ 600000) (hc2 : slots ≤ 7302250)
    (kk : ∀ (M2 : sk_M) (H2 : Heap) (locs2 : List Loc), r_all M2 → sk_P g M2 H2 → va_S (fun q => s.heap.size ≤ q) s.heap H2 locs2 → W p l e room_1 s m #[Value.ref b] below meth c H2 locs2 cells slots Q (F0 m 1871 ls [])) : W p l e room_1 s m #[Value.ref b] below meth c H locs cells slots Q (F0 m 531 ls []) := by
  have hx := Z.1
  have hb := Z.2.1
  obtain ⟨r, M1, M2, h6, h7, hR2⟩ := t_deal (xs (i + 1)) M hR
  refine lv_aload_n hx hb zd_531 rfl (lv_at hl 1 rfl) ?_
  refine z_arg (j := 1) Z hl hS hL (by omega) (by decide) za_532 ?_
  refine z_call (As := [.int (xs (i + 1))]) (rest := []) Z hS hP (c_X6_deal g l (xs (i + 1)) M h6) yo_X6_deal kw_406 (z_recv6 Z hP) (by decide) hl.1 rfl rfl (Nat.le_of_ble_eq_true rfl) zd_537 (fun H locs hP hS => ?_)
  refine lv_aload_n hx hb zd_540 rfl (lv_at hl 2 rfl) ?_
  refine z_arg (j := 1) Z hl hS hL (by omega) (by decide) za_541 ?_
  refine z_call (As := [.int (xs (i + 1))]) (rest := [.int r]) Z hS hP (c_X7_deal g l (xs (i + 1)) M1 h7) yo_X7_deal kw_1111 (z_recv7 Z hP) (by decide) hl.1 rfl rfl (Nat.le_of_ble_eq_true rfl) zd_546 (fun H locs hP hS => ?_)
  refine lv_icmp_eq (tgt := 1871) hx hb zd_549 (by decide) (fun _ => ?_) (fun c9 => absurd rfl c9)
  exact kk M2 H locs hR2 hP hS
theorem z_case10 {g : sk_G} {p : Program} {l : Launch} {e : Env} {s : State} {m : MethodId} {below : List Frame} {meth : Method} {c : Code} {b L i : Nat} {xs : Nat → Int32} {H : Heap} {locs : List Loc} {ls : Array Slot} {cells slots : Nat} {Q : State → Prop} {M : sk_M} (Z : z_C g p s m meth c b L xs) (hL : L ≤ 3072) (hi : i + 6 ≤ L) (hl : lv_has ls 4 [(0, .ref b), (1, .ref (sk_ad g 0)), (2, .ref (sk_ad g 88)), (3, .int (nI i))]) (hS : va_S (fun q => s.heap.size ≤ q) s.heap H locs) (hP : sk_P g M H) (hR : r_all M) (hc1 : cells ≤ 600000) (hc2 : slots ≤ 7302250)
    (kk : ∀ (M2 : sk_M) (H2 : Heap) (locs2 : List Loc), r_all M2 → sk_P g M2 H2 → va_S (fun q => s.heap.size ≤ q) s.heap H2 locs2 → W p l e room_1 s m #[Value.ref b] below meth c H2 locs2 cells slots Q (F0 m 1871 ls [])) : W p l e room_1 s m #[Value.ref b] below meth c H locs cells slots Q (F0 m 554 ls []) := by
  have hx := Z.1
  have hb := Z.2.1
  obtain ⟨r, M1, M2, h6, h7, hR2⟩ := t_seed (xs (i + 1)) M hR
  refine lv_aload_n hx hb zd_554 rfl (lv_at hl 1 rfl) ?_
  refine z_arg (j := 1) Z hl hS hL (by omega) (by decide) za_555 ?_
  refine z_call (As := [.int (xs (i + 1))]) (rest := []) Z hS hP (c_X6_seed g l (xs (i + 1)) M h6) yo_X6_seed kw_418 (z_recv6 Z hP) (by decide) hl.1 rfl rfl (Nat.le_of_ble_eq_true rfl) zd_560 (fun H locs hP hS => ?_)
  refine lv_aload_n hx hb zd_563 rfl (lv_at hl 2 rfl) ?_
  refine z_arg (j := 1) Z hl hS hL (by omega) (by decide) za_564 ?_
  refine z_call (As := [.int (xs (i + 1))]) (rest := [.int r]) Z hS hP (c_X7_seed g l (xs (i + 1)) M1 h7) yo_X7_seed kw_1121 (z_recv7 Z hP) (by decide) hl.1 rfl rfl (Nat.le_of_ble_eq_true rfl) zd_569 (fun H locs hP hS => ?_)
  refine lv_icmp_eq (tgt := 1871) hx hb zd_572 (by decide) (fun _ => ?_) (fun c9 => absurd rfl c9)
  exact kk M2 H locs hR2 hP hS
theorem z_case11 {g : sk_G} {p : Program} {l : Launch} {e : Env} {s : State} {m : MethodId} {below : List Frame} {meth : Method} {c : Code} {b L i : Nat} {xs : Nat → Int32} {H : Heap} {locs : List Loc} {ls : Array Slot} {cells slots : Nat} {Q : State → Prop} {M : sk_M} (Z : z_C g p s m meth c b L xs) (hL : L ≤ 3072) (hi : i + 6 ≤ L) (hl : lv_has ls 4 [(0, .ref b), (1, .ref (sk_ad g 0)), (2, .ref (sk_ad g 88)), (3, .int (nI i))]) (hS : va_S (fun q => s.heap.size ≤ q) s.heap H locs) (hP : sk_P g M H) (hR : r_all M) (hc1 : cells ≤ 600000) (hc2 : slots ≤ 7302250)
    (kk : ∀ (M2 : sk_M) (H2 : Heap) (locs2 : List Loc), r_all M2 → sk_P g M2 H2 → va_S (fun q => s.heap.size ≤ q) s.heap H2 locs2 → W p l e room_1 s m #[Value.ref b] below meth c H2 locs2 cells slots Q (F0 m 1871 ls [])) : W p l e room_1 s m #[Value.ref b] below meth c H locs cells slots Q (F0 m 577 ls []) := by
  have hx := Z.1
  have hb := Z.2.1
  obtain ⟨r, M1, M2, h6, h7, hR2⟩ := t_cloth  M hR
  refine lv_aload_n hx hb zd_577 rfl (lv_at hl 1 rfl) ?_
  refine z_call (As := []) (rest := []) Z hS hP (c_X6_cloth g l M h6) yo_X6_cloth kw_422 (z_recv6 Z hP) (by decide) hl.1 rfl rfl (Nat.le_of_ble_eq_true rfl) zd_578 (fun H locs hP hS => ?_)
  refine lv_aload_n hx hb zd_581 rfl (lv_at hl 2 rfl) ?_
  refine z_call (As := []) (rest := [.int r]) Z hS hP (c_X7_cloth g l M1 h7) yo_X7_cloth kw_1125 (z_recv7 Z hP) (by decide) hl.1 rfl rfl (Nat.le_of_ble_eq_true rfl) zd_582 (fun H locs hP hS => ?_)
  refine lv_icmp_eq (tgt := 1871) hx hb zd_585 (by decide) (fun _ => ?_) (fun c9 => absurd rfl c9)
  exact kk M2 H locs hR2 hP hS
theorem z_case12 {g : sk_G} {p : Program} {l : Launch} {e : Env} {s : State} {m : MethodId} {below : List Frame} {meth : Method} {c : Code} {b L i : Nat} {xs : Nat → Int32} {H : Heap} {locs : List Loc} {ls : Array Slot} {cells slots : Nat} {Q : State → Prop} {M : sk_M} (Z : z_C g p s m meth c b L xs) (hL : L ≤ 3072) (hi : i + 6 ≤ L) (hl : lv_has ls 4 [(0, .ref b), (1, .ref (sk_ad g 0)), (2, .ref (sk_ad g 88)), (3, .int (nI i))]) (hS : va_S (fun q => s.heap.size ≤ q) s.heap H locs) (hP : sk_P g M H) (hR : r_all M) (hc1 : cells ≤ 600000) (hc2 : slots ≤ 7302250)
    (kk : ∀ (M2 : sk_M) (H2 : Heap) (locs2 : List Loc), r_all M2 → sk_P g M2 H2 → va_S (fun q => s.heap.size ≤ q) s.heap H2 locs2 → W p l e room_1 s m #[Value.ref b] below meth c H2 locs2 cells slots Q (F0 m 1871 ls [])) : W p l e room_1 s m #[Value.ref b] below meth c H locs cells slots Q (F0 m 590 ls []) := by
  have hx := Z.1
  have hb := Z.2.1
  obtain ⟨r, h6, h7⟩ := t_strength (xs (i + 1)) (xs (i + 2)) M hR
  refine lv_aload_n hx hb zd_590 rfl (lv_at hl 1 rfl) ?_
  refine z_arg (j := 1) Z hl hS hL (by omega) (by decide) za_591 ?_
  refine z_arg (j := 2) Z hl hS hL (by omega) (by decide) za_596 ?_
  refine z_call (As := [.int (xs (i + 1)), .int (xs (i + 2))]) (rest := []) Z hS hP (c_X6_strength g l (xs (i + 1)) (xs (i + 2)) M h6) yo_X6_strength kw_426 (z_recv6 Z hP) (by decide) hl.1 rfl rfl (Nat.le_of_ble_eq_true rfl) zd_601 (fun H locs hP hS => ?_)
  refine lv_aload_n hx hb zd_604 rfl (lv_at hl 2 rfl) ?_
  refine z_arg (j := 1) Z hl hS hL (by omega) (by decide) za_605 ?_
  refine z_arg (j := 2) Z hl hS hL (by omega) (by decide) za_610 ?_
  refine z_call (As := [.int (xs (i + 1)), .int (xs (i + 2))]) (rest := [.int r]) Z hS hP (c_X7_strength g l (xs (i + 1)) (xs (i + 2)) M h7) yo_X7_strength kw_1129 (z_recv7 Z hP) (by decide) hl.1 rfl rfl (Nat.le_of_ble_eq_true rfl) zd_615 (fun H locs hP hS => ?_)
  refine lv_icmp_eq (tgt := 1871) hx hb zd_618 (by decide) (fun _ => ?_) (fun c9 => absurd rfl c9)
  exact kk M H locs hR hP hS
theorem z_case13 {g : sk_G} {p : Program} {l : Launch} {e : Env} {s : State} {m : MethodId} {below : List Frame} {meth : Method} {c : Code} {b L i : Nat} {xs : Nat → Int32} {H : Heap} {locs : List Loc} {ls : Array Slot} {cells slots : Nat} {Q : State → Prop} {M : sk_M} (Z : z_C g p s m meth c b L xs) (hL : L ≤ 3072) (hi : i + 6 ≤ L) (hl : lv_has ls 4 [(0, .ref b), (1, .ref (sk_ad g 0)), (2, .ref (sk_ad g 88)), (3, .int (nI i))]) (hS : va_S (fun q => s.heap.size ≤ q) s.heap H locs) (hP : sk_P g M H) (hR : r_all M) (hc1 : cells ≤ 600000) (hc2 : slots ≤ 7302250)
    (kk : ∀ (M2 : sk_M) (H2 : Heap) (locs2 : List Loc), r_all M2 → sk_P g M2 H2 → va_S (fun q => s.heap.size ≤ q) s.heap H2 locs2 → W p l e room_1 s m #[Value.ref b] below meth c H2 locs2 cells slots Q (F0 m 1871 ls [])) : W p l e room_1 s m #[Value.ref b] below meth c H locs cells slots Q (F0 m 623 ls []) := by
  have hx := Z.1
  have hb := Z.2.1
  obtain ⟨r, M1, M2, h6, h7, hR2⟩ := t_loses (xs (i + 1)) (xs (i + 2)) M hR
  refine lv_aload_n hx hb zd_623 rfl (lv_at hl 1 rfl) ?_
  refine z_arg (j := 1) Z hl hS hL (by omega) (by decide) za_624 ?_
  refine z_arg (j := 2) Z hl hS hL (by omega) (by decide) za_629 ?_
  refine z_call (As := [.int (xs (i + 1)), .int (xs (i + 2))]) (rest := []) Z hS hP (c_X6_loses g l (xs (i + 1)) (xs (i + 2)) M h6) yo_X6_loses kw_438 (z_recv6 Z hP) (by decide) hl.1 rfl rfl (Nat.le_of_ble_eq_true rfl) zd_634 (fun H locs hP hS => ?_)
  refine lv_aload_n hx hb zd_637 rfl (lv_at hl 2 rfl) ?_
  refine z_arg (j := 1) Z hl hS hL (by omega) (by decide) za_638 ?_
  refine z_arg (j := 2) Z hl hS hL (by omega) (by decide) za_643 ?_
  refine z_call (As := [.int (xs (i + 1)), .int (xs (i + 2))]) (rest := [.int r]) Z hS hP (c_X7_loses g l (xs (i + 1)) (xs (i + 2)) M1 h7) yo_X7_loses kw_1141 (z_recv7 Z hP) (by decide) hl.1 rfl rfl (Nat.le_of_ble_eq_true rfl) zd_648 (fun H locs hP hS => ?_)
  refine lv_icmp_eq (tgt := 1871) hx hb zd_651 (by decide) (fun _ => ?_) (fun c9 => absurd rfl c9)
  exact kk M2 H locs hR2 hP hS
theorem z_case14 {g : sk_G} {p : Program} {l : Launch} {e : Env} {s : State} {m : MethodId} {below : List Frame} {meth : Method} {c : Code} {b L i : Nat} {xs : Nat → Int32} {H : Heap} {locs : List Loc} {ls : Array Slot} {cells slots : Nat} {Q : State → Prop} {M : sk_M} (Z : z_C g p s m meth c b L xs) (hL : L ≤ 3072) (hi : i + 6 ≤ L) (hl : lv_has ls 4 [(0, .ref b), (1, .ref (sk_ad g 0)), (2, .ref (sk_ad g 88)), (3, .int (nI i))]) (hS : va_S (fun q => s.heap.size ≤ q) s.heap H locs) (hP : sk_P g M H) (hR : r_all M) (hc1 : cells ≤ 600000) (hc2 : slots ≤ 7302250)
    (kk : ∀ (M2 : sk_M) (H2 : Heap) (locs2 : List Loc), r_all M2 → sk_P g M2 H2 → va_S (fun q => s.heap.size ≤ q) s.heap H2 locs2 → W p l e room_1 s m #[Value.ref b] below meth c H2 locs2 cells slots Q (F0 m 1871 ls [])) : W p l e room_1 s m #[Value.ref b] below meth c H locs cells slots Q (F0 m 656 ls []) := by
  have hx := Z.1
  have hb := Z.2.1
  obtain ⟨r, M1, M2, h6, h7, hR2⟩ := t_dab (xs (i + 1)) (xs (i + 2)) (xs (i + 3)) M hR
  refine lv_aload_n hx hb zd_656 rfl (lv_at hl 1 rfl) ?_
  refine z_arg (j := 1) Z hl hS hL (by omega) (by decide) za_657 ?_
  refine z_arg (j := 2) Z hl hS hL (by omega) (by decide) za_662 ?_
  refine z_arg (j := 3) Z hl hS hL (by omega) (by decide) za_667 ?_
  refine z_call (As := [.int (xs (i + 1)), .int (xs (i + 2)), .int (xs (i + 3))]) (rest := []) Z hS hP (c_X6_dab g l (xs (i + 1)) (xs (i + 2)) (xs (i + 3)) M h6) yo_X6_dab kw_460 (z_recv6 Z hP) (by decide) hl.1 rfl rfl (Nat.le_of_ble_eq_true rfl) zd_672 (fun H locs hP hS => ?_)
  refine lv_aload_n hx hb zd_675 rfl (lv_at hl 2 rfl) ?_
  refine z_arg (j := 1) Z hl hS hL (by omega) (by decide) za_676 ?_
  refine z_arg (j := 2) Z hl hS hL (by omega) (by decide) za_681 ?_
  refine z_arg (j := 3) Z hl hS hL (by omega) (by decide) za_686 ?_
  refine z_call (As := [.int (xs (i + 1)), .int (xs (i + 2)), .int (xs (i + 3))]) (rest := [.int r]) Z hS hP (c_X7_dab g l (xs (i + 1)) (xs (i + 2)) (xs (i + 3)) M1 h7) yo_X7_dab kw_1171 (z_recv7 Z hP) (by decide) hl.1 rfl rfl (Nat.le_of_ble_eq_true rfl) zd_691 (fun H locs hP hS => ?_)
  refine lv_icmp_eq (tgt := 1871) hx hb zd_694 (by decide) (fun _ => ?_) (fun c9 => absurd rfl c9)
  exact kk M2 H locs hR2 hP hS
theorem z_case15 {g : sk_G} {p : Program} {l : Launch} {e : Env} {s : State} {m : MethodId} {below : List Frame} {meth : Method} {c : Code} {b L i : Nat} {xs : Nat → Int32} {H : Heap} {locs : List Loc} {ls : Array Slot} {cells slots : Nat} {Q : State → Prop} {M : sk_M} (Z : z_C g p s m meth c b L xs) (hL : L ≤ 3072) (hi : i + 6 ≤ L) (hl : lv_has ls 4 [(0, .ref b), (1, .ref (sk_ad g 0)), (2, .ref (sk_ad g 88)), (3, .int (nI i))]) (hS : va_S (fun q => s.heap.size ≤ q) s.heap H locs) (hP : sk_P g M H) (hR : r_all M) (hc1 : cells ≤ 600000) (hc2 : slots ≤ 7302250)
    (kk : ∀ (M2 : sk_M) (H2 : Heap) (locs2 : List Loc), r_all M2 → sk_P g M2 H2 → va_S (fun q => s.heap.size ≤ q) s.heap H2 locs2 → W p l e room_1 s m #[Value.ref b] below meth c H2 locs2 cells slots Q (F0 m 1871 ls [])) : W p l e room_1 s m #[Value.ref b] below meth c H locs cells slots Q (F0 m 699 ls []) := by
  have hx := Z.1
  have hb := Z.2.1
  obtain ⟨r, M1, M2, h6, h7, hR2⟩ := t_warm (xs (i + 1)) (xs (i + 2)) M hR
  refine lv_aload_n hx hb zd_699 rfl (lv_at hl 1 rfl) ?_
  refine z_arg (j := 1) Z hl hS hL (by omega) (by decide) za_700 ?_
  refine z_arg (j := 2) Z hl hS hL (by omega) (by decide) za_705 ?_
  refine z_call (As := [.int (xs (i + 1)), .int (xs (i + 2))]) (rest := []) Z hS hP (c_X6_warm g l (xs (i + 1)) (xs (i + 2)) M h6) yo_X6_warm kw_468 (z_recv6 Z hP) (by decide) hl.1 rfl rfl (Nat.le_of_ble_eq_true rfl) zd_710 (fun H locs hP hS => ?_)
  refine lv_aload_n hx hb zd_713 rfl (lv_at hl 2 rfl) ?_
  refine z_arg (j := 1) Z hl hS hL (by omega) (by decide) za_714 ?_
  refine z_arg (j := 2) Z hl hS hL (by omega) (by decide) za_719 ?_
  refine z_call (As := [.int (xs (i + 1)), .int (xs (i + 2))]) (rest := [.int r]) Z hS hP (c_X7_warm g l (xs (i + 1)) (xs (i + 2)) M1 h7) yo_X7_warm kw_1176 (z_recv7 Z hP) (by decide) hl.1 rfl rfl (Nat.le_of_ble_eq_true rfl) zd_724 (fun H locs hP hS => ?_)
  refine lv_icmp_eq (tgt := 1871) hx hb zd_727 (by decide) (fun _ => ?_) (fun c9 => absurd rfl c9)
  exact kk M2 H locs hR2 hP hS
theorem z_case16 {g : sk_G} {p : Program} {l : Launch} {e : Env} {s : State} {m : MethodId} {below : List Frame} {meth : Method} {c : Code} {b L i : Nat} {xs : Nat → Int32} {H : Heap} {locs : List Loc} {ls : Array Slot} {cells slots : Nat} {Q : State → Prop} {M : sk_M} (Z : z_C g p s m meth c b L xs) (hL : L ≤ 3072) (hi : i + 6 ≤ L) (hl : lv_has ls 4 [(0, .ref b), (1, .ref (sk_ad g 0)), (2, .ref (sk_ad g 88)), (3, .int (nI i))]) (hS : va_S (fun q => s.heap.size ≤ q) s.heap H locs) (hP : sk_P g M H) (hR : r_all M) (hc1 : cells ≤ 600000) (hc2 : slots ≤ 7302250)
    (kk : ∀ (M2 : sk_M) (H2 : Heap) (locs2 : List Loc), r_all M2 → sk_P g M2 H2 → va_S (fun q => s.heap.size ≤ q) s.heap H2 locs2 → W p l e room_1 s m #[Value.ref b] below meth c H2 locs2 cells slots Q (F0 m 1871 ls [])) : W p l e room_1 s m #[Value.ref b] below meth c H locs cells slots Q (F0 m 732 ls []) := by
  have hx := Z.1
  have hb := Z.2.1
  obtain ⟨r, M1, M2, h6, h7, hR2⟩ := t_touch (xs (i + 1)) (xs (i + 2)) M hR
  refine lv_aload_n hx hb zd_732 rfl (lv_at hl 1 rfl) ?_
  refine z_arg (j := 1) Z hl hS hL (by omega) (by decide) za_733 ?_
  refine z_arg (j := 2) Z hl hS hL (by omega) (by decide) za_738 ?_
  refine z_call (As := [.int (xs (i + 1)), .int (xs (i + 2))]) (rest := []) Z hS hP (c_X6_touch g l (xs (i + 1)) (xs (i + 2)) M h6) yo_X6_touch kw_472 (z_recv6 Z hP) (by decide) hl.1 rfl rfl (Nat.le_of_ble_eq_true rfl) zd_743 (fun H locs hP hS => ?_)
  refine lv_aload_n hx hb zd_746 rfl (lv_at hl 2 rfl) ?_
  refine z_arg (j := 1) Z hl hS hL (by omega) (by decide) za_747 ?_
  refine z_arg (j := 2) Z hl hS hL (by omega) (by decide) za_752 ?_
  refine z_call (As := [.int (xs (i + 1)), .int (xs (i + 2))]) (rest := [.int r]) Z hS hP (c_X7_touch g l (xs (i + 1)) (xs (i + 2)) M1 h7) yo_X7_touch kw_1180 (z_recv7 Z hP) (by decide) hl.1 rfl rfl (Nat.le_of_ble_eq_true rfl) zd_757 (fun H locs hP hS => ?_)
  refine lv_icmp_eq (tgt := 1871) hx hb zd_760 (by decide) (fun _ => ?_) (fun c9 => absurd rfl c9)
  exact kk M2 H locs hR2 hP hS
theorem z_case17 {g : sk_G} {p : Program} {l : Launch} {e : Env} {s : State} {m : MethodId} {below : List Frame} {meth : Method} {c : Code} {b L i : Nat} {xs : Nat → Int32} {H : Heap} {locs : List Loc} {ls : Array Slot} {cells slots : Nat} {Q : State → Prop} {M : sk_M} (Z : z_C g p s m meth c b L xs) (hL : L ≤ 3072) (hi : i + 6 ≤ L) (hl : lv_has ls 4 [(0, .ref b), (1, .ref (sk_ad g 0)), (2, .ref (sk_ad g 88)), (3, .int (nI i))]) (hS : va_S (fun q => s.heap.size ≤ q) s.heap H locs) (hP : sk_P g M H) (hR : r_all M) (hc1 : cells ≤ 600000) (hc2 : slots ≤ 7302250)
    (kk : ∀ (M2 : sk_M) (H2 : Heap) (locs2 : List Loc), r_all M2 → sk_P g M2 H2 → va_S (fun q => s.heap.size ≤ q) s.heap H2 locs2 → W p l e room_1 s m #[Value.ref b] below meth c H2 locs2 cells slots Q (F0 m 1871 ls [])) : W p l e room_1 s m #[Value.ref b] below meth c H locs cells slots Q (F0 m 765 ls []) := by
  have hx := Z.1
  have hb := Z.2.1
  obtain ⟨r, M1, M2, h6, h7, hR2⟩ := t_days (xs (i + 1)) M hR
  refine lv_aload_n hx hb zd_765 rfl (lv_at hl 1 rfl) ?_
  refine z_arg (j := 1) Z hl hS hL (by omega) (by decide) za_766 ?_
  refine z_call (As := [.int (xs (i + 1))]) (rest := []) Z hS hP (c_X6_days g l (xs (i + 1)) M h6) yo_X6_days kw_480 (z_recv6 Z hP) (by decide) hl.1 rfl rfl (Nat.le_of_ble_eq_true rfl) zd_771 (fun H locs hP hS => ?_)
  refine lv_aload_n hx hb zd_774 rfl (lv_at hl 2 rfl) ?_
  refine z_arg (j := 1) Z hl hS hL (by omega) (by decide) za_775 ?_
  refine z_call (As := [.int (xs (i + 1))]) (rest := [.int r]) Z hS hP (c_X7_days g l (xs (i + 1)) M1 h7) yo_X7_days kw_1184 (z_recv7 Z hP) (by decide) hl.1 rfl rfl (Nat.le_of_ble_eq_true rfl) zd_780 (fun H locs hP hS => ?_)
  refine lv_icmp_eq (tgt := 1871) hx hb zd_783 (by decide) (fun _ => ?_) (fun c9 => absurd rfl c9)
  exact kk M2 H locs hR2 hP hS
theorem z_case18 {g : sk_G} {p : Program} {l : Launch} {e : Env} {s : State} {m : MethodId} {below : List Frame} {meth : Method} {c : Code} {b L i : Nat} {xs : Nat → Int32} {H : Heap} {locs : List Loc} {ls : Array Slot} {cells slots : Nat} {Q : State → Prop} {M : sk_M} (Z : z_C g p s m meth c b L xs) (hL : L ≤ 3072) (hi : i + 6 ≤ L) (hl : lv_has ls 4 [(0, .ref b), (1, .ref (sk_ad g 0)), (2, .ref (sk_ad g 88)), (3, .int (nI i))]) (hS : va_S (fun q => s.heap.size ≤ q) s.heap H locs) (hP : sk_P g M H) (hR : r_all M) (hc1 : cells ≤ 600000) (hc2 : slots ≤ 7302250)
    (kk : ∀ (M2 : sk_M) (H2 : Heap) (locs2 : List Loc), r_all M2 → sk_P g M2 H2 → va_S (fun q => s.heap.size ≤ q) s.heap H2 locs2 → W p l e room_1 s m #[Value.ref b] below meth c H2 locs2 cells slots Q (F0 m 1871 ls [])) : W p l e room_1 s m #[Value.ref b] below meth c H locs cells slots Q (F0 m 788 ls []) := by
  have hx := Z.1
  have hb := Z.2.1
  obtain ⟨r, h6, h7⟩ := t_smells (xs (i + 1)) (xs (i + 2)) M hR
  refine lv_aload_n hx hb zd_788 rfl (lv_at hl 1 rfl) ?_
  refine z_arg (j := 1) Z hl hS hL (by omega) (by decide) za_789 ?_
  refine z_arg (j := 2) Z hl hS hL (by omega) (by decide) za_794 ?_
  refine z_call (As := [.int (xs (i + 1)), .int (xs (i + 2))]) (rest := []) Z hS hP (c_X6_smells g l (xs (i + 1)) (xs (i + 2)) M h6) yo_X6_smells kw_493 (z_recv6 Z hP) (by decide) hl.1 rfl rfl (Nat.le_of_ble_eq_true rfl) zd_799 (fun H locs hP hS => ?_)
  refine lv_aload_n hx hb zd_802 rfl (lv_at hl 2 rfl) ?_
  refine z_arg (j := 1) Z hl hS hL (by omega) (by decide) za_803 ?_
  refine z_arg (j := 2) Z hl hS hL (by omega) (by decide) za_808 ?_
  refine z_call (As := [.int (xs (i + 1)), .int (xs (i + 2))]) (rest := [.int r]) Z hS hP (c_X7_smells g l (xs (i + 1)) (xs (i + 2)) M h7) yo_X7_smells kw_1193 (z_recv7 Z hP) (by decide) hl.1 rfl rfl (Nat.le_of_ble_eq_true rfl) zd_813 (fun H locs hP hS => ?_)
  refine lv_icmp_eq (tgt := 1871) hx hb zd_816 (by decide) (fun _ => ?_) (fun c9 => absurd rfl c9)
  exact kk M H locs hR hP hS
theorem z_case19 {g : sk_G} {p : Program} {l : Launch} {e : Env} {s : State} {m : MethodId} {below : List Frame} {meth : Method} {c : Code} {b L i : Nat} {xs : Nat → Int32} {H : Heap} {locs : List Loc} {ls : Array Slot} {cells slots : Nat} {Q : State → Prop} {M : sk_M} (Z : z_C g p s m meth c b L xs) (hL : L ≤ 3072) (hi : i + 6 ≤ L) (hl : lv_has ls 4 [(0, .ref b), (1, .ref (sk_ad g 0)), (2, .ref (sk_ad g 88)), (3, .int (nI i))]) (hS : va_S (fun q => s.heap.size ≤ q) s.heap H locs) (hP : sk_P g M H) (hR : r_all M) (hc1 : cells ≤ 600000) (hc2 : slots ≤ 7302250)
    (kk : ∀ (M2 : sk_M) (H2 : Heap) (locs2 : List Loc), r_all M2 → sk_P g M2 H2 → va_S (fun q => s.heap.size ≤ q) s.heap H2 locs2 → W p l e room_1 s m #[Value.ref b] below meth c H2 locs2 cells slots Q (F0 m 1871 ls [])) : W p l e room_1 s m #[Value.ref b] below meth c H locs cells slots Q (F0 m 821 ls []) := by
  have hx := Z.1
  have hb := Z.2.1
  obtain ⟨r, h6, h7⟩ := t_says (xs (i + 1)) (xs (i + 2)) M hR
  refine lv_aload_n hx hb zd_821 rfl (lv_at hl 1 rfl) ?_
  refine z_arg (j := 1) Z hl hS hL (by omega) (by decide) za_822 ?_
  refine z_arg (j := 2) Z hl hS hL (by omega) (by decide) za_827 ?_
  refine z_call (As := [.int (xs (i + 1)), .int (xs (i + 2))]) (rest := []) Z hS hP (c_X6_says g l (xs (i + 1)) (xs (i + 2)) M h6) yo_X6_says kw_505 (z_recv6 Z hP) (by decide) hl.1 rfl rfl (Nat.le_of_ble_eq_true rfl) zd_832 (fun H locs hP hS => ?_)
  refine lv_aload_n hx hb zd_835 rfl (lv_at hl 2 rfl) ?_
  refine z_arg (j := 1) Z hl hS hL (by omega) (by decide) za_836 ?_
  refine z_arg (j := 2) Z hl hS hL (by omega) (by decide) za_841 ?_
  refine z_call (As := [.int (xs (i + 1)), .int (xs (i + 2))]) (rest := [.int r]) Z hS hP (c_X7_says g l (xs (i + 1)) (xs (i + 2)) M h7) yo_X7_says kw_1201 (z_recv7 Z hP) (by decide) hl.1 rfl rfl (Nat.le_of_ble_eq_true rfl) zd_846 (fun H locs hP hS => ?_)
  refine lv_icmp_eq (tgt := 1871) hx hb zd_849 (by decide) (fun _ => ?_) (fun c9 => absurd rfl c9)
  exact kk M H locs hR hP hS
theorem z_case20 {g : sk_G} {p : Program} {l : Launch} {e : Env} {s : State} {m : MethodId} {below : List Frame} {meth : Method} {c : Code} {b L i : Nat} {xs : Nat → Int32} {H : Heap} {locs : List Loc} {ls : Array Slot} {cells slots : Nat} {Q : State → Prop} {M : sk_M} (Z : z_C g p s m meth c b L xs) (hL : L ≤ 3072) (hi : i + 6 ≤ L) (hl : lv_has ls 4 [(0, .ref b), (1, .ref (sk_ad g 0)), (2, .ref (sk_ad g 88)), (3, .int (nI i))]) (hS : va_S (fun q => s.heap.size ≤ q) s.heap H locs) (hP : sk_P g M H) (hR : r_all M) (hc1 : cells ≤ 600000) (hc2 : slots ≤ 7302250)
    (kk : ∀ (M2 : sk_M) (H2 : Heap) (locs2 : List Loc), r_all M2 → sk_P g M2 H2 → va_S (fun q => s.heap.size ≤ q) s.heap H2 locs2 → W p l e room_1 s m #[Value.ref b] below meth c H2 locs2 cells slots Q (F0 m 1871 ls [])) : W p l e room_1 s m #[Value.ref b] below meth c H locs cells slots Q (F0 m 854 ls []) := by
  have hx := Z.1
  have hb := Z.2.1
  obtain ⟨r, M1, M2, h6, h7, hR2⟩ := t_behind (xs (i + 1)) (xs (i + 2)) (xs (i + 3)) M hR
  refine lv_aload_n hx hb zd_854 rfl (lv_at hl 1 rfl) ?_
  refine z_arg (j := 1) Z hl hS hL (by omega) (by decide) za_855 ?_
  refine z_arg (j := 2) Z hl hS hL (by omega) (by decide) za_860 ?_
  refine z_arg (j := 3) Z hl hS hL (by omega) (by decide) za_865 ?_
  refine z_call (As := [.int (xs (i + 1)), .int (xs (i + 2)), .int (xs (i + 3))]) (rest := []) Z hS hP (c_X6_behind g l (xs (i + 1)) (xs (i + 2)) (xs (i + 3)) M h6) yo_X6_behind kw_514 (z_recv6 Z hP) (by decide) hl.1 rfl rfl (Nat.le_of_ble_eq_true rfl) zd_870 (fun H locs hP hS => ?_)
  refine lv_aload_n hx hb zd_873 rfl (lv_at hl 2 rfl) ?_
  refine z_arg (j := 1) Z hl hS hL (by omega) (by decide) za_874 ?_
  refine z_arg (j := 2) Z hl hS hL (by omega) (by decide) za_879 ?_
  refine z_arg (j := 3) Z hl hS hL (by omega) (by decide) za_884 ?_
  refine z_call (As := [.int (xs (i + 1)), .int (xs (i + 2)), .int (xs (i + 3))]) (rest := [.int r]) Z hS hP (c_X7_behind g l (xs (i + 1)) (xs (i + 2)) (xs (i + 3)) M1 h7) yo_X7_behind kw_1213 (z_recv7 Z hP) (by decide) hl.1 rfl rfl (Nat.le_of_ble_eq_true rfl) zd_889 (fun H locs hP hS => ?_)
  refine lv_icmp_eq (tgt := 1871) hx hb zd_892 (by decide) (fun _ => ?_) (fun c9 => absurd rfl c9)
  exact kk M2 H locs hR2 hP hS
theorem z_case21 {g : sk_G} {p : Program} {l : Launch} {e : Env} {s : State} {m : MethodId} {below : List Frame} {meth : Method} {c : Code} {b L i : Nat} {xs : Nat → Int32} {H : Heap} {locs : List Loc} {ls : Array Slot} {cells slots : Nat} {Q : State → Prop} {M : sk_M} (Z : z_C g p s m meth c b L xs) (hL : L ≤ 3072) (hi : i + 6 ≤ L) (hl : lv_has ls 4 [(0, .ref b), (1, .ref (sk_ad g 0)), (2, .ref (sk_ad g 88)), (3, .int (nI i))]) (hS : va_S (fun q => s.heap.size ≤ q) s.heap H locs) (hP : sk_P g M H) (hR : r_all M) (hc1 : cells ≤ 600000) (hc2 : slots ≤ 7302250)
    (kk : ∀ (M2 : sk_M) (H2 : Heap) (locs2 : List Loc), r_all M2 → sk_P g M2 H2 → va_S (fun q => s.heap.size ≤ q) s.heap H2 locs2 → W p l e room_1 s m #[Value.ref b] below meth c H2 locs2 cells slots Q (F0 m 1871 ls [])) : W p l e room_1 s m #[Value.ref b] below meth c H locs cells slots Q (F0 m 897 ls []) := by
  have hx := Z.1
  have hb := Z.2.1
  obtain ⟨r, M1, M2, h6, h7, hR2⟩ := t_first (xs (i + 1)) (xs (i + 2)) (xs (i + 3)) M hR
  refine lv_aload_n hx hb zd_897 rfl (lv_at hl 1 rfl) ?_
  refine z_arg (j := 1) Z hl hS hL (by omega) (by decide) za_898 ?_
  refine z_arg (j := 2) Z hl hS hL (by omega) (by decide) za_903 ?_
  refine z_arg (j := 3) Z hl hS hL (by omega) (by decide) za_908 ?_
  refine z_call (As := [.int (xs (i + 1)), .int (xs (i + 2)), .int (xs (i + 3))]) (rest := []) Z hS hP (c_X6_first g l (xs (i + 1)) (xs (i + 2)) (xs (i + 3)) M h6) yo_X6_first kw_539 (z_recv6 Z hP) (by decide) hl.1 rfl rfl (Nat.le_of_ble_eq_true rfl) zd_913 (fun H locs hP hS => ?_)
  refine lv_aload_n hx hb zd_916 rfl (lv_at hl 2 rfl) ?_
  refine z_arg (j := 1) Z hl hS hL (by omega) (by decide) za_917 ?_
  refine z_arg (j := 2) Z hl hS hL (by omega) (by decide) za_922 ?_
  refine z_arg (j := 3) Z hl hS hL (by omega) (by decide) za_927 ?_
  refine z_call (As := [.int (xs (i + 1)), .int (xs (i + 2)), .int (xs (i + 3))]) (rest := [.int r]) Z hS hP (c_X7_first g l (xs (i + 1)) (xs (i + 2)) (xs (i + 3)) M1 h7) yo_X7_first kw_1230 (z_recv7 Z hP) (by decide) hl.1 rfl rfl (Nat.le_of_ble_eq_true rfl) zd_932 (fun H locs hP hS => ?_)
  refine lv_icmp_eq (tgt := 1871) hx hb zd_935 (by decide) (fun _ => ?_) (fun c9 => absurd rfl c9)
  exact kk M2 H locs hR2 hP hS
theorem z_case22 {g : sk_G} {p : Program} {l : Launch} {e : Env} {s : State} {m : MethodId} {below : List Frame} {meth : Method} {c : Code} {b L i : Nat} {xs : Nat → Int32} {H : Heap} {locs : List Loc} {ls : Array Slot} {cells slots : Nat} {Q : State → Prop} {M : sk_M} (Z : z_C g p s m meth c b L xs) (hL : L ≤ 3072) (hi : i + 6 ≤ L) (hl : lv_has ls 4 [(0, .ref b), (1, .ref (sk_ad g 0)), (2, .ref (sk_ad g 88)), (3, .int (nI i))]) (hS : va_S (fun q => s.heap.size ≤ q) s.heap H locs) (hP : sk_P g M H) (hR : r_all M) (hc1 : cells ≤ 600000) (hc2 : slots ≤ 7302250)
    (kk : ∀ (M2 : sk_M) (H2 : Heap) (locs2 : List Loc), r_all M2 → sk_P g M2 H2 → va_S (fun q => s.heap.size ≤ q) s.heap H2 locs2 → W p l e room_1 s m #[Value.ref b] below meth c H2 locs2 cells slots Q (F0 m 1871 ls [])) : W p l e room_1 s m #[Value.ref b] below meth c H locs cells slots Q (F0 m 940 ls []) := by
  have hx := Z.1
  have hb := Z.2.1
  obtain ⟨r, M1, M2, h6, h7, hR2⟩ := t_lasts (xs (i + 1)) (xs (i + 2)) (xs (i + 3)) (xs (i + 4)) M hR
  refine lv_aload_n hx hb zd_940 rfl (lv_at hl 1 rfl) ?_
  refine z_arg (j := 1) Z hl hS hL (by omega) (by decide) za_941 ?_
  refine z_arg (j := 2) Z hl hS hL (by omega) (by decide) za_946 ?_
  refine z_arg (j := 3) Z hl hS hL (by omega) (by decide) za_951 ?_
  refine z_arg (j := 4) Z hl hS hL (by omega) (by decide) za_956 ?_
  refine z_call (As := [.int (xs (i + 1)), .int (xs (i + 2)), .int (xs (i + 3)), .int (xs (i + 4))]) (rest := []) Z hS hP (c_X6_lasts g l (xs (i + 1)) (xs (i + 2)) (xs (i + 3)) (xs (i + 4)) M h6) yo_X6_lasts kw_545 (z_recv6 Z hP) (by decide) hl.1 rfl rfl (Nat.le_of_ble_eq_true rfl) zd_961 (fun H locs hP hS => ?_)
  refine lv_aload_n hx hb zd_964 rfl (lv_at hl 2 rfl) ?_
  refine z_arg (j := 1) Z hl hS hL (by omega) (by decide) za_965 ?_
  refine z_arg (j := 2) Z hl hS hL (by omega) (by decide) za_970 ?_
  refine z_arg (j := 3) Z hl hS hL (by omega) (by decide) za_975 ?_
  refine z_arg (j := 4) Z hl hS hL (by omega) (by decide) za_980 ?_
  refine z_call (As := [.int (xs (i + 1)), .int (xs (i + 2)), .int (xs (i + 3)), .int (xs (i + 4))]) (rest := [.int r]) Z hS hP (c_X7_lasts g l (xs (i + 1)) (xs (i + 2)) (xs (i + 3)) (xs (i + 4)) M1 h7) yo_X7_lasts kw_1234 (z_recv7 Z hP) (by decide) hl.1 rfl rfl (Nat.le_of_ble_eq_true rfl) zd_985 (fun H locs hP hS => ?_)
  refine lv_icmp_eq (tgt := 1871) hx hb zd_988 (by decide) (fun _ => ?_) (fun c9 => absurd rfl c9)
  exact kk M2 H locs hR2 hP hS
theorem z_case23 {g : sk_G} {p : Program} {l : Launch} {e : Env} {s : State} {m : MethodId} {below : List Frame} {meth : Method} {c : Code} {b L i : Nat} {xs : Nat → Int32} {H : Heap} {locs : List Loc} {ls : Array Slot} {cells slots : Nat} {Q : State → Prop} {M : sk_M} (Z : z_C g p s m meth c b L xs) (hL : L ≤ 3072) (hi : i + 6 ≤ L) (hl : lv_has ls 4 [(0, .ref b), (1, .ref (sk_ad g 0)), (2, .ref (sk_ad g 88)), (3, .int (nI i))]) (hS : va_S (fun q => s.heap.size ≤ q) s.heap H locs) (hP : sk_P g M H) (hR : r_all M) (hc1 : cells ≤ 600000) (hc2 : slots ≤ 7302250)
    (kk : ∀ (M2 : sk_M) (H2 : Heap) (locs2 : List Loc), r_all M2 → sk_P g M2 H2 → va_S (fun q => s.heap.size ≤ q) s.heap H2 locs2 → W p l e room_1 s m #[Value.ref b] below meth c H2 locs2 cells slots Q (F0 m 1871 ls [])) : W p l e room_1 s m #[Value.ref b] below meth c H locs cells slots Q (F0 m 993 ls []) := by
  have hx := Z.1
  have hb := Z.2.1
  obtain ⟨r, M1, M2, h6, h7, hR2⟩ := t_whispers (xs (i + 1)) (xs (i + 2)) (xs (i + 3)) M hR
  refine lv_aload_n hx hb zd_993 rfl (lv_at hl 1 rfl) ?_
  refine z_arg (j := 1) Z hl hS hL (by omega) (by decide) za_994 ?_
  refine z_arg (j := 2) Z hl hS hL (by omega) (by decide) za_999 ?_
  refine z_arg (j := 3) Z hl hS hL (by omega) (by decide) za_1004 ?_
  refine z_call (As := [.int (xs (i + 1)), .int (xs (i + 2)), .int (xs (i + 3))]) (rest := []) Z hS hP (c_X6_whispers g l (xs (i + 1)) (xs (i + 2)) (xs (i + 3)) M h6) yo_X6_whispers kw_549 (z_recv6 Z hP) (by decide) hl.1 rfl rfl (Nat.le_of_ble_eq_true rfl) zd_1009 (fun H locs hP hS => ?_)
  refine lv_aload_n hx hb zd_1012 rfl (lv_at hl 2 rfl) ?_
  refine z_arg (j := 1) Z hl hS hL (by omega) (by decide) za_1013 ?_
  refine z_arg (j := 2) Z hl hS hL (by omega) (by decide) za_1018 ?_
  refine z_arg (j := 3) Z hl hS hL (by omega) (by decide) za_1023 ?_
  refine z_call (As := [.int (xs (i + 1)), .int (xs (i + 2)), .int (xs (i + 3))]) (rest := [.int r]) Z hS hP (c_X7_whispers g l (xs (i + 1)) (xs (i + 2)) (xs (i + 3)) M1 h7) yo_X7_whispers kw_1239 (z_recv7 Z hP) (by decide) hl.1 rfl rfl (Nat.le_of_ble_eq_true rfl) zd_1028 (fun H locs hP hS => ?_)
  refine lv_icmp_eq (tgt := 1871) hx hb zd_1031 (by decide) (fun _ => ?_) (fun c9 => absurd rfl c9)
  exact kk M2 H locs hR2 hP hS
theorem z_case24 {g : sk_G} {p : Program} {l : Launch} {e : Env} {s : State} {m : MethodId} {below : List Frame} {meth : Method} {c : Code} {b L i : Nat} {xs : Nat → Int32} {H : Heap} {locs : List Loc} {ls : Array Slot} {cells slots : Nat} {Q : State → Prop} {M : sk_M} (Z : z_C g p s m meth c b L xs) (hL : L ≤ 3072) (hi : i + 6 ≤ L) (hl : lv_has ls 4 [(0, .ref b), (1, .ref (sk_ad g 0)), (2, .ref (sk_ad g 88)), (3, .int (nI i))]) (hS : va_S (fun q => s.heap.size ≤ q) s.heap H locs) (hP : sk_P g M H) (hR : r_all M) (hc1 : cells ≤ 600000) (hc2 : slots ≤ 7302250)
    (kk : ∀ (M2 : sk_M) (H2 : Heap) (locs2 : List Loc), r_all M2 → sk_P g M2 H2 → va_S (fun q => s.heap.size ≤ q) s.heap H2 locs2 → W p l e room_1 s m #[Value.ref b] below meth c H2 locs2 cells slots Q (F0 m 1871 ls [])) : W p l e room_1 s m #[Value.ref b] below meth c H locs cells slots Q (F0 m 1036 ls []) := by
  have hx := Z.1
  have hb := Z.2.1
  obtain ⟨r, M1, M2, h6, h7, hR2⟩ := t_dumb (xs (i + 1)) (xs (i + 2)) M hR
  refine lv_aload_n hx hb zd_1036 rfl (lv_at hl 1 rfl) ?_
  refine z_arg (j := 1) Z hl hS hL (by omega) (by decide) za_1037 ?_
  refine z_arg (j := 2) Z hl hS hL (by omega) (by decide) za_1042 ?_
  refine z_call (As := [.int (xs (i + 1)), .int (xs (i + 2))]) (rest := []) Z hS hP (c_X6_dumb g l (xs (i + 1)) (xs (i + 2)) M h6) yo_X6_dumb kw_559 (z_recv6 Z hP) (by decide) hl.1 rfl rfl (Nat.le_of_ble_eq_true rfl) zd_1047 (fun H locs hP hS => ?_)
  refine lv_aload_n hx hb zd_1050 rfl (lv_at hl 2 rfl) ?_
  refine z_arg (j := 1) Z hl hS hL (by omega) (by decide) za_1051 ?_
  refine z_arg (j := 2) Z hl hS hL (by omega) (by decide) za_1056 ?_
  refine z_call (As := [.int (xs (i + 1)), .int (xs (i + 2))]) (rest := [.int r]) Z hS hP (c_X7_dumb g l (xs (i + 1)) (xs (i + 2)) M1 h7) yo_X7_dumb kw_1246 (z_recv7 Z hP) (by decide) hl.1 rfl rfl (Nat.le_of_ble_eq_true rfl) zd_1061 (fun H locs hP hS => ?_)
  refine lv_icmp_eq (tgt := 1871) hx hb zd_1064 (by decide) (fun _ => ?_) (fun c9 => absurd rfl c9)
  exact kk M2 H locs hR2 hP hS
theorem z_case25 {g : sk_G} {p : Program} {l : Launch} {e : Env} {s : State} {m : MethodId} {below : List Frame} {meth : Method} {c : Code} {b L i : Nat} {xs : Nat → Int32} {H : Heap} {locs : List Loc} {ls : Array Slot} {cells slots : Nat} {Q : State → Prop} {M : sk_M} (Z : z_C g p s m meth c b L xs) (hL : L ≤ 3072) (hi : i + 6 ≤ L) (hl : lv_has ls 4 [(0, .ref b), (1, .ref (sk_ad g 0)), (2, .ref (sk_ad g 88)), (3, .int (nI i))]) (hS : va_S (fun q => s.heap.size ≤ q) s.heap H locs) (hP : sk_P g M H) (hR : r_all M) (hc1 : cells ≤ 600000) (hc2 : slots ≤ 7302250)
    (kk : ∀ (M2 : sk_M) (H2 : Heap) (locs2 : List Loc), r_all M2 → sk_P g M2 H2 → va_S (fun q => s.heap.size ≤ q) s.heap H2 locs2 → W p l e room_1 s m #[Value.ref b] below meth c H2 locs2 cells slots Q (F0 m 1871 ls [])) : W p l e room_1 s m #[Value.ref b] below meth c H locs cells slots Q (F0 m 1069 ls []) := by
  have hx := Z.1
  have hb := Z.2.1
  obtain ⟨r, M1, M2, h6, h7, hR2⟩ := t_secret (xs (i + 1)) (xs (i + 2)) M hR
  refine lv_aload_n hx hb zd_1069 rfl (lv_at hl 1 rfl) ?_
  refine z_arg (j := 1) Z hl hS hL (by omega) (by decide) za_1070 ?_
  refine z_arg (j := 2) Z hl hS hL (by omega) (by decide) za_1075 ?_
  refine z_call (As := [.int (xs (i + 1)), .int (xs (i + 2))]) (rest := []) Z hS hP (c_X6_secret g l (xs (i + 1)) (xs (i + 2)) M h6) yo_X6_secret kw_568 (z_recv6 Z hP) (by decide) hl.1 rfl rfl (Nat.le_of_ble_eq_true rfl) zd_1080 (fun H locs hP hS => ?_)
  refine lv_aload_n hx hb zd_1083 rfl (lv_at hl 2 rfl) ?_
  refine z_arg (j := 1) Z hl hS hL (by omega) (by decide) za_1084 ?_
  refine z_arg (j := 2) Z hl hS hL (by omega) (by decide) za_1089 ?_
  refine z_call (As := [.int (xs (i + 1)), .int (xs (i + 2))]) (rest := [.int r]) Z hS hP (c_X7_secret g l (xs (i + 1)) (xs (i + 2)) M1 h7) yo_X7_secret kw_1250 (z_recv7 Z hP) (by decide) hl.1 rfl rfl (Nat.le_of_ble_eq_true rfl) zd_1094 (fun H locs hP hS => ?_)
  refine lv_icmp_eq (tgt := 1871) hx hb zd_1097 (by decide) (fun _ => ?_) (fun c9 => absurd rfl c9)
  exact kk M2 H locs hR2 hP hS
theorem z_case26 {g : sk_G} {p : Program} {l : Launch} {e : Env} {s : State} {m : MethodId} {below : List Frame} {meth : Method} {c : Code} {b L i : Nat} {xs : Nat → Int32} {H : Heap} {locs : List Loc} {ls : Array Slot} {cells slots : Nat} {Q : State → Prop} {M : sk_M} (Z : z_C g p s m meth c b L xs) (hL : L ≤ 3072) (hi : i + 6 ≤ L) (hl : lv_has ls 4 [(0, .ref b), (1, .ref (sk_ad g 0)), (2, .ref (sk_ad g 88)), (3, .int (nI i))]) (hS : va_S (fun q => s.heap.size ≤ q) s.heap H locs) (hP : sk_P g M H) (hR : r_all M) (hc1 : cells ≤ 600000) (hc2 : slots ≤ 7302250)
    (kk : ∀ (M2 : sk_M) (H2 : Heap) (locs2 : List Loc), r_all M2 → sk_P g M2 H2 → va_S (fun q => s.heap.size ≤ q) s.heap H2 locs2 → W p l e room_1 s m #[Value.ref b] below meth c H2 locs2 cells slots Q (F0 m 1871 ls [])) : W p l e room_1 s m #[Value.ref b] below meth c H locs cells slots Q (F0 m 1102 ls []) := by
  have hx := Z.1
  have hb := Z.2.1
  obtain ⟨r, M1, M2, h6, h7, hR2⟩ := t_least (xs (i + 1)) (xs (i + 2)) (xs (i + 3)) (xs (i + 4)) M hR
  refine lv_aload_n hx hb zd_1102 rfl (lv_at hl 1 rfl) ?_
  refine z_arg (j := 1) Z hl hS hL (by omega) (by decide) za_1103 ?_
  refine z_arg (j := 2) Z hl hS hL (by omega) (by decide) za_1108 ?_
  refine z_arg (j := 3) Z hl hS hL (by omega) (by decide) za_1113 ?_
  refine z_arg (j := 4) Z hl hS hL (by omega) (by decide) za_1118 ?_
  refine z_call (As := [.int (xs (i + 1)), .int (xs (i + 2)), .int (xs (i + 3)), .int (xs (i + 4))]) (rest := []) Z hS hP (c_X6_least g l (xs (i + 1)) (xs (i + 2)) (xs (i + 3)) (xs (i + 4)) M h6) yo_X6_least kw_572 (z_recv6 Z hP) (by decide) hl.1 rfl rfl (Nat.le_of_ble_eq_true rfl) zd_1123 (fun H locs hP hS => ?_)
  refine lv_aload_n hx hb zd_1126 rfl (lv_at hl 2 rfl) ?_
  refine z_arg (j := 1) Z hl hS hL (by omega) (by decide) za_1127 ?_
  refine z_arg (j := 2) Z hl hS hL (by omega) (by decide) za_1132 ?_
  refine z_arg (j := 3) Z hl hS hL (by omega) (by decide) za_1137 ?_
  refine z_arg (j := 4) Z hl hS hL (by omega) (by decide) za_1142 ?_
  refine z_call (As := [.int (xs (i + 1)), .int (xs (i + 2)), .int (xs (i + 3)), .int (xs (i + 4))]) (rest := [.int r]) Z hS hP (c_X7_least g l (xs (i + 1)) (xs (i + 2)) (xs (i + 3)) (xs (i + 4)) M1 h7) yo_X7_least kw_1254 (z_recv7 Z hP) (by decide) hl.1 rfl rfl (Nat.le_of_ble_eq_true rfl) zd_1147 (fun H locs hP hS => ?_)
  refine lv_icmp_eq (tgt := 1871) hx hb zd_1150 (by decide) (fun _ => ?_) (fun c9 => absurd rfl c9)
  exact kk M2 H locs hR2 hP hS
theorem z_case27 {g : sk_G} {p : Program} {l : Launch} {e : Env} {s : State} {m : MethodId} {below : List Frame} {meth : Method} {c : Code} {b L i : Nat} {xs : Nat → Int32} {H : Heap} {locs : List Loc} {ls : Array Slot} {cells slots : Nat} {Q : State → Prop} {M : sk_M} (Z : z_C g p s m meth c b L xs) (hL : L ≤ 3072) (hi : i + 6 ≤ L) (hl : lv_has ls 4 [(0, .ref b), (1, .ref (sk_ad g 0)), (2, .ref (sk_ad g 88)), (3, .int (nI i))]) (hS : va_S (fun q => s.heap.size ≤ q) s.heap H locs) (hP : sk_P g M H) (hR : r_all M) (hc1 : cells ≤ 600000) (hc2 : slots ≤ 7302250)
    (kk : ∀ (M2 : sk_M) (H2 : Heap) (locs2 : List Loc), r_all M2 → sk_P g M2 H2 → va_S (fun q => s.heap.size ≤ q) s.heap H2 locs2 → W p l e room_1 s m #[Value.ref b] below meth c H2 locs2 cells slots Q (F0 m 1871 ls [])) : W p l e room_1 s m #[Value.ref b] below meth c H locs cells slots Q (F0 m 1155 ls []) := by
  have hx := Z.1
  have hb := Z.2.1
  obtain ⟨r, M1, M2, h6, h7, hR2⟩ := t_letter (xs (i + 1)) (xs (i + 2)) (xs (i + 3)) (xs (i + 4)) M hR
  refine lv_aload_n hx hb zd_1155 rfl (lv_at hl 1 rfl) ?_
  refine z_arg (j := 1) Z hl hS hL (by omega) (by decide) za_1156 ?_
  refine z_arg (j := 2) Z hl hS hL (by omega) (by decide) za_1161 ?_
  refine z_arg (j := 3) Z hl hS hL (by omega) (by decide) za_1166 ?_
  refine z_arg (j := 4) Z hl hS hL (by omega) (by decide) za_1171 ?_
  refine z_call (As := [.int (xs (i + 1)), .int (xs (i + 2)), .int (xs (i + 3)), .int (xs (i + 4))]) (rest := []) Z hS hP (c_X6_letter g l (xs (i + 1)) (xs (i + 2)) (xs (i + 3)) (xs (i + 4)) M h6) yo_X6_letter kw_584 (z_recv6 Z hP) (by decide) hl.1 rfl rfl (Nat.le_of_ble_eq_true rfl) zd_1176 (fun H locs hP hS => ?_)
  refine lv_aload_n hx hb zd_1179 rfl (lv_at hl 2 rfl) ?_
  refine z_arg (j := 1) Z hl hS hL (by omega) (by decide) za_1180 ?_
  refine z_arg (j := 2) Z hl hS hL (by omega) (by decide) za_1185 ?_
  refine z_arg (j := 3) Z hl hS hL (by omega) (by decide) za_1190 ?_
  refine z_arg (j := 4) Z hl hS hL (by omega) (by decide) za_1195 ?_
  refine z_call (As := [.int (xs (i + 1)), .int (xs (i + 2)), .int (xs (i + 3)), .int (xs (i + 4))]) (rest := [.int r]) Z hS hP (c_X7_letter g l (xs (i + 1)) (xs (i + 2)) (xs (i + 3)) (xs (i + 4)) M1 h7) yo_X7_letter kw_1267 (z_recv7 Z hP) (by decide) hl.1 rfl rfl (Nat.le_of_ble_eq_true rfl) zd_1200 (fun H locs hP hS => ?_)
  refine lv_icmp_eq (tgt := 1871) hx hb zd_1203 (by decide) (fun _ => ?_) (fun c9 => absurd rfl c9)
  exact kk M2 H locs hR2 hP hS
theorem z_case28 {g : sk_G} {p : Program} {l : Launch} {e : Env} {s : State} {m : MethodId} {below : List Frame} {meth : Method} {c : Code} {b L i : Nat} {xs : Nat → Int32} {H : Heap} {locs : List Loc} {ls : Array Slot} {cells slots : Nat} {Q : State → Prop} {M : sk_M} (Z : z_C g p s m meth c b L xs) (hL : L ≤ 3072) (hi : i + 6 ≤ L) (hl : lv_has ls 4 [(0, .ref b), (1, .ref (sk_ad g 0)), (2, .ref (sk_ad g 88)), (3, .int (nI i))]) (hS : va_S (fun q => s.heap.size ≤ q) s.heap H locs) (hP : sk_P g M H) (hR : r_all M) (hc1 : cells ≤ 600000) (hc2 : slots ≤ 7302250)
    (kk : ∀ (M2 : sk_M) (H2 : Heap) (locs2 : List Loc), r_all M2 → sk_P g M2 H2 → va_S (fun q => s.heap.size ≤ q) s.heap H2 locs2 → W p l e room_1 s m #[Value.ref b] below meth c H2 locs2 cells slots Q (F0 m 1871 ls [])) : W p l e room_1 s m #[Value.ref b] below meth c H locs cells slots Q (F0 m 1208 ls []) := by
  have hx := Z.1
  have hb := Z.2.1
  obtain ⟨r, M1, M2, h6, h7, hR2⟩ := t_dated (xs (i + 1)) (xs (i + 2)) (xs (i + 3)) (xs (i + 4)) M hR
  refine lv_aload_n hx hb zd_1208 rfl (lv_at hl 1 rfl) ?_
  refine z_arg (j := 1) Z hl hS hL (by omega) (by decide) za_1209 ?_
  refine z_arg (j := 2) Z hl hS hL (by omega) (by decide) za_1214 ?_
  refine z_arg (j := 3) Z hl hS hL (by omega) (by decide) za_1219 ?_
  refine z_arg (j := 4) Z hl hS hL (by omega) (by decide) za_1224 ?_
  refine z_call (As := [.int (xs (i + 1)), .int (xs (i + 2)), .int (xs (i + 3)), .int (xs (i + 4))]) (rest := []) Z hS hP (c_X6_dated g l (xs (i + 1)) (xs (i + 2)) (xs (i + 3)) (xs (i + 4)) M h6) yo_X6_dated kw_590 (z_recv6 Z hP) (by decide) hl.1 rfl rfl (Nat.le_of_ble_eq_true rfl) zd_1229 (fun H locs hP hS => ?_)
  refine lv_aload_n hx hb zd_1232 rfl (lv_at hl 2 rfl) ?_
  refine z_arg (j := 1) Z hl hS hL (by omega) (by decide) za_1233 ?_
  refine z_arg (j := 2) Z hl hS hL (by omega) (by decide) za_1238 ?_
  refine z_arg (j := 3) Z hl hS hL (by omega) (by decide) za_1243 ?_
  refine z_arg (j := 4) Z hl hS hL (by omega) (by decide) za_1248 ?_
  refine z_call (As := [.int (xs (i + 1)), .int (xs (i + 2)), .int (xs (i + 3)), .int (xs (i + 4))]) (rest := [.int r]) Z hS hP (c_X7_dated g l (xs (i + 1)) (xs (i + 2)) (xs (i + 3)) (xs (i + 4)) M1 h7) yo_X7_dated kw_1401 (z_recv7 Z hP) (by decide) hl.1 rfl rfl (Nat.le_of_ble_eq_true rfl) zd_1253 (fun H locs hP hS => ?_)
  refine lv_icmp_eq (tgt := 1871) hx hb zd_1256 (by decide) (fun _ => ?_) (fun c9 => absurd rfl c9)
  exact kk M2 H locs hR2 hP hS
theorem z_case29 {g : sk_G} {p : Program} {l : Launch} {e : Env} {s : State} {m : MethodId} {below : List Frame} {meth : Method} {c : Code} {b L i : Nat} {xs : Nat → Int32} {H : Heap} {locs : List Loc} {ls : Array Slot} {cells slots : Nat} {Q : State → Prop} {M : sk_M} (Z : z_C g p s m meth c b L xs) (hL : L ≤ 3072) (hi : i + 6 ≤ L) (hl : lv_has ls 4 [(0, .ref b), (1, .ref (sk_ad g 0)), (2, .ref (sk_ad g 88)), (3, .int (nI i))]) (hS : va_S (fun q => s.heap.size ≤ q) s.heap H locs) (hP : sk_P g M H) (hR : r_all M) (hc1 : cells ≤ 600000) (hc2 : slots ≤ 7302250)
    (kk : ∀ (M2 : sk_M) (H2 : Heap) (locs2 : List Loc), r_all M2 → sk_P g M2 H2 → va_S (fun q => s.heap.size ≤ q) s.heap H2 locs2 → W p l e room_1 s m #[Value.ref b] below meth c H2 locs2 cells slots Q (F0 m 1871 ls [])) : W p l e room_1 s m #[Value.ref b] below meth c H locs cells slots Q (F0 m 1261 ls []) := by
  have hx := Z.1
  have hb := Z.2.1
  obtain ⟨r, M1, M2, h6, h7, hR2⟩ := t_price (xs (i + 1)) M hR
  refine lv_aload_n hx hb zd_1261 rfl (lv_at hl 1 rfl) ?_
  refine z_arg (j := 1) Z hl hS hL (by omega) (by decide) za_1262 ?_
  refine z_call (As := [.int (xs (i + 1))]) (rest := []) Z hS hP (c_X6_price g l (xs (i + 1)) M h6) yo_X6_price kw_609 (z_recv6 Z hP) (by decide) hl.1 rfl rfl (Nat.le_of_ble_eq_true rfl) zd_1267 (fun H locs hP hS => ?_)
  refine lv_aload_n hx hb zd_1270 rfl (lv_at hl 2 rfl) ?_
  refine z_arg (j := 1) Z hl hS hL (by omega) (by decide) za_1271 ?_
  refine z_call (As := [.int (xs (i + 1))]) (rest := [.int r]) Z hS hP (c_X7_price g l (xs (i + 1)) M1 h7) yo_X7_price kw_1272 (z_recv7 Z hP) (by decide) hl.1 rfl rfl (Nat.le_of_ble_eq_true rfl) zd_1276 (fun H locs hP hS => ?_)
  refine lv_icmp_eq (tgt := 1871) hx hb zd_1279 (by decide) (fun _ => ?_) (fun c9 => absurd rfl c9)
  exact kk M2 H locs hR2 hP hS
theorem z_case30 {g : sk_G} {p : Program} {l : Launch} {e : Env} {s : State} {m : MethodId} {below : List Frame} {meth : Method} {c : Code} {b L i : Nat} {xs : Nat → Int32} {H : Heap} {locs : List Loc} {ls : Array Slot} {cells slots : Nat} {Q : State → Prop} {M : sk_M} (Z : z_C g p s m meth c b L xs) (hL : L ≤ 3072) (hi : i + 6 ≤ L) (hl : lv_has ls 4 [(0, .ref b), (1, .ref (sk_ad g 0)), (2, .ref (sk_ad g 88)), (3, .int (nI i))]) (hS : va_S (fun q => s.heap.size ≤ q) s.heap H locs) (hP : sk_P g M H) (hR : r_all M) (hc1 : cells ≤ 600000) (hc2 : slots ≤ 7302250)
    (kk : ∀ (M2 : sk_M) (H2 : Heap) (locs2 : List Loc), r_all M2 → sk_P g M2 H2 → va_S (fun q => s.heap.size ≤ q) s.heap H2 locs2 → W p l e room_1 s m #[Value.ref b] below meth c H2 locs2 cells slots Q (F0 m 1871 ls [])) : W p l e room_1 s m #[Value.ref b] below meth c H locs cells slots Q (F0 m 1284 ls []) := by
  have hx := Z.1
  have hb := Z.2.1
  obtain ⟨r, M1, M2, h6, h7, hR2⟩ := t_lie (xs (i + 1)) M hR
  refine lv_aload_n hx hb zd_1284 rfl (lv_at hl 1 rfl) ?_
  refine z_arg (j := 1) Z hl hS hL (by omega) (by decide) za_1285 ?_
  refine z_call (As := [.int (xs (i + 1))]) (rest := []) Z hS hP (c_X6_lie g l (xs (i + 1)) M h6) yo_X6_lie kw_622 (z_recv6 Z hP) (by decide) hl.1 rfl rfl (Nat.le_of_ble_eq_true rfl) zd_1290 (fun H locs hP hS => ?_)
  refine lv_aload_n hx hb zd_1293 rfl (lv_at hl 2 rfl) ?_
  refine z_arg (j := 1) Z hl hS hL (by omega) (by decide) za_1294 ?_
  refine z_call (As := [.int (xs (i + 1))]) (rest := [.int r]) Z hS hP (c_X7_lie g l (xs (i + 1)) M1 h7) yo_X7_lie kw_1280 (z_recv7 Z hP) (by decide) hl.1 rfl rfl (Nat.le_of_ble_eq_true rfl) zd_1299 (fun H locs hP hS => ?_)
  refine lv_icmp_eq (tgt := 1871) hx hb zd_1302 (by decide) (fun _ => ?_) (fun c9 => absurd rfl c9)
  exact kk M2 H locs hR2 hP hS
theorem z_case31 {g : sk_G} {p : Program} {l : Launch} {e : Env} {s : State} {m : MethodId} {below : List Frame} {meth : Method} {c : Code} {b L i : Nat} {xs : Nat → Int32} {H : Heap} {locs : List Loc} {ls : Array Slot} {cells slots : Nat} {Q : State → Prop} {M : sk_M} (Z : z_C g p s m meth c b L xs) (hL : L ≤ 3072) (hi : i + 6 ≤ L) (hl : lv_has ls 4 [(0, .ref b), (1, .ref (sk_ad g 0)), (2, .ref (sk_ad g 88)), (3, .int (nI i))]) (hS : va_S (fun q => s.heap.size ≤ q) s.heap H locs) (hP : sk_P g M H) (hR : r_all M) (hc1 : cells ≤ 600000) (hc2 : slots ≤ 7302250)
    (kk : ∀ (M2 : sk_M) (H2 : Heap) (locs2 : List Loc), r_all M2 → sk_P g M2 H2 → va_S (fun q => s.heap.size ≤ q) s.heap H2 locs2 → W p l e room_1 s m #[Value.ref b] below meth c H2 locs2 cells slots Q (F0 m 1871 ls [])) : W p l e room_1 s m #[Value.ref b] below meth c H locs cells slots Q (F0 m 1307 ls []) := by
  have hx := Z.1
  have hb := Z.2.1
  obtain ⟨r, M1, M2, h6, h7, hR2⟩ := t_feed (xs (i + 1)) (xs (i + 2)) (xs (i + 3)) M hR
  refine lv_aload_n hx hb zd_1307 rfl (lv_at hl 1 rfl) ?_
  refine z_arg (j := 1) Z hl hS hL (by omega) (by decide) za_1308 ?_
  refine z_arg (j := 2) Z hl hS hL (by omega) (by decide) za_1313 ?_
  refine z_arg (j := 3) Z hl hS hL (by omega) (by decide) za_1318 ?_
  refine z_call (As := [.int (xs (i + 1)), .int (xs (i + 2)), .int (xs (i + 3))]) (rest := []) Z hS hP (c_X6_feed g l (xs (i + 1)) (xs (i + 2)) (xs (i + 3)) M h6) yo_X6_feed kw_629 (z_recv6 Z hP) (by decide) hl.1 rfl rfl (Nat.le_of_ble_eq_true rfl) zd_1323 (fun H locs hP hS => ?_)
  refine lv_aload_n hx hb zd_1326 rfl (lv_at hl 2 rfl) ?_
  refine z_arg (j := 1) Z hl hS hL (by omega) (by decide) za_1327 ?_
  refine z_arg (j := 2) Z hl hS hL (by omega) (by decide) za_1332 ?_
  refine z_arg (j := 3) Z hl hS hL (by omega) (by decide) za_1337 ?_
  refine z_call (As := [.int (xs (i + 1)), .int (xs (i + 2)), .int (xs (i + 3))]) (rest := [.int r]) Z hS hP (c_X7_feed g l (xs (i + 1)) (xs (i + 2)) (xs (i + 3)) M1 h7) yo_X7_feed kw_1288 (z_recv7 Z hP) (by decide) hl.1 rfl rfl (Nat.le_of_ble_eq_true rfl) zd_1342 (fun H locs hP hS => ?_)
  refine lv_icmp_eq (tgt := 1871) hx hb zd_1345 (by decide) (fun _ => ?_) (fun c9 => absurd rfl c9)
  exact kk M2 H locs hR2 hP hS
theorem z_case32 {g : sk_G} {p : Program} {l : Launch} {e : Env} {s : State} {m : MethodId} {below : List Frame} {meth : Method} {c : Code} {b L i : Nat} {xs : Nat → Int32} {H : Heap} {locs : List Loc} {ls : Array Slot} {cells slots : Nat} {Q : State → Prop} {M : sk_M} (Z : z_C g p s m meth c b L xs) (hL : L ≤ 3072) (hi : i + 6 ≤ L) (hl : lv_has ls 4 [(0, .ref b), (1, .ref (sk_ad g 0)), (2, .ref (sk_ad g 88)), (3, .int (nI i))]) (hS : va_S (fun q => s.heap.size ≤ q) s.heap H locs) (hP : sk_P g M H) (hR : r_all M) (hc1 : cells ≤ 600000) (hc2 : slots ≤ 7302250)
    (kk : ∀ (M2 : sk_M) (H2 : Heap) (locs2 : List Loc), r_all M2 → sk_P g M2 H2 → va_S (fun q => s.heap.size ≤ q) s.heap H2 locs2 → W p l e room_1 s m #[Value.ref b] below meth c H2 locs2 cells slots Q (F0 m 1871 ls [])) : W p l e room_1 s m #[Value.ref b] below meth c H locs cells slots Q (F0 m 1350 ls []) := by
  have hx := Z.1
  have hb := Z.2.1
  obtain ⟨r, M1, M2, h6, h7, hR2⟩ := t_trim (xs (i + 1)) M hR
  refine lv_aload_n hx hb zd_1350 rfl (lv_at hl 1 rfl) ?_
  refine z_arg (j := 1) Z hl hS hL (by omega) (by decide) za_1351 ?_
  refine z_call (As := [.int (xs (i + 1))]) (rest := []) Z hS hP (c_X6_trim g l (xs (i + 1)) M h6) yo_X6_trim kw_637 (z_recv6 Z hP) (by decide) hl.1 rfl rfl (Nat.le_of_ble_eq_true rfl) zd_1356 (fun H locs hP hS => ?_)
  refine lv_aload_n hx hb zd_1359 rfl (lv_at hl 2 rfl) ?_
  refine z_arg (j := 1) Z hl hS hL (by omega) (by decide) za_1360 ?_
  refine z_call (As := [.int (xs (i + 1))]) (rest := [.int r]) Z hS hP (c_X7_trim g l (xs (i + 1)) M1 h7) yo_X7_trim kw_1292 (z_recv7 Z hP) (by decide) hl.1 rfl rfl (Nat.le_of_ble_eq_true rfl) zd_1365 (fun H locs hP hS => ?_)
  refine lv_icmp_eq (tgt := 1871) hx hb zd_1368 (by decide) (fun _ => ?_) (fun c9 => absurd rfl c9)
  exact kk M2 H locs hR2 hP hS
theorem z_case33 {g : sk_G} {p : Program} {l : Launch} {e : Env} {s : State} {m : MethodId} {below : List Frame} {meth : Method} {c : Code} {b L i : Nat} {xs : Nat → Int32} {H : Heap} {locs : List Loc} {ls : Array Slot} {cells slots : Nat} {Q : State → Prop} {M : sk_M} (Z : z_C g p s m meth c b L xs) (hL : L ≤ 3072) (hi : i + 6 ≤ L) (hl : lv_has ls 4 [(0, .ref b), (1, .ref (sk_ad g 0)), (2, .ref (sk_ad g 88)), (3, .int (nI i))]) (hS : va_S (fun q => s.heap.size ≤ q) s.heap H locs) (hP : sk_P g M H) (hR : r_all M) (hc1 : cells ≤ 600000) (hc2 : slots ≤ 7302250)
    (kk : ∀ (M2 : sk_M) (H2 : Heap) (locs2 : List Loc), r_all M2 → sk_P g M2 H2 → va_S (fun q => s.heap.size ≤ q) s.heap H2 locs2 → W p l e room_1 s m #[Value.ref b] below meth c H2 locs2 cells slots Q (F0 m 1871 ls [])) : W p l e room_1 s m #[Value.ref b] below meth c H locs cells slots Q (F0 m 1373 ls []) := by
  have hx := Z.1
  have hb := Z.2.1
  obtain ⟨r, M1, M2, h6, h7, hR2⟩ := t_text  M hR
  refine lv_aload_n hx hb zd_1373 rfl (lv_at hl 1 rfl) ?_
  refine z_call (As := []) (rest := []) Z hS hP (c_X6_text g l M h6) yo_X6_text kw_641 (z_recv6 Z hP) (by decide) hl.1 rfl rfl (Nat.le_of_ble_eq_true rfl) zd_1374 (fun H locs hP hS => ?_)
  refine lv_aload_n hx hb zd_1377 rfl (lv_at hl 2 rfl) ?_
  refine z_call (As := []) (rest := [.int r]) Z hS hP (c_X7_text g l M1 h7) yo_X7_text kw_1296 (z_recv7 Z hP) (by decide) hl.1 rfl rfl (Nat.le_of_ble_eq_true rfl) zd_1378 (fun H locs hP hS => ?_)
  refine lv_icmp_eq (tgt := 1871) hx hb zd_1381 (by decide) (fun _ => ?_) (fun c9 => absurd rfl c9)
  exact kk M2 H locs hR2 hP hS
theorem z_case34 {g : sk_G} {p : Program} {l : Launch} {e : Env} {s : State} {m : MethodId} {below : List Frame} {meth : Method} {c : Code} {b L i : Nat} {xs : Nat → Int32} {H : Heap} {locs : List Loc} {ls : Array Slot} {cells slots : Nat} {Q : State → Prop} {M : sk_M} (Z : z_C g p s m meth c b L xs) (hL : L ≤ 3072) (hi : i + 6 ≤ L) (hl : lv_has ls 4 [(0, .ref b), (1, .ref (sk_ad g 0)), (2, .ref (sk_ad g 88)), (3, .int (nI i))]) (hS : va_S (fun q => s.heap.size ≤ q) s.heap H locs) (hP : sk_P g M H) (hR : r_all M) (hc1 : cells ≤ 600000) (hc2 : slots ≤ 7302250)
    (kk : ∀ (M2 : sk_M) (H2 : Heap) (locs2 : List Loc), r_all M2 → sk_P g M2 H2 → va_S (fun q => s.heap.size ≤ q) s.heap H2 locs2 → W p l e room_1 s m #[Value.ref b] below meth c H2 locs2 cells slots Q (F0 m 1871 ls [])) : W p l e room_1 s m #[Value.ref b] below meth c H locs cells slots Q (F0 m 1386 ls []) := by
  have hx := Z.1
  have hb := Z.2.1
  obtain ⟨r, h6, h7⟩ := t_textTold (xs (i + 1)) (xs (i + 2)) M hR
  refine lv_aload_n hx hb zd_1386 rfl (lv_at hl 1 rfl) ?_
  refine z_arg (j := 1) Z hl hS hL (by omega) (by decide) za_1387 ?_
  refine z_arg (j := 2) Z hl hS hL (by omega) (by decide) za_1392 ?_
  refine z_call (As := [.int (xs (i + 1)), .int (xs (i + 2))]) (rest := []) Z hS hP (c_X6_textTold g l (xs (i + 1)) (xs (i + 2)) M h6) yo_X6_textTold kw_829 (z_recv6 Z hP) (by decide) hl.1 rfl rfl (Nat.le_of_ble_eq_true rfl) zd_1397 (fun H locs hP hS => ?_)
  refine lv_aload_n hx hb zd_1400 rfl (lv_at hl 2 rfl) ?_
  refine z_arg (j := 1) Z hl hS hL (by omega) (by decide) za_1401 ?_
  refine z_arg (j := 2) Z hl hS hL (by omega) (by decide) za_1406 ?_
  refine z_call (As := [.int (xs (i + 1)), .int (xs (i + 2))]) (rest := [.int r]) Z hS hP (c_X7_textTold g l (xs (i + 1)) (xs (i + 2)) M h7) yo_X7_textTold kw_1367 (z_recv7 Z hP) (by decide) hl.1 rfl rfl (Nat.le_of_ble_eq_true rfl) zd_1411 (fun H locs hP hS => ?_)
  refine lv_icmp_eq (tgt := 1871) hx hb zd_1414 (by decide) (fun _ => ?_) (fun c9 => absurd rfl c9)
  exact kk M H locs hR hP hS
theorem z_case35 {g : sk_G} {p : Program} {l : Launch} {e : Env} {s : State} {m : MethodId} {below : List Frame} {meth : Method} {c : Code} {b L i : Nat} {xs : Nat → Int32} {H : Heap} {locs : List Loc} {ls : Array Slot} {cells slots : Nat} {Q : State → Prop} {M : sk_M} (Z : z_C g p s m meth c b L xs) (hL : L ≤ 3072) (hi : i + 6 ≤ L) (hl : lv_has ls 4 [(0, .ref b), (1, .ref (sk_ad g 0)), (2, .ref (sk_ad g 88)), (3, .int (nI i))]) (hS : va_S (fun q => s.heap.size ≤ q) s.heap H locs) (hP : sk_P g M H) (hR : r_all M) (hc1 : cells ≤ 600000) (hc2 : slots ≤ 7302250)
    (kk : ∀ (M2 : sk_M) (H2 : Heap) (locs2 : List Loc), r_all M2 → sk_P g M2 H2 → va_S (fun q => s.heap.size ≤ q) s.heap H2 locs2 → W p l e room_1 s m #[Value.ref b] below meth c H2 locs2 cells slots Q (F0 m 1871 ls [])) : W p l e room_1 s m #[Value.ref b] below meth c H locs cells slots Q (F0 m 1419 ls []) := by
  have hx := Z.1
  have hb := Z.2.1
  obtain ⟨r, h6, h7⟩ := t_why (xs (i + 1)) M hR
  refine lv_aload_n hx hb zd_1419 rfl (lv_at hl 1 rfl) ?_
  refine z_arg (j := 1) Z hl hS hL (by omega) (by decide) za_1420 ?_
  refine z_call (As := [.int (xs (i + 1))]) (rest := []) Z hS hP (c_X6_why g l (xs (i + 1)) M h6) yo_X6_why kw_833 (z_recv6 Z hP) (by decide) hl.1 rfl rfl (Nat.le_of_ble_eq_true rfl) zd_1425 (fun H locs hP hS => ?_)
  refine lv_aload_n hx hb zd_1428 rfl (lv_at hl 2 rfl) ?_
  refine z_arg (j := 1) Z hl hS hL (by omega) (by decide) za_1429 ?_
  refine z_call (As := [.int (xs (i + 1))]) (rest := [.int r]) Z hS hP (c_X7_why g l (xs (i + 1)) M h7) yo_X7_why kw_1375 (z_recv7 Z hP) (by decide) hl.1 rfl rfl (Nat.le_of_ble_eq_true rfl) zd_1434 (fun H locs hP hS => ?_)
  refine lv_icmp_eq (tgt := 1871) hx hb zd_1437 (by decide) (fun _ => ?_) (fun c9 => absurd rfl c9)
  exact kk M H locs hR hP hS
theorem z_case36 {g : sk_G} {p : Program} {l : Launch} {e : Env} {s : State} {m : MethodId} {below : List Frame} {meth : Method} {c : Code} {b L i : Nat} {xs : Nat → Int32} {H : Heap} {locs : List Loc} {ls : Array Slot} {cells slots : Nat} {Q : State → Prop} {M : sk_M} (Z : z_C g p s m meth c b L xs) (hL : L ≤ 3072) (hi : i + 6 ≤ L) (hl : lv_has ls 4 [(0, .ref b), (1, .ref (sk_ad g 0)), (2, .ref (sk_ad g 88)), (3, .int (nI i))]) (hS : va_S (fun q => s.heap.size ≤ q) s.heap H locs) (hP : sk_P g M H) (hR : r_all M) (hc1 : cells ≤ 600000) (hc2 : slots ≤ 7302250)
    (kk : ∀ (M2 : sk_M) (H2 : Heap) (locs2 : List Loc), r_all M2 → sk_P g M2 H2 → va_S (fun q => s.heap.size ≤ q) s.heap H2 locs2 → W p l e room_1 s m #[Value.ref b] below meth c H2 locs2 cells slots Q (F0 m 1871 ls [])) : W p l e room_1 s m #[Value.ref b] below meth c H locs cells slots Q (F0 m 1442 ls []) := by
  have hx := Z.1
  have hb := Z.2.1
  obtain ⟨r, M1, M2, h6, h7, hR2⟩ := t_sheet (xs (i + 1)) (xs (i + 2)) (xs (i + 3)) M hR
  refine lv_aload_n hx hb zd_1442 rfl (lv_at hl 1 rfl) ?_
  refine z_arg (j := 1) Z hl hS hL (by omega) (by decide) za_1443 ?_
  refine z_arg (j := 2) Z hl hS hL (by omega) (by decide) za_1448 ?_
  refine z_arg (j := 3) Z hl hS hL (by omega) (by decide) za_1453 ?_
  refine z_call (As := [.int (xs (i + 1)), .int (xs (i + 2)), .int (xs (i + 3))]) (rest := []) Z hS hP (c_X6_sheet g l (xs (i + 1)) (xs (i + 2)) (xs (i + 3)) M h6) yo_X6_sheet kw_837 (z_recv6 Z hP) (by decide) hl.1 rfl rfl (Nat.le_of_ble_eq_true rfl) zd_1458 (fun H locs hP hS => ?_)
  refine lv_aload_n hx hb zd_1461 rfl (lv_at hl 2 rfl) ?_
  refine z_arg (j := 1) Z hl hS hL (by omega) (by decide) za_1462 ?_
  refine z_arg (j := 2) Z hl hS hL (by omega) (by decide) za_1467 ?_
  refine z_arg (j := 3) Z hl hS hL (by omega) (by decide) za_1472 ?_
  refine z_call (As := [.int (xs (i + 1)), .int (xs (i + 2)), .int (xs (i + 3))]) (rest := [.int r]) Z hS hP (c_X7_sheet g l (xs (i + 1)) (xs (i + 2)) (xs (i + 3)) M1 h7) yo_X7_sheet kw_1380 (z_recv7 Z hP) (by decide) hl.1 rfl rfl (Nat.le_of_ble_eq_true rfl) zd_1477 (fun H locs hP hS => ?_)
  refine lv_icmp_eq (tgt := 1871) hx hb zd_1480 (by decide) (fun _ => ?_) (fun c9 => absurd rfl c9)
  exact kk M2 H locs hR2 hP hS
theorem z_case37 {g : sk_G} {p : Program} {l : Launch} {e : Env} {s : State} {m : MethodId} {below : List Frame} {meth : Method} {c : Code} {b L i : Nat} {xs : Nat → Int32} {H : Heap} {locs : List Loc} {ls : Array Slot} {cells slots : Nat} {Q : State → Prop} {M : sk_M} (Z : z_C g p s m meth c b L xs) (hL : L ≤ 3072) (hi : i + 6 ≤ L) (hl : lv_has ls 4 [(0, .ref b), (1, .ref (sk_ad g 0)), (2, .ref (sk_ad g 88)), (3, .int (nI i))]) (hS : va_S (fun q => s.heap.size ≤ q) s.heap H locs) (hP : sk_P g M H) (hR : r_all M) (hc1 : cells ≤ 600000) (hc2 : slots ≤ 7302250)
    (kk : ∀ (M2 : sk_M) (H2 : Heap) (locs2 : List Loc), r_all M2 → sk_P g M2 H2 → va_S (fun q => s.heap.size ≤ q) s.heap H2 locs2 → W p l e room_1 s m #[Value.ref b] below meth c H2 locs2 cells slots Q (F0 m 1871 ls [])) : W p l e room_1 s m #[Value.ref b] below meth c H locs cells slots Q (F0 m 1485 ls []) := by
  have hx := Z.1
  have hb := Z.2.1
  obtain ⟨r, M1, M2, h6, h7, hR2⟩ := t_mark (xs (i + 1)) (xs (i + 2)) (xs (i + 3)) M hR
  refine lv_aload_n hx hb zd_1485 rfl (lv_at hl 1 rfl) ?_
  refine z_arg (j := 1) Z hl hS hL (by omega) (by decide) za_1486 ?_
  refine z_arg (j := 2) Z hl hS hL (by omega) (by decide) za_1491 ?_
  refine z_arg (j := 3) Z hl hS hL (by omega) (by decide) za_1496 ?_
  refine z_call (As := [.int (xs (i + 1)), .int (xs (i + 2)), .int (xs (i + 3))]) (rest := []) Z hS hP (c_X6_mark g l (xs (i + 1)) (xs (i + 2)) (xs (i + 3)) M h6) yo_X6_mark kw_847 (z_recv6 Z hP) (by decide) hl.1 rfl rfl (Nat.le_of_ble_eq_true rfl) zd_1501 (fun H locs hP hS => ?_)
  refine lv_aload_n hx hb zd_1504 rfl (lv_at hl 2 rfl) ?_
  refine z_arg (j := 1) Z hl hS hL (by omega) (by decide) za_1505 ?_
  refine z_arg (j := 2) Z hl hS hL (by omega) (by decide) za_1510 ?_
  refine z_arg (j := 3) Z hl hS hL (by omega) (by decide) za_1515 ?_
  refine z_call (As := [.int (xs (i + 1)), .int (xs (i + 2)), .int (xs (i + 3))]) (rest := [.int r]) Z hS hP (c_X7_mark g l (xs (i + 1)) (xs (i + 2)) (xs (i + 3)) M1 h7) yo_X7_mark kw_1389 (z_recv7 Z hP) (by decide) hl.1 rfl rfl (Nat.le_of_ble_eq_true rfl) zd_1520 (fun H locs hP hS => ?_)
  refine lv_icmp_eq (tgt := 1871) hx hb zd_1523 (by decide) (fun _ => ?_) (fun c9 => absurd rfl c9)
  exact kk M2 H locs hR2 hP hS
theorem z_case38 {g : sk_G} {p : Program} {l : Launch} {e : Env} {s : State} {m : MethodId} {below : List Frame} {meth : Method} {c : Code} {b L i : Nat} {xs : Nat → Int32} {H : Heap} {locs : List Loc} {ls : Array Slot} {cells slots : Nat} {Q : State → Prop} {M : sk_M} (Z : z_C g p s m meth c b L xs) (hL : L ≤ 3072) (hi : i + 6 ≤ L) (hl : lv_has ls 4 [(0, .ref b), (1, .ref (sk_ad g 0)), (2, .ref (sk_ad g 88)), (3, .int (nI i))]) (hS : va_S (fun q => s.heap.size ≤ q) s.heap H locs) (hP : sk_P g M H) (hR : r_all M) (hc1 : cells ≤ 600000) (hc2 : slots ≤ 7302250)
    (kk : ∀ (M2 : sk_M) (H2 : Heap) (locs2 : List Loc), r_all M2 → sk_P g M2 H2 → va_S (fun q => s.heap.size ≤ q) s.heap H2 locs2 → W p l e room_1 s m #[Value.ref b] below meth c H2 locs2 cells slots Q (F0 m 1871 ls [])) : W p l e room_1 s m #[Value.ref b] below meth c H locs cells slots Q (F0 m 1528 ls []) := by
  have hx := Z.1
  have hb := Z.2.1
  obtain ⟨r, M1, M2, h6, h7, hR2⟩ := t_pour (xs (i + 1)) (xs (i + 2)) M hR
  refine lv_aload_n hx hb zd_1528 rfl (lv_at hl 1 rfl) ?_
  refine z_arg (j := 1) Z hl hS hL (by omega) (by decide) za_1529 ?_
  refine z_arg (j := 2) Z hl hS hL (by omega) (by decide) za_1534 ?_
  refine z_call (As := [.int (xs (i + 1)), .int (xs (i + 2))]) (rest := []) Z hS hP (c_X6_pour g l (xs (i + 1)) (xs (i + 2)) M h6) yo_X6_pour kw_854 (z_recv6 Z hP) (by decide) hl.1 rfl rfl (Nat.le_of_ble_eq_true rfl) zd_1539 (fun H locs hP hS => ?_)
  refine lv_aload_n hx hb zd_1542 rfl (lv_at hl 2 rfl) ?_
  refine z_arg (j := 1) Z hl hS hL (by omega) (by decide) za_1543 ?_
  refine z_arg (j := 2) Z hl hS hL (by omega) (by decide) za_1548 ?_
  refine z_call (As := [.int (xs (i + 1)), .int (xs (i + 2))]) (rest := [.int r]) Z hS hP (c_X7_pour g l (xs (i + 1)) (xs (i + 2)) M1 h7) yo_X7_pour kw_1397 (z_recv7 Z hP) (by decide) hl.1 rfl rfl (Nat.le_of_ble_eq_true rfl) zd_1553 (fun H locs hP hS => ?_)
  refine lv_icmp_eq (tgt := 1871) hx hb zd_1556 (by decide) (fun _ => ?_) (fun c9 => absurd rfl c9)
  exact kk M2 H locs hR2 hP hS
theorem z_case39 {g : sk_G} {p : Program} {l : Launch} {e : Env} {s : State} {m : MethodId} {below : List Frame} {meth : Method} {c : Code} {b L i : Nat} {xs : Nat → Int32} {H : Heap} {locs : List Loc} {ls : Array Slot} {cells slots : Nat} {Q : State → Prop} {M : sk_M} (Z : z_C g p s m meth c b L xs) (hL : L ≤ 3072) (hi : i + 6 ≤ L) (hl : lv_has ls 4 [(0, .ref b), (1, .ref (sk_ad g 0)), (2, .ref (sk_ad g 88)), (3, .int (nI i))]) (hS : va_S (fun q => s.heap.size ≤ q) s.heap H locs) (hP : sk_P g M H) (hR : r_all M) (hc1 : cells ≤ 600000) (hc2 : slots ≤ 7302250)
    (kk : ∀ (M2 : sk_M) (H2 : Heap) (locs2 : List Loc), r_all M2 → sk_P g M2 H2 → va_S (fun q => s.heap.size ≤ q) s.heap H2 locs2 → W p l e room_1 s m #[Value.ref b] below meth c H2 locs2 cells slots Q (F0 m 1871 ls [])) : W p l e room_1 s m #[Value.ref b] below meth c H locs cells slots Q (F0 m 1561 ls []) := by
  have hx := Z.1
  have hb := Z.2.1
  obtain ⟨r, M1, M2, h6, h7, hR2⟩ := t_copy (xs (i + 1)) (xs (i + 2)) (xs (i + 3)) (xs (i + 4)) (xs (i + 5)) M hR
  refine lv_aload_n hx hb zd_1561 rfl (lv_at hl 1 rfl) ?_
  refine z_arg (j := 1) Z hl hS hL (by omega) (by decide) za_1562 ?_
  refine z_arg (j := 2) Z hl hS hL (by omega) (by decide) za_1567 ?_
  refine z_arg (j := 3) Z hl hS hL (by omega) (by decide) za_1572 ?_
  refine z_arg (j := 4) Z hl hS hL (by omega) (by decide) za_1577 ?_
  refine z_arg (j := 5) Z hl hS hL (by omega) (by decide) za_1582 ?_
  refine z_call (As := [.int (xs (i + 1)), .int (xs (i + 2)), .int (xs (i + 3)), .int (xs (i + 4)), .int (xs (i + 5))]) (rest := []) Z hS hP (c_X6_copy g l (xs (i + 1)) (xs (i + 2)) (xs (i + 3)) (xs (i + 4)) (xs (i + 5)) M h6) yo_X6_copy kw_858 (z_recv6 Z hP) (by decide) hl.1 rfl rfl (Nat.le_of_ble_eq_true rfl) zd_1587 (fun H locs hP hS => ?_)
  refine lv_aload_n hx hb zd_1590 rfl (lv_at hl 2 rfl) ?_
  refine z_arg (j := 1) Z hl hS hL (by omega) (by decide) za_1591 ?_
  refine z_arg (j := 2) Z hl hS hL (by omega) (by decide) za_1596 ?_
  refine z_arg (j := 3) Z hl hS hL (by omega) (by decide) za_1601 ?_
  refine z_arg (j := 4) Z hl hS hL (by omega) (by decide) za_1606 ?_
  refine z_arg (j := 5) Z hl hS hL (by omega) (by decide) za_1611 ?_
  refine z_call (As := [.int (xs (i + 1)), .int (xs (i + 2)), .int (xs (i + 3)), .int (xs (i + 4)), .int (xs (i + 5))]) (rest := [.int r]) Z hS hP (c_X7_copy g l (xs (i + 1)) (xs (i + 2)) (xs (i + 3)) (xs (i + 4)) (xs (i + 5)) M1 h7) yo_X7_copy kw_1405 (z_recv7 Z hP) (by decide) hl.1 rfl rfl (Nat.le_of_ble_eq_true rfl) zd_1616 (fun H locs hP hS => ?_)
  refine lv_icmp_eq (tgt := 1871) hx hb zd_1619 (by decide) (fun _ => ?_) (fun c9 => absurd rfl c9)
  exact kk M2 H locs hR2 hP hS
theorem z_case40 {g : sk_G} {p : Program} {l : Launch} {e : Env} {s : State} {m : MethodId} {below : List Frame} {meth : Method} {c : Code} {b L i : Nat} {xs : Nat → Int32} {H : Heap} {locs : List Loc} {ls : Array Slot} {cells slots : Nat} {Q : State → Prop} {M : sk_M} (Z : z_C g p s m meth c b L xs) (hL : L ≤ 3072) (hi : i + 6 ≤ L) (hl : lv_has ls 4 [(0, .ref b), (1, .ref (sk_ad g 0)), (2, .ref (sk_ad g 88)), (3, .int (nI i))]) (hS : va_S (fun q => s.heap.size ≤ q) s.heap H locs) (hP : sk_P g M H) (hR : r_all M) (hc1 : cells ≤ 600000) (hc2 : slots ≤ 7302250)
    (kk : ∀ (M2 : sk_M) (H2 : Heap) (locs2 : List Loc), r_all M2 → sk_P g M2 H2 → va_S (fun q => s.heap.size ≤ q) s.heap H2 locs2 → W p l e room_1 s m #[Value.ref b] below meth c H2 locs2 cells slots Q (F0 m 1871 ls [])) : W p l e room_1 s m #[Value.ref b] below meth c H locs cells slots Q (F0 m 1624 ls []) := by
  have hx := Z.1
  have hb := Z.2.1
  obtain ⟨r, M1, M2, h6, h7, hR2⟩ := tt_lay (xs (i + 1)) (xs (i + 2)) (xs (i + 3)) M hR
  refine lv_aload_n hx hb zd_1624 rfl (lv_at hl 1 rfl) ?_
  refine z_arg (j := 1) Z hl hS hL (by omega) (by decide) za_1625 ?_
  refine z_arg (j := 2) Z hl hS hL (by omega) (by decide) za_1630 ?_
  refine z_arg (j := 3) Z hl hS hL (by omega) (by decide) za_1635 ?_
  refine z_call (As := [.int (xs (i + 1)), .int (xs (i + 2)), .int (xs (i + 3))]) (rest := []) Z hS hP (c_X6_lay g l (xs (i + 1)) (xs (i + 2)) (xs (i + 3)) M h6) yo_X6_lay kw_866 (z_recv6 Z hP) (by decide) hl.1 rfl rfl (Nat.le_of_ble_eq_true rfl) zd_1640 (fun H locs hP hS => ?_)
  refine lv_aload_n hx hb zd_1643 rfl (lv_at hl 2 rfl) ?_
  refine z_arg (j := 1) Z hl hS hL (by omega) (by decide) za_1644 ?_
  refine z_arg (j := 2) Z hl hS hL (by omega) (by decide) za_1649 ?_
  refine z_arg (j := 3) Z hl hS hL (by omega) (by decide) za_1654 ?_
  refine z_call (As := [.int (xs (i + 1)), .int (xs (i + 2)), .int (xs (i + 3))]) (rest := [.int r]) Z hS hP (c_X7_lay g l (xs (i + 1)) (xs (i + 2)) (xs (i + 3)) M1 h7) yo_X7_lay kw_1409 (z_recv7 Z hP) (by decide) hl.1 rfl rfl (Nat.le_of_ble_eq_true rfl) zd_1659 (fun H locs hP hS => ?_)
  refine lv_icmp_eq (tgt := 1871) hx hb zd_1662 (by decide) (fun _ => ?_) (fun c9 => absurd rfl c9)
  exact kk M2 H locs hR2 hP hS
theorem z_case41 {g : sk_G} {p : Program} {l : Launch} {e : Env} {s : State} {m : MethodId} {below : List Frame} {meth : Method} {c : Code} {b L i : Nat} {xs : Nat → Int32} {H : Heap} {locs : List Loc} {ls : Array Slot} {cells slots : Nat} {Q : State → Prop} {M : sk_M} (Z : z_C g p s m meth c b L xs) (hL : L ≤ 3072) (hi : i + 6 ≤ L) (hl : lv_has ls 4 [(0, .ref b), (1, .ref (sk_ad g 0)), (2, .ref (sk_ad g 88)), (3, .int (nI i))]) (hS : va_S (fun q => s.heap.size ≤ q) s.heap H locs) (hP : sk_P g M H) (hR : r_all M) (hc1 : cells ≤ 600000) (hc2 : slots ≤ 7302250)
    (kk : ∀ (M2 : sk_M) (H2 : Heap) (locs2 : List Loc), r_all M2 → sk_P g M2 H2 → va_S (fun q => s.heap.size ≤ q) s.heap H2 locs2 → W p l e room_1 s m #[Value.ref b] below meth c H2 locs2 cells slots Q (F0 m 1871 ls [])) : W p l e room_1 s m #[Value.ref b] below meth c H locs cells slots Q (F0 m 1667 ls []) := by
  have hx := Z.1
  have hb := Z.2.1
  obtain ⟨r, h6, h7⟩ := t_ask (xs (i + 1)) (xs (i + 2)) M hR
  refine lv_aload_n hx hb zd_1667 rfl (lv_at hl 1 rfl) ?_
  refine z_arg (j := 1) Z hl hS hL (by omega) (by decide) za_1668 ?_
  refine z_arg (j := 2) Z hl hS hL (by omega) (by decide) za_1673 ?_
  refine z_call (As := [.int (xs (i + 1)), .int (xs (i + 2))]) (rest := []) Z hS hP (c_X6_ask g l (xs (i + 1)) (xs (i + 2)) M h6) yo_X6_ask kw_878 (z_recv6 Z hP) (by decide) hl.1 rfl rfl (Nat.le_of_ble_eq_true rfl) zd_1678 (fun H locs hP hS => ?_)
  refine lv_aload_n hx hb zd_1681 rfl (lv_at hl 2 rfl) ?_
  refine z_arg (j := 1) Z hl hS hL (by omega) (by decide) za_1682 ?_
  refine z_arg (j := 2) Z hl hS hL (by omega) (by decide) za_1687 ?_
  refine z_call (As := [.int (xs (i + 1)), .int (xs (i + 2))]) (rest := [.int r]) Z hS hP (c_X7_ask g l (xs (i + 1)) (xs (i + 2)) M h7) yo_X7_ask kw_1417 (z_recv7 Z hP) (by decide) hl.1 rfl rfl (Nat.le_of_ble_eq_true rfl) zd_1692 (fun H locs hP hS => ?_)
  refine lv_icmp_eq (tgt := 1871) hx hb zd_1695 (by decide) (fun _ => ?_) (fun c9 => absurd rfl c9)
  exact kk M H locs hR hP hS
theorem z_case42 {g : sk_G} {p : Program} {l : Launch} {e : Env} {s : State} {m : MethodId} {below : List Frame} {meth : Method} {c : Code} {b L i : Nat} {xs : Nat → Int32} {H : Heap} {locs : List Loc} {ls : Array Slot} {cells slots : Nat} {Q : State → Prop} {M : sk_M} (Z : z_C g p s m meth c b L xs) (hL : L ≤ 3072) (hi : i + 6 ≤ L) (hl : lv_has ls 4 [(0, .ref b), (1, .ref (sk_ad g 0)), (2, .ref (sk_ad g 88)), (3, .int (nI i))]) (hS : va_S (fun q => s.heap.size ≤ q) s.heap H locs) (hP : sk_P g M H) (hR : r_all M) (hc1 : cells ≤ 600000) (hc2 : slots ≤ 7302250)
    (kk : ∀ (M2 : sk_M) (H2 : Heap) (locs2 : List Loc), r_all M2 → sk_P g M2 H2 → va_S (fun q => s.heap.size ≤ q) s.heap H2 locs2 → W p l e room_1 s m #[Value.ref b] below meth c H2 locs2 cells slots Q (F0 m 1871 ls [])) : W p l e room_1 s m #[Value.ref b] below meth c H locs cells slots Q (F0 m 1700 ls []) := by
  have hx := Z.1
  have hb := Z.2.1
  obtain ⟨r, h6, h7⟩ := t_item (xs (i + 1)) (xs (i + 2)) M hR
  refine lv_aload_n hx hb zd_1700 rfl (lv_at hl 1 rfl) ?_
  refine z_arg (j := 1) Z hl hS hL (by omega) (by decide) za_1701 ?_
  refine z_arg (j := 2) Z hl hS hL (by omega) (by decide) za_1706 ?_
  refine z_call (As := [.int (xs (i + 1)), .int (xs (i + 2))]) (rest := []) Z hS hP (c_X6_item g l (xs (i + 1)) (xs (i + 2)) M h6) yo_X6_item kw_882 (z_recv6 Z hP) (by decide) hl.1 rfl rfl (Nat.le_of_ble_eq_true rfl) zd_1711 (fun H locs hP hS => ?_)
  refine lv_aload_n hx hb zd_1714 rfl (lv_at hl 2 rfl) ?_
  refine z_arg (j := 1) Z hl hS hL (by omega) (by decide) za_1715 ?_
  refine z_arg (j := 2) Z hl hS hL (by omega) (by decide) za_1720 ?_
  refine z_call (As := [.int (xs (i + 1)), .int (xs (i + 2))]) (rest := [.int r]) Z hS hP (c_X7_item g l (xs (i + 1)) (xs (i + 2)) M h7) yo_X7_item kw_1421 (z_recv7 Z hP) (by decide) hl.1 rfl rfl (Nat.le_of_ble_eq_true rfl) zd_1725 (fun H locs hP hS => ?_)
  refine lv_icmp_eq (tgt := 1871) hx hb zd_1728 (by decide) (fun _ => ?_) (fun c9 => absurd rfl c9)
  exact kk M H locs hR hP hS
theorem z_case43 {g : sk_G} {p : Program} {l : Launch} {e : Env} {s : State} {m : MethodId} {below : List Frame} {meth : Method} {c : Code} {b L i : Nat} {xs : Nat → Int32} {H : Heap} {locs : List Loc} {ls : Array Slot} {cells slots : Nat} {Q : State → Prop} {M : sk_M} (Z : z_C g p s m meth c b L xs) (hL : L ≤ 3072) (hi : i + 6 ≤ L) (hl : lv_has ls 4 [(0, .ref b), (1, .ref (sk_ad g 0)), (2, .ref (sk_ad g 88)), (3, .int (nI i))]) (hS : va_S (fun q => s.heap.size ≤ q) s.heap H locs) (hP : sk_P g M H) (hR : r_all M) (hc1 : cells ≤ 600000) (hc2 : slots ≤ 7302250)
    (kk : ∀ (M2 : sk_M) (H2 : Heap) (locs2 : List Loc), r_all M2 → sk_P g M2 H2 → va_S (fun q => s.heap.size ≤ q) s.heap H2 locs2 → W p l e room_1 s m #[Value.ref b] below meth c H2 locs2 cells slots Q (F0 m 1871 ls [])) : W p l e room_1 s m #[Value.ref b] below meth c H locs cells slots Q (F0 m 1733 ls []) := by
  have hx := Z.1
  have hb := Z.2.1
  obtain ⟨r, h6, h7⟩ := t_rest (xs (i + 1)) (xs (i + 2)) M hR
  refine lv_aload_n hx hb zd_1733 rfl (lv_at hl 1 rfl) ?_
  refine z_arg (j := 1) Z hl hS hL (by omega) (by decide) za_1734 ?_
  refine z_arg (j := 2) Z hl hS hL (by omega) (by decide) za_1739 ?_
  refine z_call (As := [.int (xs (i + 1)), .int (xs (i + 2))]) (rest := []) Z hS hP (c_X6_rest g l (xs (i + 1)) (xs (i + 2)) M h6) yo_X6_rest kw_886 (z_recv6 Z hP) (by decide) hl.1 rfl rfl (Nat.le_of_ble_eq_true rfl) zd_1744 (fun H locs hP hS => ?_)
  refine lv_aload_n hx hb zd_1747 rfl (lv_at hl 2 rfl) ?_
  refine z_arg (j := 1) Z hl hS hL (by omega) (by decide) za_1748 ?_
  refine z_arg (j := 2) Z hl hS hL (by omega) (by decide) za_1753 ?_
  refine z_call (As := [.int (xs (i + 1)), .int (xs (i + 2))]) (rest := [.int r]) Z hS hP (c_X7_rest g l (xs (i + 1)) (xs (i + 2)) M h7) yo_X7_rest kw_1425 (z_recv7 Z hP) (by decide) hl.1 rfl rfl (Nat.le_of_ble_eq_true rfl) zd_1758 (fun H locs hP hS => ?_)
  refine lv_icmp_eq (tgt := 1871) hx hb zd_1761 (by decide) (fun _ => ?_) (fun c9 => absurd rfl c9)
  exact kk M H locs hR hP hS
theorem z_case44 {g : sk_G} {p : Program} {l : Launch} {e : Env} {s : State} {m : MethodId} {below : List Frame} {meth : Method} {c : Code} {b L i : Nat} {xs : Nat → Int32} {H : Heap} {locs : List Loc} {ls : Array Slot} {cells slots : Nat} {Q : State → Prop} {M : sk_M} (Z : z_C g p s m meth c b L xs) (hL : L ≤ 3072) (hi : i + 6 ≤ L) (hl : lv_has ls 4 [(0, .ref b), (1, .ref (sk_ad g 0)), (2, .ref (sk_ad g 88)), (3, .int (nI i))]) (hS : va_S (fun q => s.heap.size ≤ q) s.heap H locs) (hP : sk_P g M H) (hR : r_all M) (hc1 : cells ≤ 600000) (hc2 : slots ≤ 7302250)
    (kk : ∀ (M2 : sk_M) (H2 : Heap) (locs2 : List Loc), r_all M2 → sk_P g M2 H2 → va_S (fun q => s.heap.size ≤ q) s.heap H2 locs2 → W p l e room_1 s m #[Value.ref b] below meth c H2 locs2 cells slots Q (F0 m 1871 ls [])) : W p l e room_1 s m #[Value.ref b] below meth c H locs cells slots Q (F0 m 1766 ls []) := by
  have hx := Z.1
  have hb := Z.2.1
  obtain ⟨r, M1, M2, h6, h7, hR2⟩ := t_tell (xs (i + 1)) M hR
  refine lv_aload_n hx hb zd_1766 rfl (lv_at hl 1 rfl) ?_
  refine z_arg (j := 1) Z hl hS hL (by omega) (by decide) za_1767 ?_
  refine z_call (As := [.int (xs (i + 1))]) (rest := []) Z hS hP (c_X6_tell g l (xs (i + 1)) M h6) yo_X6_tell kw_890 (z_recv6 Z hP) (by decide) hl.1 rfl rfl (Nat.le_of_ble_eq_true rfl) zd_1772 (fun H locs hP hS => ?_)
  refine lv_aload_n hx hb zd_1775 rfl (lv_at hl 2 rfl) ?_
  refine z_arg (j := 1) Z hl hS hL (by omega) (by decide) za_1776 ?_
  refine z_call (As := [.int (xs (i + 1))]) (rest := [.int r]) Z hS hP (c_X7_tell g l (xs (i + 1)) M1 h7) yo_X7_tell kw_1429 (z_recv7 Z hP) (by decide) hl.1 rfl rfl (Nat.le_of_ble_eq_true rfl) zd_1781 (fun H locs hP hS => ?_)
  refine lv_icmp_eq (tgt := 1871) hx hb zd_1784 (by decide) (fun _ => ?_) (fun c9 => absurd rfl c9)
  exact kk M2 H locs hR2 hP hS
theorem z_case45 {g : sk_G} {p : Program} {l : Launch} {e : Env} {s : State} {m : MethodId} {below : List Frame} {meth : Method} {c : Code} {b L i : Nat} {xs : Nat → Int32} {H : Heap} {locs : List Loc} {ls : Array Slot} {cells slots : Nat} {Q : State → Prop} {M : sk_M} (Z : z_C g p s m meth c b L xs) (hL : L ≤ 3072) (hi : i + 6 ≤ L) (hl : lv_has ls 4 [(0, .ref b), (1, .ref (sk_ad g 0)), (2, .ref (sk_ad g 88)), (3, .int (nI i))]) (hS : va_S (fun q => s.heap.size ≤ q) s.heap H locs) (hP : sk_P g M H) (hR : r_all M) (hc1 : cells ≤ 600000) (hc2 : slots ≤ 7302250)
    (kk : ∀ (M2 : sk_M) (H2 : Heap) (locs2 : List Loc), r_all M2 → sk_P g M2 H2 → va_S (fun q => s.heap.size ≤ q) s.heap H2 locs2 → W p l e room_1 s m #[Value.ref b] below meth c H2 locs2 cells slots Q (F0 m 1871 ls [])) : W p l e room_1 s m #[Value.ref b] below meth c H locs cells slots Q (F0 m 1789 ls []) := by
  have hx := Z.1
  have hb := Z.2.1
  obtain ⟨r, M1, M2, h6, h7, hR2⟩ := t_check (xs (i + 1)) (xs (i + 2)) M hR
  refine lv_aload_n hx hb zd_1789 rfl (lv_at hl 1 rfl) ?_
  refine z_arg (j := 1) Z hl hS hL (by omega) (by decide) za_1790 ?_
  refine z_arg (j := 2) Z hl hS hL (by omega) (by decide) za_1795 ?_
  refine z_call (As := [.int (xs (i + 1)), .int (xs (i + 2))]) (rest := []) Z hS hP (c_X6_check g l (xs (i + 1)) (xs (i + 2)) M h6) yo_X6_check kw_894 (z_recv6 Z hP) (by decide) hl.1 rfl rfl (Nat.le_of_ble_eq_true rfl) zd_1800 (fun H locs hP hS => ?_)
  refine lv_aload_n hx hb zd_1803 rfl (lv_at hl 2 rfl) ?_
  refine z_arg (j := 1) Z hl hS hL (by omega) (by decide) za_1804 ?_
  refine z_arg (j := 2) Z hl hS hL (by omega) (by decide) za_1809 ?_
  refine z_call (As := [.int (xs (i + 1)), .int (xs (i + 2))]) (rest := [.int r]) Z hS hP (c_X7_check g l (xs (i + 1)) (xs (i + 2)) M1 h7) yo_X7_check kw_1433 (z_recv7 Z hP) (by decide) hl.1 rfl rfl (Nat.le_of_ble_eq_true rfl) zd_1814 (fun H locs hP hS => ?_)
  refine lv_icmp_eq (tgt := 1871) hx hb zd_1817 (by decide) (fun _ => ?_) (fun c9 => absurd rfl c9)
  exact kk M2 H locs hR2 hP hS
theorem z_case46 {g : sk_G} {p : Program} {l : Launch} {e : Env} {s : State} {m : MethodId} {below : List Frame} {meth : Method} {c : Code} {b L i : Nat} {xs : Nat → Int32} {H : Heap} {locs : List Loc} {ls : Array Slot} {cells slots : Nat} {Q : State → Prop} {M : sk_M} (Z : z_C g p s m meth c b L xs) (hL : L ≤ 3072) (hi : i + 6 ≤ L) (hl : lv_has ls 4 [(0, .ref b), (1, .ref (sk_ad g 0)), (2, .ref (sk_ad g 88)), (3, .int (nI i))]) (hS : va_S (fun q => s.heap.size ≤ q) s.heap H locs) (hP : sk_P g M H) (hR : r_all M) (hc1 : cells ≤ 600000) (hc2 : slots ≤ 7302250)
    (kk : ∀ (M2 : sk_M) (H2 : Heap) (locs2 : List Loc), r_all M2 → sk_P g M2 H2 → va_S (fun q => s.heap.size ≤ q) s.heap H2 locs2 → W p l e room_1 s m #[Value.ref b] below meth c H2 locs2 cells slots Q (F0 m 1871 ls [])) : W p l e room_1 s m #[Value.ref b] below meth c H locs cells slots Q (F0 m 1822 ls []) := by
  have hx := Z.1
  have hb := Z.2.1
  obtain ⟨r, M1, M2, h6, h7, hR2⟩ := t_keep  M hR
  refine lv_aload_n hx hb zd_1822 rfl (lv_at hl 1 rfl) ?_
  refine z_call (As := []) (rest := []) Z hS hP (c_X6_keep g l M h6) yo_X6_keep kw_907 (z_recv6 Z hP) (by decide) hl.1 rfl rfl (Nat.le_of_ble_eq_true rfl) zd_1823 (fun H locs hP hS => ?_)
  refine lv_aload_n hx hb zd_1826 rfl (lv_at hl 2 rfl) ?_
  refine z_call (As := []) (rest := [.int r]) Z hS hP (c_X7_keep g l M1 h7) yo_X7_keep kw_1442 (z_recv7 Z hP) (by decide) hl.1 rfl rfl (Nat.le_of_ble_eq_true rfl) zd_1827 (fun H locs hP hS => ?_)
  refine lv_icmp_eq (tgt := 1871) hx hb zd_1830 (by decide) (fun _ => ?_) (fun c9 => absurd rfl c9)
  exact kk M2 H locs hR2 hP hS
theorem z_case47 {g : sk_G} {p : Program} {l : Launch} {e : Env} {s : State} {m : MethodId} {below : List Frame} {meth : Method} {c : Code} {b L i : Nat} {xs : Nat → Int32} {H : Heap} {locs : List Loc} {ls : Array Slot} {cells slots : Nat} {Q : State → Prop} {M : sk_M} (Z : z_C g p s m meth c b L xs) (hL : L ≤ 3072) (hi : i + 6 ≤ L) (hl : lv_has ls 4 [(0, .ref b), (1, .ref (sk_ad g 0)), (2, .ref (sk_ad g 88)), (3, .int (nI i))]) (hS : va_S (fun q => s.heap.size ≤ q) s.heap H locs) (hP : sk_P g M H) (hR : r_all M) (hc1 : cells ≤ 600000) (hc2 : slots ≤ 7302250)
    (kk : ∀ (M2 : sk_M) (H2 : Heap) (locs2 : List Loc), r_all M2 → sk_P g M2 H2 → va_S (fun q => s.heap.size ≤ q) s.heap H2 locs2 → W p l e room_1 s m #[Value.ref b] below meth c H2 locs2 cells slots Q (F0 m 1871 ls [])) : W p l e room_1 s m #[Value.ref b] below meth c H locs cells slots Q (F0 m 1835 ls []) := by
  have hx := Z.1
  have hb := Z.2.1
  obtain ⟨r, M1, M2, h6, h7, hR2⟩ := t_back  M hR
  refine lv_aload_n hx hb zd_1835 rfl (lv_at hl 1 rfl) ?_
  refine z_call (As := []) (rest := []) Z hS hP (c_X6_back g l M h6) yo_X6_back kw_916 (z_recv6 Z hP) (by decide) hl.1 rfl rfl (Nat.le_of_ble_eq_true rfl) zd_1836 (fun H locs hP hS => ?_)
  refine lv_aload_n hx hb zd_1839 rfl (lv_at hl 2 rfl) ?_
  refine z_call (As := []) (rest := [.int r]) Z hS hP (c_X7_back g l M1 h7) yo_X7_back kw_1446 (z_recv7 Z hP) (by decide) hl.1 rfl rfl (Nat.le_of_ble_eq_true rfl) zd_1840 (fun H locs hP hS => ?_)
  refine lv_icmp_eq (tgt := 1871) hx hb zd_1843 (by decide) (fun _ => ?_) (fun c9 => absurd rfl c9)
  exact kk M2 H locs hR2 hP hS
theorem z_case48 {g : sk_G} {p : Program} {l : Launch} {e : Env} {s : State} {m : MethodId} {below : List Frame} {meth : Method} {c : Code} {b L i : Nat} {xs : Nat → Int32} {H : Heap} {locs : List Loc} {ls : Array Slot} {cells slots : Nat} {Q : State → Prop} {M : sk_M} (Z : z_C g p s m meth c b L xs) (hL : L ≤ 3072) (hi : i + 6 ≤ L) (hl : lv_has ls 4 [(0, .ref b), (1, .ref (sk_ad g 0)), (2, .ref (sk_ad g 88)), (3, .int (nI i))]) (hS : va_S (fun q => s.heap.size ≤ q) s.heap H locs) (hP : sk_P g M H) (hR : r_all M) (hc1 : cells ≤ 600000) (hc2 : slots ≤ 7302250)
    (kk : ∀ (M2 : sk_M) (H2 : Heap) (locs2 : List Loc), r_all M2 → sk_P g M2 H2 → va_S (fun q => s.heap.size ≤ q) s.heap H2 locs2 → W p l e room_1 s m #[Value.ref b] below meth c H2 locs2 cells slots Q (F0 m 1871 ls [])) : W p l e room_1 s m #[Value.ref b] below meth c H locs cells slots Q (F0 m 1848 ls []) := by
  have hx := Z.1
  have hb := Z.2.1
  obtain ⟨r, h6, h7⟩ := t_count (xs (i + 1)) M hR
  refine lv_aload_n hx hb zd_1848 rfl (lv_at hl 1 rfl) ?_
  refine z_arg (j := 1) Z hl hS hL (by omega) (by decide) za_1849 ?_
  refine z_call (As := [.int (xs (i + 1))]) (rest := []) Z hS hP (c_X6_count g l (xs (i + 1)) M h6) yo_X6_count kw_920 (z_recv6 Z hP) (by decide) hl.1 rfl rfl (Nat.le_of_ble_eq_true rfl) zd_1854 (fun H locs hP hS => ?_)
  refine lv_aload_n hx hb zd_1857 rfl (lv_at hl 2 rfl) ?_
  refine z_arg (j := 1) Z hl hS hL (by omega) (by decide) za_1858 ?_
  refine z_call (As := [.int (xs (i + 1))]) (rest := [.int r]) Z hS hP (c_X7_count g l (xs (i + 1)) M h7) yo_X7_count kw_1450 (z_recv7 Z hP) (by decide) hl.1 rfl rfl (Nat.le_of_ble_eq_true rfl) zd_1863 (fun H locs hP hS => ?_)
  refine lv_icmp_eq (tgt := 1871) hx hb zd_1866 (by decide) (fun _ => ?_) (fun c9 => absurd rfl c9)
  exact kk M H locs hR hP hS
