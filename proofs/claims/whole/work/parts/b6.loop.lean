/-! The law: its loop, and its start. -/
set_option maxHeartbeats 4000000 in
theorem z_loop {g : sk_G} {p : Program} {l : Launch} {e : Env} {s : State} {m : MethodId} {below : List Frame} {meth : Method} {c : Code} {b L : Nat} {xs : Nat → Int32} {cells slots : Nat} (Z : z_C g p s m meth c b L xs) (hr : meth.sig.returnType = ret) (hlocks : meth.locks = false) (hL : L ≤ 3072) (hc1 : cells ≤ 600000) (hc2 : slots ≤ 7302250) :
    ∀ (n i : Nat) (M : sk_M) (H : Heap) (locs : List Loc) (ls : Array Slot), L < i + n → i ≤ L → lv_has ls 4 [(0, .ref b), (1, .ref (sk_ad g 0)), (2, .ref (sk_ad g 88)), (3, .int (nI i))] → va_S (fun q => s.heap.size ≤ q) s.heap H locs → sk_P g M H → r_all M →
      W p l e room_1 s m #[Value.ref b] below meth c H locs cells slots (lw_Z below #[Value.ref b] s) (F0 m 18 ls []) := by
  intro n
  induction n with
  | zero => intro i M H locs ls h1 h2; exact absurd h1 (by omega)
  | succ n ih =>
    intro i M H locs ls h1 h2 hl hS hP hR
    have hx := Z.1
    have hb := Z.2.1
    have hX := Z.2.2.2.2.2.1
    have hbl := Z.2.2.2.2.2.2.1
    have hbA : ¬ (fun q : Nat => s.heap.size ≤ q) b := Nat.not_le.mpr hbl
    refine lv_iload_n hx hb zd_18 rfl (lv_at hl 3 rfl) ?_
    refine lv_aload_n hx hb zd_19 rfl (lv_at hl 0 rfl) ?_
    refine va_slen hx hb hX hbl hbA hS zd_20 ?_
    refine lv_bipush (v := 6) hx hb zd_21 (by decide) ?_
    refine lv_isub hx hb zd_23 ?_
    have e6 : (6 : Int32).toInt = 6 := rfl
    have eL : (Int32.ofNat L).toInt = (L : Int) := q_toI (n := L) (by omega)
    have es : (Int32.ofNat L - 6).toInt = (L : Int) - 6 := by rw [q_subI (by rw [eL, e6]; omega) (by rw [eL, e6]; omega), eL, e6]
    refine lv_icmp_gt (tgt := 1877) hx hb zd_24 (by decide) (fun c9 => ?_) (fun c9 => ?_)
    · refine lv_iconst (v := 1) hx hb zd_1877 (by decide) ?_
      refine va_forget (fun q hq => hS.2.2 q hq) ?_
      refine W.widen hc1 hc2 ?_
      exact lw_ret hx hb hr hlocks zd_1878
    · have hi : i + 6 ≤ L := by
        rw [q_ltI, es, q_toI (by omega)] at c9
        omega
      refine lv_aload_n hx hb zd_27 rfl (lv_at hl 0 rfl) ?_
      refine lv_iload_n hx hb zd_28 rfl (lv_at hl 3 rfl) ?_
      refine va_sld hx hb hX hbl hbA hS (vp_in_nI (by omega) (by omega)) zd_29 ?_
      rw [q_clamp (by omega)]
      refine lv_bipush (v := 63) hx hb zd_30 (by decide) ?_
      refine lv_iand hx hb zd_32 ?_
      obtain ⟨k, hk, ek⟩ := pk_andE (xs i) (m := 63) 6 (by decide)
      rw [ek]
      refine z_switch (n := k) hk Z hL hi hl hS hP hR hc1 hc2 (fun M2 H2 locs2 hR2 hP2 hS2 => ?_)
      refine lv_iinc (v := nI (i + 6)) (lv' := [(3, .int (nI (i + 6))), (0, .ref b), (1, .ref (sk_ad g 0)), (2, .ref (sk_ad g 88))]) hx hb zd_1871 hl (k := 3) rfl (nI_add i 6) (by decide) rfl (fun ls hl => ?_)
      refine lv_goto (tgt := 18) hx hb zd_1874 (by decide) ?_
      exact ih (i + 6) M2 H2 locs2 ls (by omega) hi (lv_sub hl [1, 2, 3, 0] rfl) hS2 hP2 hR2
set_option maxHeartbeats 4000000 in
theorem whole_start {p : Program} {e : Env} {s : State} {m : MethodId} {below : List Frame} {meth : Method} {c : Code} (l : Launch) (hflags : l.flags = flags0) {b L : Nat} {xs : Nat → Int32} (hL : L ≤ 3072) (C0 : lw_At p s m meth c b L xs) : W p l e room_1 s m #[Value.ref b] below meth c s.heap [] 0 0 (lw_Z below #[Value.ref b] s) (entryFrame m ([Value.ref b] : List Value).toArray 4) := by
  obtain ⟨hx, hb, hr, hml, hown, htl, hX, hbl, hlocks, hgv⟩ := id C0
  obtain ⟨D, ac, hK⟩ := z_K htl
  obtain ⟨aK, aV, ka, hE⟩ := z_E0 htl hgv
  have hts : ∀ w ∈ sk_W, w.before #[Value.ref b] s = true := fun w hw => htl w (List.mem_filter.mp hw).1
  have hA : ∀ q : Nat, s.heap.size ≤ q → (fun q : Nat => s.heap.size ≤ q) q := fun _ h => h
  have hS : va_S (fun q : Nat => s.heap.size ≤ q) s.heap s.heap [] := va_S.rf
  have hP : va_P D sk_cl [] s.heap := fun k q h => by simp at h
  have hD : va_D (fun q : Nat => s.heap.size ≤ q) [] := ⟨fun i j p q h => by simp at h, fun k q h => by simp at h⟩
  have hl := lv_entry ([.ref b]) (n := 4) (Nat.le_of_ble_eq_true rfl)
  rw [lg_entry_eq]
  generalize (lg_sl ([.ref b]) ++ List.replicate (4 - (lg_sl ([.ref b])).length) Slot.unset).toArray = ls at hl ⊢
  have hl : lv_has ls 4 [(0, .ref b)] := hl
  refine va_new (D := D) (cl := sk_cl) (tys := k_ty ac) (ci := 6) (C := RX6) (T := TX6) (N := 13) (fs := [.null, .null, .null, .null, .null, .null, .null, .null, .null, .null, .null, .int 0, .int 0]) hx hb hts (sk_hin 6 _ rfl) tyX6 tyX6_ok hown (htl (.classLink R_law 7 RX6) (z_m (i := 79) (by decide +kernel))) (htl _ (z_inst 6 _ rfl)) (htl (.initialized RX6) (z_m (i := 62) (by decide +kernel))) hK.1 hP hD hS hA rfl k_dfX6 (Nat.le_of_ble_eq_true rfl) (Nat.le_of_ble_eq_true rfl) zd_0 (fun q6 H hP hD hS => ?_)
  refine lv_dup hx hb zd_3 rfl ?_
  refine z_ctor (X := []) (w0 := (q6, .inr (6, [.null, .null, .null, .null, .null, .null, .null, .null, .null, .null, .null, .int 0, .int 0]))) (blk := k_SC ac) hx hb hml hown hts hK hl.1 hP hD hS (c_SC D ac l q6 H.size) k_yX6 rfl rfl (sk_m (i := 81) (by decide +kernel) (by decide +kernel)) ⟨Nat.le_of_ble_eq_true rfl, Nat.le_of_ble_eq_true rfl⟩ (Nat.le_of_ble_eq_true rfl) zd_4 ⟨Nat.le_of_ble_eq_true rfl, Nat.le_of_ble_eq_true rfl⟩ (fun u6 H locs hu hPn hDn hSn => ?_)
  subst hu
  refine lv_astore_n (lv' := [(1, .ref (u6 0)), (0, .ref b)]) hx hb zd_7 rfl hl (by decide) rfl (fun ls hl => ?_)
  refine va_new (D := D) (cl := sk_cl) (tys := k_ty ac) (ci := 7) (C := RX7) (T := TX7) (N := 33) (ws := k_SC ac u6) (fs := [.null, .null, .null, .int 0, .null, .null, .null, .null, .null, .null, .null, .null, .null, .null, .null, .int 0, .int 0, .int 0, .int 0, .int 0, .int 0, .int 0, .int 0, .int 0, .int 0, .int 0, .null, .null, .null, .null, .null, .int 0, .null]) hx hb hts (sk_hin 7 _ rfl) tyX7 tyX7_ok hown (htl (.classLink R_law 10 RX7) (z_m (i := 929) (by decide +kernel))) (htl _ (z_inst 7 _ rfl)) (htl (.initialized RX7) (z_m (i := 70) (by decide +kernel))) hK.1 hPn hDn hSn hA rfl k_dfX7 (Nat.le_of_ble_eq_true rfl) (Nat.le_of_ble_eq_true rfl) zd_8 (fun q7 H hP hD hS => ?_)
  refine lv_dup hx hb zd_11 rfl ?_
  refine z_ctor (X := k_SC ac u6) (w0 := (q7, .inr (7, [.null, .null, .null, .int 0, .null, .null, .null, .null, .null, .null, .null, .null, .null, .null, .null, .int 0, .int 0, .int 0, .int 0, .int 0, .int 0, .int 0, .int 0, .int 0, .int 0, .int 0, .null, .null, .null, .null, .null, .int 0, .null]))) (blk := k_Mo ac) hx hb hml hown hts hK hl.1 hP hD hS (c_Mo D ac l q7 H.size) k_yX7 rfl rfl (sk_m (i := 931) (by decide +kernel) (by decide +kernel)) ⟨Nat.le_of_ble_eq_true rfl, Nat.le_of_ble_eq_true rfl⟩ (Nat.le_of_ble_eq_true rfl) zd_12 ⟨Nat.le_of_ble_eq_true rfl, Nat.le_of_ble_eq_true rfl⟩ (fun u7 H locs hu hPm hDm hSm => ?_)
  subst hu
  refine lv_astore_n (lv' := [(2, .ref (u7 0)), (1, .ref (u6 0)), (0, .ref b)]) hx hb zd_15 rfl hl (by decide) rfl (fun ls hl => ?_)
  refine lv_iconst (v := 0) hx hb zd_16 (by decide) ?_
  refine lv_istore_n (lv' := [(3, .int 0), (2, .ref (u7 0)), (1, .ref (u6 0)), (0, .ref b)]) hx hb zd_17 rfl hl (by decide) rfl (fun ls hl => ?_)
  obtain ⟨d1, d2⟩ := k_DD hDm
  have hP1 := k_PP aK aV ka hPm
  have Z : z_C (k_g D ac u6 u7 aK aV ka) p s m meth c b L xs := ⟨hx, hb, hml, hown, hts, hX, hbl, ⟨hK.1, d1⟩, z_E1 hE d2, d2⟩
  exact z_loop Z hr hlocks hL (Nat.le_of_ble_eq_true rfl) (Nat.le_of_ble_eq_true rfl) (L + 1) 0 k_M0 H locs ls (by omega) (by omega) (lv_sub hl [3, 2, 1, 0] rfl) hSm hP1 k_all0
