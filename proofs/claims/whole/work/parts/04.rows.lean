section SKR
variable {p : Program} {l : Launch} {e : Env} {R : Room} {s : State} {m : MethodId} {args : Array Value} {below : List Frame} {meth : Method} {c : Code} {H : Heap} {locs : List Loc} {Q : State → Prop}
variable {g : sk_G} {cc : ByteArray} {nL : Nat} {own : String} {ret : Option FieldType} {pc : Nat} {ls : Array Slot} {rest : List Value} {M : sk_M} {cells slots : Nat}
theorem sk_iald (C : sk_C g p s m args meth c cc nL own ret) (hM : sk_P g M H) {o n : Nat} (ho : sk_kd o = (0, n)) {i : Int32} (hin : sk_in i n = true) (hdg : decode cc pc = .ok (.iaload, 1))
    (kk : W p l e R s m args below meth c H locs cells slots Q (F0 m (pc + 1) ls (.int (M o i.toNatClampNeg) :: rest))) : W p l e R s m args below meth c H locs cells slots Q (F0 m pc ls (.int i :: .ref (sk_ad g o) :: rest)) := by
  obtain ⟨hx, hb, hml, hown, hts, hK, hE, hr, hlocks⟩ := C
  exact va_iald (D := sk_D g) (cl := sk_cl) (tys := sk_ty g) (f := M o) (cA := sk_ac g 0) hx hb hK.1 hM o 0 (by rw [sk_ws_at g M (sk_lt ho (by decide)), sk_en_i ho]) rfl (sk_in_vp hin) hdg kk
theorem sk_alen (C : sk_C g p s m args meth c cc nL own ret) (hM : sk_P g M H) {o n : Nat} (ho : sk_kd o = (0, n)) {v : Int32} (hv : Int32.ofNat n = v) (hdg : decode cc pc = .ok (.arraylength, 1))
    (kk : W p l e R s m args below meth c H locs cells slots Q (F0 m (pc + 1) ls (.int v :: rest))) : W p l e R s m args below meth c H locs cells slots Q (F0 m pc ls (.ref (sk_ad g o) :: rest)) := by
  obtain ⟨hx, hb, hml, hown, hts, hK, hE, hr, hlocks⟩ := C
  exact va_alen (D := sk_D g) (cl := sk_cl) (tys := sk_ty g) (x := (n, .inl (M o))) (cA := sk_ac g 0) (ty := .int) hx hb hK.1 hM o 0 (by rw [sk_ws_at g M (sk_lt ho (by decide)), sk_en_i ho]) rfl hv hdg kk
theorem sk_iast (C : sk_C g p s m args meth c cc nL own ret) (hM : sk_P g M H) (hS : va_S (sk_A g) s.heap H locs) {o n : Nat} (ho : sk_kd o = (0, n)) {i x : Int32} (hin : sk_in i n = true) (hdg : decode cc pc = .ok (.iastore, 1))
    (kk : ∀ (M1 : sk_M), M1 = sk_u M o i.toNatClampNeg x → ∀ (H1 : Heap) (locs1 : List Loc), sk_P g M1 H1 → va_S (sk_A g) s.heap H1 locs1 → W p l e R s m args below meth c H1 locs1 cells slots Q (F0 m (pc + 1) ls rest)) : W p l e R s m args below meth c H locs cells slots Q (F0 m pc ls (.int x :: .int i :: .ref (sk_ad g o) :: rest)) := by
  obtain ⟨hx, hb, hml, hown, hts, hK, hE, hr, hlocks⟩ := C
  have hlt := sk_lt ho (by decide)
  refine va_iast (D := sk_D g) (cl := sk_cl) (tys := sk_ty g) (f := M o) (cA := sk_ac g 0) hx hb hK.1 hM (sk_Dd hK M) hS o 0 (by rw [sk_ws_at g M hlt, sk_en_i ho]) rfl (sk_in_vp hin) hdg (fun H1 locs1 hP1 _ hS1 => ?_)
  refine kk _ rfl H1 locs1 ?_ hS1
  rw [← sk_en_i (g := g) ho, sk_ws_set g M hlt] at hP1
  exact hP1
theorem sk_aald (C : sk_C g p s m args meth c cc nL own ret) (hM : sk_P g M H) {o k n t : Nat} (ho : sk_kd o = (k + 1, n)) (hk : k < 3) {i : Int32} (hin : sk_in i n = true) (ht : sk_rf o i.toNatClampNeg = t) (hdg : decode cc pc = .ok (.aaload, 1))
    (kk : W p l e R s m args below meth c H locs cells slots Q (F0 m (pc + 1) ls (.ref (sk_ad g t) :: rest))) : W p l e R s m args below meth c H locs cells slots Q (F0 m pc ls (.int i :: .ref (sk_ad g o) :: rest)) := by
  obtain ⟨hx, hb, hml, hown, hts, hK, hE, hr, hlocks⟩ := C
  subst ht
  have hlt := sk_in_lt hin
  have ha : (sk_ws g M)[o]? = some (sk_ad g o, .inl (sk_ac g (k + 1), n, .inr (.inr (.inr (.inr (fun i => some (sk_ad g (sk_rf o i)))))))) := by rw [sk_ws_at g M (sk_lt ho (by omega)), sk_en_q ho (by omega)]
  obtain ⟨ty, hty, hisr⟩ : ∃ ty : FieldType, (sk_ty g)[k + 1]? = some (sk_ac g (k + 1), ty) ∧ ty.isReference = true := by
    match k, hk with
    | 0, _ => exact ⟨_, rfl, rfl⟩
    | 1, _ => exact ⟨_, rfl, rfl⟩
    | 2, _ => exact ⟨_, rfl, rfl⟩
  have hcell := hM o _ ha
  refine W.aald (v := .ref (sk_ad g (sk_rf o i.toNatClampNeg))) (ty := ty) hx hb hcell ((hK.1.2 (k + 1) _ hty).1 n (fun j => va_rf (some (sk_ad g (sk_rf o j))))) hisr (fun q => by cases q) ?_ ?_ rfl rfl hdg kk
  · show ¬ (i < 0 ∨ (arrV _ _ _).slots.size ≤ _)
    rw [arrV_size]
    exact sk_in_vp hin
  · show (arrV _ _ _).slots[_]? = _
    rw [arrV_read _ _ hlt]
    rfl
theorem sk_hin (ci : Nat) (q : vw_C) (h : sk_cl[ci]? = some q) : ∀ w ∈ u_ws q.1 q.2.1 q.2.2, w ∈ sk_W := by
  match ci, h with
  | 0, h => cases h; decide +kernel
  | 1, h => cases h; decide +kernel
  | 2, h => cases h; decide +kernel
  | 3, h => cases h; decide +kernel
  | 4, h => cases h; decide +kernel
  | 5, h => cases h; decide +kernel
  | 6, h => cases h; decide +kernel
  | 7, h => cases h; decide +kernel
  | k + 8, h => simp [sk_cl] at h
theorem sk_fs_at {o ci n j : Nat} {r : Nat → Int32} (hj : j < n) : ((List.range n).map (sk_fv g o ci r))[j]? = some (sk_fv g o ci r j) := by simp [hj]
theorem sk_getI (C : sk_C g p s m args meth c cc nL own ret) (hM : sk_P g M H) {o ci n j idx : Nat} {cn : String} {T : u_T} (ho : sk_kd o = (10 + ci, n)) (hc : sk_cl[ci]? = some (cn, T, n)) (hj : j < n) (hi : sk_isR ci j = false)
    (hlk : Cond.fieldLink own idx (T j).1 (T j).2.1 (T j).2.2.1 ∈ sk_W) (hdg : decode cc pc = .ok (.getfield idx, 3))
    (kk : W p l e R s m args below meth c H locs cells slots Q (F0 m (pc + 3) ls (.int (M o j) :: rest))) : W p l e R s m args below meth c H locs cells slots Q (F0 m pc ls (.ref (sk_ad g o) :: rest)) := by
  obtain ⟨hx, hb, hml, hown, hts, hK, hE, hr, hlocks⟩ := C
  have hlt : o < 109 := sk_lt ho (by omega)
  refine va_get (D := sk_D g) (cl := sk_cl) (tys := sk_ty g) (ci := ci) (v := .int (M o j)) (C := cn) (T := T) (N := n) hx hb hts (sk_hin ci _ hc) hown hK.1 hM o (by rw [sk_ws_at g M hlt, sk_en_o ho]) hc j hj (hts _ hlk) (fun _ h9 => h9) ?_ hdg kk
  rw [sk_fs_at hj, sk_fv, if_neg (by rw [hi]; decide)]
theorem sk_getR (C : sk_C g p s m args meth c cc nL own ret) (hM : sk_P g M H) {o ci n j idx t : Nat} {cn : String} {T : u_T} (ho : sk_kd o = (10 + ci, n)) (hc : sk_cl[ci]? = some (cn, T, n)) (hj : j < n) (hi : sk_isR ci j = true)
    (ht : sk_rf o j = t) (hlk : Cond.fieldLink own idx (T j).1 (T j).2.1 (T j).2.2.1 ∈ sk_W) (hdg : decode cc pc = .ok (.getfield idx, 3))
    (kk : W p l e R s m args below meth c H locs cells slots Q (F0 m (pc + 3) ls (.ref (sk_ad g t) :: rest))) : W p l e R s m args below meth c H locs cells slots Q (F0 m pc ls (.ref (sk_ad g o) :: rest)) := by
  obtain ⟨hx, hb, hml, hown, hts, hK, hE, hr, hlocks⟩ := C
  subst ht
  have hlt : o < 109 := sk_lt ho (by omega)
  refine va_get (D := sk_D g) (cl := sk_cl) (tys := sk_ty g) (ci := ci) (v := .ref (sk_ad g (sk_rf o j))) (C := cn) (T := T) (N := n) hx hb hts (sk_hin ci _ hc) hown hK.1 hM o (by rw [sk_ws_at g M hlt, sk_en_o ho]) hc j hj (hts _ hlk) (fun _ h9 => h9) ?_ hdg kk
  rw [sk_fs_at hj, sk_fv, if_pos hi]
theorem sk_fs_set {o ci n j : Nat} {r : Nat → Int32} (hj : j < n) (hi : sk_isR ci j = false) (v : Int32) : ((List.range n).map (sk_fv g o ci r)).set j (.int v) = (List.range n).map (sk_fv g o ci (upd r j v)) := by
  apply List.ext_getElem?
  intro k
  by_cases hk : k < n
  · by_cases e : k = j
    · subst e
      rw [List.getElem?_set_self (by simpa using hk), sk_fs_at hk, sk_fv, if_neg (by rw [hi]; decide), upd, if_pos rfl]
    · rw [List.getElem?_set_ne (Ne.symm e), sk_fs_at hk, sk_fs_at hk]
      simp only [sk_fv, upd, if_neg e]
  · rw [List.getElem?_eq_none (by simpa using hk), List.getElem?_eq_none (by simpa using hk)]
theorem sk_tyok (ci : Nat) (q : vw_C) (h : sk_cl[ci]? = some q) : (∃ ty0 : Nat → FieldType, ∀ k, k < q.2.2 → parseFieldDescriptor (q.2.1 k).2.2.1 = some (ty0 k)) ∧ (∀ a, a < q.2.2 → ∀ b, b < q.2.2 → a ≠ b → (q.2.1 a).2.1 ≠ (q.2.1 b).2.1) := by
  match ci, h with
  | 0, h => cases h; exact ⟨⟨_, tyX0_ok⟩, nmX0⟩
  | 1, h => cases h; exact ⟨⟨_, tyX1_ok⟩, nmX1⟩
  | 2, h => cases h; exact ⟨⟨_, tyX2_ok⟩, nmX2⟩
  | 3, h => cases h; exact ⟨⟨_, tyX3_ok⟩, nmX3⟩
  | 4, h => cases h; exact ⟨⟨_, tyX4_ok⟩, nmX4⟩
  | 5, h => cases h; exact ⟨⟨_, tyX5_ok⟩, nmX5⟩
  | 6, h => cases h; exact ⟨⟨_, tyX6_ok⟩, nmX6⟩
  | 7, h => cases h; exact ⟨⟨_, tyX7_ok⟩, nmX7⟩
  | k + 8, h => simp [sk_cl] at h
theorem sk_put (C : sk_C g p s m args meth c cc nL own ret) (hM : sk_P g M H) (hS : va_S (sk_A g) s.heap H locs) {o ci n j idx : Nat} {cn : String} {T : u_T} {x : Int32} (ho : sk_kd o = (10 + ci, n)) (hc : sk_cl[ci]? = some (cn, T, n)) (hj : j < n) (hi : sk_isR ci j = false) (hf : (T j).2.2.2 = false)
    {ty : FieldType} (hty : parseFieldDescriptor (T j).2.2.1 = some ty) (hnx : narrow ty (.int x) = .int x) (hfx : fits ty (.int x) = true)
    (hlk : Cond.fieldLink own idx (T j).1 (T j).2.1 (T j).2.2.1 ∈ sk_W) (hdg : decode cc pc = .ok (.putfield idx, 3))
    (kk : ∀ (M1 : sk_M), M1 = sk_u M o j x → ∀ (H1 : Heap) (locs1 : List Loc), sk_P g M1 H1 → va_S (sk_A g) s.heap H1 locs1 → W p l e R s m args below meth c H1 locs1 cells slots Q (F0 m (pc + 3) ls rest)) : W p l e R s m args below meth c H locs cells slots Q (F0 m pc ls (.int x :: .ref (sk_ad g o) :: rest)) := by
  obtain ⟨hx, hb, hml, hown, hts, hK, hE, hr, hlocks⟩ := C
  have hlt : o < 109 := sk_lt ho (by omega)
  obtain ⟨⟨ty0, hty0⟩, hnm⟩ := sk_tyok ci _ hc
  refine va_put (D := sk_D g) (cl := sk_cl) (tys := sk_ty g) (ci := ci) (v := .int x) (ty := ty) (C := cn) (T := T) (N := n) hx hb hts (sk_hin ci _ hc) ty0 hty0 hnm hown hK.1 hM (sk_Dd hK M) hS o (by rw [sk_ws_at g M hlt, sk_en_o ho]) hc j hj (hts _ hlk) (fun _ h9 => h9) hf hty hnx hfx (by simpa using hj) hdg (fun H1 locs1 hP1 _ hS1 => ?_)
  refine kk _ rfl H1 locs1 ?_ hS1
  rw [sk_fs_set hj hi, ← sk_en_o (g := g) ho, sk_ws_set g M hlt] at hP1
  exact hP1
theorem sk_putI (C : sk_C g p s m args meth c cc nL own ret) (hM : sk_P g M H) (hS : va_S (sk_A g) s.heap H locs) {o ci n j idx : Nat} {cn : String} {T : u_T} {x : Int32} (ho : sk_kd o = (10 + ci, n)) (hc : sk_cl[ci]? = some (cn, T, n)) (hj : j < n) (hi : sk_isR ci j = false) (hf : (T j).2.2.2 = false) (hty : parseFieldDescriptor (T j).2.2.1 = some .int)
    (hlk : Cond.fieldLink own idx (T j).1 (T j).2.1 (T j).2.2.1 ∈ sk_W) (hdg : decode cc pc = .ok (.putfield idx, 3))
    (kk : ∀ (M1 : sk_M), M1 = sk_u M o j x → ∀ (H1 : Heap) (locs1 : List Loc), sk_P g M1 H1 → va_S (sk_A g) s.heap H1 locs1 → W p l e R s m args below meth c H1 locs1 cells slots Q (F0 m (pc + 3) ls rest)) : W p l e R s m args below meth c H locs cells slots Q (F0 m pc ls (.int x :: .ref (sk_ad g o) :: rest)) :=
  sk_put C hM hS ho hc hj hi hf hty rfl rfl hlk hdg kk
-- returns
theorem sk_iret {d : Nat} {rr : Int32} {MM : sk_M} (C : sk_C g p s m args meth c cc nL own (some .int)) (hM : sk_P g M H) (hS : va_S (sk_A g) s.heap H locs) {v : Int32} (hv : v = rr ∧ M = MM) (hdg : decode cc pc = .ok (.ireturn, 1)) :
    W p l e (sk_rm d) s m args below meth c H locs 0 0 (MQ below (sk_QI g rr MM) args s 0 0 (sk_A g)) (F0 m pc ls [.int v]) := by
  obtain ⟨hx, hb, hml, hown, hts, hK, hE, hr, hlocks⟩ := C
  exact W.iret (v := v) hx hb hr (fun t ht hW => ⟨⟨v, M, rfl, hv, by show sk_P g M t.heap; rw [ht]; exact hM⟩, hS.F ht⟩) hS.2.2 hdg
theorem sk_zret {d : Nat} {rr : Int32} {MM : sk_M} {ty : FieldType} (C : sk_C g p s m args meth c cc nL own (some ty)) (hM : sk_P g M H) (hS : va_S (sk_A g) s.heap H locs) {v : Int32} (hn : narrow ty (.int v) = .int v) (hv : v = rr ∧ M = MM) (hdg : decode cc pc = .ok (.ireturn, 1)) :
    W p l e (sk_rm d) s m args below meth c H locs 0 0 (MQ below (sk_QI g rr MM) args s 0 0 (sk_A g)) (F0 m pc ls [.int v]) := by
  obtain ⟨hx, hb, hml, hown, hts, hK, hE, hr, hlocks⟩ := C
  exact W.zret (v := v) hx hb hr hn (fun t ht hW => ⟨⟨v, M, rfl, hv, by show sk_P g M t.heap; rw [ht]; exact hM⟩, hS.F ht⟩) hS.2.2 hdg
theorem sk_vret {d : Nat} {MM : sk_M} (C : sk_C g p s m args meth c cc nL own none) (hM : sk_P g M H) (hS : va_S (sk_A g) s.heap H locs) (hv : M = MM) (hdg : decode cc pc = .ok (.return_, 1)) :
    W p l e (sk_rm d) s m args below meth c H locs 0 0 (MQ below (sk_QV g MM) args s 0 0 (sk_A g)) (F0 m pc ls []) := by
  obtain ⟨hx, hb, hml, hown, hts, hK, hE, hr, hlocks⟩ := C
  exact W.vret hx hb hr (fun t ht hW => ⟨⟨M, rfl, hv, by show sk_P g M t.heap; rw [ht]; exact hM⟩, hS.F ht⟩) hS.2.2 hdg
theorem sk_sret {d : Nat} {i ii : Nat} {MM : sk_M} {cn : String} (C : sk_C g p s m args meth c cc nL own (some (.object cn))) (hM : sk_P g M H) (hS : va_S (sk_A g) s.heap H locs) (hv : i = ii ∧ M = MM) (hdg : decode cc pc = .ok (.areturn, 1)) :
    W p l e (sk_rm d) s m args below meth c H locs 0 0 (MQ below (sk_QS g ii MM) args s 0 0 (sk_A g)) (F0 m pc ls [.ref (sk_aK g i)]) := by
  obtain ⟨hx, hb, hml, hown, hts, hK, hE, hr, hlocks⟩ := C
  exact W.aret (v := .ref (sk_aK g i)) hx hb hr (Or.inl ⟨_, rfl⟩) (Or.inr ⟨_, rfl⟩) (fun t ht hW => ⟨⟨M, sk_aK g i, rfl, hv.2, by rw [hv.1], by show sk_P g M t.heap; rw [ht]; exact hM⟩, hS.F ht⟩) hS.2.2 hdg
-- calls
theorem sk_pre (C : sk_C g p s m args meth c cc nL own ret) (hM : sk_P g M H) (hS : va_S (sk_A g) s.heap H locs) (av : List Value) : ∀ U : State, U.heap = H → s.WarmedH U.vm → va_Pc av (sk_Pc g M) av.toArray U := by
  obtain ⟨hx, hb, hml, hown, hts, hK, hE, hr, hlocks⟩ := C
  exact fun U hU hW => ⟨rfl, by rw [hU]; exact hM, sk_K.moved hW.alike hK, sk_E.next hE hS hU hW⟩
def sk_yV (y : MethodName) (cy : ByteArray) (ny : Nat) (ry : Option FieldType) (n : Nat) : Prop := (y.cls ≠ "java/lang/invoke/MethodHandle" ∧ y.cls ≠ "java/lang/invoke/VarHandle" ∧ (parseMethodDescriptor y.desc).map (fun d => d.parameters.length) = some n) ∧ ny ≤ 21 ∧ Cond.code y cy ny ry ∈ sk_W ∧ Cond.instanceMethod y ∈ sk_W ∧ Cond.selects y.cls y y ∈ sk_W ∧ Cond.initialized y.cls ∈ sk_W
def sk_yS (y : MethodName) (cy : ByteArray) (ny : Nat) (ry : Option FieldType) (n : Nat) : Prop := (y.cls ≠ "java/lang/invoke/MethodHandle" ∧ y.cls ≠ "java/lang/invoke/VarHandle" ∧ (parseMethodDescriptor y.desc).map (fun d => d.parameters.length) = some n) ∧ ny ≤ 21 ∧ Cond.code y cy ny ry ∈ sk_W ∧ Cond.static y ∈ sk_W ∧ Cond.initialized y.cls ∈ sk_W
theorem sk_roomV {d dy ny : Nat} (hd : dy < d) (hn : ny ≤ 21) : (sk_rm dy).frames + 1 ≤ (sk_rm d).frames ∧ 8 + (ny + 11) + (sk_rm dy).locals ≤ (sk_rm d).locals := ⟨hd, by show 8 + (ny + 11) + 40 * dy ≤ 40 * d; omega⟩
/-- any virtual call: what it runs -/
theorem sk_runV {y : MethodName} {cy : ByteArray} {ny n dy d idx b : Nat} {ry : Option FieldType} {As : List Value} {st : List Value} {Qc : Array Value → State → Outcome → State → Prop} (C : sk_C g p s m args meth c cc nL own ret) (hc : sk_Met g l y cy ny ry dy (.ref b :: As) M Qc) (hy : sk_yV y cy ny ry n) (hlk : Cond.methodLink own idx y ∈ sk_W)
    (hrc : ∃ cell : Cell, H[b]? = some cell ∧ cell.vm.isStatics = false ∧ s.vm.findClass y.cls = some cell.cls) (hd : dy < d) (hM : sk_P g M H) (hS : va_S (sk_A g) s.heap H locs) (hsz : ls.size = nL) (hn : As.length = n) (hst : st = As.reverse ++ .ref b :: rest) (hr8 : (rest.map fun v => v.category).sum ≤ 8) (hdg : decode cc pc = .ok (.invokevirtual idx, 3)) :
    va_Run p l e (sk_rm d) s m args below meth c H locs 0 0 0 0 (F0 m pc ls st) rest (Qc (Value.ref b :: As).toArray) (sk_A g) := by
  have hp := sk_pre C hM hS (.ref b :: As)
  obtain ⟨hx, hb, hml, hown, hts, hK, hE, hr, hlocks⟩ := C
  obtain ⟨hd9, hny, hcd, him, hse, hini⟩ := hy
  have hG : GoodIn sk_W (wsV own idx y.cls y (Cond.code y cy ny ry :: sk_W)) := by
    have key : ∀ w ∈ sk_W, w ∈ sk_W ∧ ((w.onTables && w.keeps) = true ∨ ∃ ty, w = .arrayClass ty) := fun w hw => ⟨hw, good_of_word (List.mem_filter.mp hw).2⟩
    intro w hw
    rcases List.mem_append.mp hw with h | h
    · simp only [List.mem_cons, List.not_mem_nil, or_false] at h
      rcases h with rfl | rfl | rfl | rfl
      · exact key _ hlk
      · exact key _ him
      · exact key _ hse
      · exact key _ hini
    · exact sk_good hcd w h
  exact va_runV (As := As) (rest := rest) ⟨hx, hb, hml, hown, hts⟩ hc (cwV n hts hG rfl rfl rfl ⟨rfl, hd9⟩ (sk_roomV hd hny)) ⟨sk_blind, hrc, hp⟩ rfl hn hsz hst (lv_room hr8) hdg ⟨Nat.le_refl _, Nat.le_refl _⟩
theorem sk_runS {y : MethodName} {cy : ByteArray} {ny n dy d idx : Nat} {ry : Option FieldType} {As : List Value} {st : List Value} {Qc : Array Value → State → Outcome → State → Prop} (C : sk_C g p s m args meth c cc nL own ret) (hc : sk_Met g l y cy ny ry dy As M Qc) (hy : sk_yS y cy ny ry n) (hlk : Cond.methodLink own idx y ∈ sk_W)
    (hd : dy < d) (hM : sk_P g M H) (hS : va_S (sk_A g) s.heap H locs) (hsz : ls.size = nL) (hn : As.length = n) (hst : st = As.reverse ++ rest) (hr8 : (rest.map fun v => v.category).sum ≤ 8) (hdg : decode cc pc = .ok (.invokestatic idx, 3)) :
    va_Run p l e (sk_rm d) s m args below meth c H locs 0 0 0 0 (F0 m pc ls st) rest (Qc As.toArray) (sk_A g) := by
  have hp := sk_pre C hM hS As
  obtain ⟨hx, hb, hml, hown, hts, hK, hE, hr, hlocks⟩ := C
  obtain ⟨hd9, hny, hcd, hst2, hini⟩ := hy
  have hG : GoodIn sk_W (va_wsS own idx y (Cond.code y cy ny ry :: sk_W)) := by
    have key : ∀ w ∈ sk_W, w ∈ sk_W ∧ ((w.onTables && w.keeps) = true ∨ ∃ ty, w = .arrayClass ty) := fun w hw => ⟨hw, good_of_word (List.mem_filter.mp hw).2⟩
    intro w hw
    rcases List.mem_append.mp hw with h | h
    · simp only [List.mem_cons, List.not_mem_nil, or_false] at h
      rcases h with rfl | rfl | rfl
      · exact key _ hlk
      · exact key _ hst2
      · exact key _ hini
    · exact sk_good hcd w h
  exact va_runS (As := As) (rest := rest) ⟨hx, hb, hml, hown, hts⟩ hc (va_cwS n hts hG rfl rfl rfl hd9 (sk_roomV hd hny)) ⟨sk_blind, hp⟩ rfl hn hsz hst (lv_room hr8) hdg ⟨Nat.le_refl _, Nat.le_refl _⟩
theorem sk_recv {o ci n : Nat} {cn : String} {T : u_T} (C : sk_C g p s m args meth c cc nL own ret) (hM : sk_P g M H) (ho : sk_kd o = (10 + ci, n)) (hc : sk_cl[ci]? = some (cn, T, n)) : ∃ cell : Cell, H[sk_ad g o]? = some cell ∧ cell.vm.isStatics = false ∧ s.vm.findClass cn = some cell.cls := by
  obtain ⟨hx, hb, hml, hown, hts, hK, hE, hr, hlocks⟩ := C
  exact va_recv (q0 := o) (ci := ci) (q := (cn, T, n)) hK.1 hM hc (by rw [sk_ws_at g M (sk_lt ho (by omega)), sk_en_o ho])
theorem sk_contI {d : Nat} {r : Int32} {M' : sk_M} {st : List Value} {av : Array Value} (hr : va_Run p l e (sk_rm d) s m args below meth c H locs 0 0 0 0 (F0 m pc ls st) rest (sk_QI g r M' av) (sk_A g)) (hS : va_S (sk_A g) s.heap H locs)
    (kk : ∀ (H1 : Heap) (locs1 : List Loc), sk_P g M' H1 → va_S (sk_A g) s.heap H1 locs1 → W p l e (sk_rm d) s m args below meth c H1 locs1 0 0 Q (F0 m (pc + 3) ls (.int r :: rest))) : W p l e (sk_rm d) s m args below meth c H locs 0 0 Q (F0 m pc ls st) := by
  refine va_calli hr hS (fun q _ h => h) (fun q h => h) (fun r' u t H1 locs1 ht hvm hw hB hz hk hS1 => ?_)
  obtain ⟨rfl, rfl⟩ := hw
  rw [ht] at hB
  exact kk H1 locs1 hB hS1
theorem sk_contV {d : Nat} {M' : sk_M} {st : List Value} {av : Array Value} (hr : va_Run p l e (sk_rm d) s m args below meth c H locs 0 0 0 0 (F0 m pc ls st) rest (sk_QV g M' av) (sk_A g)) (hS : va_S (sk_A g) s.heap H locs)
    (kk : ∀ (H1 : Heap) (locs1 : List Loc), sk_P g M' H1 → va_S (sk_A g) s.heap H1 locs1 → W p l e (sk_rm d) s m args below meth c H1 locs1 0 0 Q (F0 m (pc + 3) ls rest)) : W p l e (sk_rm d) s m args below meth c H locs 0 0 Q (F0 m pc ls st) := by
  refine va_callv hr hS (fun q _ h => h) (fun q h => h) (fun u t H1 locs1 ht hvm hw hB hz hk hS1 => ?_)
  subst hw
  rw [ht] at hB
  exact kk H1 locs1 hB hS1
theorem sk_contS {d i : Nat} {M' : sk_M} {st : List Value} {av : Array Value} (hr : va_Run p l e (sk_rm d) s m args below meth c H locs 0 0 0 0 (F0 m pc ls st) rest (sk_QS g i M' av) (sk_A g)) (hS : va_S (sk_A g) s.heap H locs)
    (kk : ∀ (H1 : Heap) (locs1 : List Loc), sk_P g M' H1 → va_S (sk_A g) s.heap H1 locs1 → W p l e (sk_rm d) s m args below meth c H1 locs1 0 0 Q (F0 m (pc + 3) ls (.ref (sk_aK g i) :: rest))) : W p l e (sk_rm d) s m args below meth c H locs 0 0 Q (F0 m pc ls st) := by
  refine va_callr hr hS (fun q _ h => h) (fun q h => h) (fun u ra t H1 locs1 ht hvm hw hB hz hk hS1 => ?_)
  subst hw
  obtain ⟨rfl, hB⟩ := hB
  rw [ht] at hB
  exact kk H1 locs1 hB hS1
-- Math, arraycopy
theorem sk_mmax {d idx : Nat} {x y : Int32} (C : sk_C g p s m args meth c cc nL own ret) (hsz : ls.size = nL) (hw : Cond.static Lib.Math.max.name ∈ sk_W ∧ Cond.initialized "java/lang/Math" ∈ sk_W ∧ Cond.code Lib.Math.max.name Lib.Math.max.code 2 (some .int) ∈ sk_W) (hlk : Cond.methodLink own idx Lib.Math.max.name ∈ sk_W) (hd : 0 < d) (hr8 : (rest.map fun v => v.category).sum ≤ 8) (hdg : decode cc pc = .ok (.invokestatic idx, 3))
    (kk : W p l e (sk_rm d) s m args below meth c H locs 0 0 Q (F0 m (pc + 3) ls (.int (if x < y then y else x) :: rest))) : W p l e (sk_rm d) s m args below meth c H locs 0 0 Q (F0 m pc ls (.int y :: .int x :: rest)) := by
  obtain ⟨hx, hb, hml, hown, hts, hK, hE, hr, hlocks⟩ := C
  exact va_mmax (R := sk_rm d) hx hb (hml.trans hsz.symm) hown (hts _ hlk) (hts _ hw.1) (hts _ hw.2.1) (hts _ hw.2.2) hd (by show _ + 13 ≤ 40 * d; omega) (Nat.le_refl _) (Nat.le_refl _) hdg kk
theorem sk_mmin {d idx : Nat} {x y : Int32} (C : sk_C g p s m args meth c cc nL own ret) (hsz : ls.size = nL) (hw : Cond.static Lib.Math.min.name ∈ sk_W ∧ Cond.initialized "java/lang/Math" ∈ sk_W ∧ Cond.code Lib.Math.min.name Lib.Math.min.code 2 (some .int) ∈ sk_W) (hlk : Cond.methodLink own idx Lib.Math.min.name ∈ sk_W) (hd : 0 < d) (hr8 : (rest.map fun v => v.category).sum ≤ 8) (hdg : decode cc pc = .ok (.invokestatic idx, 3))
    (kk : W p l e (sk_rm d) s m args below meth c H locs 0 0 Q (F0 m (pc + 3) ls (.int (if y < x then y else x) :: rest))) : W p l e (sk_rm d) s m args below meth c H locs 0 0 Q (F0 m pc ls (.int y :: .int x :: rest)) := by
  obtain ⟨hx, hb, hml, hown, hts, hK, hE, hr, hlocks⟩ := C
  exact va_mmin (R := sk_rm d) hx hb (hml.trans hsz.symm) hown (hts _ hlk) (hts _ hw.1) (hts _ hw.2.1) (hts _ hw.2.2) hd (by show _ + 13 ≤ 40 * d; omega) (Nat.le_refl _) (Nat.le_refl _) hdg kk
theorem sk_mabs {d idx : Nat} {x : Int32} (C : sk_C g p s m args meth c cc nL own ret) (hsz : ls.size = nL) (hw : Cond.static Lib.Math.abs.name ∈ sk_W ∧ Cond.initialized "java/lang/Math" ∈ sk_W ∧ Cond.code Lib.Math.abs.name Lib.Math.abs.code 1 (some .int) ∈ sk_W) (hlk : Cond.methodLink own idx Lib.Math.abs.name ∈ sk_W) (hd : 0 < d) (hr8 : (rest.map fun v => v.category).sum ≤ 8) (hdg : decode cc pc = .ok (.invokestatic idx, 3))
    (kk : W p l e (sk_rm d) s m args below meth c H locs 0 0 Q (F0 m (pc + 3) ls (.int (if 0 ≤ x then x else 0 - x) :: rest))) : W p l e (sk_rm d) s m args below meth c H locs 0 0 Q (F0 m pc ls (.int x :: rest)) := by
  obtain ⟨hx, hb, hml, hown, hts, hK, hE, hr, hlocks⟩ := C
  exact va_mabs (R := sk_rm d) hx hb (hml.trans hsz.symm) hown (hts _ hlk) (hts _ hw.1) (hts _ hw.2.1) (hts _ hw.2.2) hd (by show _ + 13 ≤ 40 * d; omega) (Nat.le_refl _) (Nat.le_refl _) hdg kk
def sk_cin (sp n : Int32) (k : Nat) : Bool := !(decide (sp < 0)) && !(decide (n < 0)) && decide (sp.toNatClampNeg + n.toNatClampNeg ≤ k)
theorem sk_copy {d idx o0 o1 n0 n1 : Nat} {sp dp n : Int32} (C : sk_C g p s m args meth c cc nL own ret) (hsz : ls.size = nL) (hw : Cond.native arraycopyName ∈ sk_W ∧ Cond.static arraycopyName ∈ sk_W ∧ Cond.initialized "java/lang/System" ∈ sk_W) (hlk : Cond.methodLink own idx arraycopyName ∈ sk_W) (hd : 0 < d) (hr8 : (rest.map fun v => v.category).sum ≤ 8) (hM : sk_P g M H) (hS : va_S (sk_A g) s.heap H locs)
    (h0 : sk_kd o0 = (0, n0)) (h1 : sk_kd o1 = (0, n1)) (hc0 : sk_cin sp n n0 = true) (hc1 : sk_cin dp n n1 = true) (hdg : decode cc pc = .ok (.invokestatic idx, 3))
    (kk : ∀ (M1 : sk_M), M1 = sk_uA M o1 (va_cpy (M o0) (M o1) sp.toNatClampNeg dp.toNatClampNeg n.toNatClampNeg) → ∀ (H1 : Heap) (locs1 : List Loc), sk_P g M1 H1 → va_S (sk_A g) s.heap H1 locs1 → W p l e (sk_rm d) s m args below meth c H1 locs1 0 0 Q (F0 m (pc + 3) ls rest)) : W p l e (sk_rm d) s m args below meth c H locs 0 0 Q (F0 m pc ls (.int n :: .int dp :: .ref (sk_ad g o1) :: .int sp :: .ref (sk_ad g o0) :: rest)) := by
  obtain ⟨hx, hb, hml, hown, hts, hK, hE, hr, hlocks⟩ := C
  simp only [sk_cin, Bool.and_eq_true, Bool.not_eq_true', decide_eq_false_iff_not, decide_eq_true_eq] at hc0 hc1
  have hl0 := sk_lt h0 (by decide)
  have hl1 := sk_lt h1 (by decide)
  refine va_copyi (D := sk_D g) (cl := sk_cl) (tys := sk_ty g) (ty := .int) (f := M o0) (g := M o1) hx hb (hml.trans hsz.symm) hown (hts _ hlk) (hts _ hw.1) (hts _ hw.2.1) (hts _ hw.2.2) hK.1 hM (sk_Dd hK M) hS o0 o1 0 0 (by rw [sk_ws_at g M hl0, sk_en_i h0]) (by rw [sk_ws_at g M hl1, sk_en_i h1]) rfl rfl rfl hc0.1.1 hc1.1.1 hc0.1.2 hc0.2 hc1.2 (fun _ _ => rfl) hd ?_ hdg (fun H1 locs1 hP1 _ hS1 => ?_)
  · have : nativeFrameWords "java/lang/System" "arraycopy" 5 + 11 ≤ 32 := by decide +kernel
    show _ ≤ 40 * d
    omega
  · refine kk _ rfl H1 locs1 ?_ hS1
    rw [← sk_en_i (g := g) h1, sk_ws_set g M hl1] at hP1
    exact hP1
end SKR
