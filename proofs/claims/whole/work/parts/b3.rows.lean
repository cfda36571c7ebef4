/-! The law: its rows. -/
/-- what stays the same over the law's loop -/
def z_C (g : sk_G) (p : Program) (s : State) (m : MethodId) (meth : Method) (c : Code) (b L : Nat) (xs : Nat → Int32) : Prop :=
  p.tables.exec = Jvm.exec ∧ c.code = code ∧ c.maxLocals = 4 ∧ s.vm.findClass R_law = some m.cls ∧ (∀ w ∈ sk_W, w.before #[Value.ref b] s = true) ∧ va_X b L xs s s.heap ∧ b < s.heap.size ∧ sk_K g s ∧ sk_E g s s.heap ∧ ∀ o, o < 109 → s.heap.size ≤ sk_ad g o
section ZRW
variable {g : sk_G} {p : Program} {l : Launch} {e : Env} {s : State} {m : MethodId} {below : List Frame} {meth : Method} {c : Code} {b L i : Nat} {xs : Nat → Int32} {H : Heap} {locs : List Loc} {ls : Array Slot} {cells slots : Nat} {Q : State → Prop} {M : sk_M} {rest : List Value} {pc : Nat}
theorem z_arg {j : Nat} {jj : Int} {lv1 lv2 : Value} (Z : z_C g p s m meth c b L xs) (hl : lv_has ls 4 [(0, .ref b), (1, lv1), (2, lv2), (3, .int (nI i))]) (hS : va_S (fun q => s.heap.size ≤ q) s.heap H locs) (hL : L ≤ 3072) (hj : i + j < L) (hjj : Int32.ofInt jj = nI j) (hd : z_argAt pc jj)
    (kk : W p l e room_1 s m #[Value.ref b] below meth c H locs cells slots Q (F0 m (pc + 5) ls (.int (xs (i + j)) :: rest))) : W p l e room_1 s m #[Value.ref b] below meth c H locs cells slots Q (F0 m pc ls rest) := by
  obtain ⟨hx, hb, hml, hown, hts, hX, hbl, hK, hE, hA⟩ := Z
  obtain ⟨d0, d1, d2, d3, d4⟩ := hd
  refine lv_aload_n hx hb d0 rfl (lv_at hl 0 rfl) ?_
  refine lv_iload_n hx hb d1 rfl (lv_at hl 3 rfl) ?_
  refine lv_iconst (v := nI j) hx hb d2 hjj ?_
  refine lv_iadd hx hb d3 ?_
  rw [nI_add]
  refine va_sld hx hb hX hbl (Nat.not_le.mpr hbl) hS (vp_in_nI hj (by omega)) d4 ?_
  rw [q_clamp (by omega)]
  exact kk
theorem z_recv6 (Z : z_C g p s m meth c b L xs) (hP : sk_P g M H) : ∃ cell : Cell, H[sk_ad g 0]? = some cell ∧ cell.vm.isStatics = false ∧ s.vm.findClass RX6 = some cell.cls := by
  obtain ⟨hx, hb, hml, hown, hts, hX, hbl, hK, hE, hA⟩ := Z
  exact va_recv (q0 := 0) (ci := 6) (q := (RX6, TX6, 13)) hK.1 hP rfl (by rw [sk_ws_at g M (by omega), sk_en_o (ci := 6) (n := 13) rfl])
theorem z_recv7 (Z : z_C g p s m meth c b L xs) (hP : sk_P g M H) : ∃ cell : Cell, H[sk_ad g 88]? = some cell ∧ cell.vm.isStatics = false ∧ s.vm.findClass RX7 = some cell.cls := by
  obtain ⟨hx, hb, hml, hown, hts, hX, hbl, hK, hE, hA⟩ := Z
  exact va_recv (q0 := 88) (ci := 7) (q := (RX7, TX7, 33)) hK.1 hP rfl (by rw [sk_ws_at g M (by omega), sk_en_o (ci := 7) (n := 33) rfl])
theorem z_A (Z : z_C g p s m meth c b L xs) : ∀ q, sk_A g q → s.heap.size ≤ q := by
  intro q hq
  obtain ⟨o, ho, rfl⟩ := hq
  exact Z.2.2.2.2.2.2.2.2.2 o ho
theorem z_call {y : MethodName} {cy : ByteArray} {ny n dy idx bb : Nat} {r : Int32} {M' : sk_M} {As st : List Value} (Z : z_C g p s m meth c b L xs) (hS : va_S (fun q => s.heap.size ≤ q) s.heap H locs) (hP : sk_P g M H) (hc : sk_MI g l y cy ny (some .int) dy (.ref bb :: As) M r M') (hy : sk_yV y cy ny (some .int) n) (hlk : Cond.methodLink R_law idx y ∈ sk_W)
    (hrc : ∃ cell : Cell, H[bb]? = some cell ∧ cell.vm.isStatics = false ∧ s.vm.findClass y.cls = some cell.cls) (hd : dy ≤ 200) (hsz : ls.size = 4) (hn : As.length = n) (hst : st = As.reverse ++ .ref bb :: rest) (hr8 : (rest.map fun v => v.category).sum ≤ 8) (hdg : decode code pc = .ok (.invokevirtual idx, 3))
    (kk : ∀ (H1 : Heap) (locs1 : List Loc), sk_P g M' H1 → va_S (fun q => s.heap.size ≤ q) s.heap H1 locs1 → W p l e room_1 s m #[Value.ref b] below meth c H1 locs1 cells slots Q (F0 m (pc + 3) ls (.int r :: rest))) (hc1 : cells ≤ 600000 := by assumption) (hc2 : slots ≤ 7302250 := by assumption) : W p l e room_1 s m #[Value.ref b] below meth c H locs cells slots Q (F0 m pc ls st) := by
  have hAn := z_A Z
  obtain ⟨hx, hb, hml, hown, hts, hX, hbl, hK, hE, hA⟩ := Z
  obtain ⟨hd9, hny, hcd, him, hse, hini⟩ := hy
  have hG : GoodIn sk_W (wsV R_law idx y.cls y (Cond.code y cy ny (some .int) :: sk_W)) := by
    have key : ∀ w ∈ sk_W, w ∈ sk_W ∧ ((w.onTables && w.keeps) = true ∨ ∃ ty, w = .arrayClass ty) := fun w hw => ⟨hw, good_of_word (List.mem_filter.mp hw).2⟩
    intro w hw
    rcases List.mem_append.mp hw with h | h
    · simp only [List.mem_cons, List.not_mem_nil, or_false] at h
      rcases h with rfl | rfl | rfl | rfl
      · exact key _ hlk
      · exact key _ him
      · exact key _ hse
      · exact key _ hini
    · exact sk_good hcd w h
  have hpre : ∀ U : State, U.heap = H → s.WarmedH U.vm → va_Pc (.ref bb :: As) (sk_Pc g M) (Value.ref bb :: As).toArray U := by
    intro U hU hW
    refine ⟨rfl, by rw [hU]; exact hP, sk_K.moved hW.alike hK, ?_⟩
    obtain ⟨h1, h2, h3, h4, h5, h6⟩ := hE
    have hq : ∀ a : Nat, a < s.heap.size → ¬ sk_A g a → U.heap[a]? = s.heap[a]? := fun a z1 _ => by rw [hU]; exact hS.2.1 a z1 (Nat.not_le.mpr z1)
    exact ⟨(va_Z.moved hW.alike h1).kept hq, (va_T.moved hW.alike h2).kept hq, (va_Z.moved hW.alike h3).kept hq, (va_Zq.moved hW.alike h4).kept hq, (vk_S.moved hW.alike h5).kept hq, fun i hi => (h6 i hi).warm hW⟩
  have hroom : (sk_rm dy).frames + 1 ≤ room_1.frames ∧ 8 + (ny + 11) + (sk_rm dy).locals ≤ room_1.locals := ⟨by show dy + 1 ≤ 2048; omega, by show 8 + (ny + 11) + 40 * dy ≤ 84000; omega⟩
  have hrun : va_Run p l e room_1 s m #[Value.ref b] below meth c H locs cells slots 0 0 (F0 m pc ls st) rest (sk_QI g r M' (Value.ref bb :: As).toArray) (sk_A g) :=
    va_runV (As := As) (rest := rest) ⟨hx, hb, hml, hown, hts⟩ hc (cwV n hts hG rfl rfl rfl ⟨rfl, hd9⟩ hroom) ⟨sk_blind, hrc, hpre⟩ rfl hn hsz hst (lv_room hr8) hdg ⟨hc1, hc2⟩
  refine va_calli hrun hS (fun q _ h => hAn q h) hAn (fun r' u t H1 locs1 ht hvm hw hB hz hk hS1 => ?_)
  obtain ⟨rfl, rfl⟩ := hw
  rw [ht] at hB
  exact kk H1 locs1 hB hS1
/-- a constructor, called from the law -/
theorem z_ctor {D : va_G} {ac : Nat → ClassId} {y : MethodName} {cy : ByteArray} {ny idx mc ms : Nat} {rm : Room} {w0 : Nat × va_E} {blk : (Nat → Nat) → va_W} {X : va_W} (hx : p.tables.exec = Jvm.exec) (hb : c.code = code) (hml : c.maxLocals = 4) (hown : s.vm.findClass R_law = some m.cls) (hts : ∀ w ∈ sk_W, w.before #[Value.ref b] s = true) (hK : k_K D ac s) (hsz : ls.size = 4)
    (hP : va_P D sk_cl (X ++ [w0]) H) (hD : va_D (fun q => s.heap.size ≤ q) (X ++ [w0])) (hS : va_S (fun q => s.heap.size ≤ q) s.heap H locs) (hM : k_Met D ac l y cy ny rm [.ref w0.1] H.size w0 blk mc ms) (hy : k_y y cy ny 0) (hrc : rm.cells = mc) (hrs : rm.slots = ms) (hlk : Cond.methodLink R_law idx y ∈ sk_W) (hR : rm.frames + 1 ≤ room_1.frames ∧ 8 + (ny + 11) + rm.locals ≤ room_1.locals) (hr8 : (rest.map fun v => v.category).sum ≤ 8) (hdg : decode code pc = .ok (.invokespecial idx, 3)) (hf : cells + mc ≤ room_1.cells ∧ slots + ms ≤ room_1.slots)
    (kk : ∀ (u : Nat → Nat) (H1 : Heap) (locs1 : List Loc), u 0 = w0.1 → va_P D sk_cl (X ++ blk u) H1 → va_D (fun q => s.heap.size ≤ q) (X ++ blk u) → va_S (fun q => s.heap.size ≤ q) s.heap H1 locs1 → W p l e room_1 s m #[Value.ref b] below meth c H1 locs1 (cells + mc) (slots + ms) Q (F0 m (pc + 3) ls rest)) : W p l e room_1 s m #[Value.ref b] below meth c H locs cells slots Q (F0 m pc ls (.ref w0.1 :: rest)) := by
  obtain ⟨hd9, hnm, hcd, him, hini⟩ := hy
  have hF : ∀ q, va_A [w0] H.size q → s.heap.size ≤ q := by
    intro q h
    rcases h with ⟨k, e, h⟩ | h
    · have h0 : k < 1 := (List.getElem?_eq_some_iff.mp h).1
      rw [show k = 0 by omega] at h
      have e1 : w0 = (q, e) := Option.some.inj h
      have := hD.2 X.length w0 (by rw [List.getElem?_append_right (Nat.le_refl _), Nat.sub_self]; rfl)
      rw [e1] at this
      exact this
    · exact Nat.le_trans hS.1 h
  have hrun : va_Run p l e room_1 s m #[Value.ref b] below meth c H locs cells slots mc ms (F0 m pc ls (.ref w0.1 :: rest)) rest (k_Post D H.size w0 blk ([Value.ref w0.1] : List Value).toArray) (va_A [w0] H.size) :=
    va_runI (As := []) (rest := rest) ⟨hx, hb, hml, hown, hts⟩ hM (cwI 0 hts (sk_good hcd) rfl hrc hrs (hts _ hini) (hts _ hlk) (hts _ him) hnm hd9 hR) (k_pre hK (k_sub1 hP) _) rfl rfl hsz rfl (lv_room hr8) hdg hf
  refine va_callv hrun hS (fun q _ h => hF q h) hF (fun u t H1 locs1 ht hvm hw hB hz1 hk1 hS1 => ?_)
  obtain ⟨hP1, hD1⟩ := hB
  rw [ht] at hP1
  obtain ⟨hP2, hD2⟩ := k_join hP hD hk1 hF hP1 hD1
  exact kk u H1 locs1 hw hP2 hD2 hS1
end ZRW
