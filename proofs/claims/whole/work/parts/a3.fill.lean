/-! What each constructor leaves; Arrays.fill over a list of cells. -/
def k_fl (n : Nat) (v : Int32) (f : Nat → Int32) : Nat → Int32 := fun j => if j < n then v else f j
def k_rl (xs : List Nat) : Nat → Option Nat := fun i => some (xs.getD i 0)
def k_Rd (ac : Nat → ClassId) (u : Nat → Nat) : va_W := [(u 0, .inr (0, [.ref (u 1), .ref (u 2), .int 0, .int 0, .int 0, .int 0, .int 0, .int 0, .int 0])), (u 1, k_ints ac 96 (fun _ => 0)), (u 2, k_ints ac 96 (fun _ => 0))]
def k_Sh (ac : Nat → ClassId) (u : Nat → Nat) : va_W := [(u 0, .inr (1, [.ref (u 1), .int (-1), .int 0])), (u 1, k_ints ac 24 (fun _ => 0))]
def k_Sl (ac : Nat → ClassId) (u : Nat → Nat) : va_W := [(u 0, .inr (2, [.ref (u 1), .int 0, .int 0, .int 0, .int 0])), (u 1, .inr (1, [.ref (u 2), .int (-1), .int 0])), (u 2, k_ints ac 24 (fun _ => 0))]
def k_Tx (ac : Nat → ClassId) (u : Nat → Nat) : va_W := [(u 0, .inr (3, [.ref (u 1), .ref (u 2), .ref (u 3), .ref (u 4), .ref (u 5)])), (u 1, k_refs (ac 1) 14 (k_rl [u 6, u 7, u 8, u 9, u 10, u 11, u 12, u 13, u 14, u 15, u 16, u 17, u 18, u 19])), (u 2, k_ints ac 14 (fun _ => 0)), (u 3, k_ints ac 14 (fun _ => 0)), (u 4, k_ints ac 14 (fun _ => 0)), (u 5, k_ints ac 96 (fun _ => 0)),
  (u 6, k_ints ac 96 (fun _ => 0)), (u 7, k_ints ac 96 (fun _ => 0)), (u 8, k_ints ac 96 (fun _ => 0)), (u 9, k_ints ac 96 (fun _ => 0)), (u 10, k_ints ac 96 (fun _ => 0)), (u 11, k_ints ac 96 (fun _ => 0)), (u 12, k_ints ac 96 (fun _ => 0)), (u 13, k_ints ac 96 (fun _ => 0)), (u 14, k_ints ac 96 (fun _ => 0)), (u 15, k_ints ac 96 (fun _ => 0)), (u 16, k_ints ac 96 (fun _ => 0)), (u 17, k_ints ac 96 (fun _ => 0)), (u 18, k_ints ac 96 (fun _ => 0)), (u 19, k_ints ac 96 (fun _ => 0))]
def k_Th (ac : Nat → ClassId) (wd : Nat) (u : Nat → Nat) : va_W := [(u 0, .inr (4, [.ref wd, .ref (u 1), .int 0, .int 0])), (u 1, k_ints ac 9 (fun _ => 0))]
def k_Wd (ac : Nat → ClassId) (lb : Nat) (u : Nat → Nat) : va_W := [(u 0, .inr (5, [.ref lb, .ref (u 1), .ref (u 2), .ref (u 3), .ref (u 4), .ref (u 5), .ref (u 6), .ref (u 7), .ref (u 8), .ref (u 9), .int 0, .int 0, .int 0, .int 0, .int 0, .int 1])),
  (u 1, k_ints ac 9 (fun _ => 0)), (u 2, k_ints ac 9 (fun _ => 0)), (u 3, k_ints ac 9 (fun _ => 0)), (u 4, k_ints ac 4 (k_fl 4 10 (fun _ => 0))), (u 5, k_ints ac 12 (fun _ => 0)), (u 6, k_ints ac 6 (fun _ => 0)), (u 7, k_refs (ac 1) 6 (k_rl [u 10, u 11, u 12, u 13, u 14, u 15])), (u 8, k_ints ac 3 (k_fl 3 (-1000000005) (fun _ => 0))), (u 9, k_ints ac 1000 (fun _ => 0)),
  (u 10, k_ints ac 9 (fun _ => 0)), (u 11, k_ints ac 9 (fun _ => 0)), (u 12, k_ints ac 9 (fun _ => 0)), (u 13, k_ints ac 9 (fun _ => 0)), (u 14, k_ints ac 9 (fun _ => 0)), (u 15, k_ints ac 9 (fun _ => 0))]
def k_s0 : Nat → Int32 := upd (upd (upd (upd (upd (fun _ => 0) 5 1) 6 10) 7 10) 8 10) 9 10
def k_t0 : Nat → Int32 := upd (upd (upd (upd (fun _ => 0) 0 (-1)) 1 (-1)) 2 (-1)) 3 (-1)
def k_Mo (ac : Nat → ClassId) (u : Nat → Nat) : va_W := [(u 0, .inr (7, [.ref (u 1), .ref (u 2), .ref (u 3), .int 0, .ref (u 4), .ref (u 5), .ref (u 6), .ref (u 7), .ref (u 8), .ref (u 9), .ref (u 10), .ref (u 11), .ref (u 12), .ref (u 13), .ref (u 14), .int 0, .int 0, .int 0, .int 0, .int 0, .int 0, .int 0, .int 0, .int 0, .int 0, .int 0, .ref (u 15), .ref (u 16), .ref (u 17), .ref (u 18), .ref (u 19), .int 0, .ref (u 20)])),
  (u 1, k_ints ac 3109 k_s0), (u 2, k_ints ac 3109 (fun _ => 0)), (u 3, k_ints ac 3109 (fun _ => 0)), (u 4, k_ints ac 4 k_t0), (u 5, k_ints ac 4 (fun _ => 0)), (u 6, k_ints ac 96 (fun _ => 0)), (u 7, k_ints ac 5 (fun _ => 0)), (u 8, k_ints ac 5 (fun _ => 0)), (u 9, k_ints ac 5 (fun _ => 0)), (u 10, k_ints ac 5 (fun _ => 0)), (u 11, k_ints ac 120 (fun _ => 0)), (u 12, k_ints ac 109 (fun _ => 0)), (u 13, k_ints ac 9 (fun _ => 0)), (u 14, k_ints ac 96 (fun _ => 0)), (u 15, k_ints ac 128 (fun _ => 0)), (u 16, k_ints ac 100 (fun _ => 0)), (u 17, k_ints ac 130 (fun _ => 0)), (u 18, k_ints ac 24 (fun _ => 0)), (u 19, k_ints ac 60 (fun _ => 0)), (u 20, k_ints ac 60 (fun _ => 0))]
theorem k_fl_up (i : Nat) (v : Int32) (f : Nat → Int32) : upd (k_fl i v f) i v = k_fl (i + 1) v f := by
  funext j
  rw [q_upd]
  unfold k_fl
  by_cases e : j = i
  · rw [if_pos e, if_pos (by omega)]
  · rw [if_neg e]
    by_cases z : j < i
    · rw [if_pos z, if_pos (by omega)]
    · rw [if_neg z, if_neg (by omega)]
set_option maxHeartbeats 4000000 in
theorem c_fillK (D : va_G) (ac : Nat → ClassId) (l : Launch) (a sz n : Nat) (f : Nat → Int32) (v : Int32) (hn : n ≤ 1000) :
    Met l yJ7_fill_53178 (Cond.code yJ7_fill_53178 cJ7_fill_53178 4 none :: sk_W) { frames := 0, cells := 0, slots := 0, locals := 0 } (va_Pc [.ref a, .int v] (k_Pre D ac sz (a, k_ints ac n f))) (k_Post D sz (a, k_ints ac n f) (fun u => [(u 0, k_ints ac n (k_fl n v f))])) 0 0 (va_A [(a, k_ints ac n f)] sz) := by
  refine Met.ofW (cc := cJ7_fill_53178) (maxL := 4) (ret := none) (by decide +kernel) rfl ?_
  intro p e s m args below meth c s₁ B hml hv
  obtain ⟨rfl, hsz, hP, hK⟩ := hv
  have hx := B.exec
  have hb := B.bytes
  have hr := B.returns
  have hlocks := B.notSynchronized
  have hl := lv_entry [.ref a, .int v] (n := 4) (Nat.le_of_ble_eq_true rfl)
  rw [lg_entry_eq]
  generalize (lg_sl ([.ref a, .int v]) ++ List.replicate (4 - (lg_sl ([.ref a, .int v])).length) Slot.unset).toArray = ls at hl ⊢
  have hl : lv_has ls 4 [(0, .ref a), (1, .int v)] := hl
  have hD : va_D (va_A [(a, k_ints ac n f)] sz) [(a, k_ints ac n f)] := k_D1
  have hS : va_S (va_A [(a, k_ints ac n f)] sz) s.heap s.heap [] := va_S.rf
  have loop : ∀ (r i : Nat) (F : Nat → Int32) (H : Heap) (locs : List Loc) (ls : Array Slot), i + r = n → F = k_fl i v f → lv_has ls 4 [(3, .int (nI n)), (2, .int (nI i)), (0, .ref a), (1, .int v)] → va_P D sk_cl [(a, k_ints ac n F)] H → va_D (va_A [(a, k_ints ac n f)] sz) [(a, k_ints ac n F)] → va_S (va_A [(a, k_ints ac n f)] sz) s.heap H locs →
      W p l e { frames := 0, cells := 0, slots := 0, locals := 0 } s m ([.ref a, .int v] : List Value).toArray below meth c H locs 0 0 (MQ below (k_Post D sz (a, k_ints ac n f) (fun u => [(u 0, k_ints ac n (k_fl n v f))])) ([.ref a, .int v] : List Value).toArray s 0 0 (va_A [(a, k_ints ac n f)] sz)) (F0 m 5 ls []) := by
    intro r
    induction r with
    | zero =>
      intro i F H locs ls hi hF hl hP hD hS
      have e1 : i = n := by omega
      subst e1
      subst hF
      refine lv_iload_n hx hb dJ7_fill_53178_5 rfl (lv_at hl 1 rfl) ?_
      refine lv_iload_n hx hb dJ7_fill_53178_6 rfl (lv_at hl 0 rfl) ?_
      refine lv_icmp_ge (tgt := 20) hx hb dJ7_fill_53178_7 rfl (fun _ => ?_) (fun c9 => absurd (nI_le (Nat.le_refl _) (by omega)) c9)
      exact W.vret hx hb hr (fun t ht hW => ⟨⟨fun _ => a, rfl, rfl, by rw [ht]; exact hP, hD⟩, hS.F ht⟩) hS.2.2 dJ7_fill_53178_20
    | succ r ih =>
      intro i F H locs ls hi hF hl hP hD hS
      refine lv_iload_n hx hb dJ7_fill_53178_5 rfl (lv_at hl 1 rfl) ?_
      refine lv_iload_n hx hb dJ7_fill_53178_6 rfl (lv_at hl 0 rfl) ?_
      refine lv_icmp_ge (tgt := 20) hx hb dJ7_fill_53178_7 rfl (fun c9 => absurd c9 (nI_ge (by omega) (by omega))) (fun _ => ?_)
      refine lv_aload_n hx hb dJ7_fill_53178_10 rfl (lv_at hl 2 rfl) ?_
      refine lv_iload_n hx hb dJ7_fill_53178_11 rfl (lv_at hl 1 rfl) ?_
      refine lv_iload_n hx hb dJ7_fill_53178_12 rfl (lv_at hl 3 rfl) ?_
      refine va_iast (D := D) (cl := sk_cl) (tys := k_ty ac) hx hb hK.1 hP hD hS 0 0 rfl rfl (vp_in_nI (by omega) (by omega)) dJ7_fill_53178_13 (fun H locs hP hD hS => ?_)
      rw [q_clamp (by omega)] at hP hD
      refine lv_iinc (v := nI (i + 1)) (lv' := [(2, .int (nI (i + 1))), (3, .int (nI n)), (0, .ref a), (1, .int v)]) hx hb dJ7_fill_53178_14 hl (k := 1) rfl (nI_1 i) (by decide) rfl (fun ls hl => ?_)
      refine lv_goto (tgt := 5) hx hb dJ7_fill_53178_17 rfl ?_
      exact ih (i + 1) _ _ _ _ (by omega) (by rw [hF, k_fl_up]) (lv_sub hl [1, 0, 2, 3] rfl) hP hD hS
  refine lv_iconst (v := 0) hx hb dJ7_fill_53178_0 (by decide) ?_
  refine lv_istore_n (lv' := [(2, .int 0), (0, .ref a), (1, .int v)]) hx hb dJ7_fill_53178_1 rfl hl (by decide) rfl (fun ls hl => ?_)
  refine lv_aload_n hx hb dJ7_fill_53178_2 rfl (lv_at hl 1 rfl) ?_
  refine va_alen (D := D) (cl := sk_cl) (tys := k_ty ac) (x := (n, .inl f)) (ty := .int) (v := nI n) hx hb hK.1 hP 0 0 rfl rfl rfl dJ7_fill_53178_3 ?_
  refine lv_istore_n (lv' := [(3, .int (nI n)), (2, .int 0), (0, .ref a), (1, .int v)]) hx hb dJ7_fill_53178_4 rfl hl (by decide) rfl (fun ls hl => ?_)
  exact loop n 0 f _ _ _ (by omega) (by funext j; unfold k_fl; rw [if_neg (by omega)]) hl hP hD hS
section KFL
variable {p : Program} {l : Launch} {e : Env} {R : Room} {s : State} {m : MethodId} {args : Array Value} {below : List Frame} {meth : Method} {c : Code} {H : Heap} {locs : List Loc} {Q : State → Prop}
variable {D : va_G} {ac : Nat → ClassId} {cc : ByteArray} {nL : Nat} {own : String} {pc : Nat} {ls : Array Slot} {rest : List Value} {cells slots : Nat} {A : Nat → Prop} {H0 : Heap}
theorem k_fillC {X : va_W} {a n idx : Nat} {f : Nat → Int32} {v : Int32} (C : k_C D ac p s m args meth c cc nL own) (hsz : ls.size = nL) (hP : va_P D sk_cl (X ++ [(a, k_ints ac n f)]) H) (hD : va_D A (X ++ [(a, k_ints ac n f)])) (hS : va_S A H0 H locs) (hA : ∀ q, H0.size ≤ q → A q) (hn : n ≤ 1000) (hlk : Cond.methodLink own idx yJ7_fill_53178 ∈ sk_W) (hR : 1 ≤ R.frames ∧ 23 ≤ R.locals) (hr8 : (rest.map fun v => v.category).sum ≤ 8) (hdg : decode cc pc = .ok (.invokestatic idx, 3)) (hf : cells ≤ R.cells ∧ slots ≤ R.slots)
    (kk : ∀ (H1 : Heap) (locs1 : List Loc), va_P D sk_cl (X ++ [(a, k_ints ac n (k_fl n v f))]) H1 → va_D A (X ++ [(a, k_ints ac n (k_fl n v f))]) → va_S A H0 H1 locs1 → W p l e R s m args below meth c H1 locs1 cells slots Q (F0 m (pc + 3) ls rest)) : W p l e R s m args below meth c H locs cells slots Q (F0 m pc ls (.int v :: .ref a :: rest)) := by
  obtain ⟨hx, hb, hml, hown, hts, hK, hr, hlocks, hinit⟩ := C
  have hF : ∀ q, va_A [(a, k_ints ac n f)] H.size q → A q := by
    intro q h
    rcases h with ⟨k, e, h⟩ | h
    · have h0 : k < 1 := (List.getElem?_eq_some_iff.mp h).1
      rw [show k = 0 by omega] at h
      cases h
      exact hD.2 X.length (a, k_ints ac n f) (by rw [List.getElem?_append_right (Nat.le_refl _), Nat.sub_self]; rfl)
    · exact hA q (Nat.le_trans hS.1 h)
  obtain ⟨hd9, hny, hcd, hst2, hini⟩ := yo_J7_fill_53178
  have hG : GoodIn sk_W (va_wsS own idx yJ7_fill_53178 (Cond.code yJ7_fill_53178 cJ7_fill_53178 4 none :: sk_W)) := by
    have key : ∀ w ∈ sk_W, w ∈ sk_W ∧ ((w.onTables && w.keeps) = true ∨ ∃ ty, w = .arrayClass ty) := fun w hw => ⟨hw, good_of_word (List.mem_filter.mp hw).2⟩
    intro w hw
    rcases List.mem_append.mp hw with h | h
    · simp only [List.mem_cons, List.not_mem_nil, or_false] at h
      rcases h with rfl | rfl | rfl
      · exact key _ hlk
      · exact key _ hst2
      · exact key _ hini
    · exact sk_good hcd w h
  have hrun := va_runS (R := R) (e := e) (below := below) (meth := meth) (locs := locs) (cells := cells) (slots := slots) (g := F0 m pc ls (.int v :: .ref a :: rest)) (As := [.ref a, .int v]) (rest := rest) ⟨hx, hb, hml, hown, hts⟩ (c_fillK D ac l a H.size n f v hn) (va_cwS 2 hts hG rfl rfl rfl hd9 ⟨hR.1, hR.2⟩) (k_pre hK (k_sub1 hP) _) rfl rfl hsz rfl (lv_room hr8) hdg hf
  refine va_callv hrun hS (fun q _ h => hF q h) hF (fun u t H1 locs1 ht hvm hw hB hz1 hk1 hS1 => ?_)
  obtain ⟨hP1, hD1⟩ := hB
  rw [ht] at hP1
  have hw2 : u 0 = a := hw
  dsimp only at hP1 hD1
  rw [hw2] at hP1 hD1
  obtain ⟨hP2, hD2⟩ := k_join hP hD hk1 hF hP1 hD1
  exact kk H1 locs1 hP2 hD2 hS1
end KFL
