/-! Rows of rows of ints, made at once: the machine's own step. -/
section KMN
variable {p : Program} {l : Launch} {e : Env} {R : Room} {s : State} {m : MethodId} {args : Array Value} {below : List Frame} {meth : Method} {c : Code} {H : Heap} {locs : List Loc} {cells slots : Nat} {Q : State → Prop}
def k_row (h0 i : Nat) : Nat → Value := fun j => if j < i then .ref (h0 + 1 + j) else .null
theorem k_row_up (h0 i : Nat) : updV (k_row h0 i) i (.ref (h0 + 1 + i)) = k_row h0 (i + 1) := by
  funext j
  unfold updV k_row
  by_cases e : j = i
  · subst e; rw [if_pos rfl, if_pos (by omega)]
  · rw [if_neg e]
    by_cases z : j < i
    · rw [if_pos z, if_pos (by omega)]
    · rw [if_neg z, if_neg (by omega)]
theorem k_arrc {cA : ClassId} {N : Nat} {f f' : Nat → Value} (h : ∀ j, j < N → f j = f' j) : arrV cA N f = arrV cA N f' := by
  unfold arrV
  congr 2
  funext j
  exact h j.val j.isLt
def k_in (comp : ClassId) (K : Nat) : Cell := arrV comp K (fun _ => .int 0)
def k_fill (cA comp : ClassId) (N K : Nat) (T : State) : Nat → State
  | 0 => T.pushCell (arrV cA N (k_row T.heap.size 0))
  | i + 1 => ((k_fill cA comp N K T i).pushCell (k_in comp K)).setCell T.heap.size (arrV cA N (k_row T.heap.size (i + 1)))
theorem k_facts {T : State} (X : Stand p l e R s m args below meth c T locs cells slots) (cA comp : ClassId) (N K : Nat) : ∀ i, i ≤ N →
    Stand p l e R s m args below meth c (k_fill cA comp N K T i) (locs ++ (List.range i).map (fun j => (⟨T.heap.size, j⟩ : Loc))) (cells + 1 + i) (slots + N + i * K) ∧ (k_fill cA comp N K T i).vm = T.vm ∧ (k_fill cA comp N K T i).heap.size = T.heap.size + 1 + i ∧
    (k_fill cA comp N K T i).heap[T.heap.size]? = some (arrV cA N (k_row T.heap.size i)) ∧ (∀ j, j < i → (k_fill cA comp N K T i).heap[T.heap.size + 1 + j]? = some (k_in comp K)) ∧ ∀ q, q < T.heap.size → (k_fill cA comp N K T i).heap[q]? = T.heap[q]? := by
  intro i
  induction i with
  | zero =>
    intro _
    have h := X.pushed (arrV cA N (k_row T.heap.size 0))
    rw [arrV_size] at h
    refine ⟨by simpa [k_fill] using h, rfl, by simp [k_fill], by simp [k_fill], fun j z => absurd z (by omega), fun q hq => State.heap_pushCell_of_lt _ _ hq⟩
  | succ i ih =>
    intro hi
    obtain ⟨a1, a2, a3, a4, a5, a6⟩ := ih (by omega)
    have hlt : T.heap.size < (k_fill cA comp N K T i).heap.size := by omega
    have hc : ((k_fill cA comp N K T i).pushCell (k_in comp K)).heap[T.heap.size]? = some (arrV cA N (k_row T.heap.size i)) := (State.heap_pushCell_of_lt _ _ hlt).trans a4
    have hz : ((k_fill cA comp N K T i).pushCell (k_in comp K)).heap.size = T.heap.size + 1 + i + 1 := by simp [a3]
    have h := (a1.pushed (k_in comp K)).stored hc i (.ref (T.heap.size + 1 + i))
    have e1 : (k_in comp K).slots.size = K := arrV_size _ _ _
    rw [arrV_store, k_row_up, e1] at h
    have e2 : (locs ++ (List.range (i + 1)).map fun j => (⟨T.heap.size, j⟩ : Loc)) = (locs ++ (List.range i).map fun j => (⟨T.heap.size, j⟩ : Loc)) ++ [⟨T.heap.size, i⟩] := by simp [List.range_succ, List.append_assoc]
    have e3 : slots + N + (i + 1) * K = slots + N + i * K + K := by rw [Nat.succ_mul]; omega
    refine ⟨?_, a2, ?_, ?_, ?_, ?_⟩
    · rw [e2, e3]; exact h
    · show (((k_fill cA comp N K T i).pushCell (k_in comp K)).setCell T.heap.size _).heap.size = _
      rw [size_setCell, hz]; omega
    · have w : T.heap.size < ((k_fill cA comp N K T i).pushCell (k_in comp K)).heap.size := by omega
      exact heapAt_setCell_self _ w
    · intro j hj
      show (((k_fill cA comp N K T i).pushCell (k_in comp K)).setCell T.heap.size _).heap[_]? = _
      have w : T.heap.size ≠ T.heap.size + 1 + j := by omega
      rw [heapAt_setCell_ne _ w]
      by_cases e : j = i
      · subst e
        rw [← a3]
        exact State.heap_pushCell_size _ _
      · have w2 : T.heap.size + 1 + j < (k_fill cA comp N K T i).heap.size := by omega
        rw [State.heap_pushCell_of_lt _ _ w2]
        exact a5 j (by omega)
    · intro q hq
      show (((k_fill cA comp N K T i).pushCell (k_in comp K)).setCell T.heap.size _).heap[_]? = _
      have w : T.heap.size ≠ q := by omega
      have w2 : q < (k_fill cA comp N K T i).heap.size := by omega
      rw [heapAt_setCell_ne _ w, State.heap_pushCell_of_lt _ _ w2]
      exact a6 q hq
/-- what the tables say of int[] and int[][] -/
def k_AA (cI cA : ClassId) (U : State) : Prop := (∃ k : Class, U.vm.classes[cA]? = some k ∧ k.kind = .array cI (.array .int)) ∧ (∃ (k : Class) (x : ClassId), U.vm.classes[cI]? = some k ∧ k.kind = .array x .int) ∧ U.vm.findClass "[[I" = some cA
theorem k_AA.moved {cI cA : ClassId} {u U : State} (hvm : u.vm.Alike U.vm) (h : k_AA cI cA u) : k_AA cI cA U := by
  obtain ⟨⟨k, h1, h2⟩, ⟨k2, x, h3, h4⟩, h5⟩ := h
  obtain ⟨k', hk', he⟩ := hvm.2.2 _ _ h1
  obtain ⟨k2', hk2', he2⟩ := hvm.2.2 _ _ h3
  exact ⟨⟨k', hk', by rw [he]; exact h2⟩, ⟨k2', x, hk2', by rw [he2]; exact h4⟩, by rw [hvm.findClass]; exact h5⟩
theorem k_mna {cc : ByteArray} (hexec : p.tables.exec = Jvm.exec) (hb : c.code = cc) {own : String} {index : Nat} (hown : s.vm.findClass own = some m.cls) (hclink : (Cond.classLink own index "[[I").before args s = true) {cI cA : ClassId} (hAA : k_AA cI cA s)
    {n k : Int32} {N K : Nat} (hn : ¬ n < 0) (hk : ¬ k < 0) (hN : n.toNatClampNeg = N) (hKk : k.toNatClampNeg = K) (hb1 : N ≤ 1000) (hb2 : K ≤ 1000) (hcells : cells + (1 + N) ≤ R.cells) (hslots : slots + (N + N * K) ≤ R.slots)
    {pc : Nat} {ls : Array Slot} {rest : List Value} (hdg : decode cc pc = .ok (.multianewarray index 2, 4))
    (kk : ∀ (H1 : Heap), H1.size = H.size + 1 + N → H1[H.size]? = some (arrV cA N (fun j => .ref (H.size + 1 + j))) → (∀ j, j < N → H1[H.size + 1 + j]? = some (arrV cI K (fun _ => .int 0))) → (∀ q, q < H.size → H1[q]? = H[q]?) →
      W p l e R s m args below meth c H1 (locs ++ (List.range N).map (fun j => (⟨H.size, j⟩ : Loc))) (cells + 1 + N) (slots + N + N * K) Q (F0 m (pc + 4) ls (.ref H.size :: rest))) :
    W p l e R s m args below meth c H locs cells slots Q (F0 m pc ls (.int k :: .int n :: rest)) := by
  intro T hT X
  subst hT
  subst hb
  have hpl : e.platform.magicAccessors = ({} : Platform).magicAccessors := by rw [X.admits.platform]
  obtain ⟨c0, hfc0, hcl⟩ := Cond.classLink_spec hown hclink e.platform hpl
  have ea : c0 = cA := Option.some.inj (hfc0.symm.trans hAA.2.2)
  subst ea
  obtain ⟨hg₁, hwarm₁, hready₁⟩ := State.classEntry (e := e) X.warmed hcl
  generalize T.vm.noted m.cls index (.cls c0) = vm₁ at hg₁ hwarm₁ hready₁
  have X₁ := X.noted hwarm₁
  obtain ⟨⟨kA, hkA, hkindA⟩, ⟨kC, x0, hkC, hkindC⟩, -⟩ := k_AA.moved (U := T.setVm vm₁) hwarm₁.alike hAA
  have F := k_facts X₁ c0 cI N K
  obtain ⟨XF, -, f3, f4, f5, f6⟩ := F N (Nat.le_refl _)
  have f4' : (k_fill c0 cI N K (T.setVm vm₁) N).heap[T.heap.size]? = some (arrV c0 N (fun j => .ref (T.heap.size + 1 + j))) := by
    refine f4.trans (congrArg some (k_arrc fun j hj => ?_))
    unfold k_row
    rw [if_pos hj]
    rfl
  obtain ⟨t, a1, b1⟩ := kk _ f3 f4' f5 f6 (k_fill c0 cI N K (T.setVm vm₁) N) rfl XF
  refine ⟨t, ?_, b1⟩
  obtain ⟨hr1, hr2⟩ := X.roomAbove hcells hslots
  have hl1 : ¬ n.toNatClampNeg > e.platform.arrayLengthLimit := by rw [Launch.admits_arrayLengthLimit X.admits]; omega
  have hh1 : ¬ n.toNatClampNeg * componentBytes (.array .int) > e.platform.maxHeapBytes := by
    rw [Launch.admits_maxHeapBytes X.admits]; show ¬ n.toNatClampNeg * 4 > 536870912; omega
  have hl2 : ¬ k.toNatClampNeg > e.platform.arrayLengthLimit := by rw [Launch.admits_arrayLengthLimit X.admits]; omega
  have hh2 : ¬ k.toNatClampNeg * componentBytes .int > e.platform.maxHeapBytes := by
    rw [Launch.admits_maxHeapBytes X.admits]; show ¬ k.toNatClampNeg * 4 > 536870912; omega
  have hfind : ([k].find? (· < 0)) = none := by simp [hk]
  have hused : ∀ i, i ≤ N → (k_fill c0 cI N K (T.setVm vm₁) i).heap.size + (N - i) ≤ e.platform.maxCells ∧ (k_fill c0 cI N K (T.setVm vm₁) i).slotsUsed + (N - i) * K ≤ e.platform.maxSlots := fun i hi => by
    have hmul : i * K + (N - i) * K = N * K := by rw [← Nat.add_mul]; congr 1; omega
    exact (F i hi).1.roomAbove (by omega) (by omega)
  jvm_step X.here [hexec, hdg]
  simp only [multianewarray.sem, wp_bind', W.resolveClassAt_links (State.method?_setTop (F0 m pc ls (.int k :: .int n :: rest)) X.here.top) hg₁]
  rw [W.popN, if_neg (by decide)]
  refine ⟨F0 m pc ls (.int k :: .int n :: rest), State.topJava?_setTop' (s := T.setVm vm₁) _ X.here.top, [.int n, .int k], rest, rfl, rfl, ?_⟩
  simp only [List.mapM_cons, List.mapM_nil, wp_bind', wp_pure']
  have eS : ((T.setTop (F0 m pc ls (.int k :: .int n :: rest))).setVm vm₁).setTop (F0 m pc ls rest) = (T.setVm vm₁).setTop (F0 m pc ls rest) := by
    show ((T.setVm vm₁).setTop (F0 m pc ls (.int k :: .int n :: rest))).setTop _ = _
    rw [State.setTop_setTop]
  rw [eS]
  have e0 : ({ cls := c0, slots := Array.replicate n.toNatClampNeg .null } : Cell) = arrV c0 N (k_row T.heap.size 0) := by
    rw [hN]
    exact (arrV_new c0 N .null).trans (k_arrc fun j _ => by unfold k_row; rw [if_neg (by omega)])
  have ei : ({ cls := cI, slots := Array.replicate k.toNatClampNeg (defaultValue .int) } : Cell) = k_in cI K := by
    rw [hKk]
    exact arrV_new cI K (.int 0)
  rw [multianewarray.make]
  simp only [wp_bind', W.ite, hn, if_false, wp_pure', W.theClass]
  refine ⟨kA, hkA, ?_⟩
  simp only [hkindA, wp_bind']
  refine W.newArray_of (k := kA) hkA hkindA hl1 hh1 (by show T.heap.size < _; omega) (by show T.slotsUsed + _ ≤ _; omega) rfl (fun acts' => ?_)
  rw [e0]
  simp only [hfind]
  rw [ite_self, wp_bind', Std.Legacy.Range.forIn_eq_forIn_range']
  have hsz : ([:n.toNatClampNeg] : Std.Legacy.Range).size = n.toNatClampNeg := by simp [Std.Legacy.Range.size]
  rw [hsz]
  show wp (forIn (List.range' 0 n.toNatClampNeg 1) PUnit.unit _) _ _ e _ _ _
  refine wp_forIn_inv (fun rest0 s' => ∃ i, i ≤ N ∧ rest0 = List.range' i (N - i) ∧ s' = (k_fill c0 cI N K (T.setVm vm₁) i).setTop (F0 m pc ls rest)) _ _ ⟨0, Nat.zero_le _, by rw [hN]; rfl, rfl⟩ ?_ ?_
  · rintro x rest0 s' d' acts2 Q' ⟨i, hi, hl, rfl⟩ hnext
    have hlt : i < N := by
      rcases Nat.lt_or_ge i N with h | h
      · exact h
      · rw [show N - i = 0 by omega] at hl
        cases hl
    rw [show N - i = (N - (i + 1)) + 1 by omega, List.range'_succ] at hl
    obtain ⟨rfl, hrest⟩ := List.cons.inj hl
    obtain ⟨g1, g2, g3, g4, g5, g6⟩ := F x hi
    have hu := hused x hi
    have hge : K ≤ (N - x) * K := Nat.le_mul_of_pos_left K (by omega)
    simp only [wp_bind']
    rw [multianewarray.make]
    simp only [wp_bind', W.ite, hk, if_false, wp_pure', W.theClass]
    have hcl2 : ((k_fill c0 cI N K (T.setVm vm₁) x).setTop (F0 m pc ls rest)).vm.classes[cI]? = some kC := by
      show (k_fill c0 cI N K (T.setVm vm₁) x).vm.classes[cI]? = some kC
      rw [g2]; exact hkC
    have hcl3 : ((k_fill c0 cI N K (T.setVm vm₁) x).setTop (F0 m pc ls rest)).vm.classes[c0]? = some kA := by
      show (k_fill c0 cI N K (T.setVm vm₁) x).vm.classes[c0]? = some kA
      rw [g2]; exact hkA
    refine ⟨kC, hcl2, ?_⟩
    simp only [hkindC]
    refine W.newArray_of (k := kC) hcl2 hkindC hl2 hh2 (by show (k_fill c0 cI N K (T.setVm vm₁) x).heap.size < _; omega) (by show (k_fill c0 cI N K (T.setVm vm₁) x).slotsUsed + _ ≤ _; omega) rfl (fun acts3 => ?_)
    rw [ei]
    simp only [wp_bind', W.writeLoc, wp_pure']
    have w0 : T.heap.size < (k_fill c0 cI N K (T.setVm vm₁) x).heap.size := by
      have : (T.setVm vm₁).heap.size = T.heap.size := rfl
      omega
    refine ⟨arrV c0 N (k_row T.heap.size x), (State.heap_pushCell_of_lt _ _ w0).trans g4, (fun q => by cases q), by rw [arrV_size]; exact hlt, ?_, hnext _ _ _ ⟨x + 1, hlt, hrest, ?_⟩⟩
    · show State.fitsSlot _ c0 .none x _ = true
      have hcl4 : (k_fill c0 cI N K (T.setVm vm₁) x).vm.classes[c0]? = some kA := hcl3
      simp [State.fitsSlot, State.slotType?, hcl4, hkindA, fits]
    · rw [arrV_store]
      have e9 : ((k_fill c0 cI N K (T.setVm vm₁) x).setTop (F0 m pc ls rest)).heap.size = T.heap.size + 1 + x := g3
      rw [e9, k_row_up]
      rfl
  · rintro s' d' acts2 ⟨i, hi, hl, rfl⟩
    have hiN : i = N := by
      rcases Nat.lt_or_ge i N with h | h
      · rw [show N - i = (N - (i + 1)) + 1 by omega, List.range'_succ] at hl
        cases hl
      · omega
    subst hiN
    simp only [wp_pure', wp_bind', W.mark, W.pushRef, State.topJava?_setTop' _ XF.here.top, Option.some.injEq, exists_eq_left', State.setTop_setTop, State.heap_setTop]
    intro acts
    simp [jvm, XF.here.top]
    exact a1
end KMN
