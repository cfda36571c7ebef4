/-! Constructors: worlds as lists of cells, the classes of arrays known ahead. -/
def k_ty (ac : Nat → ClassId) : List (ClassId × FieldType) := [(ac 0, .int), (ac 1, .array .int), (ac 2, .object RX1), (ac 3, .object RX2)]
def k_nests : List Cond := [.methodLinkNest RX6 9 yX3_init RX6, .methodLinkNest RX6 18 yX0_init RX6, .methodLinkNest RX6 53 yX1_init RX6, .methodLinkNest RX6 60 yX2_init RX6, .methodLinkNest RX2 11 yX1_init RX6]
def k_K (D : va_G) (ac : Nat → ClassId) (U : State) : Prop := va_K D sk_cl (k_ty ac) U ∧ k_AA (ac 0) (ac 1) U ∧ va_AO RX1 U ∧ va_AO RX2 U ∧ ∀ w ∈ k_nests, va_Nw w U
theorem k_nest_M : ∀ w ∈ k_nests, w.onTables = true ∧ ∃ a i x h, w = .methodLinkNest a i x h := by
  intro w hw
  simp only [k_nests, List.mem_cons, List.not_mem_nil, or_false] at hw
  rcases hw with rfl | rfl | rfl | rfl | rfl
  all_goals exact ⟨rfl, _, _, _, _, rfl⟩
theorem k_K.warm {D : va_G} {ac : Nat → ClassId} {s U : State} (hW : s.WarmedH U.vm) (h : k_K D ac s) : k_K D ac U := by
  obtain ⟨h1, h2, h3, h4, h5⟩ := h
  refine ⟨va_K.moved hW.alike h1, k_AA.moved hW.alike h2, va_AO.moved hW.alike h3, va_AO.moved hW.alike h4, fun w hw => ?_⟩
  obtain ⟨-, a, i, x, z, rfl⟩ := k_nest_M w hw
  exact va_Nw.warmM hW (h5 _ hw)
theorem k_K.same {D : va_G} {ac : Nat → ClassId} {u U : State} (hvm : u.vm = U.vm) (h : k_K D ac u) : k_K D ac U := by
  obtain ⟨h1, h2, h3, h4, h5⟩ := h
  have ha : u.vm.Alike U.vm := by rw [hvm]; exact Vm.Alike.refl _
  exact ⟨va_K.moved ha h1, k_AA.moved ha h2, va_AO.moved ha h3, va_AO.moved ha h4, fun w hw => va_Nw.same (k_nest_M w hw).1 hvm (h5 w hw)⟩
def k_ints (ac : Nat → ClassId) (n : Nat) (f : Nat → Int32) : va_E := .inl (ac 0, n, .inl f)
def k_refs (c : ClassId) (n : Nat) (f : Nat → Option Nat) : va_E := .inl (c, n, .inr (.inr (.inr (.inr f))))
/-- what stays the same over a constructor's body -/
def k_C (D : va_G) (ac : Nat → ClassId) (p : Program) (s : State) (m : MethodId) (args : Array Value) (meth : Method) (c : Code) (cc : ByteArray) (nL : Nat) (own : String) : Prop :=
  p.tables.exec = Jvm.exec ∧ c.code = cc ∧ c.maxLocals = nL ∧ s.vm.findClass own = some m.cls ∧ (∀ w ∈ sk_W, w.before args s = true) ∧ k_K D ac s ∧ meth.sig.returnType = none ∧ meth.locks = false ∧ meth.name = "<init>"
def k_Pre (D : va_G) (ac : Nat → ClassId) (sz : Nat) (w0 : Nat × va_E) (U : State) : Prop := U.heap.size = sz ∧ va_P D sk_cl [w0] U.heap ∧ k_K D ac U
def k_Post (D : va_G) (sz : Nat) (w0 : Nat × va_E) (blk : (Nat → Nat) → va_W) : Array Value → State → Outcome → State → Prop := va_Qv (fun u : Nat → Nat => u 0 = w0.1) (fun u t => va_P D sk_cl (blk u) t.heap ∧ va_D (va_A [w0] sz) (blk u)) (va_A [w0] sz)
def k_Met (D : va_G) (ac : Nat → ClassId) (l : Launch) (y : MethodName) (cy : ByteArray) (ny : Nat) (rm : Room) (av : List Value) (sz : Nat) (w0 : Nat × va_E) (blk : (Nat → Nat) → va_W) (mc ms : Nat) : Prop :=
  Met l y (Cond.code y cy ny none :: sk_W) rm (va_Pc av (k_Pre D ac sz w0)) (k_Post D sz w0 blk) mc ms (va_A [w0] sz)
theorem k_D1 {w0 : Nat × va_E} {sz : Nat} : va_D (va_A [w0] sz) [w0] := by
  refine ⟨fun i j p q hi hj _ => ?_, fun k q hk => va_A.in hk⟩
  have h1 : i < 1 := (List.getElem?_eq_some_iff.mp hi).1
  have h2 : j < 1 := (List.getElem?_eq_some_iff.mp hj).1
  omega
theorem k_start {D : va_G} {ac : Nat → ClassId} {l : Launch} {y : MethodName} {cy : ByteArray} {ny : Nat} {rm : Room} {av : List Value} {sz : Nat} {w0 : Nat × va_E} {blk : (Nat → Nat) → va_W} {mc ms : Nat}
    (hy : plainName y.cls = true) (hi : y.name = "<init>") (hn : (lg_sl av).length ≤ ny)
    (body : ∀ (p : Program) (e : Env) (s : State) (m : MethodId) (below : List Frame) (meth : Method) (c : Code), k_C D ac p s m av.toArray meth c cy ny y.cls → s.heap.size = sz → ∀ ls : Array Slot, lv_has ls ny (lv_args 0 av) → va_P D sk_cl [w0] s.heap → va_D (va_A [w0] sz) [w0] → va_S (va_A [w0] sz) s.heap s.heap [] → (∀ q : Nat, s.heap.size ≤ q → va_A [w0] sz q) →
      W p l e rm s m av.toArray below meth c s.heap [] 0 0 (MQ below (k_Post D sz w0 blk) av.toArray s mc ms (va_A [w0] sz)) (F0 m 0 ls [])) : k_Met D ac l y cy ny rm av sz w0 blk mc ms := by
  refine Met.ofW (cc := cy) (maxL := ny) (ret := none) hy rfl ?_
  intro p e s m args below meth c s₁ B hml hv
  obtain ⟨rfl, hsz, hP, hK⟩ := hv
  have hts := atoms_spec (ws := Cond.code y cy ny none :: sk_W) B.pre
  have hl := lv_entry av (n := ny) hn
  rw [lg_entry_eq]
  exact body p e s m below meth c ⟨B.exec, B.bytes, hml, findClass_of_methodNamed B.named, fun w hw => hts w (List.mem_cons_of_mem _ hw), hK, B.returns, B.notSynchronized, (name_of_methodNamed B.named B.method).1.trans hi⟩ hsz _ hl hP k_D1 va_S.rf (fun q hq => Or.inr (by rw [← hsz]; exact hq))
theorem k_join {A0 : Nat → Prop} {D : va_G} {X w1 : va_W} {w0 : Nat × va_E} {H H1 : Heap} (hP : va_P D sk_cl (X ++ [w0]) H) (hD : va_D A0 (X ++ [w0])) (hk : ∀ q : Nat, q < H.size → ¬ va_A [w0] H.size q → H1[q]? = H[q]?) (hF : ∀ q, va_A [w0] H.size q → A0 q) (hP1 : va_P D sk_cl w1 H1) (hD1 : va_D (va_A [w0] H.size) w1) :
    va_P D sk_cl (X ++ w1) H1 ∧ va_D A0 (X ++ w1) := by
  have hlast : (X ++ [w0])[X.length]? = some w0 := by simp
  have hX : ∀ (k : Nat) (q : Nat × va_E), X[k]? = some q → (X ++ [w0])[k]? = some q ∧ q.1 < H.size ∧ ¬ va_A [w0] H.size q.1 := by
    intro k q hq
    have hl : k < X.length := (List.getElem?_eq_some_iff.mp hq).1
    have h1 : (X ++ [w0])[k]? = some q := by rw [List.getElem?_append_left hl]; exact hq
    refine ⟨h1, (hP k q h1).lt, fun z => ?_⟩
    rcases z with ⟨j, e, z⟩ | z
    · have hj : j < 1 := (List.getElem?_eq_some_iff.mp z).1
      rw [show j = 0 by omega] at z
      have e1 : w0 = (q.1, e) := Option.some.inj z
      have := hD.1 k X.length q w0 h1 hlast (by rw [e1])
      omega
    · exact absurd ((hP k q h1).lt) (by omega)
  refine ⟨va_P.app (fun k q hq => ?_) hP1, ?_, ?_⟩
  · obtain ⟨h1, h2, h3⟩ := hX k q hq
    exact (hP k q h1).kept (hk q.1 h2 h3)
  · intro i j x y hi hj hxy
    by_cases hi2 : i < X.length <;> by_cases hj2 : j < X.length
    · rw [List.getElem?_append_left hi2] at hi
      rw [List.getElem?_append_left hj2] at hj
      exact hD.1 i j x y (hX i x hi).1 (hX j y hj).1 hxy
    · rw [List.getElem?_append_left hi2] at hi
      rw [List.getElem?_append_right (by omega)] at hj
      exact absurd (hD1.2 _ _ hj) (by rw [← hxy]; exact (hX i x hi).2.2)
    · rw [List.getElem?_append_right (by omega)] at hi
      rw [List.getElem?_append_left hj2] at hj
      exact absurd (hD1.2 _ _ hi) (by rw [hxy]; exact (hX j y hj).2.2)
    · rw [List.getElem?_append_right (by omega)] at hi hj
      have := hD1.1 _ _ x y hi hj hxy
      omega
  · intro k q hq
    by_cases hk2 : k < X.length
    · rw [List.getElem?_append_left hk2] at hq
      exact hD.2 k q (hX k q hq).1
    · rw [List.getElem?_append_right (by omega)] at hq
      exact hF _ (hD1.2 _ _ hq)
/-- a row of references, the same within its length -/
theorem k_fix {A : Nat → Prop} {D : va_G} {ws : va_W} {H : Heap} {k a n : Nat} {c : ClassId} {f f' : Nat → Option Nat} (hP : va_P D sk_cl ws H) (hD : va_D A ws) (hk : ws[k]? = some (a, k_refs c n f)) (hf : ∀ i, i < n → f i = f' i) : va_P D sk_cl (ws.set k (a, k_refs c n f')) H ∧ va_D A (ws.set k (a, k_refs c n f')) := by
  refine ⟨va_P.set hP hD hk ?_ (fun q _ => rfl), hD.set hk⟩
  have h : H[a]? = some (arrV c n (fun j => va_rf (f j))) := hP k _ hk
  show H[a]? = some (arrV c n (fun j => va_rf (f' j)))
  have e : arrV c n (fun j => va_rf (f j)) = arrV c n (fun j => va_rf (f' j)) := k_arrc fun j hj => by rw [hf j hj]
  rw [h, e]
section KRW
variable {p : Program} {l : Launch} {e : Env} {R : Room} {s : State} {m : MethodId} {args : Array Value} {below : List Frame} {meth : Method} {c : Code} {H : Heap} {locs : List Loc} {Q : State → Prop}
variable {D : va_G} {ac : Nat → ClassId} {cc : ByteArray} {nL : Nat} {own : String} {pc : Nat} {ls : Array Slot} {rest : List Value} {cells slots : Nat} {A : Nat → Prop} {H0 : Heap} {ws : va_W}
theorem k_obj (C : k_C D ac p s m args meth c cc nL own) (hsz : ls.size = nL) {idx a : Nat} (hlk : Cond.methodLink own idx Lib.objectInit ∈ sk_W) (hin : Cond.instanceMethod Lib.objectInit ∈ sk_W) (hcd : Cond.code Lib.objectInit ⟨#[0xb1]⟩ 1 none ∈ sk_W) (hf : 1 ≤ R.frames) (hlo : (rest.map fun v => v.category).sum + 12 ≤ R.locals) (hdg : decode cc pc = .ok (.invokespecial idx, 3))
    (kk : W p l e R s m args below meth c H locs cells slots Q (F0 m (pc + 3) ls rest)) : W p l e R s m args below meth c H locs cells slots Q (F0 m pc ls (.ref a :: rest)) := by
  obtain ⟨hx, hb, hml, hown, hts, hK, hr, hlocks, hinit⟩ := C
  exact W.objInit hx hb hown (hts _ hlk) (hts _ hin) (hts _ hcd) rfl (hsz.trans hml.symm) rfl hdg hf (by show 2 * 0 + _ + 12 ≤ _; omega) kk
theorem k_newa (C : k_C D ac p s m args meth c cc nL own) (hP : va_P D sk_cl ws H) (hD : va_D A ws) (hS : va_S A H0 H locs) (hA : ∀ q, H0.size ≤ q → A q) (har : Cond.arrayClass .int ∈ sk_W) {n : Int32} {N : Nat} (hn : ¬ n < 0) (hN : n.toNatClampNeg = N) (hb4 : N ≤ 100000) (hcells : cells + 1 ≤ R.cells) (hslots : slots + N ≤ R.slots) (hdg : decode cc pc = .ok (.newarray .int, 2))
    (kk : ∀ (q : Nat) (H1 : Heap), va_P D sk_cl (ws ++ [(q, k_ints ac N (fun _ => 0))]) H1 → va_D A (ws ++ [(q, k_ints ac N (fun _ => 0))]) → va_S A H0 H1 locs → W p l e R s m args below meth c H1 locs (cells + 1) (slots + N) Q (F0 m (pc + 2) ls (.ref q :: rest))) : W p l e R s m args below meth c H locs cells slots Q (F0 m pc ls (.int n :: rest)) := by
  obtain ⟨hx, hb, hml, hown, hts, hK, hr, hlocks, hinit⟩ := C
  refine va_newa (D := D) (cl := sk_cl) (tys := k_ty ac) (atype := .int) (ty := .int) (a0 := (N, .inl (fun _ => 0))) hx hb (hts _ har) rfl hK.1 hP hD hS hA (fun _ => rfl) hn hN (by show N * 4 ≤ _; omega) hcells hslots hdg (fun q cA H1 hK1 hP1 hD1 hS1 => ?_)
  have e1 := (hK1.2 4 (cA, .int) rfl).2
  have e2 := (hK1.2 0 (ac 0, .int) rfl).2
  have e3 : cA = ac 0 := Option.some.inj (e1.symm.trans e2)
  subst e3
  exact kk q H1 hP1 hD1 hS1
theorem k_newq (C : k_C D ac p s m args meth c cc nL own) (hP : va_P D sk_cl ws H) (hD : va_D A ws) (hS : va_S A H0 H locs) (hA : ∀ q, H0.size ≤ q → A q) {cn : String} {t idx : Nat} (hAO : va_AO cn s) (ht : (k_ty ac)[t]? = some (ac t, .object cn)) (hlk : Cond.classLink own idx cn ∈ sk_W) {n : Int32} {N : Nat} (hn : ¬ n < 0) (hN : n.toNatClampNeg = N) (hb4 : N ≤ 100000) (hcells : cells + 1 ≤ R.cells) (hslots : slots + N ≤ R.slots) (hdg : decode cc pc = .ok (.anewarray idx, 3))
    (kk : ∀ (q : Nat) (H1 : Heap), va_P D sk_cl (ws ++ [(q, k_refs (ac t) N (fun _ => none))]) H1 → va_D A (ws ++ [(q, k_refs (ac t) N (fun _ => none))]) → va_S A H0 H1 locs → W p l e R s m args below meth c H1 locs (cells + 1) (slots + N) Q (F0 m (pc + 3) ls (.ref q :: rest))) : W p l e R s m args below meth c H locs cells slots Q (F0 m pc ls (.int n :: rest)) := by
  obtain ⟨hx, hb, hml, hown, hts, hK, hr, hlocks, hinit⟩ := C
  refine va_newq (D := D) (cl := sk_cl) (tys := k_ty ac) (C := cn) hx hb hown (hts _ hlk) hAO hK.1 hP hD hS hA hn hN (by omega) hcells hslots hdg (fun q cA H1 hK1 hP1 hD1 hS1 => ?_)
  obtain ⟨-, -, -, -, -, e1⟩ := (hK1.2 4 (cA, .object cn) rfl).2
  obtain ⟨-, -, -, -, -, e2⟩ := (hK.1.2 t (ac t, .object cn) ht).2
  have e3 : cA = ac t := Option.some.inj (e1.symm.trans e2)
  subst e3
  exact kk q H1 hP1 hD1 hS1
theorem k_multi (C : k_C D ac p s m args meth c cc nL own) (hP : va_P D sk_cl ws H) (hD : va_D A ws) (hS : va_S A H0 H locs) (hA : ∀ q, H0.size ≤ q → A q) {idx : Nat} (hlk : Cond.classLink own idx "[[I" ∈ sk_W) {n k : Int32} {N K : Nat} (hn : ¬ n < 0) (hk : ¬ k < 0) (hN : n.toNatClampNeg = N) (hKk : k.toNatClampNeg = K) (hb1 : N ≤ 1000) (hb2 : K ≤ 1000) (hcells : cells + (1 + N) ≤ R.cells) (hslots : slots + (N + N * K) ≤ R.slots) (hdg : decode cc pc = .ok (.multianewarray idx 2, 4))
    (kk : ∀ (q : Nat) (H1 : Heap) (locs1 : List Loc), va_P D sk_cl ((ws ++ [(q, k_refs (ac 1) N (fun i => some (q + 1 + i)))]) ++ (List.range N).map (fun i => (q + 1 + i, k_ints ac K (fun _ => 0)))) H1 → va_D A ((ws ++ [(q, k_refs (ac 1) N (fun i => some (q + 1 + i)))]) ++ (List.range N).map (fun i => (q + 1 + i, k_ints ac K (fun _ => 0)))) → va_S A H0 H1 locs1 →
      W p l e R s m args below meth c H1 locs1 (cells + 1 + N) (slots + N + N * K) Q (F0 m (pc + 4) ls (.ref q :: rest))) : W p l e R s m args below meth c H locs cells slots Q (F0 m pc ls (.int k :: .int n :: rest)) := by
  obtain ⟨hx, hb, hml, hown, hts, hK, hr, hlocks, hinit⟩ := C
  refine k_mna hx hb hown (hts _ hlk) hK.2.1 hn hk hN hKk hb1 hb2 hcells hslots hdg (fun H1 z1 z2 z3 z4 => ?_)
  have hlt : ∀ (k : Nat) (x : Nat × va_E), ws[k]? = some x → x.1 < H.size := fun k x hx => (hP k x hx).lt
  have hm : ∀ (k : Nat) (x : Nat × va_E), ((List.range N).map (fun i => ((H.size + 1 + i, k_ints ac K (fun _ => 0)) : Nat × va_E)))[k]? = some x → k < N ∧ x = (H.size + 1 + k, k_ints ac K (fun _ => 0)) := fun k x hx => by
    rw [List.getElem?_map] at hx
    by_cases h9 : k < N
    · rw [List.getElem?_range h9] at hx
      exact ⟨h9, (Option.some.inj hx).symm⟩
    · rw [List.getElem?_eq_none (by rw [List.length_range]; omega)] at hx
      cases hx
  have hD1 := hD.push (e := k_refs (ac 1) N (fun i => some (H.size + 1 + i))) hP rfl (hA _ hS.1)
  have hle : ∀ (k : Nat) (x : Nat × va_E), (ws ++ [(H.size, k_refs (ac 1) N (fun i => some (H.size + 1 + i)))])[k]? = some x → x.1 ≤ H.size := fun k x hx => by
    by_cases hl : k < ws.length
    · rw [List.getElem?_append_left hl] at hx
      exact Nat.le_of_lt (hlt k x hx)
    · rw [List.getElem?_append_right (by omega)] at hx
      have h0 : k - ws.length < 1 := (List.getElem?_eq_some_iff.mp hx).1
      rw [show k - ws.length = 0 by omega] at hx
      cases hx
      exact Nat.le_refl _
  refine kk H.size H1 _ (va_P.app (va_P.app (hP.kept fun k x hx => z4 x.1 (hlt k x hx)) (fun k x hx => ?_)) (fun k x hx => ?_)) ⟨fun i j x y hi hj hxy => ?_, fun k x hx => ?_⟩ ⟨Nat.le_trans hS.1 (by omega), fun x h1 h2 => (z4 x (Nat.lt_of_lt_of_le h1 hS.1)).trans (hS.2.1 x h1 h2), fun q hq => ?_⟩
  · have h0 : k < 1 := (List.getElem?_eq_some_iff.mp hx).1
    rw [show k = 0 by omega] at hx
    cases hx
    exact z2
  · obtain ⟨h9, rfl⟩ := hm k x hx
    exact z3 k h9
  · generalize hW : ws ++ [(H.size, k_refs (ac 1) N (fun i => some (H.size + 1 + i)))] = W1 at hD1 hle hi hj
    by_cases h1 : i < W1.length <;> by_cases h2 : j < W1.length
    · rw [List.getElem?_append_left h1] at hi
      rw [List.getElem?_append_left h2] at hj
      exact hD1.1 i j x y hi hj hxy
    · rw [List.getElem?_append_left h1] at hi
      rw [List.getElem?_append_right (by omega)] at hj
      have a1 := hle _ _ hi
      obtain ⟨-, rfl⟩ := hm _ _ hj
      have : x.1 = H.size + 1 + (j - W1.length) := hxy
      omega
    · rw [List.getElem?_append_right (by omega)] at hi
      rw [List.getElem?_append_left h2] at hj
      have a1 := hle _ _ hj
      obtain ⟨-, rfl⟩ := hm _ _ hi
      have : H.size + 1 + (i - W1.length) = y.1 := hxy
      omega
    · rw [List.getElem?_append_right (by omega)] at hi hj
      obtain ⟨-, rfl⟩ := hm _ _ hi
      obtain ⟨-, rfl⟩ := hm _ _ hj
      have : H.size + 1 + (i - W1.length) = H.size + 1 + (j - W1.length) := hxy
      omega
  · generalize hW : ws ++ [(H.size, k_refs (ac 1) N (fun i => some (H.size + 1 + i)))] = W1 at hD1 hx
    by_cases h1 : k < W1.length
    · rw [List.getElem?_append_left h1] at hx
      exact hD1.2 k x hx
    · rw [List.getElem?_append_right (by omega)] at hx
      obtain ⟨-, rfl⟩ := hm _ _ hx
      exact hA _ (by have := hS.1; show H0.size ≤ H.size + 1 + _; omega)
  · rcases List.mem_append.mp hq with h | h
    · exact hS.2.2 q h
    · obtain ⟨i, -, rfl⟩ := List.mem_map.mp h
      exact hA _ hS.1
theorem k_put (C : k_C D ac p s m args meth c cc nL own) (hP : va_P D sk_cl ws H) (hD : va_D A ws) (hS : va_S A H0 H locs) (q0 : Nat) {a ci n j idx : Nat} {cn : String} {T : u_T} {fs : List Value} {v : Value} (he : ws[q0]? = some (a, .inr (ci, fs))) (hc : sk_cl[ci]? = some (cn, T, n)) (hj : j < n) (hl : j < fs.length) (hd : (T j).1 = own)
    {ty : FieldType} (hty : parseFieldDescriptor (T j).2.2.1 = some ty) (hnx : narrow ty v = v) (hfx : fits ty v = true) (hlk : Cond.fieldLink own idx (T j).1 (T j).2.1 (T j).2.2.1 ∈ sk_W) (hdg : decode cc pc = .ok (.putfield idx, 3))
    (kk : ∀ (H1 : Heap) (locs1 : List Loc), va_P D sk_cl (ws.set q0 (a, .inr (ci, fs.set j v))) H1 → va_D A (ws.set q0 (a, .inr (ci, fs.set j v))) → va_S A H0 H1 locs1 → W p l e R s m args below meth c H1 locs1 cells slots Q (F0 m (pc + 3) ls rest)) : W p l e R s m args below meth c H locs cells slots Q (F0 m pc ls (v :: .ref a :: rest)) := by
  obtain ⟨hx, hb, hml, hown, hts, hK, hr, hlocks, hinit⟩ := C
  obtain ⟨⟨ty0, hty0⟩, hnm⟩ := sk_tyok ci _ hc
  cases hf : (T j).2.2.2 with
  | false => exact va_put (D := D) (cl := sk_cl) (tys := k_ty ac) (ci := ci) (v := v) (ty := ty) (C := cn) (T := T) (N := n) hx hb hts (sk_hin ci _ hc) ty0 hty0 hnm hown hK.1 hP hD hS q0 he hc j hj (hts _ hlk) (fun _ h9 => h9) hf hty hnx hfx hl hdg kk
  | true => exact va_putF (D := D) (cl := sk_cl) (tys := k_ty ac) (ci := ci) (v := v) (ty := ty) (C := cn) (T := T) (N := n) hx hb hts (sk_hin ci _ hc) ty0 hty0 hnm hown hK.1 hP hD hS q0 he hc j hj (hts _ hlk) (fun _ h9 => h9) hf hinit hd hty hnx hfx hl hdg kk
theorem k_get (C : k_C D ac p s m args meth c cc nL own) (hP : va_P D sk_cl ws H) (q0 : Nat) {a ci n j idx : Nat} {cn : String} {T : u_T} {fs : List Value} {v : Value} (he : ws[q0]? = some (a, .inr (ci, fs))) (hc : sk_cl[ci]? = some (cn, T, n)) (hj : j < n) (hv : fs[j]? = some v) (hlk : Cond.fieldLink own idx (T j).1 (T j).2.1 (T j).2.2.1 ∈ sk_W) (hdg : decode cc pc = .ok (.getfield idx, 3))
    (kk : W p l e R s m args below meth c H locs cells slots Q (F0 m (pc + 3) ls (v :: rest))) : W p l e R s m args below meth c H locs cells slots Q (F0 m pc ls (.ref a :: rest)) := by
  obtain ⟨hx, hb, hml, hown, hts, hK, hr, hlocks, hinit⟩ := C
  exact va_get (D := D) (cl := sk_cl) (tys := k_ty ac) (ci := ci) (v := v) (C := cn) (T := T) (N := n) hx hb hts (sk_hin ci _ hc) hown hK.1 hP q0 he hc j hj (hts _ hlk) (fun _ h9 => h9) hv hdg kk
theorem k_new (C : k_C D ac p s m args meth c cc nL own) (hP : va_P D sk_cl ws H) (hD : va_D A ws) (hS : va_S A H0 H locs) (hA : ∀ q, H0.size ≤ q → A q) {ci n idx : Nat} {cn : String} {T : u_T} (hc : sk_cl[ci]? = some (cn, T, n)) {fs : List Value} (ty0 : Nat → FieldType) (hty0 : ∀ k, k < n → parseFieldDescriptor (T k).2.2.1 = some (ty0 k)) (hfs : ∀ j, j < n → defaultValue (ty0 j) = vp_V fs j)
    (hlk : Cond.classLink own idx cn ∈ sk_W) (hins : Cond.instantiable cn n ∈ sk_W) (hini : Cond.initialized cn ∈ sk_W) (hcells : cells + 1 ≤ R.cells) (hslots : slots + n ≤ R.slots) (hdg : decode cc pc = .ok (.new idx, 3))
    (kk : ∀ (q : Nat) (H1 : Heap), va_P D sk_cl (ws ++ [(q, .inr (ci, fs))]) H1 → va_D A (ws ++ [(q, .inr (ci, fs))]) → va_S A H0 H1 locs → W p l e R s m args below meth c H1 locs (cells + 1) (slots + n) Q (F0 m (pc + 3) ls (.ref q :: rest))) : W p l e R s m args below meth c H locs cells slots Q (F0 m pc ls rest) := by
  obtain ⟨hx, hb, hml, hown, hts, hK, hr, hlocks, hinit⟩ := C
  exact va_new (D := D) (cl := sk_cl) (tys := k_ty ac) (ci := ci) (C := cn) (T := T) (N := n) hx hb hts (sk_hin ci _ hc) ty0 hty0 hown (hts _ hlk) (hts _ hins) (hts _ hini) hK.1 hP hD hS hA hc hfs hcells hslots hdg kk
theorem k_ret {sz : Nat} {w0 : Nat × va_E} {blk : (Nat → Nat) → va_W} {mc ms : Nat} {rm : Room} (C : k_C D ac p s m args meth c cc nL own) (u : Nat → Nat) (hu : u 0 = w0.1) (hP : va_P D sk_cl (blk u) H) (hD : va_D (va_A [w0] sz) (blk u)) (hS : va_S (va_A [w0] sz) s.heap H locs) (h1 : cells ≤ mc) (h2 : slots ≤ ms) (hdg : decode cc pc = .ok (.return_, 1)) :
    W p l e rm s m args below meth c H locs cells slots (MQ below (k_Post D sz w0 blk) args s mc ms (va_A [w0] sz)) (F0 m pc ls []) := by
  obtain ⟨hx, hb, hml, hown, hts, hK, hr, hlocks, hinit⟩ := C
  refine W.widen h1 h2 ?_
  exact W.vret hx hb hr (fun t ht hW => ⟨⟨u, rfl, hu, by rw [ht]; exact hP, hD⟩, hS.F ht⟩) hS.2.2 hdg
/-- what a constructor's contract takes along -/
def k_y (y : MethodName) (cy : ByteArray) (ny : Nat) (n : Nat) : Prop := (y.cls ≠ "java/lang/invoke/MethodHandle" ∧ y.cls ≠ "java/lang/invoke/VarHandle" ∧ (parseMethodDescriptor y.desc).map (fun d => d.parameters.length) = some n) ∧ y.name = "<init>" ∧ Cond.code y cy ny none ∈ sk_W ∧ Cond.instanceMethod y ∈ sk_W ∧ Cond.initialized y.cls ∈ sk_W
theorem k_pre (hK : k_K D ac s) {w0 : Nat × va_E} (hP : va_P D sk_cl [w0] H) (av : List Value) : PreS s H (va_Pc av (k_Pre D ac H.size w0)) av := by
  refine ⟨fun a U g mk q => ?_, fun U hU hW => ⟨rfl, by rw [hU], by rw [hU]; exact hP, k_K.warm hW hK⟩⟩
  obtain ⟨q0, q1, q2, q3⟩ := q
  exact ⟨q0, q1, q2, k_K.same (u := U) (U := U.calling g mk a) rfl q3⟩
theorem k_sub1 {X : va_W} {w0 : Nat × va_E} (hP : va_P D sk_cl (X ++ [w0]) H) : va_P D sk_cl [w0] H := fun k q hq => by
  have h0 : k < 1 := (List.getElem?_eq_some_iff.mp hq).1
  rw [show k = 0 by omega] at hq
  exact hP X.length q (by rw [List.getElem?_append_right (Nat.le_refl _), Nat.sub_self]; exact hq)
theorem k_call {y : MethodName} {cy : ByteArray} {ny n idx mc ms : Nat} {rm : Room} {As st : List Value} {w0 : Nat × va_E} {blk : (Nat → Nat) → va_W} {X : va_W} (C : k_C D ac p s m args meth c cc nL own) (hsz : ls.size = nL) (hP : va_P D sk_cl (X ++ [w0]) H) (hD : va_D A (X ++ [w0])) (hS : va_S A H0 H locs) (hA : ∀ q, H0.size ≤ q → A q)
    (hM : k_Met D ac l y cy ny rm (.ref w0.1 :: As) H.size w0 blk mc ms) (hy : k_y y cy ny n) (hrc : rm.cells = mc) (hrs : rm.slots = ms) (hlk : Cond.methodLink own idx y ∈ sk_W ∨ Cond.methodLinkNest own idx y RX6 ∈ k_nests) (hR : rm.frames + 1 ≤ R.frames ∧ 8 + (ny + 11) + rm.locals ≤ R.locals) (hn : As.length = n) (hst : st = As.reverse ++ .ref w0.1 :: rest) (hr8 : (rest.map fun v => v.category).sum ≤ 8) (hdg : decode cc pc = .ok (.invokespecial idx, 3)) (hf : cells + mc ≤ R.cells ∧ slots + ms ≤ R.slots)
    (kk : ∀ (u : Nat → Nat) (H1 : Heap) (locs1 : List Loc), u 0 = w0.1 → va_P D sk_cl (X ++ blk u) H1 → va_D A (X ++ blk u) → va_S A H0 H1 locs1 → W p l e R s m args below meth c H1 locs1 (cells + mc) (slots + ms) Q (F0 m (pc + 3) ls rest)) : W p l e R s m args below meth c H locs cells slots Q (F0 m pc ls st) := by
  obtain ⟨hx, hb, hml, hown, hts, hK, hr, hlocks, hinit⟩ := C
  obtain ⟨hd9, hnm, hcd, him, hini⟩ := hy
  have hF : ∀ q, va_A [w0] H.size q → A q := by
    intro q h
    rcases h with ⟨k, e, h⟩ | h
    · have h0 : k < 1 := (List.getElem?_eq_some_iff.mp h).1
      rw [show k = 0 by omega] at h
      have e1 : w0 = (q, e) := Option.some.inj h
      have := hD.2 X.length w0 (by rw [List.getElem?_append_right (Nat.le_refl _), Nat.sub_self]; rfl)
      rw [e1] at this
      exact this
    · exact hA q (Nat.le_trans hS.1 h)
  have hrun : va_Run p l e R s m args below meth c H locs cells slots mc ms (F0 m pc ls st) rest (k_Post D H.size w0 blk (Value.ref w0.1 :: As).toArray) (va_A [w0] H.size) := by
    rcases hlk with hlk | hlk
    · exact va_runI (As := As) (rest := rest) ⟨hx, hb, hml, hown, hts⟩ hM (cwI n hts (sk_good hcd) rfl hrc hrs (hts _ hini) (hts _ hlk) (hts _ him) hnm hd9 hR) (k_pre hK (k_sub1 hP) _) rfl hn hsz hst (lv_room hr8) hdg hf
    · exact va_runIN (As := As) (rest := rest) ⟨hx, hb, hml, hown, hts⟩ hM ⟨va_cnB n hts (sk_good hcd) rfl hrc hrs (hK.2.2.2.2 _ hlk) (hts _ hini) hd9 hR, hnm, hts _ him⟩ (k_pre hK (k_sub1 hP) _) rfl hn hsz hst (lv_room hr8) hdg hf
  refine va_callv hrun hS (fun q _ h => hF q h) hF (fun u t H1 locs1 ht hvm hw hB hz1 hk1 hS1 => ?_)
  obtain ⟨hP1, hD1⟩ := hB
  rw [ht] at hP1
  obtain ⟨hP2, hD2⟩ := k_join hP hD hk1 hF hP1 hD1
  exact kk u H1 locs1 hw hP2 hD2 hS1
end KRW
