/-! THE UNIFORM WORLD: after the two constructors the heap's shape never changes; object o lies at sk_ad g o, and its ints are M o. -/
abbrev sk_M : Type := Nat → Nat → Int32
def sk_uA (M : sk_M) (o : Nat) (f : Nat → Int32) : sk_M := fun a => if a = o then f else M a
def sk_u (M : sk_M) (o j : Nat) (v : Int32) : sk_M := sk_uA M o (upd (M o) j v)
def sk_tab : List (Nat × Nat) := [(16, 13), (2, 4), (3, 5), (0, 60), (0, 9), (0, 125), (14, 4), (0, 9), (14, 4), (0, 9), (15, 16), (0, 9), (0, 9), (0, 9), (0, 4), (0, 12), (0, 6), (1, 6), (0, 3), (0, 1000), (0, 9), (0, 9), (0, 9), (0, 9), (0, 9), (0, 9), (15, 16), (0, 9), (0, 9), (0, 9), (0, 4), (0, 12), (0, 6), (1, 6), (0, 3), (0, 1000), (0, 9), (0, 9), (0, 9), (0, 9), (0, 9), (0, 9), (13, 5), (1, 14), (0, 14), (0, 14), (0, 14), (0, 96), (0, 96), (0, 96), (0, 96), (0, 96), (0, 96), (0, 96), (0, 96), (0, 96), (0, 96), (0, 96), (0, 96), (0, 96), (0, 96), (0, 96), (10, 9), (0, 96), (0, 96), (11, 3), (0, 24), (11, 3), (0, 24), (11, 3), (0, 24), (11, 3), (0, 24), (12, 5), (11, 3), (0, 24), (12, 5), (11, 3), (0, 24), (12, 5), (11, 3), (0, 24), (12, 5), (11, 3), (0, 24), (12, 5), (11, 3), (0, 24), (17, 33), (0, 3109), (0, 3109), (0, 3109), (0, 4), (0, 4), (0, 96), (0, 5), (0, 5), (0, 5), (0, 5), (0, 120), (0, 109), (0, 9), (0, 96), (0, 128), (0, 100), (0, 130), (0, 24), (0, 60), (0, 60)]
def sk_kd (o : Nat) : Nat × Nat := sk_tab.getD o (9, 0)
def sk_mf : List Nat := [89, 90, 91, 0, 92, 93, 94, 95, 96, 97, 98, 99, 100, 101, 102, 0, 0, 0, 0, 0, 0, 0, 0, 0, 0, 0, 103, 104, 105, 106, 107, 0, 108]
def sk_rf (o j : Nat) : Nat := if o = 0 then [10, 26, 6, 8, 42, 62, 1, 2, 3, 4, 5].getD j 0 else if o = 1 then 65 + 2 * j else if o = 2 then 73 + 3 * j else if o = 6 then (if j = 0 then 10 else 7) else if o = 8 then (if j = 0 then 26 else 9) else if o = 10 then (if j = 0 then 42 else 10 + j) else if o = 26 then (if j = 0 then 42 else 26 + j) else if o = 17 then 20 + j else if o = 33 then 36 + j else if o = 42 then 43 + j else if o = 43 then 48 + j else if o = 62 then 63 + j else if o = 88 then sk_mf.getD j 0 else o + 1
def sk_isR (ci j : Nat) : Bool := if ci = 7 then !(j == 3 || (decide (15 ≤ j) && decide (j ≤ 25)) || j == 31) else decide (j < [2, 1, 1, 5, 2, 10, 11].getD ci 0)
abbrev sk_G : Type := (Nat → Nat) × va_G × (Nat → ClassId) × (Nat → Nat) × (Nat → Nat) × Nat
def sk_ad (g : sk_G) : Nat → Nat := g.1
def sk_D (g : sk_G) : va_G := g.2.1
def sk_ac (g : sk_G) : Nat → ClassId := g.2.2.1
def sk_aK (g : sk_G) : Nat → Nat := g.2.2.2.1
def sk_aV (g : sk_G) : Nat → Nat := g.2.2.2.2.1
def sk_ka (g : sk_G) : Nat := g.2.2.2.2.2
def sk_fv (g : sk_G) (o ci : Nat) (r : Nat → Int32) (j : Nat) : Value := if sk_isR ci j = true then Value.ref (sk_ad g (sk_rf o j)) else Value.int (r j)
def sk_en (g : sk_G) (o : Nat) (r : Nat → Int32) : va_E :=
  if (sk_kd o).1 = 0 then .inl (sk_ac g 0, (sk_kd o).2, .inl r)
  else if (sk_kd o).1 < 10 then .inl (sk_ac g (sk_kd o).1, (sk_kd o).2, .inr (.inr (.inr (.inr (fun i => some (sk_ad g (sk_rf o i)))))))
  else .inr ((sk_kd o).1 - 10, (List.range (sk_kd o).2).map (sk_fv g o ((sk_kd o).1 - 10) r))
def sk_ws (g : sk_G) (M : sk_M) : va_W := (List.range 109).map (fun o => (sk_ad g o, sk_en g o (M o)))
def sk_P (g : sk_G) (M : sk_M) (H : Heap) : Prop := va_P (sk_D g) sk_cl (sk_ws g M) H
def sk_A (g : sk_G) : Nat → Prop := fun q => ∃ o : Nat, o < 109 ∧ q = sk_ad g o
def sk_ty (g : sk_G) : List (ClassId × FieldType) := [(sk_ac g 0, .int), (sk_ac g 1, .array .int), (sk_ac g 2, .object RX1), (sk_ac g 3, .object RX2)]
/-- what is known of the tables, and that the objects are apart -/
def sk_K (g : sk_G) (U : State) : Prop := va_K (sk_D g) sk_cl (sk_ty g) U ∧ ∀ i j : Nat, i < 109 → j < 109 → sk_ad g i = sk_ad g j → i = j
/-- the string constants, and the statics: nobody writes them -/
def sk_sx : List (Nat × String) := [(61, "fade"), (67, "price"), (69, "lie"), (83, "|"), (85, "&"), (87, "<=>"), (89, "+-"), (91, "*/"), (108, "!"), (110, "("), (112, ")"), (127, "spw"), (129, "tn"), (131, "dn")]
def sk_sl : List Nat := [4, 5, 3, 1, 1, 3, 2, 2, 1, 1, 1, 3, 2, 2]
def sk_sb : List (List Int32) := [[102, 97, 100, 101], [112, 114, 105, 99, 101], [108, 105, 101], [124], [38], [60, 61, 62], [43, 45], [42, 47], [33], [40], [41], [115, 112, 119], [116, 110], [100, 110]]
def sk_ab : List Int32 := [-1, 0, 0, 1, 2, 0]
def sk_E (g : sk_G) (U : State) (H : Heap) : Prop :=
  va_Z "ScentCloth" "KIND_ABOVE" "[I" (.ref (sk_ka g)) (sk_A g) U H ∧ va_T .int (sk_ka g) 6 (fun j => .int (sk_ab.getD j 0)) (sk_A g) U H ∧
  va_Z "java/lang/String" "COMPACT_STRINGS" "Z" (.int 1) (sk_A g) U H ∧ va_Zq "jdk/internal/util/Preconditions" "SIOOBE_FORMATTER" "Ljava/util/function/BiFunction;" (sk_A g) U H ∧
  vk_S 14 sk_sl sk_sb (sk_aK g) (sk_aV g) (sk_A g) U H ∧ ∀ i : Nat, i < 14 → vk_R RX0 (sk_sx.getD i (0, "")).1 (sk_sx.getD i (0, "")).2 (sk_aK g i) U
theorem sk_ws_at (g : sk_G) (M : sk_M) {o : Nat} (h : o < 109) : (sk_ws g M)[o]? = some (sk_ad g o, sk_en g o (M o)) := by
  simp [sk_ws, h]
theorem sk_uA_self (M : sk_M) (o : Nat) (f : Nat → Int32) : sk_uA M o f o = f := if_pos rfl
theorem sk_uA_ne (M : sk_M) {o a : Nat} (f : Nat → Int32) (h : a ≠ o) : sk_uA M o f a = M a := if_neg h
theorem sk_ws_set (g : sk_G) (M : sk_M) {o : Nat} (h : o < 109) (f : Nat → Int32) : (sk_ws g M).set o (sk_ad g o, sk_en g o f) = sk_ws g (sk_uA M o f) := by
  apply List.ext_getElem?
  intro k
  by_cases hk : k < 109
  · by_cases e : k = o
    · subst e
      rw [sk_ws_at g _ hk, sk_uA_self, List.getElem?_set_self (by simpa [sk_ws] using hk)]
    · rw [sk_ws_at g _ hk, sk_uA_ne _ _ e, List.getElem?_set_ne (Ne.symm e), sk_ws_at g _ hk]
  · rw [List.getElem?_eq_none (by simpa [sk_ws] using hk), List.getElem?_eq_none (by simpa [sk_ws] using hk)]
theorem sk_en_i {g : sk_G} {o n : Nat} {r : Nat → Int32} (h : sk_kd o = (0, n)) : sk_en g o r = .inl (sk_ac g 0, n, .inl r) := by
  simp [sk_en, h]
theorem sk_en_q {g : sk_G} {o k n : Nat} {r : Nat → Int32} (h : sk_kd o = (k + 1, n)) (hk : k < 9) : sk_en g o r = .inl (sk_ac g (k + 1), n, .inr (.inr (.inr (.inr (fun i => some (sk_ad g (sk_rf o i))))))) := by
  simp [sk_en, h]
  omega
theorem sk_en_o {g : sk_G} {o ci n : Nat} {r : Nat → Int32} (h : sk_kd o = (10 + ci, n)) : sk_en g o r = .inr (ci, (List.range n).map (sk_fv g o ci r)) := by
  simp [sk_en, h]
theorem sk_lt {o k n : Nat} (h : sk_kd o = (k, n)) (hk : k ≠ 9) : o < 109 := by
  rcases Nat.lt_or_ge o 109 with q | q
  · exact q
  · exfalso
    apply hk
    have : sk_kd o = (9, 0) := by
      unfold sk_kd
      rw [List.getD_eq_getElem?_getD, List.getElem?_eq_none (by show sk_tab.length ≤ o; exact q)]
      rfl
    rw [this] at h
    exact (Prod.mk.inj h).1.symm
theorem sk_Dd {g : sk_G} {U : State} (h : sk_K g U) (M : sk_M) : va_D (sk_A g) (sk_ws g M) := by
  have key : ∀ (k : Nat) (q : Nat × va_E), (sk_ws g M)[k]? = some q → k < 109 ∧ q.1 = sk_ad g k := by
    intro k q hk
    by_cases hl : k < 109
    · rw [sk_ws_at g M hl] at hk
      cases hk
      exact ⟨hl, rfl⟩
    · rw [List.getElem?_eq_none (by simpa [sk_ws] using hl)] at hk
      cases hk
  refine ⟨fun i j p q hi hj e => ?_, fun k q hk => ?_⟩
  · obtain ⟨h1, h2⟩ := key i p hi
    obtain ⟨h3, h4⟩ := key j q hj
    exact h.2 i j h1 h3 (h2.symm.trans (e.trans h4))
  · obtain ⟨h1, h2⟩ := key k q hk
    exact ⟨k, h1, h2⟩
theorem sk_K.moved {g : sk_G} {u U : State} (hvm : u.vm.Alike U.vm) (h : sk_K g u) : sk_K g U := ⟨va_K.moved hvm h.1, h.2⟩
theorem sk_E.next {g : sk_G} {s U : State} {H : Heap} {locs : List Loc} (h : sk_E g s s.heap) (hS : va_S (sk_A g) s.heap H locs) (hU : U.heap = H) (hW : s.WarmedH U.vm) : sk_E g U U.heap := by
  obtain ⟨h1, h2, h3, h4, h5, h6⟩ := h
  have hq : ∀ a : Nat, a < s.heap.size → ¬ sk_A g a → U.heap[a]? = s.heap[a]? := fun a z1 z2 => by rw [hU]; exact hS.2.1 a z1 z2
  exact ⟨(va_Z.moved hW.alike h1).kept hq, (va_T.moved hW.alike h2).kept hq, (va_Z.moved hW.alike h3).kept hq, (va_Zq.moved hW.alike h4).kept hq, (vk_S.moved hW.alike h5).kept hq, fun i hi => (h6 i hi).warm hW⟩
theorem sk_E.same {g : sk_G} {u U : State} (hvm : U.vm = u.vm) (hh : U.heap = u.heap) (h : sk_E g u u.heap) : sk_E g U U.heap := by
  obtain ⟨h1, h2, h3, h4, h5, h6⟩ := h
  have ha : u.vm.Alike U.vm := by rw [hvm]; exact Vm.Alike.refl _
  rw [hh]
  exact ⟨va_Z.moved ha h1, va_T.moved ha h2, va_Z.moved ha h3, va_Zq.moved ha h4, vk_S.moved ha h5, fun i hi => (h6 i hi).same hvm⟩
-- the words that a method takes along
def sk_W : List Cond := lw_tbl.filter goodWord
theorem sk_m {i : Nat} {w : Cond} (h : lw_tbl[i]? = some w) (hg : goodWord w = true) : w ∈ sk_W := List.mem_filter.mpr ⟨List.mem_of_getElem? h, hg⟩
theorem sk_good {w0 : Cond} (h0 : w0 ∈ sk_W) : GoodIn sk_W (w0 :: sk_W) := by
  have key : ∀ w ∈ sk_W, w ∈ sk_W ∧ ((w.onTables && w.keeps) = true ∨ ∃ ty, w = .arrayClass ty) := fun w hw => ⟨hw, good_of_word (List.mem_filter.mp hw).2⟩
  intro w hw
  rcases List.mem_cons.mp hw with rfl | hw
  · exact key _ h0
  · exact key _ hw
def sk_rm (d : Nat) : Room := { frames := d, cells := 0, slots := 0, locals := 40 * d }
/-- what stays the same over a method's body -/
def sk_C (g : sk_G) (p : Program) (s : State) (m : MethodId) (args : Array Value) (meth : Method) (c : Code) (cc : ByteArray) (nL : Nat) (own : String) (ret : Option FieldType) : Prop :=
  p.tables.exec = Jvm.exec ∧ c.code = cc ∧ c.maxLocals = nL ∧ s.vm.findClass own = some m.cls ∧ (∀ w ∈ sk_W, w.before args s = true) ∧ sk_K g s ∧ sk_E g s s.heap ∧ meth.sig.returnType = ret ∧ meth.locks = false
def sk_Pc (g : sk_G) (M : sk_M) (U : State) : Prop := sk_P g M U.heap ∧ sk_K g U ∧ sk_E g U U.heap
abbrev sk_QI (g : sk_G) (r : Int32) (M' : sk_M) : Array Value → State → Outcome → State → Prop := va_Qi (fun r' (M'' : sk_M) => r' = r ∧ M'' = M') (fun u t => sk_P g u t.heap) (sk_A g)
abbrev sk_QV (g : sk_G) (M' : sk_M) : Array Value → State → Outcome → State → Prop := va_Qv (fun (M'' : sk_M) => M'' = M') (fun u t => sk_P g u t.heap) (sk_A g)
abbrev sk_QS (g : sk_G) (i : Nat) (M' : sk_M) : Array Value → State → Outcome → State → Prop := va_Qr (fun (M'' : sk_M) => M'' = M') (fun u a t => a = sk_aK g i ∧ sk_P g u t.heap) (sk_A g)
abbrev sk_Met (g : sk_G) (l : Launch) (y : MethodName) (cy : ByteArray) (ny : Nat) (ret : Option FieldType) (d : Nat) (av : List Value) (M : sk_M) (Qc : Array Value → State → Outcome → State → Prop) : Prop :=
  Met l y (Cond.code y cy ny ret :: sk_W) (sk_rm d) (va_Pc av (sk_Pc g M)) Qc 0 0 (sk_A g)
def sk_MI (g : sk_G) (l : Launch) (y : MethodName) (cy : ByteArray) (ny : Nat) (ret : Option FieldType) (d : Nat) (av : List Value) (M : sk_M) (r : Int32) (M' : sk_M) : Prop := sk_Met g l y cy ny ret d av M (sk_QI g r M')
def sk_MV (g : sk_G) (l : Launch) (y : MethodName) (cy : ByteArray) (ny : Nat) (ret : Option FieldType) (d : Nat) (av : List Value) (M : sk_M) (M' : sk_M) : Prop := sk_Met g l y cy ny ret d av M (sk_QV g M')
def sk_MS (g : sk_G) (l : Launch) (y : MethodName) (cy : ByteArray) (ny : Nat) (ret : Option FieldType) (d : Nat) (av : List Value) (M : sk_M) (i : Nat) (M' : sk_M) : Prop := sk_Met g l y cy ny ret d av M (sk_QS g i M')
theorem sk_start {g : sk_G} {l : Launch} {y : MethodName} {cy : ByteArray} {ny : Nat} {ret : Option FieldType} {d : Nat} {av : List Value} {M : sk_M} {Qc : Array Value → State → Outcome → State → Prop}
    (hy : plainName y.cls = true) (hn : (lg_sl av).length ≤ ny)
    (body : ∀ (p : Program) (e : Env) (s : State) (m : MethodId) (below : List Frame) (meth : Method) (c : Code), sk_C g p s m av.toArray meth c cy ny y.cls ret → ∀ ls : Array Slot, lv_has ls ny (lv_args 0 av) → sk_P g M s.heap → va_S (sk_A g) s.heap s.heap [] →
      W p l e (sk_rm d) s m av.toArray below meth c s.heap [] 0 0 (MQ below Qc av.toArray s 0 0 (sk_A g)) (F0 m 0 ls [])) : sk_Met g l y cy ny ret d av M Qc := by
  refine Met.ofW (cc := cy) (maxL := ny) (ret := ret) hy rfl ?_
  intro p e s m args below meth c s₁ B hml hv
  obtain ⟨rfl, hP, hK, hE⟩ := hv
  have hts := atoms_spec (ws := Cond.code y cy ny ret :: sk_W) B.pre
  have hl := lv_entry av (n := ny) hn
  rw [lg_entry_eq]
  exact body p e s m below meth c ⟨B.exec, B.bytes, hml, findClass_of_methodNamed B.named, fun w hw => hts w (List.mem_cons_of_mem _ hw), hK, hE, B.returns, B.notSynchronized⟩ _ hl hP va_S.rf
theorem sk_blind {g : sk_G} {M : sk_M} {av : List Value} : FrameBlind (va_Pc av (sk_Pc g M)) := by
  intro a U fr mk q
  obtain ⟨q0, qP, qK, qE⟩ := q
  exact ⟨q0, qP, sk_K.moved (u := U) (U := U.calling fr mk a) (Vm.Alike.refl U.vm) qK, sk_E.same (u := U) (U := U.calling fr mk a) rfl rfl qE⟩
-- checks, names, binds
def sk_in (i : Int32) (n : Nat) : Bool := !(decide (i < 0)) && decide (i.toNatClampNeg < n)
theorem sk_in_vp {i : Int32} {n : Nat} (h : sk_in i n = true) : vp_in i n := by
  simp only [sk_in, Bool.and_eq_true, Bool.not_eq_true', decide_eq_false_iff_not, decide_eq_true_eq] at h
  intro q
  rcases q with q | q
  · exact h.1 q
  · omega
theorem sk_in_lt {i : Int32} {n : Nat} (h : sk_in i n = true) : i.toNatClampNeg < n := by
  simp only [sk_in, Bool.and_eq_true, decide_eq_true_eq] at h
  exact h.2
def sk_chk {α : Type} (b : Bool) (x : Option α) : Option α := if b = true then x else none
theorem sk_chkE {α : Type} {b : Bool} {x : Option α} {r : α} (h : sk_chk b x = some r) : b = true ∧ x = some r := by
  unfold sk_chk at h
  by_cases q : b = true
  · rw [if_pos q] at h
    exact ⟨q, h⟩
  · rw [if_neg q] at h
    cases h
def sk_let {α β : Type} (x : α) (f : α → β) : β := f x
theorem sk_letU {α β : Type} {x y : α} {f : α → β} {r : β} (h : sk_let x f = r) (e : y = x) : f y = r := by rw [e]; exact h
theorem sk_pos {α : Type} {c : Prop} [Decidable c] {a b r : α} (h : (if c then a else b) = r) (hc : c) : a = r := by rw [if_pos hc] at h; exact h
theorem sk_neg {α : Type} {c : Prop} [Decidable c] {a b r : α} (h : (if c then a else b) = r) (hc : ¬ c) : b = r := by rw [if_neg hc] at h; exact h
def sk_b1 {α β : Type} (x : Option α) (f : α → Option β) : Option β := x.bind f
def sk_b2 {α α2 β : Type} (x : Option (α × α2)) (f : α → α2 → Option β) : Option β := x.bind (fun u => f u.1 u.2)
def sk_b3 {α α2 α3 β : Type} (x : Option (α × α2 × α3)) (f : α → α2 → α3 → Option β) : Option β := x.bind (fun u => f u.1 u.2.1 u.2.2)
def sk_b4 {α α2 α3 α4 β : Type} (x : Option (α × α2 × α3 × α4)) (f : α → α2 → α3 → α4 → Option β) : Option β := x.bind (fun u => f u.1 u.2.1 u.2.2.1 u.2.2.2)
def sk_b5 {α α2 α3 α4 α5 β : Type} (x : Option (α × α2 × α3 × α4 × α5)) (f : α → α2 → α3 → α4 → α5 → Option β) : Option β := x.bind (fun u => f u.1 u.2.1 u.2.2.1 u.2.2.2.1 u.2.2.2.2)
theorem sk_b1E {α β : Type} {x : Option α} {f : α → Option β} {r : β} (h : sk_b1 x f = some r) : ∃ a, x = some a ∧ f a = some r := by
  cases x with
  | none => cases h
  | some a => exact ⟨a, rfl, h⟩
theorem sk_b2E {α α2 β : Type} {x : Option (α × α2)} {f : α → α2 → Option β} {r : β} (h : sk_b2 x f = some r) : ∃ a b, x = some (a, b) ∧ f a b = some r := by
  cases x with
  | none => cases h
  | some a => exact ⟨a.1, a.2, rfl, h⟩
theorem sk_b3E {α α2 α3 β : Type} {x : Option (α × α2 × α3)} {f : α → α2 → α3 → Option β} {r : β} (h : sk_b3 x f = some r) : ∃ a b c, x = some (a, b, c) ∧ f a b c = some r := by
  cases x with
  | none => cases h
  | some a => exact ⟨a.1, a.2.1, a.2.2, rfl, h⟩
theorem sk_b4E {α α2 α3 α4 β : Type} {x : Option (α × α2 × α3 × α4)} {f : α → α2 → α3 → α4 → Option β} {r : β} (h : sk_b4 x f = some r) : ∃ a b c d, x = some (a, b, c, d) ∧ f a b c d = some r := by
  cases x with
  | none => cases h
  | some a => exact ⟨a.1, a.2.1, a.2.2.1, a.2.2.2, rfl, h⟩
theorem sk_b5E {α α2 α3 α4 α5 β : Type} {x : Option (α × α2 × α3 × α4 × α5)} {f : α → α2 → α3 → α4 → α5 → Option β} {r : β} (h : sk_b5 x f = some r) : ∃ a b c d e, x = some (a, b, c, d, e) ∧ f a b c d e = some r := by
  cases x with
  | none => cases h
  | some a => exact ⟨a.1, a.2.1, a.2.2.1, a.2.2.2.1, a.2.2.2.2, rfl, h⟩
/-- a loop's end: its method has returned, or it goes on behind the loop -/
def sk_s {ρ α : Type} (x : Option (ρ ⊕ α)) (f : α → Option ρ) : Option ρ := match x with
  | none => none
  | some (.inl r) => some r
  | some (.inr a) => f a
theorem sk_sE {ρ α : Type} {x : Option (ρ ⊕ α)} {f : α → Option ρ} {r : ρ} (h : sk_s x f = some r) : x = some (.inl r) ∨ ∃ a, x = some (.inr a) ∧ f a = some r := by
  cases x with
  | none => cases h
  | some u =>
    cases u with
    | inl q => exact Or.inl (by rw [Option.some.inj (show some q = some r from h)])
    | inr a => exact Or.inr ⟨a, rfl, h⟩
def sk_FU : Nat := 4000
