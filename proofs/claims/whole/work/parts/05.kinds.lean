def sk_isW (o : Nat) : Prop := o = 10 ∨ o = 26
theorem sk_isW_kd {o : Nat} (h : sk_isW o) : sk_kd o = (10 + 5, 16) := by rcases h with rfl | rfl <;> rfl
theorem sk_isW_r0 {o : Nat} (h : sk_isW o) : sk_rf o 0 = 42 := by rcases h with rfl | rfl <;> rfl
theorem sk_isW_r {o : Nat} (h : sk_isW o) (j : Nat) (h0 : 0 < j) (_ : j < 10) : sk_rf o j = o + j := by
  have : j ≠ 0 := by omega
  rcases h with rfl | rfl <;> simp [sk_rf, this]
theorem sk_isW_k1 {o : Nat} (h : sk_isW o) : sk_kd (o + 1) = (0, 9) := by rcases h with rfl | rfl <;> rfl
theorem sk_isW_k2 {o : Nat} (h : sk_isW o) : sk_kd (o + 2) = (0, 9) := by rcases h with rfl | rfl <;> rfl
theorem sk_isW_k3 {o : Nat} (h : sk_isW o) : sk_kd (o + 3) = (0, 9) := by rcases h with rfl | rfl <;> rfl
theorem sk_isW_k4 {o : Nat} (h : sk_isW o) : sk_kd (o + 4) = (0, 4) := by rcases h with rfl | rfl <;> rfl
theorem sk_isW_k5 {o : Nat} (h : sk_isW o) : sk_kd (o + 5) = (0, 12) := by rcases h with rfl | rfl <;> rfl
theorem sk_isW_k6 {o : Nat} (h : sk_isW o) : sk_kd (o + 6) = (0, 6) := by rcases h with rfl | rfl <;> rfl
theorem sk_isW_k7 {o : Nat} (h : sk_isW o) : sk_kd (o + 7) = (0 + 1, 6) := by rcases h with rfl | rfl <;> rfl
theorem sk_isW_k8 {o : Nat} (h : sk_isW o) : sk_kd (o + 8) = (0, 3) := by rcases h with rfl | rfl <;> rfl
theorem sk_isW_k9 {o : Nat} (h : sk_isW o) : sk_kd (o + 9) = (0, 1000) := by rcases h with rfl | rfl <;> rfl
theorem sk_isW_s {o : Nat} (h : sk_isW o) (i : Nat) : sk_rf (o + 7) i = o + 10 + i := by rcases h with rfl | rfl <;> simp [sk_rf]
theorem sk_isW_sk {o i : Nat} (h : sk_isW o) (hi : i < 6) : sk_kd (o + 10 + i) = (0, 9) := by
  match i, hi with
  | 0, _ => rcases h with rfl | rfl <;> rfl
  | 1, _ => rcases h with rfl | rfl <;> rfl
  | 2, _ => rcases h with rfl | rfl <;> rfl
  | 3, _ => rcases h with rfl | rfl <;> rfl
  | 4, _ => rcases h with rfl | rfl <;> rfl
  | 5, _ => rcases h with rfl | rfl <;> rfl
theorem sk_kd_s20 {i : Nat} (hi : i < 6) : sk_kd (20 + i) = (0, 9) := sk_isW_sk (Or.inl rfl) hi
theorem sk_kd_s36 {i : Nat} (hi : i < 6) : sk_kd (36 + i) = (0, 9) := sk_isW_sk (Or.inr rfl) hi
theorem sk_kd_t {i : Nat} (hi : i < 14) : sk_kd (48 + i) = (0, 96) := by
  match i, hi with
  | 0, _ => rfl
  | 1, _ => rfl
  | 2, _ => rfl
  | 3, _ => rfl
  | 4, _ => rfl
  | 5, _ => rfl
  | 6, _ => rfl
  | 7, _ => rfl
  | 8, _ => rfl
  | 9, _ => rfl
  | 10, _ => rfl
  | 11, _ => rfl
  | 12, _ => rfl
  | 13, _ => rfl
def sk_isT (o : Nat) : Prop := o = 6 ∨ o = 8
def sk_tw (o : Nat) : Nat := if o = 6 then 10 else 26
theorem sk_isT_w {o : Nat} (h : sk_isT o) : sk_isW (sk_tw o) := by rcases h with rfl | rfl <;> simp [sk_tw, sk_isW]
theorem sk_isT_r0 {o : Nat} (h : sk_isT o) : sk_rf o 0 = sk_tw o := by rcases h with rfl | rfl <;> rfl
theorem sk_isT_r1 {o : Nat} (h : sk_isT o) : sk_rf o 1 = o + 1 := by rcases h with rfl | rfl <;> rfl
theorem sk_isT_k1 {o : Nat} (h : sk_isT o) : sk_kd (o + 1) = (0, 9) := by rcases h with rfl | rfl <;> rfl
theorem sk_isT_kd {o : Nat} (h : sk_isT o) : sk_kd o = (10 + 4, 4) := by rcases h with rfl | rfl <;> rfl
def sk_isH (o : Nat) : Prop := sk_kd o = (10 + 1, 3) ∧ sk_kd (o + 1) = (0, 24) ∧ sk_rf o 0 = o + 1
theorem sk_isH_kd {o : Nat} (h : sk_isH o) : sk_kd o = (10 + 1, 3) := h.1
theorem sk_isH_k1 {o : Nat} (h : sk_isH o) : sk_kd (o + 1) = (0, 24) := h.2.1
theorem sk_isH_r0 {o : Nat} (h : sk_isH o) : sk_rf o 0 = o + 1 := h.2.2
theorem sk_isH_a {i : Nat} (hi : i < 4) : sk_isH (65 + 2 * i) := by
  match i, hi with
  | 0, _ => exact ⟨rfl, rfl, rfl⟩
  | 1, _ => exact ⟨rfl, rfl, rfl⟩
  | 2, _ => exact ⟨rfl, rfl, rfl⟩
  | 3, _ => exact ⟨rfl, rfl, rfl⟩
def sk_isL (o : Nat) : Prop := sk_kd o = (10 + 2, 5) ∧ sk_isH (o + 1) ∧ sk_rf o 0 = o + 1
theorem sk_isL_kd {o : Nat} (h : sk_isL o) : sk_kd o = (10 + 2, 5) := h.1
theorem sk_isL_h {o : Nat} (h : sk_isL o) : sk_isH (o + 1) := h.2.1
theorem sk_isL_r0 {o : Nat} (h : sk_isL o) : sk_rf o 0 = o + 1 := h.2.2
theorem sk_isL_a {i : Nat} (hi : i < 5) : sk_isL (73 + 3 * i) := by
  match i, hi with
  | 0, _ => exact ⟨rfl, ⟨rfl, rfl, rfl⟩, rfl⟩
  | 1, _ => exact ⟨rfl, ⟨rfl, rfl, rfl⟩, rfl⟩
  | 2, _ => exact ⟨rfl, ⟨rfl, rfl, rfl⟩, rfl⟩
  | 3, _ => exact ⟨rfl, ⟨rfl, rfl, rfl⟩, rfl⟩
  | 4, _ => exact ⟨rfl, ⟨rfl, rfl, rfl⟩, rfl⟩
-- numbers
def sk_ushr (x y : Int32) : Int32 := (x.toUInt32 >>> (y.toUInt32 &&& Int32.toUInt32 31)).toInt32
def sk_i2c (x : Int32) : Int32 := (x.toUInt32 % 65536).toInt32
def sk_i2s (x : Int32) : Int32 := x.toInt16.toInt32
def sk_i2b (x : Int32) : Int32 := x.toInt8.toInt32
theorem sk_nz {v : Int32} (h : v = 0 ∨ v = 1) : narrow .boolean (.int v) = .int v := by rcases h with rfl | rfl <;> rfl
theorem sk_zi {c : Prop} [Decidable c] {a b : Int32} (ha : a = 0 ∨ a = 1) (hb : b = 0 ∨ b = 1) : (if c then a else b) = 0 ∨ (if c then a else b) = 1 := by
  by_cases h : c
  · rw [if_pos h]
    exact ha
  · rw [if_neg h]
    exact hb
theorem sk_tn {x k : Int32} (h : ¬ x = k) {z : Int} (e : k.toInt = z) : x.toInt ≠ z := fun q => h (Int32.toInt_inj.mp (q.trans e.symm))
theorem sk_look {ps : List (Int × Int)} {d z : Int} (h : ∀ q ∈ ps, z ≠ q.1) : Op.lookupswitch.offset ps d z = d := by
  have : ps.find? (fun q => q.1 == z) = none := by
    rw [List.find?_eq_none]
    intro q hq
    simp only [beq_iff_eq]
    exact fun e => h q hq e.symm
  exact Op.lookupswitch.offset_none this
-- binds
def sk_b0 {β : Type} (x : Option Unit) (f : Unit → Option β) : Option β := x.bind f
theorem sk_b0E {β : Type} {x : Option Unit} {f : Unit → Option β} {r : β} (h : sk_b0 x f = some r) : x = some () ∧ f () = some r := by
  cases x with
  | none => cases h
  | some a => exact ⟨rfl, h⟩
theorem sk_e2 {α α2 : Type} {a c : α} {b d : α2} (h : some (a, b) = some (c, d)) : a = c ∧ b = d := by cases h; exact ⟨rfl, rfl⟩
theorem sk_e3 {α α2 α3 : Type} {a a' : α} {b b' : α2} {c c' : α3} (h : some (a, b, c) = some (a', b', c')) : a = a' ∧ b = b' ∧ c = c' := by cases h; exact ⟨rfl, rfl, rfl⟩
theorem sk_e4 {α α2 α3 α4 : Type} {a a' : α} {b b' : α2} {c c' : α3} {d d' : α4} (h : some (a, b, c, d) = some (a', b', c', d')) : a = a' ∧ b = b' ∧ c = c' ∧ d = d' := by cases h; exact ⟨rfl, rfl, rfl, rfl⟩
def sk_s0 {ρ : Type} (x : Option (ρ ⊕ Unit)) (f : Unit → Option ρ) : Option ρ := sk_s x f
def sk_s1 {ρ α : Type} (x : Option (ρ ⊕ α)) (f : α → Option ρ) : Option ρ := sk_s x f
def sk_s2 {ρ α α2 : Type} (x : Option (ρ ⊕ (α × α2))) (f : α → α2 → Option ρ) : Option ρ := sk_s x (fun u => f u.1 u.2)
def sk_s3 {ρ α α2 α3 : Type} (x : Option (ρ ⊕ (α × α2 × α3))) (f : α → α2 → α3 → Option ρ) : Option ρ := sk_s x (fun u => f u.1 u.2.1 u.2.2)
theorem sk_sX {ρ α : Type} {x : Option (ρ ⊕ α)} {f : α → Option ρ} {r : ρ} (h : sk_s x f = some r) : ∃ out, x = some out ∧ (∀ q, out = Sum.inl q → some q = some r) ∧ (∀ a, out = Sum.inr a → f a = some r) := by
  cases x with
  | none => cases h
  | some u =>
    refine ⟨u, rfl, fun q e => ?_, fun a e => ?_⟩
    · subst e; exact h
    · subst e; exact h
theorem sk_s0E {ρ : Type} {x : Option (ρ ⊕ Unit)} {f : Unit → Option ρ} {r : ρ} (h : sk_s0 x f = some r) : ∃ out, x = some out ∧ (∀ q, out = Sum.inl q → some q = some r) ∧ (out = Sum.inr () → f () = some r) := by
  obtain ⟨o, h1, h2, h3⟩ := sk_sX h
  exact ⟨o, h1, h2, h3 ()⟩
theorem sk_s1E {ρ α : Type} {x : Option (ρ ⊕ α)} {f : α → Option ρ} {r : ρ} (h : sk_s1 x f = some r) : ∃ out, x = some out ∧ (∀ q, out = Sum.inl q → some q = some r) ∧ (∀ a, out = Sum.inr a → f a = some r) := sk_sX h
theorem sk_s2E {ρ α α2 : Type} {x : Option (ρ ⊕ (α × α2))} {f : α → α2 → Option ρ} {r : ρ} (h : sk_s2 x f = some r) : ∃ out, x = some out ∧ (∀ q, out = Sum.inl q → some q = some r) ∧ (∀ a b, out = Sum.inr (a, b) → f a b = some r) := by
  obtain ⟨o, h1, h2, h3⟩ := sk_sX h
  exact ⟨o, h1, h2, fun a b e => h3 (a, b) e⟩
theorem sk_s3E {ρ α α2 α3 : Type} {x : Option (ρ ⊕ (α × α2 × α3))} {f : α → α2 → α3 → Option ρ} {r : ρ} (h : sk_s3 x f = some r) : ∃ out, x = some out ∧ (∀ q, out = Sum.inl q → some q = some r) ∧ (∀ a b c, out = Sum.inr (a, b, c) → f a b c = some r) := by
  obtain ⟨o, h1, h2, h3⟩ := sk_sX h
  exact ⟨o, h1, h2, fun a b c e => h3 (a, b, c) e⟩
def sk_RD : Nat := 120
/-- a contract's start, its arguments' array without a name -/
theorem sk_go {g : sk_G} {l : Launch} {y : MethodName} {cy : ByteArray} {ny : Nat} {ret : Option FieldType} {d : Nat} {av : List Value} {M : sk_M} {Qc : Array Value → State → Outcome → State → Prop} (L : List (Nat × Value))
    (hy : plainName y.cls = true) (hn : (lg_sl av).length ≤ ny) (hL : lv_args 0 av = L)
    (body : ∀ (p : Program) (e : Env) (s : State) (m : MethodId) (av : Array Value) (below : List Frame) (meth : Method) (c : Code), sk_C g p s m av meth c cy ny y.cls ret → ∀ ls : Array Slot, lv_has ls ny L → sk_P g M s.heap → va_S (sk_A g) s.heap s.heap [] →
      W p l e (sk_rm d) s m av below meth c s.heap [] 0 0 (MQ below Qc av s 0 0 (sk_A g)) (F0 m 0 ls [])) : sk_Met g l y cy ny ret d av M Qc := by
  subst hL
  exact sk_start hy hn (fun p e s m below meth c C ls hl hM hS => body p e s m _ below meth c C ls hl hM hS)
