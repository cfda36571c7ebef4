/-! Level 2: the pure functions. Tools. -/
theorem q_in {k n : Nat} (h : k < n) (hn : n < 2147483648) : sk_in (nI k) n = true := by
  simp only [sk_in, Bool.and_eq_true, Bool.not_eq_true', decide_eq_false_iff_not, decide_eq_true_eq]
  exact ⟨nI_pos (by omega), by rw [nI_clamp (by omega)]; exact h⟩
theorem q_chk {α : Type} {b : Bool} {x : Option α} (h : b = true) : sk_chk b x = x := if_pos h
theorem q_chkI {α : Type} {k n : Nat} {x : Option α} (h : k < n) (hn : n < 2147483648) : sk_chk (sk_in (nI k) n) x = x := q_chk (q_in h hn)
theorem q_chkD {α : Type} {c : Prop} [Decidable c] {x : Option α} (h : c) : sk_chk (decide c) x = x := q_chk (decide_eq_true h)
theorem q_let {α β : Type} (x : α) (f : α → β) : sk_let x f = f x := rfl
theorem q_b0 {β : Type} (f : Unit → Option β) : sk_b0 (some ()) f = f () := rfl
theorem q_b1 {α β : Type} (a : α) (f : α → Option β) : sk_b1 (some a) f = f a := rfl
theorem q_b2 {α α2 β : Type} (a : α) (b : α2) (f : α → α2 → Option β) : sk_b2 (some (a, b)) f = f a b := rfl
theorem q_s0l {ρ : Type} (r : ρ) (f : Unit → Option ρ) : sk_s0 (some (Sum.inl r)) f = some r := rfl
theorem q_s0r {ρ : Type} (f : Unit → Option ρ) : sk_s0 (some (Sum.inr ())) f = f () := rfl
theorem q_s1l {ρ α : Type} (r : ρ) (f : α → Option ρ) : sk_s1 (some (Sum.inl r)) f = some r := rfl
theorem q_s1r {ρ α : Type} (a : α) (f : α → Option ρ) : sk_s1 (some (Sum.inr a)) f = f a := rfl
theorem q_s2l {ρ α α2 : Type} (r : ρ) (f : α → α2 → Option ρ) : sk_s2 (some (Sum.inl r)) f = some r := rfl
theorem q_s2r {ρ α α2 : Type} (a : α) (b : α2) (f : α → α2 → Option ρ) : sk_s2 (some (Sum.inr (a, b))) f = f a b := rfl
theorem q_clamp {n : Nat} (h : n < 2147483648) : (nI n).toNatClampNeg = n := nI_clamp (by omega)
-- memory
theorem q_u (M : sk_M) (o j : Nat) (v : Int32) (o' j' : Nat) : sk_u M o j v o' j' = if o' = o ∧ j' = j then v else M o' j' := by
  unfold sk_u sk_uA
  by_cases h : o' = o
  · subst h
    rw [if_pos rfl]
    by_cases h2 : j' = j
    · subst h2
      rw [if_pos ⟨rfl, rfl⟩]
      exact pk_us
    · rw [if_neg (fun q => h2 q.2)]
      exact pk_un h2
  · rw [if_neg h, if_neg (fun q => h q.1)]
theorem q_ue (M : sk_M) (o j : Nat) (v : Int32) : sk_u M o j v o j = v := by rw [q_u, if_pos ⟨rfl, rfl⟩]
theorem q_un {M : sk_M} {o j o' j' : Nat} {v : Int32} (h : o' ≠ o ∨ j' ≠ j) : sk_u M o j v o' j' = M o' j' := by
  rw [q_u, if_neg (by omega)]
theorem q_uo {M : sk_M} {o j o' : Nat} {v : Int32} (h : o' ≠ o) : sk_u M o j v o' = M o' := sk_uA_ne M _ h
theorem q_us (M : sk_M) (o j : Nat) (v : Int32) : sk_u M o j v o = upd (M o) j v := sk_uA_self M o _
theorem q_upd (f : Nat → Int32) (k j : Nat) (x : Int32) : upd f k x j = if j = k then x else f j := by
  by_cases h : j = k
  · subst h; rw [if_pos rfl]; exact pk_us
  · rw [if_neg h]; exact pk_un h
-- numbers
theorem q_lit (n : Nat) : (OfNat.ofNat n : Int32) = nI (@OfNat.ofNat Nat n (instOfNatNat n)) := rfl
theorem q_le {a b : Nat} (ha : a < 2147483648) (hb : b < 2147483648) : nI a ≤ nI b ↔ a ≤ b := nI_leI (by omega) (by omega)
theorem q_lt {a b : Nat} (ha : a < 2147483648) (hb : b < 2147483648) : nI a < nI b ↔ a < b := nI_ltI (by omega) (by omega)
theorem q_eq {a b : Nat} (ha : a < 2147483648) (hb : b < 2147483648) : nI a = nI b ↔ a = b := nI_eq (by omega) (by omega)
theorem q_inj {a b : Nat} (ha : a < 2147483648) (hb : b < 2147483648) (h : nI a = nI b) : a = b := (q_eq ha hb).mp h
theorem q_leI {x y : Int32} : x ≤ y ↔ x.toInt ≤ y.toInt := Int32.le_iff_toInt_le
theorem q_ltI {x y : Int32} : x < y ↔ x.toInt < y.toInt := Int32.lt_iff_toInt_lt
theorem q_eqI {x y : Int32} : x = y ↔ x.toInt = y.toInt := Int32.toInt_inj.symm
theorem q_toI {n : Nat} (h : n < 2147483648) : (nI n).toInt = (n : Int) := nI_toInt (by omega)
theorem q_lo (x : Int32) : -2147483648 ≤ x.toInt := Int32.le_toInt x
theorem q_hi (x : Int32) : x.toInt < 2147483648 := by have := Int32.toInt_lt x; omega
theorem q_addI {x y : Int32} (h1 : -2147483648 ≤ x.toInt + y.toInt) (h2 : x.toInt + y.toInt < 2147483648) : (x + y).toInt = x.toInt + y.toInt := by
  rw [Int32.toInt_add]
  exact Int.bmod_eq_of_le (by omega) (by omega)
theorem q_subI {x y : Int32} (h1 : -2147483648 ≤ x.toInt - y.toInt) (h2 : x.toInt - y.toInt < 2147483648) : (x - y).toInt = x.toInt - y.toInt := by
  rw [Int32.toInt_sub]
  exact Int.bmod_eq_of_le (by omega) (by omega)
theorem q_of {x : Int32} (h : 0 ≤ x.toInt) : ∃ k : Nat, (k : Int) = x.toInt ∧ k < 2147483648 ∧ x = nI k := by
  have := q_hi x
  refine ⟨x.toInt.toNat, by omega, by omega, ?_⟩
  rw [q_eqI, q_toI (by omega)]
  omega
/-- a guard: within is 0 or 1 -/
theorem q_wi (a lo hi : Int32) : f_X6_within a lo hi = if lo.toInt ≤ a.toInt ∧ a.toInt ≤ hi.toInt then 1 else 0 := by
  unfold f_X6_within
  by_cases h1 : a < lo
  · rw [if_pos h1, if_neg]
    rw [q_ltI] at h1
    omega
  · rw [if_neg h1]
    by_cases h2 : hi < a
    · rw [if_pos h2, if_neg]
      rw [q_ltI] at h2
      omega
    · rw [if_neg h2, if_pos]
      rw [q_ltI] at h1 h2
      omega
theorem q_isIn (a lo hi : Int32) : f_X7_isIn a.toInt64 lo.toInt64 hi.toInt64 = f_X6_within a lo hi := by
  have key : ∀ x y : Int32, (x.toInt64 < y.toInt64 ↔ x < y) ∧ (x.toInt64 = y.toInt64 ↔ x = y) := by
    intro x y
    constructor
    · rw [Int64.lt_iff_toInt_lt, Int32.toInt_toInt64, Int32.toInt_toInt64, q_ltI]
    · constructor
      · intro h
        have := congrArg Int64.toInt h
        rw [Int32.toInt_toInt64, Int32.toInt_toInt64] at this
        exact q_eqI.mpr this
      · intro h; rw [h]
  unfold f_X7_isIn f_X6_within lg_cmp
  have e1 : (a.toInt64 > lo.toInt64) ↔ lo < a := (key lo a).1
  have e2 : (a.toInt64 > hi.toInt64) ↔ hi < a := (key hi a).1
  have e3 := (key a lo).2
  have e4 := (key a hi).2
  by_cases h1 : lo < a
  · have h1' : ¬ a < lo := by rw [q_ltI] at h1 ⊢; omega
    rw [if_pos (e1.mpr h1), if_neg (by decide), if_neg h1']
    by_cases h2 : hi < a
    · rw [if_pos (e2.mpr h2), if_pos (by decide), if_pos h2]
    · rw [if_neg (fun q => h2 (e2.mp q)), if_neg h2]
      by_cases h3 : a = hi
      · rw [if_pos (e4.mpr h3), if_neg (by decide)]
      · rw [if_neg (fun q => h3 (e4.mp q)), if_neg (by decide)]
  · rw [if_neg (fun q => h1 (e1.mp q))]
    by_cases h5 : a = lo
    · have h1' : ¬ a < lo := by rw [q_ltI] at h1 ⊢; rw [h5]; omega
      rw [if_pos (e3.mpr h5), if_neg (by decide), if_neg h1']
      by_cases h2 : hi < a
      · rw [if_pos (e2.mpr h2), if_pos (by decide), if_pos h2]
      · rw [if_neg (fun q => h2 (e2.mp q)), if_neg h2]
        by_cases h3 : a = hi
        · rw [if_pos (e4.mpr h3), if_neg (by decide)]
        · rw [if_neg (fun q => h3 (e4.mp q)), if_neg (by decide)]
    · have h1' : a < lo := by
        rw [q_ltI] at h1 ⊢
        have : a.toInt ≠ lo.toInt := fun q => h5 (q_eqI.mpr q)
        omega
      rw [if_neg (fun q => h5 (e3.mp q)), if_pos (by decide), if_pos h1']
/-- a number within 0 .. n - 1 -/
theorem q_wn {a : Int32} {n : Nat} (hn : n < 2147483648) (h : ¬ f_X6_within a 0 (nI n - 1) = 0) : ∃ k : Nat, k < n ∧ a = nI k := by
  rw [q_wi] at h
  have h2 : (0 : Int32).toInt ≤ a.toInt ∧ a.toInt ≤ (nI n - 1).toInt := by
    by_cases q : (0 : Int32).toInt ≤ a.toInt ∧ a.toInt ≤ (nI n - 1).toInt
    · exact q
    · rw [if_neg q] at h; exact absurd rfl h
  have e0 : (0 : Int32).toInt = 0 := rfl
  have e1 : (1 : Int32).toInt = 1 := rfl
  rw [q_subI (by rw [q_toI hn, e1]; omega) (by rw [q_toI hn, e1]; omega), q_toI hn, e1, e0] at h2
  obtain ⟨k, h3, h4, h5⟩ := q_of h2.1
  exact ⟨k, by omega, h5⟩
/-- a number within lo .. hi, both not below 0 -/
theorem q_wb {a : Int32} {lo hi : Nat} (hn : hi < 2147483648) (hl : lo < 2147483648) (h : ¬ f_X6_within a (nI lo) (nI hi) = 0) : ∃ k : Nat, lo ≤ k ∧ k ≤ hi ∧ a = nI k := by
  rw [q_wi] at h
  have h2 : (nI lo).toInt ≤ a.toInt ∧ a.toInt ≤ (nI hi).toInt := by
    by_cases q : (nI lo).toInt ≤ a.toInt ∧ a.toInt ≤ (nI hi).toInt
    · exact q
    · rw [if_neg q] at h; exact absurd rfl h
  rw [q_toI hn, q_toI hl] at h2
  obtain ⟨k, h3, h4, h5⟩ := q_of (x := a) (by omega)
  exact ⟨k, by omega, by omega, h5⟩
