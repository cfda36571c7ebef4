/-! The signs of a text: the class's moveOn against the reference's nextToken. -/
def u_L (v : Nat) : Bool := decide (97 ≤ v ∧ v ≤ 122)
def u_D (v : Nat) : Bool := decide (48 ≤ v ∧ v ≤ 57)
def u_run (P : Nat → Bool) : Nat → Nat → Nat
  | 0, p => p
  | m + 1, p => if P p = true then u_run P m (p + 1) else p
theorem u_run_s (P : Nat → Bool) (m p : Nat) : u_run P (m + 1) p = if P p = true then u_run P m (p + 1) else p := rfl
theorem u_run_le (P : Nat → Bool) : ∀ m p, p ≤ u_run P m p ∧ u_run P m p ≤ p + m := by
  intro m
  induction m with
  | zero => intro p; exact ⟨Nat.le_refl _, Nat.le_refl _⟩
  | succ m ih =>
    intro p
    rw [u_run_s]
    have := ih (p + 1)
    split <;> omega
theorem u_run_all {P : Nat → Bool} : ∀ m p j, p ≤ j → j < u_run P m p → P j = true := by
  intro m
  induction m with
  | zero => intro p j h1 h2; simp only [u_run] at h2; omega
  | succ m ih =>
    intro p j h1 h2
    rw [u_run_s] at h2
    by_cases q : P p = true
    · rw [if_pos q] at h2
      by_cases e : j = p
      · subst e; exact q
      · exact ih (p + 1) j (by omega) h2
    · rw [if_neg q] at h2; omega
theorem u_run_end {P : Nat → Bool} : ∀ m p, u_run P m p < p + m → P (u_run P m p) = false := by
  intro m
  induction m with
  | zero => intro p h; simp only [u_run] at h; omega
  | succ m ih =>
    intro p h
    rw [u_run_s] at h ⊢
    by_cases q : P p = true
    · rw [if_pos q] at h ⊢; exact ih (p + 1) (by omega)
    · rw [if_neg q]; exact Bool.eq_false_iff.mpr q
/-- the class's tape, the reference's tape -/
def u_tc (t : Nat → Nat) (n : Nat) (M : sk_M) : Prop := n ≤ 96 ∧ M 62 2 = nI n ∧ ∀ j, j < n → M 63 j = nI (t j) ∧ t j < 256
def u_tm (t : Nat → Nat) (n : Nat) (N : sk_M) : Prop := n ≤ 96 ∧ N 88 15 = nI n ∧ ∀ j, j < n → N 102 j = nI (t j) ∧ t j < 256
/-- nothing but place j of object o has changed -/
def u_f (o j : Nat) (M M' : sk_M) : Prop := ∀ a b, a ≠ o ∨ b ≠ j → M' a b = M a b
theorem u_f_u (M : sk_M) (o j : Nat) (x : Int32) : u_f o j M (sk_u M o j x) := fun a b h => q_un h
theorem u_f.trans {o j : Nat} {M M' M2 : sk_M} (h : u_f o j M M') (h2 : u_f o j M' M2) : u_f o j M M2 := fun a b q => (h2 a b q).trans (h a b q)
theorem u_tc_c {t : Nat → Nat} {n : Nat} {M M' : sk_M} (h : u_tc t n M) (h2 : M' 62 2 = M 62 2) (h3 : M' 63 = M 63) : u_tc t n M' := ⟨h.1, by rw [h2]; exact h.2.1, by rw [h3]; exact h.2.2⟩
theorem u_tm_c {t : Nat → Nat} {n : Nat} {M M' : sk_M} (h : u_tm t n M) (h2 : M' 88 15 = M 88 15) (h3 : M' 102 = M 102) : u_tm t n M' := ⟨h.1, by rw [h2]; exact h.2.1, by rw [h3]; exact h.2.2⟩
theorem u_tc_f {t : Nat → Nat} {n j : Nat} {M M' : sk_M} (h : u_tc t n M) (hj : j ≠ 2) (h2 : u_f 62 j M M') : u_tc t n M' := u_tc_c h (h2 62 2 (by omega)) (funext fun b => h2 63 b (by omega))
theorem u_tm_f {t : Nat → Nat} {n j : Nat} {M M' : sk_M} (h : u_tm t n M) (hj : j ≠ 15) (h2 : u_f 88 j M M') : u_tm t n M' := u_tm_c h (h2 88 15 (by omega)) (funext fun b => h2 102 b (by omega))
theorem u_eq {v c : Nat} (hv : v < 256) (hc : c < 256) : nI v = nI c ↔ v = c := q_eq (by omega) (by omega)
theorem u_isL {v : Nat} (h : v < 256) : f_X0_isLetter (nI v) = if u_L v = true then 1 else 0 := by
  unfold f_X0_isLetter u_L
  by_cases q : v < 97
  · rw [if_pos (show nI v < (97 : Int32) from nI_lt (b := 97) q (by omega)), if_neg (by simp; omega)]
  · rw [if_neg (show ¬ nI v < (97 : Int32) from nI_nlt (b := 97) (by omega) (by omega))]
    by_cases q2 : 122 < v
    · rw [if_pos (show (122 : Int32) < nI v from nI_lt (a := 122) q2 (by omega)), if_neg (by simp; omega)]
    · rw [if_neg (show ¬ (122 : Int32) < nI v from nI_nlt (a := 122) (by omega) (by omega)), if_pos (by simp; omega)]
theorem u_isD {v : Nat} (h : v < 256) : f_X0_isDigit (nI v) = if u_D v = true then 1 else 0 := by
  unfold f_X0_isDigit u_D
  by_cases q : v < 48
  · rw [if_pos (show nI v < (48 : Int32) from nI_lt (b := 48) q (by omega)), if_neg (by simp; omega)]
  · rw [if_neg (show ¬ nI v < (48 : Int32) from nI_nlt (b := 48) (by omega) (by omega))]
    by_cases q2 : 57 < v
    · rw [if_pos (show (57 : Int32) < nI v from nI_lt (a := 57) q2 (by omega)), if_neg (by simp; omega)]
    · rw [if_neg (show ¬ (57 : Int32) < nI v from nI_nlt (a := 57) (by omega) (by omega)), if_pos (by simp; omega)]
theorem u_01 (b : Bool) : ((if b = true then (1 : Int32) else 0) = 0) ↔ b = false := by cases b <;> decide
theorem u_L8 {t : Nat → Nat} {n : Nat} : ∀ (m p fu : Nat) (M : sk_M), u_tc t n M → p + m = n → m < fu → M 62 3 = nI p → ∃ M', f_X0_moveOn_L8 fu M = some M' ∧ M' 62 3 = nI (u_run (fun j => decide (t j = 32)) m p) ∧ u_f 62 3 M M' := by
  intro m
  induction m with
  | zero =>
    intro p fu M h hp hfu h3
    obtain ⟨g, rfl⟩ : ∃ g, fu = g + 1 := ⟨fu - 1, by omega⟩
    have h9 := h.1
    refine ⟨M, ?_, h3, fun _ _ _ => rfl⟩
    rw [f_X0_moveOn_L8, h.2.1, h3, if_pos (nI_le (by omega) (by omega))]
  | succ m ih =>
    intro p fu M h hp hfu h3
    obtain ⟨g, rfl⟩ : ∃ g, fu = g + 1 := ⟨fu - 1, by omega⟩
    have h9 := h.1
    obtain ⟨e1, e2⟩ := h.2.2 p (by omega)
    rw [f_X0_moveOn_L8, h.2.1, h3, if_neg (nI_ge (by omega) (by omega)), q_chkI (by omega) (by omega), q_clamp (by omega), e1, u_run_s]
    by_cases q : t p = 32
    · rw [if_pos (show nI (t p) = (32 : Int32) by rw [q]; rfl), q_let, if_pos (decide_eq_true q), nI_1]
      obtain ⟨M', k1, k2, k3⟩ := ih (p + 1) g (sk_u M 62 3 (nI (p + 1))) (u_tc_f h (by omega) (u_f_u _ _ _ _)) (by omega) (by omega) (by rw [q_ue])
      exact ⟨M', k1, k2, (u_f_u _ _ _ _).trans k3⟩
    · rw [if_neg (show ¬ nI (t p) = (32 : Int32) from fun z => q ((u_eq e2 (by omega : 32 < 256)).mp z)), if_neg (fun z => q (of_decide_eq_true z))]
      exact ⟨M, rfl, h3, fun _ _ _ => rfl⟩
theorem u_L54 {t : Nat → Nat} {n q : Nat} (hq : q < n) : ∀ (m p fu : Nat) (M : sk_M), u_tc t n M → p + m = n → m < fu → M 62 3 = nI q → M 62 4 = nI p → ∃ M', f_X0_moveOn_L54 fu M = some M' ∧ M' 62 4 = nI (if u_L (t q) = true then u_run (fun j => u_L (t j)) m p else p) ∧ u_f 62 4 M M' := by
  intro m
  induction m with
  | zero =>
    intro p fu M h hp hfu h3 h4
    obtain ⟨g, rfl⟩ : ∃ g, fu = g + 1 := ⟨fu - 1, by omega⟩
    have h9 := h.1
    refine ⟨M, ?_, ?_, fun _ _ _ => rfl⟩
    · rw [f_X0_moveOn_L54, h.2.1, h4, if_pos (nI_le (by omega) (by omega))]
    · rw [h4]; split <;> rfl
  | succ m ih =>
    intro p fu M h hp hfu h3 h4
    obtain ⟨g, rfl⟩ : ∃ g, fu = g + 1 := ⟨fu - 1, by omega⟩
    have h9 := h.1
    obtain ⟨e1, e2⟩ := h.2.2 p (by omega)
    obtain ⟨d1, d2⟩ := h.2.2 q hq
    rw [f_X0_moveOn_L54, h.2.1, h4, if_neg (nI_ge (by omega) (by omega)), h3, q_chkI (by omega) (by omega), q_clamp (by omega), d1, u_isL d2, u_run_s]
    by_cases z : u_L (t q) = true
    · rw [if_neg (by rw [z]; decide), q_chkI (by omega) (by omega), q_clamp (by omega), e1, u_isL e2, if_pos z]
      by_cases z2 : u_L (t p) = true
      · rw [if_neg (by rw [z2]; decide), q_let, if_pos z2, nI_1]
        obtain ⟨M', k1, k2, k3⟩ := ih (p + 1) g (sk_u M 62 4 (nI (p + 1))) (u_tc_f h (by omega) (u_f_u _ _ _ _)) (by omega) (by omega) (by rw [q_un (by omega)]; exact h3) (by rw [q_ue])
        rw [if_pos z] at k2
        exact ⟨M', k1, k2, (u_f_u _ _ _ _).trans k3⟩
      · rw [if_pos ((u_01 _).mpr (Bool.eq_false_iff.mpr z2)), if_neg z2]
        exact ⟨M, rfl, h4, fun _ _ _ => rfl⟩
    · rw [if_pos ((u_01 _).mpr (Bool.eq_false_iff.mpr z)), if_neg z]
      exact ⟨M, rfl, h4, fun _ _ _ => rfl⟩
theorem u_L108 {t : Nat → Nat} {n q : Nat} (hq : q < n) : ∀ (m p fu : Nat) (M : sk_M), u_tc t n M → p + m = n → m < fu → M 62 3 = nI q → M 62 4 = nI p → ∃ M', f_X0_moveOn_L108 fu M = some M' ∧ M' 62 4 = nI (if u_D (t q) = true then u_run (fun j => u_D (t j)) m p else p) ∧ u_f 62 4 M M' := by
  intro m
  induction m with
  | zero =>
    intro p fu M h hp hfu h3 h4
    obtain ⟨g, rfl⟩ : ∃ g, fu = g + 1 := ⟨fu - 1, by omega⟩
    have h9 := h.1
    refine ⟨M, ?_, ?_, fun _ _ _ => rfl⟩
    · rw [f_X0_moveOn_L108, h.2.1, h4, if_pos (nI_le (by omega) (by omega))]
    · rw [h4]; split <;> rfl
  | succ m ih =>
    intro p fu M h hp hfu h3 h4
    obtain ⟨g, rfl⟩ : ∃ g, fu = g + 1 := ⟨fu - 1, by omega⟩
    have h9 := h.1
    obtain ⟨e1, e2⟩ := h.2.2 p (by omega)
    obtain ⟨d1, d2⟩ := h.2.2 q hq
    rw [f_X0_moveOn_L108, h.2.1, h4, if_neg (nI_ge (by omega) (by omega)), h3, q_chkI (by omega) (by omega), q_clamp (by omega), d1, u_isD d2, u_run_s]
    by_cases z : u_D (t q) = true
    · rw [if_neg (by rw [z]; decide), q_chkI (by omega) (by omega), q_clamp (by omega), e1, u_isD e2, if_pos z]
      by_cases z2 : u_D (t p) = true
      · rw [if_neg (by rw [z2]; decide), q_let, if_pos z2, nI_1]
        obtain ⟨M', k1, k2, k3⟩ := ih (p + 1) g (sk_u M 62 4 (nI (p + 1))) (u_tc_f h (by omega) (u_f_u _ _ _ _)) (by omega) (by omega) (by rw [q_un (by omega)]; exact h3) (by rw [q_ue])
        rw [if_pos z] at k2
        exact ⟨M', k1, k2, (u_f_u _ _ _ _).trans k3⟩
      · rw [if_pos ((u_01 _).mpr (Bool.eq_false_iff.mpr z2)), if_neg z2]
        exact ⟨M, rfl, h4, fun _ _ _ => rfl⟩
    · rw [if_pos ((u_01 _).mpr (Bool.eq_false_iff.mpr z)), if_neg z]
      exact ⟨M, rfl, h4, fun _ _ _ => rfl⟩
