/-! What a text gives: a stack of numbers. -/
def x_join (s a b : Int32) : Int32 := (f_X3_join s a b (fun _ _ => 0)).getD 0
theorem x_joinE (s a b : Int32) (M : sk_M) : f_X3_join s a b M = some (x_join s a b) := by
  have e : f_X3_join s a b M = f_X3_join s a b (fun _ _ => 0) := rfl
  rw [e, x_join]
  cases hh : f_X3_join s a b (fun _ _ => 0) with
  | some v => rfl
  | none =>
    exfalso
    simp only [f_X3_join] at hh
    repeat' split at hh
    all_goals first | cases hh | (rw [q_chkD (by assumption)] at hh; cases hh)
theorem x_divm1 (a : Int32) : a / (-1) = -a := by
  rw [q_eqI, Int32.toInt_div, show (-1 : Int32).toInt = -1 from rfl, Int.tdiv_neg, Int.tdiv_one, Int32.toInt_neg]
def x_sign (v : Int32) : Prop := v = 124 ∨ v = 38 ∨ v = 60 ∨ v = 61 ∨ v = 62 ∨ v = 43 ∨ v = 45 ∨ v = 42 ∨ v = 47
theorem x_joinedE {v : Int32} (h : x_sign v) (a b : Int32) (M : sk_M) : f_X7_joined v a b M = some (x_join v a b) := by
  rw [← x_joinE v a b M]
  rcases h with rfl | rfl | rfl | rfl | rfl | rfl | rfl | rfl | rfl
  · simp [f_X7_joined, f_X3_join]
  · simp [f_X7_joined, f_X3_join]
  · simp [f_X7_joined, f_X3_join]
  · simp [f_X7_joined, f_X3_join]
  · simp [f_X7_joined, f_X3_join]
  · simp [f_X7_joined, f_X3_join]
  · simp [f_X7_joined, f_X3_join]
  · simp [f_X7_joined, f_X3_join]
  · by_cases h0 : b = 0
    · simp [f_X7_joined, f_X3_join, h0]
    · by_cases h1 : b = -1
      · subst h1
        simp [f_X7_joined, f_X3_join, x_divm1, sk_chk]
      · simp [f_X7_joined, f_X3_join, h0, h1]
def x_st (x a b c : Int32) (st : List Int32) : List Int32 :=
  if x < -3 then (if x = -33 then (match st with | [] => [] | y :: r => (if y = 0 then 1 else 0) :: r) else (match st with | y :: z :: r => x_join (-x) z y :: r | s => s))
  else (if x < 0 then f_X3_named x a b c else x) :: st
def x_ev (f : Nat → Int32) (a b c : Int32) : Nat → List Int32
  | 0 => []
  | j + 1 => x_st (f j) a b c (x_ev f a b c j)
def x_dp (f : Nat → Int32) : Nat → Nat
  | 0 => 0
  | j + 1 => if f j < -3 then (if f j = -33 then x_dp f j else x_dp f j - 1) else x_dp f j + 1
def x_wf (f : Nat → Int32) (n : Nat) : Prop := 1 ≤ x_dp f n ∧ ∀ j, j < n → f j < -3 → (f j = -33 ∧ 1 ≤ x_dp f j) ∨ (f j ≠ -33 ∧ 2 ≤ x_dp f j)
theorem x_dp_le (f : Nat → Int32) : ∀ j, x_dp f j ≤ j
  | 0 => Nat.le_refl _
  | j + 1 => by
    have := x_dp_le f j
    unfold x_dp
    repeat' split
    all_goals omega
theorem x_len {f : Nat → Int32} {n : Nat} (h : x_wf f n) (a b c : Int32) : ∀ j, j ≤ n → (x_ev f a b c j).length = x_dp f j
  | 0, _ => rfl
  | j + 1, hj => by
    have ih := x_len h a b c j (by omega)
    have hw := h.2 j (by omega)
    unfold x_ev x_dp x_st
    by_cases h1 : f j < -3
    · rw [if_pos h1, if_pos h1]
      rcases hw h1 with ⟨h2, h3⟩ | ⟨h2, h3⟩
      · rw [if_pos h2, if_pos h2]
        cases hs : x_ev f a b c j with
        | nil => rw [hs] at ih; simp at ih; omega
        | cons y r => rw [hs] at ih; simpa using ih
      · rw [if_neg h2, if_neg h2]
        cases hs : x_ev f a b c j with
        | nil => rw [hs] at ih; simp at ih; omega
        | cons y r =>
          cases r with
          | nil => rw [hs] at ih; simp at ih; omega
          | cons z r => rw [hs] at ih; simp at ih ⊢; omega
    · rw [if_neg h1, if_neg h1]
      simp [ih]
/-- a row that holds a stack, its bottom first -/
def x_sk (A : Nat → Int32) : List Int32 → Prop
  | [] => True
  | x :: r => A r.length = x ∧ x_sk A r
theorem x_sk_up {A : Nat → Int32} {n : Nat} {v : Int32} : ∀ {st : List Int32}, st.length ≤ n → x_sk A st → x_sk (upd A n v) st
  | [], _, _ => trivial
  | x :: r, h, q => by
    simp only [List.length_cons] at h
    exact ⟨by rw [q_upd, if_neg (by omega)]; exact q.1, x_sk_up (by omega) q.2⟩
theorem x_sk_push {A : Nat → Int32} {st : List Int32} (v : Int32) (h : x_sk A st) : x_sk (upd A st.length v) (v :: st) :=
  ⟨by rw [q_upd, if_pos rfl], x_sk_up (Nat.le_refl _) h⟩
def x_bot : List Int32 → Int32
  | [] => 0
  | [x] => x
  | _ :: y :: r => x_bot (y :: r)
theorem x_sk_bot {A : Nat → Int32} : ∀ {st : List Int32}, st ≠ [] → x_sk A st → A 0 = x_bot st
  | [], h, _ => absurd rfl h
  | [x], _, q => q.1
  | x :: y :: r, _, q => x_sk_bot (st := y :: r) (by simp) q.2
theorem x_uA2 (M : sk_M) (o : Nat) (f g : Nat → Int32) : sk_uA (sk_uA M o f) o g = sk_uA M o g := by
  funext a
  unfold sk_uA
  by_cases h : a = o
  · simp [h]
  · simp [h]
theorem x_uAu (M : sk_M) (o j : Nat) (f : Nat → Int32) (v : Int32) : sk_u (sk_uA M o f) o j v = sk_uA M o (upd f j v) := by
  unfold sk_u
  rw [sk_uA_self, x_uA2]
theorem x_uA_id (M : sk_M) (o : Nat) : sk_uA M o (M o) = M := by
  funext a
  unfold sk_uA
  by_cases h : a = o
  · simp [h]
  · simp [h]
theorem x_m1 {n : Nat} (h : 1 ≤ n) : nI n + (-1) = nI (n - 1) := by
  obtain ⟨k, rfl⟩ : ∃ k, n = k + 1 := ⟨n - 1, by omega⟩
  exact pk_m1 k
theorem x_s1 {n : Nat} (h : 1 ≤ n) : nI n - 1 = nI (n - 1) := by
  obtain ⟨k, rfl⟩ : ∃ k, n = k + 1 := ⟨n - 1, by omega⟩
  exact nI_pred k
set_option maxHeartbeats 1000000 in
theorem x_giveL {i sz : Nat} (hi : i < 14) (hsz : sz ≤ 96) {f : Nat → Int32} (hwf : x_wf f sz) (a b c : Int32) (M : sk_M) (h44 : M 44 i = nI sz) (h48 : M (48 + i) = f) :
    ∀ (m j fu : Nat) (A : Nat → Int32), j + m = sz → m < fu → x_sk A (x_ev f a b c j) → ∃ B, f_X3_give_L6 (nI i) a b c fu (nI (x_dp f j)) (nI j) (sk_uA M 47 A) = some (sk_uA M 47 B) ∧ x_sk B (x_ev f a b c sz) := by
  intro m
  induction m with
  | zero =>
    intro j fu A hj hfu hA
    obtain ⟨g, rfl⟩ : ∃ g, fu = g + 1 := ⟨fu - 1, by omega⟩
    have e : j = sz := by omega
    subst e
    rw [f_X3_give_L6, q_chkI hi (by omega), q_clamp (by omega), sk_uA_ne M A (by omega : (44 : Nat) ≠ 47), h44, if_pos (nI_le (Nat.le_refl _) (by omega))]
    exact ⟨A, rfl, hA⟩
  | succ m ih =>
    intro j fu A hj hfu hA
    obtain ⟨g, rfl⟩ : ∃ g, fu = g + 1 := ⟨fu - 1, by omega⟩
    have hlen := x_len hwf a b c j (by omega)
    have hdl := x_dp_le f j
    rw [f_X3_give_L6, q_chkI hi (by omega), q_clamp (by omega), sk_uA_ne M A (by omega : (44 : Nat) ≠ 47), h44, if_neg (nI_ge (by omega) (by omega)), q_chkI hi (by omega), q_chkI (by omega : j < 96) (by omega), q_let, q_clamp (by omega), sk_uA_ne M A (by omega : 48 + i ≠ 47), h48, nI_1]
    have hw := hwf.2 j (by omega)
    have hev : x_ev f a b c (j + 1) = x_st (f j) a b c (x_ev f a b c j) := rfl
    have hdp : x_dp f (j + 1) = if f j < -3 then (if f j = -33 then x_dp f j else x_dp f j - 1) else x_dp f j + 1 := rfl
    by_cases h1 : f j < -3
    · rw [if_pos h1] at hdp
      rw [if_pos h1]
      rcases hw h1 with ⟨h2, h3⟩ | ⟨h2, h3⟩
      · rw [if_pos h2] at hdp
        rw [if_pos h2, if_neg (by rw [q_lit, q_lt (by omega) (by omega)]; omega), x_s1 h3, q_chkI (by omega) (by omega), q_chkI (by omega) (by omega), q_let, q_clamp (by omega), sk_uA_self, x_uAu]
        have hh := ih (j + 1) g (upd A (x_dp f j - 1) (if A (x_dp f j - 1) = 0 then 1 else 0)) (by omega) (by omega) (by
          rw [hev]
          cases hs : x_ev f a b c j with
          | nil => rw [hs] at hlen; simp at hlen; omega
          | cons y r =>
            rw [hs] at hlen hA
            simp only [List.length_cons] at hlen
            rw [x_st, if_pos h1, if_pos h2]
            have e : x_dp f j - 1 = r.length := by omega
            rw [e, hA.1]
            exact ⟨by rw [q_upd, if_pos rfl], x_sk_up (Nat.le_refl _) hA.2⟩)
        rw [hdp] at hh
        exact hh
      · rw [if_neg h2] at hdp
        rw [if_neg h2, if_neg (by rw [q_lit, q_lt (by omega) (by omega)]; omega), x_m1 (by omega), x_s1 (by omega), q_chkI (by omega) (by omega), q_chkI (by omega) (by omega), q_clamp (by omega), q_clamp (by omega), sk_uA_self, x_joinE, q_b1, q_chkI (by omega) (by omega), q_let, x_uAu]
        have hh := ih (j + 1) g (upd A (x_dp f j - 1 - 1) (x_join (-f j) (A (x_dp f j - 1 - 1)) (A (x_dp f j - 1)))) (by omega) (by omega) (by
          rw [hev]
          cases hs : x_ev f a b c j with
          | nil => rw [hs] at hlen; simp at hlen; omega
          | cons y r =>
            cases r with
            | nil => rw [hs] at hlen; simp at hlen; omega
            | cons z r =>
              rw [hs] at hlen hA
              simp only [List.length_cons] at hlen
              rw [x_st, if_pos h1, if_neg h2]
              have e1 : x_dp f j - 1 = r.length + 1 := by omega
              have e2 : x_dp f j - 1 - 1 = r.length := by omega
              rw [e2, e1, show A (r.length + 1) = y from hA.1, hA.2.1]
              exact ⟨by rw [q_upd, if_pos rfl], x_sk_up (Nat.le_refl _) hA.2.2⟩)
        rw [hdp] at hh
        exact hh
    · rw [if_neg h1] at hdp
      rw [if_neg h1, q_chkI (by omega) (by omega), q_let, q_clamp (by omega), x_uAu, nI_1]
      have hh := ih (j + 1) g (upd A (x_dp f j) (if f j < 0 then f_X3_named (f j) a b c else f j)) (by omega) (by omega) (by
        rw [hev]
        unfold x_st
        rw [if_neg h1, ← hlen]
        exact x_sk_push _ hA)
      rw [hdp] at hh
      exact hh
/-- the value of text i of the library -/
def x_val (M : sk_M) (i : Nat) (a b c : Int32) : Int32 := x_bot (x_ev (M (48 + i)) a b c (M 44 i).toNatClampNeg)
theorem x_give {i sz : Nat} (hi : i < 14) (hsz : sz ≤ 96) {M : sk_M} (hwf : x_wf (M (48 + i)) sz) (h44 : M 44 i = nI sz) (a b c : Int32) : ∃ B, f_X3_give (nI i) a b c M = some (x_val M i a b c, sk_uA M 47 B) := by
  obtain ⟨B, h1, h2⟩ := x_giveL hi hsz hwf a b c M h44 rfl sz 0 sk_FU (M 47) (by omega) (by unfold sk_FU; omega) trivial
  rw [x_uA_id] at h1
  refine ⟨B, ?_⟩
  have h1' : f_X3_give_L6 (nI i) a b c sk_FU 0 0 M = some (sk_uA M 47 B) := h1
  rw [f_X3_give, h1', q_b1, sk_uA_self]
  have hne : x_ev (M (48 + i)) a b c sz ≠ [] := by
    intro e
    have := x_len hwf a b c sz (Nat.le_refl _)
    rw [e] at this
    have := hwf.1
    simp at *
    omega
  rw [x_sk_bot hne h2, x_val, h44, q_clamp (by omega)]
