/-! What a text gives in the reference; the texts of both sides. -/
def x_nl (key q : Nat) : Option Nat :=
  if key = 0 then (if q = 0 then some 115 else if q = 1 then some 112 else if q = 2 then some 119 else none)
  else if key = 1 then (if q = 0 then some 116 else if q = 1 then some 110 else none)
  else (if q = 0 then some 100 else if q = 1 then some 110 else none)
def x_rc (key : Nat) (x p v : Int32) : Prop :=
  (p = 0 ∧ v = x ∧ ¬ x < 0) ∨ (p = 1 ∧ ∃ q L : Nat, x_nl key q = some L ∧ x = (-3) + nI q ∧ v = nI L) ∨ (p = 2 ∧ x = -v ∧ (v = 33 ∨ x_sign v))
theorem x_nl_lt {key q L : Nat} (h : x_nl key q = some L) : q < 3 ∧ L < 128 := by
  unfold x_nl at h
  repeat' split at h
  all_goals first | (cases h; omega) | cases h
theorem x_nl_x {key q L : Nat} (h : x_nl key q = some L) : ¬ ((-3) + nI q < -3) ∧ (-3) + nI q < 0 := by
  obtain ⟨hq, -⟩ := x_nl_lt h
  match q, hq with
  | 0, _ => decide
  | 1, _ => decide
  | 2, _ => decide
theorem x_rc2 {v : Int32} (h : v = 33 ∨ x_sign v) : -v < -3 ∧ -(-v) = v ∧ (v = 33 → -v = -33) ∧ (v ≠ 33 → -v ≠ -33) ∧ (v ≠ 33 → x_sign v) := by
  refine ⟨?_, ?_, ?_, ?_, fun q => h.resolve_left q⟩
  all_goals unfold x_sign at h
  all_goals rcases h with rfl | rfl | rfl | rfl | rfl | rfl | rfl | rfl | rfl | rfl
  all_goals decide
theorem x_ta (i : Nat) : f_X7_textAt (nI i) = nI (109 + 200 * i) := by
  show nI 109 + nI 200 * nI i = _
  rw [pk_mul, nI_add]
theorem x_ta2 (i : Nat) : f_X7_textAt (nI i) + 2 = nI (111 + 200 * i) := by
  rw [x_ta, show (2 : Int32) = nI 2 from rfl, nI_add]
  congr 1; omega
theorem x_ta4 (i k : Nat) : (f_X7_textAt (nI i) + 4) + (2 * nI k) = nI (113 + 200 * i + 2 * k) := by
  rw [x_ta, show (4 : Int32) = nI 4 from rfl, show (2 : Int32) = nI 2 from rfl, pk_mul, nI_add, nI_add]
  congr 1; omega
set_option maxHeartbeats 1000000 in
theorem x_workL {i sz key : Nat} (hi : i < 14) (hsz : sz ≤ 96) {f : Nat → Int32} (hwf : x_wf f sz) (a b c : Int32) (M : sk_M) (h44 : M 89 (111 + 200 * i) = nI sz)
    (hrc : ∀ j, j < sz → x_rc key (f j) (M 89 (113 + 200 * i + 2 * j)) (M 89 (114 + 200 * i + 2 * j))) (hnm : ∀ q L, x_nl key q = some L → M 103 L = f_X3_named ((-3) + nI q) a b c) :
    ∀ (m j fu : Nat) (A : Nat → Int32), j + m = sz → m < fu → x_sk A (x_ev f a b c j) → ∃ B, f_X7_worked_L4 (nI i) fu (nI (x_dp f j)) (nI j) (sk_uA M 104 A) = some (sk_uA M 104 B) ∧ x_sk B (x_ev f a b c sz) := by
  intro m
  induction m with
  | zero =>
    intro j fu A hj hfu hA
    obtain ⟨g, rfl⟩ : ∃ g, fu = g + 1 := ⟨fu - 1, by omega⟩
    have e : j = sz := by omega
    subst e
    rw [f_X7_worked_L4, x_ta2, q_chkI (by omega) (by omega), q_clamp (by omega), sk_uA_ne M A (by omega : (89 : Nat) ≠ 104), h44, if_pos (nI_le (Nat.le_refl _) (by omega))]
    exact ⟨A, rfl, hA⟩
  | succ m ih =>
    intro j fu A hj hfu hA
    obtain ⟨g, rfl⟩ : ∃ g, fu = g + 1 := ⟨fu - 1, by omega⟩
    have hlen := x_len hwf a b c j (by omega)
    have hdl := x_dp_le f j
    rw [f_X7_worked_L4, x_ta2, q_chkI (by omega) (by omega), q_clamp (by omega), sk_uA_ne M A (by omega : (89 : Nat) ≠ 104), h44, if_neg (nI_ge (by omega) (by omega)), x_ta4, q_chkI (by omega) (by omega), q_let, nI_1, q_chkI (by omega) (by omega), q_let, q_clamp (by omega), q_clamp (by omega), nI_1]
    have e5 : 113 + 200 * i + 2 * j + 1 = 114 + 200 * i + 2 * j := by omega
    rw [e5]
    have hw := hwf.2 j (by omega)
    have hev : x_ev f a b c (j + 1) = x_st (f j) a b c (x_ev f a b c j) := rfl
    have hdp : x_dp f (j + 1) = if f j < -3 then (if f j = -33 then x_dp f j else x_dp f j - 1) else x_dp f j + 1 := rfl
    rcases hrc j (by omega) with ⟨r1, r2, r3⟩ | ⟨r1, q, L, r2, r3, r4⟩ | ⟨r1, r2, r3⟩
    · have h1 : ¬ f j < -3 := by
        rw [q_ltI] at r3 ⊢
        rw [show (0 : Int32).toInt = 0 from rfl] at r3
        rw [show (-3 : Int32).toInt = -3 from rfl]
        omega
      rw [if_neg h1] at hdp
      rw [r1, r2, if_neg (by decide), if_pos rfl, q_chkI (by omega) (by omega), q_let, q_clamp (by omega), x_uAu, nI_1]
      have hh := ih (j + 1) g (upd A (x_dp f j) (f j)) (by omega) (by omega) (by
        rw [hev]
        unfold x_st
        rw [if_neg h1, if_neg r3, ← hlen]
        exact x_sk_push _ hA)
      rw [hdp] at hh
      exact hh
    · obtain ⟨h1, h2⟩ := x_nl_x r2
      obtain ⟨hq, hL⟩ := x_nl_lt r2
      rw [← r3] at h1 h2
      rw [if_neg h1] at hdp
      rw [r1, r4, if_neg (by decide), if_neg (by decide), q_chkI (by omega) (by omega), q_chkI (by omega) (by omega), q_let, q_clamp (by omega), q_clamp (by omega), sk_uA_ne M A (by omega : (103 : Nat) ≠ 104), hnm q L r2, ← r3, x_uAu, nI_1]
      have hh := ih (j + 1) g (upd A (x_dp f j) (f_X3_named (f j) a b c)) (by omega) (by omega) (by
        rw [hev]
        unfold x_st
        rw [if_neg h1, if_pos h2, ← hlen]
        exact x_sk_push _ hA)
      rw [hdp] at hh
      exact hh
    · obtain ⟨s1, s2, s3, s4, s5⟩ := x_rc2 r3
      have h1 : f j < -3 := by rw [r2]; exact s1
      rw [if_pos h1] at hdp
      rw [r1, if_pos rfl]
      rcases hw h1 with ⟨h2, h3⟩ | ⟨h2, h3⟩
      · have e33 : M 89 (114 + 200 * i + 2 * j) = 33 := by
          rcases Decidable.em (M 89 (114 + 200 * i + 2 * j) = 33) with q | q
          · exact q
          · exact absurd (r2.symm.trans h2) (s4 q)
        rw [if_pos h2] at hdp
        rw [e33, if_pos rfl, x_s1 h3, q_chkI (by omega) (by omega), q_chkI (by omega) (by omega), q_let, q_clamp (by omega), sk_uA_self, x_uAu]
        have hh := ih (j + 1) g (upd A (x_dp f j - 1) (if A (x_dp f j - 1) = 0 then 1 else 0)) (by omega) (by omega) (by
          rw [hev]
          cases hs : x_ev f a b c j with
          | nil => rw [hs] at hlen; simp at hlen; omega
          | cons y r =>
            rw [hs] at hlen hA
            simp only [List.length_cons] at hlen
            rw [x_st, if_pos h1, if_pos h2]
            have e : x_dp f j - 1 = r.length := by omega
            rw [e, hA.1]
            exact ⟨by rw [q_upd, if_pos rfl], x_sk_up (Nat.le_refl _) hA.2⟩)
        rw [hdp] at hh
        exact hh
      · have e33 : M 89 (114 + 200 * i + 2 * j) ≠ 33 := fun q => h2 (r2.trans (s3 q))
        rw [if_neg h2] at hdp
        rw [if_neg e33, x_m1 (by omega), x_s1 (by omega), q_chkI (by omega) (by omega), q_chkI (by omega) (by omega), q_clamp (by omega), q_clamp (by omega), sk_uA_self, x_joinedE (s5 e33), q_b1, q_chkI (by omega) (by omega), q_let, x_uAu]
        have hh := ih (j + 1) g (upd A (x_dp f j - 1 - 1) (x_join (M 89 (114 + 200 * i + 2 * j)) (A (x_dp f j - 1 - 1)) (A (x_dp f j - 1)))) (by omega) (by omega) (by
          rw [hev]
          cases hs : x_ev f a b c j with
          | nil => rw [hs] at hlen; simp at hlen; omega
          | cons y r =>
            cases r with
            | nil => rw [hs] at hlen; simp at hlen; omega
            | cons z r =>
              rw [hs] at hlen hA
              simp only [List.length_cons] at hlen
              rw [x_st, if_pos h1, if_neg h2]
              have e1 : x_dp f j - 1 = r.length + 1 := by omega
              have e2 : x_dp f j - 1 - 1 = r.length := by omega
              have e6 : -f j = M 89 (114 + 200 * i + 2 * j) := by rw [r2]; exact s2
              rw [e2, e1, show A (r.length + 1) = y from hA.1, hA.2.1, e6]
              exact ⟨by rw [q_upd, if_pos rfl], x_sk_up (Nat.le_refl _) hA.2.2⟩)
        rw [hdp] at hh
        exact hh
theorem x_work {i sz key : Nat} (hi : i < 14) (hsz : sz ≤ 96) {f : Nat → Int32} (hwf : x_wf f sz) (a b c : Int32) (M : sk_M) (h44 : M 89 (111 + 200 * i) = nI sz)
    (hrc : ∀ j, j < sz → x_rc key (f j) (M 89 (113 + 200 * i + 2 * j)) (M 89 (114 + 200 * i + 2 * j))) (hnm : ∀ q L, x_nl key q = some L → M 103 L = f_X3_named ((-3) + nI q) a b c) :
    ∃ B, f_X7_worked (nI i) M = some (x_bot (x_ev f a b c sz), sk_uA M 104 B) := by
  obtain ⟨B, h1, h2⟩ := x_workL hi hsz hwf a b c M h44 hrc hnm sz 0 sk_FU (M 104) (by omega) (by unfold sk_FU; omega) trivial
  rw [x_uA_id] at h1
  refine ⟨B, ?_⟩
  have h1' : f_X7_worked_L4 (nI i) sk_FU 0 0 M = some (sk_uA M 104 B) := h1
  rw [f_X7_worked, h1', q_b1, sk_uA_self]
  have hne : x_ev f a b c sz ≠ [] := by
    intro e
    have := x_len hwf a b c sz (Nat.le_refl _)
    rw [e] at this
    have := hwf.1
    simp at *
    omega
  rw [x_sk_bot hne h2]
/-- the last text with a key, -1 if there is none -/
def x_last (A : Nat → Int32) (key : Int32) : Nat → Int32
  | 0 => -1
  | n + 1 => if A n = key then nI n else x_last A key n
theorem x_last_cases (A : Nat → Int32) (key : Int32) : ∀ n, x_last A key n = -1 ∨ ∃ i, i < n ∧ A i = key ∧ x_last A key n = nI i
  | 0 => Or.inl rfl
  | n + 1 => by
    unfold x_last
    by_cases h : A n = key
    · rw [if_pos h]; exact Or.inr ⟨n, by omega, h, rfl⟩
    · rw [if_neg h]
      rcases x_last_cases A key n with q | ⟨i, q1, q2, q3⟩
      · exact Or.inl q
      · exact Or.inr ⟨i, by omega, q2, q3⟩
theorem x_countsL {key : Int32} {M : sk_M} {A : Nat → Int32} {n : Nat} (hn : M 89 3 = nI n) (h14 : n ≤ 14) (hA : ∀ i, i < n → M 89 (109 + 200 * i) = A i) :
    ∀ (m k fu : Nat), k + m = n → m < fu → f_X7_counts_L4 key M fu (x_last A key k) (nI k) = some (x_last A key n) := by
  intro m
  induction m with
  | zero =>
    intro k fu hk hfu
    obtain ⟨g, rfl⟩ : ∃ g, fu = g + 1 := ⟨fu - 1, by omega⟩
    have e : k = n := by omega
    subst e
    rw [f_X7_counts_L4, hn, if_pos (nI_le (Nat.le_refl _) (by omega))]
  | succ m ih =>
    intro k fu hk hfu
    obtain ⟨g, rfl⟩ : ∃ g, fu = g + 1 := ⟨fu - 1, by omega⟩
    rw [f_X7_counts_L4, hn, if_neg (nI_ge (by omega) (by omega)), x_ta, q_chkI (by omega) (by omega), q_let, q_clamp (by omega), hA k (by omega), nI_1]
    exact ih (k + 1) g (by omega) (by omega)
theorem x_counts {key : Int32} {M : sk_M} {A : Nat → Int32} {n : Nat} (hn : M 89 3 = nI n) (h14 : n ≤ 14) (hA : ∀ i, i < n → M 89 (109 + 200 * i) = A i) : f_X7_counts key M = some (x_last A key n) := by
  have h := x_countsL (key := key) hn h14 hA n 0 sk_FU (by omega) (by unfold sk_FU; omega)
  have h' : f_X7_counts_L4 key M sk_FU (-1) 0 = some (x_last A key n) := h
  rw [f_X7_counts, h', q_b1]
