/-! moveOn, nextToken. -/
def u_w (v : Nat) : Bool := u_L v || u_D v
def u_sk (t : Nat → Nat) (n p : Nat) : Nat := u_run (fun j => decide (t j = 32)) (n - p) p
def u_e (t : Nat → Nat) (n q : Nat) : Nat := if q < n then (if u_L (t q) = true then u_run (fun j => u_L (t j)) (n - q) q else if u_D (t q) = true then u_run (fun j => u_D (t j)) (n - q) q else q + 1) else q
def u_gl (t : Nat → Nat) (n q : Nat) : Prop := 0 < q ∧ q < n ∧ u_w (t q) = true ∧ u_w (t (q - 1)) = true
theorem u_LD {v : Nat} (h : u_L v = true) : ¬ u_D v = true := by
  unfold u_L at h; unfold u_D
  have := of_decide_eq_true h
  intro z
  have := of_decide_eq_true z
  omega
theorem u_run1 {P : Nat → Bool} {n q : Nat} (hq : q < n) (h : P q = true) : q + 1 ≤ u_run P (n - q) q ∧ u_run P (n - q) q ≤ n := by
  obtain ⟨m, hm⟩ : ∃ m, n - q = m + 1 := ⟨n - q - 1, by omega⟩
  have h2 := u_run_le P (n - q) q
  rw [hm, u_run_s, if_pos h] at h2 ⊢
  have := u_run_le P m (q + 1)
  omega
theorem u_e_b {t : Nat → Nat} {n q : Nat} (hq : q ≤ n) : q ≤ u_e t n q ∧ u_e t n q ≤ n ∧ (q < n → q + 1 ≤ u_e t n q) := by
  unfold u_e
  by_cases h : q < n
  · rw [if_pos h]
    by_cases h1 : u_L (t q) = true
    · rw [if_pos h1]
      have := u_run1 (P := fun j => u_L (t j)) h h1
      omega
    · rw [if_neg h1]
      by_cases h2 : u_D (t q) = true
      · rw [if_pos h2]
        have := u_run1 (P := fun j => u_D (t j)) h h2
        omega
      · rw [if_neg h2]; omega
  · rw [if_neg h]; omega
theorem u_sk_b {t : Nat → Nat} {n p : Nat} (hp : p ≤ n) : p ≤ u_sk t n p ∧ u_sk t n p ≤ n := by
  have := u_run_le (fun j => decide (t j = 32)) (n - p) p
  unfold u_sk
  omega
theorem u_fail {M : sk_M} (h : M 62 5 = -1) : f_X0_fail M = some (sk_u M 62 5 (M 62 3)) := by
  rw [f_X0_fail, h, if_neg (by decide), q_let]
/-- what the class has changed of its reader -/
def u_fc (M M' : sk_M) : Prop := ∀ a b, a ≠ 62 ∨ (b ≠ 3 ∧ b ≠ 4 ∧ b ≠ 5) → M' a b = M a b
theorem u_moveC {t : Nat → Nat} {n p : Nat} {M : sk_M} (h : u_tc t n M) (hp : p ≤ n) (h4 : M 62 4 = nI p) (h5 : M 62 5 = -1) :
    ∃ M', f_X0_moveOn M = some M' ∧ M' 62 3 = nI (u_sk t n p) ∧ M' 62 4 = nI (u_e t n (u_sk t n p)) ∧ (u_gl t n (u_sk t n p) → M' 62 5 = nI (u_sk t n p)) ∧ (¬ u_gl t n (u_sk t n p) → M' 62 5 = -1) ∧ u_fc M M' := by
  have h9 := h.1
  obtain ⟨M1, a1, a2, a3⟩ := u_L8 (t := t) (n := n) (n - p) p sk_FU (sk_u M 62 3 (nI p)) (u_tc_f h (by omega) (u_f_u _ _ _ _)) (by omega) (by unfold sk_FU; omega) (by rw [q_ue])
  have hb := u_sk_b (t := t) hp
  have a2' : M1 62 3 = nI (u_sk t n p) := a2
  generalize u_sk t n p = q at a2' hb ⊢
  have hM1 : u_tc t n M1 := u_tc_f (u_tc_f h (by omega) (u_f_u M 62 3 (nI p))) (by omega) a3
  have hM2 : u_tc t n (sk_u M1 62 4 (nI q)) := u_tc_f hM1 (by omega) (u_f_u _ _ _ _)
  have e3 : sk_u M1 62 4 (nI q) 62 3 = nI q := by rw [q_un (by omega)]; exact a2'
  have e4 : sk_u M1 62 4 (nI q) 62 4 = nI q := by rw [q_ue]
  have f0 : u_fc M (sk_u M1 62 4 (nI q)) := fun a b z => by rw [q_un (by omega), a3 a b (by omega), q_un (by omega)]
  have e5 : sk_u M1 62 4 (nI q) 62 5 = -1 := by rw [q_un (by omega), a3 62 5 (by omega), q_un (by omega)]; exact h5
  rw [f_X0_moveOn, h4, q_let, a1, q_b1, a2', q_let]
  generalize sk_u M1 62 4 (nI q) = M2 at hM2 e3 e4 f0 e5 ⊢
  obtain ⟨g, hg⟩ : ∃ g, sk_FU = g + 1 := ⟨sk_FU - 1, by unfold sk_FU; omega⟩
  by_cases hq : q < n
  rotate_left
  · -- the end
    have hqn : q = n := by omega
    have b1 : f_X0_moveOn_L54 sk_FU M2 = some M2 := by rw [hg, f_X0_moveOn_L54, hM2.2.1, e4, if_pos (nI_le (by omega) (by omega))]
    have b2 : f_X0_moveOn_L108 sk_FU M2 = some M2 := by rw [hg, f_X0_moveOn_L108, hM2.2.1, e4, if_pos (nI_le (by omega) (by omega))]
    have hue : u_e t n q = q := by unfold u_e; rw [if_neg hq]
    refine ⟨M2, ?_, e3, by rw [hue]; exact e4, fun z => absurd z.2.1 hq, fun _ => e5, f0⟩
    rw [b1, q_b1, b2, q_b1, e3, e4, if_pos rfl, hM2.2.1, if_pos (nI_le (by omega) (by omega))]
    by_cases z : nI q ≤ 0
    · rw [if_pos z]
    · rw [if_neg z, if_pos (nI_le (by omega) (by omega))]
  obtain ⟨M3, c1, c2, c3⟩ := u_L54 (t := t) (n := n) (q := q) hq (n - q) q sk_FU M2 hM2 (by omega) (by unfold sk_FU; omega) e3 e4
  have hM3 : u_tc t n M3 := u_tc_f hM2 (by omega) c3
  have hl0 := u_run_le (fun j => u_L (t j)) (n - q) q
  have hr0 : ∃ r, r = (if u_L (t q) = true then u_run (fun j => u_L (t j)) (n - q) q else q) ∧ q ≤ r ∧ r ≤ n := ⟨_, rfl, by split <;> omega, by split <;> omega⟩
  obtain ⟨r, hr, hr1, hr2⟩ := hr0
  rw [← hr] at c2
  obtain ⟨M4, d1, d2, d3⟩ := u_L108 (t := t) (n := n) (q := q) hq (n - r) r sk_FU M3 hM3 (by omega) (by unfold sk_FU; omega) (by rw [c3 62 3 (by omega)]; exact e3) c2
  have hM4 : u_tc t n M4 := u_tc_f hM3 (by omega) d3
  have g3 : M4 62 3 = nI q := by rw [d3 62 3 (by omega), c3 62 3 (by omega)]; exact e3
  have g5 : M4 62 5 = -1 := by rw [d3 62 5 (by omega), c3 62 5 (by omega)]; exact e5
  have f4 : u_fc M M4 := fun a b z => by rw [d3 a b (by omega), c3 a b (by omega)]; exact f0 a b z
  rw [c1, q_b1, d1, q_b1]
  by_cases hw : u_w (t q) = true
  · have hee : (if u_D (t q) = true then u_run (fun j => u_D (t j)) (n - r) r else r) = u_e t n q ∧ q + 1 ≤ u_e t n q := by
      have hb2 := (u_e_b (t := t) hb.2).2.2 hq
      refine ⟨?_, hb2⟩
      unfold u_e
      rw [if_pos hq]
      by_cases z : u_L (t q) = true
      · rw [if_neg (u_LD z), if_pos z, hr, if_pos z]
      · have hrq : r = q := by rw [hr, if_neg z]
        have zD : u_D (t q) = true := by
          unfold u_w at hw
          simp only [Bool.or_eq_true] at hw
          rcases hw with y | y
          · exact absurd y z
          · exact y
        rw [if_pos zD, if_neg z, if_pos zD, hrq]
    rw [hee.1] at d2
    have hub := u_e_b (t := t) hb.2
    rw [g3, d2, if_neg (fun z => by have := q_inj (by omega) (by omega) z; omega), hM4.2.1]
    by_cases z0 : q = 0
    · refine ⟨M4, ?_, g3, d2, fun z => by have := z.1; omega, fun _ => g5, f4⟩
      rw [if_pos (show nI q ≤ (0 : Int32) from nI_le (b := 0) (by omega) (by omega))]
    · rw [if_neg (show ¬ nI q ≤ (0 : Int32) from nI_ge (a := 0) (by omega) (by omega)), if_neg (nI_ge (by omega) (by omega)), show nI q - (1 : Int32) = nI (q - 1) from pk_sub (b := 1) (by omega), q_chkI (by omega) (by omega), q_clamp (by omega)]
      obtain ⟨y1, y2⟩ := hM4.2.2 (q - 1) (by omega)
      rw [y1, u_isL y2, u_isD y2]
      have hfl : f_X0_fail M4 = some (sk_u M4 62 5 (nI q)) := by rw [u_fail g5, g3]
      by_cases z1 : u_w (t (q - 1)) = true
      · refine ⟨sk_u M4 62 5 (nI q), ?_, by rw [q_un (by omega)]; exact g3, by rw [q_un (by omega)]; exact d2, fun _ => by rw [q_ue], fun z => absurd ⟨by omega, hq, hw, z1⟩ z, fun a b z => by rw [q_un (by omega)]; exact f4 a b z⟩
        by_cases z2 : u_L (t (q - 1)) = true
        · rw [if_neg (by rw [z2]; decide), hfl, q_b1]
        · have z3 : u_D (t (q - 1)) = true := by
            unfold u_w at z1
            simp only [Bool.or_eq_true] at z1
            rcases z1 with y | y
            · exact absurd y z2
            · exact y
          rw [if_pos ((u_01 _).mpr (Bool.eq_false_iff.mpr z2)), q_chkI (by omega) (by omega), if_neg (by rw [z3]; decide), hfl, q_b1]
      · have z2 : ¬ u_L (t (q - 1)) = true := fun y => z1 (by unfold u_w; rw [y]; rfl)
        have z3 : ¬ u_D (t (q - 1)) = true := fun y => z1 (by unfold u_w; rw [y]; simp)
        refine ⟨M4, ?_, g3, d2, fun z => absurd z.2.2.2 z1, fun _ => g5, f4⟩
        rw [if_pos ((u_01 _).mpr (Bool.eq_false_iff.mpr z2)), q_chkI (by omega) (by omega), if_pos ((u_01 _).mpr (Bool.eq_false_iff.mpr z3))]
  · have z2 : ¬ u_L (t q) = true := fun y => hw (by unfold u_w; rw [y]; rfl)
    have z3 : ¬ u_D (t q) = true := fun y => hw (by unfold u_w; rw [y]; simp)
    have hrq : r = q := by rw [hr, if_neg z2]
    rw [if_neg z3, hrq] at d2
    have hue : u_e t n q = q + 1 := by unfold u_e; rw [if_pos hq, if_neg z2, if_neg z3]
    refine ⟨sk_u M4 62 4 (nI (q + 1)), ?_, by rw [q_un (by omega)]; exact g3, by rw [q_ue, hue], fun z => absurd z.2.2.1 hw, fun _ => by rw [q_un (by omega)]; exact g5, fun a b z => by rw [q_un (by omega)]; exact f4 a b z⟩
    rw [g3, d2, if_pos rfl, hM4.2.1, if_neg (nI_ge (by omega) (by omega)), q_let, nI_1]
-- the reference
theorem u_misL {t : Nat → Nat} {n j : Nat} {N : sk_M} (h : u_tm t n N) (hj : j ≤ n) : f_X7_isLetter (nI j) N = some (if j < n ∧ u_L (t j) = true then 1 else 0) := by
  have h9 := h.1
  rw [f_X7_isLetter, h.2.1]
  by_cases q : j < n
  · obtain ⟨y1, y2⟩ := h.2.2 j q
    rw [if_neg (nI_ge q (by omega)), q_chkI (by omega) (by omega), q_clamp (by omega), y1, g_in (nI (t j)) 97 122 (by decide) (by decide), q_wi]
    have e : (nI (t j)).toInt = (t j : Int) := q_toI (by omega)
    rw [e, show (97 : Int32).toInt = 97 from by decide, show (122 : Int32).toInt = 122 from by decide]
    unfold u_L
    by_cases z : 97 ≤ t j ∧ t j ≤ 122
    · have h1 : (if (97 : Int) ≤ (t j : Int) ∧ (t j : Int) ≤ 122 then (1 : Int32) else 0) = 1 := if_pos (by omega)
      have h2 : (if j < n ∧ decide (97 ≤ t j ∧ t j ≤ 122) = true then (1 : Int32) else 0) = 1 := if_pos ⟨q, decide_eq_true z⟩
      rw [h1, h2, if_neg (by decide)]
    · have h1 : (if (97 : Int) ≤ (t j : Int) ∧ (t j : Int) ≤ 122 then (1 : Int32) else 0) = 0 := if_neg (by omega)
      have h2 : (if j < n ∧ decide (97 ≤ t j ∧ t j ≤ 122) = true then (1 : Int32) else 0) = 0 := if_neg (fun y => z (of_decide_eq_true y.2))
      rw [h1, h2, if_pos rfl]
  · rw [if_pos (nI_le (by omega) (by omega)), if_neg (fun y => q y.1)]
theorem u_misD {t : Nat → Nat} {n j : Nat} {N : sk_M} (h : u_tm t n N) (hj : j ≤ n) : f_X7_isDigit (nI j) N = some (if j < n ∧ u_D (t j) = true then 1 else 0) := by
  have h9 := h.1
  rw [f_X7_isDigit, h.2.1]
  by_cases q : j < n
  · obtain ⟨y1, y2⟩ := h.2.2 j q
    rw [if_neg (nI_ge q (by omega)), q_chkI (by omega) (by omega), q_clamp (by omega), y1, g_in (nI (t j)) 48 57 (by decide) (by decide), q_wi]
    have e : (nI (t j)).toInt = (t j : Int) := q_toI (by omega)
    rw [e, show (48 : Int32).toInt = 48 from by decide, show (57 : Int32).toInt = 57 from by decide]
    unfold u_D
    by_cases z : 48 ≤ t j ∧ t j ≤ 57
    · have h1 : (if (48 : Int) ≤ (t j : Int) ∧ (t j : Int) ≤ 57 then (1 : Int32) else 0) = 1 := if_pos (by omega)
      have h2 : (if j < n ∧ decide (48 ≤ t j ∧ t j ≤ 57) = true then (1 : Int32) else 0) = 1 := if_pos ⟨q, decide_eq_true z⟩
      rw [h1, h2, if_neg (by decide)]
    · have h1 : (if (48 : Int) ≤ (t j : Int) ∧ (t j : Int) ≤ 57 then (1 : Int32) else 0) = 0 := if_neg (by omega)
      have h2 : (if j < n ∧ decide (48 ≤ t j ∧ t j ≤ 57) = true then (1 : Int32) else 0) = 0 := if_neg (fun y => z (of_decide_eq_true y.2))
      rw [h1, h2, if_pos rfl]
  · rw [if_pos (nI_le (by omega) (by omega)), if_neg (fun y => q y.1)]
theorem u_mL1 {t : Nat → Nat} {n j : Nat} {N : sk_M} (h : u_tm t n N) (hj : j < n) (z : u_L (t j) = true) : f_X7_isLetter (nI j) N = some 1 := by rw [u_misL h (by omega), if_pos ⟨hj, z⟩]
theorem u_mL0 {t : Nat → Nat} {n j : Nat} {N : sk_M} (h : u_tm t n N) (hj : j ≤ n) (z : ¬ (j < n ∧ u_L (t j) = true)) : f_X7_isLetter (nI j) N = some 0 := by rw [u_misL h hj, if_neg z]
theorem u_mD1 {t : Nat → Nat} {n j : Nat} {N : sk_M} (h : u_tm t n N) (hj : j < n) (z : u_D (t j) = true) : f_X7_isDigit (nI j) N = some 1 := by rw [u_misD h (by omega), if_pos ⟨hj, z⟩]
theorem u_mD0 {t : Nat → Nat} {n j : Nat} {N : sk_M} (h : u_tm t n N) (hj : j ≤ n) (z : ¬ (j < n ∧ u_D (t j) = true)) : f_X7_isDigit (nI j) N = some 0 := by rw [u_misD h hj, if_neg z]
theorem u_L34 {t : Nat → Nat} {n : Nat} {x y : Int32} : ∀ (m p fu : Nat) (M : sk_M), u_tm t n M → p + m = n → m < fu → M 88 17 = nI p → ∃ M', f_X7_nextToken_L34 x y fu M = some M' ∧ M' 88 17 = nI (u_run (fun j => decide (t j = 32)) m p) ∧ u_f 88 17 M M' := by
  intro m
  induction m with
  | zero =>
    intro p fu M h hp hfu h3
    obtain ⟨g, rfl⟩ : ∃ g, fu = g + 1 := ⟨fu - 1, by omega⟩
    have h9 := h.1
    refine ⟨M, ?_, h3, fun _ _ _ => rfl⟩
    rw [f_X7_nextToken_L34, h.2.1, h3, if_pos (nI_le (by omega) (by omega))]
  | succ m ih =>
    intro p fu M h hp hfu h3
    obtain ⟨g, rfl⟩ : ∃ g, fu = g + 1 := ⟨fu - 1, by omega⟩
    have h9 := h.1
    obtain ⟨e1, e2⟩ := h.2.2 p (by omega)
    rw [f_X7_nextToken_L34, h.2.1, h3, if_neg (nI_ge (by omega) (by omega)), q_chkI (by omega) (by omega), q_clamp (by omega), e1, u_run_s]
    by_cases q : t p = 32
    · rw [if_pos (show nI (t p) = (32 : Int32) by rw [q]; rfl), q_let, if_pos (decide_eq_true q), nI_1]
      obtain ⟨M', k1, k2, k3⟩ := ih (p + 1) g (sk_u M 88 17 (nI (p + 1))) (u_tm_f h (by omega) (u_f_u _ _ _ _)) (by omega) (by omega) (by rw [q_ue])
      exact ⟨M', k1, k2, (u_f_u _ _ _ _).trans k3⟩
    · rw [if_neg (show ¬ nI (t p) = (32 : Int32) from fun z => q ((u_eq e2 (by omega : 32 < 256)).mp z)), if_neg (fun z => q (of_decide_eq_true z))]
      exact ⟨M, rfl, h3, fun _ _ _ => rfl⟩
theorem u_L128 {t : Nat → Nat} {n : Nat} {x : Int32} : ∀ (m p fu : Nat) (M : sk_M), u_tm t n M → p + m = n → m < fu → M 88 17 = nI p → ∃ M', f_X7_nextToken_L128 x fu M = some M' ∧ M' 88 17 = nI (u_run (fun j => u_L (t j)) m p) ∧ u_f 88 17 M M' := by
  intro m
  induction m with
  | zero =>
    intro p fu M h hp hfu h3
    obtain ⟨g, rfl⟩ : ∃ g, fu = g + 1 := ⟨fu - 1, by omega⟩
    refine ⟨M, ?_, h3, fun _ _ _ => rfl⟩
    rw [f_X7_nextToken_L128, h3, u_mL0 h (by omega) (by omega), q_b1, if_pos rfl]
  | succ m ih =>
    intro p fu M h hp hfu h3
    obtain ⟨g, rfl⟩ : ∃ g, fu = g + 1 := ⟨fu - 1, by omega⟩
    rw [f_X7_nextToken_L128, h3, u_run_s]
    by_cases q : u_L (t p) = true
    · rw [u_mL1 h (by omega) q, q_b1, if_neg (by decide), q_let, if_pos q, nI_1]
      obtain ⟨M', k1, k2, k3⟩ := ih (p + 1) g (sk_u M 88 17 (nI (p + 1))) (u_tm_f h (by omega) (u_f_u _ _ _ _)) (by omega) (by omega) (by rw [q_ue])
      exact ⟨M', k1, k2, (u_f_u _ _ _ _).trans k3⟩
    · rw [u_mL0 h (by omega) (fun z => q z.2), q_b1, if_pos rfl, if_neg q]
      exact ⟨M, rfl, h3, fun _ _ _ => rfl⟩
/-- digits from j on, read upon s -/
def u_num (t : Nat → Nat) : Nat → Nat → Int32 → Int32
  | 0, _, s => s
  | m + 1, j, s => u_num t m (j + 1) (s * 10 + nI (t j) - 48)
def u_f2 (M M' : sk_M) : Prop := ∀ a b, a ≠ 88 ∨ (b ≠ 17 ∧ b ≠ 19) → M' a b = M a b
theorem u_L214 {t : Nat → Nat} {n q : Nat} {x : Int32} (hn : n ≤ 96) : ∀ (m p fu : Nat) (M : sk_M), u_tm t n M → p + m = n → q ≤ p → m < fu → M 88 16 = nI q → M 88 17 = nI p → ∃ M', f_X7_nextToken_L214 x fu M = some M' ∧ M' 88 17 = nI (u_run (fun j => u_D (t j)) m p) ∧ (u_run (fun j => u_D (t j)) m p ≤ q + 4 → M' 88 19 = u_num t (u_run (fun j => u_D (t j)) m p - p) p (M 88 19)) ∧ u_f2 M M' := by
  intro m
  induction m with
  | zero =>
    intro p fu M h hp hqp hfu h2 h3
    obtain ⟨g, rfl⟩ : ∃ g, fu = g + 1 := ⟨fu - 1, by omega⟩
    refine ⟨M, ?_, h3, fun _ => ?_, fun _ _ _ => rfl⟩
    · rw [f_X7_nextToken_L214, h3, u_mD0 h (by omega) (by omega), q_b1, if_pos rfl]
    · show _ = u_num t (p - p) p _
      rw [Nat.sub_self]; rfl
  | succ m ih =>
    intro p fu M h hp hqp hfu h2 h3
    obtain ⟨g, rfl⟩ : ∃ g, fu = g + 1 := ⟨fu - 1, by omega⟩
    rw [f_X7_nextToken_L214, h3, u_run_s]
    by_cases z : u_D (t p) = true
    · rw [u_mD1 h (by omega) z, q_b1, if_neg (by decide), if_pos z, h2, show nI p - nI q = nI (p - q) from pk_sub hqp]
      have hle := u_run_le (fun j => u_D (t j)) m (p + 1)
      obtain ⟨y1, y2⟩ := h.2.2 p (by omega)
      by_cases z2 : 4 ≤ p - q
      · rw [if_pos (show (4 : Int32) ≤ nI (p - q) from nI_le (a := 4) z2 (by omega)), q_let, q_let]
        have e17 : sk_u M 88 19 (M 88 19) 88 17 = nI p := by rw [q_un (by omega)]; exact h3
        rw [e17, nI_1]
        obtain ⟨M', k1, k2, k3, k4⟩ := ih (p + 1) g (sk_u (sk_u M 88 19 (M 88 19)) 88 17 (nI (p + 1))) (u_tm_f (u_tm_f h (by omega) (u_f_u _ _ _ _)) (by omega) (u_f_u _ _ _ _)) (by omega) (by omega) (by omega) (by rw [q_un (by omega), q_un (by omega)]; exact h2) (by rw [q_ue])
        refine ⟨M', k1, k2, fun y => by omega, fun a b y => by rw [k4 a b y, q_un (by omega), q_un (by omega)]⟩
      · rw [if_neg (show ¬ (4 : Int32) ≤ nI (p - q) from nI_ge (b := 4) (by omega) (by omega)), q_chkI (by omega) (by omega), q_let, q_let, q_clamp (by omega), y1]
        have e17 : ∀ v, sk_u M 88 19 v 88 17 = nI p := fun v => by rw [q_un (by omega)]; exact h3
        rw [e17, nI_1]
        obtain ⟨M', k1, k2, k3, k4⟩ := ih (p + 1) g (sk_u (sk_u M 88 19 (10 * M 88 19 + nI (t p) - 48)) 88 17 (nI (p + 1))) (u_tm_f (u_tm_f h (by omega) (u_f_u _ _ _ _)) (by omega) (u_f_u _ _ _ _)) (by omega) (by omega) (by omega) (by rw [q_un (by omega), q_un (by omega)]; exact h2) (by rw [q_ue])
        refine ⟨M', k1, k2, fun y => ?_, fun a b y => by rw [k4 a b y, q_un (by omega), q_un (by omega)]⟩
        rw [k3 y, q_un (by omega), q_ue]
        obtain ⟨m', hm'⟩ : ∃ m', u_run (fun j => u_D (t j)) m (p + 1) - (p + 1) = m' := ⟨_, rfl⟩
        rw [hm', show u_run (fun j => u_D (t j)) m (p + 1) - p = m' + 1 by omega, Int32.mul_comm 10]
        rfl
    · rw [u_mD0 h (by omega) (fun y => z y.2), q_b1, if_pos rfl, if_neg z]
      refine ⟨M, rfl, h3, fun _ => ?_, fun _ _ _ => rfl⟩
      rw [Nat.sub_self]; rfl
