/-! The whole tape, in both. -/
theorem u_ng0 {t : Nat → Nat} {n : Nat} : ¬ u_gl t n (u_sk t n 0) := by
  intro z
  have h0 := z.1
  have := u_run_all (P := fun j => decide (t j = 32)) (n - 0) 0 (u_sk t n 0 - 1) (by omega) (by show u_sk t n 0 - 1 < u_sk t n 0; omega)
  have e : t (u_sk t n 0 - 1) = 32 := of_decide_eq_true this
  have h3 := z.2.2.2
  rw [e] at h3
  exact absurd h3 (by decide)
def u_M4 (M : sk_M) : sk_M := sk_u (sk_u (sk_u (sk_u M 62 5 (-1)) 62 4 0) 62 7 0) 62 8 0
def u_N8 (A : Nat) (N : sk_M) : sk_M := sk_u (sk_u (sk_u (sk_u (sk_u (sk_u (sk_u N 88 17 0) 88 18 3) 88 21 0) 88 22 0) 88 23 0) 88 25 0) 88 24 (nI A)
theorem u_M4o (M : sk_M) (a b : Nat) (h : a ≠ 62 ∨ (b ≠ 4 ∧ b ≠ 5 ∧ b ≠ 7 ∧ b ≠ 8)) : u_M4 M a b = M a b := by
  unfold u_M4
  rw [q_un (by omega), q_un (by omega), q_un (by omega), q_un (by omega)]
theorem u_N8o (A : Nat) (N : sk_M) (a b : Nat) (h : a ≠ 88 ∨ (b < 16 ∨ 25 < b)) : u_N8 A N a b = N a b := by
  unfold u_N8
  rw [q_un (by omega), q_un (by omega), q_un (by omega), q_un (by omega), q_un (by omega), q_un (by omega), q_un (by omega)]
/-- both begin: the first sign -/
theorem u_begin {t : Nat → Nat} {n A : Nat} {M N : sk_M} (hM : u_tc t n M) (hN : u_tm t n N) (hA : A + 192 ≤ 3109) :
    ∃ M5 N9 q, f_X0_moveOn (u_M4 M) = some M5 ∧ f_X7_nextToken (u_N8 A N) = some N9 ∧ u_B t n A 1 0 0 0 M N q 0 0 M5 N9 ∧ ¬ u_gl t n q ∧ M5 62 3 = nI q ∧ M5 62 4 = nI (u_e t n q) ∧ M5 62 5 = -1 ∧ M5 62 7 = nI 0 ∧ M5 62 8 = nI 0 := by
  have hM4 : u_tc t n (u_M4 M) := u_tc_c hM (u_M4o M 62 2 (by omega)) (funext fun b => u_M4o M 63 b (by omega))
  have hN8 : u_tm t n (u_N8 A N) := u_tm_c hN (u_N8o A N 88 15 (by omega)) (funext fun b => u_N8o A N 102 b (by omega))
  have e4 : u_M4 M 62 4 = nI 0 := by unfold u_M4; rw [q_un (by omega), q_un (by omega), q_ue]; rfl
  have e5 : u_M4 M 62 5 = -1 := by unfold u_M4; rw [q_un (by omega), q_un (by omega), q_un (by omega), q_ue]
  have e7 : u_M4 M 62 7 = nI 0 := by unfold u_M4; rw [q_un (by omega), q_ue]; rfl
  have e8 : u_M4 M 62 8 = nI 0 := by unfold u_M4; rw [q_ue]; rfl
  have d17 : u_N8 A N 88 17 = nI 0 := by unfold u_N8; rw [q_un (by omega), q_un (by omega), q_un (by omega), q_un (by omega), q_un (by omega), q_un (by omega), q_ue]; rfl
  have d18 : u_N8 A N 88 18 = nI 3 := by unfold u_N8; rw [q_un (by omega), q_un (by omega), q_un (by omega), q_un (by omega), q_un (by omega), q_ue]; rfl
  have d21 : u_N8 A N 88 21 = nI 0 := by unfold u_N8; rw [q_un (by omega), q_un (by omega), q_un (by omega), q_un (by omega), q_ue]; rfl
  have d22 : u_N8 A N 88 22 = nI 0 := by unfold u_N8; rw [q_un (by omega), q_un (by omega), q_un (by omega), q_ue]; rfl
  have d23 : u_N8 A N 88 23 = nI 0 := by unfold u_N8; rw [q_un (by omega), q_un (by omega), q_ue]; rfl
  have d25 : u_N8 A N 88 25 = nI 0 := by unfold u_N8; rw [q_un (by omega), q_ue]; rfl
  have d24 : u_N8 A N 88 24 = nI A := by unfold u_N8; rw [q_ue]
  obtain ⟨M', k1, k2, k3, k4, k5, k6⟩ := u_moveC hM4 (Nat.zero_le n) e4 e5
  obtain ⟨N', m1, m2, m3, m4, m5, m6, m7, m8⟩ := u_next hN8 (Nat.zero_le n) d17 d18 ⟨by omega, fun z => absurd z (by omega)⟩
  have hsk := u_sk_b (t := t) (Nat.zero_le n)
  have hng := u_ng0 (t := t) (n := n)
  generalize u_sk t n 0 = q at k2 k3 k4 k5 m2 m3 m4 m5 m6 m7 hsk hng
  have hMo : ∀ o, o ≠ 62 → M' o = M o := fun o z => funext fun j => (k6 o j (Or.inl z)).trans (u_M4o M o j (Or.inl z))
  have hNo : ∀ o, o ≠ 88 → N' o = N o := fun o z => funext fun j => (m8 o j (Or.inl z)).trans (u_N8o A N o j (Or.inl z))
  have h2 : M' 62 2 = M 62 2 := (k6 62 2 (by omega)).trans (u_M4o M 62 2 (by omega))
  refine ⟨M', N', q, k1, m1, ⟨hsk.2, hA, by omega, by omega, by omega, by omega, u_tc_c hM h2 (hMo 63 (by omega)), u_tm_c hN ((m8 88 15 (by omega)).trans (u_N8o A N 88 15 (by omega))) (hNo 102 (by omega)), m2, m3, m4, m5, m6, m7, (m8 88 21 (by omega)).trans d21, (m8 88 22 (by omega)).trans d22, (m8 88 23 (by omega)).trans d23, (m8 88 24 (by omega)).trans d24, (m8 88 25 (by omega)).trans d25, ⟨fun o z _ => hMo o z, h2, fun o z _ => hNo o z, fun b z => (m8 88 b (by omega)).trans (u_N8o A N 88 b (by omega)), fun i _ => by rw [hNo 89 (by omega)]⟩⟩, hng, k2, k3, k5 hng, (k6 62 7 (by omega)).trans e7, (k6 62 8 (by omega)).trans e8⟩
