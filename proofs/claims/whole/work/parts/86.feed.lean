/-! feed. -/
def x_byt (v : Int32) (k : Nat) : Int32 := (v >>> ((24 - (8 * nI k)) &&& 31)) &&& 255
theorem x_255 : ∀ i, i < 32 → 8 ≤ i → (255#32).getLsbD i = false := by decide
theorem x_ush {v y : Int32} {s : Nat} (h1 : ((y.toUInt32 &&& Int32.toUInt32 31).toBitVec % 32).toNat = s) (h2 : ((y &&& 31).toBitVec.smod 32).toNat = s) (hs : s ≤ 24) : sk_ushr v y &&& 255 = (v >>> (y &&& 31)) &&& 255 := by
  apply Int32.toBitVec_inj.mp
  rw [Int32.toBitVec_and, Int32.toBitVec_and, Int32.toBitVec_shiftRight]
  have e1 : (sk_ushr v y).toBitVec = v.toBitVec >>> ((y.toUInt32 &&& Int32.toUInt32 31).toBitVec % 32) := by
    unfold sk_ushr
    rw [UInt32.toBitVec_toInt32, UInt32.toBitVec_shiftRight, Int32.toBitVec_toUInt32]
  rw [e1, BitVec.ushiftRight_eq', BitVec.sshiftRight_eq', h1, h2]
  apply BitVec.eq_of_getLsbD_eq
  intro i hi
  rw [BitVec.getLsbD_and, BitVec.getLsbD_and, show (255 : Int32).toBitVec = 255#32 from rfl]
  by_cases h : 8 ≤ i
  · rw [x_255 i hi h, Bool.and_false, Bool.and_false]
  · rw [BitVec.getLsbD_ushiftRight, BitVec.getLsbD_sshiftRight]
    simp [show s + i < 32 by omega, show ¬ 32 ≤ i by omega]
theorem x_byt_n (v : Int32) (k : Nat) : ∃ b : Nat, b < 256 ∧ x_byt v k = nI b := by
  obtain ⟨j, h1, h2⟩ := pk_andE (v >>> ((24 - (8 * nI k)) &&& 31)) (m := 255) 8 (by decide)
  exact ⟨j, h1, h2⟩
theorem x_tb1 {v a2 : Int32} {n g : Nat} {M : sk_M} (h0 : ¬ a2 < 0) (hn : M 62 2 = nI n) (h96 : n < 96) : f_X0_takeBytes_L3 v (g + 1) a2 M = f_X0_takeBytes_L3 v g (a2 + (-8)) (sk_u (sk_u M 63 n (sk_ushr v a2 &&& 255)) 62 2 (nI (n + 1))) := by
  rw [f_X0_takeBytes_L3, if_neg h0, hn, if_neg (show ¬ (96 : Int32) ≤ nI n from nI_ge (b := 96) (by omega) (by omega)), q_chkI (by omega) (by omega), q_let, q_clamp (by omega), q_let, q_uo (by omega : (62 : Nat) ≠ 63), hn, nI_1]
def x_fed (n m : Nat) (B : Nat → Int32) (o oc j : Nat) (M M' : sk_M) : Prop := (∀ q, q ≠ o → q ≠ oc → M' q = M q) ∧ (∀ i, i ≠ j → M' oc i = M oc i) ∧ M' oc j = nI (n + m) ∧ (∀ i, i < n → M' o i = M o i) ∧ (∀ k, k < m → M' o (n + k) = B k)
theorem x_take {n : Nat} {M : sk_M} (v : Int32) (hn : M 62 2 = nI n) (h96 : n + 4 ≤ 96) : ∃ M', f_X0_takeBytes v M = some M' ∧ x_fed n 4 (x_byt v) 63 62 2 M M' := by
  have b0 : sk_ushr v 24 &&& 255 = x_byt v 0 := x_ush (s := 24) (by decide) (by decide) (by omega)
  have b1 : sk_ushr v 16 &&& 255 = x_byt v 1 := x_ush (s := 16) (by decide) (by decide) (by omega)
  have b2 : sk_ushr v 8 &&& 255 = x_byt v 2 := x_ush (s := 8) (by decide) (by decide) (by omega)
  have b3 : sk_ushr v 0 &&& 255 = x_byt v 3 := x_ush (s := 0) (by decide) (by decide) (by omega)
  let M1 := sk_u (sk_u M 63 n (x_byt v 0)) 62 2 (nI (n + 1))
  let M2 := sk_u (sk_u M1 63 (n + 1) (x_byt v 1)) 62 2 (nI (n + 1 + 1))
  let M3 := sk_u (sk_u M2 63 (n + 1 + 1) (x_byt v 2)) 62 2 (nI (n + 1 + 1 + 1))
  let M4 := sk_u (sk_u M3 63 (n + 1 + 1 + 1) (x_byt v 3)) 62 2 (nI (n + 1 + 1 + 1 + 1))
  refine ⟨M4, ?_, ?_, ?_, ?_, ?_, ?_⟩
  · have hF : sk_FU = 3995 + 1 + 1 + 1 + 1 + 1 := rfl
    rw [f_X0_takeBytes, hF, x_tb1 (by decide) hn (by omega), b0, show (24 : Int32) + (-8) = 16 from by decide]
    rw [x_tb1 (M := M1) (n := n + 1) (by decide) (by show sk_u _ 62 2 _ 62 2 = _; rw [q_ue]) (by omega), b1, show (16 : Int32) + (-8) = 8 from by decide]
    rw [x_tb1 (M := M2) (n := n + 1 + 1) (by decide) (by show sk_u _ 62 2 _ 62 2 = _; rw [q_ue]) (by omega), b2, show (8 : Int32) + (-8) = 0 from by decide]
    rw [x_tb1 (M := M3) (n := n + 1 + 1 + 1) (by decide) (by show sk_u _ 62 2 _ 62 2 = _; rw [q_ue]) (by omega), b3, show (0 : Int32) + (-8) = -8 from by decide]
    rw [f_X0_takeBytes_L3, if_pos (by decide), q_b1]
  · intro q q1 q2
    simp (disch := omega) only [M4, M3, M2, M1, q_uo]
  · intro i hi
    simp (disch := omega) only [M4, M3, M2, M1, q_un]
  · show sk_u _ 62 2 _ 62 2 = _
    rw [q_ue]
  · intro i hi
    simp (disch := omega) only [M4, M3, M2, M1, q_un]
  · intro k hk
    have : k = 0 ∨ k = 1 ∨ k = 2 ∨ k = 3 := by omega
    rcases this with rfl | rfl | rfl | rfl
    · simp (disch := omega) only [M4, M3, M2, M1, q_un, Nat.add_zero, q_ue]
    · simp (disch := omega) only [M4, M3, M2, M1, q_un, q_ue]
    · simp (disch := omega) only [M4, M3, M2, M1, q_un, show n + 2 = n + 1 + 1 by omega, q_ue]
    · simp (disch := omega) only [M4, M3, M2, M1, q_un, show n + 3 = n + 1 + 1 + 1 by omega, q_ue]
def x_b12 (a b c : Int32) (k : Nat) : Int32 := x_byt (if 4 ≤ k then (if 8 ≤ k then c else b) else a) (k % 4)
theorem x_feedL {n : Nat} {M : sk_M} (a b c : Int32) (h96 : n + 12 ≤ 96) : ∀ (m k fu : Nat) (Mk : sk_M), k + m = 12 → m < fu → x_fed n k (x_b12 a b c) 102 88 15 M Mk → ∃ M', f_X7_feed_L18 a b c fu (nI k) Mk = some M' ∧ x_fed n 12 (x_b12 a b c) 102 88 15 M M' := by
  intro m
  induction m with
  | zero =>
    intro k fu Mk hk hfu h
    obtain ⟨g, rfl⟩ : ∃ g, fu = g + 1 := ⟨fu - 1, by omega⟩
    have e : k = 12 := by omega
    subst e
    exact ⟨Mk, by rw [f_X7_feed_L18, if_pos (show (12 : Int32) ≤ nI 12 from nI_le (a := 12) (Nat.le_refl _) (by omega))], h⟩
  | succ m ih =>
    intro k fu Mk hk hfu h
    obtain ⟨g, rfl⟩ : ∃ g, fu = g + 1 := ⟨fu - 1, by omega⟩
    obtain ⟨h1, h2, h3, h4, h5⟩ := h
    have er : nI k - nI k / 4 * 4 = nI (k % 4) := pk_rem (d := 4) (by omega) (by omega) (by omega)
    have ev : (if (4 : Int32) ≤ nI k then (if (8 : Int32) ≤ nI k then c else b) else a) = (if 4 ≤ k then (if 8 ≤ k then c else b) else a) := by
      have e4 : ((4 : Int32) ≤ nI k) ↔ 4 ≤ k := q_le (a := 4) (by omega) (by omega)
      have e8 : ((8 : Int32) ≤ nI k) ↔ 8 ≤ k := q_le (a := 8) (by omega) (by omega)
      simp only [e4, e8]
    rw [f_X7_feed_L18, if_neg (show ¬ (12 : Int32) ≤ nI k from nI_ge (b := 12) (by omega) (by omega)), ev, q_let, h3, q_chkI (by omega) (by omega), q_let, q_clamp (by omega), er, q_let, q_uo (by omega : (88 : Nat) ≠ 102), h3, nI_1, nI_1]
    have := ih (k + 1) g (sk_u (sk_u Mk 102 (n + k) (x_b12 a b c k)) 88 15 (nI (n + k + 1))) (by omega) (by omega) ⟨fun q q1 q2 => by rw [q_uo q2, q_uo q1]; exact h1 q q1 q2, fun i hi => by rw [q_un (Or.inr hi), q_uo (by omega)]; exact h2 i hi, by rw [q_ue]; rfl, fun i hi => by rw [q_uo (by omega), q_un (by omega)]; exact h4 i hi, fun j hj => by
      rw [q_uo (by omega)]
      by_cases e : j = k
      · subst e; rw [q_ue]
      · rw [q_un (by omega)]; exact h5 j (by omega)⟩
    exact this
theorem t_feed (a1 a2 a3 : Int32) : r_st (f_X6_feed a1 a2 a3) (f_X7_feed a1 a2 a3) := by
  intro M hR
  obtain ⟨nS, nC, nW, nT, d, hP⟩ := id hR
  obtain ⟨n, w1, w2, w3, w4⟩ := hP.2.2.2.1
  have e12 : nI n + 12 = nI (n + 12) := nI_add n 12
  by_cases g : n + 12 ≤ 96
  · obtain ⟨Ma, k1, p1, p2, p3, p4, p5⟩ := x_take a1 w2 (by omega)
    obtain ⟨Mb, k2, q1, q2, q3, q4, q5⟩ := x_take (n := n + 4) a2 p3 (by omega)
    obtain ⟨Mc, k3, r1, r2, r3, r4, r5⟩ := x_take (n := n + 4 + 4) a3 q3 (by omega)
    have ho : ∀ q, q ≠ 63 → q ≠ 62 → Mc q = M q := fun q z1 z2 => (r1 q z1 z2).trans ((q1 q z1 z2).trans (p1 q z1 z2))
    have hb : ∀ k, k < 12 → Mc 63 (n + k) = x_b12 a1 a2 a3 k := by
      intro k hk
      unfold x_b12
      by_cases z8 : 8 ≤ k
      · rw [if_pos (by omega), if_pos z8]
        have := r5 (k - 8) (by omega)
        rw [show n + 4 + 4 + (k - 8) = n + k by omega, show k - 8 = k % 4 by omega] at this
        exact this
      · rw [r4 _ (by omega)]
        by_cases z4 : 4 ≤ k
        · rw [if_pos z4, if_neg z8]
          have := q5 (k - 4) (by omega)
          rw [show n + 4 + (k - 4) = n + k by omega, show k - 4 = k % 4 by omega] at this
          exact this
        · rw [if_neg z4, q4 _ (by omega)]
          have := p5 k (by omega)
          rw [show k % 4 = k by omega]
          exact this
    have hold : ∀ j, j < n → Mc 63 j = M 63 j := fun j hj => by rw [r4 j (by omega), q4 j (by omega), p4 j hj]
    obtain ⟨M2, m1, s1, s2, s3, s4, s5⟩ := x_feedL (n := n) (M := Mc) a1 a2 a3 g 12 0 sk_FU Mc (by omega) (by unfold sk_FU; omega) ⟨fun _ _ _ => rfl, fun _ _ => rfl, by rw [ho 88 (by omega) (by omega)]; exact w3, fun _ _ => rfl, fun k hk => by omega⟩
    have h2o : ∀ q, q ≠ 63 → q ≠ 62 → q ≠ 102 → q ≠ 88 → M2 q = M q := fun q z1 z2 z3 z4 => by rw [s1 q z3 z4]; exact ho q z1 z2
    refine ⟨nI (n + 12), Mc, M2, ?_, ?_, nS, nC, nW, nT, d, p_oth hP (fun o z => h2o o (by omega) (by omega) (by omega) (by omega)) (by rw [h2o 0 (by omega) (by omega) (by omega) (by omega)]) (by rw [s2 3 (by omega), ho 88 (by omega) (by omega)]) (r_wait_c (by rw [h2o 0 (by omega) (by omega) (by omega) (by omega)]) (h2o 3 (by omega) (by omega) (by omega) (by omega)) (by rw [s2 31 (by omega), ho 88 (by omega) (by omega)]) (h2o 107 (by omega) (by omega) (by omega) (by omega)) hP.2.2.1) ⟨n + 12, g, ?_, s3, fun j hj => ?_⟩ (r_sh_c (fun o z => h2o o (by omega) (by omega) (by omega) (by omega)) hP.2.2.2.2.1) (r_sl_c (fun o z => h2o o (by omega) (by omega) (by omega) (by omega)) hP.2.2.2.2.2)⟩
    · rw [f_X6_feed, w2, e12, if_pos (show nI (n + 12) ≤ 96 from nI_le (b := 96) g (by omega)), k1, q_b1, k2, q_b1, k3, q_b1, r3]
    · rw [f_X7_feed, ho 88 (by omega) (by omega), w3, e12, if_pos (show nI (n + 12) ≤ 96 from nI_le (b := 96) g (by omega))]
      show sk_b1 (f_X7_feed_L18 a1 a2 a3 sk_FU (nI 0) Mc) _ = _
      rw [m1, q_b1, s3]
    · rw [s1 62 (by omega) (by omega)]; exact r3
    · rw [s1 63 (by omega) (by omega)]
      by_cases z : j < n
      · rw [hold j z, s4 j z, ho 102 (by omega) (by omega)]; exact w4 j z
      · obtain ⟨k, hk, rfl⟩ : ∃ k, k < 12 ∧ j = n + k := ⟨j - n, by omega, by omega⟩
        rw [hb k hk, s5 k hk]
        exact ⟨rfl, x_byt_n _ _⟩
  · refine ⟨-1000000003, M, M, ?_, ?_, hR⟩
    · rw [f_X6_feed, w2, e12, if_neg (show ¬ nI (n + 12) ≤ 96 from nI_ge (a := 96) (by omega) (by omega))]
    · rw [f_X7_feed, w3, e12, if_neg (show ¬ nI (n + 12) ≤ 96 from nI_ge (a := 96) (by omega) (by omega))]
