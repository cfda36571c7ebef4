/-! text: where the steps lie, and the tape out of the relation. -/
def u_A (nT : Nat) : Nat := if nT = 14 then 2909 else 113 + 200 * nT
theorem u_A_b {nT : Nat} (h : nT ≤ 14) : u_A nT + 192 ≤ 3109 ∧ 109 + 200 * nT ≤ u_A nT := by
  unfold u_A
  by_cases z : nT = 14
  · rw [if_pos z]; omega
  · rw [if_neg z]; omega
theorem u_A_e {nT : Nat} (h : nT ≤ 14) : (if (14 : Int32) ≤ nI nT then (2909 : Int32) else f_X7_textAt (nI nT) + 4) = nI (u_A nT) := by
  unfold u_A f_X7_textAt
  by_cases z : nT = 14
  · rw [if_pos z, if_pos (show (14 : Int32) ≤ nI nT from nI_le (a := 14) (by omega) (by omega))]
    rfl
  · rw [if_neg z, if_neg (show ¬ (14 : Int32) ≤ nI nT from nI_ge (b := 14) (by omega) (by omega)), show (200 : Int32) * nI nT = nI (200 * nT) from pk_mul 200 nT, show (109 : Int32) + nI (200 * nT) = nI (109 + 200 * nT) from nI_add 109 _, show nI (109 + 200 * nT) + (4 : Int32) = nI (109 + 200 * nT + 4) from nI_add _ 4]
    congr 1
    omega
theorem u_tp {M N : sk_M} (h : r_tape M) (e88 : N 88 15 = M 88 15) (e102 : N 102 = M 102) : ∃ t n, u_tc t n M ∧ u_tm t n N := by
  obtain ⟨n, h1, h2, h3, h4⟩ := h
  refine ⟨fun j => (M 102 j).toNatClampNeg, n, ⟨h1, h2, fun j hj => ?_⟩, ⟨h1, e88.trans h3, fun j hj => ?_⟩⟩
  · obtain ⟨a, v, v1, v2⟩ := h4 j hj
    show M 63 j = nI (M 102 j).toNatClampNeg ∧ (M 102 j).toNatClampNeg < 256
    rw [a, v2, q_clamp (by omega)]
    exact ⟨rfl, v1⟩
  · obtain ⟨a, v, v1, v2⟩ := h4 j hj
    show N 102 j = nI (M 102 j).toNatClampNeg ∧ (M 102 j).toNatClampNeg < 256
    rw [e102, v2, q_clamp (by omega)]
    exact ⟨rfl, v1⟩
