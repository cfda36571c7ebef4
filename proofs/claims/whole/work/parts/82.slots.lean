/-! mark, copy, lay, ask, item, rest. -/
theorem p_sh {nS nC nW nT d : Nat} {M M' : sk_M} (h : r_p nS nC nW nT d M) (hU : ∀ o, ¬ ((65 ≤ o ∧ o < 88) ∨ (92 ≤ o ∧ o < 100) ∨ o = 106) → M' o = M o) (hs : r_sh M') (hl : r_sl M') : r_p nS nC nW nT d M' :=
  p_oth h (fun o q => hU o (by omega)) (by rw [hU 0 (by omega)]) (by rw [hU 88 (by omega)]) (r_wait_c (by rw [hU 0 (by omega)]) (hU 3 (by omega)) (by rw [hU 88 (by omega)]) (hU 107 (by omega)) h.2.2.1) (r_tape_c (by rw [hU 62 (by omega)]) (hU 63 (by omega)) (by rw [hU 88 (by omega)]) (hU 102 (by omega)) h.2.2.2.1) hs hl
theorem x_i2s (x : Int32) : sk_i2s x = (x <<< ((16 : Int32) &&& 31)) >>> ((16 : Int32) &&& 31) := by
  apply Int32.toBitVec_inj.mp
  unfold sk_i2s
  rw [Int32.toBitVec_shiftRight, Int32.toBitVec_shiftLeft]
  have e16 : (((16 : Int32) &&& 31).toBitVec.smod 32).toNat = 16 := by decide
  have e1 : (x.toInt16.toInt32).toBitVec = (x.toBitVec.signExtend 16).signExtend 32 := rfl
  rw [e1, BitVec.sshiftRight_eq', BitVec.shiftLeft_eq', e16]
  apply BitVec.eq_of_getLsbD_eq
  intro i hi
  rw [BitVec.getLsbD_signExtend, BitVec.getLsbD_sshiftRight]
  by_cases h : i < 16
  · simp [BitVec.getLsbD_signExtend, BitVec.getElem_signExtend, h, hi, show i < 32 by omega, show 16 + i < 32 by omega, show ¬ 32 ≤ i by omega, show ¬ 16 + i < 16 by omega]
  · simp [BitVec.getLsbD_signExtend, BitVec.getElem_signExtend, h, hi, show ¬ 32 ≤ i by omega, show ¬ 16 + i < 32 by omega, BitVec.msb_eq_getLsbD_last]
/-- one place of sheet i is written, both sides -/
theorem p_mark {nS nC nW nT d i k : Nat} {M : sk_M} {v : Int32} (hP : r_p nS nC nW nT d M) (hi : i < 4) (hk : k < 24) : r_p nS nC nW nT d (sk_u (sk_u M (66 + 2 * i) k v) 94 (24 * i + k) v) := by
  have hx : ∀ o, o ≠ 66 + 2 * i → o ≠ 94 → sk_u (sk_u M (66 + 2 * i) k v) 94 (24 * i + k) v o = M o := fun o q1 q2 => by rw [q_uo q2, q_uo q1]
  refine p_sh hP (fun o q => hx o (by omega) (by omega)) ?_ (r_sl_c (fun o q => hx o (by omega) (by omega)) hP.2.2.2.2.2)
  intro i' hi'
  obtain ⟨s1, s2, s3, s4, s5⟩ := hP.2.2.2.2.1 i' hi'
  rw [hx (65 + 2 * i') (by omega) (by omega), hx 92 (by omega) (by omega), hx 93 (by omega) (by omega)]
  refine ⟨s1, s2, s3, s4, fun j hj => ?_⟩
  by_cases e : i' = i ∧ j = k
  · obtain ⟨e1, e2⟩ := e
    subst e1 e2
    rw [q_uo (by omega), q_ue, q_ue]
  · rw [q_uo (by omega : 66 + 2 * i' ≠ 94), q_un (by omega), q_un (by omega), q_uo (by omega)]
    exact s5 j hj
theorem t_mark (a1 a2 a3 : Int32) : r_st (f_X6_mark a1 a2 a3) (f_X7_mark a1 a2 a3) := by
  intro M hR
  obtain ⟨nS, nC, nW, nT, d, hP⟩ := id hR
  by_cases g1 : f_X6_isSheet a1 = 0
  · exact ⟨_, M, M, by rw [f_X6_mark, if_pos g1], by rw [f_X7_mark, g_sheet, if_pos g1], hR⟩
  obtain ⟨i, hi, rfl⟩ := n_sheet g1
  obtain ⟨s1, s2, s3, ⟨n, hn, s4⟩, s5⟩ := hP.2.2.2.2.1 i hi
  by_cases g2 : M 92 i = -1
  · refine ⟨-1000000011, M, M, ?_, ?_, hR⟩
    · rw [f_X6_mark, if_neg g1, q_chkI hi (by omega), q_clamp (by omega), s1, if_pos g2]
    · rw [f_X7_mark, g_sheet, if_neg g1, q_chkI hi (by omega), q_clamp (by omega), g2, if_neg (by decide)]
  have g2' : 0 ≤ M 92 i := by
    rcases s3 with z | z | z
    · exact absurd z g2
    · rw [z]; decide
    · rw [z]; decide
  have hg : ∀ N : sk_M, N 93 i = nI n → f_X7_isIn a2.toInt64 0 ((N 93 i - 1).toInt64) = f_X6_within a2 0 (nI n - 1) := fun N hN => by rw [hN]; exact g_in a2 0 (nI n - 1) (by decide) rfl
  by_cases g3 : f_X6_within a2 0 (nI n - 1) = 0
  · refine ⟨-1000000013, M, M, ?_, ?_, hR⟩
    · rw [f_X6_mark, if_neg g1, q_chkI hi (by omega), q_clamp (by omega), s1, if_neg g2, s2, s4, if_pos g3]
    · rw [f_X7_mark, g_sheet, if_neg g1, q_chkI hi (by omega), q_clamp (by omega), if_pos g2', q_chkI hi (by omega), hg M s4, if_pos g3]
  obtain ⟨k, hk, rfl⟩ := q_wn (a := a2) (n := n) (by omega) g3
  have eo : (65 + 2 * i) + 1 = 66 + 2 * i := by omega
  -- the end of both, where v is written
  have fin : ∀ v : Int32, v = (if M 92 i = 0 then ((a3 <<< ((16 : Int32) &&& 31)) >>> ((16 : Int32) &&& 31)) else a3) → sk_chk (sk_in (nI i) 4) (sk_chk (sk_in ((24 * nI i) + nI k) 96) (sk_let (sk_u (sk_u M (66 + 2 * i) k v) 94 ((24 * nI i) + nI k).toNatClampNeg (if sk_u M (66 + 2 * i) k v 92 (nI i).toNatClampNeg = 0 then ((a3 <<< ((16 : Int32) &&& 31)) >>> ((16 : Int32) &&& 31)) else a3)) (fun M_12 => some ((1 : Int32), M_12)))) = some (1, sk_u (sk_u M (66 + 2 * i) k v) 94 (24 * i + k) v) := by
    intro v hv
    rw [q_chkI hi (by omega), x_24, q_chkI (by omega) (by omega), q_let, q_clamp (by omega), q_clamp (by omega), q_uo (by omega : (92 : Nat) ≠ 66 + 2 * i), ← hv]
  have hN : ∀ v, sk_u M (66 + 2 * i) k v 92 = M 92 ∧ sk_u M (66 + 2 * i) k v 93 = M 93 := fun v => ⟨q_uo (by omega), q_uo (by omega)⟩
  by_cases g4 : M 92 i = 0
  · by_cases g5 : a3 = -1000000005
    · refine ⟨-1000000012, M, M, ?_, ?_, hR⟩
      · rw [f_X6_mark, if_neg g1, q_chkI hi (by omega), q_clamp (by omega), s1, if_neg g2, s2, s4, if_neg g3, if_pos g4, if_pos g5]
      · rw [f_X7_mark, g_sheet, if_neg g1, q_chkI hi (by omega), q_clamp (by omega), if_pos g2', q_chkI hi (by omega), hg M s4, if_neg g3, q_chkI hi (by omega), if_pos g4, if_pos g5, q_s0l]
    · refine ⟨1, sk_u M (66 + 2 * i) k (sk_i2s a3), sk_u (sk_u M (66 + 2 * i) k (sk_i2s a3)) 94 (24 * i + k) (sk_i2s a3), ?_, ?_, nS, nC, nW, nT, d, p_mark hP hi (by omega)⟩
      · rw [f_X6_mark, if_neg g1, q_chkI hi (by omega), q_clamp (by omega), s1, if_neg g2, s2, s4, if_neg g3, if_pos g4, if_neg g5, q_chkI (by omega) (by omega), q_let, q_clamp (by omega), eo]
      · rw [f_X7_mark, g_sheet, if_neg g1, q_chkI hi (by omega), (hN _).1, q_clamp (by omega), if_pos g2', q_chkI hi (by omega), hg _ (by rw [(hN _).2]; exact s4), if_neg g3, q_chkI hi (by omega), if_pos g4, if_neg g5, q_s0r, q_chkI hi (by omega), if_neg (by rw [g4]; decide), q_s0r]
        have := fin (sk_i2s a3) (by rw [if_pos g4]; exact x_i2s a3)
        rw [q_uo (by omega : (92 : Nat) ≠ 66 + 2 * i), q_clamp (by omega : i < 2147483648)] at this
        exact this
  · have g6 : M 92 i = 1 := by rcases s3 with z | z | z; exact absurd z g2; exact absurd z g4; exact z
    by_cases g5 : a3 = -1000000005
    · refine ⟨1, sk_u M (66 + 2 * i) k a3, sk_u (sk_u M (66 + 2 * i) k a3) 94 (24 * i + k) a3, ?_, ?_, nS, nC, nW, nT, d, p_mark hP hi (by omega)⟩
      · rw [f_X6_mark, if_neg g1, q_chkI hi (by omega), q_clamp (by omega), s1, if_neg g2, s2, s4, if_neg g3, if_neg g4, if_pos g5, q_chkI (by omega) (by omega), q_let, q_clamp (by omega), eo]
      · rw [f_X7_mark, g_sheet, if_neg g1, q_chkI hi (by omega), (hN _).1, q_clamp (by omega), if_pos g2', q_chkI hi (by omega), hg _ (by rw [(hN _).2]; exact s4), if_neg g3, q_chkI hi (by omega), if_neg g4, q_s0r, q_chkI hi (by omega), if_pos g6, if_pos g5, q_s0r]
        have := fin a3 (by rw [if_neg g4])
        rw [q_uo (by omega : (92 : Nat) ≠ 66 + 2 * i), q_clamp (by omega : i < 2147483648)] at this
        exact this
    · by_cases g7 : f_X6_within a3 (-99999) 99999 = 0
      · refine ⟨-1000000001, M, M, ?_, ?_, hR⟩
        · rw [f_X6_mark, if_neg g1, q_chkI hi (by omega), q_clamp (by omega), s1, if_neg g2, s2, s4, if_neg g3, if_neg g4, if_neg g5, if_pos g7]
        · rw [f_X7_mark, g_sheet, if_neg g1, q_chkI hi (by omega), q_clamp (by omega), if_pos g2', q_chkI hi (by omega), hg M s4, if_neg g3, q_chkI hi (by omega), if_neg g4, q_s0r, q_chkI hi (by omega), if_pos g6, if_neg g5, g_in a3 (-99999) 99999 (by decide) (by decide), if_pos g7, q_s0l]
      · refine ⟨1, sk_u M (66 + 2 * i) k a3, sk_u (sk_u M (66 + 2 * i) k a3) 94 (24 * i + k) a3, ?_, ?_, nS, nC, nW, nT, d, p_mark hP hi (by omega)⟩
        · rw [f_X6_mark, if_neg g1, q_chkI hi (by omega), q_clamp (by omega), s1, if_neg g2, s2, s4, if_neg g3, if_neg g4, if_neg g5, if_neg g7, q_chkI (by omega) (by omega), q_let, q_clamp (by omega), eo]
        · rw [f_X7_mark, g_sheet, if_neg g1, q_chkI hi (by omega), (hN _).1, q_clamp (by omega), if_pos g2', q_chkI hi (by omega), hg _ (by rw [(hN _).2]; exact s4), if_neg g3, q_chkI hi (by omega), if_neg g4, q_s0r, q_chkI hi (by omega), if_pos g6, if_neg g5, g_in a3 (-99999) 99999 (by decide) (by decide), if_neg g7, q_s0r]
          have := fin a3 (by rw [if_neg g4])
          rw [q_uo (by omega : (92 : Nat) ≠ 66 + 2 * i), q_clamp (by omega : i < 2147483648)] at this
          exact this
-- ask, item, rest
theorem t_ask (a1 a2 : Int32) : r_sr (f_X6_ask a1 a2) (f_X7_ask a1 a2) := by
  intro M hR
  obtain ⟨nS, nC, nW, nT, d, hP⟩ := id hR
  by_cases g1 : f_X6_isSlot a1 = 0
  · exact ⟨_, by rw [f_X6_ask, if_pos g1], by rw [f_X7_ask, g_slot, if_pos g1]⟩
  by_cases g2 : f_X6_isKind a2 = 0
  · have g2' : f_X6_within a2 0 5 = 0 := g2
    exact ⟨_, by rw [f_X6_ask, if_neg g1, if_pos g2], by rw [f_X7_ask, g_slot, if_neg g1, g_in a2 0 5 (by decide) (by decide), if_pos g2']⟩
  have g2' : ¬ f_X6_within a2 0 5 = 0 := g2
  obtain ⟨i, hi, rfl⟩ := n_slot g1
  obtain ⟨u, hu, rfl⟩ := n_kind g2
  obtain ⟨s1, s2, s3, s4, s5⟩ := hP.2.2.2.2.2 i hi
  rw [f_X6_ask, if_neg g1, if_neg g2, f_X7_ask, g_slot, if_neg g1, g_in (nI u) 0 5 (by decide) (by decide), if_neg g2', q_chkI hi (by omega), q_chkI hi (by omega), q_chkI hi (by omega), q_chkI hi (by omega), q_chkI hi (by omega), q_clamp (by omega), s1]
  by_cases e0 : M 95 i = 0
  · exact ⟨_, by rw [if_pos e0], by rw [if_pos e0]⟩
  rw [if_neg e0, if_neg e0]
  by_cases e1 : M 95 i = 1
  · obtain ⟨t1, ⟨v, t2, t3⟩, t4⟩ := s3 e1
    rw [if_pos e1, if_pos e1, t4, t1, t3, t_under t2 hu, q_b1]
    by_cases q : f_X7_isOf (nI v) (nI u) = 0
    · exact ⟨_, by rw [if_pos q], by rw [if_pos q]⟩
    · exact ⟨_, by rw [if_neg q], by rw [if_neg q]⟩
  · exact ⟨_, by rw [if_neg e1], by rw [if_neg e1]⟩
theorem t_item (a1 a2 : Int32) : r_sr (f_X6_item a1 a2) (f_X7_item a1 a2) := by
  intro M hR
  obtain ⟨nS, nC, nW, nT, d, hP⟩ := id hR
  by_cases g1 : f_X6_isSlot a1 = 0
  · exact ⟨_, by rw [f_X6_item, if_pos g1], by rw [f_X7_item, g_slot, if_pos g1]⟩
  obtain ⟨i, hi, rfl⟩ := n_slot g1
  obtain ⟨s1, s2, s3, s4, s5⟩ := hP.2.2.2.2.2 i hi
  rw [f_X6_item, if_neg g1, f_X7_item, g_slot, if_neg g1, q_chkI hi (by omega), q_chkI hi (by omega), q_chkI hi (by omega), q_chkI hi (by omega), q_clamp (by omega), s1]
  by_cases e0 : M 95 i = 0
  · exact ⟨_, by rw [if_pos e0], by rw [if_neg (by rw [e0]; decide), if_pos e0]⟩
  rw [if_neg e0]
  by_cases e2 : M 95 i = 2
  · obtain ⟨t1, ⟨n, t2, t3⟩, t4⟩ := s4 e2
    have eo : (73 + 3 * i) + 1 = 74 + 3 * i := by omega
    have eo2 : (74 + 3 * i) + 1 = 75 + 3 * i := by omega
    rw [if_pos e2, if_pos e2, eo, eo2, t1, t3, g_in a2 0 (nI n - 1) (by decide) rfl]
    by_cases g3 : f_X6_within a2 0 (nI n - 1) = 0
    · exact ⟨_, by rw [if_pos g3], by rw [if_pos g3]⟩
    obtain ⟨k, hk, rfl⟩ := q_wn (a := a2) (n := n) (by omega) g3
    exact ⟨_, by rw [if_neg g3, q_chkI (by omega) (by omega), q_let, q_clamp (by omega)], by rw [if_neg g3, x_24, q_chkI (by omega) (by omega), q_let, q_clamp (by omega), t4 k (by omega)]⟩
  · exact ⟨_, by rw [if_neg e2], by rw [if_neg e2, if_neg e0]⟩
theorem t_rest (a1 a2 : Int32) : r_sr (f_X6_rest a1 a2) (f_X7_rest a1 a2) := by
  intro M hR
  obtain ⟨nS, nC, nW, nT, d, hP⟩ := id hR
  by_cases g1 : f_X6_isSlot a1 = 0
  · exact ⟨_, by rw [f_X6_rest, if_pos g1], by rw [f_X7_rest, g_slot, if_pos g1]⟩
  obtain ⟨i, hi, rfl⟩ := n_slot g1
  obtain ⟨s1, s2, s3, s4, s5⟩ := hP.2.2.2.2.2 i hi
  rw [f_X6_rest, if_neg g1, f_X7_rest, g_slot, if_neg g1, q_chkI hi (by omega), q_chkI hi (by omega), q_chkI hi (by omega), q_chkI hi (by omega), q_clamp (by omega), s1]
  by_cases e0 : M 95 i = 0
  · exact ⟨_, by rw [if_pos e0], by rw [if_neg (by rw [e0]; decide), if_pos e0]⟩
  rw [if_neg e0]
  by_cases e3 : M 95 i = 3
  · rw [if_pos e3, if_pos e3, s5 e3]
    by_cases z : a2 = 0
    · exact ⟨_, by rw [if_pos z], by rw [if_pos z]⟩
    · exact ⟨_, by rw [if_neg z, q_chkD z], by rw [if_neg z, q_chkD z]⟩
  · exact ⟨_, by rw [if_neg e3], by rw [if_neg e3, if_neg e0]⟩
