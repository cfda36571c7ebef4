/-! lasts, whispers, secret. -/
def z_ac (w : Nat) (M0 : sk_M) (nS : Nat) (warm : Int32) (F : Int32 → (Nat → Int32) → Int32) : Nat → (Nat → Int32) → Int32 → Int32 → Int32
  | 0, _, _, a => a
  | m + 1, r, day, a => z_ac w M0 nS warm F m (x_fr w M0 nS r warm day) (day + 1) (F a r)
theorem z_ac_s (w : Nat) (M0 : sk_M) (nS : Nat) (warm : Int32) (F : Int32 → (Nat → Int32) → Int32) (m : Nat) (r : Nat → Int32) (day a : Int32) : z_ac w M0 nS warm F (m + 1) r day a = z_ac w M0 nS warm F m (x_fr w M0 nS r warm day) (day + 1) (F a r) := rfl
def z_la (M0 : sk_M) (nS nW v wd : Nat) : Int32 → (Nat → Int32) → Int32 := fun a r => if x_said (M0 13) (M0 15) r (M0 14 v) nS nW = nI wd then a + 1 else a
theorem x_lastsC {nS nC nT nW v wd n : Nat} {M0 : sk_M} {warm : Int32} (hh : x_ch 10 nS nC nT M0) (h12 : nW ≤ 12) (hw : M0 10 11 = nI nW) (hv : v < 4) (hwd : wd < 12) (hn : n ≤ 200) : ∀ (m i fu : Nat) (r : Nat → Int32) (day a : Int32) (M : sk_M), i + m = n + 1 → m < fu → x_th 6 M0 r warm day M →
    ∃ M', f_X6_lasts_L52 (nI v) (nI wd) (nI n) fu a (nI i) M = some (z_ac 10 M0 nS warm (z_la M0 nS nW v wd) m r day a, M') ∧ ∃ r' day', x_th 6 M0 r' warm day' M' := by
  intro m
  induction m with
  | zero =>
    intro i fu r day a M hi hfu h
    obtain ⟨g, rfl⟩ : ∃ g, fu = g + 1 := ⟨fu - 1, by omega⟩
    refine ⟨M, ?_, r, day, h⟩
    rw [f_X6_lasts_L52, if_pos (nI_lt (by omega) (by omega))]
    rfl
  | succ m ih =>
    intro i fu r day a M hi hfu h
    obtain ⟨g, rfl⟩ : ∃ g, fu = g + 1 := ⟨fu - 1, by omega⟩
    have hs : f_X4_saidTo 6 (nI v) M = some (f_X7_orNone (x_said (M0 13) (M0 15) r (M0 14 v) nS nW)) := x_tsaid (nW := nW) (Or.inl rfl) hh h12 hw hv h
    obtain ⟨M1, g1, g2⟩ := x_tday (Or.inl rfl) hh h
    have hc := x_said_cases (M0 13) (M0 15) r (M0 14 v) nS nW
    rw [f_X6_lasts_L52, if_neg (nI_nlt (by omega) (by omega)), hs, q_b1, z_ac_s, g1, q_b1, q_b1, nI_1]
    have hf : z_la M0 nS nW v wd a r = if x_said (M0 13) (M0 15) r (M0 14 v) nS nW = nI wd then a + 1 else a := rfl
    rw [hf]
    by_cases q : x_said (M0 13) (M0 15) r (M0 14 v) nS nW = nI wd
    · rw [if_pos ((x_orN_eq h12 hwd hc).mpr q), if_pos q]
      exact ih (i + 1) g _ _ _ M1 (by omega) (by omega) g2
    · rw [if_neg (fun z => q ((x_orN_eq h12 hwd hc).mp z)), if_neg q]
      exact ih (i + 1) g _ _ _ M1 (by omega) (by omega) g2
theorem x_lastsM {nS nC nT nW v wd c n : Nat} {M0 : sk_M} {warm : Int32} (hcl : c < nC) (h6 : nC ≤ 6) (hcou : r_cou 10 nT M0) (h12 : nW ≤ 12) (hw : M0 10 11 = nI nW) (hv : v < 4) (hn : n ≤ 200) : ∀ (m i fu : Nat) (r : Nat → Int32) (day a : Int32) (M : sk_M), i + m = n + 1 → m < fu → x_ms 10 nS nC nT M0 c r warm day M →
    ∃ M', f_X7_lasts_L49 (nI c) (nI v) (nI wd) (nI n) fu a (nI i) M = some (z_ac 10 M0 nS warm (z_la M0 nS nW v wd) m r day a, M') ∧ x_o3 M M' ∧ ∃ r' day', x_ms 10 nS nC nT M0 c r' warm day' M' := by
  intro m
  induction m with
  | zero =>
    intro i fu r day a M hi hfu h
    obtain ⟨g, rfl⟩ : ∃ g, fu = g + 1 := ⟨fu - 1, by omega⟩
    refine ⟨M, ?_, fun q _ _ _ => rfl, r, day, h⟩
    rw [f_X7_lasts_L49, if_pos (nI_lt (by omega) (by omega))]
    rfl
  | succ m ih =>
    intro i fu r day a M hi hfu h
    obtain ⟨g, rfl⟩ : ∃ g, fu = g + 1 := ⟨fu - 1, by omega⟩
    have hs : f_X7_saidBy (nI c) (nI v) M = some (x_said (M0 13) (M0 15) r (M0 14 v) nS nW) := x_msaidS (c := c) h12 hw (by omega) hv h
    obtain ⟨M1, g1, g2, g3⟩ := x_mstep hcl hcou h
    have hf : a + (if x_said (M0 13) (M0 15) r (M0 14 v) nS nW = nI wd then 1 else 0) = z_la M0 nS nW v wd a r := by
      unfold z_la
      by_cases q : x_said (M0 13) (M0 15) r (M0 14 v) nS nW = nI wd
      · rw [if_pos q, if_pos q]
      · rw [if_neg q, if_neg q]; simp
    rw [f_X7_lasts_L49, if_neg (nI_nlt (by omega) (by omega)), hs, q_b1, q_let, hf, g1, q_b1, nI_1, z_ac_s]
    obtain ⟨M', k1, k2, k3⟩ := ih (i + 1) g _ _ (z_la M0 nS nW v wd a r) M1 (by omega) (by omega) g3
    exact ⟨M', k1, g2.trans k2, k3⟩
theorem t_lasts (a1 a2 a3 a4 : Int32) : r_st (f_X6_lasts a1 a2 a3 a4) (f_X7_lasts a1 a2 a3 a4) := by
  intro M hR
  obtain ⟨nS, nC, nW, nT, d, hP⟩ := id hR
  obtain ⟨⟨b1, b2, b3, b4, b5⟩, c1, c2, c3, c4, c5⟩ := hP.1.1.1
  have hE := hP.1.2.1
  by_cases g1 : f_X6_isCloth a1 M = 0
  · exact ⟨_, M, M, by rw [f_X6_lasts, if_pos g1], by rw [f_X7_lasts, g_cloth hE, if_pos g1], hR⟩
  by_cases g2 : f_X6_isNose a2 = 0
  · exact ⟨_, M, M, by rw [f_X6_lasts, if_neg g1, if_pos g2], by rw [f_X7_lasts, g_cloth hE, if_neg g1, g_nose, if_pos g2], hR⟩
  by_cases g3 : f_X6_isWord a3 M = 0
  · exact ⟨_, M, M, by rw [f_X6_lasts, if_neg g1, if_neg g2, if_pos g3], by rw [f_X7_lasts, g_cloth hE, if_neg g1, g_nose, if_neg g2, g_word hE, if_pos g3], hR⟩
  by_cases g4 : f_X6_within a4 0 200 = 0
  · exact ⟨_, M, M, by rw [f_X6_lasts, if_neg g1, if_neg g2, if_neg g3, if_pos g4], by rw [f_X7_lasts, g_cloth hE, if_neg g1, g_nose, if_neg g2, g_word hE, if_neg g3, g_in a4 0 200 (by decide) (by decide), if_pos g4], hR⟩
  obtain ⟨c, hc, rfl⟩ := n_cloth c2 b2 g1
  obtain ⟨v, hv, rfl⟩ := n_nose g2
  obtain ⟨wd, hwd, rfl⟩ := n_word c3 b3 g3
  obtain ⟨n, -, hn, rfl⟩ := q_wb (lo := 0) (hi := 200) (by omega) (by omega) g4
  obtain ⟨Ma, k1, k2⟩ := x_begin (o := 6) (Or.inl rfl) (show c < 6 by omega) M
  obtain ⟨M1, k3, r', day', k4⟩ := x_lastsC (v := v) (wd := wd) (p_ch hP) b3 c3 hv (by omega) hn (n + 1) 0 sk_FU _ _ 0 Ma (by omega) (by unfold sk_FU; omega) k2
  obtain ⟨M', m1, m2, r2, day2, m3⟩ := x_lastsM (v := v) (wd := wd) hc b2 hP.1.1.2.2.2 b3 c3 hv hn (n + 1) 0 sk_FU _ _ 0 _ (by omega) (by unfold sk_FU; omega) (x_ms0 hP hc (x_thU k4))
  obtain ⟨M2, z1, z2⟩ := x_end hP (x_thU k4) m2 m3
  have k3' : f_X6_lasts_L52 (nI v) (nI wd) (nI n) sk_FU 0 0 Ma = some (z_ac 10 M nS (M 16 c) (z_la M nS nW v wd) (n + 1) (M (20 + c)) (M 10 14) 0, M1) := k3
  have m1' : f_X7_lasts_L49 (nI c) (nI v) (nI wd) (nI n) sk_FU 0 0 (sk_uA M1 100 (x_cp (M1 89) (M1 100) 109)) = some (z_ac 10 M nS (M 16 c) (z_la M nS nW v wd) (n + 1) (M (20 + c)) (M 10 14) 0, M') := m1
  refine ⟨_, M1, M2, by rw [f_X6_lasts, if_neg g1, if_neg g2, if_neg g3, if_neg g4, k1, q_b1, k3', q_b2], ?_, nS, nC, nW, nT, d, z2⟩
  rw [f_X7_lasts, g_cloth1 (M := M) (by rw [x_thU k4 89 (by omega) (by omega) (by omega)]; exact hE 1 (by omega)), if_neg g1, g_nose, if_neg g2, g_word1 (M := M) (by rw [x_thU k4 89 (by omega) (by omega) (by omega)]; exact hE 2 (by omega)), if_neg g3, g_in (nI n) 0 200 (by decide) (by decide), if_neg g4, x_by, q_b1, m1', q_b2, z1, q_b1]
-- whispers
def z_wh (M0 : sk_M) (nS nW v : Nat) : Int32 → (Nat → Int32) → Int32 := fun a r => if x_said (M0 13) (M0 15) r (M0 14 v) nS nW = -1 then a else a ||| (1 <<< (x_said (M0 13) (M0 15) r (M0 14 v) nS nW &&& 31))
theorem x_or_n {s t : Nat} (hs : s < 4096) (ht : t < 4096) : ∃ u, u < 4096 ∧ nI s ||| nI t = nI u := by
  refine ⟨s ||| t, Nat.or_lt_two_pow (n := 12) (by omega) (by omega), ?_⟩
  apply Int32.toBitVec_inj.mp
  rw [Int32.toBitVec_or]
  apply BitVec.eq_of_toNat_eq
  rw [BitVec.toNat_or, pk_tn (by omega), pk_tn (by omega), pk_tn]
  have := Nat.or_lt_two_pow (n := 12) (x := s) (y := t) (by omega) (by omega)
  omega
theorem x_shl1 : ∀ j, j < 12 → (1 : Int32) <<< (nI j &&& 31) = nI (2 ^ j) := by decide +kernel
theorem z_wh_n {w : Nat} {M0 : sk_M} {nS nW v : Nat} {warm : Int32} (h12 : nW ≤ 12) : ∀ (m : Nat) (r : Nat → Int32) (day a : Int32), (∃ s, s < 4096 ∧ a = nI s) → ∃ s, s < 4096 ∧ z_ac w M0 nS warm (z_wh M0 nS nW v) m r day a = nI s := by
  intro m
  induction m with
  | zero => intro r day a h; exact h
  | succ m ih =>
    intro r day a h
    rw [z_ac_s]
    apply ih
    unfold z_wh
    obtain ⟨s, hs, rfl⟩ := h
    rcases x_said_cases (M0 13) (M0 15) r (M0 14 v) nS nW with q | ⟨i, hi, q⟩
    · rw [if_pos q]; exact ⟨s, hs, rfl⟩
    · rw [if_neg (by rw [q]; exact x_nm1 (by omega)), q, x_shl1 i (by omega)]
      exact x_or_n hs (by
        have : 2 ^ i ≤ 2 ^ 11 := Nat.pow_le_pow_right (by omega) (by omega)
        omega)
theorem x_whisC {nS nC nT nW v n : Nat} {M0 : sk_M} {warm : Int32} (hh : x_ch 10 nS nC nT M0) (h12 : nW ≤ 12) (hw : M0 10 11 = nI nW) (hv : v < 4) (hn : n ≤ 200) : ∀ (m i fu : Nat) (r : Nat → Int32) (day a : Int32) (M : sk_M), i + m = n + 1 → m < fu → x_th 6 M0 r warm day M →
    ∃ M', f_X6_whispers_L43 (nI v) (nI n) fu a (nI i) M = some (z_ac 10 M0 nS warm (z_wh M0 nS nW v) m r day a, M') ∧ ∃ r' day', x_th 6 M0 r' warm day' M' := by
  intro m
  induction m with
  | zero =>
    intro i fu r day a M hi hfu h
    obtain ⟨g, rfl⟩ : ∃ g, fu = g + 1 := ⟨fu - 1, by omega⟩
    refine ⟨M, ?_, r, day, h⟩
    rw [f_X6_whispers_L43, if_pos (nI_lt (by omega) (by omega))]
    rfl
  | succ m ih =>
    intro i fu r day a M hi hfu h
    obtain ⟨g, rfl⟩ : ∃ g, fu = g + 1 := ⟨fu - 1, by omega⟩
    have hs : f_X4_saidTo 6 (nI v) M = some (f_X7_orNone (x_said (M0 13) (M0 15) r (M0 14 v) nS nW)) := x_tsaid (nW := nW) (Or.inl rfl) hh h12 hw hv h
    obtain ⟨M1, g1, g2⟩ := x_tday (Or.inl rfl) hh h
    have hc := x_said_cases (M0 13) (M0 15) r (M0 14 v) nS nW
    rw [f_X6_whispers_L43, if_neg (nI_nlt (by omega) (by omega)), hs, q_b1, z_ac_s, g1, q_b1, q_let, q_b1, nI_1]
    have hf : z_wh M0 nS nW v a r = if x_said (M0 13) (M0 15) r (M0 14 v) nS nW = -1 then a else a ||| (1 <<< (x_said (M0 13) (M0 15) r (M0 14 v) nS nW &&& 31)) := rfl
    rw [hf]
    rcases hc with q | ⟨j, hj, q⟩
    · rw [q, if_pos (by decide), if_pos rfl]
      exact ih (i + 1) g _ _ _ M1 (by omega) (by omega) g2
    · rw [q, x_orN (by omega), if_neg (x_nN (by omega)), if_neg (x_nm1 (by omega))]
      exact ih (i + 1) g _ _ _ M1 (by omega) (by omega) g2
theorem x_whisM {nS nC nT nW v c n : Nat} {M0 : sk_M} {warm : Int32} (hcl : c < nC) (h6 : nC ≤ 6) (hcou : r_cou 10 nT M0) (h12 : nW ≤ 12) (hw : M0 10 11 = nI nW) (hv : v < 4) (hn : n ≤ 200) : ∀ (m i fu : Nat) (r : Nat → Int32) (day a : Int32) (M : sk_M), i + m = n + 1 → m < fu → x_ms 10 nS nC nT M0 c r warm day M →
    ∃ M', f_X7_whispers_L40 (nI c) (nI v) (nI n) fu a (nI i) M = some (z_ac 10 M0 nS warm (z_wh M0 nS nW v) m r day a, M') ∧ x_o3 M M' ∧ ∃ r' day', x_ms 10 nS nC nT M0 c r' warm day' M' := by
  intro m
  induction m with
  | zero =>
    intro i fu r day a M hi hfu h
    obtain ⟨g, rfl⟩ : ∃ g, fu = g + 1 := ⟨fu - 1, by omega⟩
    refine ⟨M, ?_, fun q _ _ _ => rfl, r, day, h⟩
    rw [f_X7_whispers_L40, if_pos (nI_lt (by omega) (by omega))]
    rfl
  | succ m ih =>
    intro i fu r day a M hi hfu h
    obtain ⟨g, rfl⟩ : ∃ g, fu = g + 1 := ⟨fu - 1, by omega⟩
    have hs : f_X7_saidBy (nI c) (nI v) M = some (x_said (M0 13) (M0 15) r (M0 14 v) nS nW) := x_msaidS (c := c) h12 hw (by omega) hv h
    obtain ⟨M1, g1, g2, g3⟩ := x_mstep hcl hcou h
    have hf : a ||| (if 0 ≤ x_said (M0 13) (M0 15) r (M0 14 v) nS nW then (1 <<< (x_said (M0 13) (M0 15) r (M0 14 v) nS nW &&& 31)) else 0) = z_wh M0 nS nW v a r := by
      unfold z_wh
      rcases x_said_cases (M0 13) (M0 15) r (M0 14 v) nS nW with q | ⟨j, hj, q⟩
      · rw [q, if_neg (by decide), if_pos rfl, x_or0]
      · rw [q, if_pos (nI_pos' (by omega)), if_neg (x_nm1 (by omega))]
    rw [f_X7_whispers_L40, if_neg (nI_nlt (by omega) (by omega)), hs, q_b1, q_let, hf, g1, q_b1, nI_1, z_ac_s]
    obtain ⟨M', k1, k2, k3⟩ := ih (i + 1) g _ _ (z_wh M0 nS nW v a r) M1 (by omega) (by omega) g3
    exact ⟨M', k1, g2.trans k2, k3⟩
theorem t_onesM (a0 : Int32) (M : sk_M) : f_X7_ones a0 M = f_X7_ones a0 (fun _ _ => 0) := by
  have key : ∀ (n : Nat) (x y : Int32), f_X7_ones_L4 a0 M n x y = f_X7_ones_L4 a0 (fun _ _ => 0) n x y := by
    intro n
    induction n with
    | zero => intro x y; rfl
    | succ n ih =>
      intro x y
      rw [f_X7_ones_L4, f_X7_ones_L4]
      simp only [q_let, ih]
  unfold f_X7_ones
  rw [key]
