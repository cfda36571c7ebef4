/-! word, touch, pour. -/
theorem x_wordOk : ∀ n, n < 10 → ∀ j, j < 2 ^ n → nI j &&& (((1 <<< (nI n &&& 31)) - 1) ^^^ (-1)) = 0 := by decide +kernel
theorem x_wordM : ∀ n, n < 10 → (1 : Int32) <<< (nI n &&& 31) - 1 = nI (2 ^ n - 1) := by decide +kernel
theorem x_wordB : ∀ n, n < 10 → (nI (2 ^ n - 1)).toBitVec.toNat = 2 ^ n - 1 := by decide +kernel
theorem x_andself {a m : Int32} (h : a &&& (m ^^^ (-1)) = 0) : a &&& m = a := by
  have hb := congrArg Int32.toBitVec h
  rw [Int32.toBitVec_and, Int32.toBitVec_xor] at hb
  apply Int32.toBitVec_inj.mp
  rw [Int32.toBitVec_and]
  apply BitVec.eq_of_getLsbD_eq
  intro i hi
  have hc := congrArg (fun b => BitVec.getLsbD b i) hb
  rw [show (-1 : Int32).toBitVec = BitVec.allOnes 32 from rfl, show (0 : Int32).toBitVec = 0#32 from rfl] at hc
  simp only [BitVec.getLsbD_and, BitVec.getLsbD_xor, BitVec.getLsbD_allOnes, BitVec.getLsbD_zero, hi, decide_true] at hc
  rw [BitVec.getLsbD_and]
  cases h1 : a.toBitVec.getLsbD i
  · rfl
  · rw [h1] at hc
    cases h2 : m.toBitVec.getLsbD i
    · rw [h2] at hc; exact absurd hc (by decide)
    · rfl
theorem x_word {n : Nat} (hn : n ≤ 9) (a : Int32) : (f_X6_within a 1 (nI (2 ^ n - 1)) = 0) ↔ (a = 0 ∨ ¬ a &&& ((nI (2 ^ n - 1)) ^^^ (-1)) = 0) := by
  have hp : 2 ^ n ≤ 2 ^ 9 := Nat.pow_le_pow_right (by omega) hn
  have hp1 : 1 ≤ 2 ^ n := Nat.one_le_two_pow
  constructor
  · intro h
    rcases Decidable.em (a = 0) with q | q
    · exact Or.inl q
    · right
      intro h2
      have h3 := x_andself h2
      rw [pk_and a n (x_wordB n (by omega))] at h3
      have hlt : a.toBitVec.toNat % 2 ^ n < 2 ^ n := Nat.mod_lt _ (by omega)
      generalize a.toBitVec.toNat % 2 ^ n = j at h3 hlt
      subst h3
      have hj0 : j ≠ 0 := fun e => q (by rw [e]; rfl)
      rw [q_wi, if_pos] at h
      · exact absurd h (by decide)
      · rw [q_toI (by omega), q_toI (by omega), show (1 : Int32).toInt = 1 from rfl]
        omega
  · intro h
    rcases Decidable.em (f_X6_within a 1 (nI (2 ^ n - 1)) = 0) with q | q
    · exact q
    · exfalso
      obtain ⟨j, j1, j2, rfl⟩ := q_wb (lo := 1) (hi := 2 ^ n - 1) (by omega) (by omega) q
      rcases h with h | h
      · exact nI_ne0 (by omega) (by omega) h
      · apply h
        have := x_wordOk n (by omega) j (by omega)
        rw [x_wordM n (by omega)] at this
        exact this
theorem t_word (a1 : Int32) : r_st (f_X6_word a1) (f_X7_word a1) := by
  intro M hR
  obtain ⟨nS, nC, nW, nT, d, hP⟩ := id hR
  have hI := hP.1.1
  have hE := hP.1.2.1
  obtain ⟨⟨⟨b1, b2, b3, b4, b5⟩, c1, c2, c3, c4, c5⟩, hrng, hzero, hcou⟩ := id hI
  have e0 : M 89 0 = nI nS := (hE 0 (by omega)).trans c1
  have e2 : M 89 2 = nI nW := (hE 2 (by omega)).trans c3
  have hx := x_word b1 a1
  have hg : ∀ N : sk_M, N 89 0 = nI nS → f_X7_isIn a1.toInt64 1 (((1 : Int32) <<< (N 89 0 &&& 31) - 1).toInt64) = f_X6_within a1 1 (nI (2 ^ nS - 1)) := fun N hN => by
    rw [hN, x_wordM nS (by omega)]; exact g_in a1 1 (nI (2 ^ nS - 1)) (by decide) rfl
  by_cases g1 : f_X6_within a1 1 (nI (2 ^ nS - 1)) = 0
  · refine ⟨-1000000001, M, M, ?_, ?_, hR⟩
    · rw [f_X6_word, q_let, c1, x_wordM nS (by omega)]
      rcases hx.mp g1 with q | q
      · rw [if_pos q]
      · by_cases q0 : a1 = 0
        · rw [if_pos q0]
        · rw [if_neg q0, if_neg q]
    · rw [f_X7_word, hg M e0, if_pos g1]
  have q0 : ¬ a1 = 0 := fun q => g1 (hx.mpr (Or.inl q))
  have q1 : a1 &&& ((nI (2 ^ nS - 1)) ^^^ (-1)) = 0 := by
    rcases Decidable.em (a1 &&& ((nI (2 ^ nS - 1)) ^^^ (-1)) = 0) with q | q
    · exact q
    · exact absurd (hx.mpr (Or.inr q)) g1
  by_cases g2 : nW = 12
  · subst g2
    refine ⟨-1000000003, M, M, ?_, ?_, hR⟩
    · rw [f_X6_word, q_let, c1, x_wordM nS (by omega), if_neg q0, if_pos q1, c3, if_neg (by decide)]
    · rw [f_X7_word, hg M e0, if_neg g1, e2, if_pos (by decide)]
  have hw : nW < 12 := by omega
  have hr := r_w_word hw a1 hE
  obtain ⟨t1, t2⟩ := r_rest (M' := sk_u (sk_u M 15 nW a1) 89 (97 + nW) a1) b4 (fun o ho => by unfold r_keep at ho; rw [q_uo (by omega), q_uo (by omega)]) (fun j hj => by rw [q_un (by omega), q_uo (by omega)]) hP.1.2.2 hP.2
  have hI1 : r_inv 10 nS nC nW nT d (sk_u (sk_u M 15 nW a1) 89 (97 + nW) a1) := r_inv_ex (x := 15) hI (fun o q1 q2 q3 q4 q5 => by rw [q_uo (by omega), q_uo q3]) (by rw [q_uo (by omega), q_uo (by omega)]) (by unfold r_cnt; rw [q_uo (by omega), q_uo (by omega)]; exact hI.1) (Nat.le_refl _) (Nat.le_refl _) rfl (fun e => by omega) (fun e => by omega) (fun e => by omega) (fun e => by omega) (fun e => by omega) (by omega) (fun c hc e => by omega)
  have h3 := p_cnt (p := 2) (v := nI (nW + 1)) (nS' := nS) (nC' := nC) (nW' := nW + 1) (d' := d) ⟨⟨hI1, hr, t1⟩, t2⟩ (by omega) (by omega) ⟨⟨b1, b2, by omega, b4, b5⟩, by
    show sk_u _ 10 11 _ 10 10 = _
    rw [q_un (by omega), q_uo (by omega), q_uo (by omega)]; exact c1, by
    show sk_u _ 10 11 _ 10 12 = _
    rw [q_un (by omega), q_uo (by omega), q_uo (by omega)]; exact c2, by
    show sk_u _ 10 11 _ 10 11 = _
    rw [q_ue], by
    show sk_u _ 10 11 _ 10 13 = _
    rw [q_un (by omega), q_uo (by omega), q_uo (by omega)]; exact c4, by
    show sk_u _ 10 11 _ 10 14 = _
    rw [q_un (by omega), q_uo (by omega), q_uo (by omega)]; exact c5⟩ (Nat.le_refl _) (Nat.le_refl _)
  refine ⟨nI nW, sk_u (sk_u M 15 nW a1) 10 11 (nI (nW + 1)), sk_u (sk_u (sk_u (sk_u M 15 nW a1) 10 11 (nI (nW + 1))) 89 (97 + nW) a1) 89 2 (nI (nW + 1)), ?_, ?_, nS, nC, nW + 1, nT, d, ?_⟩
  · rw [f_X6_word, q_let, c1, x_wordM nS (by omega), if_neg q0, if_pos q1, c3, if_pos (show nI nW < 12 from nI_lt (b := 12) hw (by omega)), q_chkI (by omega) (by omega), q_let, q_clamp (by omega), q_let, q_uo (by omega : (10 : Nat) ≠ 15), c3, nI_1, q_ue, nI_pred]
  · have z0 : sk_u (sk_u M 15 nW a1) 10 11 (nI (nW + 1)) 89 = M 89 := by rw [q_uo (by omega), q_uo (by omega)]
    rw [f_X7_word, hg _ (by rw [z0]; exact e0), if_neg g1, z0, e2, if_neg (show ¬ nI nW = 12 from fun q => g2 ((q_eq (b := 12) (by omega) (by omega)).mp q)), show (97 : Int32) + nI nW = nI (97 + nW) from nI_add 97 nW, q_chkI (by omega) (by omega), q_let, q_clamp (by omega), q_let, q_un (by omega : (89 : Nat) ≠ 89 ∨ 2 ≠ 97 + nW), z0, e2, nI_1, q_ue, nI_pred]
  · have e : sk_u (sk_u (sk_u M 15 nW a1) 10 11 (nI (nW + 1))) 89 (97 + nW) a1 = sk_u (sk_u (sk_u M 15 nW a1) 89 (97 + nW) a1) 10 11 (nI (nW + 1)) := q_ucom (by omega)
    rw [e]; exact h3
-- touch
theorem x_half2 {a b : Nat} (ha : a ≤ 999) (hb : b ≤ 999) : (nI a + nI b) / 2 = nI ((a + b) / 2) := by rw [nI_add]; exact x_half (by omega)
theorem x_putS {c k : Nat} (hc : c < 6) (hk : k < 9) (v : Int32) (M : sk_M) : f_X5_putSpot 10 (nI c) (nI k) v M = some (if M (20 + c) k = v then 0 else 1, sk_u M (20 + c) k v) := by
  rw [f_X5_putSpot, q_chkI hc (by omega), q_chkI hk (by omega), q_let, q_chkI hc (by omega), q_chkI hk (by omega), q_let, q_clamp (by omega), q_clamp (by omega)]
set_option maxHeartbeats 1000000 in
theorem x_touchL {nS nC nW nT d c o : Nat} (hc : c < nC) (ho : o < nC) (hco : c ≠ o) : ∀ (m k : Nat) (s : Int32) (M : sk_M), k + m = nS → r_p nS nC nW nT d M →
    ∃ r A B T', (∀ (N : sk_M) (fu : Nat), m < fu → (∀ q, q < 88 → N q = M q) → f_X6_touch_L29 (nI c) (nI o) fu s (nI k) N = some (r, sk_uA (sk_uA N (20 + c) A) (20 + o) B)) ∧
      (∀ (N : sk_M) (fu : Nat), m < fu → N 89 = M 89 → f_X7_touch_L29 (nI c) (nI o) fu s (nI k) N = some (r, sk_uA N 89 T')) ∧ r_p nS nC nW nT d (sk_uA (sk_uA (sk_uA M (20 + c) A) (20 + o) B) 89 T') := by
  intro m
  induction m with
  | zero =>
    intro k s M hk hP
    obtain ⟨⟨b1, b2, b3, b4, b5⟩, c1, c2, c3, c4, c5⟩ := hP.1.1.1
    have e0 : M 89 0 = nI nS := (hP.1.2.1 0 (by omega)).trans c1
    refine ⟨s, M (20 + c), M (20 + o), M 89, ?_, ?_, ?_⟩
    · intro N fu hfu hN
      obtain ⟨g, rfl⟩ : ∃ g, fu = g + 1 := ⟨fu - 1, by omega⟩
      rw [f_X6_touch_L29, hN 10 (by omega), c1, if_pos (nI_le (by omega) (by omega)), ← hN (20 + c) (by omega), ← hN (20 + o) (by omega), x_uA_id, x_uA_id]
    · intro N fu hfu hN
      obtain ⟨g, rfl⟩ : ∃ g, fu = g + 1 := ⟨fu - 1, by omega⟩
      rw [f_X7_touch_L29, hN, e0, if_pos (nI_le (by omega) (by omega)), ← hN, x_uA_id]
    · rw [x_uA_id, x_uA_id, x_uA_id]; exact hP
  | succ m ih =>
    intro k s M hk hP
    obtain ⟨⟨b1, b2, b3, b4, b5⟩, c1, c2, c3, c4, c5⟩ := hP.1.1.1
    have hE := hP.1.2.1
    have e0 : M 89 0 = nI nS := (hE 0 (by omega)).trans c1
    obtain ⟨x, x1, x2⟩ := hP.1.1.2.1.2.2.2.2 c (by omega) k (by omega)
    obtain ⟨y, y1, y2⟩ := hP.1.1.2.1.2.2.2.2 o (by omega) k (by omega)
    have x1' : M (20 + c) k = nI x := x1
    have y1' : M (20 + o) k = nI y := y1
    have fx : M 89 (43 + 9 * c + k) = nI x := ((r_eq_fix hE).2.2 c (by omega) k (by omega)).trans x1
    have fy : M 89 (43 + 9 * o + k) = nI y := ((r_eq_fix hE).2.2 o (by omega) k (by omega)).trans y1
    have hP1 := p_spot (k := k) (u := (x + y) / 2) hP hc (by omega) (by omega)
    have hP2 := p_spot (k := k) (u := (x + y) / 2) hP1 ho (by omega) (by omega)
    generalize hh : nI ((x + y) / 2) = h at hP1 hP2
    obtain ⟨r, A, B, T', k1, k2, k3⟩ := ih (k + 1) (s + ((if nI x = h then 0 else 1) + (if nI y = h then 0 else 1))) _ (by omega) hP2
    refine ⟨r, A, B, T', ?_, ?_, ?_⟩
    · intro N fu hfu hN
      obtain ⟨g, rfl⟩ : ∃ g, fu = g + 1 := ⟨fu - 1, by omega⟩
      rw [f_X6_touch_L29, hN 10 (by omega), c1, if_neg (nI_ge (by omega) (by omega)), q_chkI (by omega) (by omega), q_chkI (by omega) (by omega), q_chkI (by omega) (by omega), q_chkI (by omega) (by omega), q_clamp (by omega), q_clamp (by omega), q_clamp (by omega), hN (20 + c) (by omega), hN (20 + o) (by omega), x1', y1', x_half2 x2 y2, hh, q_let, x_putS (by omega) (by omega), q_b2, x_putS (by omega) (by omega), q_b2, q_let, hN (20 + c) (by omega), x1', q_uo (by omega : 20 + o ≠ 20 + c), hN (20 + o) (by omega), y1', nI_1]
      rw [k1 _ g (by omega) (by
        intro q hq
        rw [q_uo (by omega : q ≠ 89)]
        by_cases z1 : q = 20 + o
        · subst z1
          rw [q_us, q_us, q_uo (by omega : 20 + o ≠ 20 + c), q_uo (by omega : 20 + o ≠ 89), q_uo (by omega : 20 + o ≠ 20 + c), hN (20 + o) (by omega)]
        · rw [q_uo z1, q_uo z1, q_uo (by omega : q ≠ 89)]
          by_cases z2 : q = 20 + c
          · subst z2; rw [q_us, q_us, hN (20 + c) (by omega)]
          · rw [q_uo z2, q_uo z2]; exact hN q hq)]
      congr 2
      funext q
      simp only [sk_u, sk_uA]
      by_cases z1 : q = 20 + o
      · subst z1; simp
      · by_cases z2 : q = 20 + c
        · subst z2; simp
        · simp [z1, z2]
    · intro N fu hfu hN
      obtain ⟨g, rfl⟩ : ∃ g, fu = g + 1 := ⟨fu - 1, by omega⟩
      rw [f_X7_touch_L29, hN, e0, if_neg (nI_ge (by omega) (by omega)), x_on (by omega) (by omega), q_b1, x_on (by omega) (by omega), q_b1, hN, fx, fy, x_half2 x2 y2, hh, q_let, x_ix, x_bec (by omega), q_b2, q_let, x_ix, x_bec (by omega), q_b2, q_let, hN, fx, q_un (by omega : (89 : Nat) ≠ 89 ∨ 43 + 9 * o + k ≠ 43 + 9 * c + k), hN, fy, nI_1, Int32.add_assoc]
      rw [k2 _ g (by omega) (by
        rw [q_us, q_us, hN, q_us, q_uo (by omega), q_us, q_uo (by omega)])]
      congr 2
      unfold sk_u
      rw [x_uA2, x_uA2]
    · have e : sk_uA (sk_uA (sk_uA (sk_u (sk_u (sk_u (sk_u M (20 + c) k h) 89 (43 + 9 * c + k) h) (20 + o) k h) 89 (43 + 9 * o + k) h) (20 + c) A) (20 + o) B) 89 T' = sk_uA (sk_uA (sk_uA M (20 + c) A) (20 + o) B) 89 T' := by
        funext q
        simp only [sk_u, sk_uA]
        by_cases z0 : q = 89
        · subst z0; simp
        · by_cases z1 : q = 20 + o
          · subst z1; simp
          · by_cases z2 : q = 20 + c
            · subst z2; simp
            · simp [z0, z1, z2]
      rw [← e]
      exact k3
theorem t_touch (a1 a2 : Int32) : r_st (f_X6_touch a1 a2) (f_X7_touch a1 a2) := by
  intro M hR
  obtain ⟨nS, nC, nW, nT, d, hP⟩ := id hR
  obtain ⟨⟨b1, b2, b3, b4, b5⟩, c1, c2, c3, c4, c5⟩ := hP.1.1.1
  have hE := hP.1.2.1
  by_cases g1 : f_X6_isCloth a1 M = 0
  · exact ⟨_, M, M, by rw [f_X6_touch, if_pos g1], by rw [f_X7_touch, g_cloth hE, if_pos g1], hR⟩
  by_cases g2 : f_X6_isCloth a2 M = 0
  · exact ⟨_, M, M, by rw [f_X6_touch, if_neg g1, if_pos g2], by rw [f_X7_touch, g_cloth hE, if_neg g1, g_cloth hE, if_pos g2], hR⟩
  by_cases g3 : a1 = a2
  · exact ⟨_, M, M, by rw [f_X6_touch, if_neg g1, if_neg g2, if_pos g3], by rw [f_X7_touch, g_cloth hE, if_neg g1, g_cloth hE, if_neg g2, if_pos g3], hR⟩
  obtain ⟨c, hc, rfl⟩ := n_cloth c2 b2 g1
  obtain ⟨o, ho, rfl⟩ := n_cloth c2 b2 g2
  obtain ⟨r, A, B, T', k1, k2, k3⟩ := x_touchL (nS := nS) (d := d) hc ho (fun e => g3 (by rw [e])) nS 0 0 M (by omega) hP
  have k1' := k1 M sk_FU (by unfold sk_FU; omega) (fun q _ => rfl)
  have e89 : sk_uA (sk_uA M (20 + c) A) (20 + o) B 89 = M 89 := by rw [sk_uA_ne _ _ (by omega), sk_uA_ne _ _ (by omega)]
  have k2' := k2 (sk_uA (sk_uA M (20 + c) A) (20 + o) B) sk_FU (by unfold sk_FU; omega) e89
  refine ⟨r, sk_uA (sk_uA M (20 + c) A) (20 + o) B, sk_uA (sk_uA (sk_uA M (20 + c) A) (20 + o) B) 89 T', ?_, ?_, nS, nC, nW, nT, d, k3⟩
  · rw [f_X6_touch, if_neg g1, if_neg g2, if_neg g3]
    show sk_b2 (f_X6_touch_L29 (nI c) (nI o) sk_FU 0 (nI 0) M) _ = _
    rw [k1', q_b2]
  · rw [f_X7_touch, g_cloth1 (M := M) (by rw [e89]; exact hE 1 (by omega)), if_neg g1, g_cloth1 (M := M) (by rw [e89]; exact hE 1 (by omega)), if_neg g2, if_neg g3]
    show sk_b2 (f_X7_touch_L29 (nI c) (nI o) sk_FU 0 (nI 0) _) _ = _
    rw [k2', q_b2]
-- pour
set_option maxHeartbeats 1000000 in
theorem x_pourL {nS nC nW nT d c i n lim : Nat} (hc : c < nC) (hi : i < 4) (hlim : lim = min nS n) (hn : n ≤ 24) : ∀ (m k : Nat) (s : Int32) (M : sk_M), k + m = lim → M 93 i = nI n → r_p nS nC nW nT d M →
    ∃ r A T', (∀ (N : sk_M) (fu : Nat), m < fu → (∀ q, q < 88 → N q = M q) → f_X6_pour_L58 (65 + 2 * i) (nI c) (nI lim) fu s (nI k) N = some (r, sk_uA N (20 + c) A)) ∧
      (∀ (N : sk_M) (fu : Nat), m < fu → N 89 = M 89 → N 93 = M 93 → N 94 = M 94 → f_X7_pour_L36 (nI c) (nI i) fu s (nI k) N = some (r, sk_uA N 89 T')) ∧ r_p nS nC nW nT d (sk_uA (sk_uA M (20 + c) A) 89 T') := by
  intro m
  induction m with
  | zero =>
    intro k s M hk hn93 hP
    obtain ⟨⟨b1, b2, b3, b4, b5⟩, c1, c2, c3, c4, c5⟩ := hP.1.1.1
    have e0 : M 89 0 = nI nS := (hP.1.2.1 0 (by omega)).trans c1
    refine ⟨s, M (20 + c), M 89, ?_, ?_, ?_⟩
    · intro N fu hfu hN
      obtain ⟨g, rfl⟩ : ∃ g, fu = g + 1 := ⟨fu - 1, by omega⟩
      rw [f_X6_pour_L58, if_pos (nI_le (by omega) (by omega)), ← hN (20 + c) (by omega), x_uA_id]
    · intro N fu hfu hN h93 h94
      obtain ⟨g, rfl⟩ : ∃ g, fu = g + 1 := ⟨fu - 1, by omega⟩
      rw [f_X7_pour_L36, q_chkI hi (by omega), q_clamp (by omega), h93, hn93]
      by_cases q : n ≤ k
      · rw [if_pos (nI_le q (by omega)), ← hN, x_uA_id]
      · rw [if_neg (nI_ge (by omega) (by omega)), hN, e0, if_pos (nI_le (by omega) (by omega)), ← hN, x_uA_id]
    · rw [x_uA_id, x_uA_id]; exact hP
  | succ m ih =>
    intro k s M hk hn93 hP
    obtain ⟨⟨b1, b2, b3, b4, b5⟩, c1, c2, c3, c4, c5⟩ := hP.1.1.1
    have hE := hP.1.2.1
    have e0 : M 89 0 = nI nS := (hE 0 (by omega)).trans c1
    have hsh := hP.2.2.2.2.1 i hi
    have ep : M (66 + 2 * i) k = M 94 (24 * i + k) := hsh.2.2.2.2 k (by omega)
    have fx : M 89 (43 + 9 * c + k) = M (20 + c) k := (r_eq_fix hE).2.2 c (by omega) k (by omega)
    have eo : (65 + 2 * i) + 1 = 66 + 2 * i := by omega
    have e24 : (24 : Int32) * nI i + nI k = nI (24 * i + k) := by show nI 24 * nI i + nI k = _; rw [pk_mul, nI_add]
    by_cases q : M 94 (24 * i + k) = -1000000005
    · obtain ⟨r, A, T', k1, k2, k3⟩ := ih (k + 1) s M (by omega) hn93 hP
      refine ⟨r, A, T', ?_, ?_, k3⟩
      · intro N fu hfu hN
        obtain ⟨g, rfl⟩ : ∃ g, fu = g + 1 := ⟨fu - 1, by omega⟩
        rw [f_X6_pour_L58, if_neg (nI_ge (by omega) (by omega)), q_chkI (by omega) (by omega), q_clamp (by omega), eo, hN (66 + 2 * i) (by omega), ep, if_pos q, nI_1]
        exact k1 N g (by omega) hN
      · intro N fu hfu hN h93 h94
        obtain ⟨g, rfl⟩ : ∃ g, fu = g + 1 := ⟨fu - 1, by omega⟩
        rw [f_X7_pour_L36, q_chkI hi (by omega), q_clamp (by omega), h93, hn93, if_neg (nI_ge (by omega) (by omega)), hN, e0, if_neg (nI_ge (by omega) (by omega)), e24, q_chkI (by omega) (by omega), q_let, q_clamp (by omega), h94, if_pos q, x_on (by omega) (by omega), q_b1, q_b1, x_ix, x_bec (by omega), q_b2, if_pos rfl, q_let, q_uid rfl, nI_1]
        rw [show s + (0 : Int32) = s by simp]
        exact k2 N g (by omega) hN h93 h94
    · obtain ⟨p, hp, hhp⟩ := x_held_n (M 94 (24 * i + k))
      have hP1 := p_spot (k := k) (u := p) hP hc (by omega) hp
      obtain ⟨r, A, T', k1, k2, k3⟩ := ih (k + 1) (s + (if M (20 + c) k = nI p then 0 else 1)) _ (by omega) (by rw [q_uo (by omega), q_uo (by omega)]; exact hn93) hP1
      refine ⟨r, A, T', ?_, ?_, ?_⟩
      · intro N fu hfu hN
        obtain ⟨g, rfl⟩ : ∃ g, fu = g + 1 := ⟨fu - 1, by omega⟩
        rw [f_X6_pour_L58, if_neg (nI_ge (by omega) (by omega)), q_chkI (by omega) (by omega), q_clamp (by omega), eo, hN (66 + 2 * i) (by omega), ep, if_neg q, q_chkI (by omega) (by omega), hhp, x_putS (by omega) (by omega), q_b2, q_let, hN (20 + c) (by omega), nI_1]
        rw [k1 _ g (by omega) (by
          intro z hz
          rw [q_uo (by omega : z ≠ 89)]
          by_cases z2 : z = 20 + c
          · subst z2; rw [q_us, q_us, hN (20 + c) (by omega)]
          · rw [q_uo z2, q_uo z2]; exact hN z hz)]
        unfold sk_u
        rw [x_uA2]
      · intro N fu hfu hN h93 h94
        obtain ⟨g, rfl⟩ : ∃ g, fu = g + 1 := ⟨fu - 1, by omega⟩
        have esym : (if nI p = M (20 + c) k then (0 : Int32) else 1) = (if M (20 + c) k = nI p then 0 else 1) := by
          by_cases z : nI p = M (20 + c) k
          · rw [if_pos z, if_pos z.symm]
          · rw [if_neg z, if_neg (Ne.symm z)]
        rw [f_X7_pour_L36, q_chkI hi (by omega), q_clamp (by omega), h93, hn93, if_neg (nI_ge (by omega) (by omega)), hN, e0, if_neg (nI_ge (by omega) (by omega)), e24, q_chkI (by omega) (by omega), q_let, q_clamp (by omega), h94, if_neg q, q_b1, x_heldW, hhp, x_ix, x_bec (by omega), q_b2, hN, fx, esym, q_let, nI_1]
        rw [k2 _ g (by omega) (by rw [q_us, q_us, hN, q_uo (by omega)]) (by rw [q_uo (by omega), q_uo (by omega), q_uo (by omega)]; exact h93) (by rw [q_uo (by omega), q_uo (by omega), q_uo (by omega)]; exact h94)]
        unfold sk_u
        rw [x_uA2]
      · have e : sk_uA (sk_uA (sk_u (sk_u M (20 + c) k (nI p)) 89 (43 + 9 * c + k) (nI p)) (20 + c) A) 89 T' = sk_uA (sk_uA M (20 + c) A) 89 T' := by
          funext z
          simp only [sk_u, sk_uA]
          by_cases z0 : z = 89
          · subst z0; simp
          · by_cases z1 : z = 20 + c
            · subst z1; simp
            · simp [z0, z1]
        rw [← e]
        exact k3
theorem t_pour (a1 a2 : Int32) : r_st (f_X6_pour a1 a2) (f_X7_pour a1 a2) := by
  intro M hR
  obtain ⟨nS, nC, nW, nT, d, hP⟩ := id hR
  obtain ⟨⟨b1, b2, b3, b4, b5⟩, c1, c2, c3, c4, c5⟩ := hP.1.1.1
  have hE := hP.1.2.1
  by_cases g1 : f_X6_isCloth a1 M = 0
  · exact ⟨_, M, M, by rw [f_X6_pour, if_pos g1], by rw [f_X7_pour, g_cloth hE, if_pos g1], hR⟩
  by_cases g2 : f_X6_isSheet a2 = 0
  · exact ⟨_, M, M, by rw [f_X6_pour, if_neg g1, if_pos g2], by rw [f_X7_pour, g_cloth hE, if_neg g1, g_sheet, if_pos g2], hR⟩
  obtain ⟨c, hc, rfl⟩ := n_cloth c2 b2 g1
  obtain ⟨i, hi, rfl⟩ := n_sheet g2
  obtain ⟨s1, s2, s3, ⟨n, hn, s4⟩, s5⟩ := hP.2.2.2.2.1 i hi
  by_cases g3 : M 92 i = -1
  · refine ⟨-1000000011, M, M, ?_, ?_, hR⟩
    · rw [f_X6_pour, if_neg g1, if_neg g2, q_chkI hi (by omega), q_clamp (by omega), s1, if_pos g3]
    · rw [f_X7_pour, g_cloth hE, if_neg g1, g_sheet, if_neg g2, q_chkI hi (by omega), q_clamp (by omega), g3, if_neg (by decide)]
  have g4 : 0 ≤ M 92 i := by
    rcases s3 with z | z | z
    · exact absurd z g3
    · rw [z]; decide
    · rw [z]; decide
  have elim : (if M (65 + 2 * i) 2 < M 10 10 then M (65 + 2 * i) 2 else M 10 10) = nI (min nS n) := by
    rw [s2, s4, c1]
    by_cases z : n < nS
    · rw [if_pos ((q_lt (by omega) (by omega)).mpr z)]; congr 1; omega
    · rw [if_neg (fun y => z ((q_lt (by omega) (by omega)).mp y))]; congr 1; omega
  obtain ⟨r, A, T', k1, k2, k3⟩ := x_pourL (nS := nS) (d := d) hc hi rfl hn (min nS n) 0 0 M (by omega) s4 hP
  have k1' := k1 M sk_FU (by unfold sk_FU; omega) (fun q _ => rfl)
  have eo : ∀ q, q ≠ 20 + c → sk_uA M (20 + c) A q = M q := fun q hq => sk_uA_ne _ _ hq
  have k2' := k2 (sk_uA M (20 + c) A) sk_FU (by unfold sk_FU; omega) (eo 89 (by omega)) (eo 93 (by omega)) (eo 94 (by omega))
  refine ⟨r, sk_uA M (20 + c) A, sk_uA (sk_uA M (20 + c) A) 89 T', ?_, ?_, nS, nC, nW, nT, d, k3⟩
  · rw [f_X6_pour, if_neg g1, if_neg g2, q_chkI hi (by omega), q_clamp (by omega), s1, if_neg g3, elim, q_let]
    show sk_b2 (f_X6_pour_L58 (65 + 2 * i) (nI c) (nI (min nS n)) sk_FU 0 (nI 0) M) _ = _
    rw [k1', q_b2]
  · rw [f_X7_pour, g_cloth1 (M := M) (by rw [eo 89 (by omega)]; exact hE 1 (by omega)), if_neg g1, g_sheet, if_neg g2, q_chkI hi (by omega), q_clamp (by omega), eo 92 (by omega), if_pos g4]
    show sk_b2 (f_X7_pour_L36 (nI c) (nI i) sk_FU 0 (nI 0) _) _ = _
    rw [k2', q_b2]
