/-! scent, deal, word; loops over scents: touch, pour. -/
theorem x_comL {n : Nat} {M : sk_M} (hn : n < 9) (hz : ∀ c, c < 6 → M 89 (43 + 9 * c + n) = 0) : ∀ (m c fu : Nat), c + m = 6 → m < fu → f_X7_comes_L46 (nI n) fu (nI c) M = some M := by
  intro m
  induction m with
  | zero =>
    intro c fu hc hfu
    obtain ⟨g, rfl⟩ : ∃ g, fu = g + 1 := ⟨fu - 1, by omega⟩
    have e : c = 6 := by omega
    subst e
    rw [f_X7_comes_L46, if_pos (show (6 : Int32) ≤ nI 6 from nI_le (a := 6) (Nat.le_refl _) (by omega))]
  | succ m ih =>
    intro c fu hc hfu
    obtain ⟨g, rfl⟩ : ∃ g, fu = g + 1 := ⟨fu - 1, by omega⟩
    rw [f_X7_comes_L46, if_neg (show ¬ (6 : Int32) ≤ nI c from nI_ge (b := 6) (by omega) (by omega)), x_ix, q_chkI (by omega) (by omega), q_let, q_clamp (by omega), q_uid (hz c (by omega)), nI_1]
    exact ih (c + 1) g (by omega) (by omega)
theorem x_comes {n : Nat} {M : sk_M} (hn : n < 9) (h0 : M 89 0 = nI n) (hh : M 89 (12 + 3 * n) = 0) (hz : ∀ c, c < 6 → M 89 (43 + 9 * c + n) = 0) (a b : Int32) :
    f_X7_comes a b M = some (sk_uA M 89 (upd (upd (upd (M 89) (10 + 3 * n) a) (11 + 3 * n) b) 0 (nI (n + 1)))) := by
  have ei : (10 : Int32) + 3 * nI n = nI (10 + 3 * n) := by show nI 10 + nI 3 * nI n = _; rw [pk_mul, nI_add]
  have e1 : nI (10 + 3 * n) + 1 = nI (11 + 3 * n) := by rw [nI_1]; congr 1; omega
  have e2 : nI (10 + 3 * n) + 2 = nI (12 + 3 * n) := by show nI (10 + 3 * n) + nI 2 = _; rw [nI_add]; congr 1; omega
  have hM : sk_u (sk_u M 89 (10 + 3 * n) a) 89 (11 + 3 * n) b 89 (12 + 3 * n) = 0 := by rw [q_un (by omega), q_un (by omega)]; exact hh
  have hl := x_comL (M := sk_u (sk_u M 89 (10 + 3 * n) a) 89 (11 + 3 * n) b) hn (fun c hc => by rw [q_un (by omega), q_un (by omega)]; exact hz c hc) 6 0 sk_FU (by omega) (by unfold sk_FU; omega)
  have hl' : f_X7_comes_L46 (nI n) sk_FU 0 (sk_u (sk_u M 89 (10 + 3 * n) a) 89 (11 + 3 * n) b) = _ := hl
  have hs : sk_u (sk_u M 89 (10 + 3 * n) a) 89 (11 + 3 * n) b 89 0 = nI n := by rw [q_un (by omega), q_un (by omega)]; exact h0
  rw [f_X7_comes, h0, q_let, q_let, ei, q_chkI (by omega) (by omega), q_let, e1, q_chkI (by omega) (by omega), q_let, e2, q_chkI (by omega) (by omega), q_let, q_clamp (by omega), q_clamp (by omega), q_clamp (by omega), q_uid hM, hl', q_b1, q_let, hs, nI_1]
  have e5 : sk_u M 89 (10 + 3 * n) a = sk_uA M 89 (upd (M 89) (10 + 3 * n) a) := rfl
  rw [e5, x_uAu, x_uAu]
theorem x_addS {n : Nat} {M : sk_M} (hn : n < 9) (h0 : M 10 10 = nI n) (a b : Int32) : f_X5_addScent 10 a b M = some (nI n, sk_uA (sk_uA (sk_uA M 11 (upd (M 11) n a)) 12 (upd (M 12) n b)) 10 (upd (M 10) 10 (nI (n + 1)))) := by
  have e : sk_u M 11 n a 10 10 = nI n := by rw [q_uo (by omega)]; exact h0
  have e2 : sk_u (sk_u M 11 n a) 12 n b 10 10 = nI n := by rw [q_uo (by omega)]; exact e
  rw [f_X5_addScent, h0, if_pos (show nI n < 9 from nI_lt (b := 9) hn (by omega)), q_chkI (by omega) (by omega), q_let, q_clamp (by omega), e, q_chkI (by omega) (by omega), q_let, q_clamp (by omega), q_let, e2, nI_1, q_ue, nI_pred]
  have e5 : sk_u M 11 n a = sk_uA M 11 (upd (M 11) n a) := rfl
  unfold sk_u
  rw [sk_uA_ne _ _ (by omega : (12 : Nat) ≠ 11), sk_uA_ne _ _ (by omega : (10 : Nat) ≠ 12), sk_uA_ne _ _ (by omega : (10 : Nat) ≠ 11)]
/-- a scent more, both sides -/
theorem p_add {nS nC nW nT d u v : Nat} {M : sk_M} (h : r_p nS nC nW nT d M) (hn : nS < 9) (hu : u ≤ 5) (hv : v ≤ 50) :
    r_p (nS + 1) nC nW nT d (sk_uA (sk_uA (sk_uA (sk_uA M 11 (upd (M 11) nS (nI u))) 12 (upd (M 12) nS (nI v))) 10 (upd (M 10) 10 (nI (nS + 1)))) 89 (upd (upd (upd (M 89) (10 + 3 * nS) (nI u)) (11 + 3 * nS) (nI v)) 0 (nI (nS + 1)))) := by
  have h1 := p_kind (k := nS) h (by omega) hu
  have h2 := p_pace (k := nS) h1 (by omega) hv
  obtain ⟨⟨⟨b1, b2, b3, b4, b5⟩, c1, c2, c3, c4, c5⟩, -⟩ := h2.1.1
  have h3 := p_cnt (p := 0) (v := nI (nS + 1)) (nS' := nS + 1) (nC' := nC) (nW' := nW) (d' := d) h2 (by omega) (by omega) ⟨⟨by omega, b2, b3, b4, b5⟩, by
    show sk_u _ 10 10 _ 10 10 = _
    rw [q_ue], by
    show sk_u _ 10 10 _ 10 12 = _
    rw [q_un (by omega)]; exact c2, by
    show sk_u _ 10 10 _ 10 11 = _
    rw [q_un (by omega)]; exact c3, by
    show sk_u _ 10 10 _ 10 13 = _
    rw [q_un (by omega)]; exact c4, by
    show sk_u _ 10 10 _ 10 14 = _
    rw [q_un (by omega)]; exact c5⟩ (by omega) (Nat.le_refl _)
  have e : sk_u (sk_u (sk_u (sk_u (sk_u (sk_u M 11 nS (nI u)) 89 (10 + 3 * nS) (nI u)) 12 nS (nI v)) 89 (11 + 3 * nS) (nI v)) 10 10 (nI (nS + 1))) 89 0 (nI (nS + 1)) = (sk_uA (sk_uA (sk_uA (sk_uA M 11 (upd (M 11) nS (nI u))) 12 (upd (M 12) nS (nI v))) 10 (upd (M 10) 10 (nI (nS + 1)))) 89 (upd (upd (upd (M 89) (10 + 3 * nS) (nI u)) (11 + 3 * nS) (nI v)) 0 (nI (nS + 1)))) := by
    funext o
    simp only [sk_u, sk_uA]
    by_cases q1 : o = 89
    · subst q1; simp
    · by_cases q2 : o = 10
      · subst q2; simp
      · by_cases q3 : o = 12
        · subst q3; simp
        · by_cases q4 : o = 11
          · subst q4; simp
          · simp [q1, q2, q3, q4]
  rw [← e]
  exact h3
theorem t_scent (a1 a2 : Int32) : r_st (f_X6_scent a1 a2) (f_X7_scent a1 a2) := by
  intro M hR
  obtain ⟨nS, nC, nW, nT, d, hP⟩ := id hR
  have hI := hP.1.1
  have hE := hP.1.2.1
  obtain ⟨⟨⟨b1, b2, b3, b4, b5⟩, c1, c2, c3, c4, c5⟩, hrng, hzero, hcou⟩ := id hI
  have e0 : M 89 0 = nI nS := (hE 0 (by omega)).trans c1
  by_cases g1 : f_X6_isKind a1 = 0
  · have g1' : f_X6_within a1 0 5 = 0 := g1
    exact ⟨_, M, M, by rw [f_X6_scent, if_pos g1], by rw [f_X7_scent, g_in a1 0 5 (by decide) (by decide), if_pos g1'], hR⟩
  have g1' : ¬ f_X6_within a1 0 5 = 0 := g1
  by_cases g2 : f_X6_within a2 0 50 = 0
  · exact ⟨_, M, M, by rw [f_X6_scent, if_neg g1, if_pos g2], by rw [f_X7_scent, g_in a1 0 5 (by decide) (by decide), if_neg g1', g_in a2 0 50 (by decide) (by decide), if_pos g2], hR⟩
  obtain ⟨u, hu, rfl⟩ := n_kind g1
  obtain ⟨v, -, hv, rfl⟩ := q_wb (lo := 0) (hi := 50) (by omega) (by omega) g2
  by_cases g3 : nS = 9
  · subst g3
    refine ⟨-1000000003, M, M, ?_, ?_, hR⟩
    · rw [f_X6_scent, if_neg g1, if_neg g2, f_X5_addScent, c1, if_neg (by decide), q_b2]
    · rw [f_X7_scent, g_in (nI u) 0 5 (by decide) (by decide), if_neg g1', g_in (nI v) 0 50 (by decide) (by decide), if_neg g2, e0, if_pos (by decide)]
  have hn : nS < 9 := by omega
  have hcl := x_addS hn c1 (nI u) (nI v)
  have hz := hzero
  have hz3 : M 89 (12 + 3 * nS) = 0 := by rw [((r_eq_fix hE).1.2.2.1 nS hn).2.2]; exact hzero.1 nS hn (Nat.le_refl _)
  have hzs : ∀ c, c < 6 → M 89 (43 + 9 * c + nS) = 0 := fun c hc => by rw [(r_eq_fix hE).2.2 c hc nS hn]; exact hzero.2.2 c hc nS hn (Or.inr (Nat.le_refl _))
  have e89 : ∀ (A B Cc : Nat → Int32), sk_uA (sk_uA (sk_uA M 11 A) 12 B) 10 Cc 89 = M 89 := fun A B Cc => by rw [sk_uA_ne _ _ (by omega), sk_uA_ne _ _ (by omega), sk_uA_ne _ _ (by omega)]
  refine ⟨nI nS, _, _, by rw [f_X6_scent, if_neg g1, if_neg g2, hcl, q_b2], ?_, nS + 1, nC, nW, nT, d, p_add hP hn hu hv⟩
  rw [f_X7_scent, g_in (nI u) 0 5 (by decide) (by decide), if_neg g1', g_in (nI v) 0 50 (by decide) (by decide), if_neg g2, e89, e0, if_neg (show ¬ nI nS = 9 from fun q => g3 ((q_eq (b := 9) (by omega) (by omega)).mp q)), x_comes hn (by rw [e89]; exact e0) (by rw [e89]; exact hz3) (fun c hc => by rw [e89]; exact hzs c hc), q_b1, sk_uA_self, e89, q_upd, if_pos rfl, nI_pred]
-- deal
def x_dz (z : Int32) : Int32 := z * 1103515245 + 12345
theorem x_ushr8 (z : Int32) : ∃ j : Nat, j < 16777216 ∧ sk_ushr z 8 = nI j := by
  refine ⟨z.toBitVec.toNat / 2 ^ 8, ?_, ?_⟩
  · have := z.toBitVec.isLt
    omega
  · have e : z = nI z.toBitVec.toNat := by
      apply Int32.toBitVec_inj.mp
      apply BitVec.eq_of_toNat_eq
      rw [pk_tn z.toBitVec.isLt]
    conv => lhs; rw [e]
    exact pk_ushrN z.toBitVec.isLt 8 8 (by decide)
theorem p_z {nS nC nW nT d : Nat} {M : sk_M} (h : r_p nS nC nW nT d M) (z : Int32) : r_p nS nC nW nT d (sk_uA (sk_uA M 10 (upd (M 10) 15 z)) 89 (upd (M 89) 5 z)) := by
  obtain ⟨⟨⟨b1, b2, b3, b4, b5⟩, c1, c2, c3, c4, c5⟩, -⟩ := h.1.1
  have h3 := p_cnt (p := 5) (v := z) (nS' := nS) (nC' := nC) (nW' := nW) (d' := d) h (by omega) (by omega) ⟨⟨by omega, b2, b3, b4, b5⟩, by
    show sk_u _ 10 15 _ 10 10 = _
    rw [q_un (by omega)]; exact c1, by
    show sk_u _ 10 15 _ 10 12 = _
    rw [q_un (by omega)]; exact c2, by
    show sk_u _ 10 15 _ 10 11 = _
    rw [q_un (by omega)]; exact c3, by
    show sk_u _ 10 15 _ 10 13 = _
    rw [q_un (by omega)]; exact c4, by
    show sk_u _ 10 15 _ 10 14 = _
    rw [q_un (by omega)]; exact c5⟩ (Nat.le_refl _) (Nat.le_refl _)
  have e : sk_u (sk_u M 10 15 z) 89 5 z = sk_uA (sk_uA M 10 (upd (M 10) 15 z)) 89 (upd (M 89) 5 z) := by
    unfold sk_u
    rw [sk_uA_ne _ _ (by omega : (89 : Nat) ≠ 10)]
  rw [← e]
  exact h3
set_option maxHeartbeats 1000000 in
theorem x_dealL {nC nW nT d came : Nat} {a1 : Int32} (hcm : came ≤ 9) : ∀ (m i nS : Nat) (M : sk_M), i + m = came → nS + m ≤ 9 → (∀ j, j < came → ¬ a1 ≤ nI j) → (a1 ≤ nI came ∨ nS + m = 9) → r_p nS nC nW nT d M →
    ∃ A B Cc T', (∀ (N : sk_M) (fu : Nat), m < fu → (∀ o, o < 88 → N o = M o) → f_X6_deal_L30 (nI came) fu (nI i) N = some (sk_uA (sk_uA (sk_uA N 11 A) 12 B) 10 Cc)) ∧
      (∀ (N : sk_M) (fu : Nat), m < fu → N 89 = M 89 → f_X7_deal_L17 a1 fu (nI i) N = some (nI came, sk_uA N 89 T')) ∧ r_p (nS + m) nC nW nT d (sk_uA (sk_uA (sk_uA (sk_uA M 11 A) 12 B) 10 Cc) 89 T') := by
  intro m
  induction m with
  | zero =>
    intro i nS M hi hn ha hb hP
    have e : i = came := by omega
    subst e
    have e0 : M 89 0 = nI nS := (hP.1.2.1 0 (by omega)).trans hP.1.1.1.2.1
    refine ⟨M 11, M 12, M 10, M 89, ?_, ?_, ?_⟩
    · intro N fu hfu hN
      obtain ⟨g, rfl⟩ : ∃ g, fu = g + 1 := ⟨fu - 1, by omega⟩
      rw [f_X6_deal_L30, if_pos (nI_le (Nat.le_refl _) (by omega))]
      rw [← hN 11 (by omega), ← hN 12 (by omega), ← hN 10 (by omega), x_uA_id, x_uA_id, x_uA_id]
    · intro N fu hfu hN
      obtain ⟨g, rfl⟩ : ∃ g, fu = g + 1 := ⟨fu - 1, by omega⟩
      rw [f_X7_deal_L17]
      by_cases q : a1 ≤ nI i
      · rw [if_pos q, ← hN, x_uA_id]
      · rw [if_neg q, hN, e0, if_pos, ← hN, x_uA_id]
        have : nS = 9 := by rcases hb with z | z; exact absurd z q; omega
        rw [this]; decide
    · rw [x_uA_id, x_uA_id, x_uA_id, x_uA_id]; exact hP
  | succ m ih =>
    intro i nS M hi hn ha hb hP
    have hn9 : nS < 9 := by omega
    have c1 := hP.1.1.1.2.1
    have hE := hP.1.2.1
    have e0 : M 89 0 = nI nS := (hE 0 (by omega)).trans c1
    have e5 : M 89 5 = M 10 15 := hE 5 (by omega)
    obtain ⟨hz1, hz2, hz3⟩ := hP.1.1.2.2.1
    -- the two draws
    obtain ⟨j1, hj1, ej1⟩ := x_ushr8 (x_dz (M 10 15))
    obtain ⟨j2, hj2, ej2⟩ := x_ushr8 (x_dz (x_dz (M 10 15)))
    have ek : nI j1 - nI j1 / 6 * 6 = nI (j1 % 6) := pk_rem (d := 6) (by omega) (by omega) (by omega)
    have ep : nI j2 - nI j2 / 51 * 51 = nI (j2 % 51) := pk_rem (d := 51) (by omega) (by omega) (by omega)
    have hPz := p_z (p_z hP (x_dz (M 10 15))) (x_dz (x_dz (M 10 15)))
    have hPa := p_add (u := j1 % 6) (v := j2 % 51) hPz hn9 (by omega) (by omega)
    generalize hM' : (sk_uA (sk_uA (sk_uA M 10 (upd (M 10) 15 (x_dz (M 10 15)))) 89 (upd (M 89) 5 (x_dz (M 10 15)))) 10 (upd (sk_uA (sk_uA M 10 (upd (M 10) 15 (x_dz (M 10 15)))) 89 (upd (M 89) 5 (x_dz (M 10 15))) 10) 15 (x_dz (x_dz (M 10 15))))) = Mz at hPz hPa
    generalize hM2 : sk_uA Mz 89 (upd (sk_uA (sk_uA M 10 (upd (M 10) 15 (x_dz (M 10 15)))) 89 (upd (M 89) 5 (x_dz (M 10 15))) 89) 5 (x_dz (x_dz (M 10 15)))) = My at hPz hPa
    have y11 : My 11 = M 11 := by rw [← hM2, ← hM', sk_uA_ne _ _ (by omega), sk_uA_ne _ _ (by omega), sk_uA_ne _ _ (by omega), sk_uA_ne _ _ (by omega)]
    have y12 : My 12 = M 12 := by rw [← hM2, ← hM', sk_uA_ne _ _ (by omega), sk_uA_ne _ _ (by omega), sk_uA_ne _ _ (by omega), sk_uA_ne _ _ (by omega)]
    have y10 : My 10 = upd (upd (M 10) 15 (x_dz (M 10 15))) 15 (x_dz (x_dz (M 10 15))) := by rw [← hM2, ← hM', sk_uA_ne _ _ (by omega), sk_uA_self, sk_uA_ne _ _ (by omega), sk_uA_self]
    have y89 : My 89 = upd (upd (M 89) 5 (x_dz (M 10 15))) 5 (x_dz (x_dz (M 10 15))) := by rw [← hM2, sk_uA_self, sk_uA_self]
    have yo : ∀ o, o ≠ 10 → o ≠ 89 → My o = M o := fun o q1 q2 => by rw [← hM2, ← hM', sk_uA_ne _ _ q2, sk_uA_ne _ _ q1, sk_uA_ne _ _ q2, sk_uA_ne _ _ q1]
    obtain ⟨A, B, Cc, T', k1, k2, k3⟩ := ih (i + 1) (nS + 1) _ (by omega) (by omega) ha (hb.imp (fun z => z) (fun z => by omega)) hPa
    refine ⟨A, B, Cc, T', ?_, ?_, ?_⟩
    · intro N fu hfu hN
      obtain ⟨g, rfl⟩ : ∃ g, fu = g + 1 := ⟨fu - 1, by omega⟩
      have d1 : f_X5_draw 10 N = some (nI j1, sk_uA N 10 (upd (M 10) 15 (x_dz (M 10 15)))) := by
        rw [f_X5_draw, q_let, hN 10 (by omega), q_ue]
        have : sk_ushr ((M 10 15 * 1103515245) + 12345) 8 = nI j1 := ej1
        rw [this]
        unfold sk_u
        rw [hN 10 (by omega)]
        rfl
      have d2 : f_X5_draw 10 (sk_uA N 10 (upd (M 10) 15 (x_dz (M 10 15)))) = some (nI j2, sk_uA N 10 (My 10)) := by
        rw [f_X5_draw, q_let, sk_uA_self, q_upd, if_pos rfl, q_ue]
        have : sk_ushr ((x_dz (M 10 15) * 1103515245) + 12345) 8 = nI j2 := ej2
        rw [this, x_uAu, y10]
        rfl
      have d3 := x_addS (M := sk_uA N 10 (My 10)) hn9 (by rw [sk_uA_self, y10, q_upd, if_neg (by omega), q_upd, if_neg (by omega)]; exact c1) (nI (j1 % 6)) (nI (j2 % 51))
      rw [f_X6_deal_L30, if_neg (nI_ge (by omega) (by omega)), d1, q_b2, q_let, ek, d2, q_b2, q_let, ep, d3, q_b2, nI_1]
      rw [k1 _ g (by omega) (by
        intro o ho
        have q4 : o ≠ 89 := by omega
        by_cases q1 : o = 10
        · subst q1; simp [sk_uA]
        · by_cases q2 : o = 12
          · subst q2; simp [sk_uA, hN 12 (by omega), y12]
          · by_cases q3 : o = 11
            · subst q3; simp [sk_uA, hN 11 (by omega), y11]
            · simp [sk_uA, q1, q2, q3, q4, hN o ho, yo o q1 q4])]
      congr 1
      funext o
      simp only [sk_uA]
      by_cases q1 : o = 10
      · subst q1; simp
      · by_cases q2 : o = 12
        · subst q2; simp
        · by_cases q3 : o = 11
          · subst q3; simp
          · simp [q1, q2, q3]
    · intro N fu hfu hN
      obtain ⟨g, rfl⟩ : ∃ g, fu = g + 1 := ⟨fu - 1, by omega⟩
      have d1 : f_X7_drawn N = some (nI j1, sk_uA N 89 (upd (M 89) 5 (x_dz (M 10 15)))) := by
        rw [f_X7_drawn, q_let, hN, e5, q_ue]
        have : sk_ushr ((M 10 15 * 1103515245) + 12345) 8 = nI j1 := ej1
        rw [this]
        unfold sk_u
        rw [hN]
        rfl
      have d2 : f_X7_drawn (sk_uA N 89 (upd (M 89) 5 (x_dz (M 10 15)))) = some (nI j2, sk_uA N 89 (My 89)) := by
        rw [f_X7_drawn, q_let, sk_uA_self, q_upd, if_pos rfl, q_ue]
        have : sk_ushr ((x_dz (M 10 15) * 1103515245) + 12345) 8 = nI j2 := ej2
        rw [this, x_uAu, y89]
        rfl
      have f3 : ((r_eq_fix hE).1.2.2.1 nS hn9).2.2 = ((r_eq_fix hE).1.2.2.1 nS hn9).2.2 := rfl
      have d3 := x_comes (M := sk_uA N 89 (My 89)) hn9 (by rw [sk_uA_self, y89, q_upd, if_neg (by omega), q_upd, if_neg (by omega)]; exact e0) (by
        rw [sk_uA_self, y89, q_upd, if_neg (by omega), q_upd, if_neg (by omega), ((r_eq_fix hE).1.2.2.1 nS hn9).2.2]; exact hz1 nS hn9 (Nat.le_refl _)) (by
        intro c hc
        rw [sk_uA_self, y89, q_upd, if_neg (by omega), q_upd, if_neg (by omega), (r_eq_fix hE).2.2 c hc nS hn9]; exact hz3 c hc nS hn9 (Or.inr (Nat.le_refl _))) (nI (j1 % 6)) (nI (j2 % 51))
      rw [f_X7_deal_L17, if_neg (ha i (by omega)), hN, e0, if_neg (show ¬ (9 : Int32) ≤ nI nS from nI_ge (b := 9) (by omega) (by omega)), d1, q_b2, q_let, ek, d2, q_b2, ep, d3, q_b1, nI_1]
      rw [k2 _ g (by omega) (by rw [sk_uA_self, sk_uA_self, sk_uA_self]), x_uA2, x_uA2]
    · have : nS + 1 + m = nS + (m + 1) := by omega
      rw [this] at k3
      have e : sk_uA (sk_uA (sk_uA (sk_uA (sk_uA (sk_uA (sk_uA (sk_uA My 11 (upd (My 11) nS (nI (j1 % 6)))) 12 (upd (My 12) nS (nI (j2 % 51)))) 10 (upd (My 10) 10 (nI (nS + 1)))) 89 (upd (upd (upd (My 89) (10 + 3 * nS) (nI (j1 % 6))) (11 + 3 * nS) (nI (j2 % 51))) 0 (nI (nS + 1)))) 11 A) 12 B) 10 Cc) 89 T' = sk_uA (sk_uA (sk_uA (sk_uA M 11 A) 12 B) 10 Cc) 89 T' := by
        funext o
        simp only [sk_uA]
        by_cases q1 : o = 10
        · subst q1; simp
        · by_cases q2 : o = 12
          · subst q2; simp
          · by_cases q3 : o = 11
            · subst q3; simp
            · by_cases q4 : o = 89
              · subst q4; simp
              · simp [q1, q2, q3, q4]
                exact yo o q1 q4
      rw [← e]
      exact k3
theorem t_deal (a1 : Int32) : r_st (f_X6_deal a1) (f_X7_deal a1) := by
  intro M hR
  obtain ⟨nS, nC, nW, nT, d, hP⟩ := id hR
  obtain ⟨⟨b1, b2, b3, b4, b5⟩, c1, c2, c3, c4, c5⟩ := hP.1.1.1
  by_cases g1 : f_X6_within a1 1 9 = 0
  · exact ⟨_, M, M, by rw [f_X6_deal, if_pos g1], by rw [f_X7_deal, g_in a1 1 9 (by decide) (by decide), if_pos g1], hR⟩
  obtain ⟨n, hn1, hn9, rfl⟩ := q_wb (lo := 1) (hi := 9) (by omega) (by omega) g1
  have ecame : (if (9 - M 10 10) < nI n then (9 - M 10 10) else nI n) = nI (min (9 - nS) n) := by
    rw [c1, show (9 : Int32) - nI nS = nI (9 - nS) from pk_sub b1]
    by_cases q : 9 - nS < n
    · rw [if_pos ((q_lt (by omega) (by omega)).mpr q)]; congr 1; omega
    · rw [if_neg (fun z => q ((q_lt (by omega) (by omega)).mp z))]; congr 1; omega
  obtain ⟨A, B, Cc, T', k1, k2, k3⟩ := x_dealL (came := min (9 - nS) n) (a1 := nI n) (by omega) (min (9 - nS) n) 0 nS M (by omega) (by omega) (fun j hj => nI_ge (by omega) (by omega)) (by
    by_cases q : 9 - nS < n
    · right; omega
    · left; exact nI_le (by omega) (by omega)) hP
  have k1' := k1 M sk_FU (by unfold sk_FU; omega) (fun o _ => rfl)
  have k2' := k2 (sk_uA (sk_uA (sk_uA M 11 A) 12 B) 10 Cc) sk_FU (by unfold sk_FU; omega) (by rw [sk_uA_ne _ _ (by omega), sk_uA_ne _ _ (by omega), sk_uA_ne _ _ (by omega)])
  refine ⟨nI (min (9 - nS) n), sk_uA (sk_uA (sk_uA M 11 A) 12 B) 10 Cc, sk_uA (sk_uA (sk_uA (sk_uA M 11 A) 12 B) 10 Cc) 89 T', ?_, ?_, _, nC, nW, nT, d, k3⟩
  · rw [f_X6_deal, if_neg g1, ecame, q_let]
    show sk_b1 (f_X6_deal_L30 (nI (min (9 - nS) n)) sk_FU (nI 0) M) _ = _
    rw [k1', q_b1]
  · rw [f_X7_deal, g_in (nI n) 1 9 (by decide) (by decide), if_neg g1]
    show sk_b2 (f_X7_deal_L17 (nI n) sk_FU (nI 0) _) _ = _
    rw [k2', q_b2]
