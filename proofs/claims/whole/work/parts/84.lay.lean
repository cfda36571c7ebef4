/-! lay, count, keep, back. -/
theorem x_layL {i k3 : Nat} (a5 : Int32) (hi : i < 5) (hk3 : k3 < 4) (M : sk_M) : ∀ (m k fu : Nat), k + m = 24 → m < fu → f_X7_lay_L150 (nI i) (nI k3) a5 fu (nI k) (sk_uA M 99 (x_rg (fun j => M 94 (24 * k3 + j)) (M 99) (24 * i) k)) = some (sk_uA M 99 (x_rg (fun j => M 94 (24 * k3 + j)) (M 99) (24 * i) 24)) := by
  intro m
  induction m with
  | zero =>
    intro k fu hk hfu
    obtain ⟨g, rfl⟩ : ∃ g, fu = g + 1 := ⟨fu - 1, by omega⟩
    have e : k = 24 := by omega
    subst e
    rw [f_X7_lay_L150, if_pos (show (24 : Int32) ≤ nI 24 from nI_le (a := 24) (Nat.le_refl _) (by omega))]
  | succ m ih =>
    intro k fu hk hfu
    obtain ⟨g, rfl⟩ : ∃ g, fu = g + 1 := ⟨fu - 1, by omega⟩
    rw [f_X7_lay_L150, if_neg (show ¬ (24 : Int32) ≤ nI k from nI_ge (b := 24) (by omega) (by omega)), x_24, q_chkI (by omega) (by omega), x_24, q_chkI (by omega) (by omega), q_let, q_clamp (by omega), q_clamp (by omega), sk_uA_ne _ _ (by omega : (94 : Nat) ≠ 99), x_uAu, x_rg_s (fun j => M 94 (24 * k3 + j)), nI_1]
    exact ih (k + 1) g (by omega) (by omega)
/-- slot i anew: what the reference's rows are -/
theorem p_slot {nS nC nW nT d i : Nat} {M M2 : sk_M} (hP : r_p nS nC nW nT d M) (hi : i < 5) (hU : ∀ o, ¬ ((73 + 3 * i ≤ o ∧ o < 76 + 3 * i) ∨ (95 ≤ o ∧ o < 100)) → M2 o = M o)
    (h5 : ∀ o, 95 ≤ o → o < 99 → ∀ j, j ≠ i → M2 o j = M o j) (h9 : ∀ j, ¬ (24 * i ≤ j ∧ j < 24 * i + 24) → M2 99 j = M 99 j)
    (hs : M2 (73 + 3 * i) 1 = M2 95 i ∧ (∃ v : Nat, v ≤ 3 ∧ M2 95 i = nI v) ∧ (M2 95 i = 1 → M2 (73 + 3 * i) 2 = M2 96 i ∧ (∃ v : Nat, v ≤ 5 ∧ M2 96 i = nI v) ∧ M2 97 i = f_X6_worth (M2 (73 + 3 * i) 2) (M2 (73 + 3 * i) 3)) ∧
      (M2 95 i = 2 → M2 (74 + 3 * i) 2 = M2 98 i ∧ (∃ n : Nat, n ≤ 24 ∧ M2 98 i = nI n) ∧ ∀ k, k < 24 → M2 (75 + 3 * i) k = M2 99 (24 * i + k)) ∧ (M2 95 i = 3 → M2 (73 + 3 * i) 4 = M2 96 i)) : r_p nS nC nW nT d M2 := by
  refine p_sh hP (fun o q => hU o (by omega)) (r_sh_c (fun o q => hU o (by omega)) hP.2.2.2.2.1) ?_
  intro i' hi'
  by_cases e : i' = i
  · subst e; exact hs
  obtain ⟨s1, s2, s3, s4, s5⟩ := hP.2.2.2.2.2 i' hi'
  rw [hU (73 + 3 * i') (by omega), hU (74 + 3 * i') (by omega), hU (75 + 3 * i') (by omega), h5 95 (by omega) (by omega) i' e, h5 96 (by omega) (by omega) i' e, h5 97 (by omega) (by omega) i' e, h5 98 (by omega) (by omega) i' e]
  refine ⟨s1, s2, s3, fun q => ?_, s5⟩
  obtain ⟨t1, t2, t3⟩ := s4 q
  exact ⟨t1, t2, fun k hk => by rw [h9 _ (by omega)]; exact t3 k hk⟩
theorem x_worth1 {k : Nat} {M N : sk_M} (hk : k < 9) (h : r_eq 10 89 M) (h89 : N 89 = M 89) : f_X7_worth (nI k) N = some (f_X6_worth (M 11 k) (M 12 k)) := by
  have e : f_X7_worth (nI k) N = f_X7_worth (nI k) M := by
    rw [f_X7_worth, f_X7_worth, x_of1 hk, x_of1 hk, x_of0 hk, x_of0 hk, h89]
  rw [e]; exact t_worth hk h
theorem tt_lay (a1 a2 a3 : Int32) : r_st (f_X6_lay a1 a2 a3) (f_X7_lay a1 a2 a3) := by
  intro M hR
  obtain ⟨nS, nC, nW, nT, d, hP⟩ := id hR
  obtain ⟨⟨b1, b2, b3, b4, b5⟩, c1, c2, c3, c4, c5⟩ := hP.1.1.1
  have hE := hP.1.2.1
  by_cases g1 : f_X6_isSlot a1 = 0
  · refine ⟨_, M, M, by rw [f_X6_lay, if_pos g1], ?_, hR⟩
    rw [f_X7_lay, q_let, g_slot, if_pos g1]
  obtain ⟨i, hi, rfl⟩ := n_slot g1
  obtain ⟨s1, s2, s3, s4, s5⟩ := hP.2.2.2.2.2 i hi
  have L10 : ((1 : Int32) = 0) = False := eq_false (by decide)
  have L13 : ((1 : Int32) = 3) = False := eq_false (by decide)
  have L12 : ((1 : Int32) = 2) = False := eq_false (by decide)
  have L01 : ((0 : Int32) = 1) = False := eq_false (by decide)
  have L02 : ((0 : Int32) = 2) = False := eq_false (by decide)
  have L30 : ((3 : Int32) = 0) = False := eq_false (by decide)
  have L31 : ((3 : Int32) = 1) = False := eq_false (by decide)
  have L32 : ((3 : Int32) = 2) = False := eq_false (by decide)
  have L20 : ((2 : Int32) = 0) = False := eq_false (by decide)
  have L23 : ((2 : Int32) = 3) = False := eq_false (by decide)
  have L21 : ((2 : Int32) = 1) = False := eq_false (by decide)
  have hchk : ∀ x : Option (Int32 × sk_M), sk_chk (sk_in (nI i) 5) x = x := fun x => q_chkI hi (by omega)
  have hcl : (nI i).toNatClampNeg = i := q_clamp (by omega)
  -- the numbers 0 and 3
  have plain : ∀ v : Nat, v = 0 ∨ v = 3 → r_p nS nC nW nT d (sk_u (sk_u (sk_u (sk_u (sk_u M (73 + 3 * i) 1 (nI v)) (73 + 3 * i) 4 a3) 95 i (nI v)) 96 i a3) 97 i 0) := by
    intro v hv
    refine p_slot (i := i) hP hi ?_ ?_ ?_ ?_
    · intro o q; rw [q_uo (by omega), q_uo (by omega), q_uo (by omega), q_uo (by omega), q_uo (by omega)]
    · intro o q1 q2 j hj
      rw [q_un (by omega), q_un (by omega), q_un (by omega), q_uo (by omega), q_uo (by omega)]
    · intro j hj; rw [q_uo (by omega), q_uo (by omega), q_uo (by omega), q_uo (by omega), q_uo (by omega)]
    · have e95 : sk_u (sk_u (sk_u (sk_u (sk_u M (73 + 3 * i) 1 (nI v)) (73 + 3 * i) 4 a3) 95 i (nI v)) 96 i a3) 97 i 0 95 i = nI v := by rw [q_uo (by omega), q_uo (by omega), q_ue]
      rw [e95]
      refine ⟨by rw [q_uo (by omega), q_uo (by omega), q_uo (by omega), q_un (by omega), q_ue], ⟨v, by omega, rfl⟩, fun q => ?_, fun q => ?_, fun q => ?_⟩
      · exfalso
        have := q_inj (b := 1) (by omega) (by omega) q
        omega
      · exfalso
        have := q_inj (b := 2) (by omega) (by omega) q
        omega
      · rw [q_uo (by omega), q_uo (by omega), q_uo (by omega), q_ue, q_uo (by omega), q_ue]
  by_cases e0 : a2 = 0
  · subst e0
    have k2 := plain 0 (Or.inl rfl)
    refine ⟨M 95 i, sk_u (sk_u M (73 + 3 * i) 1 0) (73 + 3 * i) 4 a3, _, ?_, ?_, nS, nC, nW, nT, d, k2⟩
    · rw [f_X6_lay, if_neg g1, if_neg (by decide), if_neg (by decide), q_s0r, if_neg (by decide), q_s0r, if_neg (by decide), q_s0r, q_chkI hi (by omega), q_let, q_let, if_neg (by decide), if_neg (by decide), q_let, q_clamp (by omega), s1]
    · simp only [f_X7_lay, q_let, g_slot, if_neg g1, L10, L01, L02, if_true, if_false, q_s0r, q_b1, hchk, hcl]
      rw [q_uo (by omega : 95 ≠ 73 + 3 * i), q_uo (by omega : 95 ≠ 73 + 3 * i)]
      rfl
  by_cases e3 : a2 = 3
  · subst e3
    have k2 := plain 3 (Or.inr rfl)
    refine ⟨M 95 i, sk_u (sk_u M (73 + 3 * i) 1 3) (73 + 3 * i) 4 a3, _, ?_, ?_, nS, nC, nW, nT, d, k2⟩
    · rw [f_X6_lay, if_neg g1, if_neg (by decide), if_neg (by decide), q_s0r, if_neg (by decide), q_s0r, if_neg (by decide), q_s0r, q_chkI hi (by omega), q_let, q_let, if_neg (by decide), if_neg (by decide), q_let, q_clamp (by omega), s1]
    · simp only [f_X7_lay, q_let, g_slot, if_neg g1, L10, L30, L31, L32, if_true, if_false, q_s0r, q_b1, hchk, hcl]
      rw [q_uo (by omega : 95 ≠ 73 + 3 * i), q_uo (by omega : 95 ≠ 73 + 3 * i)]
      rfl
  by_cases e1 : a2 = 1
  · subst e1
    by_cases g2 : f_X6_isScent a3 M = 0
    · refine ⟨-1000000001, M, M, ?_, ?_, hR⟩
      · rw [f_X6_lay, if_neg g1, if_neg (by decide), if_pos rfl, if_pos g2, q_s0l]
      · simp only [f_X7_lay, q_let, g_slot, if_neg g1, L10, L13, L12, if_true, if_false, g_scent hE, if_pos g2]
    obtain ⟨k, hk, rfl⟩ := n_scent c1 b1 g2
    have fk := (r_eq_fix hE).1.2.2.1 k (by omega)
    obtain ⟨u, u1, u2⟩ := hP.1.1.2.1.2.1 k (by omega)
    generalize hMc : sk_u (sk_u (sk_u M (73 + 3 * i) 1 1) (73 + 3 * i) 2 (M 11 k)) (73 + 3 * i) 3 (M 12 k) = Mc
    have ho : ∀ o, o ≠ 73 + 3 * i → Mc o = M o := fun o q => by rw [← hMc, q_uo q, q_uo q, q_uo q]
    refine ⟨M 95 i, Mc, sk_u (sk_u (sk_u Mc 95 i 1) 96 i (M 11 k)) 97 i (f_X6_worth (M 11 k) (M 12 k)), ?_, ?_, nS, nC, nW, nT, d, p_slot (i := i) hP hi ?_ ?_ ?_ ?_⟩
    · rw [f_X6_lay, if_neg g1, if_neg (by decide), if_pos rfl, if_neg g2, q_s0r, if_neg (by decide), q_s0r, if_neg (by decide), q_s0r, q_chkI hi (by omega), q_let, q_let, if_pos rfl, q_chkI (by omega) (by omega), q_let, q_chkI (by omega) (by omega), q_let, q_clamp (by omega), q_clamp (by omega), s1, q_uo (by omega : 11 ≠ 73 + 3 * i), q_uo (by omega : 12 ≠ 73 + 3 * i), q_uo (by omega : 12 ≠ 73 + 3 * i), hMc]
    · have hsc : f_X7_isScent (nI k) Mc = f_X6_isScent (nI k) M := g_scent1 (by rw [ho 89 (by omega)]; exact hE 0 (by omega)) (nI k)
      have hw : f_X7_worth (nI k) (sk_u (sk_u Mc 95 i 1) 96 i (M 11 k)) = some (f_X6_worth (M 11 k) (M 12 k)) := x_worth1 (M := M) (by omega) hE (by rw [q_uo (by omega), q_uo (by omega), ho 89 (by omega)])
      have hof : f_X7_of (nI k) 0 (sk_u Mc 95 i 1) = some (M 11 k) := by rw [x_of0 (by omega), q_uo (by omega), ho 89 (by omega), fk.1]
      simp only [f_X7_lay, q_let, g_slot, if_neg g1, L10, L13, L12, if_true, if_false, hsc, if_neg g2, q_s0r, q_b1, hchk, hcl, hof, hw]
      rw [ho 95 (by omega)]
    · intro o q; rw [q_uo (by omega), q_uo (by omega), q_uo (by omega)]; exact ho o (by omega)
    · intro o q1 q2 j hj
      rw [q_un (by omega), q_un (by omega), q_un (by omega), ho o (by omega)]
    · intro j hj; rw [q_uo (by omega), q_uo (by omega), q_uo (by omega), ho 99 (by omega)]
    · have e95 : sk_u (sk_u (sk_u Mc 95 i 1) 96 i (M 11 k)) 97 i (f_X6_worth (M 11 k) (M 12 k)) 95 i = 1 := by rw [q_uo (by omega), q_uo (by omega), q_ue]
      have ec : ∀ j, sk_u (sk_u (sk_u Mc 95 i 1) 96 i (M 11 k)) 97 i (f_X6_worth (M 11 k) (M 12 k)) (73 + 3 * i) j = Mc (73 + 3 * i) j := fun j => by rw [q_uo (by omega), q_uo (by omega), q_uo (by omega)]
      rw [e95, ec, ec, ec, ec]
      refine ⟨by rw [← hMc, q_un (by omega), q_un (by omega), q_ue], ⟨1, by omega, rfl⟩, fun _ => ⟨?_, ⟨u, u2, ?_⟩, ?_⟩, fun q => absurd q (by decide), fun q => absurd q (by decide)⟩
      · rw [q_uo (by omega), q_ue, ← hMc, q_un (by omega), q_ue]
      · rw [q_uo (by omega), q_ue]; exact u1
      · rw [q_ue, ← hMc, q_un (by omega), q_ue, q_ue]
  by_cases e2 : a2 = 2
  · subst e2
    by_cases g2 : f_X6_isSheet a3 = 0
    · refine ⟨-1000000001, M, M, ?_, ?_, hR⟩
      · rw [f_X6_lay, if_neg g1, if_neg (by decide), if_neg (by decide), q_s0r, if_pos rfl, if_pos g2, q_s0l]
      · simp only [f_X7_lay, q_let, g_slot, if_neg g1, L20, L23, L21, if_true, if_false, g_sheet, if_pos g2]
    obtain ⟨k, hk, rfl⟩ := n_sheet g2
    obtain ⟨v1, v2, v3, ⟨n, hn, v4⟩, v5⟩ := hP.2.2.2.2.1 k hk
    by_cases g3 : M 92 k = -1
    · refine ⟨-1000000011, M, M, ?_, ?_, hR⟩
      · rw [f_X6_lay, if_neg g1, if_neg (by decide), if_neg (by decide), q_s0r, if_pos rfl, if_neg g2, q_s0r, if_pos rfl, q_chkI hk (by omega), q_clamp (by omega), v1, if_pos g3, q_s0l]
      · have hck : ∀ x : Option ((Int32 × sk_M) ⊕ Unit), sk_chk (sk_in (nI k) 4) x = x := fun x => q_chkI hk (by omega)
        have hck2 : (nI k).toNatClampNeg = k := q_clamp (by omega)
        have hm1 : ((0 : Int32) ≤ -1) = False := eq_false (by decide)
        simp only [f_X7_lay, q_let, g_slot, if_neg g1, L10, L20, L23, L21, if_true, if_false, g_sheet, if_neg g2, hck, hck2, g3, hm1, q_s0l]
    have g3' : 0 ≤ M 92 k := by
      rcases v3 with z | z | z
      · exact absurd z g3
      · rw [z]; decide
      · rw [z]; decide
    have n24 : (24 : Int32).toNatClampNeg = 24 := rfl
    have n0 : (0 : Int32).toNatClampNeg = 0 := rfl
    have eo : (73 + 3 * i) + 1 = 74 + 3 * i := by omega
    have eo2 : (74 + 3 * i) + 1 = 75 + 3 * i := by omega
    have eo3 : (65 + 2 * k) + 1 = 66 + 2 * k := by omega
    generalize hMa : sk_u M (73 + 3 * i) 1 2 = Ma
    have hao : ∀ o, o ≠ 73 + 3 * i → Ma o = M o := fun o q => by rw [← hMa, q_uo q]
    generalize hMc : sk_uA (sk_u (sk_u Ma (74 + 3 * i) 1 (M (65 + 2 * k) 1)) (74 + 3 * i) 2 (M (65 + 2 * k) 2)) (75 + 3 * i) (x_cp (M (66 + 2 * k)) (M (75 + 3 * i)) 24) = Mc
    have ho : ∀ o, o ≠ 73 + 3 * i → o ≠ 74 + 3 * i → o ≠ 75 + 3 * i → Mc o = M o := fun o q1 q2 q3 => by rw [← hMc, sk_uA_ne _ _ q3, q_uo q2, q_uo q2]; exact hao o q1
    have hbl : f_X1_becomeLike (74 + 3 * i) (65 + 2 * k) Ma = some Mc := by
      rw [f_X1_becomeLike, q_let, q_let, q_let, n24, n0, x_cpv, eo2, eo3, hao _ (by omega), q_uo (by omega : 65 + 2 * k ≠ 74 + 3 * i), hao _ (by omega), q_uo (by omega : 66 + 2 * k ≠ 74 + 3 * i), q_uo (by omega : 66 + 2 * k ≠ 74 + 3 * i), hao _ (by omega), q_uo (by omega : 75 + 3 * i ≠ 74 + 3 * i), q_uo (by omega : 75 + 3 * i ≠ 74 + 3 * i), hao _ (by omega), hMc]
    generalize hMd : sk_u (sk_u (sk_u (sk_u Mc 95 i 2) 96 i (nI k)) 97 i 0) 98 i (M 93 k) = Md
    have hdo : ∀ o, o ≠ 95 → o ≠ 96 → o ≠ 97 → o ≠ 98 → Md o = Mc o := fun o q1 q2 q3 q4 => by rw [← hMd, q_uo q4, q_uo q3, q_uo q2, q_uo q1]
    have hl := x_layL (i := i) (k3 := k) (M 95 i) hi hk Md 24 0 sk_FU (by omega) (by unfold sk_FU; omega)
    rw [x_rg_0, x_uA_id] at hl
    have hl' : f_X7_lay_L150 (nI i) (nI k) (M 95 i) sk_FU 0 Md = _ := hl
    have h2o : ∀ o, o ≠ 99 → sk_uA Md 99 (x_rg (fun j => Md 94 (24 * k + j)) (Md 99) (24 * i) 24) o = Md o := fun o q => sk_uA_ne _ _ q
    refine ⟨M 95 i, Mc, sk_uA Md 99 (x_rg (fun j => Md 94 (24 * k + j)) (Md 99) (24 * i) 24), ?_, ?_, nS, nC, nW, nT, d, p_slot (i := i) hP hi ?_ ?_ ?_ ?_⟩
    · rw [f_X6_lay, if_neg g1, if_neg (by decide), if_neg (by decide), q_s0r, if_pos rfl, if_neg g2, q_s0r, if_pos rfl, q_chkI hk (by omega), q_clamp (by omega), v1, if_neg g3, q_s0r, q_chkI hi (by omega), q_let, q_let, if_neg (by decide), if_pos rfl, q_chkI hk (by omega), q_clamp (by omega), s1, hMa, eo, hbl, q_b1]
    · have hck : ∀ x : Option ((Int32 × sk_M) ⊕ Unit), sk_chk (sk_in (nI k) 4) x = x := fun x => q_chkI hk (by omega)
      have hck3 : ∀ x : Option (Int32 × sk_M), sk_chk (sk_in (nI k) 4) x = x := fun x => q_chkI hk (by omega)
      have hck2 : (nI k).toNatClampNeg = k := q_clamp (by omega)
      have h93 : sk_u (sk_u (sk_u Mc 95 i 2) 96 i (nI k)) 97 i 0 93 k = M 93 k := by rw [q_uo (by omega), q_uo (by omega), q_uo (by omega), ho 93 (by omega) (by omega) (by omega)]
      simp only [f_X7_lay, q_let, g_slot, if_neg g1, L10, L20, L23, L21, if_true, if_false, g_sheet, if_neg g2, hck, hck2, hck3, ho 92 (by omega) (by omega) (by omega), if_pos g3', q_s0r, q_b1, hchk, hcl, h93, ho 95 (by omega) (by omega) (by omega), hMd, hl']
    · intro o q; rw [h2o o (by omega), hdo o (by omega) (by omega) (by omega) (by omega)]; exact ho o (by omega) (by omega) (by omega)
    · intro o q1 q2 j hj
      rw [h2o o (by omega), ← hMd, q_un (by omega), q_un (by omega), q_un (by omega), q_un (by omega), ho o (by omega) (by omega) (by omega)]
    · intro j hj
      rw [sk_uA_self, x_rg_out hj, hdo 99 (by omega) (by omega) (by omega) (by omega), ho 99 (by omega) (by omega) (by omega)]
    · have e95 : sk_uA Md 99 (x_rg (fun j => Md 94 (24 * k + j)) (Md 99) (24 * i) 24) 95 i = 2 := by rw [h2o 95 (by omega), ← hMd, q_uo (by omega), q_uo (by omega), q_uo (by omega), q_ue]
      rw [e95]
      refine ⟨?_, ⟨2, by omega, rfl⟩, fun q => absurd q (by decide), fun _ => ⟨?_, ⟨n, hn, ?_⟩, fun j hj => ?_⟩, fun q => absurd q (by decide)⟩
      · rw [h2o _ (by omega), hdo _ (by omega) (by omega) (by omega) (by omega), ← hMc, sk_uA_ne _ _ (by omega), q_uo (by omega), q_uo (by omega), ← hMa, q_ue]
      · rw [h2o _ (by omega), hdo _ (by omega) (by omega) (by omega) (by omega), h2o 98 (by omega), ← hMd, q_ue, ← hMc, sk_uA_ne _ _ (by omega), q_ue, v2]
      · rw [h2o 98 (by omega), ← hMd, q_ue]; exact v4
      · rw [h2o _ (by omega), hdo _ (by omega) (by omega) (by omega) (by omega), sk_uA_self, x_rg_in (by omega), hdo 94 (by omega) (by omega) (by omega) (by omega), ho 94 (by omega) (by omega) (by omega), ← hMc, sk_uA_self, x_cp, if_pos hj, v5 j hj]
        congr 1
        omega
  · -- no such thing
    have hbad : f_X6_within a2 0 3 = 0 := by
      rcases Decidable.em (f_X6_within a2 0 3 = 0) with q | q
      · exact q
      · obtain ⟨j, -, j2, rfl⟩ := q_wb (lo := 0) (hi := 3) (by omega) (by omega) q
        exfalso
        match j, j2 with
        | 0, _ => exact e0 rfl
        | 1, _ => exact e1 rfl
        | 2, _ => exact e2 rfl
        | 3, _ => exact e3 rfl
    refine ⟨-1000000001, M, M, ?_, ?_, hR⟩
    · rw [f_X6_lay, if_neg g1, if_pos hbad]
    · simp only [f_X7_lay, q_let, g_slot, if_neg g1, if_neg e0, if_neg e3, if_neg e1, if_neg e2, if_true]
