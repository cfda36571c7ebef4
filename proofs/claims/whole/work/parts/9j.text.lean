/-! text, both sides. -/
theorem t_store {nT key laid said : Nat} {M4 : sk_M} (h14 : nT < 14) (hl : laid ≤ 96) (k3 : M4 62 6 = nI key) (k4 : M4 62 7 = nI laid) (k5 : M4 62 8 = nI said) :
    f_X3_store (nI nT) M4 = some (sk_u (sk_u (sk_u (sk_uA M4 (48 + nT) (x_cp (M4 64) (M4 (48 + nT)) laid)) 44 nT (nI laid)) 45 nT (nI key)) 46 nT (nI said)) := by
  have hci : sk_cin 0 (nI laid) 96 = true := x_cin (p := 0) (by omega) (by omega)
  have n0 : (0 : Int32).toNatClampNeg = 0 := rfl
  have w1 : ∀ (X : sk_M) (f : Nat → Int32), sk_uA X (48 + nT) f 62 = X 62 := fun X f => sk_uA_ne X f (by omega)
  have w2 : ∀ (X : sk_M) (j : Nat) (v : Int32), sk_u X 44 j v 62 = X 62 := fun X j v => q_uo (by omega)
  have w3 : ∀ (X : sk_M) (j : Nat) (v : Int32), sk_u X 45 j v 62 = X 62 := fun X j v => q_uo (by omega)
  rw [f_X3_store, q_chkI h14 (by omega), k4, q_chk hci, q_chk hci, q_let, q_chkI h14 (by omega), q_let, q_chkI h14 (by omega), q_let, q_chkI h14 (by omega), q_let, q_clamp (by omega), q_clamp (by omega), n0, x_cpv]
  simp only [w1, w2, w3, k3, k4, k5]
theorem t_textT {nT key laid said : Nat} {N N' : sk_M} (p : f_X7_parse N = some (nI key, N')) (hk : key < 3) (h14 : nT < 14) (e3 : N' 89 3 = nI nT) (e23 : N' 88 23 = nI laid) (e25 : N' 88 25 = nI said) :
    f_X7_text N = some (nI nT, sk_u (sk_u (sk_u (sk_u N' 89 (109 + 200 * nT) (nI key)) 89 (110 + 200 * nT) (nI said)) 89 (111 + 200 * nT) (nI laid)) 89 3 (nI (nT + 1))) := by
  have hne : ¬ nI nT = (14 : Int32) := fun w => by have := q_inj (b := 14) (by omega) (by omega) w; omega
  have z0 : nI (109 + 200 * nT) + (0 : Int32) = nI (109 + 200 * nT) := nI_add _ 0
  have z1 : nI (109 + 200 * nT) + (1 : Int32) = nI (110 + 200 * nT) := by rw [nI_1]; congr 1; omega
  have z2 : nI (109 + 200 * nT) + (2 : Int32) = nI (111 + 200 * nT) := by rw [show (2 : Int32) = nI 2 from rfl, nI_add]; congr 1; omega
  have w : ∀ (X : sk_M) (j : Nat) (v : Int32), sk_u X 89 j v 88 = X 88 := fun X j v => q_uo (by omega)
  have y : sk_u (sk_u (sk_u N' 89 (109 + 200 * nT) (nI key)) 89 (110 + 200 * nT) (nI said)) 89 (111 + 200 * nT) (nI laid) 89 3 + 1 = nI (nT + 1) := by
    rw [q_un (by omega), q_un (by omega), q_un (by omega), e3, nI_1]
  rw [f_X7_text, p, q_b2, if_pos (show (0 : Int32) ≤ nI key from nI_le (a := 0) (by omega) (by omega)), e3, if_neg hne, q_let, x_ta, z0, z1, z2, q_chkI (by omega) (by omega), q_let, q_chkI (by omega) (by omega), q_let, q_chkI (by omega) (by omega), q_let, q_let, q_clamp (by omega), q_clamp (by omega), q_clamp (by omega)]
  simp only [w, e23, e25, y, q_ue]
  rw [x_s1 (by omega)]
  rfl
set_option maxHeartbeats 1000000 in
theorem t_text : r_st f_X6_text f_X7_text := by
  intro M hR
  obtain ⟨nS, nC, nW, nT, d, hP⟩ := hR
  obtain ⟨⟨hI, hE, hT⟩, h1, h2, h3, h4, h5⟩ := id hP
  have b4 : nT ≤ 14 := hI.1.1.2.2.2.1
  have c4 : M 10 13 = nI nT := hI.1.2.2.2.2.1
  have e3 : M 89 3 = nI nT := (hE 3 (by omega)).trans c4
  have hA := u_A_b b4
  obtain ⟨t, n, htc, htm⟩ := u_tp (N := M) h3 rfl rfl
  have hn := htc.1
  obtain ⟨x, M', a1, a2, a3, a4⟩ := u_readM htc htm hA.1 (by rw [e3]; exact u_A_e b4)
  have hNo : ∀ o, o ≠ 62 → o ≠ 64 → sk_u M' 62 2 0 o = M o := fun o z1 z2 => by rw [q_uo z1]; exact a2 o z1 z2
  have d1 : sk_u M' 62 2 0 10 13 = nI nT := by rw [hNo 10 (by omega) (by omega)]; exact c4
  have hfin : ∀ (r : Int32) (N' : sk_M), u_out n (u_A nT) M (sk_u M' 62 2 0) x M' r N' → r_all N' := fun r N' p2 =>
    ⟨nS, nC, nW, nT, d, p_text0 hP (fun o z1 z2 z3 z4 => (p2.2.1 o z3 z4).trans (hNo o z1 z2)) (by rw [p2.2.1 62 (by omega) (by omega)]; exact q_ue _ _ _ _) p2.2.2.2.1 (fun b z => (p2.2.2.1 b z).trans (by rw [hNo 88 (by omega) (by omega)])) (fun i hi => (p2.2.2.2.2.1 i (Or.inl hi)).trans (by rw [hNo 89 (by omega) (by omega)]))⟩
  by_cases hx : x < 0
  · by_cases hf : nT < 14
    · obtain ⟨key, laid, said, k1, k2, k3, k4, k5⟩ := a3 hx
      have hst := t_store (nT := nT) (key := key) (laid := laid) (said := said) (M4 := sk_u M' 62 2 0) hf k2 (by rw [q_un (by omega)]; exact k3) (by rw [q_un (by omega)]; exact k4) (by rw [q_un (by omega)]; exact k5)
      generalize hS4 : sk_u (sk_u (sk_u (sk_uA (sk_u M' 62 2 0) (48 + nT) (x_cp (sk_u M' 62 2 0 64) (sk_u M' 62 2 0 (48 + nT)) laid)) 44 nT (nI laid)) 45 nT (nI key)) 46 nT (nI said) = S4 at hst
      have s0 : ∀ o, o ≠ 44 → o ≠ 45 → o ≠ 46 → o ≠ 48 + nT → S4 o = sk_u M' 62 2 0 o := fun o z1 z2 z3 z4 => by rw [← hS4, q_uo z3, q_uo z2, q_uo z1, sk_uA_ne _ _ z4]
      have s44 : S4 44 nT = nI laid ∧ ∀ j, j ≠ nT → S4 44 j = M 44 j := ⟨by rw [← hS4, q_uo (by omega), q_uo (by omega), q_ue], fun j z => by rw [← hS4, q_uo (by omega), q_uo (by omega), q_un (Or.inr z), sk_uA_ne _ _ (by omega), hNo 44 (by omega) (by omega)]⟩
      have s45 : S4 45 nT = nI key ∧ ∀ j, j ≠ nT → S4 45 j = M 45 j := ⟨by rw [← hS4, q_uo (by omega), q_ue], fun j z => by rw [← hS4, q_uo (by omega), q_un (Or.inr z), q_uo (by omega), sk_uA_ne _ _ (by omega), hNo 45 (by omega) (by omega)]⟩
      have s46 : S4 46 nT = nI said ∧ ∀ j, j ≠ nT → S4 46 j = M 46 j := ⟨by rw [← hS4, q_ue], fun j z => by rw [← hS4, q_un (Or.inr z), q_uo (by omega), q_uo (by omega), sk_uA_ne _ _ (by omega), hNo 46 (by omega) (by omega)]⟩
      have s48 : ∀ j, j < laid → S4 (48 + nT) j = M' 64 j := fun j z => by rw [← hS4, q_uo (by omega), q_uo (by omega), q_uo (by omega), sk_uA_self, x_cp, if_pos z, q_uo (by omega)]
      have s62 : S4 62 6 = nI key := by rw [s0 62 (by omega) (by omega) (by omega) (by omega), q_un (by omega)]; exact k3
      have s10 : sk_u S4 18 key (nI nT) 10 13 + 1 = nI (nT + 1) := by rw [q_uo (by omega), s0 10 (by omega) (by omega) (by omega) (by omega), d1, nI_1]
      have hcl : f_X6_text M = some (nI nT, sk_u (sk_u S4 18 key (nI nT)) 10 13 (nI (nT + 1))) := by
        rw [f_X6_text, a1, q_b2, q_let, if_pos hx, q_let, d1, if_pos (show nI nT < (14 : Int32) from nI_lt (b := 14) hf (by omega)), hst, q_b1, s62, q_chkI k1 (by omega), q_let, q_let, q_clamp (by omega), s10]
      generalize hS6 : sk_u (sk_u S4 18 key (nI nT)) 10 13 (nI (nT + 1)) = S6 at hcl
      have g0 : ∀ o, o ≠ 10 → o ≠ 18 → S6 o = S4 o := fun o z1 z2 => by rw [← hS6, q_uo z1, q_uo z2]
      have g1 : ∀ o, o ≠ 10 → o ≠ 18 → o ≠ 44 → o ≠ 45 → o ≠ 46 → o ≠ 48 + nT → o ≠ 62 → o ≠ 64 → S6 o = M o := fun o z1 z2 z3 z4 z5 z6 z7 z8 => by rw [g0 o z1 z2, s0 o z3 z4 z5 z6, hNo o z7 z8]
      have g88 : S6 88 = M 88 := g1 88 (by omega) (by omega) (by omega) (by omega) (by omega) (by omega) (by omega) (by omega)
      have g89 : S6 89 = M 89 := g1 89 (by omega) (by omega) (by omega) (by omega) (by omega) (by omega) (by omega) (by omega)
      obtain ⟨r, N', p1, p2⟩ := a4 S6 (by rw [g88]) (g1 102 (by omega) (by omega) (by omega) (by omega) (by omega) (by omega) (by omega) (by omega)) (by rw [g89])
      obtain ⟨-, v1, v2, v3, v4, v5⟩ := p2
      rcases v5 with ⟨q, m1, m2, -⟩ | ⟨-, key', laid', said', m1, m2, m3, m4, m5, m6, m7, m8, m9, m10⟩
      · exfalso
        rw [m2] at hx
        exact nI_nlt (b := 0) (by omega) (by omega) hx
      · have ek : key' = key := q_inj (by omega) (by omega) (m4.symm.trans k3)
        have el : laid' = laid := q_inj (by omega) (by omega) (m5.symm.trans k4)
        subst ek
        subst el
        subst m3
        have hAe : u_A nT = 113 + 200 * nT := by unfold u_A; rw [if_neg (by omega)]
        rw [hAe] at v4 m9
        have f3 : N' 89 3 = nI nT := by rw [v4 3 (by omega), g89]; exact e3
        refine ⟨nI nT, S6, _, hcl, t_textT p1 k1 hf f3 m7 m8, nS, nC, nW, nT + 1, d, ?_⟩
        have es : nI said' = nI said := m6.symm.trans k5
        rw [es]
        generalize hX : sk_u (sk_u (sk_u (sk_u N' 89 (109 + 200 * nT) (nI key')) 89 (110 + 200 * nT) (nI said)) 89 (111 + 200 * nT) (nI laid')) 89 3 (nI (nT + 1)) = X
        have x0 : ∀ o, o ≠ 89 → X o = N' o := fun o z => by rw [← hX, q_uo z, q_uo z, q_uo z, q_uo z]
        have x1 : ∀ o, o ≠ 88 → o ≠ 89 → X o = S6 o := fun o z1 z2 => (x0 o z2).trans (v1 o z1 z2)
        have x9 : ∀ i, i ≠ 3 → i ≠ 109 + 200 * nT → i ≠ 110 + 200 * nT → i ≠ 111 + 200 * nT → X 89 i = N' 89 i := fun i z1 z2 z3 z4 => by rw [← hX, q_un (Or.inr z1), q_un (Or.inr z4), q_un (Or.inr z3), q_un (Or.inr z2)]
        refine p_text1 (key := key') (laid := laid') (said := said) (c := M' 64) hP hf k1 k2 m10 (fun o z1 z2 z3 z4 z5 z6 z7 z8 z9 z10 => (x1 o z9 z10).trans (g1 o z1 z2 z3 z4 z5 z6 z7 z8)) ?_ ?_ ?_ ?_ ?_ ?_ ?_ ?_ ?_ ?_ ?_ ?_ ?_ ?_ ?_ ?_ ?_ ?_
        · rw [x1 10 (by omega) (by omega), ← hS6, q_ue]
        · intro j z
          rw [x1 10 (by omega) (by omega), ← hS6, q_un (Or.inr z), q_uo (by omega), s0 10 (by omega) (by omega) (by omega) (by omega), hNo 10 (by omega) (by omega)]
        · rw [x1 18 (by omega) (by omega), ← hS6, q_uo (by omega), q_ue]
        · intro j z
          rw [x1 18 (by omega) (by omega), ← hS6, q_uo (by omega), q_un (Or.inr z), s0 18 (by omega) (by omega) (by omega) (by omega), hNo 18 (by omega) (by omega)]
        · rw [x1 44 (by omega) (by omega), g0 44 (by omega) (by omega)]; exact s44.1
        · rw [x1 45 (by omega) (by omega), g0 45 (by omega) (by omega)]; exact s45.1
        · rw [x1 46 (by omega) (by omega), g0 46 (by omega) (by omega)]; exact s46.1
        · intro o z j hj
          rcases z with rfl | rfl | rfl
          · rw [x1 44 (by omega) (by omega), g0 44 (by omega) (by omega)]; exact s44.2 j hj
          · rw [x1 45 (by omega) (by omega), g0 45 (by omega) (by omega)]; exact s45.2 j hj
          · rw [x1 46 (by omega) (by omega), g0 46 (by omega) (by omega)]; exact s46.2 j hj
        · intro j hj
          rw [x1 _ (by omega) (by omega), g0 _ (by omega) (by omega)]; exact s48 j hj
        · rw [x1 62 (by omega) (by omega), g0 62 (by omega) (by omega), s0 62 (by omega) (by omega) (by omega) (by omega), q_ue]
        · rw [x0 88 (by omega)]; exact v3
        · intro b z
          rw [x0 88 (by omega), v2 b z, g88]
        · rw [← hX, q_ue]
        · intro i z1 z2
          rw [x9 i z1 (by omega) (by omega) (by omega), v4 i (by omega), g89]
        · rw [← hX, q_un (by omega), q_un (by omega), q_un (by omega), q_ue]
        · rw [← hX, q_un (by omega), q_un (by omega), q_ue]
        · rw [← hX, q_un (by omega), q_ue]
        · intro j hj
          rw [x9 _ (by omega) (by omega) (by omega) (by omega), x9 _ (by omega) (by omega) (by omega) (by omega), show 114 + 200 * nT + 2 * j = 113 + 200 * nT + 2 * j + 1 by omega]
          exact m9 j hj
    · have ef : nT = 14 := by omega
      obtain ⟨r, N', p1, p2⟩ := a4 (sk_u M' 62 2 0) (by rw [hNo 88 (by omega) (by omega)]) (hNo 102 (by omega) (by omega)) (by rw [hNo 89 (by omega) (by omega)])
      refine ⟨-1000000003, sk_u M' 62 2 0, N', ?_, ?_, hfin r N' p2⟩
      · rw [f_X6_text, a1, q_b2, q_let, if_pos hx, q_let, d1, if_neg (show ¬ nI nT < (14 : Int32) from nI_nlt (b := 14) (by omega) (by omega))]
      · obtain ⟨-, v1, v2, v3, v4, v5⟩ := p2
        have f3 : N' 89 3 = 14 := by rw [v4 3 (Or.inl (by omega)), hNo 89 (by omega) (by omega), e3, ef]; rfl
        rcases v5 with ⟨q, m1, m2, -⟩ | ⟨-, key', laid', said', m1, m2, m3, -⟩
        · exfalso
          rw [m2] at hx
          exact nI_nlt (b := 0) (by omega) (by omega) hx
        · rw [f_X7_text, p1, q_b2, m3, if_pos (show (0 : Int32) ≤ nI key' from nI_le (a := 0) (by omega) (by omega)), if_pos f3]
  · obtain ⟨r, N', p1, p2⟩ := a4 (sk_u M' 62 2 0) (by rw [hNo 88 (by omega) (by omega)]) (hNo 102 (by omega) (by omega)) (by rw [hNo 89 (by omega) (by omega)])
    exact ⟨(-100) - x, sk_u M' 62 2 0, N', by rw [f_X6_text, a1, q_b2, q_let, if_neg hx], t_textN p1 p2 hn hx, hfin r N' p2⟩
