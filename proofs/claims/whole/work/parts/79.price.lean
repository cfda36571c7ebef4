/-! whispers, secret, smells, says, loses, why, textTold, price, lie, count. -/
theorem t_whispers (a1 a2 a3 : Int32) : r_st (f_X6_whispers a1 a2 a3) (f_X7_whispers a1 a2 a3) := by
  intro M hR
  obtain ⟨nS, nC, nW, nT, d, hP⟩ := id hR
  obtain ⟨⟨b1, b2, b3, b4, b5⟩, c1, c2, c3, c4, c5⟩ := hP.1.1.1
  have hE := hP.1.2.1
  by_cases g1 : f_X6_isCloth a1 M = 0
  · exact ⟨_, M, M, by rw [f_X6_whispers, if_pos g1], by rw [f_X7_whispers, g_cloth hE, if_pos g1], hR⟩
  by_cases g2 : f_X6_isNose a2 = 0
  · exact ⟨_, M, M, by rw [f_X6_whispers, if_neg g1, if_pos g2], by rw [f_X7_whispers, g_cloth hE, if_neg g1, g_nose, if_pos g2], hR⟩
  by_cases g4 : f_X6_within a3 0 200 = 0
  · exact ⟨_, M, M, by rw [f_X6_whispers, if_neg g1, if_neg g2, if_pos g4], by rw [f_X7_whispers, g_cloth hE, if_neg g1, g_nose, if_neg g2, g_in a3 0 200 (by decide) (by decide), if_pos g4], hR⟩
  obtain ⟨c, hc, rfl⟩ := n_cloth c2 b2 g1
  obtain ⟨v, hv, rfl⟩ := n_nose g2
  obtain ⟨n, -, hn, rfl⟩ := q_wb (lo := 0) (hi := 200) (by omega) (by omega) g4
  obtain ⟨Ma, k1, k2⟩ := x_begin (o := 6) (Or.inl rfl) (show c < 6 by omega) M
  obtain ⟨M1, k3, r', day', k4⟩ := x_whisC (v := v) (p_ch hP) b3 c3 hv hn (n + 1) 0 sk_FU _ _ 0 Ma (by omega) (by unfold sk_FU; omega) k2
  obtain ⟨M', m1, m2, r2, day2, m3⟩ := x_whisM (v := v) hc b2 hP.1.1.2.2.2 b3 c3 hv hn (n + 1) 0 sk_FU _ _ 0 _ (by omega) (by unfold sk_FU; omega) (x_ms0 hP hc (x_thU k4))
  obtain ⟨M2, z1, z2⟩ := x_end hP (x_thU k4) m2 m3
  obtain ⟨s, hs, es⟩ := z_wh_n (w := 10) (M0 := M) (nS := nS) (v := v) (warm := M 16 c) b3 (n + 1) (M (20 + c)) (M 10 14) 0 ⟨0, by omega, rfl⟩
  have k3' : f_X6_whispers_L43 (nI v) (nI n) sk_FU 0 0 Ma = some (z_ac 10 M nS (M 16 c) (z_wh M nS nW v) (n + 1) (M (20 + c)) (M 10 14) 0, M1) := k3
  have m1' : f_X7_whispers_L40 (nI c) (nI v) (nI n) sk_FU 0 0 (sk_uA M1 100 (x_cp (M1 89) (M1 100) 109)) = some (z_ac 10 M nS (M 16 c) (z_wh M nS nW v) (n + 1) (M (20 + c)) (M 10 14) 0, M') := m1
  rw [es] at k3' m1'
  refine ⟨_, M1, M2, by rw [f_X6_whispers, if_neg g1, if_neg g2, if_neg g4, k1, q_b1, k3', q_b2], ?_, nS, nC, nW, nT, d, z2⟩
  rw [f_X7_whispers, g_cloth1 (M := M) (by rw [x_thU k4 89 (by omega) (by omega) (by omega)]; exact hE 1 (by omega)), if_neg g1, g_nose, if_neg g2, g_in (nI n) 0 200 (by decide) (by decide), if_neg g4, x_by, q_b1, m1', q_b2, z1, q_b1, t_ones hs, q_b1]
-- secret
def z_se (M0 : sk_M) (nS nW : Nat) (r : Nat → Int32) : Nat → Nat → Int32 → Int32
  | _, 0, a => a
  | v, m + 1, a => z_se M0 nS nW r (v + 1) m (if x_said (M0 13) (M0 15) r (M0 14 v) nS nW = -1 then a ||| (1 <<< (nI v &&& 31)) else a)
theorem z_se_s (M0 : sk_M) (nS nW : Nat) (r : Nat → Int32) (v m : Nat) (a : Int32) : z_se M0 nS nW r v (m + 1) a = z_se M0 nS nW r (v + 1) m (if x_said (M0 13) (M0 15) r (M0 14 v) nS nW = -1 then a ||| (1 <<< (nI v &&& 31)) else a) := rfl
theorem x_secC {nS nC nT nW : Nat} {M0 M : sk_M} {r : Nat → Int32} {warm day : Int32} (hh : x_ch 10 nS nC nT M0) (h12 : nW ≤ 12) (hw : M0 10 11 = nI nW) (h : x_th 6 M0 r warm day M) : ∀ (m v fu : Nat) (a : Int32), v + m = 4 → m < fu → f_X6_secret_L43 M fu a (nI v) = some (z_se M0 nS nW r v m a) := by
  intro m
  induction m with
  | zero =>
    intro v fu a hv hfu
    obtain ⟨g, rfl⟩ : ∃ g, fu = g + 1 := ⟨fu - 1, by omega⟩
    rw [f_X6_secret_L43, if_pos (show (4 : Int32) ≤ nI v from nI_le (a := 4) (by omega) (by omega))]
    rfl
  | succ m ih =>
    intro v fu a hv hfu
    obtain ⟨g, rfl⟩ : ∃ g, fu = g + 1 := ⟨fu - 1, by omega⟩
    have hs : f_X4_saidTo 6 (nI v) M = some (f_X7_orNone (x_said (M0 13) (M0 15) r (M0 14 v) nS nW)) := x_tsaid (nW := nW) (Or.inl rfl) hh h12 hw (by omega) h
    rw [f_X6_secret_L43, if_neg (show ¬ (4 : Int32) ≤ nI v from nI_ge (b := 4) (by omega) (by omega)), hs, q_b1, q_let, nI_1, z_se_s]
    rcases x_said_cases (M0 13) (M0 15) r (M0 14 v) nS nW with q | ⟨j, hj, q⟩
    · rw [q, if_pos (by decide), if_pos rfl]
      exact ih (v + 1) g _ (by omega) (by omega)
    · rw [q, x_orN (by omega), if_neg (x_nN (by omega)), if_neg (x_nm1 (by omega))]
      exact ih (v + 1) g _ (by omega) (by omega)
theorem x_secM {nS nC nT nW c : Nat} {M0 M : sk_M} {r : Nat → Int32} {warm day : Int32} (hc : c < 6) (h12 : nW ≤ 12) (hw : M0 10 11 = nI nW) (h : x_ms 10 nS nC nT M0 c r warm day M) : ∀ (m v fu : Nat) (a : Int32), v + m = 4 → m < fu → f_X7_secret_L37 (nI c) M fu a (nI v) = some (z_se M0 nS nW r v m a) := by
  intro m
  induction m with
  | zero =>
    intro v fu a hv hfu
    obtain ⟨g, rfl⟩ : ∃ g, fu = g + 1 := ⟨fu - 1, by omega⟩
    rw [f_X7_secret_L37, if_pos (show (4 : Int32) ≤ nI v from nI_le (a := 4) (by omega) (by omega))]
    rfl
  | succ m ih =>
    intro v fu a hv hfu
    obtain ⟨g, rfl⟩ : ∃ g, fu = g + 1 := ⟨fu - 1, by omega⟩
    have hs : f_X7_saidBy (nI c) (nI v) M = some (x_said (M0 13) (M0 15) r (M0 14 v) nS nW) := x_msaidS (c := c) h12 hw hc (by omega) h
    rw [f_X7_secret_L37, if_neg (show ¬ (4 : Int32) ≤ nI v from nI_ge (b := 4) (by omega) (by omega)), hs, q_b1, q_let, nI_1, z_se_s]
    rcases x_said_cases (M0 13) (M0 15) r (M0 14 v) nS nW with q | ⟨j, hj, q⟩
    · rw [q, if_neg (by decide), if_pos rfl]
      exact ih (v + 1) g _ (by omega) (by omega)
    · rw [q, if_pos (nI_pos' (by omega)), if_neg (x_nm1 (by omega)), x_or0]
      exact ih (v + 1) g _ (by omega) (by omega)
theorem t_secret (a1 a2 : Int32) : r_st (f_X6_secret a1 a2) (f_X7_secret a1 a2) := by
  intro M hR
  obtain ⟨nS, nC, nW, nT, d, hP⟩ := id hR
  obtain ⟨⟨b1, b2, b3, b4, b5⟩, c1, c2, c3, c4, c5⟩ := hP.1.1.1
  have hE := hP.1.2.1
  by_cases g1 : f_X6_isCloth a1 M = 0
  · exact ⟨_, M, M, by rw [f_X6_secret, if_pos g1], by rw [f_X7_secret, g_cloth hE, if_pos g1], hR⟩
  by_cases g3 : f_X6_within a2 0 300 = 0
  · exact ⟨_, M, M, by rw [f_X6_secret, if_neg g1, if_pos g3], by rw [f_X7_secret, g_cloth hE, if_neg g1, g_in a2 0 300 (by decide) (by decide), if_pos g3], hR⟩
  obtain ⟨c, hc, rfl⟩ := n_cloth c2 b2 g1
  obtain ⟨n, -, hn, rfl⟩ := q_wb (lo := 0) (hi := 300) (by omega) (by omega) g3
  obtain ⟨Ma, k1, k2⟩ := x_begin (o := 6) (Or.inl rfl) (show c < 6 by omega) M
  obtain ⟨M1, k3, day', k4⟩ := x_tdays (Or.inl rfl) (p_ch hP) (show n < 1000 by omega) k2
  have k5 := x_secC (p_ch hP) b3 c3 k4 4 0 sk_FU 0 (by omega) (by unfold sk_FU; omega)
  obtain ⟨M', m1, m2, day2, m3⟩ := x_goMany hc hP.1.1.2.2.2 (show n < 1000 by omega) (x_ms0 hP hc (x_thU k4))
  obtain ⟨M2, z1, z2⟩ := x_end hP (x_thU k4) m2 m3
  have m4 := x_secM (show c < 6 by omega) b3 c3 m3 4 0 sk_FU 0 (by omega) (by unfold sk_FU; omega)
  refine ⟨z_se M nS nW (x_rn 10 M nS (M 16 c) n (M (20 + c)) (M 10 14)) 0 4 0, M1, M2, ?_, ?_, nS, nC, nW, nT, d, z2⟩
  · rw [f_X6_secret, if_neg g1, if_neg g3, k1, q_b1, k3, q_b1]
    show sk_b1 (f_X6_secret_L43 M1 sk_FU 0 (nI 0)) _ = _
    rw [k5, q_b1]
    rfl
  · rw [f_X7_secret, g_cloth1 (M := M) (by rw [x_thU k4 89 (by omega) (by omega) (by omega)]; exact hE 1 (by omega)), if_neg g1, g_in (nI n) 0 300 (by decide) (by decide), if_neg g3, x_by, q_b1, m1, q_b1]
    show sk_b1 (f_X7_secret_L37 (nI c) M' sk_FU 0 (nI 0)) _ = _
    rw [m4, q_b1, z1, q_b1]
theorem t_smells (a1 a2 : Int32) : r_sr (f_X6_smells a1 a2) (f_X7_smells a1 a2) := by
  intro M hR
  obtain ⟨nS, nC, nW, nT, d, hP⟩ := id hR
  obtain ⟨⟨b1, b2, b3, b4, b5⟩, c1, c2, c3, c4, c5⟩ := hP.1.1.1
  have hE := hP.1.2.1
  by_cases g1 : f_X6_isCloth a1 M = 0
  · exact ⟨_, by rw [f_X6_smells, if_pos g1], by rw [f_X7_smells, g_cloth hE, if_pos g1]⟩
  by_cases g2 : f_X6_isNose a2 = 0
  · exact ⟨_, by rw [f_X6_smells, if_neg g1, if_pos g2], by rw [f_X7_smells, g_cloth hE, if_neg g1, g_nose, if_pos g2]⟩
  obtain ⟨c, hc, rfl⟩ := n_cloth c2 b2 g1
  obtain ⟨v, hv, rfl⟩ := n_nose g2
  refine ⟨_, by rw [f_X6_smells, if_neg g1, if_neg g2, q_chkI (by omega) (by omega), q_clamp (by omega), x_smelled b1 c1 hv, q_b1], ?_⟩
  rw [f_X7_smells, g_cloth hE, if_neg g1, g_nose, if_neg g2, x_msmell b1 c1 (r_eq_fix hE).1 (by omega) hv, q_b1]
  congr 1
  exact x_smell_c (fun j hj => ⟨rfl, (r_eq_fix hE).2.2 c (by omega) j (by omega)⟩)
theorem t_says (a1 a2 : Int32) : r_sr (f_X6_says a1 a2) (f_X7_says a1 a2) := by
  intro M hR
  obtain ⟨nS, nC, nW, nT, d, hP⟩ := id hR
  obtain ⟨⟨b1, b2, b3, b4, b5⟩, c1, c2, c3, c4, c5⟩ := hP.1.1.1
  have hE := hP.1.2.1
  by_cases g1 : f_X6_isCloth a1 M = 0
  · exact ⟨_, by rw [f_X6_says, if_pos g1], by rw [f_X7_says, g_cloth hE, if_pos g1]⟩
  by_cases g2 : f_X6_isNose a2 = 0
  · exact ⟨_, by rw [f_X6_says, if_neg g1, if_pos g2], by rw [f_X7_says, g_cloth hE, if_neg g1, g_nose, if_pos g2]⟩
  obtain ⟨c, hc, rfl⟩ := n_cloth c2 b2 g1
  obtain ⟨v, hv, rfl⟩ := n_nose g2
  refine ⟨_, by rw [f_X6_says, if_neg g1, if_neg g2, q_chkI (by omega) (by omega), q_clamp (by omega), x_saidC b1 b3 c1 c3 hv, q_b1], ?_⟩
  rw [f_X7_says, g_cloth hE, if_neg g1, g_nose, if_neg g2, x_msaid b1 b3 c1 c3 (r_eq_fix hE).1 (by omega) hv, q_b1]
  congr 2
  exact x_said_c (fun j hj => ⟨rfl, (r_eq_fix hE).2.2 c (by omega) j (by omega)⟩) rfl
theorem t_loses (a1 a2 : Int32) : r_st (f_X6_loses a1 a2) (f_X7_loses a1 a2) := by
  intro M hR
  obtain ⟨nS, nC, nW, nT, d, hP⟩ := id hR
  obtain ⟨⟨b1, b2, b3, b4, b5⟩, c1, c2, c3, c4, c5⟩ := hP.1.1.1
  have hE := hP.1.2.1
  by_cases g1 : f_X6_isSpot a1 a2 M = 0
  · refine ⟨_, M, M, by rw [f_X6_loses, if_pos g1], ?_, hR⟩
    rcases g_spot0 g1 with q | ⟨q1, q2⟩
    · rw [f_X7_loses, g_cloth hE, if_pos q]
    · rw [f_X7_loses, g_cloth hE, if_neg q1, g_scent hE, if_pos q2]
  obtain ⟨⟨q1, q2⟩, ⟨c, hc, rfl⟩, k, hk, rfl⟩ := n_spot c1 b1 c2 b2 g1
  obtain ⟨B, hB⟩ := x_lossC (k := k) (Or.inl rfl) (by omega) b4 hP.1.1.2.2.2 (x_ctx_of b4 hP.1.2.2).2 (M (20 + c) k) (M 16 c) (M 10 14)
  have ho : ∀ o, o ≠ 47 → sk_uA M 47 B o = M o := fun o q => sk_uA_ne _ _ q
  have hmh : x_mh 10 nS nC nT (sk_uA M 47 B) := x_mh_c2 (p_mh hP) (fun o q => ho o (by omega)) (fun o _ _ q => ho o q) (by rw [ho 89 (by omega)]; exact fun i _ _ => rfl) (by rw [ho 89 (by omega)]; exact (p_mh hP).2.2.2.2.2.2)
  obtain ⟨M2, h1, h2, h3⟩ := x_losesOn (c := c) (k := k) hmh (by omega) (by omega)
  have hls : x_ls 10 (sk_uA M 47 B) = x_ls 10 M := x_ls_c b4 hP.1.1.2.2.2 (fun o q => ho o (by omega)) (fun o _ _ q => ho o q)
  rw [hls, ho 89 (by omega), (r_eq_fix hE).2.2 c (by omega) k (by omega), (r_eq_fix hE).1.2.2.2.1 c (by omega), (r_eq_fix hE).2.1] at h1
  refine ⟨x_ls 10 M k (M (20 + c) k) (M 16 c) (M 10 14), sk_uA M 47 B, M2, ?_, ?_, nS, nC, nW, nT, d, p_scr hP ?_ ?_⟩
  · rw [f_X6_loses, if_neg g1, q_chkI (by omega) (by omega), q_chkI (by omega) (by omega), q_chkI (by omega) (by omega), q_clamp (by omega), q_clamp (by omega), hB, q_b2]
  · rw [f_X7_loses, g_cloth1 (M := M) (by rw [ho 89 (by omega)]; exact hE 1 (by omega)), if_neg q1, g_scent1 (M := M) (by rw [ho 89 (by omega)]; exact hE 0 (by omega)), if_neg q2, h1, q_b2]
  · intro o z1 z2
    unfold r_scr at z1
    rw [h2 o z2 (by omega) (by omega)]; exact ho o (by omega)
  · intro i hi
    rw [h3, ho 89 (by omega)]
theorem t_why (a1 : Int32) : r_sr (f_X6_why a1) (f_X7_why a1) := by
  intro M hR
  obtain ⟨nS, nC, nW, nT, d, hP⟩ := id hR
  obtain ⟨⟨b1, b2, b3, b4, b5⟩, c1, c2, c3, c4, c5⟩ := hP.1.1.1
  have hE := hP.1.2.1
  by_cases g1 : f_X6_within a1 0 2 = 0
  · exact ⟨_, by rw [f_X6_why, if_pos g1], by rw [f_X7_why, g_in a1 0 2 (by decide) (by decide), if_pos g1]⟩
  obtain ⟨k, -, hk, rfl⟩ := q_wb (lo := 0) (hi := 2) (by omega) (by omega) g1
  have hc := hP.1.1.2.2.2 k (by omega)
  exact ⟨_, by rw [f_X6_why, if_neg g1, q_chkI (by omega) (by omega), q_clamp (by omega)], by rw [f_X7_why, g_in (nI k) 0 2 (by decide) (by decide), if_neg g1, x_counts (A := M 45) ((hE 3 (by omega)).trans c4) b4 (fun i hi => (hP.1.2.2 i hi).1), q_b1, ← hc]⟩
theorem t_textTold (a1 a2 : Int32) : r_sr (f_X6_textTold a1 a2) (f_X7_textTold a1 a2) := by
  intro M hR
  obtain ⟨nS, nC, nW, nT, d, hP⟩ := id hR
  obtain ⟨⟨b1, b2, b3, b4, b5⟩, c1, c2, c3, c4, c5⟩ := hP.1.1.1
  have hE := hP.1.2.1
  by_cases g1 : f_X6_within a1 0 (M 10 13 - 1) = 0
  · exact ⟨_, by rw [f_X6_textTold, if_pos g1], by rw [f_X7_textTold, g_text hE, if_pos g1]⟩
  by_cases g2 : f_X6_within a2 0 1 = 0
  · exact ⟨_, by rw [f_X6_textTold, if_neg g1, if_pos g2], by rw [f_X7_textTold, g_text hE, if_neg g1, g_in a2 0 1 (by decide) (by decide), if_pos g2]⟩
  obtain ⟨i, hi, rfl⟩ := q_wn (a := a1) (n := nT) (by omega) (by rw [← c4]; exact g1)
  obtain ⟨j, -, hj, rfl⟩ := q_wb (lo := 0) (hi := 1) (by omega) (by omega) g2
  obtain ⟨t1, t2, -⟩ := hP.1.2.2 i hi
  rw [f_X6_textTold, if_neg g1, if_neg g2, f_X7_textTold, g_text hE, if_neg g1, g_in (nI j) 0 1 (by decide) (by decide), if_neg g2, x_ta, nI_add, q_chkI (by omega) (by omega), q_clamp (by omega), q_chkI (by omega) (by omega), q_chkI (by omega) (by omega), q_clamp (by omega)]
  match j, hj with
  | 0, _ => exact ⟨_, by rw [if_pos (show nI 0 = 0 from rfl)], by rw [Nat.add_zero, t1]⟩
  | 1, _ => exact ⟨_, by rw [if_neg (by decide)], by rw [show 109 + 200 * i + 1 = 110 + 200 * i by omega, t2]⟩
-- price, lie
def x_pr (r : Nat → Int32) : Nat → Nat → Int32 → Int32
  | _, 0, s => s
  | k, m + 1, s => x_pr r (k + 1) m (if r k = 0 then s else s + 1)
theorem x_pr_s (r : Nat → Int32) (k m : Nat) (s : Int32) : x_pr r k (m + 1) s = x_pr r (k + 1) m (if r k = 0 then s else s + 1) := rfl
theorem x_presL {w o nS : Nat} {M : sk_M} (h9 : nS ≤ 9) (hn : M w 10 = nI nS) : ∀ (m k fu : Nat) (s : Int32), k + m = nS → m < fu → f_X5_present_L4 w o M fu s (nI k) = some (x_pr (M o) k m s) := by
  intro m
  induction m with
  | zero =>
    intro k fu s hk hfu
    obtain ⟨g, rfl⟩ : ∃ g, fu = g + 1 := ⟨fu - 1, by omega⟩
    rw [f_X5_present_L4, hn, if_pos (nI_le (by omega) (by omega))]
    rfl
  | succ m ih =>
    intro k fu s hk hfu
    obtain ⟨g, rfl⟩ : ∃ g, fu = g + 1 := ⟨fu - 1, by omega⟩
    rw [f_X5_present_L4, hn, if_neg (nI_ge (by omega) (by omega)), q_chkI (by omega) (by omega), q_clamp (by omega), nI_1, x_pr_s]
    by_cases q : M o k = 0
    · rw [if_pos q, if_pos q]; exact ih (k + 1) g _ (by omega) (by omega)
    · rw [if_neg q, if_neg q]; exact ih (k + 1) g _ (by omega) (by omega)
theorem x_mpresL {c nS : Nat} {M : sk_M} (a2 : Int32) (h9 : nS ≤ 9) (hc : c < 6) (hn : M 89 0 = nI nS) {r : Nat → Int32} (hr : ∀ k, k < 9 → M 89 (43 + 9 * c + k) = r k) : ∀ (m k fu : Nat) (s : Int32), k + m = nS → m < fu → f_X7_price_L32 (nI c) a2 M fu s (nI k) = some (x_pr r k m s) := by
  intro m
  induction m with
  | zero =>
    intro k fu s hk hfu
    obtain ⟨g, rfl⟩ : ∃ g, fu = g + 1 := ⟨fu - 1, by omega⟩
    rw [f_X7_price_L32, hn, if_pos (nI_le (by omega) (by omega))]
    rfl
  | succ m ih =>
    intro k fu s hk hfu
    obtain ⟨g, rfl⟩ : ∃ g, fu = g + 1 := ⟨fu - 1, by omega⟩
    rw [f_X7_price_L32, hn, if_neg (nI_ge (by omega) (by omega)), x_on hc (by omega), q_b1, q_let, hr k (by omega), nI_1, x_pr_s]
    have e : s + (if r k = 0 then 0 else 1) = if r k = 0 then s else s + 1 := by
      by_cases q : r k = 0
      · rw [if_pos q, if_pos q]; simp
      · rw [if_neg q, if_neg q]
    rw [e]
    exact ih (k + 1) g _ (by omega) (by omega)
theorem x_wk {nT i key : Nat} {M M' : sk_M} (h14 : nT ≤ 14) (hT : r_txt 89 nT M) (hi : i < nT) (hk : M 45 i = nI key) (hkey : key < 3) (h89 : M' 89 = M 89) (a b c : Int32) (hnm : ∀ q L, x_nl key q = some L → M' 103 L = f_X3_named ((-3) + nI q) a b c) :
    ∃ B, f_X7_worked (nI i) M' = some (x_val M i a b c, sk_uA M' 104 B) := by
  obtain ⟨t1, t2, t3, key', sz, z1, z2, z3, z4, z5, z6⟩ := hT i hi
  have ek : key' = key := q_inj (by omega) (by omega) (z2.symm.trans hk)
  subst ek
  obtain ⟨B, hB⟩ := x_work (i := i) (f := M (48 + i)) (by omega) z3 z5 a b c M' (by rw [h89, t3, z4]) (fun j hj => by rw [h89]; exact z6 j hj) hnm
  refine ⟨B, ?_⟩
  rw [hB]
  unfold x_val
  rw [z4, q_clamp (by omega)]
theorem t_price (a1 : Int32) : r_st (f_X6_price a1) (f_X7_price a1) := by
  intro M hR
  obtain ⟨nS, nC, nW, nT, d, hP⟩ := id hR
  obtain ⟨⟨b1, b2, b3, b4, b5⟩, c1, c2, c3, c4, c5⟩ := hP.1.1.1
  have hE := hP.1.2.1
  have hT := hP.1.2.2
  by_cases g1 : f_X6_isCloth a1 M = 0
  · exact ⟨_, M, M, by rw [f_X6_price, if_pos g1], by rw [f_X7_price, g_cloth hE, if_pos g1], hR⟩
  obtain ⟨c, hc, rfl⟩ := n_cloth c2 b2 g1
  have hcn : ∀ N : sk_M, N 89 = M 89 → f_X7_counts 1 N = some (x_last (M 45) (nI 1) nT) := fun N hN => x_counts (A := M 45) (by rw [hN]; exact (hE 3 (by omega)).trans c4) b4 (fun i hi => by rw [hN]; exact (hT i hi).1)
  have hrow : ∀ k, k < 9 → M 89 (43 + 9 * c + k) = M (20 + c) k := fun k hk => (r_eq_fix hE).2.2 c (by omega) k hk
  have hal : ∀ N : sk_M, N 89 = M 89 → f_X7_allOn (nI c) N = some (x_sum (M (20 + c)) nS) := fun N hN => by
    rw [x_allOn b1 (by omega) (by rw [hN]; exact (hE 0 (by omega)).trans c1)]
    congr 1
    exact x_sum_c (fun j hj => by rw [hN]; exact hrow j (by omega))
  rcases x_cou0 b4 hP.1.1.2.2.2 (k := 1) (by omega) with ⟨h, h'⟩ | ⟨i, q1, q2, q3, q4⟩
  · have hh : M 18 1 = -1000000005 := h
    refine ⟨x_sum (M (20 + c)) nS, M, M, ?_, ?_, hR⟩
    · rw [f_X6_price, if_neg g1, q_chkI (by omega) (by omega), q_clamp (by omega), x_sumOf b1 c1, q_b1, q_let, if_pos hh]
    · rw [f_X7_price, g_cloth hE, if_neg g1, hcn M rfl, q_b1, h', if_neg (by decide), hal M rfl, q_b1]
  · have hh : M 18 1 = nI i := q3
    have hp := x_presL (o := 20 + c) b1 c1 nS 0 sk_FU 0 (by omega) (by unfold sk_FU; omega)
    have hp' : f_X5_present 10 (20 + c) M = some (x_pr (M (20 + c)) 0 nS 0) := by
      have h0 : f_X5_present_L4 10 (20 + c) M sk_FU 0 0 = _ := hp
      rw [f_X5_present, h0, q_b1]
    obtain ⟨sz, s1, s2, s3⟩ := (x_ctx_of b4 hT).2 i q1
    obtain ⟨B, hB⟩ := x_give (by omega) s1 s3 s2 (x_sum (M (20 + c)) nS) (x_pr (M (20 + c)) 0 nS 0) 0
    have ho : ∀ o, o ≠ 47 → sk_uA M 47 B o = M o := fun o q => sk_uA_ne _ _ q
    have hmp : f_X7_price_L32 (nI c) (nI i) (sk_uA M 47 B) sk_FU 0 0 = some (x_pr (M (20 + c)) 0 nS 0) := x_mpresL (nI i) b1 (by omega) (by rw [ho 89 (by omega)]; exact (hE 0 (by omega)).trans c1) (fun k hk => by rw [ho 89 (by omega)]; exact hrow k hk) nS 0 sk_FU 0 (by omega) (by unfold sk_FU; omega)
    generalize hM' : sk_u (sk_u (sk_uA M 47 B) 103 116 (x_sum (M (20 + c)) nS)) 103 110 (x_pr (M (20 + c)) 0 nS 0) = M'
    have h89 : M' 89 = M 89 := by rw [← hM', q_uo (by omega), q_uo (by omega), ho 89 (by omega)]
    obtain ⟨B2, hB2⟩ := x_wk (M' := M') b4 hT q1 q2 (by omega) h89 (x_sum (M (20 + c)) nS) (x_pr (M (20 + c)) 0 nS 0) 0 (by
      intro q L hq
      rw [← hM']
      match q, (x_nl_lt hq).1 with
      | 0, _ => cases hq; rw [q_un (by omega), q_ue]; rfl
      | 1, _ => cases hq; rw [q_ue]; rfl
      | 2, _ => cases hq)
    refine ⟨x_val M i (x_sum (M (20 + c)) nS) (x_pr (M (20 + c)) 0 nS 0) 0, sk_uA M 47 B, sk_uA M' 104 B2, ?_, ?_, nS, nC, nW, nT, d, p_scr hP ?_ ?_⟩
    · rw [f_X6_price, if_neg g1, q_chkI (by omega) (by omega), q_clamp (by omega), x_sumOf b1 c1, q_b1, q_let, hh, if_neg (x_nN (by omega)), q_chkI (by omega) (by omega), hp', q_b1, hB, q_b2]
    · rw [f_X7_price, g_cloth1 (M := M) (by rw [ho 89 (by omega)]; exact hE 1 (by omega)), if_neg g1, hcn _ (ho 89 (by omega)), q_b1, q4, if_pos (nI_pos' (by omega)), hmp, q_b1, hal _ (ho 89 (by omega)), q_b1, q_let, q_let, hM', hB2, q_b2]
    · intro o z1 z2
      unfold r_scr at z1
      rw [sk_uA_ne _ _ (by omega), ← hM', q_uo (by omega), q_uo (by omega)]; exact ho o (by omega)
    · intro j hj
      rw [sk_uA_ne _ _ (by omega), h89]
theorem t_lie (a1 : Int32) : r_st (f_X6_lie a1) (f_X7_lie a1) := by
  intro M hR
  obtain ⟨nS, nC, nW, nT, d, hP⟩ := id hR
  obtain ⟨⟨b1, b2, b3, b4, b5⟩, c1, c2, c3, c4, c5⟩ := hP.1.1.1
  have hE := hP.1.2.1
  have hT := hP.1.2.2
  by_cases g1 : f_X6_isCloth a1 M = 0
  · exact ⟨_, M, M, by rw [f_X6_lie, if_pos g1], by rw [f_X7_lie, g_cloth hE, if_pos g1], hR⟩
  obtain ⟨c, hc, rfl⟩ := n_cloth c2 b2 g1
  have hcn : ∀ N : sk_M, N 89 = M 89 → f_X7_counts 2 N = some (x_last (M 45) (nI 2) nT) := fun N hN => x_counts (A := M 45) (by rw [hN]; exact (hE 3 (by omega)).trans c4) b4 (fun i hi => by rw [hN]; exact (hT i hi).1)
  rcases x_cou0 b4 hP.1.1.2.2.2 (k := 2) (by omega) with ⟨h, h'⟩ | ⟨i, q1, q2, q3, q4⟩
  · have hh : M 18 2 = -1000000005 := h
    refine ⟨0, M, M, ?_, ?_, hR⟩
    · rw [f_X6_lie, if_neg g1, q_let, if_pos hh]
    · rw [f_X7_lie, g_cloth hE, if_neg g1, hcn M rfl, q_b1, h', if_neg (by decide)]
  · have hh : M 18 2 = nI i := q3
    have hsc := x_saidC (o := 20 + c) (v := 0) b1 b3 c1 c3 (by omega)
    generalize hsd : x_said (M 13) (M 15) (M (20 + c)) (M 14 0) nS nW = sd at hsc
    have hsc' : f_X5_said 10 (20 + c) 0 M = some (f_X7_orNone sd) := by rw [← hsd]; exact x_saidC (o := 20 + c) (v := 0) b1 b3 c1 c3 (by omega)
    have hw99 : f_X6_wordOr99 (f_X7_orNone sd) = (if 0 ≤ sd then sd else 99) := by
      rcases x_said_cases (M 13) (M 15) (M (20 + c)) (M 14 0) nS nW with q | ⟨j, hj, q⟩
      · rw [← hsd, q]; rfl
      · rw [← hsd, q, x_orN (by omega), if_pos (nI_pos' (by omega)), f_X6_wordOr99, if_neg (x_nN (by omega))]
    obtain ⟨sz, s1, s2, s3⟩ := (x_ctx_of b4 hT).2 i q1
    obtain ⟨B, hB⟩ := x_give (by omega) s1 s3 s2 (M 10 14) (if 0 ≤ sd then sd else 99) 0
    have ho : ∀ o, o ≠ 47 → sk_uA M 47 B o = M o := fun o q => sk_uA_ne _ _ q
    generalize hM3 : sk_u (sk_uA M 47 B) 103 100 (M 10 14) = M3
    have h3 : ∀ o, o ≠ 47 → o ≠ 103 → M3 o = M o := fun o z1 z2 => by rw [← hM3, q_uo z2]; exact ho o z1
    have hms : f_X7_saidBy (nI c) 0 M3 = some sd := by
      have hx := x_msaid (w := 10) (M := M3) (c := c) (v := 0) b1 b3 (by rw [h3 10 (by omega) (by omega)]; exact c1) (by rw [h3 10 (by omega) (by omega)]; exact c3) (r_fix_c (M := M) (fun o q => h3 o (by omega) (by omega)) (by rw [h3 89 (by omega) (by omega)]; exact fun i _ _ => rfl) (r_eq_fix hE).1) (by omega) (by omega)
      have hx' : f_X7_saidBy (nI c) 0 M3 = _ := hx
      rw [hx', ← hsd, h3 (10 + 3) (by omega) (by omega), h3 (10 + 5) (by omega) (by omega), h3 (10 + 4) (by omega) (by omega)]
      congr 1
      exact x_said_c (fun j hj => ⟨rfl, by rw [h3 89 (by omega) (by omega)]; exact (r_eq_fix hE).2.2 c (by omega) j (by omega)⟩) rfl
    generalize hM' : sk_u M3 103 110 (if 0 ≤ sd then sd else 99) = M'
    have h89 : M' 89 = M 89 := by rw [← hM', q_uo (by omega), h3 89 (by omega) (by omega)]
    obtain ⟨B2, hB2⟩ := x_wk (M' := M') b4 hT q1 q2 (by omega) h89 (M 10 14) (if 0 ≤ sd then sd else 99) 0 (by
      intro q L hq
      rw [← hM']
      match q, (x_nl_lt hq).1 with
      | 0, _ => cases hq; rw [q_un (by omega), ← hM3, q_ue]; rfl
      | 1, _ => cases hq; rw [q_ue]; rfl
      | 2, _ => cases hq)
    refine ⟨x_val M i (M 10 14) (if 0 ≤ sd then sd else 99) 0, sk_uA M 47 B, sk_uA M' 104 B2, ?_, ?_, nS, nC, nW, nT, d, p_scr hP ?_ ?_⟩
    · rw [f_X6_lie, if_neg g1, q_let, hh, if_neg (x_nN (by omega)), q_chkI (by omega) (by omega), q_clamp (by omega), hsc', q_b1, hw99, hB, q_b2]
    · rw [f_X7_lie, g_cloth1 (M := M) (by rw [ho 89 (by omega)]; exact hE 1 (by omega)), if_neg g1, hcn _ (ho 89 (by omega)), q_b1, q4, if_pos (nI_pos' (by omega)), q_let, ho 89 (by omega), (r_eq_fix hE).2.1, hM3, f_X7_saidOr, hms, q_b1, q_b1, q_let, hM', hB2, q_b2]
    · intro o z1 z2
      unfold r_scr at z1
      rw [sk_uA_ne _ _ (by omega), ← hM', q_uo (by omega)]; exact h3 o (by omega) (by omega)
    · intro j hj
      rw [sk_uA_ne _ _ (by omega), h89]
