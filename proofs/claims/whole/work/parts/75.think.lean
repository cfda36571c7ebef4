/-! Thinking on by days: the class on a row of its own, the reference in earnest and back. -/
theorem p_ch {nS nC nW nT d : Nat} {M : sk_M} (h : r_p nS nC nW nT d M) : x_ch 10 nS nC nT M := by
  obtain ⟨⟨⟨⟨⟨b1, b2, b3, b4, b5⟩, c1, c2, c3, c4, c5⟩, hrng, hzero, hcou⟩, hE, hT⟩, hO⟩ := h
  exact ⟨Or.inl rfl, b1, b2, c1, c2, x_ctx_of b4 hT, hcou⟩
theorem p_mh {nS nC nW nT d : Nat} {M : sk_M} (h : r_p nS nC nW nT d M) : x_mh 10 nS nC nT M := by
  obtain ⟨⟨⟨⟨⟨b1, b2, b3, b4, b5⟩, c1, c2, c3, c4, c5⟩, hrng, hzero, hcou⟩, hE, hT⟩, hO⟩ := h
  exact ⟨⟨Or.inl rfl, b1, b2, b4⟩, ⟨c1, c2, c4⟩, (r_eq_fix hE).1, hcou, hT, hrng.2.2.1, fun c hc k hk => by rw [(r_eq_fix hE).2.2 c hc k hk]; exact hrng.2.2.2.2 c hc k hk⟩
theorem x_mh_c2 {w nS nC nT : Nat} {M M' : sk_M} (h : x_mh w nS nC nT M) (c1 : r_cs w M M') (c2 : r_lib M M') (ha : r_ag (M 89) (M' 89)) (hr : ∀ c, c < 6 → ∀ k, k < 9 → ∃ v : Nat, M' 89 (43 + 9 * c + k) = nI v ∧ v ≤ 999) : x_mh w nS nC nT M' := by
  obtain ⟨h1, h2, h3, h4, h5, h6, h7⟩ := h
  have e := c1 w (Or.inl ⟨by omega, by omega⟩)
  refine ⟨h1, ⟨by rw [e]; exact h2.1, by rw [e]; exact h2.2.1, by rw [e]; exact h2.2.2⟩, r_fix_c c1 ha h3, r_cou_c c1 c2 h4, r_txt_c h1.2.2.2 c2 (fun j hj => ha j (by omega) (by omega)) h5, fun k hk => ?_, hr⟩
  rw [c1 (w + 2) (Or.inl ⟨by omega, by omega⟩)]
  exact h6 k hk
/-- scratch objects -/
def r_scr (o : Nat) : Prop := (4 ≤ o ∧ o ≤ 9) ∨ o = 19 ∨ o = 35 ∨ o = 42 ∨ o = 43 ∨ o = 47 ∨ o = 64 ∨ o = 91 ∨ o = 100 ∨ o = 101 ∨ (103 ≤ o ∧ o ≤ 106) ∨ o = 108
theorem r_txt_c2 {t nT : Nat} {M M' : sk_M} (hT : nT ≤ 14) (hl : r_lib M M') (ht : ∀ j, 109 ≤ j → j < 2909 → M' t j = M t j) (q : r_txt t nT M) : r_txt t nT M' := by
  intro i hi
  obtain ⟨q1, q2, q3, key, sz, q4, q5, q6, q7, q8, q9⟩ := q i hi
  refine ⟨?_, ?_, ?_, key, sz, q4, ?_, q6, ?_, ?_, ?_⟩
  · rw [ht _ (by omega) (by omega), hl 45 (by omega) (by omega) (by omega)]; exact q1
  · rw [ht _ (by omega) (by omega), hl 46 (by omega) (by omega) (by omega)]; exact q2
  · rw [ht _ (by omega) (by omega), hl 44 (by omega) (by omega) (by omega)]; exact q3
  · rw [hl 45 (by omega) (by omega) (by omega)]; exact q5
  · rw [hl 44 (by omega) (by omega) (by omega)]; exact q7
  · rw [hl (48 + i) (by omega) (by omega) (by omega)]; exact q8
  · intro j hj
    rw [hl (48 + i) (by omega) (by omega) (by omega), ht _ (by omega) (by omega), ht _ (by omega) (by omega)]
    exact q9 j hj
theorem p_scr {nS nC nW nT d : Nat} {M M' : sk_M} (h : r_p nS nC nW nT d M) (hU : ∀ o, ¬ r_scr o → o ≠ 89 → M' o = M o) (h89 : ∀ i, i < 2909 → M' 89 i = M 89 i) : r_p nS nC nW nT d M' := by
  unfold r_scr at hU
  obtain ⟨⟨hI, hE, hT⟩, hO⟩ := h
  have b4 := hI.1.1.2.2.2.1
  refine ⟨⟨r_inv_c hI (fun o ho => hU o (by omega) (by omega)) (hU 45 (by omega) (by omega)), r_eq_c hE (fun o ho => hU o (by omega) (by omega)) (fun i hi => h89 i (by omega)), r_txt_c2 b4 (fun o q1 q2 q3 => hU o (by omega) (by omega)) (fun j _ hj => h89 j hj) hT⟩, ?_⟩
  obtain ⟨h1, h2, h3, h4, h5⟩ := hO
  refine ⟨r_img_c (Nat.le_refl _) ?_ ?_ ?_ ?_ ?_ ?_ h1, r_wait_c ?_ ?_ ?_ ?_ h2, r_tape_c ?_ ?_ ?_ ?_ h3, r_sh_c ?_ h4, r_sl_c ?_ h5⟩
  · rw [hU 0 (by omega) (by omega)]
  · rw [hU 88 (by omega) (by omega)]
  · intro o ho; exact hU o (by omega) (by omega)
  · exact hU 90 (by omega) (by omega)
  · intro o ho j hj; rw [hU o (by omega) (by omega)]
  · intro i hi; exact hU _ (by omega) (by omega)
  · rw [hU 0 (by omega) (by omega)]
  · exact hU 3 (by omega) (by omega)
  · rw [hU 88 (by omega) (by omega)]
  · exact hU 107 (by omega) (by omega)
  · rw [hU 62 (by omega) (by omega)]
  · exact hU 63 (by omega) (by omega)
  · rw [hU 88 (by omega) (by omega)]
  · exact hU 102 (by omega) (by omega)
  · intro o ho; exact hU o (by omega) (by omega)
  · intro o ho; exact hU o (by omega) (by omega)
-- the reference, thinking
def x_rel (c : Nat) (r T : Nat → Int32) (warm day : Int32) : Prop := (∀ k, k < 9 → r k = T (43 + 9 * c + k)) ∧ T (37 + c) = warm ∧ T 4 = day
def x_ms (w nS nC nT : Nat) (M0 : sk_M) (c : Nat) (r : Nat → Int32) (warm day : Int32) (M : sk_M) : Prop := x_mh w nS nC nT M ∧ r_cs w M0 M ∧ r_lib M0 M ∧ r_ag (M0 89) (M 89) ∧ x_rel c r (M 89) warm day
theorem x_mstep {w nS nC nT c : Nat} {M0 M : sk_M} {r : Nat → Int32} {warm day : Int32} (hc : c < nC) (hcou : r_cou w nT M0) (h : x_ms w nS nC nT M0 c r warm day M) :
    ∃ M', f_X7_goesOn M = some M' ∧ x_o3 M M' ∧ x_ms w nS nC nT M0 c (x_fr w M0 nS r warm day) warm (day + 1) M' := by
  obtain ⟨h1, h2, h3, h4, h5, h6, h7⟩ := h
  obtain ⟨M', g1, g2, g3, g4⟩ := x_goesOn h1
  obtain ⟨⟨k1, k2, k3, k4⟩, -⟩ := h1
  have hw : w ≤ 26 := by rcases k1 with rfl | rfl <;> decide
  have hls : x_ls w M = x_ls w M0 := x_ls_c k4 hcou h2 h3
  refine ⟨M', g1, g2, g4, ?_, ?_, ?_, ?_, ?_, ?_⟩
  · exact fun o q => (g2.lt o (by omega)).trans (h2 o q)
  · exact fun o q1 q2 q3 => (g2.lt o (by omega)).trans (h3 o q1 q2 q3)
  · intro i q1 q2
    rw [g3]
    unfold x_day
    rw [q_upd, if_neg q1, x_gc_ag w M nS (M 89) k3 i q1 q2]
    exact h4 i q1 q2
  · intro k hk
    rw [g3]
    unfold x_day
    rw [q_upd, if_neg (by omega)]
    unfold x_gc x_fr
    rw [hls, h7, show (43 + 9 * c + k - 43) % 9 = k by omega, show (43 + 9 * c + k - 43) / 9 = c by omega, h6, h5 k hk]
    by_cases q : k < nS
    · rw [if_pos q, if_pos (by omega)]
    · rw [if_neg q, if_neg (by omega)]
  · rw [g3]
    unfold x_day
    rw [q_upd, if_neg (by omega), x_gc_ag w M nS (M 89) k3 _ (by omega) (by omega)]
    exact h6
  · rw [g3]
    unfold x_day
    rw [q_upd, if_pos rfl, h7]
theorem x_msaidS {w nS nC nT nW c v : Nat} {M0 M : sk_M} {r : Nat → Int32} {warm day : Int32} (h12 : nW ≤ 12) (hw : M0 w 11 = nI nW) (hc : c < 6) (hv : v < 4) (h : x_ms w nS nC nT M0 c r warm day M) :
    f_X7_saidBy (nI c) (nI v) M = some (x_said (M0 (w + 3)) (M0 (w + 5)) r (M0 (w + 4) v) nS nW) := by
  obtain ⟨h1, h2, h3, h4, h5, h6, h7⟩ := h
  obtain ⟨⟨k1, k2, k3, k4⟩, ⟨k5, k6, k7⟩, k8, -⟩ := h1
  rw [x_msaid k2 h12 k5 (by rw [h2 w (Or.inl ⟨by omega, by omega⟩)]; exact hw) k8 hc hv, h2 (w + 3) (Or.inl ⟨by omega, by omega⟩), h2 (w + 5) (Or.inl ⟨by omega, by omega⟩), h2 (w + 4) (Or.inl ⟨by omega, by omega⟩)]
  congr 1
  exact x_said_c (fun j hj => ⟨rfl, (h5 j (by omega)).symm⟩) rfl
theorem x_msmellS {w nS nC nT c v : Nat} {M0 M : sk_M} {r : Nat → Int32} {warm day : Int32} (hc : c < 6) (hv : v < 4) (h : x_ms w nS nC nT M0 c r warm day M) :
    f_X7_smeltOn (nI c) (nI v) M = some (x_smell (M0 (w + 3)) r (M0 (w + 4) v) nS) := by
  obtain ⟨h1, h2, h3, h4, h5, h6, h7⟩ := h
  obtain ⟨⟨k1, k2, k3, k4⟩, ⟨k5, k6, k7⟩, k8, -⟩ := h1
  rw [x_msmell k2 k5 k8 hc hv, h2 (w + 3) (Or.inl ⟨by omega, by omega⟩), h2 (w + 4) (Or.inl ⟨by omega, by omega⟩)]
  congr 1
  exact x_smell_c (fun j hj => ⟨rfl, (h5 j (by omega)).symm⟩)
theorem x_msumS {w nS nC nT c : Nat} {M0 M : sk_M} {r : Nat → Int32} {warm day : Int32} (hc : c < 6) (h : x_ms w nS nC nT M0 c r warm day M) : f_X7_allOn (nI c) M = some (x_sum r nS) := by
  obtain ⟨h1, h2, h3, h4, h5, h6, h7⟩ := h
  obtain ⟨⟨k1, k2, k3, k4⟩, ⟨k5, k6, k7⟩, k8, -⟩ := h1
  rw [x_allOn k2 hc (k8.1.1.trans k5)]
  congr 1
  exact x_sum_c (fun j hj => (h5 j (by omega)).symm)
-- the class, thinking
theorem x_tsaid {o nS nC nT nW v : Nat} {M0 M : sk_M} {r : Nat → Int32} {warm day : Int32} (ho : sk_isT o) (hh : x_ch (sk_tw o) nS nC nT M0) (h12 : nW ≤ 12) (hw : M0 (sk_tw o) 11 = nI nW) (hv : v < 4) (h : x_th o M0 r warm day M) :
    f_X4_saidTo o (nI v) M = some (f_X7_orNone (x_said (M0 (sk_tw o + 3)) (M0 (sk_tw o + 5)) r (M0 (sk_tw o + 4) v) nS nW)) := by
  obtain ⟨c1, c2⟩ := x_th_cs ho rfl h
  obtain ⟨k1, k2, k3, k4, k5, k6, k7⟩ := x_ch_c hh c1 c2
  obtain ⟨a1, a2, a3, a4⟩ := h
  rw [f_X4_saidTo, x_saidC k2 h12 k4 (by rw [c1 _ (Or.inl ⟨by omega, by omega⟩)]; exact hw) hv, q_b1, c1 (sk_tw o + 3) (Or.inl ⟨by omega, by omega⟩), c1 (sk_tw o + 5) (Or.inl ⟨by omega, by omega⟩), c1 (sk_tw o + 4) (Or.inl ⟨by omega, by omega⟩)]
  congr 2
  exact x_said_c (fun j hj => ⟨rfl, a2 j (by omega)⟩) rfl
theorem x_tsmell {o nS nC nT v : Nat} {M0 M : sk_M} {r : Nat → Int32} {warm day : Int32} (ho : sk_isT o) (hh : x_ch (sk_tw o) nS nC nT M0) (hv : v < 4) (h : x_th o M0 r warm day M) :
    f_X4_smelledBy o (nI v) M = some (x_smell (M0 (sk_tw o + 3)) r (M0 (sk_tw o + 4) v) nS) := by
  obtain ⟨c1, c2⟩ := x_th_cs ho rfl h
  obtain ⟨k1, k2, k3, k4, k5, k6, k7⟩ := x_ch_c hh c1 c2
  obtain ⟨a1, a2, a3, a4⟩ := h
  rw [f_X4_smelledBy, x_smelled k2 k4 hv, q_b1, c1 (sk_tw o + 3) (Or.inl ⟨by omega, by omega⟩), c1 (sk_tw o + 4) (Or.inl ⟨by omega, by omega⟩)]
  congr 1
  exact x_smell_c (fun j hj => ⟨rfl, a2 j (by omega)⟩)
theorem x_tsum {o nS nC nT : Nat} {M0 M : sk_M} {r : Nat → Int32} {warm day : Int32} (ho : sk_isT o) (hh : x_ch (sk_tw o) nS nC nT M0) (h : x_th o M0 r warm day M) : f_X4_sum o M = some (x_sum r nS) := by
  obtain ⟨c1, c2⟩ := x_th_cs ho rfl h
  obtain ⟨k1, k2, k3, k4, k5, k6, k7⟩ := x_ch_c hh c1 c2
  obtain ⟨a1, a2, a3, a4⟩ := h
  rw [f_X4_sum, x_sumOf k2 k4, q_b1]
  congr 1
  exact x_sum_c (fun j hj => a2 j (by omega))
theorem x_goManyL {w nS nC nT c : Nat} {M0 : sk_M} {warm : Int32} (hc : c < nC) (hcou : r_cou w nT M0) {n : Nat} (hn : n < 1000) : ∀ (m i fu : Nat) (M : sk_M) (r : Nat → Int32) (day : Int32), i + m = n → m < fu → x_ms w nS nC nT M0 c r warm day M →
    ∃ M', f_X7_goesOnMany_L2 (nI n) fu (nI i) M = some M' ∧ x_o3 M M' ∧ ∃ day', x_ms w nS nC nT M0 c (x_rn w M0 nS warm m r day) warm day' M' := by
  intro m
  induction m with
  | zero =>
    intro i fu M r day hi hfu h
    obtain ⟨g, rfl⟩ : ∃ g, fu = g + 1 := ⟨fu - 1, by omega⟩
    exact ⟨M, by rw [f_X7_goesOnMany_L2, if_pos (nI_le (by omega) (by omega))], fun q _ _ _ => rfl, day, h⟩
  | succ m ih =>
    intro i fu M r day hi hfu h
    obtain ⟨g, rfl⟩ : ∃ g, fu = g + 1 := ⟨fu - 1, by omega⟩
    obtain ⟨M1, g1, g2, g3⟩ := x_mstep hc hcou h
    obtain ⟨M', k1, k2, k3⟩ := ih (i + 1) g M1 _ _ (by omega) (by omega) g3
    refine ⟨M', ?_, g2.trans k2, k3⟩
    rw [f_X7_goesOnMany_L2, if_neg (nI_ge (by omega) (by omega)), g1, q_b1, nI_1]
    exact k1
theorem x_goMany {w nS nC nT c n : Nat} {M0 M : sk_M} {r : Nat → Int32} {warm day : Int32} (hc : c < nC) (hcou : r_cou w nT M0) (hn : n < 1000) (h : x_ms w nS nC nT M0 c r warm day M) :
    ∃ M', f_X7_goesOnMany (nI n) M = some M' ∧ x_o3 M M' ∧ ∃ day', x_ms w nS nC nT M0 c (x_rn w M0 nS warm n r day) warm day' M' := by
  obtain ⟨M', g1, g2⟩ := x_goManyL hc hcou hn n 0 sk_FU M r day (by omega) (by unfold sk_FU; omega) h
  have g1' : f_X7_goesOnMany_L2 (nI n) sk_FU 0 M = some M' := g1
  exact ⟨M', by rw [f_X7_goesOnMany, g1', q_b1], g2⟩
/-- the start of both thoughts, from memory M with the class's thought done (M1) and what the reference has laid by -/
theorem x_ms0 {nS nC nW nT d c : Nat} {M M1 : sk_M} (h : r_p nS nC nW nT d M) (hc : c < nC) (hU : ∀ o, o ≠ 47 → o ≠ 6 → o ≠ 7 → M1 o = M o) : x_ms 10 nS nC nT M c (M (20 + c)) (M 16 c) (M 10 14) (sk_uA M1 100 (x_cp (M1 89) (M1 100) 109)) := by
  have hE := (r_eq_fix h.1.2.1)
  have hb := h.1.1.1.1
  have e89 : sk_uA M1 100 (x_cp (M1 89) (M1 100) 109) 89 = M 89 := by rw [sk_uA_ne _ _ (by omega), hU 89 (by omega) (by omega) (by omega)]
  have hlt : ∀ o, o < 88 → o ≠ 47 → o ≠ 6 → o ≠ 7 → sk_uA M1 100 (x_cp (M1 89) (M1 100) 109) o = M o := fun o q q1 q2 q3 => by rw [sk_uA_ne _ _ (by omega)]; exact hU o q1 q2 q3
  have c1 : r_cs 10 M (sk_uA M1 100 (x_cp (M1 89) (M1 100) 109)) := fun o q => hlt o (by omega) (by omega) (by omega) (by omega)
  have c2 : r_lib M (sk_uA M1 100 (x_cp (M1 89) (M1 100) 109)) := fun o q q2 q3 => hlt o (by omega) q3 (by omega) (by omega)
  refine ⟨x_mh_c2 (p_mh h) c1 c2 ?_ ?_, c1, c2, ?_, ?_, ?_, ?_⟩
  · rw [e89]; exact fun i _ _ => rfl
  · rw [e89]; exact (p_mh h).2.2.2.2.2.2
  · rw [e89]; exact fun i _ _ => rfl
  · intro k hk; rw [e89]; exact (hE.2.2 c (by omega) k hk).symm
  · rw [e89]; exact hE.1.2.2.2.1 c (by omega)
  · rw [e89]; exact hE.2.1
/-- the end: what was laid by is laid back -/
theorem x_end {nS nC nW nT d c : Nat} {M M1 M' : sk_M} {r : Nat → Int32} {warm day : Int32} (h : r_p nS nC nW nT d M) (hU : ∀ o, o ≠ 47 → o ≠ 6 → o ≠ 7 → M1 o = M o) (ho : x_o3 (sk_uA M1 100 (x_cp (M1 89) (M1 100) 109)) M') (hm : x_ms 10 nS nC nT M c r warm day M') :
    ∃ M2, f_X7_laysBack M' = some M2 ∧ r_p nS nC nW nT d M2 := by
  refine ⟨_, x_lback M', p_scr h ?_ ?_⟩
  · intro o q1 q2
    unfold r_scr at q1
    rw [sk_uA_ne _ _ q2, ho o q2 (by omega) (by omega), sk_uA_ne _ _ (by omega)]
    exact hU o (by omega) (by omega) (by omega)
  · intro i hi
    rw [sk_uA_self, ho 100 (by omega) (by omega) (by omega), sk_uA_self]
    unfold x_cp
    by_cases q : i < 109
    · rw [if_pos q, if_pos q, hU 89 (by omega) (by omega) (by omega)]
    · rw [if_neg q]
      exact hm.2.2.2.1 i (by omega) (by omega)
theorem x_thU {M0 M : sk_M} {r : Nat → Int32} {warm day : Int32} (h : x_th 6 M0 r warm day M) : ∀ o, o ≠ 47 → o ≠ 6 → o ≠ 7 → M o = M0 o := h.1
theorem t_behind (a1 a2 a3 : Int32) : r_st (f_X6_behind a1 a2 a3) (f_X7_behind a1 a2 a3) := by
  intro M hR
  obtain ⟨nS, nC, nW, nT, d, hP⟩ := id hR
  obtain ⟨⟨b1, b2, b3, b4, b5⟩, c1, c2, c3, c4, c5⟩ := hP.1.1.1
  have hE := hP.1.2.1
  by_cases g1 : f_X6_isCloth a1 M = 0
  · exact ⟨_, M, M, by rw [f_X6_behind, if_pos g1], by rw [f_X7_behind, g_cloth hE, if_pos g1], hR⟩
  by_cases g2 : f_X6_isNose a2 = 0
  · exact ⟨_, M, M, by rw [f_X6_behind, if_neg g1, if_pos g2], by rw [f_X7_behind, g_cloth hE, if_neg g1, g_nose, if_pos g2], hR⟩
  by_cases g3 : f_X6_within a3 0 300 = 0
  · exact ⟨_, M, M, by rw [f_X6_behind, if_neg g1, if_neg g2, if_pos g3], by rw [f_X7_behind, g_cloth hE, if_neg g1, g_nose, if_neg g2, g_in a3 0 300 (by decide) (by decide), if_pos g3], hR⟩
  obtain ⟨c, hc, rfl⟩ := n_cloth c2 b2 g1
  obtain ⟨v, hv, rfl⟩ := n_nose g2
  obtain ⟨n, -, hn, rfl⟩ := q_wb (lo := 0) (hi := 300) (by omega) (by omega) g3
  obtain ⟨Ma, k1, k2⟩ := x_begin (o := 6) (Or.inl rfl) (show c < 6 by omega) M
  obtain ⟨M1, k3, day', k4⟩ := x_tdays (Or.inl rfl) (p_ch hP) (show n < 1000 by omega) k2
  have k5 := x_tsaid (nW := nW) (Or.inl rfl) (p_ch hP) b3 c3 hv k4
  obtain ⟨M', m1, m2, day2, m3⟩ := x_goMany hc hP.1.1.2.2.2 (show n < 1000 by omega) (x_ms0 hP hc (x_thU k4))
  obtain ⟨M2, z1, z2⟩ := x_end hP (x_thU k4) m2 m3
  have m4 := x_msaidS b3 c3 (by omega) hv m3
  refine ⟨_, M1, M2, by rw [f_X6_behind, if_neg g1, if_neg g2, if_neg g3, k1, q_b1, k3, q_b1, k5, q_b1], ?_, nS, nC, nW, nT, d, z2⟩
  rw [f_X7_behind, g_cloth1 (M := M) (by rw [x_thU k4 89 (by omega) (by omega) (by omega)]; exact hE 1 (by omega)), if_neg g1, g_nose, if_neg g2, g_in (nI n) 0 300 (by decide) (by decide), if_neg g3, x_by, q_b1, m1, q_b1, m4, q_b1, z1, q_b1]
  rfl
