/-! first, lasts, whispers, dumb, secret. -/
theorem x_said_cases (Hd S r : Nat → Int32) (fine : Int32) (nS nW : Nat) : x_said Hd S r fine nS nW = -1 ∨ ∃ i, i < nW ∧ x_said Hd S r fine nS nW = nI i := by
  unfold x_said
  rcases x_wd_cases S (x_smell Hd r fine nS) nW 0 with q | ⟨i, q1, q2, q3⟩
  · exact Or.inl q
  · exact Or.inr ⟨i, by omega, q3⟩
theorem x_orN_eq {x : Int32} {n j : Nat} (hn : n ≤ 12) (hj : j < 12) (h : x = -1 ∨ ∃ i, i < n ∧ x = nI i) : (f_X7_orNone x = nI j) ↔ (x = nI j) := by
  rcases h with rfl | ⟨i, hi, rfl⟩
  · constructor
    · intro q
      exact absurd q.symm (x_nN (by omega))
    · intro q
      exact absurd q.symm (x_nm1 (by omega))
  · rw [x_orN (by omega)]
def z_fi (w : Nat) (M0 : sk_M) (nS : Nat) (warm : Int32) (P : (Nat → Int32) → Bool) : Nat → Nat → (Nat → Int32) → Int32 → Option Nat
  | 0, _, _, _ => none
  | m + 1, i, r, day => if P r = true then some i else z_fi w M0 nS warm P m (i + 1) (x_fr w M0 nS r warm day) (day + 1)
theorem z_fi_s (w : Nat) (M0 : sk_M) (nS : Nat) (warm : Int32) (P : (Nat → Int32) → Bool) (m i : Nat) (r : Nat → Int32) (day : Int32) : z_fi w M0 nS warm P (m + 1) i r day = if P r = true then some i else z_fi w M0 nS warm P m (i + 1) (x_fr w M0 nS r warm day) (day + 1) := rfl
def z_o2s (M : sk_M) : Option Nat → Option ((Int32 × sk_M) ⊕ sk_M)
  | some j => some (Sum.inl (nI j, M))
  | none => some (Sum.inr M)
def z_o2i : Option Nat → Int32
  | some j => nI j
  | none => -1
theorem z_fi_lt {w : Nat} {M0 : sk_M} {nS : Nat} {warm : Int32} {P : (Nat → Int32) → Bool} : ∀ (m i : Nat) (r : Nat → Int32) (day : Int32) (j : Nat), z_fi w M0 nS warm P m i r day = some j → j < i + m := by
  intro m
  induction m with
  | zero => intro i r day j h; cases h
  | succ m ih =>
    intro i r day j h
    rw [z_fi_s] at h
    by_cases q : P r = true
    · rw [if_pos q] at h; cases h; omega
    · rw [if_neg q] at h
      have := ih _ _ _ _ h
      omega
theorem x_firstC {nS nC nT nW v wd : Nat} {M0 : sk_M} {warm : Int32} (hh : x_ch 10 nS nC nT M0) (h12 : nW ≤ 12) (hw : M0 10 11 = nI nW) (hv : v < 4) (hwd : wd < 12) : ∀ (m i fu : Nat) (r : Nat → Int32) (day : Int32) (M : sk_M), i + m = 201 → m < fu → x_th 6 M0 r warm day M →
    ∃ M', f_X6_first_L37 (nI v) (nI wd) fu (nI i) M = z_o2s M' (z_fi 10 M0 nS warm (fun r => decide (x_said (M0 13) (M0 15) r (M0 14 v) nS nW = nI wd)) m i r day) ∧ ∃ r' day', x_th 6 M0 r' warm day' M' := by
  intro m
  induction m with
  | zero =>
    intro i fu r day M hi hfu h
    obtain ⟨g, rfl⟩ : ∃ g, fu = g + 1 := ⟨fu - 1, by omega⟩
    refine ⟨M, ?_, r, day, h⟩
    rw [f_X6_first_L37, if_pos (show (200 : Int32) < nI i from nI_lt (a := 200) (by omega) (by omega))]
    rfl
  | succ m ih =>
    intro i fu r day M hi hfu h
    obtain ⟨g, rfl⟩ : ∃ g, fu = g + 1 := ⟨fu - 1, by omega⟩
    have hs : f_X4_saidTo 6 (nI v) M = some (f_X7_orNone (x_said (M0 13) (M0 15) r (M0 14 v) nS nW)) := x_tsaid (nW := nW) (Or.inl rfl) hh h12 hw hv h
    obtain ⟨M1, g1, g2⟩ := x_tday (Or.inl rfl) hh h
    have hc := x_said_cases (M0 13) (M0 15) r (M0 14 v) nS nW
    rw [f_X6_first_L37, if_neg (show ¬ (200 : Int32) < nI i from nI_nlt (b := i) (a := 200) (by omega) (by omega)), hs, q_b1, z_fi_s]
    by_cases q : x_said (M0 13) (M0 15) r (M0 14 v) nS nW = nI wd
    · rw [if_pos ((x_orN_eq h12 hwd hc).mpr q), if_pos (decide_eq_true q)]
      exact ⟨M, rfl, r, day, h⟩
    · rw [if_neg (fun z => q ((x_orN_eq h12 hwd hc).mp z)), if_neg (fun z => q (of_decide_eq_true z)), g1, q_b1, nI_1]
      exact ih (i + 1) g _ _ M1 (by omega) (by omega) g2
theorem x_firstM {nS nC nT nW v wd c : Nat} {M0 : sk_M} {warm : Int32} (hcl : c < nC) (h6 : nC ≤ 6) (hcou : r_cou 10 nT M0) (h12 : nW ≤ 12) (hw : M0 10 11 = nI nW) (hv : v < 4) : ∀ (m i fu : Nat) (r : Nat → Int32) (day : Int32) (M : sk_M), i + m = 201 → m + 1 < fu → x_ms 10 nS nC nT M0 c r warm day M →
    ∃ M', f_X7_first_L36 (nI c) (nI v) (nI wd) fu (-1) (nI i) M = some (z_o2i (z_fi 10 M0 nS warm (fun r => decide (x_said (M0 13) (M0 15) r (M0 14 v) nS nW = nI wd)) m i r day), M') ∧ x_o3 M M' ∧ ∃ r' day', x_ms 10 nS nC nT M0 c r' warm day' M' := by
  intro m
  induction m with
  | zero =>
    intro i fu r day M hi hfu h
    obtain ⟨g, rfl⟩ : ∃ g, fu = g + 1 := ⟨fu - 1, by omega⟩
    refine ⟨M, ?_, fun q _ _ _ => rfl, r, day, h⟩
    rw [f_X7_first_L36, if_pos (show (200 : Int32) < nI i from nI_lt (a := 200) (by omega) (by omega))]
    rfl
  | succ m ih =>
    intro i fu r day M hi hfu h
    obtain ⟨g, rfl⟩ : ∃ g, fu = g + 1 := ⟨fu - 1, by omega⟩
    have hs := x_msaidS (c := c) h12 hw (by omega) hv h
    obtain ⟨M1, g1, g2, g3⟩ := x_mstep hcl hcou h
    rw [f_X7_first_L36, if_neg (show ¬ (200 : Int32) < nI i from nI_nlt (b := i) (a := 200) (by omega) (by omega)), if_neg (by decide), hs, q_b1, q_let, g1, q_b1, nI_1, z_fi_s]
    show ∃ M', f_X7_first_L36 (nI c) (nI v) (nI wd) g (if x_said (M0 13) (M0 15) r (M0 14 v) nS nW = nI wd then nI i else -1) (nI (i + 1)) M1 = _ ∧ _
    by_cases q : x_said (M0 13) (M0 15) r (M0 14 v) nS nW = nI wd
    · rw [if_pos q, if_pos (decide_eq_true q)]
      refine ⟨M1, ?_, g2, _, _, g3⟩
      obtain ⟨g', rfl⟩ : ∃ g', g = g' + 1 := ⟨g - 1, by omega⟩
      rw [f_X7_first_L36]
      by_cases q2 : (200 : Int32) < nI (i + 1)
      · rw [if_pos q2]; rfl
      · rw [if_neg q2, if_pos (nI_pos' (by omega))]; rfl
    · rw [if_neg q, if_neg (fun z => q (of_decide_eq_true z))]
      obtain ⟨M', k1, k2, k3⟩ := ih (i + 1) g _ _ M1 (by omega) (by omega) g3
      exact ⟨M', k1, g2.trans k2, k3⟩
theorem t_first (a1 a2 a3 : Int32) : r_st (f_X6_first a1 a2 a3) (f_X7_first a1 a2 a3) := by
  intro M hR
  obtain ⟨nS, nC, nW, nT, d, hP⟩ := id hR
  obtain ⟨⟨b1, b2, b3, b4, b5⟩, c1, c2, c3, c4, c5⟩ := hP.1.1.1
  have hE := hP.1.2.1
  by_cases g1 : f_X6_isCloth a1 M = 0
  · exact ⟨_, M, M, by rw [f_X6_first, if_pos g1], by rw [f_X7_first, g_cloth hE, if_pos g1], hR⟩
  by_cases g2 : f_X6_isNose a2 = 0
  · exact ⟨_, M, M, by rw [f_X6_first, if_neg g1, if_pos g2], by rw [f_X7_first, g_cloth hE, if_neg g1, g_nose, if_pos g2], hR⟩
  by_cases g3 : f_X6_isWord a3 M = 0
  · exact ⟨_, M, M, by rw [f_X6_first, if_neg g1, if_neg g2, if_pos g3], by rw [f_X7_first, g_cloth hE, if_neg g1, g_nose, if_neg g2, g_word hE, if_pos g3], hR⟩
  obtain ⟨c, hc, rfl⟩ := n_cloth c2 b2 g1
  obtain ⟨v, hv, rfl⟩ := n_nose g2
  obtain ⟨wd, hwd, rfl⟩ := n_word c3 b3 g3
  obtain ⟨Ma, k1, k2⟩ := x_begin (o := 6) (Or.inl rfl) (show c < 6 by omega) M
  obtain ⟨M1, k3, r', day', k4⟩ := x_firstC (v := v) (wd := wd) (p_ch hP) b3 c3 hv (by omega) 201 0 sk_FU _ _ Ma (by omega) (by unfold sk_FU; omega) k2
  obtain ⟨M', m1, m2, r2, day2, m3⟩ := x_firstM (v := v) (wd := wd) hc b2 hP.1.1.2.2.2 b3 c3 hv 201 0 sk_FU _ _ _ (by omega) (by unfold sk_FU; omega) (x_ms0 hP hc (x_thU k4))
  obtain ⟨M2, z1, z2⟩ := x_end hP (x_thU k4) m2 m3
  have hlt := z_fi_lt (w := 10) (M0 := M) (nS := nS) (warm := M 16 c) (P := fun r => decide (x_said (M 13) (M 15) r (M 14 v) nS nW = nI wd)) 201 0 (M (20 + c)) (M 10 14)
  have k3' : f_X6_first_L37 (nI v) (nI wd) sk_FU 0 Ma = z_o2s M1 (z_fi 10 M nS (M 16 c) (fun r => decide (x_said (M 13) (M 15) r (M 14 v) nS nW = nI wd)) 201 0 (M (20 + c)) (M 10 14)) := k3
  have m1' : f_X7_first_L36 (nI c) (nI v) (nI wd) sk_FU (-1) 0 (sk_uA M1 100 (x_cp (M1 89) (M1 100) 109)) = some (z_o2i (z_fi 10 M nS (M 16 c) (fun r => decide (x_said (M 13) (M 15) r (M 14 v) nS nW = nI wd)) 201 0 (M (20 + c)) (M 10 14)), M') := m1
  generalize z_fi 10 M nS (M 16 c) (fun r => decide (x_said (M 13) (M 15) r (M 14 v) nS nW = nI wd)) 201 0 (M (20 + c)) (M 10 14) = z at k3' m1' hlt
  refine ⟨f_X7_orNone (z_o2i z), M1, M2, ?_, ?_, nS, nC, nW, nT, d, z2⟩
  · rw [f_X6_first, if_neg g1, if_neg g2, if_neg g3, k1, q_b1, k3']
    cases z with
    | none => rfl
    | some j => show some (nI j, M1) = _; rw [show z_o2i (some j) = nI j from rfl, x_orN (by have := hlt j rfl; omega)]
  · rw [f_X7_first, g_cloth1 (M := M) (by rw [x_thU k4 89 (by omega) (by omega) (by omega)]; exact hE 1 (by omega)), if_neg g1, g_nose, if_neg g2, g_word1 (M := M) (by rw [x_thU k4 89 (by omega) (by omega) (by omega)]; exact hE 2 (by omega)), if_neg g3, x_by, q_b1, m1', q_b2, z1, q_b1]
-- dumb
theorem x_dumbC {nS nC nT v : Nat} {M0 : sk_M} {warm : Int32} (hh : x_ch 10 nS nC nT M0) (hv : v < 4) : ∀ (m i fu : Nat) (r : Nat → Int32) (day : Int32) (M : sk_M), i + m = 301 → m < fu → x_th 6 M0 r warm day M →
    ∃ M', f_X6_dumb_L28 (nI v) fu (nI i) M = z_o2s M' (z_fi 10 M0 nS warm (fun r => decide (x_smell (M0 13) r (M0 14 v) nS = 0)) m i r day) ∧ ∃ r' day', x_th 6 M0 r' warm day' M' := by
  intro m
  induction m with
  | zero =>
    intro i fu r day M hi hfu h
    obtain ⟨g, rfl⟩ : ∃ g, fu = g + 1 := ⟨fu - 1, by omega⟩
    refine ⟨M, ?_, r, day, h⟩
    rw [f_X6_dumb_L28, if_pos (show (300 : Int32) < nI i from nI_lt (a := 300) (by omega) (by omega))]
    rfl
  | succ m ih =>
    intro i fu r day M hi hfu h
    obtain ⟨g, rfl⟩ : ∃ g, fu = g + 1 := ⟨fu - 1, by omega⟩
    have hs : f_X4_smelledBy 6 (nI v) M = some (x_smell (M0 13) r (M0 14 v) nS) := x_tsmell (Or.inl rfl) hh hv h
    obtain ⟨M1, g1, g2⟩ := x_tday (Or.inl rfl) hh h
    rw [f_X6_dumb_L28, if_neg (show ¬ (300 : Int32) < nI i from nI_nlt (b := i) (a := 300) (by omega) (by omega)), hs, q_b1, z_fi_s]
    by_cases q : x_smell (M0 13) r (M0 14 v) nS = 0
    · rw [if_pos q, if_pos (decide_eq_true q)]
      exact ⟨M, rfl, r, day, h⟩
    · rw [if_neg q, if_neg (fun z => q (of_decide_eq_true z)), g1, q_b1, nI_1]
      exact ih (i + 1) g _ _ M1 (by omega) (by omega) g2
theorem x_dumbM {nS nC nT v c : Nat} {M0 : sk_M} {warm : Int32} (hcl : c < nC) (h6 : nC ≤ 6) (hcou : r_cou 10 nT M0) (hv : v < 4) : ∀ (m i fu : Nat) (r : Nat → Int32) (day : Int32) (M : sk_M), i + m = 301 → m + 1 < fu → x_ms 10 nS nC nT M0 c r warm day M →
    ∃ M', f_X7_dumb_L27 (nI c) (nI v) fu (-1) (nI i) M = some (z_o2i (z_fi 10 M0 nS warm (fun r => decide (x_smell (M0 13) r (M0 14 v) nS = 0)) m i r day), M') ∧ x_o3 M M' ∧ ∃ r' day', x_ms 10 nS nC nT M0 c r' warm day' M' := by
  intro m
  induction m with
  | zero =>
    intro i fu r day M hi hfu h
    obtain ⟨g, rfl⟩ : ∃ g, fu = g + 1 := ⟨fu - 1, by omega⟩
    refine ⟨M, ?_, fun q _ _ _ => rfl, r, day, h⟩
    rw [f_X7_dumb_L27, if_pos (show (300 : Int32) < nI i from nI_lt (a := 300) (by omega) (by omega))]
    rfl
  | succ m ih =>
    intro i fu r day M hi hfu h
    obtain ⟨g, rfl⟩ : ∃ g, fu = g + 1 := ⟨fu - 1, by omega⟩
    have hs := x_msmellS (c := c) (v := v) (by omega) hv h
    obtain ⟨M1, g1, g2, g3⟩ := x_mstep hcl hcou h
    rw [f_X7_dumb_L27, if_neg (show ¬ (300 : Int32) < nI i from nI_nlt (b := i) (a := 300) (by omega) (by omega)), if_neg (by decide), hs, q_b1, q_let, g1, q_b1, nI_1, z_fi_s]
    show ∃ M', f_X7_dumb_L27 (nI c) (nI v) g (if x_smell (M0 13) r (M0 14 v) nS = 0 then nI i else -1) (nI (i + 1)) M1 = _ ∧ _
    by_cases q : x_smell (M0 13) r (M0 14 v) nS = 0
    · rw [if_pos q, if_pos (decide_eq_true q)]
      refine ⟨M1, ?_, g2, _, _, g3⟩
      obtain ⟨g', rfl⟩ : ∃ g', g = g' + 1 := ⟨g - 1, by omega⟩
      rw [f_X7_dumb_L27]
      by_cases q2 : (300 : Int32) < nI (i + 1)
      · rw [if_pos q2]; rfl
      · rw [if_neg q2, if_pos (nI_pos' (by omega))]; rfl
    · rw [if_neg q, if_neg (fun z => q (of_decide_eq_true z))]
      obtain ⟨M', k1, k2, k3⟩ := ih (i + 1) g _ _ M1 (by omega) (by omega) g3
      exact ⟨M', k1, g2.trans k2, k3⟩
theorem t_dumb (a1 a2 : Int32) : r_st (f_X6_dumb a1 a2) (f_X7_dumb a1 a2) := by
  intro M hR
  obtain ⟨nS, nC, nW, nT, d, hP⟩ := id hR
  obtain ⟨⟨b1, b2, b3, b4, b5⟩, c1, c2, c3, c4, c5⟩ := hP.1.1.1
  have hE := hP.1.2.1
  by_cases g1 : f_X6_isCloth a1 M = 0
  · exact ⟨_, M, M, by rw [f_X6_dumb, if_pos g1], by rw [f_X7_dumb, g_cloth hE, if_pos g1], hR⟩
  by_cases g2 : f_X6_isNose a2 = 0
  · exact ⟨_, M, M, by rw [f_X6_dumb, if_neg g1, if_pos g2], by rw [f_X7_dumb, g_cloth hE, if_neg g1, g_nose, if_pos g2], hR⟩
  obtain ⟨c, hc, rfl⟩ := n_cloth c2 b2 g1
  obtain ⟨v, hv, rfl⟩ := n_nose g2
  obtain ⟨Ma, k1, k2⟩ := x_begin (o := 6) (Or.inl rfl) (show c < 6 by omega) M
  obtain ⟨M1, k3, r', day', k4⟩ := x_dumbC (v := v) (p_ch hP) hv 301 0 sk_FU _ _ Ma (by omega) (by unfold sk_FU; omega) k2
  obtain ⟨M', m1, m2, r2, day2, m3⟩ := x_dumbM (v := v) hc b2 hP.1.1.2.2.2 hv 301 0 sk_FU _ _ _ (by omega) (by unfold sk_FU; omega) (x_ms0 hP hc (x_thU k4))
  obtain ⟨M2, z1, z2⟩ := x_end hP (x_thU k4) m2 m3
  have hlt := z_fi_lt (w := 10) (M0 := M) (nS := nS) (warm := M 16 c) (P := fun r => decide (x_smell (M 13) r (M 14 v) nS = 0)) 301 0 (M (20 + c)) (M 10 14)
  have k3' : f_X6_dumb_L28 (nI v) sk_FU 0 Ma = z_o2s M1 (z_fi 10 M nS (M 16 c) (fun r => decide (x_smell (M 13) r (M 14 v) nS = 0)) 301 0 (M (20 + c)) (M 10 14)) := k3
  have m1' : f_X7_dumb_L27 (nI c) (nI v) sk_FU (-1) 0 (sk_uA M1 100 (x_cp (M1 89) (M1 100) 109)) = some (z_o2i (z_fi 10 M nS (M 16 c) (fun r => decide (x_smell (M 13) r (M 14 v) nS = 0)) 301 0 (M (20 + c)) (M 10 14)), M') := m1
  generalize z_fi 10 M nS (M 16 c) (fun r => decide (x_smell (M 13) r (M 14 v) nS = 0)) 301 0 (M (20 + c)) (M 10 14) = z at k3' m1' hlt
  refine ⟨f_X7_orNone (z_o2i z), M1, M2, ?_, ?_, nS, nC, nW, nT, d, z2⟩
  · rw [f_X6_dumb, if_neg g1, if_neg g2, k1, q_b1, k3']
    cases z with
    | none => rfl
    | some j => show some (nI j, M1) = _; rw [show z_o2i (some j) = nI j from rfl, x_orN (by have := hlt j rfl; omega)]
  · rw [f_X7_dumb, g_cloth1 (M := M) (by rw [x_thU k4 89 (by omega) (by omega) (by omega)]; exact hE 1 (by omega)), if_neg g1, g_nose, if_neg g2, x_by, q_b1, m1', q_b2, z1, q_b1]
