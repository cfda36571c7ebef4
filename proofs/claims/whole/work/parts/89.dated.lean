/-! dated. -/
def y_c (M : sk_M) (k d v0 : Nat) (warm : Int32) : Nat → Nat
  | 0 => v0
  | j + 1 => y_c M k d v0 warm j - (x_ls 10 M k (nI (y_c M k d v0 warm j)) warm (nI (d + j))).toNatClampNeg
theorem y_c_le (M : sk_M) (k d v0 : Nat) (warm : Int32) : ∀ j, y_c M k d v0 warm j ≤ v0
  | 0 => Nat.le_refl _
  | j + 1 => Nat.le_trans (Nat.sub_le _ _) (y_c_le M k d v0 warm j)
theorem y_c_s {nS nC nT k d v0 : Nat} {M : sk_M} (h : x_mh 10 nS nC nT M) (hk : k < 9) (hv : v0 ≤ 999) (warm : Int32) (j : Nat) : nI (y_c M k d v0 warm j) - x_ls 10 M k (nI (y_c M k d v0 warm j)) warm (nI (d + j)) = nI (y_c M k d v0 warm (j + 1)) := by
  have hs := y_c_le M k d v0 warm j
  obtain ⟨l, l1, l2⟩ := x_ls_n (c := 0) h hk (show y_c M k d v0 warm j ≤ 999 by omega) warm (nI (d + j))
  show _ = nI (y_c M k d v0 warm j - (x_ls 10 M k (nI (y_c M k d v0 warm j)) warm (nI (d + j))).toNatClampNeg)
  rw [l2, q_clamp (by omega), pk_sub l1]
theorem x_foC {nS nC nT k c d v0 : Nat} {M : sk_M} (hmh : x_mh 10 nS nC nT M) (hch : x_ch 10 nS nC nT M) (hk : k < 9) (hc : c < 6) (hd : M 10 14 = nI d) (hv : v0 ≤ 999) : ∀ (m j fu : Nat) (N : sk_M), j + m = 125 → m < fu → (∀ o, o ≠ 5 → o ≠ 47 → N o = M o) → (∀ i, i < j → N 5 i = nI (y_c M k d v0 (M 16 c) i)) →
    ∃ M', f_X6_followCourse_L15 (nI c) (nI k) fu (nI (y_c M k d v0 (M 16 c) j)) (nI j) N = some M' ∧ (∀ o, o ≠ 5 → o ≠ 47 → M' o = M o) ∧ ∀ i, i < 125 → M' 5 i = nI (y_c M k d v0 (M 16 c) i) := by
  intro m
  induction m with
  | zero =>
    intro j fu N hj hfu hN hi
    obtain ⟨g, rfl⟩ : ∃ g, fu = g + 1 := ⟨fu - 1, by omega⟩
    refine ⟨N, ?_, hN, fun i z => hi i (by omega)⟩
    rw [f_X6_followCourse_L15, if_pos (show (125 : Int32) ≤ nI j from nI_le (a := 125) (by omega) (by omega))]
  | succ m ih =>
    intro j fu N hj hfu hN hi
    obtain ⟨g, rfl⟩ : ∃ g, fu = g + 1 := ⟨fu - 1, by omega⟩
    have hN2 : ∀ x, ∀ o, o ≠ 5 → o ≠ 47 → sk_u N 5 j x o = M o := fun x o y1 y2 => by rw [q_uo y1]; exact hN o y1 y2
    have c1 : r_cs 10 M (sk_u N 5 j (nI (y_c M k d v0 (M 16 c) j))) := fun o q => hN2 _ o (by omega) (by omega)
    have c2 : r_lib M (sk_u N 5 j (nI (y_c M k d v0 (M 16 c) j))) := fun o q1 q2 q3 => hN2 _ o (by omega) q3
    obtain ⟨k1, k2, k3, k4, k5, k6, k7⟩ := x_ch_c hch c1 c2
    obtain ⟨B, hB⟩ := x_lossC (k := k) k1 hk k6.1 k7 k6.2 (nI (y_c M k d v0 (M 16 c) j)) (M 16 c) (nI (d + j))
    rw [x_ls_c hch.2.2.2.2.2.1.1 hch.2.2.2.2.2.2 c1 c2] at hB
    rw [f_X6_followCourse_L15, if_neg (show ¬ (125 : Int32) ≤ nI j from nI_ge (b := 125) (by omega) (by omega)), q_chkI (by omega) (by omega), q_let, q_chkI hc (by omega), q_clamp (by omega), q_clamp (by omega), hN2 _ 16 (by omega) (by omega), hN2 _ 10 (by omega) (by omega), hd, nI_add, hB, q_b2, q_let, y_c_s hmh hk hv, nI_1]
    exact ih (j + 1) g _ (by omega) (by omega) (fun o z1 z2 => by rw [sk_uA_ne _ _ z2]; exact hN2 _ o z1 z2) (fun i z => by
      rw [sk_uA_ne _ _ (by omega)]
      by_cases e : i = j
      · subst e; rw [q_ue]
      · rw [q_un (by omega)]; exact hi i (by omega))
theorem x_foM {nS nC nT k c d v0 : Nat} {M : sk_M} {a1 a4 : Int32} (hmh : x_mh 10 nS nC nT M) (hk : k < 9) (hc : c < 6) (hd : M 89 4 = nI d) (hv : v0 ≤ 999) : ∀ (m j fu : Nat) (N : sk_M), j + m = 130 → m < fu → (∀ o, o ≠ 105 → o ≠ 103 → o ≠ 104 → N o = M o) → (∀ i, i < j → N 105 i = nI (y_c M k d v0 (M 89 (37 + c)) i)) →
    ∃ M', f_X7_dated_L61 a1 (nI c) (nI k) a4 fu (nI (y_c M k d v0 (M 89 (37 + c)) j)) (nI j) N = some M' ∧ (∀ o, o ≠ 105 → o ≠ 103 → o ≠ 104 → M' o = M o) ∧ ∀ i, i < 130 → M' 105 i = nI (y_c M k d v0 (M 89 (37 + c)) i) := by
  intro m
  induction m with
  | zero =>
    intro j fu N hj hfu hN hi
    obtain ⟨g, rfl⟩ : ∃ g, fu = g + 1 := ⟨fu - 1, by omega⟩
    refine ⟨N, ?_, hN, fun i z => hi i (by omega)⟩
    rw [f_X7_dated_L61, if_pos (show (130 : Int32) ≤ nI j from nI_le (a := 130) (by omega) (by omega))]
  | succ m ih =>
    intro j fu N hj hfu hN hi
    obtain ⟨g, rfl⟩ : ∃ g, fu = g + 1 := ⟨fu - 1, by omega⟩
    have hN2 : ∀ x, ∀ o, o ≠ 105 → o ≠ 103 → o ≠ 104 → sk_u N 105 j x o = M o := fun x o y1 y2 y3 => by rw [q_uo y1]; exact hN o y1 y2 y3
    have hq : ∀ q, q < 88 → sk_u N 105 j (nI (y_c M k d v0 (M 89 (37 + c)) j)) q = M q := fun q z => hN2 _ q (by omega) (by omega) (by omega)
    have e89 := hN2 (nI (y_c M k d v0 (M 89 (37 + c)) j)) 89 (by omega) (by omega) (by omega)
    have hmj : x_mh 10 nS nC nT (sk_u N 105 j (nI (y_c M k d v0 (M 89 (37 + c)) j))) := x_mh_c hmh hq (by rw [e89]; exact fun i _ _ => rfl) (by rw [e89]; exact hmh.2.2.2.2.2.2)
    have hlsj := x_mh_ls hmh hq
    have hle := y_c_le M k d v0 (M 89 (37 + c)) j
    obtain ⟨M1, g1, g2⟩ := x_losesO (k := k) hmj hk (show y_c M k d v0 (M 89 (37 + c)) j ≤ 999 by omega) (M 89 (37 + c)) (nI (d + j))
    rw [hlsj] at g1
    rw [f_X7_dated_L61, if_neg (show ¬ (130 : Int32) ≤ nI j from nI_ge (b := 130) (by omega) (by omega)), q_chkI (by omega) (by omega), q_let, show (37 : Int32) + nI c = nI (37 + c) from nI_add 37 c, q_chkI (by omega) (by omega), q_clamp (by omega), q_clamp (by omega), e89, hd, nI_add, g1, q_b2, q_let, y_c_s hmh hk hv, nI_1]
    exact ih (j + 1) g _ (by omega) (by omega) (fun o z1 z2 z3 => (g2 o z2 z3).trans (hN2 _ o z1 z2 z3)) (fun i z => by
      rw [g2 105 (by omega) (by omega)]
      by_cases e : i = j
      · subst e; rw [q_ue]
      · rw [q_un (by omega)]; exact hi i (by omega))
-- the sums
def y_ab (x : Int32) : Int32 := if 0 ≤ x then x else -x
theorem y_ab_neg (x : Int32) : y_ab (-x) = y_ab x := by
  unfold y_ab
  by_cases h : x = -2147483648
  · subst h; decide
  · have hb := q_lo x
    have hb2 := q_hi x
    have hne : x.toInt ≠ -2147483648 := fun z => h (q_eqI.mpr (z.trans (by decide)))
    have e0 : (0 : Int32).toInt = 0 := by decide
    have e : (-x).toInt = - x.toInt := by
      rw [show -x = 0 - x by simp, q_subI (by rw [e0]; omega) (by rw [e0]; omega), e0]; omega
    by_cases q : (0 : Int32) ≤ x
    · rw [if_pos q]
      by_cases q2 : (0 : Int32) ≤ -x
      · rw [if_pos q2]
        rw [q_leI] at q q2
        apply q_eqI.mpr
        omega
      · rw [if_neg q2]; simp
    · rw [if_neg q, if_pos]
      rw [q_leI] at q ⊢
      omega
def y_df (P C : Nat → Int32) (n : Nat) : Nat → Nat → Int32 → Int32
  | 0, _, s => s
  | m + 1, i, s => if P i = -1000000005 then y_df P C n m (i + 1) s else y_df P C n m (i + 1) (s + y_ab (C (n + i) - P i))
theorem x_dfC {o n sz : Nat} {M : sk_M} (hn : n ≤ 100) (hsz : sz ≤ 24) (h2 : M o 2 = nI sz) : ∀ (m i fu : Nat) (s : Int32), i + m = sz → m < fu → f_X6_differences_L5 o (nI n) M fu s (nI i) = some (y_df (M (o + 1)) (M 5) n m i s) := by
  intro m
  induction m with
  | zero =>
    intro i fu s hi hfu
    obtain ⟨g, rfl⟩ : ∃ g, fu = g + 1 := ⟨fu - 1, by omega⟩
    rw [f_X6_differences_L5, h2, if_pos (nI_le (by omega) (by omega))]
    rfl
  | succ m ih =>
    intro i fu s hi hfu
    obtain ⟨g, rfl⟩ : ∃ g, fu = g + 1 := ⟨fu - 1, by omega⟩
    rw [f_X6_differences_L5, h2, if_neg (nI_ge (by omega) (by omega)), nI_add, if_neg (show ¬ (125 : Int32) ≤ nI (n + i) from nI_ge (b := 125) (by omega) (by omega)), q_chkI (by omega) (by omega), q_clamp (by omega), nI_1]
    show _ = some (if M (o + 1) i = -1000000005 then _ else _)
    by_cases q : M (o + 1) i = -1000000005
    · rw [if_pos q, if_pos q]; exact ih (i + 1) g s (by omega) (by omega)
    · rw [if_neg q, if_neg q, q_chkI (by omega) (by omega), q_chkI (by omega) (by omega), q_let, q_let, q_clamp (by omega), ih (i + 1) g _ (by omega) (by omega)]
      have e : (if 0 ≤ M 5 (n + i) - M (o + 1) i then M 5 (n + i) - M (o + 1) i else 0 - (M 5 (n + i) - M (o + 1) i)) = y_ab (M 5 (n + i) - M (o + 1) i) := by
        unfold y_ab
        rw [Int32.zero_sub]
      rw [e]
theorem x_dfM {a n sz : Nat} {M : sk_M} {a4 a6 a7 : Int32} {P C : Nat → Int32} (ha : a < 4) (hn : n ≤ 100) (hsz : sz ≤ 24) (h2 : M 93 a = nI sz) (hP : ∀ i, i < 24 → P i = M 94 (24 * a + i)) (hC : ∀ i, i < 125 → M 105 i = C i) : ∀ (m i fu : Nat) (s : Int32), i + m = sz → m < fu → f_X7_dated_L136 (nI a) a4 a6 a7 (nI n) M fu s (nI i) = some (y_df P C n m i s) := by
  intro m
  induction m with
  | zero =>
    intro i fu s hi hfu
    obtain ⟨g, rfl⟩ : ∃ g, fu = g + 1 := ⟨fu - 1, by omega⟩
    rw [f_X7_dated_L136, q_chkI ha (by omega), q_clamp (by omega), h2, if_pos (nI_le (by omega) (by omega))]
    rfl
  | succ m ih =>
    intro i fu s hi hfu
    obtain ⟨g, rfl⟩ : ∃ g, fu = g + 1 := ⟨fu - 1, by omega⟩
    rw [f_X7_dated_L136, q_chkI ha (by omega), q_clamp (by omega), h2, if_neg (nI_ge (by omega) (by omega)), show (24 : Int32) * nI a = nI (24 * a) from pk_mul 24 a, nI_add, nI_add, q_chkI (by omega) (by omega), q_let, q_clamp (by omega), ← hP i (by omega), nI_1]
    show _ = some (if P i = -1000000005 then _ else _)
    by_cases q : P i = -1000000005
    · rw [if_pos q, if_pos q, q_b1, q_let, if_pos (by decide), show s + 0 = s by simp]; exact ih (i + 1) g s (by omega) (by omega)
    · rw [if_neg q, if_neg q, q_chkI (by omega) (by omega), q_b1, q_let, q_clamp (by omega), hC (n + i) (by omega)]
      have e : (if 0 ≤ P i - C (n + i) then P i - C (n + i) else -(P i - C (n + i))) = y_ab (C (n + i) - P i) := by
        have e0 : y_ab (C (n + i) - P i) = y_ab (P i - C (n + i)) := by rw [← y_ab_neg (C (n + i) - P i), Int32.neg_sub]
        rw [e0]
        rfl
      rw [e]
      exact ih (i + 1) g _ (by omega) (by omega)
theorem y_df_c {P C C' : Nat → Int32} {n : Nat} (hn : n ≤ 100) (h : ∀ i, i < 125 → C i = C' i) : ∀ (m i : Nat) (s : Int32), i + m ≤ 24 → y_df P C n m i s = y_df P C' n m i s := by
  intro m
  induction m with
  | zero => intro i s _; rfl
  | succ m ih =>
    intro i s hi
    show (if P i = -1000000005 then _ else _) = (if P i = -1000000005 then _ else _)
    rw [h (n + i) (by omega), ih (i + 1) _ (by omega), ih (i + 1) _ (by omega)]
def y_am (D : Nat → Int32) : Nat → Nat → Nat → Int32 → Nat × Int32
  | 0, _, b, x => (b, x)
  | m + 1, n, b, x => if x ≤ D n then y_am D m (n + 1) b x else y_am D m (n + 1) n (D n)
theorem x_amC {a : Nat} {a4 : Int32} {M : sk_M} {D : Nat → Int32} (ha : a < 4) (hD : ∀ n, n ≤ 100 → f_X6_differences (65 + 2 * a) (nI n) M = some (D n)) : ∀ (m n b fu : Nat) (x : Int32), n + m = 101 → m < fu → f_X6_dated_L70 (nI a) a4 M fu (nI b) x (nI n) = some (nI (y_am D m n b x).1, (y_am D m n b x).2) := by
  intro m
  induction m with
  | zero =>
    intro n b fu x hn hfu
    obtain ⟨g, rfl⟩ : ∃ g, fu = g + 1 := ⟨fu - 1, by omega⟩
    rw [f_X6_dated_L70, if_pos (show (100 : Int32) < nI n from nI_lt (a := 100) (by omega) (by omega))]
    rfl
  | succ m ih =>
    intro n b fu x hn hfu
    obtain ⟨g, rfl⟩ : ∃ g, fu = g + 1 := ⟨fu - 1, by omega⟩
    rw [f_X6_dated_L70, if_neg (show ¬ (100 : Int32) < nI n from nI_nlt (a := 100) (by omega) (by omega)), q_chkI ha (by omega), q_clamp (by omega), hD n (by omega), q_b1, nI_1]
    by_cases q : x ≤ D n
    · have e : y_am D (m + 1) n b x = y_am D m (n + 1) b x := if_pos q
      rw [if_pos q, e]; exact ih (n + 1) b g x (by omega) (by omega)
    · have e : y_am D (m + 1) n b x = y_am D m (n + 1) n (D n) := if_neg q
      rw [if_neg q, e]; exact ih (n + 1) n g _ (by omega) (by omega)
theorem x_amM {a : Nat} {a4 : Int32} {M : sk_M} {D : Nat → Int32} (hD : ∀ n a6 a7, n ≤ 100 → f_X7_dated_L136 (nI a) a4 a6 a7 (nI n) M sk_FU 0 0 = some (D n)) : ∀ (m n b fu : Nat) (x : Int32), n + m = 101 → b ≤ n → m < fu → f_X7_dated_L123 (nI a) a4 M fu (nI b) x (nI n) = some (nI (y_am D m n b x).1, (y_am D m n b x).2) := by
  intro m
  induction m with
  | zero =>
    intro n b fu x hn hb hfu
    obtain ⟨g, rfl⟩ : ∃ g, fu = g + 1 := ⟨fu - 1, by omega⟩
    rw [f_X7_dated_L123, if_pos (show (100 : Int32) < nI n from nI_lt (a := 100) (by omega) (by omega))]
    rfl
  | succ m ih =>
    intro n b fu x hn hb hfu
    obtain ⟨g, rfl⟩ : ∃ g, fu = g + 1 := ⟨fu - 1, by omega⟩
    rw [f_X7_dated_L123, if_neg (show ¬ (100 : Int32) < nI n from nI_nlt (a := 100) (by omega) (by omega)), hD n _ _ (by omega), q_b1, if_neg (show ¬ nI b < (0 : Int32) from nI_nlt (b := 0) (by omega) (by omega)), nI_1]
    by_cases q : x ≤ D n
    · have e : y_am D (m + 1) n b x = y_am D m (n + 1) b x := if_pos q
      rw [if_pos q, e]; exact ih (n + 1) b g x (by omega) (by omega) (by omega)
    · have e : y_am D (m + 1) n b x = y_am D m (n + 1) n (D n) := if_neg q
      rw [if_neg q, e]; exact ih (n + 1) n g _ (by omega) (by omega) (by omega)
theorem t_dated (a1 a2 a3 a4 : Int32) : r_st (f_X6_dated a1 a2 a3 a4) (f_X7_dated a1 a2 a3 a4) := by
  intro M hR
  obtain ⟨nS, nC, nW, nT, d, hP⟩ := id hR
  obtain ⟨⟨b1, b2, b3, b4, b5⟩, c1, c2, c3, c4, c5⟩ := hP.1.1.1
  have hE := hP.1.2.1
  by_cases g0 : f_X6_isSheet a1 = 0
  · exact ⟨_, M, M, by rw [f_X6_dated, if_pos g0], by rw [f_X7_dated, g_sheet, if_pos g0], hR⟩
  by_cases g1 : f_X6_isSpot a2 a3 M = 0
  · refine ⟨_, M, M, by rw [f_X6_dated, if_neg g0, if_pos g1], ?_, hR⟩
    rcases g_spot0 g1 with q | ⟨q1, q2⟩
    · rw [f_X7_dated, g_sheet, if_neg g0, g_cloth hE, if_pos q]
    · rw [f_X7_dated, g_sheet, if_neg g0, g_cloth hE, if_neg q1, g_scent hE, if_pos q2]
  obtain ⟨⟨q1, q2⟩, ⟨c, hc, rfl⟩, k, hk, rfl⟩ := n_spot c1 b1 c2 b2 g1
  by_cases g3 : f_X6_within a4 0 1 = 0
  · exact ⟨_, M, M, by rw [f_X6_dated, if_neg g0, if_neg g1, if_pos g3], by rw [f_X7_dated, g_sheet, if_neg g0, g_cloth hE, if_neg q1, g_scent hE, if_neg q2, g_in a4 0 1 (by decide) (by decide), if_pos g3], hR⟩
  obtain ⟨a, ha, rfl⟩ := n_sheet g0
  obtain ⟨s1, s2, s3, ⟨sz, s4, s5⟩, s6⟩ := hP.2.2.2.2.1 a ha
  by_cases g4 : M (65 + 2 * a) 1 = -1
  · refine ⟨_, M, M, by rw [f_X6_dated, if_neg g0, if_neg g1, if_neg g3, q_chkI ha (by omega), q_clamp (by omega), if_pos g4], ?_, hR⟩
    rw [f_X7_dated, g_sheet, if_neg g0, g_cloth hE, if_neg q1, g_scent hE, if_neg q2, g_in a4 0 1 (by decide) (by decide), if_neg g3, q_chkI ha (by omega), q_clamp (by omega), ← s1, g4, if_neg (by decide)]
  have g5 : (0 : Int32) ≤ M 92 a := by
    rcases s3 with z | z | z
    · exact absurd (s1.trans z) g4
    · rw [z]; decide
    · rw [z]; decide
  have hff := r_eq_fix hE
  have hmh := p_mh hP
  have hval := hmh.2.2.2.2.2.2 c (by omega) k (by omega)
  obtain ⟨v0, v1, v2⟩ := hval
  have hv20 : M (20 + c) k = nI v0 := by rw [← v1]; exact (hff.2.2 c (by omega) k (by omega)).symm
  obtain ⟨M1, k1, k2, k3⟩ := x_foC (k := k) (c := c) (d := d) (v0 := v0) hmh (p_ch hP) (by omega) (by omega) c5 v2 125 0 sk_FU M (by omega) (by unfold sk_FU; omega) (fun _ _ _ => rfl) (fun i z => absurd z (by omega))
  have e89 : M1 89 = M 89 := k2 89 (by omega) (by omega)
  have cs1 : r_cs 10 M M1 := fun o q => k2 o (by omega) (by omega)
  have cl1 : r_lib M M1 := fun o z1 z2 z3 => k2 o (by omega) z3
  have hmh1 : x_mh 10 nS nC nT M1 := x_mh_c2 hmh cs1 cl1 (by rw [e89]; exact fun i _ _ => rfl) (by rw [e89]; exact hmh.2.2.2.2.2.2)
  obtain ⟨M2, m1, m2, m3⟩ := x_foM (k := k) (c := c) (d := d) (v0 := v0) (a1 := nI a) (a4 := a4) hmh1 (by omega) (by omega) (by rw [e89, hff.2.1]; exact c5) v2 130 0 sk_FU M1 (by omega) (by unfold sk_FU; omega) (fun _ _ _ _ => rfl) (fun i z => absurd z (by omega))
  have hls : x_ls 10 M1 = x_ls 10 M := x_ls_c b4 hP.1.1.2.2.2 cs1 cl1
  have hyc : ∀ j, y_c M1 k d v0 (M1 89 (37 + c)) j = y_c M k d v0 (M 16 c) j := by
    intro j
    have ew : M1 89 (37 + c) = M 16 c := by rw [e89, hff.1.2.2.2.1 c (by omega)]
    rw [ew]
    induction j with
    | zero => rfl
    | succ j ih =>
      show y_c M1 k d v0 (M 16 c) j - _ = y_c M k d v0 (M 16 c) j - _
      rw [ih, hls]
  have hDC : ∀ n, n ≤ 100 → f_X6_differences (65 + 2 * a) (nI n) M1 = some (y_df (M1 (65 + 2 * a + 1)) (M1 5) n sz 0 0) := fun n hn => by
    have := x_dfC (o := 65 + 2 * a) (M := M1) hn s4 (by rw [k2 _ (by omega) (by omega), s2]; exact s5) sz 0 sk_FU 0 (by omega) (by unfold sk_FU; omega)
    rw [f_X6_differences]
    exact (congrArg (fun z => sk_b1 z (fun x_6 => some x_6)) this)
  have hDM : ∀ n a6 a7, n ≤ 100 → f_X7_dated_L136 (nI a) a4 a6 a7 (nI n) M2 sk_FU 0 0 = some (y_df (M1 (65 + 2 * a + 1)) (M1 5) n sz 0 0) := fun n a6 a7 hn => by
    refine x_dfM (a := a) (M := M2) ha hn s4 (by rw [m2 _ (by omega) (by omega) (by omega), k2 _ (by omega) (by omega)]; exact s5) ?_ ?_ sz 0 sk_FU 0 (by omega) (by unfold sk_FU; omega)
    · intro i hi
      rw [m2 _ (by omega) (by omega) (by omega), k2 _ (by omega) (by omega), k2 94 (by omega) (by omega), ← s6 i hi]
      rw [show 65 + 2 * a + 1 = 66 + 2 * a by omega]
    · intro i hi
      rw [m3 i (by omega), k3 i hi, hyc]
  have hA := x_amC (a := a) (a4 := a4) ha hDC 100 1 0 sk_FU (y_df (M1 (65 + 2 * a + 1)) (M1 5) 0 sz 0 0) (by omega) (by unfold sk_FU; omega)
  have hB := x_amM (a := a) (a4 := a4) hDM 100 1 0 (sk_FU - 1) (y_df (M1 (65 + 2 * a + 1)) (M1 5) 0 sz 0 0) (by omega) (by omega) (by unfold sk_FU; omega)
  have hB0 : f_X7_dated_L123 (nI a) a4 M2 sk_FU (-1) 0 0 = f_X7_dated_L123 (nI a) a4 M2 (sk_FU - 1) (nI 0) (y_df (M1 (65 + 2 * a + 1)) (M1 5) 0 sz 0 0) (nI 1) := by
    have e : sk_FU = (sk_FU - 1) + 1 := by unfold sk_FU; omega
    have hd0 : f_X7_dated_L136 (nI a) a4 (-1) 0 0 M2 sk_FU 0 0 = _ := hDM 0 (-1) 0 (by omega)
    rw [e, f_X7_dated_L123, ← e, if_neg (by decide), hd0, q_b1, if_pos (by decide)]
    rfl
  generalize y_am (fun n => y_df (M1 (65 + 2 * a + 1)) (M1 5) n sz 0 0) 100 1 0 (y_df (M1 (65 + 2 * a + 1)) (M1 5) 0 sz 0 0) = z at hA hB
  refine ⟨if a4 = 0 then nI z.1 else z.2, M1, M2, ?_, ?_, nS, nC, nW, nT, d, p_scr hP ?_ ?_⟩
  · have hD0 : f_X6_differences (65 + 2 * a) 0 M1 = _ := hDC 0 (by omega)
    have hA' : f_X6_dated_L70 (nI a) a4 M1 sk_FU 0 (y_df (M1 (65 + 2 * a + 1)) (M1 5) 0 sz 0 0) 1 = _ := hA
    have hk1 : f_X6_followCourse_L15 (nI c) (nI k) sk_FU (nI v0) 0 M = _ := k1
    rw [f_X6_dated, if_neg g0, if_neg g1, if_neg g3, q_chkI ha (by omega), q_clamp (by omega), if_neg g4, f_X6_followCourse, q_chkI (by omega) (by omega), q_chkI (by omega) (by omega), q_let, q_clamp (by omega), q_clamp (by omega), hv20, hk1, q_b1, q_b1, q_chkI ha (by omega), hD0, q_b1, hA', q_b2]
  · have hm1 : f_X7_dated_L61 (nI a) (nI c) (nI k) a4 sk_FU (nI v0) 0 M1 = _ := m1
    rw [f_X7_dated, g_sheet, if_neg g0, g_cloth1 (M := M) (by rw [e89]; exact hE 1 (by omega)), if_neg q1, g_scent1 (M := M) (by rw [e89]; exact hE 0 (by omega)), if_neg q2, g_in a4 0 1 (by decide) (by decide), if_neg g3, q_chkI ha (by omega), q_clamp (by omega), k2 92 (by omega) (by omega), if_pos g5, f_X7_on, show (9 : Int32) * nI c = nI (9 * c) from pk_mul 9 c, show (43 : Int32) + nI (9 * c) = nI (43 + 9 * c) from nI_add 43 (9 * c), nI_add, q_chkI (by omega) (by omega), q_clamp (by omega), q_b1, e89, v1, hm1, q_b1, hB0, hB, q_b2]
  · intro o z1 z2
    unfold r_scr at z1
    rw [m2 o (by omega) (by omega) (by omega), k2 o (by omega) (by omega)]
  · intro i hi
    rw [m2 89 (by omega) (by omega) (by omega), k2 89 (by omega) (by omega)]
