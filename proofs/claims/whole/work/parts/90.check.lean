/-! check. -/
def z_R (F : (Nat → Int32) → Int32 → Int32 → (Nat → Int32)) (warm : Int32) (d : Nat) (r0 : Nat → Int32) : Nat → (Nat → Int32)
  | 0 => r0
  | j + 1 => F (z_R F warm d r0 j) warm (nI (d + j))
def z_99 (x : Int32) : Int32 := if 0 ≤ x then x else 99
def z_due (Hd S : Nat → Int32) (fine : Int32) (nS nW : Nat) (R : Nat → (Nat → Int32)) (i : Nat) : Int32 := if i % 2 = 0 then z_99 (x_said Hd S (R (i / 2 + 1)) fine nS nW) else x_sum (R (i / 2 + 1)) nS
theorem z_99_or {x : Int32} {n : Nat} (hn : n ≤ 12) (h : x = -1 ∨ ∃ i, i < n ∧ x = nI i) : f_X6_wordOr99 (f_X7_orNone x) = z_99 x := by
  unfold f_X6_wordOr99 z_99
  rcases h with rfl | ⟨i, hi, rfl⟩
  · decide
  · rw [x_orN (by omega), if_neg (x_nN (by omega)), if_pos (nI_pos' (by omega))]
def z_mis (F G : Nat → Int32) : Nat → Nat → Nat
  | 0, i => i
  | m + 1, i => if F i = G i then z_mis F G m (i + 1) else i
theorem z_mis_le (F G : Nat → Int32) : ∀ m i, z_mis F G m i ≤ i + m
  | 0, i => Nat.le_refl _
  | m + 1, i => by
    show (if F i = G i then z_mis F G m (i + 1) else i) ≤ _
    split
    · have := z_mis_le F G m (i + 1); omega
    · omega
theorem z_mis_c {F G F' G' : Nat → Int32} : ∀ m i, (∀ j, i ≤ j → j < i + m → F j = F' j ∧ G j = G' j) → z_mis F G m i = z_mis F' G' m i := by
  intro m
  induction m with
  | zero => intro i _; rfl
  | succ m ih =>
    intro i h
    show (if F i = G i then _ else _) = (if F' i = G' i then _ else _)
    rw [(h i (by omega) (by omega)).1, (h i (by omega) (by omega)).2, ih (i + 1) (fun j q1 q2 => h j (by omega) (by omega))]
theorem x_rem2 {i : Nat} (hi : i < 1000) : nI i - nI i / 2 * 2 = nI (i % 2) := pk_rem (d := 2) (by omega) (by omega) (by omega)
theorem x_raC {nS nC nT nW L d : Nat} {M0 : sk_M} {warm : Int32} {r0 : Nat → Int32} (hh : x_ch 26 nS nC nT M0) (h12 : nW ≤ 12) (hw : M0 26 11 = nI nW) (hL : L ≤ 60) : ∀ (m i fu : Nat) (M : sk_M), i + m = L → m < fu → x_th 8 M0 (z_R (x_fr 26 M0 nS) warm d r0 ((i + 1) / 2)) warm (nI (d + (i + 1) / 2)) M →
    ∃ M', sk_s1 (f_X6_rightAhead_L10 (nI L) fu (nI i) M) (fun M_15 => some (nI L, M_15)) = some (nI (z_mis (M0 3) (z_due (M0 29) (M0 31) (M0 30 0) nS nW (z_R (x_fr 26 M0 nS) warm d r0)) m i), M') ∧ ∃ r day, x_th 8 M0 r warm day M' := by
  intro m
  induction m with
  | zero =>
    intro i fu M hi hfu h
    obtain ⟨g, rfl⟩ : ∃ g, fu = g + 1 := ⟨fu - 1, by omega⟩
    have e : i = L := by omega
    subst e
    refine ⟨M, ?_, _, _, h⟩
    rw [f_X6_rightAhead_L10, if_pos (nI_le (by omega) (by omega)), q_s1r]
    rfl
  | succ m ih =>
    intro i fu M hi hfu h
    obtain ⟨g, rfl⟩ : ∃ g, fu = g + 1 := ⟨fu - 1, by omega⟩
    have hmis : z_mis (M0 3) (z_due (M0 29) (M0 31) (M0 30 0) nS nW (z_R (x_fr 26 M0 nS) warm d r0)) (m + 1) i = if M0 3 i = z_due (M0 29) (M0 31) (M0 30 0) nS nW (z_R (x_fr 26 M0 nS) warm d r0) i then z_mis (M0 3) (z_due (M0 29) (M0 31) (M0 30 0) nS nW (z_R (x_fr 26 M0 nS) warm d r0)) m (i + 1) else i := rfl
    have hstep : ∃ M1, (if nI (i % 2) = 0 then (sk_b1 (f_X4_passDay 8 M) (fun M_4 => some M_4)) else (some M)) = some M1 ∧ x_th 8 M0 (z_R (x_fr 26 M0 nS) warm d r0 (i / 2 + 1)) warm (nI (d + (i / 2 + 1))) M1 := by
      by_cases q : i % 2 = 0
      · obtain ⟨M1, g1, g2⟩ := x_tday (o := 8) (Or.inr rfl) hh h
        refine ⟨M1, by rw [q, if_pos (show nI 0 = (0 : Int32) from rfl), g1, q_b1], ?_⟩
        rw [nI_1] at g2
        have e : (i + 1) / 2 = i / 2 := by omega
        rw [e] at g2
        exact g2
      · have e1 : i % 2 = 1 := by omega
        have e : (i + 1) / 2 = i / 2 + 1 := by omega
        rw [e] at h
        exact ⟨M, by rw [e1, if_neg (by decide)], h⟩
    obtain ⟨M1, g1, g2⟩ := hstep
    have hval : (if nI (i % 2) = 0 then (sk_b1 (f_X4_saidTo 8 0 M1) (fun x_10 => some (f_X6_wordOr99 x_10))) else (sk_b1 (f_X4_sum 8 M1) (fun x_8 => some x_8))) = some (z_due (M0 29) (M0 31) (M0 30 0) nS nW (z_R (x_fr 26 M0 nS) warm d r0) i) := by
      unfold z_due
      by_cases q : i % 2 = 0
      · have hs : f_X4_saidTo 8 0 M1 = some (f_X7_orNone (x_said (M0 29) (M0 31) (z_R (x_fr 26 M0 nS) warm d r0 (i / 2 + 1)) (M0 30 0) nS nW)) := x_tsaid (o := 8) (v := 0) (nW := nW) (Or.inr rfl) hh h12 hw (by omega) g2
        rw [q, if_pos rfl, if_pos (show nI 0 = (0 : Int32) from rfl), hs, q_b1, z_99_or h12 (x_said_cases _ _ _ _ _ _)]
      · have e1 : i % 2 = 1 := by omega
        have hs : f_X4_sum 8 M1 = some (x_sum (z_R (x_fr 26 M0 nS) warm d r0 (i / 2 + 1)) nS) := x_tsum (o := 8) (Or.inr rfl) hh g2
        rw [e1, if_neg (by decide), if_neg (by decide), hs, q_b1]
    have e3 : M1 3 = M0 3 := g2.1 3 (by omega) (by omega) (by omega)
    rw [f_X6_rightAhead_L10, if_neg (nI_ge (by omega) (by omega)), x_rem2 (by omega), g1, q_b1, hval, q_b1, q_chkI (by omega) (by omega), q_clamp (by omega), e3, hmis, nI_1]
    by_cases q : M0 3 i = z_due (M0 29) (M0 31) (M0 30 0) nS nW (z_R (x_fr 26 M0 nS) warm d r0) i
    · rw [if_pos q, if_pos q]
      have e : (i + 1 + 1) / 2 = i / 2 + 1 := by omega
      exact ih (i + 1) g M1 (by omega) (by omega) (by rw [e]; exact g2)
    · rw [if_neg q, if_neg q, q_s1l]
      exact ⟨M1, rfl, _, _, g2⟩
-- the reference
theorem x_ms_c {w nS nC nT c : Nat} {M0 M M' : sk_M} {r : Nat → Int32} {warm day : Int32} (h : x_ms w nS nC nT M0 c r warm day M) (hw : w ≤ 26) (hU : ∀ q, q ≠ 108 → M' q = M q) : x_ms w nS nC nT M0 c r warm day M' := by
  obtain ⟨h1, h2, h3, h4, h5⟩ := h
  have e := hU 89 (by omega)
  refine ⟨x_mh_c h1 (fun q hq => hU q (by omega)) (by rw [e]; exact fun i _ _ => rfl) (by rw [e]; exact h1.2.2.2.2.2.2), fun o q => (hU o (by omega)).trans (h2 o q), fun o q1 q2 q3 => (hU o (by omega)).trans (h3 o q1 q2 q3), by rw [e]; exact h4, by rw [e]; exact h5⟩
theorem x_chM {nS nC nT nW D d c n : Nat} {M0 : sk_M} {warm a3 : Int32} {r0 : Nat → Int32} (hc : c < nC) (h6 : nC ≤ 6) (hcou : r_cou 26 nT M0) (h12 : nW ≤ 12) (hw : M0 26 11 = nI nW) (hn : n ≤ 30) (h1 : D ≤ n) (h2 : d + D ≤ 9999) (h3 : D = n ∨ d + D = 9999) : ∀ (m j fu : Nat) (M : sk_M), j + m = D → m < fu → x_ms 26 nS nC nT M0 c (z_R (x_fr 26 M0 nS) warm d r0 j) warm (nI (d + j)) M → (∀ i, i < 2 * j → M 108 i = z_due (M0 29) (M0 31) (M0 30 0) nS nW (z_R (x_fr 26 M0 nS) warm d r0) i) →
    ∃ M', f_X7_check_L87 (nI c) (nI n) a3 fu (nI (2 * j)) (nI j) M = some (nI (2 * D), M') ∧ (∀ q, q ≠ 89 → q ≠ 103 → q ≠ 104 → q ≠ 108 → M' q = M q) ∧ (∀ i, i < 2 * D → M' 108 i = z_due (M0 29) (M0 31) (M0 30 0) nS nW (z_R (x_fr 26 M0 nS) warm d r0) i) := by
  intro m
  induction m with
  | zero =>
    intro j fu M hj hfu h hi
    obtain ⟨g, rfl⟩ : ∃ g, fu = g + 1 := ⟨fu - 1, by omega⟩
    have e : j = D := by omega
    subst e
    refine ⟨M, ?_, fun _ _ _ _ _ => rfl, hi⟩
    have h4 : M 89 4 = nI (d + j) := h.2.2.2.2.2.2
    rw [f_X7_check_L87, h4]
    by_cases q : j = n
    · rw [if_pos (nI_le (by omega) (by omega))]
    · rw [if_neg (nI_ge (by omega) (by omega)), if_pos (show (9999 : Int32) ≤ nI (d + j) from nI_le (a := 9999) (by omega) (by omega))]
  | succ m ih =>
    intro j fu M hj hfu h hi
    obtain ⟨g, rfl⟩ : ∃ g, fu = g + 1 := ⟨fu - 1, by omega⟩
    have h4 : M 89 4 = nI (d + j) := h.2.2.2.2.2.2
    obtain ⟨M1, g1, g2, g3⟩ := x_mstep hc hcou h
    have g3' : x_ms 26 nS nC nT M0 c (z_R (x_fr 26 M0 nS) warm d r0 (j + 1)) warm (nI (d + (j + 1))) M1 := by
      have e : nI (d + j) + 1 = nI (d + (j + 1)) := nI_1 (d + j)
      rw [e] at g3
      exact g3
    have hs : f_X7_saidBy (nI c) 0 M1 = some (x_said (M0 29) (M0 31) (z_R (x_fr 26 M0 nS) warm d r0 (j + 1)) (M0 30 0) nS nW) := x_msaidS (v := 0) (nW := nW) h12 hw (show c < 6 by omega) (by omega) g3'
    have hU1 : ∀ x q, q ≠ 108 → sk_u M1 108 (2 * j) x q = M1 q := fun x q z => q_uo z
    have hsum := fun x => x_msumS (show c < 6 by omega) (x_ms_c g3' (by omega) (hU1 x))
    have hU2 : ∀ x y q, q ≠ 108 → sk_u (sk_u M1 108 (2 * j) x) 108 (2 * j + 1) y q = M1 q := fun x y q z => by rw [q_uo z, q_uo z]
    obtain ⟨M', k1, k2, k3⟩ := ih (j + 1) g (sk_u (sk_u M1 108 (2 * j) (z_99 (x_said (M0 29) (M0 31) (z_R (x_fr 26 M0 nS) warm d r0 (j + 1)) (M0 30 0) nS nW))) 108 (2 * j + 1) (x_sum (z_R (x_fr 26 M0 nS) warm d r0 (j + 1)) nS)) (by omega) (by omega) (x_ms_c g3' (by omega) (hU2 _ _)) (fun i z => by
      by_cases e1 : i = 2 * j + 1
      · subst e1
        rw [q_ue]
        unfold z_due
        rw [if_neg (by omega), show (2 * j + 1) / 2 = j by omega]
      · rw [q_un (by omega)]
        by_cases e2 : i = 2 * j
        · subst e2
          rw [q_ue]
          unfold z_due
          rw [if_pos (by omega), show (2 * j) / 2 = j by omega]
        · rw [q_un (by omega), g2 108 (by omega) (by omega) (by omega)]
          exact hi i (by omega))
    refine ⟨M', ?_, fun q z1 z2 z3 z4 => by rw [k2 q z1 z2 z3 z4, hU2 _ _ q z4]; exact g2 q z1 z2 z3, k3⟩
    rw [f_X7_check_L87, h4, if_neg (nI_ge (by omega) (by omega)), if_neg (show ¬ (9999 : Int32) ≤ nI (d + j) from nI_ge (b := 9999) (by omega) (by omega)), g1, q_b1, f_X7_saidOr, hs, q_b1, q_b1, q_chkI (by omega) (by omega), q_let, q_clamp (by omega), nI_1, nI_1, q_clamp (by omega)]
    rw [show (if 0 ≤ x_said (M0 29) (M0 31) (z_R (x_fr 26 M0 nS) warm d r0 (j + 1)) (M0 30 0) nS nW then x_said (M0 29) (M0 31) (z_R (x_fr 26 M0 nS) warm d r0 (j + 1)) (M0 30 0) nS nW else 99) = z_99 (x_said (M0 29) (M0 31) (z_R (x_fr 26 M0 nS) warm d r0 (j + 1)) (M0 30 0) nS nW) from rfl, hsum, q_b1, q_chkI (by omega) (by omega), q_let, show nI (2 * j) + (2 : Int32) = nI (2 * (j + 1)) from nI_add (2 * j) 2]
    exact k1
theorem x_misM {n e : Nat} {M : sk_M} (hn : n ≤ 60) (he : e ≤ 60) : ∀ (m i fu : Nat), i + m = min n e → m < fu → f_X7_check_L159 (nI n) (nI e) M fu (nI i) = some (nI (z_mis (M 107) (M 108) m i)) := by
  intro m
  induction m with
  | zero =>
    intro i fu hi hfu
    obtain ⟨g, rfl⟩ : ∃ g, fu = g + 1 := ⟨fu - 1, by omega⟩
    rw [f_X7_check_L159]
    by_cases q : n ≤ i
    · rw [if_pos (nI_le q (by omega))]; rfl
    · rw [if_neg (nI_ge (by omega) (by omega)), if_pos (nI_le (by omega) (by omega))]; rfl
  | succ m ih =>
    intro i fu hi hfu
    obtain ⟨g, rfl⟩ : ∃ g, fu = g + 1 := ⟨fu - 1, by omega⟩
    rw [f_X7_check_L159, if_neg (nI_ge (by omega) (by omega)), if_neg (nI_ge (by omega) (by omega)), q_chkI (by omega) (by omega), q_chkI (by omega) (by omega), q_clamp (by omega), nI_1]
    show _ = some (nI (if M 107 i = M 108 i then _ else _))
    by_cases q : M 107 i = M 108 i
    · rw [if_pos q, if_pos q]; exact ih (i + 1) g (by omega) (by omega)
    · rw [if_neg q, if_neg q]
theorem x_mhI {w nS nC nW nT d : Nat} {M : sk_M} (hw : sk_isW w) (hI : r_inv w nS nC nW nT d M) (hE : r_eq w 89 M) (hT : r_txt 89 nT M) : x_mh w nS nC nT M := by
  obtain ⟨⟨⟨b1, b2, b3, b4, b5⟩, c1, c2, c3, c4, c5⟩, hrng, hzero, hcou⟩ := hI
  exact ⟨⟨hw, b1, b2, b4⟩, ⟨c1, c2, c4⟩, (r_eq_fix hE).1, hcou, hT, hrng.2.2.1, fun c hc k hk => by rw [(r_eq_fix hE).2.2 c hc k hk]; exact hrng.2.2.2.2 c hc k hk⟩
theorem p_w0 {nS nC nW nT d : Nat} {M : sk_M} (hP : r_p nS nC nW nT d M) : r_p nS nC nW nT d (sk_u (sk_u M 0 11 0) 88 31 0) := by
  have hU : ∀ o, o ≠ 0 → o ≠ 88 → sk_u (sk_u M 0 11 0) 88 31 0 o = M o := fun o z1 z2 => by rw [q_uo z2, q_uo z1]
  refine p_oth hP (fun o z => hU o (by omega) (by omega)) ?_ ?_ ⟨0, by omega, ?_, ?_, fun j z => absurd z (by omega)⟩ (r_tape_c ?_ (hU 63 (by omega) (by omega)) ?_ (hU 102 (by omega) (by omega)) hP.2.2.2.1) (r_sh_c (fun o z => hU o (by omega) (by omega)) hP.2.2.2.2.1) (r_sl_c (fun o z => hU o (by omega) (by omega)) hP.2.2.2.2.2)
  · rw [q_uo (by omega), q_un (by omega)]
  · rw [q_un (by omega), q_uo (by omega)]
  · rw [q_uo (by omega), q_ue]; rfl
  · rw [q_ue]; rfl
  · rw [hU 62 (by omega) (by omega)]
  · rw [q_un (by omega), q_uo (by omega)]
theorem t_check (a1 a2 : Int32) : r_st (f_X6_check a1 a2) (f_X7_check a1 a2) := by
  intro M hR
  obtain ⟨nS0, nC0, nW0, nT0, d0, hP⟩ := id hR
  obtain ⟨n, hn, w1, w2, w3⟩ := hP.2.2.1
  have hW : r_all (sk_u (sk_u M 0 11 0) 88 31 0) := ⟨nS0, nC0, nW0, nT0, d0, p_w0 hP⟩
  by_cases g1 : f_X6_within a2 1 30 = 0
  · exact ⟨_, sk_u M 0 11 0, _, by rw [f_X6_check, q_let, q_let, if_pos g1], by rw [f_X7_check, q_let, q_let, g_in a2 1 30 (by decide) (by decide), if_pos g1], hW⟩
  by_cases g2 : f_X6_within a1 0 5 = 0
  · exact ⟨_, sk_u M 0 11 0, _, by rw [f_X6_check, q_let, q_let, if_neg g1, if_pos g2], by rw [f_X7_check, q_let, q_let, g_in a2 1 30 (by decide) (by decide), if_neg g1, g_in a1 0 5 (by decide) (by decide), if_pos g2], hW⟩
  obtain ⟨a, ha1, ha, rfl⟩ := q_wb (lo := 1) (hi := 30) (by omega) (by omega) g1
  obtain ⟨c, -, hc5, rfl⟩ := q_wb (lo := 0) (hi := 5) (by omega) (by omega) g2
  have u1 : ∀ o, o ≠ 0 → sk_u M 0 11 0 o = M o := fun o z => q_uo z
  rcases hP.2.1 with ⟨i1, i2⟩ | ⟨i1, i2, nS, nC, nW, nT, d, hle, hI, hE, hT⟩
  · refine ⟨_, sk_u M 0 11 0, _, by rw [f_X6_check, q_let, q_let, if_neg g1, if_neg g2, q_un (by omega), if_pos i1], ?_, hW⟩
    rw [f_X7_check, q_let, q_let, g_in (nI a) 1 30 (by decide) (by decide), if_neg g1, g_in (nI c) 0 5 (by decide) (by decide), if_neg g2, q_un (by omega), u1 88 (by omega), if_pos i2]
  have e90 : M 90 1 = M 26 12 := hE 1 (by omega)
  obtain ⟨⟨b1, b2, b3, b4, b5⟩, c1, c2, c3, c4, c5⟩ := hI.1
  by_cases q : c < nC
  rotate_left
  · refine ⟨_, sk_u M 0 11 0, _, by rw [f_X6_check, q_let, q_let, if_neg g1, if_neg g2, q_un (by omega), if_neg (by rw [i1]; decide), u1 26 (by omega), c2, if_neg (nI_nlt (by omega) (by omega))], ?_, hW⟩
    rw [f_X7_check, q_let, q_let, g_in (nI a) 1 30 (by decide) (by decide), if_neg g1, g_in (nI c) 0 5 (by decide) (by decide), if_neg g2, q_un (by omega), u1 88 (by omega), if_neg (by rw [i2]; decide), q_uo (by omega), u1 90 (by omega), e90, c2, if_neg (nI_nlt (by omega) (by omega))]
  -- the days
  obtain ⟨D, hD⟩ : ∃ D, D = min a (9999 - d) := ⟨_, rfl⟩
  have hD1 : D ≤ a := by omega
  have hD2 : d + D ≤ 9999 := by omega
  have hD3 : D = a ∨ d + D = 9999 := by omega
  have hDc : (if (9999 : Int32) - nI d < nI a then (9999 : Int32) - nI d else nI a) = nI D := by
    rw [show (9999 : Int32) - nI d = nI (9999 - d) from pk_sub (a := 9999) (by omega)]
    by_cases z : 9999 - d < a
    · rw [if_pos (nI_lt z (by omega))]; congr 1; omega
    · rw [if_neg (nI_nlt (by omega) (by omega))]; congr 1; omega
  have h2D : (2 : Int32) * nI D = nI (2 * D) := pk_mul 2 D
  obtain ⟨L, hL⟩ : ∃ L, L = min n (2 * D) := ⟨_, rfl⟩
  have hLc : (if nI (2 * D) < nI n then nI (2 * D) else nI n) = nI L := by
    by_cases z : 2 * D < n
    · rw [if_pos (nI_lt z (by omega))]; congr 1; omega
    · rw [if_neg (nI_nlt (by omega) (by omega))]; congr 1; omega
  -- the class
  have hI0 : r_inv 26 nS nC nW nT d (sk_u M 0 11 0) := r_inv_c hI (fun o z => u1 o (by omega)) (u1 45 (by omega))
  have hch : x_ch 26 nS nC nT (sk_u M 0 11 0) := ⟨Or.inr rfl, b1, b2, by rw [u1 26 (by omega)]; exact c1, by rw [u1 26 (by omega)]; exact c2, x_ctx_c (fun o z1 z2 z3 => u1 o (by omega)) (x_ctx_of b4 hT), hI0.2.2.2⟩
  obtain ⟨Ma, k1, k2⟩ := x_begin (o := 8) (Or.inr rfl) (show c < 6 by omega) (sk_u M 0 11 0)
  have k2' : x_th 8 (sk_u M 0 11 0) (M (36 + c)) (M 32 c) (nI d) Ma := by
    have e1 : sk_u M 0 11 0 (36 + c) = M (36 + c) := u1 _ (by omega)
    have e2 : sk_u M 0 11 0 32 = M 32 := u1 _ (by omega)
    have e3 : sk_u M 0 11 0 26 14 = nI d := by rw [u1 26 (by omega)]; exact c5
    have k3 : x_th 8 (sk_u M 0 11 0) (sk_u M 0 11 0 (36 + c)) (sk_u M 0 11 0 32 c) (sk_u M 0 11 0 26 14) Ma := k2
    rw [e1, e2, e3] at k3
    exact k3
  obtain ⟨M1, k3, r', day', k4⟩ := x_raC (nW := nW) (L := L) (d := d) (r0 := M (36 + c)) hch b3 (by rw [u1 26 (by omega)]; exact c3) (by omega) L 0 sk_FU Ma (by omega) (by unfold sk_FU; omega) k2'
  have hU1 : ∀ o, o ≠ 0 → o ≠ 47 → o ≠ 8 → o ≠ 9 → M1 o = M o := fun o z0 z1 z2 z3 => (k4.1 o z1 z2 z3).trans (u1 o z0)
  have hU0 : M1 0 = sk_u M 0 11 0 0 := k4.1 0 (by omega) (by omega) (by omega)
  -- the reference
  generalize hM7 : sk_uA (sk_uA (sk_u M1 88 31 0) 91 (x_cp (sk_u M1 88 31 0 89) (sk_u M1 88 31 0 91) 2909)) 89 (x_cp (M 90) (M 89) 2909) = M7
  have h7 : ∀ o, o ≠ 0 → o ≠ 47 → o ≠ 8 → o ≠ 9 → o ≠ 88 → o ≠ 89 → o ≠ 91 → M7 o = M o := fun o z0 z1 z2 z3 z4 z5 z6 => by rw [← hM7, sk_uA_ne _ _ z5, sk_uA_ne _ _ z6, q_uo z4]; exact hU1 o z0 z1 z2 z3
  have h789 : ∀ i, i < 2909 → M7 89 i = M 90 i := fun i hi => by rw [← hM7, sk_uA_self, x_cp, if_pos hi]
  have h791 : ∀ i, i < 2909 → M7 91 i = M 89 i := fun i hi => by rw [← hM7, sk_uA_ne _ _ (by omega), sk_uA_self, x_cp, if_pos hi, q_uo (by omega), hU1 89 (by omega) (by omega) (by omega) (by omega)]
  have hI7 : r_inv 26 nS nC nW nT d M7 := r_inv_c hI (fun o z => h7 o (by omega) (by omega) (by omega) (by omega) (by omega) (by omega) (by omega)) (h7 45 (by omega) (by omega) (by omega) (by omega) (by omega) (by omega) (by omega))
  have hE7 : r_eq 26 89 M7 := fun i hi => by
    have := r_co_lt i hi
    rw [h789 i (by omega), h7 _ (by omega) (by omega) (by omega) (by omega) (by omega) (by omega) (by omega)]
    exact hE i hi
  have hT7 : r_txt 89 nT M7 := r_txt_cp b4 (fun o z1 z2 z3 => h7 o (by omega) z3 (by omega) (by omega) (by omega) (by omega) (by omega)) h789 hT
  have hmh : x_mh 26 nS nC nT M7 := x_mhI (Or.inr rfl) hI7 hE7 hT7
  have hfx := r_eq_fix hE7
  have hms : x_ms 26 nS nC nT M7 c (M (36 + c)) (M 32 c) (nI d) M7 := by
    refine ⟨hmh, fun o _ => rfl, fun o _ _ _ => rfl, fun i _ _ => rfl, ?_, ?_, ?_⟩
    · intro k hk
      rw [hfx.2.2 c (by omega) k hk, show 26 + 10 + c = 36 + c by omega, h7 _ (by omega) (by omega) (by omega) (by omega) (by omega) (by omega) (by omega)]
    · rw [hfx.1.2.2.2.1 c (by omega)]
      show M7 32 c = _
      rw [h7 _ (by omega) (by omega) (by omega) (by omega) (by omega) (by omega) (by omega)]
    · rw [hfx.2.1, h7 _ (by omega) (by omega) (by omega) (by omega) (by omega) (by omega) (by omega)]
      exact c5
  obtain ⟨M8, m1, m2, m3⟩ := x_chM (nW := nW) (D := D) (d := d) (c := c) (n := a) (a3 := nI n) (r0 := M (36 + c)) q b2 hI7.2.2.2 b3 (by rw [h7 _ (by omega) (by omega) (by omega) (by omega) (by omega) (by omega) (by omega)]; exact c3) ha hD1 hD2 hD3 D 0 sk_FU M7 (by omega) (by unfold sk_FU; omega) hms (fun i z => absurd z (by omega))
  have hfr : x_fr 26 M7 nS = x_fr 26 (sk_u M 0 11 0) nS := by
    refine x_fr_c hch (fun o z => ?_) (fun o z1 z2 z3 => ?_)
    · rw [h7 o (by omega) (by omega) (by omega) (by omega) (by omega) (by omega) (by omega), u1 o (by omega)]
    · rw [h7 o (by omega) z3 (by omega) (by omega) (by omega) (by omega) (by omega), u1 o (by omega)]
  have e7 : ∀ o, 26 ≤ o → o < 42 → M7 o = sk_u M 0 11 0 o := fun o z1 z2 => by rw [h7 o (by omega) (by omega) (by omega) (by omega) (by omega) (by omega) (by omega), u1 o (by omega)]
  rw [hfr, e7 29 (by omega) (by omega), e7 31 (by omega) (by omega), e7 30 (by omega) (by omega)] at m3
  generalize hdue : z_due (sk_u M 0 11 0 29) (sk_u M 0 11 0 31) (sk_u M 0 11 0 30 0) nS nW (z_R (x_fr 26 (sk_u M 0 11 0) nS) (M 32 c) d (M (36 + c))) = due at k3 m3
  generalize hM9 : sk_uA M8 89 (x_cp (M8 91) (M8 89) 2909) = M9
  have h9 : ∀ o, o ≠ 89 → M9 o = M8 o := fun o z => by rw [← hM9, sk_uA_ne _ _ z]
  have hx := x_misM (n := n) (e := 2 * D) (M := M9) hn (by omega) L 0 sk_FU (by omega) (by unfold sk_FU; omega)
  have hmm : z_mis (M9 107) (M9 108) L 0 = z_mis (sk_u M 0 11 0 3) due L 0 := z_mis_c L 0 (fun j z1 z2 => by
    constructor
    · rw [h9 107 (by omega), m2 107 (by omega) (by omega) (by omega) (by omega), h7 107 (by omega) (by omega) (by omega) (by omega) (by omega) (by omega) (by omega), u1 3 (by omega)]
      exact (w3 j (by omega)).symm
    · rw [h9 108 (by omega)]
      exact m3 j (by omega))
  rw [hmm] at hx
  have hzl := z_mis_le (sk_u M 0 11 0 3) due L 0
  generalize z_mis (sk_u M 0 11 0 3) due L 0 = x at k3 hx hzl
  refine ⟨if x = n ∧ x = 2 * D then 0 else nI (1 + x), M1, M9, ?_, ?_, nS0, nC0, nW0, nT0, d0, p_scr (p_w0 hP) ?_ ?_⟩
  · have k3' : sk_s1 (f_X6_rightAhead_L10 (nI L) sk_FU 0 Ma) (fun M_15 => some (nI L, M_15)) = some (nI x, M1) := k3
    rw [f_X6_check, w1, q_let, q_let, if_neg g1, if_neg g2, q_un (by omega), if_neg (by rw [i1]; decide), u1 26 (by omega), c2, c5, if_pos (nI_lt q (by omega)), hDc, q_let, q_let, h2D, hLc, f_X6_rightAhead, k1, q_b1, k3', q_b2, show (1 : Int32) + nI x = nI (1 + x) from nI_add 1 x]
    by_cases z1 : x = 2 * D
    · rw [if_pos (by rw [z1])]
      by_cases z2 : n = 2 * D
      · rw [if_pos (by rw [z2]), if_pos ⟨by omega, z1⟩]
      · rw [if_neg (fun z => z2 (q_inj (by omega) (by omega) z)), if_neg (fun z => z2 (by omega))]
    · rw [if_neg (fun z => z1 (q_inj (by omega) (by omega) z)), if_neg (fun z => z1 z.2)]
  · have m1' : f_X7_check_L87 (nI c) (nI a) (nI n) sk_FU 0 0 M7 = some (nI (2 * D), M8) := m1
    have hx' : f_X7_check_L159 (nI n) (nI (2 * D)) M9 sk_FU 0 = some (nI x) := hx
    have e88 : M1 88 = M 88 := hU1 88 (by omega) (by omega) (by omega) (by omega)
    have hm7 : sk_uA (sk_uA (sk_u M1 88 31 0) 91 (x_cp (sk_u M1 88 31 0 89) (sk_u M1 88 31 0 91) 2909)) 89 (x_cp (sk_uA (sk_u M1 88 31 0) 91 (x_cp (sk_u M1 88 31 0 89) (sk_u M1 88 31 0 91) 2909) 90) (sk_uA (sk_u M1 88 31 0) 91 (x_cp (sk_u M1 88 31 0 89) (sk_u M1 88 31 0 91) 2909) 89) 2909) = M7 := by
      have y90 : sk_uA (sk_u M1 88 31 0) 91 (x_cp (sk_u M1 88 31 0 89) (sk_u M1 88 31 0 91) 2909) 90 = M 90 := by rw [sk_uA_ne _ _ (by omega), q_uo (by omega), hU1 90 (by omega) (by omega) (by omega) (by omega)]
      have y89 : sk_uA (sk_u M1 88 31 0) 91 (x_cp (sk_u M1 88 31 0 89) (sk_u M1 88 31 0 91) 2909) 89 = M 89 := by rw [sk_uA_ne _ _ (by omega), q_uo (by omega), hU1 89 (by omega) (by omega) (by omega) (by omega)]
      rw [y90, y89]
      exact hM7
    rw [f_X7_check, q_let, q_let, g_in (nI a) 1 30 (by decide) (by decide), if_neg g1, g_in (nI c) 0 5 (by decide) (by decide), if_neg g2, q_un (by omega), e88, if_neg (by rw [i2]; decide), w2, q_uo (by omega), hU1 90 (by omega) (by omega) (by omega) (by omega), e90, c2, if_pos (nI_lt q (by omega)), x_aside (by omega), q_b1, x_aside (by omega), q_b1, hm7, m1', q_b2, x_aside (by omega), q_b1, hM9, hx', q_b1, show (1 : Int32) + nI x = nI (1 + x) from nI_add 1 x]
    by_cases z1 : x = n
    · rw [if_pos (by rw [z1])]
      by_cases z2 : x = 2 * D
      · rw [if_pos (by rw [z2]), if_pos ⟨z1, z2⟩]
      · rw [if_neg (fun z => z2 (q_inj (by omega) (by omega) z)), if_neg (fun z => z2 z.2)]
    · rw [if_neg (fun z => z1 (q_inj (by omega) (by omega) z)), if_neg (fun z => z1 z.1)]
  · intro o z1 z2
    unfold r_scr at z1
    rw [h9 o z2, m2 o z2 (by omega) (by omega) (by omega), ← hM7, sk_uA_ne _ _ z2, sk_uA_ne _ _ (by omega)]
    have : M1 o = sk_u M 0 11 0 o := k4.1 o (by omega) (by omega) (by omega)
    by_cases e : o = 88
    · subst e
      rw [q_us, q_us, this]
    · rw [q_uo e, q_uo e, this]
  · intro i hi
    rw [← hM9, sk_uA_self, x_cp, if_pos hi, m2 91 (by omega) (by omega) (by omega) (by omega), h791 i hi, q_uo (by omega), q_uo (by omega)]
