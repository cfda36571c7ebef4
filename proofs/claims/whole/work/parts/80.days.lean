/-! days, count, keep, back. -/
theorem x_ls_c2 {w nT : Nat} {M M' : sk_M} (hT : nT ≤ 14) (hcou : r_cou w nT M) (h1 : M' (w + 1) = M (w + 1)) (h2 : M' (w + 2) = M (w + 2)) (h8 : M' (w + 8) = M (w + 8)) (hl : r_lib M M') : x_ls w M' = x_ls w M := by
  funext k amt warm day
  unfold x_ls x_fade x_val
  rw [h1, h2, h8, hl 44 (by omega) (by omega) (by omega)]
  rcases x_cou0 hT hcou (k := 0) (by omega) with ⟨q, -⟩ | ⟨i, q1, q2, q3, -⟩
  · rw [if_pos q, if_pos q]
  · rw [q3, q_clamp (by omega), hl (48 + i) (by omega) (by omega) (by omega)]
theorem x_mh_d {nS nC nT : Nat} {M N : sk_M} (h : x_mh 10 nS nC nT M) (h10 : ∀ j, j ≠ 14 → N 10 j = M 10 j) (hU : ∀ o, (11 ≤ o ∧ o ≤ 16) ∨ o = 18 → N o = M o) (hl : r_lib M N) (h89 : N 89 = M 89) : x_mh 10 nS nC nT N := by
  obtain ⟨h1, h2, ⟨⟨f0, f1, f2, f3, f5⟩, fa, fb, fc, fd⟩, h4, h5, h6, h7⟩ := h
  refine ⟨h1, ⟨by rw [h10 10 (by omega)]; exact h2.1, by rw [h10 12 (by omega)]; exact h2.2.1, by rw [h10 13 (by omega)]; exact h2.2.2⟩, ⟨⟨?_, ?_, ?_, ?_, ?_⟩, ?_, ?_, ?_, ?_⟩, ?_, r_txt_c h1.2.2.2 hl (fun j _ => by rw [h89]) h5, ?_, ?_⟩
  · rw [h89, h10 10 (by omega)]; exact f0
  · rw [h89, h10 12 (by omega)]; exact f1
  · rw [h89, h10 11 (by omega)]; exact f2
  · rw [h89, h10 13 (by omega)]; exact f3
  · rw [h89, h10 15 (by omega)]; exact f5
  · rw [h89, hU (10 + 4) (by omega)]; exact fa
  · rw [h89, hU (10 + 1) (by omega), hU (10 + 2) (by omega), hU (10 + 3) (by omega)]; exact fb
  · rw [h89, hU (10 + 6) (by omega)]; exact fc
  · rw [h89, hU (10 + 5) (by omega)]; exact fd
  · intro k hk; rw [hU (10 + 8) (by omega), hl 45 (by omega) (by omega) (by omega)]; exact h4 k hk
  · rw [hU (10 + 2) (by omega)]; exact h6
  · rw [h89]; exact h7
/-- one day, both sides -/
theorem p_day {nS nC nW nT d : Nat} {M Mc : sk_M} (h : r_p nS nC nW nT d M) (hd : d < 9999) (hU : ∀ o, o ≠ 47 → o ≠ 10 → ¬ (20 ≤ o ∧ o < 20 + nC) → Mc o = M o) (hr : ∀ c, c < nC → Mc (20 + c) = x_fr 10 M nS (M (20 + c)) (M 16 c) (M 10 14)) (h10 : Mc 10 = upd (M 10) 14 (M 10 14 + 1)) :
    r_p nS nC nW nT (d + 1) (sk_uA Mc 89 (x_day 10 M nS nC (M 89))) := by
  have hmh := p_mh h
  obtain ⟨⟨hI, hE, hT⟩, hO⟩ := h
  obtain ⟨⟨⟨b1, b2, b3, b4, b5⟩, c1, c2, c3, c4, c5⟩, hrng, hzero, hcou⟩ := id hI
  have ho : ∀ o, o ≠ 89 → sk_uA Mc 89 (x_day 10 M nS nC (M 89)) o = Mc o := fun o q => sk_uA_ne _ _ q
  have hf := r_eq_fix hE
  have hrow : ∀ c, c < 6 → ∀ k, k < 9 → Mc (20 + c) k = if c < nC ∧ k < nS then M (20 + c) k - x_ls 10 M k (M (20 + c) k) (M 16 c) (M 10 14) else M (20 + c) k := by
    intro c hc k hk
    by_cases q : c < nC
    · rw [hr c q]
      unfold x_fr
      by_cases q2 : k < nS
      · rw [if_pos q2, if_pos ⟨q, q2⟩]
      · rw [if_neg q2, if_neg (fun z => q2 z.2)]
    · rw [if_neg (fun z => q z.1), hU (20 + c) (by omega) (by omega) (by omega)]
  have hTx : ∀ c, c < 6 → ∀ k, k < 9 → x_day 10 M nS nC (M 89) (43 + 9 * c + k) = Mc (20 + c) k := by
    intro c hc k hk
    rw [hrow c hc k hk]
    unfold x_day
    rw [q_upd, if_neg (by omega)]
    unfold x_gc
    rw [show (43 + 9 * c + k - 43) % 9 = k by omega, show (43 + 9 * c + k - 43) / 9 = c by omega, hf.2.2 c hc k hk, hf.1.2.2.2.1 c hc, hf.2.1]
    by_cases q : c < nC ∧ k < nS
    · rw [if_pos q, if_pos (by omega)]
    · rw [if_neg q, if_neg (by omega)]
  have hTa : ∀ i, i ≠ 4 → (i < 43 ∨ 97 ≤ i) → x_day 10 M nS nC (M 89) i = M 89 i := by
    intro i q1 q2
    unfold x_day
    rw [q_upd, if_neg q1]
    exact x_gc_ag 10 M nS (M 89) b2 i q1 q2
  have hval : ∀ c, c < 6 → ∀ k, k < 9 → ∃ v : Nat, Mc (20 + c) k = nI v ∧ v ≤ 999 := by
    intro c hc k hk
    rw [hrow c hc k hk]
    obtain ⟨v, v1, v2⟩ := hrng.2.2.2.2 c hc k hk
    have v1' : M (20 + c) k = nI v := v1
    by_cases q : c < nC ∧ k < nS
    · rw [if_pos q, v1']
      obtain ⟨l, l1, l2⟩ := x_ls_n (c := c) hmh hk v2 (M 16 c) (M 10 14)
      rw [l2, pk_sub l1]
      exact ⟨v - l, rfl, by omega⟩
    · rw [if_neg q]; exact ⟨v, v1', v2⟩
  refine ⟨⟨⟨⟨⟨b1, b2, b3, b4, by omega⟩, ?_, ?_, ?_, ?_, ?_⟩, ⟨?_, ?_, ?_, ?_, ?_⟩, ⟨?_, ?_, ?_⟩, ?_⟩, r_eq_of ⟨⟨?_, ?_, ?_, ?_, ?_⟩, ?_, ?_, ?_, ?_⟩ ⟨?_, ?_⟩, ?_⟩, ?_⟩
  · rw [ho 10 (by omega), h10, q_upd, if_neg (by omega)]; exact c1
  · rw [ho 10 (by omega), h10, q_upd, if_neg (by omega)]; exact c2
  · rw [ho 10 (by omega), h10, q_upd, if_neg (by omega)]; exact c3
  · rw [ho 10 (by omega), h10, q_upd, if_neg (by omega)]; exact c4
  · rw [ho 10 (by omega), h10, q_upd, if_pos rfl, c5, nI_1]
  · rw [ho _ (by omega), hU (10 + 4) (by omega) (by omega) (by omega)]; exact hrng.1
  · rw [ho _ (by omega), hU (10 + 1) (by omega) (by omega) (by omega)]; exact hrng.2.1
  · rw [ho _ (by omega), hU (10 + 2) (by omega) (by omega) (by omega)]; exact hrng.2.2.1
  · rw [ho _ (by omega), hU (10 + 6) (by omega) (by omega) (by omega)]; exact hrng.2.2.2.1
  · intro c hc k hk; rw [ho _ (by omega)]; exact hval c hc k hk
  · rw [ho _ (by omega), hU (10 + 3) (by omega) (by omega) (by omega)]; exact hzero.1
  · rw [ho _ (by omega), hU (10 + 6) (by omega) (by omega) (by omega)]; exact hzero.2.1
  · intro c hc k hk q
    rw [ho _ (by omega)]
    show Mc (20 + c) k = 0
    rw [hrow c hc k hk, if_neg (by omega)]
    exact hzero.2.2 c hc k hk q
  · intro k hk
    rw [ho _ (by omega), hU (10 + 8) (by omega) (by omega) (by omega), ho 45 (by omega), hU 45 (by omega) (by omega) (by omega)]; exact hcou k hk
  · rw [sk_uA_self, hTa 0 (by omega) (by omega), ho 10 (by omega), h10, q_upd, if_neg (by omega)]; exact hf.1.1.1
  · rw [sk_uA_self, hTa 1 (by omega) (by omega), ho 10 (by omega), h10, q_upd, if_neg (by omega)]; exact hf.1.1.2.1
  · rw [sk_uA_self, hTa 2 (by omega) (by omega), ho 10 (by omega), h10, q_upd, if_neg (by omega)]; exact hf.1.1.2.2.1
  · rw [sk_uA_self, hTa 3 (by omega) (by omega), ho 10 (by omega), h10, q_upd, if_neg (by omega)]; exact hf.1.1.2.2.2.1
  · rw [sk_uA_self, hTa 5 (by omega) (by omega), ho 10 (by omega), h10, q_upd, if_neg (by omega)]; exact hf.1.1.2.2.2.2
  · intro k hk; rw [sk_uA_self, hTa _ (by omega) (by omega), ho _ (by omega), hU (10 + 4) (by omega) (by omega) (by omega)]; exact hf.1.2.1 k hk
  · intro k hk
    rw [sk_uA_self, hTa _ (by omega) (by omega), hTa _ (by omega) (by omega), hTa _ (by omega) (by omega), ho _ (by omega), ho _ (by omega), ho _ (by omega), hU (10 + 1) (by omega) (by omega) (by omega), hU (10 + 2) (by omega) (by omega) (by omega), hU (10 + 3) (by omega) (by omega) (by omega)]
    exact hf.1.2.2.1 k hk
  · intro k hk; rw [sk_uA_self, hTa _ (by omega) (by omega), ho _ (by omega), hU (10 + 6) (by omega) (by omega) (by omega)]; exact hf.1.2.2.2.1 k hk
  · intro k hk; rw [sk_uA_self, hTa _ (by omega) (by omega), ho _ (by omega), hU (10 + 5) (by omega) (by omega) (by omega)]; exact hf.1.2.2.2.2 k hk
  · rw [sk_uA_self, ho 10 (by omega), h10, q_upd, if_pos rfl]
    unfold x_day
    rw [q_upd, if_pos rfl, hf.2.1]
  · intro c hc k hk
    rw [sk_uA_self, ho _ (by omega)]
    exact hTx c hc k hk
  · exact r_txt_c b4 (fun o q1 q2 q3 => by rw [ho o (by omega)]; exact hU o q3 (by omega) (by omega)) (fun j hj => by rw [sk_uA_self]; exact hTa j (by omega) (by omega)) hT
  · exact r_oth_c (fun o q => by unfold r_keep at q; rw [ho o (by omega)]; exact hU o (by omega) (by omega) (by omega)) b4 hO
theorem x_daysL {nS nC nW nT n : Nat} (hn : n ≤ 60) : ∀ (m i d : Nat) (M : sk_M), i + m = n → r_p nS nC nW nT d M → ∃ (M1 : sk_M) (T' : Nat → Int32) (d' : Nat),
    (∀ (N : sk_M) (fu : Nat), m < fu → (∀ o, o < 88 → o ≠ 47 → N o = M o) → ∃ N1, f_X6_days_L15 (nI n) fu (nI i) N = some N1 ∧ (∀ o, o < 88 → o ≠ 47 → N1 o = M1 o) ∧ (∀ o, 88 ≤ o → N1 o = N o)) ∧
    (∀ (N : sk_M) (fu : Nat), m < fu → (∀ j, j ≠ 14 → N 10 j = M 10 j) → (∀ o, (11 ≤ o ∧ o ≤ 16) ∨ o = 18 → N o = M o) → r_lib M N → N 89 = M 89 → ∃ N1, f_X7_days_L17 (nI n) fu (nI i) N = some N1 ∧ x_o3 N N1 ∧ N1 89 = T') ∧
    (∀ o, 88 ≤ o → M1 o = M o) ∧ (∀ j, j ≠ 14 → M1 10 j = M 10 j) ∧ (∀ o, (11 ≤ o ∧ o ≤ 16) ∨ o = 18 → M1 o = M o) ∧ r_lib M M1 ∧ r_p nS nC nW nT d' (sk_uA M1 89 T') := by
  intro m
  induction m with
  | zero =>
    intro i d M hi hP
    have c5 : M 10 14 = nI d := hP.1.1.1.2.2.2.2.2
    refine ⟨M, M 89, d, ?_, ?_, fun _ _ => rfl, fun _ _ => rfl, fun _ _ => rfl, fun _ _ _ _ => rfl, by rw [x_uA_id]; exact hP⟩
    · intro N fu hfu hN
      obtain ⟨g, rfl⟩ : ∃ g, fu = g + 1 := ⟨fu - 1, by omega⟩
      exact ⟨N, by rw [f_X6_days_L15, if_pos (nI_le (by omega) (by omega))], hN, fun _ _ => rfl⟩
    · intro N fu hfu h1 h2 h3 h4
      obtain ⟨g, rfl⟩ : ∃ g, fu = g + 1 := ⟨fu - 1, by omega⟩
      exact ⟨N, by rw [f_X7_days_L17, if_pos (nI_le (by omega) (by omega))], fun _ _ _ _ => rfl, h4⟩
  | succ m ih =>
    intro i d M hi hP
    have hch := p_ch hP
    have hmh := p_mh hP
    have b5 := hP.1.1.1.1.2.2.2.2
    have b4 := hP.1.1.1.1.2.2.2.1
    have c5 : M 10 14 = nI d := hP.1.1.1.2.2.2.2.2
    have e4 : M 89 4 = nI d := ((r_eq_fix hP.1.2.1).2.1).trans c5
    by_cases hd : d = 9999
    · subst hd
      refine ⟨M, M 89, 9999, ?_, ?_, fun _ _ => rfl, fun _ _ => rfl, fun _ _ => rfl, fun _ _ _ _ => rfl, by rw [x_uA_id]; exact hP⟩
      · intro N fu hfu hN
        obtain ⟨g, rfl⟩ : ∃ g, fu = g + 1 := ⟨fu - 1, by omega⟩
        exact ⟨N, by rw [f_X6_days_L15, if_neg (nI_ge (by omega) (by omega)), hN 10 (by omega) (by omega), c5, if_pos (by decide)], hN, fun _ _ => rfl⟩
      · intro N fu hfu h1 h2 h3 h4
        obtain ⟨g, rfl⟩ : ∃ g, fu = g + 1 := ⟨fu - 1, by omega⟩
        exact ⟨N, by rw [f_X7_days_L17, if_neg (nI_ge (by omega) (by omega)), h4, e4, if_pos (by decide)], fun _ _ _ _ => rfl, h4⟩
    obtain ⟨Mc, p1, p2, p3, p4⟩ := x_passDay hch
    have hPd := p_day (Mc := Mc) hP (by omega) p2 p3 p4
    have hxo : ∀ o, o ≠ 89 → sk_uA Mc 89 (x_day 10 M nS nC (M 89)) o = Mc o := fun o q => sk_uA_ne _ _ q
    have hC6 := hP.1.1.1.1.2.1
    obtain ⟨M1, T', d', k1, k2, k3, k4, k5, k6, k7⟩ := ih (i + 1) (d + 1) _ (by omega) hPd
    have h10 : ∀ j, j ≠ 14 → sk_uA Mc 89 (x_day 10 M nS nC (M 89)) 10 j = M 10 j := fun j q => by rw [hxo 10 (by omega), p4, q_upd, if_neg q]
    have hfx : ∀ o, (11 ≤ o ∧ o ≤ 16) ∨ o = 18 → sk_uA Mc 89 (x_day 10 M nS nC (M 89)) o = M o := fun o q => by rw [hxo o (by omega)]; exact p2 o (by omega) (by omega) (by omega)
    have hlb : r_lib M (sk_uA Mc 89 (x_day 10 M nS nC (M 89))) := fun o q1 q2 q3 => by rw [hxo o (by omega)]; exact p2 o q3 (by omega) (by omega)
    refine ⟨sk_uA M1 89 (M 89), T', d', ?_, ?_, ?_, ?_, ?_, ?_, ?_⟩
    · intro N fu hfu hN
      obtain ⟨g, rfl⟩ : ∃ g, fu = g + 1 := ⟨fu - 1, by omega⟩
      have c1 : r_cs 10 M N := fun o q => hN o (by omega) (by omega)
      have c2 : r_lib M N := fun o q1 q2 q3 => hN o (by omega) q3
      obtain ⟨Nc, n1, n2, n3, n4⟩ := x_passDay (x_ch_c hch c1 c2)
      have hfr := x_fr_c hch c1 c2
      obtain ⟨N1, m1, m2, m3⟩ := k1 Nc g (by omega) (by
        intro o q1 q2
        rw [hxo o (by omega)]
        by_cases z1 : o = 10
        · subst z1; rw [n4, p4, hN 10 (by omega) (by omega)]
        · by_cases z2 : 20 ≤ o ∧ o < 20 + nC
          · obtain ⟨c, hc, rfl⟩ : ∃ c, c < nC ∧ o = 20 + c := ⟨o - 20, by omega, by omega⟩
            have e1 : Nc (20 + c) = x_fr 10 N nS (N (20 + c)) (N 16 c) (N 10 14) := n3 c hc
            have e2 : Mc (20 + c) = x_fr 10 M nS (M (20 + c)) (M 16 c) (M 10 14) := p3 c hc
            rw [e1, e2, hfr, hN (20 + c) (by omega) (by omega), hN 16 (by omega) (by omega), hN 10 (by omega) (by omega)]
          · rw [n2 o q2 z1 z2, p2 o q2 z1 z2]; exact hN o q1 q2)
      refine ⟨N1, ?_, ?_, ?_⟩
      · rw [f_X6_days_L15, if_neg (nI_ge (by omega) (by omega)), hN 10 (by omega) (by omega), c5, if_neg (show ¬ (9999 : Int32) ≤ nI d from nI_ge (b := 9999) (by omega) (by omega)), n1, q_b1, nI_1]
        exact m1
      · intro o q1 q2; rw [sk_uA_ne _ _ (by omega)]; exact m2 o q1 q2
      · intro o q; rw [m3 o q]; exact n2 o (by omega) (by omega) (by omega)
    · intro N fu hfu h1 h2 h3 h4
      obtain ⟨g, rfl⟩ : ∃ g, fu = g + 1 := ⟨fu - 1, by omega⟩
      have hmN := x_mh_d hmh h1 h2 h3 h4
      obtain ⟨Na, n1, n2, n3, n4⟩ := x_goesOn hmN
      have hls : x_ls 10 N = x_ls 10 M := x_ls_c2 b4 hP.1.1.2.2.2 (h2 11 (by omega)) (h2 12 (by omega)) (h2 18 (by omega)) h3
      have hday : x_day 10 N nS nC = x_day 10 M nS nC := by
        funext T
        unfold x_day x_gc
        rw [hls]
      obtain ⟨N1, m1, m2, m3⟩ := k2 Na g (by omega) (fun j q => by rw [n2.lt 10 (by omega), h1 j q, h10 j q]) (fun o q => by rw [n2.lt o (by omega), h2 o q, hfx o q]) (fun o q1 q2 q3 => by rw [n2.lt o (by omega), h3 o q1 q2 q3, hlb o q1 q2 q3]) (by rw [n3, hday, h4, sk_uA_self])
      refine ⟨N1, ?_, n2.trans m2, m3⟩
      rw [f_X7_days_L17, if_neg (nI_ge (by omega) (by omega)), h4, e4, if_neg (show ¬ (9999 : Int32) ≤ nI d from nI_ge (b := 9999) (by omega) (by omega)), n1, q_b1, nI_1]
      exact m1
    · intro o q
      by_cases z : o = 89
      · subst z; rw [sk_uA_self]
      · rw [sk_uA_ne _ _ z, k3 o q, hxo o z]; exact p2 o (by omega) (by omega) (by omega)
    · intro j q; rw [sk_uA_ne _ _ (by omega), k4 j q, h10 j q]
    · intro o q; rw [sk_uA_ne _ _ (by omega), k5 o q, hfx o q]
    · intro o q1 q2 q3; rw [sk_uA_ne _ _ (by omega), k6 o q1 q2 q3, hlb o q1 q2 q3]
    · rw [x_uA2]; exact k7
theorem t_days (a1 : Int32) : r_st (f_X6_days a1) (f_X7_days a1) := by
  intro M hR
  obtain ⟨nS, nC, nW, nT, d, hP⟩ := id hR
  by_cases g1 : f_X6_within a1 1 60 = 0
  · exact ⟨_, M, M, by rw [f_X6_days, if_pos g1], by rw [f_X7_days, g_in a1 1 60 (by decide) (by decide), if_pos g1], hR⟩
  obtain ⟨n, hn1, hn, rfl⟩ := q_wb (lo := 1) (hi := 60) (by omega) (by omega) g1
  obtain ⟨M1, T', d', k1, k2, k3, k4, k5, k6, k7⟩ := x_daysL hn n 0 d M (by omega) hP
  obtain ⟨N1, m1, m2, m3⟩ := k1 M sk_FU (by unfold sk_FU; omega) (fun _ _ _ => rfl)
  obtain ⟨N2, m4, m5, m6⟩ := k2 N1 sk_FU (by unfold sk_FU; omega) (fun j q => by rw [m2 10 (by omega) (by omega)]; exact k4 j q) (fun o q => by rw [m2 o (by omega) (by omega)]; exact k5 o q) (fun o q1 q2 q3 => by rw [m2 o (by omega) q3]; exact k6 o q1 q2 q3) (m3 89 (by omega))
  have c5 : sk_uA M1 89 T' 10 14 = nI d' := k7.1.1.1.2.2.2.2.2
  have c6 : sk_uA M1 89 T' 89 4 = nI d' := ((r_eq_fix k7.1.2.1).2.1).trans c5
  rw [sk_uA_ne _ _ (by omega)] at c5
  rw [sk_uA_self] at c6
  refine ⟨nI d', N1, N2, ?_, ?_, nS, nC, nW, nT, d', p_scr k7 ?_ ?_⟩
  · rw [f_X6_days, if_neg g1]
    show sk_b1 (f_X6_days_L15 (nI n) sk_FU (nI 0) M) _ = _
    rw [m1, q_b1, m2 10 (by omega) (by omega), c5]
  · rw [f_X7_days, g_in (nI n) 1 60 (by decide) (by decide), if_neg g1]
    show sk_b1 (f_X7_days_L17 (nI n) sk_FU (nI 0) N1) _ = _
    rw [m4, q_b1, m6, c6]
  · intro o q1 q2
    unfold r_scr at q1
    rw [m5 o q2 (by omega) (by omega), sk_uA_ne _ _ q2]
    by_cases z : o < 88
    · exact m2 o z (by omega)
    · rw [m3 o (by omega), k3 o (by omega)]
  · intro i hi; rw [m6, sk_uA_self]
