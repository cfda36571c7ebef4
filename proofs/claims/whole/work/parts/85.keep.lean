/-! count, keep, back, feed. -/
def x_sa (F : Nat → Int32) : Nat → Nat → Int32 → Int32
  | _, 0, s => s
  | c, m + 1, s => x_sa F (c + 1) m (s + F c)
theorem x_sa_s (F : Nat → Int32) (c m : Nat) (s : Int32) : x_sa F c (m + 1) s = x_sa F (c + 1) m (s + F c) := rfl
theorem x_saC {nS nC : Nat} {M : sk_M} (h9 : nS ≤ 9) (h6 : nC ≤ 6) (hn : M 10 10 = nI nS) (hc : M 10 12 = nI nC) : ∀ (m c fu : Nat) (s : Int32), c + m = nC → m < fu → f_X5_sumOfAll_L4 10 M fu s (nI c) = some (x_sa (fun c => x_sum (M (20 + c)) nS) c m s) := by
  intro m
  induction m with
  | zero =>
    intro c fu s hcm hfu
    obtain ⟨g, rfl⟩ : ∃ g, fu = g + 1 := ⟨fu - 1, by omega⟩
    rw [f_X5_sumOfAll_L4, hc, if_pos (nI_le (by omega) (by omega))]
    rfl
  | succ m ih =>
    intro c fu s hcm hfu
    obtain ⟨g, rfl⟩ : ∃ g, fu = g + 1 := ⟨fu - 1, by omega⟩
    rw [f_X5_sumOfAll_L4, hc, if_neg (nI_ge (by omega) (by omega)), q_chkI (by omega) (by omega), q_clamp (by omega), x_sumOf h9 hn, q_b1, q_let, nI_1, x_sa_s]
    exact ih (c + 1) g _ (by omega) (by omega)
theorem x_saM {nS nC : Nat} {M : sk_M} (h9 : nS ≤ 9) (h6 : nC ≤ 6) (hn : M 89 0 = nI nS) (hc : M 89 1 = nI nC) (hr : ∀ c, c < 6 → ∀ k, k < 9 → M 89 (43 + 9 * c + k) = M (20 + c) k) : ∀ (m c fu : Nat) (s : Int32), c + m = nC → m < fu → f_X7_allStrengths_L4 M fu s (nI c) = some (x_sa (fun c => x_sum (M (20 + c)) nS) c m s) := by
  intro m
  induction m with
  | zero =>
    intro c fu s hcm hfu
    obtain ⟨g, rfl⟩ : ∃ g, fu = g + 1 := ⟨fu - 1, by omega⟩
    rw [f_X7_allStrengths_L4, hc, if_pos (nI_le (by omega) (by omega))]
    rfl
  | succ m ih =>
    intro c fu s hcm hfu
    obtain ⟨g, rfl⟩ : ∃ g, fu = g + 1 := ⟨fu - 1, by omega⟩
    have e : x_sum (fun j => M 89 (43 + 9 * c + j)) nS = x_sum (M (20 + c)) nS := x_sum_c (fun j hj => hr c (by omega) j (by omega))
    rw [f_X7_allStrengths_L4, hc, if_neg (nI_ge (by omega) (by omega)), x_allOn h9 (by omega) hn, e, q_b1, q_let, nI_1, x_sa_s]
    exact ih (c + 1) g _ (by omega) (by omega)
theorem t_count (a1 : Int32) : r_sr (f_X6_count a1) (f_X7_count a1) := by
  intro M hR
  obtain ⟨nS, nC, nW, nT, d, hP⟩ := id hR
  obtain ⟨⟨b1, b2, b3, b4, b5⟩, c1, c2, c3, c4, c5⟩ := hP.1.1.1
  have hE := hP.1.2.1
  obtain ⟨n, w1, w2, w3, w4⟩ := hP.2.2.1
  obtain ⟨l, t1, t2, t3, t4⟩ := hP.2.2.2.1
  have hs := x_saC b1 b2 c1 c2 nC 0 sk_FU 0 (by omega) (by unfold sk_FU; omega)
  have hm := x_saM b1 b2 ((hE 0 (by omega)).trans c1) ((hE 1 (by omega)).trans c2) (fun c hc k hk => (r_eq_fix hE).2.2 c hc k hk) nC 0 sk_FU 0 (by omega) (by unfold sk_FU; omega)
  have hs' : f_X5_sumOfAll 10 M = some (x_sa (fun c => x_sum (M (20 + c)) nS) 0 nC 0) := by
    have h0 : f_X5_sumOfAll_L4 10 M sk_FU 0 0 = _ := hs
    rw [f_X5_sumOfAll, h0, q_b1]
  have hm' : f_X7_allStrengths M = some (x_sa (fun c => x_sum (M (20 + c)) nS) 0 nC 0) := by
    have h0 : f_X7_allStrengths_L4 M sk_FU 0 0 = _ := hm
    rw [f_X7_allStrengths, h0, q_b1]
  have e0 : M 89 0 = M 10 10 := hE 0 (by omega)
  have e1 : M 89 1 = M 10 12 := hE 1 (by omega)
  have e2 : M 89 2 = M 10 11 := hE 2 (by omega)
  have e3 : M 89 3 = M 10 13 := hE 3 (by omega)
  have e4 : M 89 4 = M 10 14 := hE 4 (by omega)
  have e5 : M 89 5 = M 10 15 := hE 5 (by omega)
  rw [f_X6_count, f_X7_count, hs', hm', q_b1, e0, e1, e2, e3, e4, e5, w2, w3, t2, t3]
  by_cases q0 : a1 = 0
  · exact ⟨_, by rw [if_pos q0], by rw [if_pos q0]⟩
  rw [if_neg q0]
  by_cases q1 : a1 = 1
  · exact ⟨_, by rw [if_pos q1], by rw [if_pos q1]⟩
  rw [if_neg q1]
  by_cases q2 : a1 = 2
  · exact ⟨_, by rw [if_pos q2], by rw [if_pos q2]⟩
  rw [if_neg q2]
  by_cases q3 : a1 = 3
  · exact ⟨_, by rw [if_pos q3], by rw [if_pos q3]⟩
  rw [if_neg q3]
  by_cases q4 : a1 = 4
  · exact ⟨_, by rw [if_pos q4], by rw [if_pos q4]⟩
  rw [if_neg q4]
  by_cases q5 : a1 = 5
  · exact ⟨_, by rw [if_pos q5], by rw [if_pos q5]⟩
  rw [if_neg q5]
  by_cases q6 : a1 = 6
  · exact ⟨_, by rw [if_pos q6], by rw [if_pos q6]⟩
  rw [if_neg q6]
  by_cases q7 : a1 = 7
  · exact ⟨_, by rw [if_pos q7], by rw [if_pos q7]⟩
  rw [if_neg q7]
  by_cases q8 : a1 = 8
  · exact ⟨_, by rw [if_pos q8], by rw [if_pos q8]⟩
  exact ⟨_, by rw [if_neg q8], by rw [if_neg q8]⟩
-- keep, back
theorem r_c_ok : ∀ i, i < 109 → (r_co i = 0 ∧ 10 ≤ r_cj i ∧ r_cj i < 16) ∨ (((1 ≤ r_co i ∧ r_co i ≤ 6) ∨ r_co i = 8 ∨ (10 ≤ r_co i ∧ r_co i < 16)) ∧ r_cj i < x_wl (r_co i)) := by decide +kernel
def x_lk (a b : Nat) (M M' : sk_M) : Prop := (∀ j, (1 ≤ j ∧ j ≤ 6) ∨ j = 8 ∨ (10 ≤ j ∧ j < 16) → ∀ k, k < x_wl j → M' (a + j) k = M (b + j) k) ∧ (∀ k, 10 ≤ k → k < 16 → M' a k = M b k)
theorem r_inv_like {a b nS nC nW nT d : Nat} {M M' : sk_M} (h : r_inv b nS nC nW nT d M) (hl : x_lk a b M M') (h45 : M' 45 = M 45) : r_inv a nS nC nW nT d M' := by
  obtain ⟨⟨h1, h2, h3, h4, h5, h6⟩, ⟨a1, a2, a3, a4, a5⟩, ⟨z1, z2, z3⟩, hc⟩ := h
  obtain ⟨l2, l3⟩ := hl
  have w10 : ∀ c, c < 6 → x_wl (10 + c) = 9 := fun c hc => by unfold x_wl; rw [if_neg (by omega), if_neg (by omega), if_neg (by omega), if_neg (by omega)]
  have ls : ∀ c, c < 6 → ∀ k, k < 9 → M' (a + 10 + c) k = M (b + 10 + c) k := fun c hc k hk => by
    have := l2 (10 + c) (by omega) k (by rw [w10 c hc]; exact hk)
    rw [← Nat.add_assoc, ← Nat.add_assoc] at this
    exact this
  refine ⟨⟨h1, by rw [l3 10 (by omega) (by omega)]; exact h2, by rw [l3 12 (by omega) (by omega)]; exact h3, by rw [l3 11 (by omega) (by omega)]; exact h4, by rw [l3 13 (by omega) (by omega)]; exact h5, by rw [l3 14 (by omega) (by omega)]; exact h6⟩, ⟨fun k hk => ?_, fun k hk => ?_, fun k hk => ?_, fun k hk => ?_, fun c hc k hk => ?_⟩, ⟨fun k hk q => ?_, fun k hk q => ?_, fun c hc k hk q => ?_⟩, fun k hk => ?_⟩
  · rw [l2 4 (by omega) k hk]; exact a1 k hk
  · rw [l2 1 (by omega) k hk]; exact a2 k hk
  · rw [l2 2 (by omega) k hk]; exact a3 k hk
  · rw [l2 6 (by omega) k hk]; exact a4 k hk
  · rw [ls c hc k hk]; exact a5 c hc k hk
  · rw [l2 3 (by omega) k hk]; exact z1 k hk q
  · rw [l2 6 (by omega) k hk]; exact z2 k hk q
  · rw [ls c hc k hk]; exact z3 c hc k hk q
  · rw [l2 8 (by omega) k hk, h45]; exact hc k hk
theorem r_eq_like {a b t t' : Nat} {M M' : sk_M} (h : r_eq b t M) (hl : x_lk a b M M') (ht : ∀ i, i < 109 → M' t' i = M t i) : r_eq a t' M' := by
  intro i hi
  rw [ht i hi, h i hi]
  rcases r_c_ok i hi with ⟨q1, q2, q3⟩ | ⟨q1, q2⟩
  · rw [q1]; exact (hl.2 _ q2 q3).symm
  · exact (hl.1 _ q1 _ q2).symm
theorem r_txt_cp {t t' nT : Nat} {M M' : sk_M} (hT : nT ≤ 14) (hl : r_lib M M') (ht : ∀ j, j < 2909 → M' t' j = M t j) (q : r_txt t nT M) : r_txt t' nT M' := by
  intro i hi
  obtain ⟨q1, q2, q3, key, sz, q4, q5, q6, q7, q8, q9⟩ := q i hi
  refine ⟨?_, ?_, ?_, key, sz, q4, ?_, q6, ?_, ?_, ?_⟩
  · rw [ht _ (by omega), hl 45 (by omega) (by omega) (by omega)]; exact q1
  · rw [ht _ (by omega), hl 46 (by omega) (by omega) (by omega)]; exact q2
  · rw [ht _ (by omega), hl 44 (by omega) (by omega) (by omega)]; exact q3
  · rw [hl 45 (by omega) (by omega) (by omega)]; exact q5
  · rw [hl 44 (by omega) (by omega) (by omega)]; exact q7
  · rw [hl (48 + i) (by omega) (by omega) (by omega)]; exact q8
  · intro j hj
    rw [hl (48 + i) (by omega) (by omega) (by omega), ht _ (by omega), ht _ (by omega)]
    exact q9 j hj
theorem t_keep : r_st f_X6_keep f_X7_keep := by
  intro M hR
  obtain ⟨nS, nC, nW, nT, d, hP⟩ := id hR
  obtain ⟨⟨hI, hE, hT⟩, hO⟩ := id hP
  have b4 := hI.1.1.2.2.2.1
  obtain ⟨Mc, k1, k2⟩ := x_becLike (a := 26) (b := 10) (by omega) M
  have co : ∀ o, ¬ (26 ≤ o ∧ o < 42) → Mc o = M o := k2.1
  have e89 : sk_u (sk_u Mc 0 12 1) 88 3 1 89 = M 89 := by rw [q_uo (by omega), q_uo (by omega), co 89 (by omega)]
  generalize hM2 : sk_uA (sk_u (sk_u Mc 0 12 1) 88 3 1) 90 (x_cp (M 89) (sk_u (sk_u Mc 0 12 1) 88 3 1 90) 2909) = M2
  have ho : ∀ o, o ≠ 0 → o ≠ 88 → o ≠ 90 → ¬ (26 ≤ o ∧ o < 42) → M2 o = M o := fun o q1 q2 q3 q4 => by rw [← hM2, sk_uA_ne _ _ q3, q_uo q2, q_uo q1]; exact co o q4
  have hc : ∀ o, 26 ≤ o → o < 42 → M2 o = Mc o := fun o q1 q2 => by rw [← hM2, sk_uA_ne _ _ (by omega), q_uo (by omega), q_uo (by omega)]
  have h90 : ∀ j, j < 2909 → M2 90 j = M 89 j := fun j hj => by rw [← hM2, sk_uA_self, x_cp, if_pos hj]
  have h0 : ∀ j, j ≠ 12 → M2 0 j = M 0 j := fun j hj => by rw [← hM2, sk_uA_ne _ _ (by omega), q_uo (by omega), q_un (by omega), co 0 (by omega)]
  have h88 : ∀ j, j ≠ 3 → M2 88 j = M 88 j := fun j hj => by rw [← hM2, sk_uA_ne _ _ (by omega), q_un (by omega), q_uo (by omega), co 88 (by omega)]
  have hlike : x_lk 26 10 M M2 := ⟨fun j hj k hk => by rw [hc (26 + j) (by omega) (by omega)]; exact k2.2.1 j hj k hk, fun k q1 q2 => by rw [hc 26 (by omega) (by omega)]; exact k2.2.2 k q1 q2⟩
  have hlib : r_lib M M2 := fun o q1 q2 q3 => ho o (by omega) (by omega) (by omega) (by omega)
  refine ⟨M 10 12, sk_u Mc 0 12 1, M2, ?_, ?_, nS, nC, nW, nT, d, ⟨r_inv_c hI (fun o q => ho o (by omega) (by omega) (by omega) (by omega)) (ho 45 (by omega) (by omega) (by omega) (by omega)), r_eq_c hE (fun o q => ho o (by omega) (by omega) (by omega) (by omega)) (fun i _ => by rw [ho 89 (by omega) (by omega) (by omega) (by omega)]), r_txt_c b4 hlib (fun j _ => by rw [ho 89 (by omega) (by omega) (by omega) (by omega)]) hT⟩, Or.inr ⟨?_, ?_, nS, nC, nW, nT, d, Nat.le_refl _, r_inv_like hI hlike (ho 45 (by omega) (by omega) (by omega) (by omega)), r_eq_like hE hlike (fun i hi => h90 i (by omega)), r_txt_cp b4 hlib h90 hT⟩, r_wait_c (h0 11 (by omega)) (ho 3 (by omega) (by omega) (by omega) (by omega)) (h88 31 (by omega)) (ho 107 (by omega) (by omega) (by omega) (by omega)) hO.2.1, r_tape_c (by rw [ho 62 (by omega) (by omega) (by omega) (by omega)]) (ho 63 (by omega) (by omega) (by omega) (by omega)) (h88 15 (by omega)) (ho 102 (by omega) (by omega) (by omega) (by omega)) hO.2.2.1, r_sh_c (fun o q => ho o (by omega) (by omega) (by omega) (by omega)) hO.2.2.2.1, r_sl_c (fun o q => ho o (by omega) (by omega) (by omega) (by omega)) hO.2.2.2.2⟩
  · rw [f_X6_keep, k1, q_b1, q_let, q_uo (by omega), co 10 (by omega)]
  · rw [f_X7_keep, q_let, x_aside (by omega), q_b1, e89, hM2, ho 89 (by omega) (by omega) (by omega) (by omega), show M 89 1 = M 10 12 from hE 1 (by omega)]
  · rw [← hM2, sk_uA_ne _ _ (by omega), q_uo (by omega), q_ue]
  · rw [← hM2, sk_uA_ne _ _ (by omega), q_ue]
theorem t_back : r_st f_X6_back f_X7_back := by
  intro M hR
  obtain ⟨nS, nC, nW, nT, d, hP⟩ := id hR
  obtain ⟨⟨hI, hE, hT⟩, hO⟩ := id hP
  have b4 := hI.1.1.2.2.2.1
  rcases hO.1 with ⟨q1, q2⟩ | ⟨q1, q2, mS, mC, mW, mT, e, hle, hI', hE', hT'⟩
  · exact ⟨-1000000002, M, M, by rw [f_X6_back, if_pos q1], by rw [f_X7_back, if_pos q2], hR⟩
  obtain ⟨Mc, k1, k2⟩ := x_becLike (a := 10) (b := 26) (by omega) M
  have co : ∀ o, ¬ (10 ≤ o ∧ o < 26) → Mc o = M o := k2.1
  generalize hM2 : sk_uA Mc 89 (x_cp (M 90) (M 89) 2909) = M2
  have ho : ∀ o, o ≠ 89 → ¬ (10 ≤ o ∧ o < 26) → M2 o = M o := fun o q3 q4 => by rw [← hM2, sk_uA_ne _ _ q3]; exact co o q4
  have hc : ∀ o, 10 ≤ o → o < 26 → M2 o = Mc o := fun o q1 q2 => by rw [← hM2, sk_uA_ne _ _ (by omega)]
  have h89 : ∀ j, j < 2909 → M2 89 j = M 90 j := fun j hj => by rw [← hM2, sk_uA_self, x_cp, if_pos hj]
  have hlike : x_lk 10 26 M M2 := ⟨fun j hj k hk => by rw [hc (10 + j) (by omega) (by omega)]; exact k2.2.1 j hj k hk, fun k q1 q2 => by rw [hc 10 (by omega) (by omega)]; exact k2.2.2 k q1 q2⟩
  have hlib : r_lib M M2 := fun o q1 q2 q3 => ho o (by omega) (by omega)
  have hmT := hI'.1.1.2.2.2.1
  refine ⟨M 26 12, Mc, M2, ?_, ?_, mS, mC, mW, mT, e, ⟨r_inv_like hI' hlike (ho 45 (by omega) (by omega)), r_eq_like hE' hlike (fun i hi => h89 i (by omega)), r_txt_cp hmT hlib h89 hT'⟩, Or.inr ⟨by rw [ho 0 (by omega) (by omega)]; exact q1, by rw [ho 88 (by omega) (by omega)]; exact q2, mS, mC, mW, mT, e, Nat.le_refl _, r_inv_c hI' (fun o q => ho o (by omega) (by omega)) (ho 45 (by omega) (by omega)), r_eq_c hE' (fun o q => ho o (by omega) (by omega)) (fun i _ => by rw [ho 90 (by omega) (by omega)]), r_txt_c hmT hlib (fun j _ => by rw [ho 90 (by omega) (by omega)]) hT'⟩, r_wait_c (by rw [ho 0 (by omega) (by omega)]) (ho 3 (by omega) (by omega)) (by rw [ho 88 (by omega) (by omega)]) (ho 107 (by omega) (by omega)) hO.2.1, r_tape_c (by rw [ho 62 (by omega) (by omega)]) (ho 63 (by omega) (by omega)) (by rw [ho 88 (by omega) (by omega)]) (ho 102 (by omega) (by omega)) hO.2.2.1, r_sh_c (fun o q => ho o (by omega) (by omega)) hO.2.2.2.1, r_sl_c (fun o q => ho o (by omega) (by omega)) hO.2.2.2.2⟩
  · rw [f_X6_back, if_neg (by rw [q1]; decide), k1, q_b1]
    rw [show Mc 10 12 = M 26 12 from k2.2.2 12 (by omega) (by omega)]
  · rw [f_X7_back, co 88 (by omega), if_neg (by rw [q2]; decide), x_aside (by omega), q_b1, co 90 (by omega), co 89 (by omega), hM2, h89 1 (by omega), show M 90 1 = M 26 12 from hE' 1 (by omega)]
