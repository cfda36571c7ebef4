/-! tell, trim, sheets, slots. -/
theorem p_oth {nS nC nW nT d : Nat} {M M' : sk_M} (h : r_p nS nC nW nT d M) (hU : ∀ o, (10 ≤ o ∧ o < 26) ∨ (26 ≤ o ∧ o < 42) ∨ (44 ≤ o ∧ o < 62 ∧ o ≠ 47) ∨ o = 89 ∨ o = 90 → M' o = M o) (h0 : M' 0 12 = M 0 12) (h88 : M' 88 3 = M 88 3) (hw : r_wait M') (ht : r_tape M') (hs : r_sh M') (hl : r_sl M') : r_p nS nC nW nT d M' := by
  obtain ⟨⟨hI, hE, hT⟩, hO⟩ := h
  have b4 := hI.1.1.2.2.2.1
  refine ⟨⟨r_inv_c hI (fun o ho => hU o (by omega)) (hU 45 (by omega)), r_eq_c hE (fun o ho => hU o (by omega)) (fun i _ => by rw [hU 89 (by omega)]), r_txt_c b4 (fun o q1 q2 q3 => hU o (by omega)) (fun j _ => by rw [hU 89 (by omega)]) hT⟩, r_img_c (Nat.le_refl _) h0 h88 (fun o ho => hU o (by omega)) (hU 90 (by omega)) (fun o ho j _ => by rw [hU o (by omega)]) (fun i hi => hU _ (by omega)) hO.1, hw, ht, hs, hl⟩
theorem t_tell (a1 : Int32) : r_st (f_X6_tell a1) (f_X7_tell a1) := by
  intro M hR
  obtain ⟨nS, nC, nW, nT, d, hP⟩ := id hR
  obtain ⟨n, w1, w2, w3, w4⟩ := hP.2.2.1
  by_cases g : n = 60
  · subst g
    exact ⟨-1000000003, M, M, by rw [f_X6_tell, w2, if_neg (by decide)], by rw [f_X7_tell, w3, if_pos (by decide)], hR⟩
  have hn : n < 60 := by omega
  refine ⟨nI (n + 1), sk_u (sk_u M 3 n a1) 0 11 (nI (n + 1)), sk_u (sk_u (sk_u (sk_u M 3 n a1) 0 11 (nI (n + 1))) 107 n a1) 88 31 (nI (n + 1)), ?_, ?_, nS, nC, nW, nT, d, p_oth hP ?_ ?_ ?_ ?_ ?_ ?_ ?_⟩
  · rw [f_X6_tell, w2, if_pos (show nI n < 60 from nI_lt (b := 60) hn (by omega)), q_chkI (by omega) (by omega), q_let, q_clamp (by omega), q_let, q_uo (by omega : (0 : Nat) ≠ 3), w2, nI_1, q_ue]
  · have z : sk_u (sk_u M 3 n a1) 0 11 (nI (n + 1)) 88 31 = nI n := by rw [q_uo (by omega), q_uo (by omega)]; exact w3
    rw [f_X7_tell, z, if_neg (show ¬ nI n = 60 from fun q => g ((q_eq (b := 60) (by omega) (by omega)).mp q)), q_chkI (by omega) (by omega), q_let, q_clamp (by omega), q_let, q_uo (by omega : (88 : Nat) ≠ 107), z, nI_1, q_ue]
  · intro o ho; rw [q_uo (by omega), q_uo (by omega), q_uo (by omega), q_uo (by omega)]
  · rw [q_uo (by omega), q_uo (by omega), q_un (by omega), q_uo (by omega)]
  · rw [q_un (by omega), q_uo (by omega), q_uo (by omega), q_uo (by omega)]
  · refine ⟨n + 1, by omega, ?_, ?_, fun j hj => ?_⟩
    · rw [q_uo (by omega), q_uo (by omega), q_ue]
    · rw [q_ue]
    · rw [q_uo (by omega), q_uo (by omega), q_uo (by omega), q_uo (by omega : (107 : Nat) ≠ 88)]
      by_cases e : j = n
      · subst e; rw [q_ue, q_ue]
      · rw [q_un (by omega), q_un (by omega), q_uo (by omega), q_uo (by omega)]; exact w4 j (by omega)
  · exact r_tape_c (by rw [q_uo (by omega), q_uo (by omega), q_uo (by omega), q_uo (by omega)]) (by rw [q_uo (by omega), q_uo (by omega), q_uo (by omega), q_uo (by omega)]) (by rw [q_un (by omega), q_uo (by omega), q_uo (by omega), q_uo (by omega)]) (by rw [q_uo (by omega), q_uo (by omega), q_uo (by omega), q_uo (by omega)]) hP.2.2.2.1
  · exact r_sh_c (fun o ho => by rw [q_uo (by omega), q_uo (by omega), q_uo (by omega), q_uo (by omega)]) hP.2.2.2.2.1
  · exact r_sl_c (fun o ho => by rw [q_uo (by omega), q_uo (by omega), q_uo (by omega), q_uo (by omega)]) hP.2.2.2.2.2
theorem t_trim (a1 : Int32) : r_st (f_X6_trim a1) (f_X7_trim a1) := by
  intro M hR
  obtain ⟨nS, nC, nW, nT, d, hP⟩ := id hR
  obtain ⟨n, w1, w2, w3, w4⟩ := hP.2.2.2.1
  have hg : ∀ N : sk_M, N 88 15 = nI n → f_X7_isIn a1.toInt64 0 ((N 88 15).toInt64) = f_X6_within a1 0 (nI n) := fun N hN => by rw [hN]; exact g_in a1 0 (nI n) (by decide) rfl
  by_cases g1 : f_X6_within a1 0 (nI n) = 0
  · exact ⟨_, M, M, by rw [f_X6_trim, w2, if_pos g1], by rw [f_X7_trim, hg M w3, if_pos g1], hR⟩
  obtain ⟨k, -, hk, rfl⟩ := q_wb (lo := 0) (hi := n) (by omega) (by omega) g1
  refine ⟨nI k, sk_u M 62 2 (nI k), sk_u (sk_u M 62 2 (nI k)) 88 15 (nI k), ?_, ?_, nS, nC, nW, nT, d, p_oth hP ?_ ?_ ?_ ?_ ?_ ?_ ?_⟩
  · rw [f_X6_trim, w2, if_neg g1, q_let]
  · rw [f_X7_trim, hg _ (by rw [q_uo (by omega)]; exact w3), if_neg g1, q_let]
  · intro o ho; rw [q_uo (by omega), q_uo (by omega)]
  · rw [q_uo (by omega), q_uo (by omega)]
  · rw [q_un (by omega), q_uo (by omega)]
  · exact r_wait_c (by rw [q_uo (by omega), q_uo (by omega)]) (by rw [q_uo (by omega), q_uo (by omega)]) (by rw [q_un (by omega), q_uo (by omega)]) (by rw [q_uo (by omega), q_uo (by omega)]) hP.2.2.1
  · refine ⟨k, by omega, by rw [q_uo (by omega), q_ue], by rw [q_ue], fun j hj => ?_⟩
    rw [q_uo (by omega), q_uo (by omega), q_uo (by omega), q_uo (by omega)]; exact w4 j (by omega)
  · exact r_sh_c (fun o ho => by rw [q_uo (by omega), q_uo (by omega)]) hP.2.2.2.2.1
  · exact r_sl_c (fun o ho => by rw [q_uo (by omega), q_uo (by omega)]) hP.2.2.2.2.2
/-- g, but f from a on, n places -/
def x_rg (f g : Nat → Int32) (a n : Nat) : Nat → Int32 := fun j => if a ≤ j ∧ j < a + n then f (j - a) else g j
theorem x_rg_0 (f g : Nat → Int32) (a : Nat) : x_rg f g a 0 = g := by funext j; unfold x_rg; rw [if_neg (by omega)]
theorem x_rg_s (f g : Nat → Int32) (a n : Nat) : upd (x_rg f g a n) (a + n) (f n) = x_rg f g a (n + 1) := by
  funext j
  rw [q_upd]
  unfold x_rg
  by_cases h : j = a + n
  · subst h; rw [if_pos rfl, if_pos (by omega), show a + n - a = n by omega]
  · rw [if_neg h]
    by_cases h2 : a ≤ j ∧ j < a + n
    · rw [if_pos h2, if_pos (by omega)]
    · rw [if_neg h2, if_neg (by omega)]
theorem x_rg_in {f g : Nat → Int32} {a n j : Nat} (h : a ≤ j ∧ j < a + n) : x_rg f g a n j = f (j - a) := if_pos h
theorem x_rg_out {f g : Nat → Int32} {a n j : Nat} (h : ¬ (a ≤ j ∧ j < a + n)) : x_rg f g a n j = g j := if_neg h
theorem x_fillL {o n : Nat} (hn : n < 3000) (v : Int32) (M : sk_M) : ∀ (m k fu : Nat), k + m = n → m < fu → f_J7_fill_53178_L5 o n v (nI n) fu (nI k) (sk_uA M o (x_rg (fun _ => v) (M o) 0 k)) = some (sk_uA M o (x_rg (fun _ => v) (M o) 0 n)) := by
  intro m
  induction m with
  | zero =>
    intro k fu hk hfu
    obtain ⟨g, rfl⟩ : ∃ g, fu = g + 1 := ⟨fu - 1, by omega⟩
    have e : k = n := by omega
    subst e
    rw [f_J7_fill_53178_L5, if_pos (nI_le (Nat.le_refl _) (by omega))]
  | succ m ih =>
    intro k fu hk hfu
    obtain ⟨g, rfl⟩ : ∃ g, fu = g + 1 := ⟨fu - 1, by omega⟩
    have hs := x_rg_s (fun _ => v) (M o) 0 k
    rw [Nat.zero_add] at hs
    rw [f_J7_fill_53178_L5, if_neg (nI_ge (by omega) (by omega)), q_chkI (by omega) (by omega), q_let, q_clamp (by omega), x_uAu, hs, nI_1]
    exact ih (k + 1) g (by omega) (by omega)
theorem x_fill {o n : Nat} (hn : n < 3000) (v : Int32) (M : sk_M) : f_J7_fill_53178 o n v M = some (sk_uA M o (x_rg (fun _ => v) (M o) 0 n)) := by
  have h := x_fillL (o := o) hn v M n 0 sk_FU (by omega) (by unfold sk_FU; omega)
  rw [x_rg_0, x_uA_id] at h
  have h' : f_J7_fill_53178_L5 o n v (nI n) sk_FU 0 M = _ := h
  rw [f_J7_fill_53178, q_let, h', q_b1]
theorem x_24 (i k : Nat) : (24 : Int32) * nI i + nI k = nI (24 * i + k) := by show nI 24 * nI i + nI k = _; rw [pk_mul, nI_add]
theorem x_shL {i : Nat} (hi : i < 4) (M : sk_M) : ∀ (m k fu : Nat), k + m = 24 → m < fu → f_X7_sheet_L69 (nI i) fu (nI k) (sk_uA M 94 (x_rg (fun _ => 0) (M 94) (24 * i) k)) = some (sk_uA M 94 (x_rg (fun _ => 0) (M 94) (24 * i) 24)) := by
  intro m
  induction m with
  | zero =>
    intro k fu hk hfu
    obtain ⟨g, rfl⟩ : ∃ g, fu = g + 1 := ⟨fu - 1, by omega⟩
    have e : k = 24 := by omega
    subst e
    rw [f_X7_sheet_L69, if_pos (show (24 : Int32) ≤ nI 24 from nI_le (a := 24) (Nat.le_refl _) (by omega))]
  | succ m ih =>
    intro k fu hk hfu
    obtain ⟨g, rfl⟩ : ∃ g, fu = g + 1 := ⟨fu - 1, by omega⟩
    rw [f_X7_sheet_L69, if_neg (show ¬ (24 : Int32) ≤ nI k from nI_ge (b := 24) (by omega) (by omega)), x_24, q_chkI (by omega) (by omega), q_let, q_clamp (by omega), x_uAu, x_rg_s (fun _ => 0), nI_1]
    exact ih (k + 1) g (by omega) (by omega)
theorem x_sheet {i : Nat} (hi : i < 4) (M : sk_M) : f_X7_sheet_L69 (nI i) sk_FU 0 M = some (sk_uA M 94 (x_rg (fun _ => 0) (M 94) (24 * i) 24)) := by
  have h := x_shL hi M 24 0 sk_FU (by omega) (by unfold sk_FU; omega)
  rw [x_rg_0, x_uA_id] at h
  exact h
/-- sheet i becomes an empty row of a sort, both sides -/
theorem p_sheet {nS nC nW nT d i n : Nat} {M : sk_M} {so : Int32} (hP : r_p nS nC nW nT d M) (hi : i < 4) (hs : so = -1 ∨ so = 0 ∨ so = 1) (hn : n ≤ 24) :
    ∃ M1, f_X1_becomeRow (65 + 2 * i) so (nI n) M = some M1 ∧ M1 92 = M 92 ∧ M1 93 = M 93 ∧ M1 94 = M 94 ∧ M1 89 = M 89 ∧
      r_p nS nC nW nT d (sk_uA (sk_u (sk_u M1 92 i so) 93 i (nI n)) 94 (x_rg (fun _ => 0) (M 94) (24 * i) 24)) := by
  have hfill := x_fill (o := (65 + 2 * i) + 1) (n := 24) (by omega) 0 (sk_u (sk_u M (65 + 2 * i) 1 so) (65 + 2 * i) 2 (nI n))
  generalize hM1 : sk_uA (sk_u (sk_u M (65 + 2 * i) 1 so) (65 + 2 * i) 2 (nI n)) ((65 + 2 * i) + 1) (x_rg (fun _ => 0) (sk_u (sk_u M (65 + 2 * i) 1 so) (65 + 2 * i) 2 (nI n) ((65 + 2 * i) + 1)) 0 24) = M1 at hfill
  have ho : ∀ o, o ≠ 65 + 2 * i → o ≠ 66 + 2 * i → M1 o = M o := fun o q1 q2 => by rw [← hM1, sk_uA_ne _ _ (by omega), q_uo q1, q_uo q1]
  have h1 : M1 (65 + 2 * i) 1 = so := by rw [← hM1, sk_uA_ne _ _ (by omega), q_un (by omega), q_ue]
  have h2 : M1 (65 + 2 * i) 2 = nI n := by rw [← hM1, sk_uA_ne _ _ (by omega), q_ue]
  have h3 : ∀ k, k < 24 → M1 (66 + 2 * i) k = 0 := fun k hk => by
    rw [← hM1, show 66 + 2 * i = 65 + 2 * i + 1 by omega, sk_uA_self, x_rg_in (by omega)]
  refine ⟨M1, by rw [f_X1_becomeRow, q_let, q_let, hfill, q_b1], ho 92 (by omega) (by omega), ho 93 (by omega) (by omega), ho 94 (by omega) (by omega), ho 89 (by omega) (by omega), ?_⟩
  have hx : ∀ o, o ≠ 92 → o ≠ 93 → o ≠ 94 → sk_uA (sk_u (sk_u M1 92 i so) 93 i (nI n)) 94 (x_rg (fun _ => 0) (M 94) (24 * i) 24) o = M1 o := fun o q1 q2 q3 => by rw [sk_uA_ne _ _ q3, q_uo q2, q_uo q1]
  have hxo : ∀ o, o ≠ 92 → o ≠ 93 → o ≠ 94 → o ≠ 65 + 2 * i → o ≠ 66 + 2 * i → sk_uA (sk_u (sk_u M1 92 i so) 93 i (nI n)) 94 (x_rg (fun _ => 0) (M 94) (24 * i) 24) o = M o := fun o q1 q2 q3 q4 q5 => by rw [hx o q1 q2 q3]; exact ho o q4 q5
  have e92 : ∀ j, sk_uA (sk_u (sk_u M1 92 i so) 93 i (nI n)) 94 (x_rg (fun _ => 0) (M 94) (24 * i) 24) 92 j = if j = i then so else M 92 j := fun j => by
    rw [sk_uA_ne _ _ (by omega), q_uo (by omega), q_us, q_upd, ho 92 (by omega) (by omega)]
  have e93 : ∀ j, sk_uA (sk_u (sk_u M1 92 i so) 93 i (nI n)) 94 (x_rg (fun _ => 0) (M 94) (24 * i) 24) 93 j = if j = i then nI n else M 93 j := fun j => by
    rw [sk_uA_ne _ _ (by omega), q_us, q_upd, q_uo (by omega), ho 93 (by omega) (by omega)]
  refine p_oth hP (fun o q => hxo o (by omega) (by omega) (by omega) (by omega) (by omega)) (by rw [hxo 0 (by omega) (by omega) (by omega) (by omega) (by omega)]) (by rw [hxo 88 (by omega) (by omega) (by omega) (by omega) (by omega)]) (r_wait_c (by rw [hxo 0 (by omega) (by omega) (by omega) (by omega) (by omega)]) (hxo 3 (by omega) (by omega) (by omega) (by omega) (by omega)) (by rw [hxo 88 (by omega) (by omega) (by omega) (by omega) (by omega)]) (hxo 107 (by omega) (by omega) (by omega) (by omega) (by omega)) hP.2.2.1) (r_tape_c (by rw [hxo 62 (by omega) (by omega) (by omega) (by omega) (by omega)]) (hxo 63 (by omega) (by omega) (by omega) (by omega) (by omega)) (by rw [hxo 88 (by omega) (by omega) (by omega) (by omega) (by omega)]) (hxo 102 (by omega) (by omega) (by omega) (by omega) (by omega)) hP.2.2.2.1) ?_ (r_sl_c (fun o q => hxo o (by omega) (by omega) (by omega) (by omega) (by omega)) hP.2.2.2.2.2)
  intro i' hi'
  obtain ⟨s1, s2, s3, s4, s5⟩ := hP.2.2.2.2.1 i' hi'
  rw [e92, e93, sk_uA_self, hx (65 + 2 * i') (by omega) (by omega) (by omega), hx (66 + 2 * i') (by omega) (by omega) (by omega)]
  by_cases e : i' = i
  · subst e
    rw [if_pos rfl, if_pos rfl]
    refine ⟨h1, h2, hs, ⟨n, hn, rfl⟩, fun k hk => ?_⟩
    rw [h3 k hk, x_rg_in (by omega)]
  · rw [if_neg e, if_neg e, ho (65 + 2 * i') (by omega) (by omega), ho (66 + 2 * i') (by omega) (by omega)]
    refine ⟨s1, s2, s3, s4, fun k hk => ?_⟩
    rw [x_rg_out (by omega)]; exact s5 k hk
theorem t_sheet (a1 a2 a3 : Int32) : r_st (f_X6_sheet a1 a2 a3) (f_X7_sheet a1 a2 a3) := by
  intro M hR
  obtain ⟨nS, nC, nW, nT, d, hP⟩ := id hR
  by_cases g1 : f_X6_isSheet a1 = 0
  · exact ⟨_, M, M, by rw [f_X6_sheet, if_pos g1], by rw [f_X7_sheet, g_sheet, if_pos g1], hR⟩
  by_cases g2 : f_X6_within a2 (-1) 1 = 0
  · exact ⟨_, M, M, by rw [f_X6_sheet, if_neg g1, if_pos g2], by rw [f_X7_sheet, g_sheet, if_neg g1, g_in a2 (-1) 1 (by decide) (by decide), if_pos g2], hR⟩
  obtain ⟨i, hi, rfl⟩ := n_sheet g1
  have h3 : a2 = -1 ∨ a2 = 0 ∨ a2 = 1 := by
    rw [q_wi] at g2
    have h2 : (-1 : Int32).toInt ≤ a2.toInt ∧ a2.toInt ≤ (1 : Int32).toInt := by
      by_cases q : (-1 : Int32).toInt ≤ a2.toInt ∧ a2.toInt ≤ (1 : Int32).toInt
      · exact q
      · rw [if_neg q] at g2; exact absurd rfl g2
    rw [show (-1 : Int32).toInt = -1 from rfl, show (1 : Int32).toInt = 1 from rfl] at h2
    have : a2.toInt = -1 ∨ a2.toInt = 0 ∨ a2.toInt = 1 := by omega
    rcases this with q | q | q
    · left; rw [q_eqI, q]; rfl
    · right; left; rw [q_eqI, q]; rfl
    · right; right; rw [q_eqI, q]; rfl
  -- what both sides do where they do it
  have key : ∀ n : Nat, n ≤ 24 → ∃ M1 M2, f_X1_becomeRow (65 + 2 * i) a2 (nI n) M = some M1 ∧ sk_chk (sk_in (nI i) 4) (sk_let (sk_u M1 92 (nI i).toNatClampNeg a2) (fun M_6 => sk_chk (sk_in (nI i) 4) (sk_let (sk_u M_6 93 (nI i).toNatClampNeg (nI n)) (fun M_8 => sk_b1 (f_X7_sheet_L69 (nI i) sk_FU 0 M_8) (fun M_11 => sk_chk (sk_in (nI i) 4) (some ((M_11 93 (nI i).toNatClampNeg), M_11))))))) = some (nI n, M2) ∧ r_p nS nC nW nT d M2 := by
    intro n hn
    obtain ⟨M1, k1, k2, k3, k4, k5, k6⟩ := p_sheet (i := i) (n := n) (so := a2) hP hi h3 hn
    refine ⟨M1, _, k1, ?_, k6⟩
    rw [q_chkI hi (by omega), q_let, q_chkI hi (by omega), q_let, q_clamp (by omega), x_sheet hi, q_b1, q_chkI hi (by omega), sk_uA_ne _ _ (by omega : (93 : Nat) ≠ 94), q_ue, q_uo (by omega : (94 : Nat) ≠ 93), q_uo (by omega : (94 : Nat) ≠ 92), k4]
  by_cases e1 : a2 = -1
  · subst e1
    obtain ⟨M1, M2, k1, k2, k3⟩ := key 0 (by omega)
    have k1' : f_X1_becomeRow (65 + 2 * i) (-1) 0 M = some M1 := k1
    refine ⟨0, M1, M2, ?_, ?_, nS, nC, nW, nT, d, k3⟩
    · rw [f_X6_sheet, if_neg g1, if_neg g2, if_pos rfl, q_chkI hi (by omega), q_clamp (by omega), k1', q_b1]
    · rw [f_X7_sheet, g_sheet, if_neg g1, g_in (-1) (-1) 1 (by decide) (by decide), if_neg g2, if_pos (by decide), q_s0r, if_pos (by decide), q_s0r, if_neg (by decide)]
      exact k2
  have hnn : ¬ a2 < 0 ∧ 0 ≤ a2 := by
    rcases h3 with q | q | q
    · exact absurd q e1
    · rw [q]; decide
    · rw [q]; decide
  by_cases g3 : a3 ≤ 24
  · by_cases g4 : 0 ≤ a3
    · obtain ⟨n, n1, n2, rfl⟩ := q_of (x := a3) (by rw [q_leI] at g4; exact g4)
      have hn : n ≤ 24 := (q_le (b := 24) (by omega) (by omega)).mp g3
      obtain ⟨M1, M2, k1, k2, k3⟩ := key n hn
      refine ⟨nI n, M1, M2, ?_, ?_, nS, nC, nW, nT, d, k3⟩
      · rw [f_X6_sheet, if_neg g1, if_neg g2, if_neg e1, if_pos g3, if_pos g4, q_chkI hi (by omega), q_clamp (by omega), k1, q_b1]
      · rw [f_X7_sheet, g_sheet, if_neg g1, g_in a2 (-1) 1 (by decide) (by decide), if_neg g2, if_neg hnn.1, if_pos g3, q_s0r, if_neg hnn.1, if_pos g4, q_s0r, if_pos hnn.2]
        exact k2
    · refine ⟨-1000000014, M, M, ?_, ?_, hR⟩
      · rw [f_X6_sheet, if_neg g1, if_neg g2, if_neg e1, if_pos g3, if_neg g4]
      · rw [f_X7_sheet, g_sheet, if_neg g1, g_in a2 (-1) 1 (by decide) (by decide), if_neg g2, if_neg hnn.1, if_pos g3, q_s0r, if_neg hnn.1, if_neg g4, q_s0l]
  · refine ⟨-1000000001, M, M, ?_, ?_, hR⟩
    · rw [f_X6_sheet, if_neg g1, if_neg g2, if_neg e1, if_neg g3]
    · rw [f_X7_sheet, g_sheet, if_neg g1, g_in a2 (-1) 1 (by decide) (by decide), if_neg g2, if_neg hnn.1, if_neg g3, q_s0l]
