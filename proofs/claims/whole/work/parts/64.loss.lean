theorem x_of0 {k : Nat} (hk : k < 9) (M : sk_M) : f_X7_of (nI k) 0 M = some (M 89 (10 + 3 * k)) := by
  have e : (10 + (3 * nI k)) + 0 = nI (10 + 3 * k) := by
    show nI 10 + nI 3 * nI k + nI 0 = _
    rw [pk_mul, nI_add, nI_add]
    congr 1
  rw [f_X7_of, e, q_chkI (by omega) (by omega), q_clamp (by omega)]
theorem x_of1 {k : Nat} (hk : k < 9) (M : sk_M) : f_X7_of (nI k) 1 M = some (M 89 (11 + 3 * k)) := by
  have e : (10 + (3 * nI k)) + 1 = nI (11 + 3 * k) := by
    show nI 10 + nI 3 * nI k + nI 1 = _
    rw [pk_mul, nI_add, nI_add]
    congr 1; omega
  rw [f_X7_of, e, q_chkI (by omega) (by omega), q_clamp (by omega)]
theorem x_of2 {k : Nat} (hk : k < 9) (M : sk_M) : f_X7_of (nI k) 2 M = some (M 89 (12 + 3 * k)) := by
  have e : (10 + (3 * nI k)) + 2 = nI (12 + 3 * k) := by
    show nI 10 + nI 3 * nI k + nI 2 = _
    rw [pk_mul, nI_add, nI_add]
    congr 1; omega
  rw [f_X7_of, e, q_chkI (by omega) (by omega), q_clamp (by omega)]
theorem x_ix {c k : Nat} : (43 + (9 * nI c)) + nI k = nI (43 + 9 * c + k) := by
  show nI 43 + nI 9 * nI c + nI k = _
  rw [pk_mul, nI_add, nI_add]
theorem x_on {c k : Nat} (hc : c < 6) (hk : k < 9) (M : sk_M) : f_X7_on (nI c) (nI k) M = some (M 89 (43 + 9 * c + k)) := by
  rw [f_X7_on, x_ix, q_chkI (by omega) (by omega), q_clamp (by omega)]
theorem x_bec {i : Nat} (hi : i < 3109) (v : Int32) (M : sk_M) : f_X7_becomes (nI i) v M = some (M 89 i, sk_u M 89 i v) := by
  rw [f_X7_becomes, q_chkI hi (by omega), q_let, q_chkI hi (by omega), q_let, q_clamp (by omega)]
theorem x_orN {i : Nat} (hi : i < 2147483648) : f_X7_orNone (nI i) = nI i := if_pos (nI_pos' (by omega))
theorem x_nN {i : Nat} (hi : i < 2147483648) : ¬ nI i = -1000000005 := by
  intro h
  have := congrArg Int32.toInt h
  rw [q_toI hi, show (-1000000005 : Int32).toInt = -1000000005 from rfl] at this
  omega
theorem x_cou0 {w nT k : Nat} {M : sk_M} (hT : nT ≤ 14) (hcou : r_cou w nT M) (hk : k < 3) : (M (w + 8) k = -1000000005 ∧ x_last (M 45) (nI k) nT = -1) ∨ ∃ i, i < nT ∧ M 45 i = nI k ∧ M (w + 8) k = nI i ∧ x_last (M 45) (nI k) nT = nI i := by
  have hc := hcou k hk
  rcases x_last_cases (M 45) (nI k) nT with q | ⟨i, q1, q2, q3⟩
  · left
    exact ⟨by rw [hc, q]; rfl, q⟩
  · right
    exact ⟨i, q1, q2, by rw [hc, q3]; exact x_orN (by omega), q3⟩
theorem x_lossC {w k nT : Nat} {M : sk_M} (hw : sk_isW w) (hk : k < 9) (hT : nT ≤ 14) (hcou : r_cou w nT M) (htx : ∀ i, i < nT → ∃ sz, sz ≤ 96 ∧ M 44 i = nI sz ∧ x_wf (M (48 + i)) sz) (amt warm day : Int32) :
    ∃ B, f_X5_loss w (nI k) amt warm day M = some (x_ls w M k amt warm day, sk_uA M 47 B) := by
  have e1 : w + 1 ≠ 47 := by rcases hw with rfl | rfl <;> decide
  have hf : ∃ B, (if M (w + 8) 0 = (-1000000005) then (some ((((amt * (M (w + 2) k + warm)) / 100) + 1), M)) else (sk_b2 (f_X3_give (M (w + 8) 0) amt (M (w + 2) k) warm M) (fun x_5 M_6 => some (x_5, M_6)))) = some (x_fade w M k amt warm, sk_uA M 47 B) := by
    unfold x_fade
    rcases x_cou0 hT hcou (k := 0) (by omega) with ⟨h, -⟩ | ⟨i, q1, q2, q3, -⟩
    · rw [if_pos h, if_pos h]; exact ⟨M 47, by rw [x_uA_id]⟩
    · have hn : ¬ M (w + 8) 0 = -1000000005 := by rw [q3]; exact x_nN (by omega)
      rw [if_neg hn, if_neg hn, q3, q_clamp (by omega)]
      obtain ⟨sz, z1, z2, z3⟩ := htx i q1
      obtain ⟨B, hB⟩ := x_give (by omega) z1 z3 z2 amt (M (w + 2) k) warm
      rw [hB, q_b2]
      exact ⟨B, rfl⟩
  obtain ⟨B, hB⟩ := hf
  refine ⟨B, ?_⟩
  rw [f_X5_loss, q_chkI hk (by omega), q_clamp (by omega), q_let, q_let, hB, q_b2, q_let, q_let, q_chkI hk (by omega), sk_uA_ne M B e1]
  unfold x_ls x_loss
  by_cases h1 : M (w + 1) k = 1
  · rw [if_pos h1, if_pos h1]; rfl
  rw [if_neg h1, if_neg h1]
  by_cases h2 : M (w + 1) k = 2
  · rw [if_pos h2, if_pos h2]; rfl
  rw [if_neg h2, if_neg h2]
  by_cases h3 : M (w + 1) k = 3
  · rw [if_pos h3, if_pos h3]; rfl
  rw [if_neg h3, if_neg h3]
  by_cases h4 : M (w + 1) k = 4
  · rw [if_pos h4, if_pos h4]; rfl
  rw [if_neg h4, if_neg h4]
  by_cases h5 : M (w + 1) k = 5
  · rw [if_pos h5, if_pos h5]; rfl
  rw [if_neg h5, if_neg h5]
  rfl
theorem x_lossM {w k nT a : Nat} {M : sk_M} (hk : k < 9) (hT : nT ≤ 14) (hfix : r_fix w 89 M) (hn : M w 13 = nI nT) (hcou : r_cou w nT M) (htx : r_txt 89 nT M) (hpc : ∃ v : Nat, M (w + 2) k = nI v ∧ v ≤ 50) (ha : a ≤ 999) (warm day : Int32) :
    ∃ N B, f_X7_losesBy (nI k) (nI a) warm day M = some (x_ls w M k (nI a) warm day, sk_uA (sk_uA M 103 N) 104 B) := by
  obtain ⟨⟨f0, f1, f2, f3, f5⟩, -, fk, -, -⟩ := hfix
  obtain ⟨fk0, fk1, fk2⟩ := fk k hk
  have hcn : f_X7_counts 0 M = some (x_last (M 45) (nI 0) nT) := x_counts (A := M 45) (f3.trans hn) hT (fun i hi => (htx i hi).1)
  have hf : ∃ N B, (if x_last (M 45) (nI 0) nT < 0 then (some ((((nI a * (M 89 (11 + 3 * k) + warm)) / 100) + 1), M)) else (sk_let (sk_u M 103 115 (nI a)) (fun M_7 => sk_b1 (f_X7_of (nI k) 1 M_7) (fun x_8 => sk_let (sk_u M_7 103 112 x_8) (fun M_10 => sk_let (sk_u M_10 103 119 warm) (fun M_11 => sk_b2 (f_X7_worked (x_last (M 45) (nI 0) nT) M_11) (fun x_12 M_13 => some (x_12, M_13)))))))) = some (x_fade w M k (nI a) warm, sk_uA (sk_uA M 103 N) 104 B) := by
    unfold x_fade
    rcases x_cou0 hT hcou (k := 0) (by omega) with ⟨h, h'⟩ | ⟨i, q1, q2, q3, q4⟩
    · rw [h', if_pos (by decide), if_pos h, fk1]
      exact ⟨M 103, M 104, by rw [x_uA_id, x_uA_id]⟩
    · have hn0 : ¬ M (w + 8) 0 = -1000000005 := by rw [q3]; exact x_nN (by omega)
      rw [q4, if_neg (nI_pos (by omega)), if_neg hn0, q3, q_clamp (by omega), q_let, x_of1 hk, q_b1, q_let, q_let, q_uo (by omega : (89 : Nat) ≠ 103)]
      obtain ⟨t1, t2, t3, key, sz, z1, z2, z3, z4, z5, z6⟩ := htx i q1
      have ek : key = 0 := q_inj (by omega) (by omega) (z2.symm.trans q2)
      subst ek
      generalize hM : sk_u (sk_u (sk_u M 103 115 (nI a)) 103 112 (M 89 (11 + 3 * k))) 103 119 warm = M'
      have h89 : M' 89 = M 89 := by rw [← hM, q_uo (by omega), q_uo (by omega), q_uo (by omega)]
      obtain ⟨B, hB⟩ := x_work (i := i) (f := M (48 + i)) (key := 0) (by omega) z3 z5 (nI a) (M (w + 2) k) warm M' (by rw [h89, t3, z4]) (fun j hj => by rw [h89]; exact z6 j hj) (by
        intro q L hq
        obtain ⟨hq3, -⟩ := x_nl_lt hq
        rw [← hM]
        match q, hq3 with
        | 0, _ =>
          cases hq
          rw [q_un (by omega), q_un (by omega), q_ue]
          rfl
        | 1, _ =>
          cases hq
          rw [q_un (by omega), q_ue, fk1]
          rfl
        | 2, _ =>
          cases hq
          rw [q_ue]
          rfl)
      rw [hB, q_b2]
      refine ⟨M' 103, B, ?_⟩
      have e : sk_uA M 103 (M' 103) = M' := by
        rw [← hM]
        unfold sk_u
        rw [x_uA2, x_uA2]
        rw [sk_uA_self]
      rw [e]
      unfold x_val
      rw [z4, q_clamp (by omega)]
  obtain ⟨N, B, hB⟩ := hf
  refine ⟨N, B, ?_⟩
  rw [f_X7_losesBy, x_of1 hk, q_b1, q_let, hcn, q_b1, hB, q_b2, q_let, x_plain_w ha, x_of0 hk, q_b1, x_of1 hk]
  have h89 : sk_uA (sk_uA M 103 N) 104 B 89 = M 89 := by rw [sk_uA_ne _ _ (by omega), sk_uA_ne _ _ (by omega)]
  rw [h89, fk0, fk1]
  obtain ⟨pc, hp1, hp2⟩ := hpc
  obtain ⟨p, hp, ep⟩ := x_plain_n ha (x_fade w M k (nI a) warm)
  unfold x_ls x_loss
  rw [hp1, ep]
  by_cases h1 : M (w + 1) k = 1
  · rw [if_pos h1, if_pos h1]
  rw [if_neg h1, if_neg h1]
  by_cases h2 : M (w + 1) k = 2
  · rw [if_pos h2, if_pos h2, q_b1, nI_add, x_with_n ha (by omega), x_light_n hp ha hp2]
  rw [if_neg h2, if_neg h2]
  by_cases h3 : M (w + 1) k = 3
  · rw [if_pos h3, if_pos h3, x_ambW hp ha, x_amb (by omega)]
  rw [if_neg h3, if_neg h3]
  by_cases h4 : M (w + 1) k = 4
  · rw [if_pos h4, if_pos h4, q_b1, nI_add, x_with_n ha (by omega), x_light_n hp ha hp2, x_lem (by omega) ha, show (2 : Int32) = nI 2 from rfl, pk_mul, x_with_n ha (by omega)]
  rw [if_neg h4, if_neg h4]
  by_cases h5 : M (w + 1) k = 5
  · rw [if_pos h5, if_pos h5]
  rw [if_neg h5, if_neg h5]
