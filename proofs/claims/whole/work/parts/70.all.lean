/-! The whole relation, its frames, the guards. -/
def r_co (i : Nat) : Nat := if i < 6 then 0 else if i < 10 then 4 else if i < 37 then 1 + (i - 10) % 3 else if i < 43 then 6 else if i < 97 then 10 + (i - 43) / 9 else 5
def r_cj (i : Nat) : Nat := if i < 6 then (if i = 0 then 10 else if i = 1 then 12 else if i = 2 then 11 else if i = 3 then 13 else if i = 4 then 14 else 15) else if i < 10 then i - 6 else if i < 37 then (i - 10) / 3 else if i < 43 then i - 37 else if i < 97 then (i - 43) % 9 else i - 97
def r_eq (w t : Nat) (M : sk_M) : Prop := ∀ i, i < 109 → M t i = M (w + r_co i) (r_cj i)
theorem r_c_fine {k : Nat} (h : k < 4) : r_co (6 + k) = 4 ∧ r_cj (6 + k) = k := by
  unfold r_co r_cj
  constructor
  · rw [if_neg (by omega), if_pos (by omega)]
  · rw [if_neg (by omega), if_pos (by omega)]; omega
theorem r_c_scent {k j : Nat} (h : k < 9) (hj : j < 3) : r_co (10 + 3 * k + j) = 1 + j ∧ r_cj (10 + 3 * k + j) = k := by
  unfold r_co r_cj
  constructor
  · rw [if_neg (by omega), if_neg (by omega), if_pos (by omega)]; omega
  · rw [if_neg (by omega), if_neg (by omega), if_pos (by omega)]; omega
theorem r_c_warm {c : Nat} (h : c < 6) : r_co (37 + c) = 6 ∧ r_cj (37 + c) = c := by
  unfold r_co r_cj
  constructor
  · rw [if_neg (by omega), if_neg (by omega), if_neg (by omega), if_pos (by omega)]
  · rw [if_neg (by omega), if_neg (by omega), if_neg (by omega), if_pos (by omega)]; omega
theorem r_c_spot {c k : Nat} (h : c < 6) (hk : k < 9) : r_co (43 + 9 * c + k) = 10 + c ∧ r_cj (43 + 9 * c + k) = k := by
  unfold r_co r_cj
  constructor
  · rw [if_neg (by omega), if_neg (by omega), if_neg (by omega), if_neg (by omega), if_pos (by omega)]; omega
  · rw [if_neg (by omega), if_neg (by omega), if_neg (by omega), if_neg (by omega), if_pos (by omega)]; omega
theorem r_c_word {j : Nat} (h : j < 12) : r_co (97 + j) = 5 ∧ r_cj (97 + j) = j := by
  unfold r_co r_cj
  constructor
  · rw [if_neg (by omega), if_neg (by omega), if_neg (by omega), if_neg (by omega), if_neg (by omega)]
  · rw [if_neg (by omega), if_neg (by omega), if_neg (by omega), if_neg (by omega), if_neg (by omega)]; omega
theorem r_eq_fix {w t : Nat} {M : sk_M} (h : r_eq w t M) : r_fix w t M ∧ r_var w t M := by
  refine ⟨⟨⟨h 0 (by omega), h 1 (by omega), h 2 (by omega), h 3 (by omega), h 5 (by omega)⟩, fun k hk => ?_, fun k hk => ⟨?_, ?_, ?_⟩, fun c hc => ?_, fun j hj => ?_⟩, h 4 (by omega), fun c hc k hk => ?_⟩
  · have := h (6 + k) (by omega)
    rw [(r_c_fine hk).1, (r_c_fine hk).2] at this
    exact this
  · have := h (10 + 3 * k + 0) (by omega)
    rw [(r_c_scent hk (by omega)).1, (r_c_scent hk (by omega)).2] at this
    exact this
  · have := h (10 + 3 * k + 1) (by omega)
    rw [(r_c_scent hk (by omega)).1, (r_c_scent hk (by omega)).2] at this
    rw [show 11 + 3 * k = 10 + 3 * k + 1 by omega]
    exact this
  · have := h (10 + 3 * k + 2) (by omega)
    rw [(r_c_scent hk (by omega)).1, (r_c_scent hk (by omega)).2] at this
    rw [show 12 + 3 * k = 10 + 3 * k + 2 by omega]
    exact this
  · have := h (37 + c) (by omega)
    rw [(r_c_warm hc).1, (r_c_warm hc).2] at this
    exact this
  · have := h (97 + j) (by omega)
    rw [(r_c_word hj).1, (r_c_word hj).2] at this
    exact this
  · have := h (43 + 9 * c + k) (by omega)
    rw [(r_c_spot hc hk).1, (r_c_spot hc hk).2] at this
    rw [Nat.add_assoc w 10 c]
    exact this
theorem r_eq_of {w t : Nat} {M : sk_M} (h1 : r_fix w t M) (h2 : r_var w t M) : r_eq w t M := by
  obtain ⟨⟨a0, a1, a2, a3, a5⟩, b, c, d, e⟩ := h1
  obtain ⟨f, g⟩ := h2
  intro i hi
  by_cases q1 : i < 6
  · have : i = 0 ∨ i = 1 ∨ i = 2 ∨ i = 3 ∨ i = 4 ∨ i = 5 := by omega
    rcases this with rfl | rfl | rfl | rfl | rfl | rfl
    · exact a0
    · exact a1
    · exact a2
    · exact a3
    · exact f
    · exact a5
  by_cases q2 : i < 10
  · obtain ⟨k, rfl⟩ : ∃ k, i = 6 + k := ⟨i - 6, by omega⟩
    rw [(r_c_fine (by omega)).1, (r_c_fine (by omega)).2]; exact b k (by omega)
  by_cases q3 : i < 37
  · obtain ⟨k, j, hj, rfl⟩ : ∃ k j, j < 3 ∧ i = 10 + 3 * k + j := ⟨(i - 10) / 3, (i - 10) % 3, by omega, by omega⟩
    rw [(r_c_scent (by omega) hj).1, (r_c_scent (by omega) hj).2]
    have hc := c k (by omega)
    match j, hj with
    | 0, _ => exact hc.1
    | 1, _ => rw [show 10 + 3 * k + 1 = 11 + 3 * k by omega]; exact hc.2.1
    | 2, _ => rw [show 10 + 3 * k + 2 = 12 + 3 * k by omega]; exact hc.2.2
  by_cases q4 : i < 43
  · obtain ⟨k, rfl⟩ : ∃ k, i = 37 + k := ⟨i - 37, by omega⟩
    rw [(r_c_warm (by omega)).1, (r_c_warm (by omega)).2]; exact d k (by omega)
  by_cases q5 : i < 97
  · obtain ⟨k, j, hj, rfl⟩ : ∃ k j, j < 9 ∧ i = 43 + 9 * k + j := ⟨(i - 43) / 9, (i - 43) % 9, by omega, by omega⟩
    rw [(r_c_spot (by omega) hj).1, (r_c_spot (by omega) hj).2, ← Nat.add_assoc w 10 k]
    exact g k (by omega) j hj
  · obtain ⟨k, rfl⟩ : ∃ k, i = 97 + k := ⟨i - 97, by omega⟩
    rw [(r_c_word (by omega)).1, (r_c_word (by omega)).2]; exact e k (by omega)
theorem r_ci : ∀ i, i < 109 → ∀ p, p < 109 → r_co i = r_co p → r_cj i = r_cj p → i = p := by decide +kernel
theorem r_co_lt (i : Nat) (h : i < 109) : r_co i < 16 := by
  unfold r_co
  repeat' split
  all_goals omega
theorem r_eq_w {w p : Nat} {M : sk_M} (hw : w ≤ 26) (hp : p < 109) (v : Int32) (h : r_eq w 89 M) : r_eq w 89 (sk_u (sk_u M (w + r_co p) (r_cj p) v) 89 p v) := by
  have hcp := r_co_lt p hp
  intro i hi
  have hci := r_co_lt i hi
  rw [q_uo (o := 89) (show w + r_co i ≠ 89 by omega)]
  by_cases e : i = p
  · subst e
    rw [q_ue, q_ue]
  · rw [q_un (Or.inr e), q_uo (show 89 ≠ w + r_co p by omega), q_un]
    · exact h i hi
    · rcases Decidable.em (r_co i = r_co p) with q | q
      · right
        intro q2
        exact e (r_ci i hi p hp q q2)
      · left
        omega
/-- the objects that hold what is not the world now -/
def r_keep (o : Nat) : Prop := o = 0 ∨ o = 3 ∨ (26 ≤ o ∧ o < 47) ∨ (48 ≤ o ∧ o ≤ 63) ∨ (65 ≤ o ∧ o ≤ 88) ∨ o = 90 ∨ (92 ≤ o ∧ o ≤ 99) ∨ o = 102 ∨ o = 107
def r_img (nT : Nat) (M : sk_M) : Prop := (M 0 12 = 0 ∧ M 88 3 = 0) ∨ (M 0 12 = 1 ∧ M 88 3 = 1 ∧ ∃ nS nC nW nT' d : Nat, nT' ≤ nT ∧ r_inv 26 nS nC nW nT' d M ∧ r_eq 26 90 M ∧ r_txt 90 nT' M)
def r_wait (M : sk_M) : Prop := ∃ n : Nat, n ≤ 60 ∧ M 0 11 = nI n ∧ M 88 31 = nI n ∧ ∀ j, j < n → M 3 j = M 107 j
def r_tape (M : sk_M) : Prop := ∃ n : Nat, n ≤ 96 ∧ M 62 2 = nI n ∧ M 88 15 = nI n ∧ ∀ j, j < n → M 63 j = M 102 j ∧ ∃ v : Nat, v < 256 ∧ M 102 j = nI v
def r_sh (M : sk_M) : Prop := ∀ i, i < 4 → M (65 + 2 * i) 1 = M 92 i ∧ M (65 + 2 * i) 2 = M 93 i ∧ (M 92 i = -1 ∨ M 92 i = 0 ∨ M 92 i = 1) ∧ (∃ n : Nat, n ≤ 24 ∧ M 93 i = nI n) ∧ ∀ k, k < 24 → M (66 + 2 * i) k = M 94 (24 * i + k)
def r_sl (M : sk_M) : Prop := ∀ i, i < 5 → M (73 + 3 * i) 1 = M 95 i ∧ (∃ v : Nat, v ≤ 3 ∧ M 95 i = nI v) ∧
  (M 95 i = 1 → M (73 + 3 * i) 2 = M 96 i ∧ (∃ v : Nat, v ≤ 5 ∧ M 96 i = nI v) ∧ M 97 i = f_X6_worth (M (73 + 3 * i) 2) (M (73 + 3 * i) 3)) ∧
  (M 95 i = 2 → M (74 + 3 * i) 2 = M 98 i ∧ (∃ n : Nat, n ≤ 24 ∧ M 98 i = nI n) ∧ ∀ k, k < 24 → M (75 + 3 * i) k = M 99 (24 * i + k)) ∧ (M 95 i = 3 → M (73 + 3 * i) 4 = M 96 i)
def r_oth (nT : Nat) (M : sk_M) : Prop := r_img nT M ∧ r_wait M ∧ r_tape M ∧ r_sh M ∧ r_sl M
def r_now (nS nC nW nT d : Nat) (M : sk_M) : Prop := r_inv 10 nS nC nW nT d M ∧ r_eq 10 89 M ∧ r_txt 89 nT M
def r_all (M : sk_M) : Prop := ∃ nS nC nW nT d : Nat, r_now nS nC nW nT d M ∧ r_oth nT M
theorem r_inv_c {w nS nC nW nT d : Nat} {M M' : sk_M} (h : r_inv w nS nC nW nT d M) (hU : ∀ o, (w ≤ o ∧ o < w + 16 ∧ o ≠ w + 9) → M' o = M o) (h45 : M' 45 = M 45) : r_inv w nS nC nW nT d M' := by
  obtain ⟨⟨h1, h2, h3, h4, h5, h6⟩, ⟨a1, a2, a3, a4, a5⟩, ⟨b1, b2, b3⟩, hc⟩ := h
  have e0 := hU w (by omega)
  refine ⟨⟨h1, by rw [e0]; exact h2, by rw [e0]; exact h3, by rw [e0]; exact h4, by rw [e0]; exact h5, by rw [e0]; exact h6⟩, ⟨?_, ?_, ?_, ?_, ?_⟩, ⟨?_, ?_, ?_⟩, ?_⟩
  · rw [hU (w + 4) (by omega)]; exact a1
  · rw [hU (w + 1) (by omega)]; exact a2
  · rw [hU (w + 2) (by omega)]; exact a3
  · rw [hU (w + 6) (by omega)]; exact a4
  · intro c hc k hk; rw [hU (w + 10 + c) (by omega)]; exact a5 c hc k hk
  · rw [hU (w + 3) (by omega)]; exact b1
  · rw [hU (w + 6) (by omega)]; exact b2
  · intro c hc k hk; rw [hU (w + 10 + c) (by omega)]; exact b3 c hc k hk
  · intro k hk; rw [hU (w + 8) (by omega), h45]; exact hc k hk
theorem r_co_ne (i : Nat) (h : i < 109) : r_co i ≠ 9 ∧ r_co i ≠ 7 ∧ r_co i ≠ 8 := by
  unfold r_co
  repeat' split
  all_goals omega
theorem r_eq_c {w t : Nat} {M M' : sk_M} (h : r_eq w t M) (hU : ∀ o, (w ≤ o ∧ o < w + 16 ∧ o ≠ w + 9) → M' o = M o) (ht : ∀ i, i < 109 → M' t i = M t i) : r_eq w t M' := by
  intro i hi
  have := r_co_ne i hi
  have := r_co_lt i hi
  rw [ht i hi, hU (w + r_co i) (by omega)]
  exact h i hi
theorem r_img_c {nT nT' : Nat} {M M' : sk_M} (hn : nT ≤ nT') (h0 : M' 0 12 = M 0 12) (h88 : M' 88 3 = M 88 3) (hU : ∀ o, (26 ≤ o ∧ o < 42 ∧ o ≠ 35) → M' o = M o) (h90 : M' 90 = M 90) (hl : ∀ o, o = 44 ∨ o = 45 ∨ o = 46 → ∀ j, j < nT → M' o j = M o j) (hl8 : ∀ i, i < nT → M' (48 + i) = M (48 + i)) (h : r_img nT M) : r_img nT' M' := by
  rcases h with ⟨q1, q2⟩ | ⟨q1, q2, nS, nC, nW, n, d, q3, q4, q5, q6⟩
  · exact Or.inl ⟨h0.trans q1, h88.trans q2⟩
  · refine Or.inr ⟨h0.trans q1, h88.trans q2, nS, nC, nW, n, d, by omega, ?_, r_eq_c q5 hU (fun i _ => by rw [h90]), ?_⟩
    · have hl45 : ∀ i, i < n → M' 45 i = M 45 i := fun i hi => hl 45 (by omega) i (by omega)
      obtain ⟨⟨h1, h2, h3, h4, h5, h6⟩, ⟨a1, a2, a3, a4, a5⟩, ⟨b1, b2, b3⟩, hc⟩ := q4
      have e0 := hU 26 (by omega)
      have hlast : ∀ (key : Int32) (m : Nat), m ≤ n → x_last (M' 45) key m = x_last (M 45) key m := by
        intro key m
        induction m with
        | zero => intro _; rfl
        | succ m ih =>
          intro hm
          unfold x_last
          rw [hl45 m (by omega), ih (by omega)]
      refine ⟨⟨h1, by rw [e0]; exact h2, by rw [e0]; exact h3, by rw [e0]; exact h4, by rw [e0]; exact h5, by rw [e0]; exact h6⟩, ⟨?_, ?_, ?_, ?_, ?_⟩, ⟨?_, ?_, ?_⟩, ?_⟩
      · rw [hU (26 + 4) (by omega)]; exact a1
      · rw [hU (26 + 1) (by omega)]; exact a2
      · rw [hU (26 + 2) (by omega)]; exact a3
      · rw [hU (26 + 6) (by omega)]; exact a4
      · intro c hc k hk; rw [hU (26 + 10 + c) (by omega)]; exact a5 c hc k hk
      · rw [hU (26 + 3) (by omega)]; exact b1
      · rw [hU (26 + 6) (by omega)]; exact b2
      · intro c hc k hk; rw [hU (26 + 10 + c) (by omega)]; exact b3 c hc k hk
      · intro k hk; rw [hU (26 + 8) (by omega), hlast _ n (Nat.le_refl _)]; exact hc k hk
    · intro i hi
      obtain ⟨z1, z2, z3, key, sz, z4, z5, z6, z7, z8, z9⟩ := q6 i hi
      have g : ∀ o, o = 44 ∨ o = 45 ∨ o = 46 → M' o i = M o i := fun o ho => hl o ho i (by omega)
      have g8 : M' (48 + i) = M (48 + i) := hl8 i (by omega)
      exact ⟨by rw [h90, g 45 (by omega)]; exact z1, by rw [h90, g 46 (by omega)]; exact z2, by rw [h90, g 44 (by omega)]; exact z3, key, sz, z4, by rw [g 45 (by omega)]; exact z5, z6, by rw [g 44 (by omega)]; exact z7, by rw [g8]; exact z8, fun j hj => by rw [g8, h90]; exact z9 j hj⟩
theorem r_wait_c {M M' : sk_M} (h0 : M' 0 11 = M 0 11) (h3 : M' 3 = M 3) (h88 : M' 88 31 = M 88 31) (h107 : M' 107 = M 107) (h : r_wait M) : r_wait M' := by
  obtain ⟨n, q1, q2, q3, q4⟩ := h
  exact ⟨n, q1, h0.trans q2, h88.trans q3, fun j hj => by rw [h3, h107]; exact q4 j hj⟩
theorem r_tape_c {M M' : sk_M} (h0 : M' 62 2 = M 62 2) (h3 : M' 63 = M 63) (h88 : M' 88 15 = M 88 15) (h107 : M' 102 = M 102) (h : r_tape M) : r_tape M' := by
  obtain ⟨n, q1, q2, q3, q4⟩ := h
  exact ⟨n, q1, h0.trans q2, h88.trans q3, fun j hj => by rw [h3, h107]; exact q4 j hj⟩
theorem r_sh_c {M M' : sk_M} (hU : ∀ o, (65 ≤ o ∧ o < 73) ∨ (92 ≤ o ∧ o < 95) → M' o = M o) (h : r_sh M) : r_sh M' := by
  intro i hi
  rw [hU (65 + 2 * i) (by omega), hU (66 + 2 * i) (by omega), hU 92 (by omega), hU 93 (by omega), hU 94 (by omega)]
  exact h i hi
theorem r_sl_c {M M' : sk_M} (hU : ∀ o, (73 ≤ o ∧ o < 88) ∨ (95 ≤ o ∧ o < 100) → M' o = M o) (h : r_sl M) : r_sl M' := by
  intro i hi
  rw [hU (73 + 3 * i) (by omega), hU (74 + 3 * i) (by omega), hU (75 + 3 * i) (by omega), hU 95 (by omega), hU 96 (by omega), hU 97 (by omega), hU 98 (by omega), hU 99 (by omega)]
  exact h i hi
theorem r_oth_c {nT : Nat} {M M' : sk_M} (hU : ∀ o, r_keep o → M' o = M o) (h14 : nT ≤ 14) (h : r_oth nT M) : r_oth nT M' := by
  unfold r_keep at hU
  obtain ⟨h1, h2, h3, h4, h5⟩ := h
  refine ⟨r_img_c (Nat.le_refl _) ?_ ?_ ?_ ?_ ?_ ?_ h1, r_wait_c ?_ ?_ ?_ ?_ h2, r_tape_c ?_ ?_ ?_ ?_ h3, r_sh_c ?_ h4, r_sl_c ?_ h5⟩
  · rw [hU 0 (by omega)]
  · rw [hU 88 (by omega)]
  · intro o ho; exact hU o (by omega)
  · exact hU 90 (by omega)
  · intro o ho j hj; rw [hU o (by omega)]
  · intro i hi; exact hU _ (by omega)
  · rw [hU 0 (by omega)]
  · exact hU 3 (by omega)
  · rw [hU 88 (by omega)]
  · exact hU 107 (by omega)
  · rw [hU 62 (by omega)]
  · exact hU 63 (by omega)
  · rw [hU 88 (by omega)]
  · exact hU 102 (by omega)
  · intro o ho; exact hU o (by omega)
  · intro o ho; exact hU o (by omega)
/-- the class's own invariants where one object of the world has changed -/
theorem r_inv_ex {nS nC nW nT d x nS' nC' nW' nT' d' : Nat} {M M' : sk_M} (h : r_inv 10 nS nC nW nT d M) (hU : ∀ o, 10 ≤ o → o < 26 → o ≠ x → o ≠ 19 → o ≠ 10 → M' o = M o) (h45 : M' 45 = M 45) (hcn : r_cnt 10 nS' nC' nW' nT' d' M') (hS : nS ≤ nS') (hC : nC ≤ nC') (hT : nT' = nT)
    (h11 : x = 11 → ∀ k, k < 9 → ∃ v : Nat, M' 11 k = nI v ∧ v ≤ 5) (h12 : x = 12 → ∀ k, k < 9 → ∃ v : Nat, M' 12 k = nI v ∧ v ≤ 50) (h13 : x = 13 → ∀ k, k < 9 → nS' ≤ k → M' 13 k = 0) (h14 : x = 14 → ∀ k, k < 4 → ∃ v : Nat, M' 14 k = nI v ∧ 1 ≤ v ∧ v ≤ 999)
    (h16 : x = 16 → ∀ c, c < 6 → (∃ v : Nat, M' 16 c = nI v ∧ v ≤ 50) ∧ (nC' ≤ c → M' 16 c = 0)) (h18 : x ≠ 18) (h20 : ∀ c, c < 6 → x = 20 + c → ∀ k, k < 9 → (∃ v : Nat, M' (20 + c) k = nI v ∧ v ≤ 999) ∧ ((nC' ≤ c ∨ nS' ≤ k) → M' (20 + c) k = 0)) : r_inv 10 nS' nC' nW' nT' d' M' := by
  obtain ⟨-, ⟨a1, a2, a3, a4, a5⟩, ⟨b1, b2, b3⟩, hc⟩ := h
  refine ⟨hcn, ⟨?_, ?_, ?_, ?_, ?_⟩, ⟨?_, ?_, ?_⟩, ?_⟩
  · by_cases e : x = 14
    · exact h14 e
    · rw [hU (10 + 4) (by omega) (by omega) (by omega) (by omega) (by omega)]; exact a1
  · by_cases e : x = 11
    · exact h11 e
    · rw [hU (10 + 1) (by omega) (by omega) (by omega) (by omega) (by omega)]; exact a2
  · by_cases e : x = 12
    · exact h12 e
    · rw [hU (10 + 2) (by omega) (by omega) (by omega) (by omega) (by omega)]; exact a3
  · by_cases e : x = 16
    · exact fun c hc => (h16 e c hc).1
    · rw [hU (10 + 6) (by omega) (by omega) (by omega) (by omega) (by omega)]; exact a4
  · intro c hc k hk
    by_cases e : x = 20 + c
    · exact (h20 c hc e k hk).1
    · rw [hU (10 + 10 + c) (by omega) (by omega) (by omega) (by omega) (by omega)]; exact a5 c hc k hk
  · by_cases e : x = 13
    · exact h13 e
    · rw [hU (10 + 3) (by omega) (by omega) (by omega) (by omega) (by omega)]; exact fun k hk q => b1 k hk (by omega)
  · by_cases e : x = 16
    · exact fun c hc => (h16 e c hc).2
    · rw [hU (10 + 6) (by omega) (by omega) (by omega) (by omega) (by omega)]; exact fun c hc q => b2 c hc (by omega)
  · intro c hc k hk q
    by_cases e : x = 20 + c
    · exact (h20 c hc e k hk).2 q
    · rw [hU (10 + 10 + c) (by omega) (by omega) (by omega) (by omega) (by omega)]; exact b3 c hc k hk (by omega)
  · intro k hk
    rw [hU (10 + 8) (by omega) (by omega) (by omega) (by omega) (by omega), h45, hT]; exact hc k hk
-- guards
theorem g_in (a : Int32) {lo hi : Int64} (lo' hi' : Int32) (h1 : lo = lo'.toInt64) (h2 : hi = hi'.toInt64) : f_X7_isIn a.toInt64 lo hi = f_X6_within a lo' hi' := by
  rw [h1, h2]; exact q_isIn a lo' hi'
theorem g_scent {M : sk_M} (h : r_eq 10 89 M) (a : Int32) : f_X7_isScent a M = f_X6_isScent a M := by
  have e : M 89 0 = M 10 10 := h 0 (by omega)
  rw [f_X7_isScent, e, g_in a 0 (M 10 10 - 1) (by decide) rfl]; rfl
theorem g_cloth {M : sk_M} (h : r_eq 10 89 M) (a : Int32) : f_X7_isCloth a M = f_X6_isCloth a M := by
  have e : M 89 1 = M 10 12 := h 1 (by omega)
  rw [f_X7_isCloth, e, g_in a 0 (M 10 12 - 1) (by decide) rfl]; rfl
theorem g_word {M : sk_M} (h : r_eq 10 89 M) (a : Int32) : f_X7_isSaid a M = f_X6_isWord a M := by
  have e : M 89 2 = M 10 11 := h 2 (by omega)
  rw [f_X7_isSaid, e, g_in a 0 (M 10 11 - 1) (by decide) rfl]; rfl
theorem g_text {M : sk_M} (h : r_eq 10 89 M) (a : Int32) : f_X7_isText a M = f_X6_within a 0 (M 10 13 - 1) := by
  have e : M 89 3 = M 10 13 := h 3 (by omega)
  rw [f_X7_isText, e, g_in a 0 (M 10 13 - 1) (by decide) rfl]
theorem g_nose (a : Int32) : f_X7_isNose a = f_X6_isNose a := by
  unfold f_X7_isNose f_X6_isNose f_X6_within
  by_cases h : a < 0
  · rw [if_pos h, if_pos h]
  · rw [if_neg h, if_neg h]
    by_cases h2 : 4 ≤ a
    · have : (3 : Int32) < a := by
        rw [q_leI, show (4 : Int32).toInt = 4 from rfl] at h2
        rw [q_ltI, show (3 : Int32).toInt = 3 from rfl]; omega
      rw [if_pos h2, if_pos this]
    · have : ¬ (3 : Int32) < a := by
        rw [q_leI, show (4 : Int32).toInt = 4 from rfl] at h2
        rw [q_ltI, show (3 : Int32).toInt = 3 from rfl]; omega
      rw [if_neg h2, if_neg this]
theorem g_sheet (a : Int32) : f_X7_isSheet a = f_X6_isSheet a := g_in a 0 3 (by decide) (by decide)
theorem g_slot (a : Int32) : f_X7_isSlot a = f_X6_isSlot a := g_in a 0 4 (by decide) (by decide)
theorem n_scent {nS : Nat} {M : sk_M} {a : Int32} (hn : M 10 10 = nI nS) (h9 : nS ≤ 9) (h : ¬ f_X6_isScent a M = 0) : ∃ k, k < nS ∧ a = nI k := by
  rw [f_X6_isScent, hn] at h; exact q_wn (by omega) h
theorem n_cloth {nC : Nat} {M : sk_M} {a : Int32} (hn : M 10 12 = nI nC) (h9 : nC ≤ 6) (h : ¬ f_X6_isCloth a M = 0) : ∃ k, k < nC ∧ a = nI k := by
  rw [f_X6_isCloth, hn] at h; exact q_wn (by omega) h
theorem n_word {nW : Nat} {M : sk_M} {a : Int32} (hn : M 10 11 = nI nW) (h9 : nW ≤ 12) (h : ¬ f_X6_isWord a M = 0) : ∃ k, k < nW ∧ a = nI k := by
  rw [f_X6_isWord, hn] at h; exact q_wn (by omega) h
theorem n_nose {a : Int32} (h : ¬ f_X6_isNose a = 0) : ∃ k, k < 4 ∧ a = nI k := by
  obtain ⟨k, -, h2, h3⟩ := q_wb (lo := 0) (hi := 3) (by omega) (by omega) h; exact ⟨k, by omega, h3⟩
theorem n_sheet {a : Int32} (h : ¬ f_X6_isSheet a = 0) : ∃ k, k < 4 ∧ a = nI k := by
  obtain ⟨k, -, h2, h3⟩ := q_wb (lo := 0) (hi := 3) (by omega) (by omega) h; exact ⟨k, by omega, h3⟩
theorem n_slot {a : Int32} (h : ¬ f_X6_isSlot a = 0) : ∃ k, k < 5 ∧ a = nI k := by
  obtain ⟨k, -, h2, h3⟩ := q_wb (lo := 0) (hi := 4) (by omega) (by omega) h; exact ⟨k, by omega, h3⟩
theorem n_kind {a : Int32} (h : ¬ f_X6_isKind a = 0) : ∃ k, k ≤ 5 ∧ a = nI k := by
  obtain ⟨k, -, h2, h3⟩ := q_wb (lo := 0) (hi := 5) (by omega) (by omega) h; exact ⟨k, by omega, h3⟩
/-- a call of both sides -/
def r_st (fc fm : sk_M → Option (Int32 × sk_M)) : Prop := ∀ M, r_all M → ∃ r M1 M2, fc M = some (r, M1) ∧ fm M1 = some (r, M2) ∧ r_all M2
def r_sr (fc fm : sk_M → Option Int32) : Prop := ∀ M, r_all M → ∃ r, fc M = some r ∧ fm M = some r
