/-! Calls that look at or change one place. -/
theorem g_scent1 {M M1 : sk_M} (e : M1 89 0 = M 10 10) (a : Int32) : f_X7_isScent a M1 = f_X6_isScent a M := by
  rw [f_X7_isScent, e, g_in a 0 (M 10 10 - 1) (by decide) rfl]; rfl
theorem g_cloth1 {M M1 : sk_M} (e : M1 89 1 = M 10 12) (a : Int32) : f_X7_isCloth a M1 = f_X6_isCloth a M := by
  rw [f_X7_isCloth, e, g_in a 0 (M 10 12 - 1) (by decide) rfl]; rfl
theorem g_word1 {M M1 : sk_M} (e : M1 89 2 = M 10 11) (a : Int32) : f_X7_isSaid a M1 = f_X6_isWord a M := by
  rw [f_X7_isSaid, e, g_in a 0 (M 10 11 - 1) (by decide) rfl]; rfl
theorem r_w_kind {k : Nat} {M : sk_M} (hk : k < 9) (v : Int32) (h : r_eq 10 89 M) : r_eq 10 89 (sk_u (sk_u M 11 k v) 89 (10 + 3 * k) v) := by
  have := r_eq_w (p := 10 + 3 * k + 0) (by omega) (by omega) v h
  rw [(r_c_scent hk (by omega)).1, (r_c_scent hk (by omega)).2] at this
  exact this
theorem r_w_pace {k : Nat} {M : sk_M} (hk : k < 9) (v : Int32) (h : r_eq 10 89 M) : r_eq 10 89 (sk_u (sk_u M 12 k v) 89 (11 + 3 * k) v) := by
  have := r_eq_w (p := 10 + 3 * k + 1) (by omega) (by omega) v h
  rw [(r_c_scent hk (by omega)).1, (r_c_scent hk (by omega)).2] at this
  rw [show 11 + 3 * k = 10 + 3 * k + 1 by omega]
  exact this
theorem r_w_hide {k : Nat} {M : sk_M} (hk : k < 9) (v : Int32) (h : r_eq 10 89 M) : r_eq 10 89 (sk_u (sk_u M 13 k v) 89 (12 + 3 * k) v) := by
  have := r_eq_w (p := 10 + 3 * k + 2) (by omega) (by omega) v h
  rw [(r_c_scent hk (by omega)).1, (r_c_scent hk (by omega)).2] at this
  rw [show 12 + 3 * k = 10 + 3 * k + 2 by omega]
  exact this
theorem r_w_fine {k : Nat} {M : sk_M} (hk : k < 4) (v : Int32) (h : r_eq 10 89 M) : r_eq 10 89 (sk_u (sk_u M 14 k v) 89 (6 + k) v) := by
  have := r_eq_w (p := 6 + k) (by omega) (by omega) v h
  rw [(r_c_fine hk).1, (r_c_fine hk).2] at this
  exact this
theorem r_w_warm {k : Nat} {M : sk_M} (hk : k < 6) (v : Int32) (h : r_eq 10 89 M) : r_eq 10 89 (sk_u (sk_u M 16 k v) 89 (37 + k) v) := by
  have := r_eq_w (p := 37 + k) (by omega) (by omega) v h
  rw [(r_c_warm hk).1, (r_c_warm hk).2] at this
  exact this
theorem r_w_spot {c k : Nat} {M : sk_M} (hc : c < 6) (hk : k < 9) (v : Int32) (h : r_eq 10 89 M) : r_eq 10 89 (sk_u (sk_u M (20 + c) k v) 89 (43 + 9 * c + k) v) := by
  have := r_eq_w (p := 43 + 9 * c + k) (by omega) (by omega) v h
  rw [(r_c_spot hc hk).1, (r_c_spot hc hk).2, ← Nat.add_assoc 10 10 c] at this
  exact this
theorem r_w_word {j : Nat} {M : sk_M} (hj : j < 12) (v : Int32) (h : r_eq 10 89 M) : r_eq 10 89 (sk_u (sk_u M 15 j v) 89 (97 + j) v) := by
  have := r_eq_w (p := 97 + j) (by omega) (by omega) v h
  rw [(r_c_word hj).1, (r_c_word hj).2] at this
  exact this
theorem r_w_cnt {p : Nat} {M : sk_M} (hp : p < 6) (v : Int32) (h : r_eq 10 89 M) : r_eq 10 89 (sk_u (sk_u M 10 (r_cj p) v) 89 p v) := by
  have := r_eq_w (p := p) (by omega) (by omega) v h
  rw [show r_co p = 0 by unfold r_co; rw [if_pos hp]] at this
  exact this
theorem r_rest {nT : Nat} {M M' : sk_M} (h14 : nT ≤ 14) (hU : ∀ o, r_keep o → M' o = M o) (h89 : ∀ j, 109 ≤ j → M' 89 j = M 89 j) (hT : r_txt 89 nT M) (hO : r_oth nT M) : r_txt 89 nT M' ∧ r_oth nT M' :=
  ⟨r_txt_c h14 (fun o q1 q2 q3 => hU o (by unfold r_keep; omega)) h89 hT, r_oth_c hU h14 hO⟩
theorem t_worth {k : Nat} {M : sk_M} (hk : k < 9) (h : r_eq 10 89 M) : f_X7_worth (nI k) M = some (f_X6_worth (M 11 k) (M 12 k)) := by
  obtain ⟨-, -, f, -, -⟩ := (r_eq_fix h).1
  rw [f_X7_worth, x_of1 hk, q_b1, x_of0 hk, q_b1, (f k hk).1, (f k hk).2.1]
  unfold f_X6_worth
  show (if M 11 k = 1 then _ else _) = some (if M 11 k = 1 then _ else _)
  by_cases h1 : M 11 k = 1
  · rw [if_pos h1, if_pos h1]
  rw [if_neg h1, if_neg h1]
  by_cases h2 : M 11 k = 2
  · rw [if_pos h2, if_pos h2]
  rw [if_neg h2, if_neg h2]
  by_cases h3 : M 11 k = 3
  · rw [if_pos h3, if_pos h3]
  rw [if_neg h3, if_neg h3]
  by_cases h4 : M 11 k = 4
  · rw [if_pos h4, if_pos h4, Int32.sub_eq_add_neg, Int32.sub_eq_add_neg, Int32.add_assoc]
    rfl
  rw [if_neg h4, if_neg h4]
  by_cases h5 : M 11 k = 5
  · rw [if_pos h5, if_pos h5]
  rw [if_neg h5, if_neg h5]
theorem t_told (a1 a2 : Int32) : r_sr (f_X6_told a1 a2) (f_X7_told a1 a2) := by
  intro M hR
  obtain ⟨nS, nC, nW, nT, d, ⟨⟨⟨⟨b1, b2, b3, b4, b5⟩, c1, c2, c3, c4, c5⟩, hrng, hzero, hcou⟩, hE, hT⟩, hO⟩ := hR
  by_cases g1 : f_X6_isScent a1 M = 0
  · exact ⟨_, by rw [f_X6_told, if_pos g1], by rw [f_X7_told, g_scent hE, if_pos g1]⟩
  obtain ⟨k, hk, rfl⟩ := n_scent c1 b1 g1
  obtain ⟨-, -, f, -, -⟩ := (r_eq_fix hE).1
  have fk := f k (by omega)
  rw [f_X6_told, if_neg g1, f_X7_told, g_scent hE, if_neg g1, g_in a2 0 3 (by decide) (by decide), q_chkI (by omega) (by omega), q_chkI (by omega) (by omega), q_chkI (by omega) (by omega), q_chkI (by omega) (by omega), q_chkI (by omega) (by omega), q_clamp (by omega)]
  by_cases e0 : a2 = 0
  · subst e0
    exact ⟨_, by rw [if_pos rfl], by rw [if_neg (by decide), if_neg (by decide), x_of0 (by omega), q_b1, fk.1]⟩
  by_cases e1 : a2 = 1
  · subst e1
    exact ⟨_, by rw [if_neg (by decide), if_pos rfl], by rw [if_neg (by decide), if_neg (by decide), x_of1 (by omega), q_b1, fk.2.1]⟩
  by_cases e2 : a2 = 2
  · subst e2
    exact ⟨_, by rw [if_neg (by decide), if_neg (by decide), if_pos rfl], by rw [if_neg (by decide), if_pos (by decide), if_pos rfl, t_worth (by omega) hE, q_b1]⟩
  by_cases e3 : a2 = 3
  · subst e3
    exact ⟨_, by rw [if_neg (by decide), if_neg (by decide), if_neg (by decide), if_pos rfl], by rw [if_neg (by decide), if_pos (by decide), if_neg (by decide), x_of2 (by omega), q_b1, fk.2.2]⟩
  refine ⟨_, by rw [if_neg e0, if_neg e1, if_neg e2, if_neg e3], ?_⟩
  rw [if_pos]
  rcases Decidable.em (f_X6_within a2 0 3 = 0) with q | q
  · exact q
  · obtain ⟨j, -, j2, rfl⟩ := q_wb (lo := 0) (hi := 3) (by omega) (by omega) q
    exfalso
    match j, j2 with
    | 0, _ => exact e0 rfl
    | 1, _ => exact e1 rfl
    | 2, _ => exact e2 rfl
    | 3, _ => exact e3 rfl
theorem t_underM (a0 a1 : Int32) (M : sk_M) : f_X6_isUnder a0 a1 M = f_X6_isUnder a0 a1 (fun _ _ => 0) := by
  have key : ∀ (n : Nat) (x y : Int32), f_X6_isUnder_L4 a1 M n x y = f_X6_isUnder_L4 a1 (fun _ _ => 0) n x y := by
    intro n
    induction n with
    | zero => intro x y; rfl
    | succ n ih =>
      intro x y
      rw [f_X6_isUnder_L4, f_X6_isUnder_L4]
      simp only [q_let, ih]
  unfold f_X6_isUnder
  rw [key]
theorem t_under0 : ∀ v, v < 6 → ∀ u, u < 6 → f_X6_isUnder (nI v) (nI u) (fun _ _ => 0) = some (f_X7_isOf (nI v) (nI u)) := by decide +kernel
theorem t_under {v u : Nat} (hv : v ≤ 5) (hu : u ≤ 5) (M : sk_M) : f_X6_isUnder (nI v) (nI u) M = some (f_X7_isOf (nI v) (nI u)) := by
  rw [t_underM]; exact t_under0 v (by omega) u (by omega)
theorem t_as (a1 a2 : Int32) : r_sr (f_X6_as a1 a2) (f_X7_as a1 a2) := by
  intro M hR
  obtain ⟨nS, nC, nW, nT, d, ⟨⟨⟨⟨b1, b2, b3, b4, b5⟩, c1, c2, c3, c4, c5⟩, hrng, hzero, hcou⟩, hE, hT⟩, hO⟩ := hR
  by_cases g1 : f_X6_isScent a1 M = 0
  · exact ⟨_, by rw [f_X6_as, if_pos g1], by rw [f_X7_as, g_scent hE, if_pos g1]⟩
  by_cases g2 : f_X6_isKind a2 = 0
  · have g2' : f_X6_within a2 0 5 = 0 := g2
    exact ⟨_, by rw [f_X6_as, if_neg g1, if_pos g2], by rw [f_X7_as, g_scent hE, if_neg g1, g_in a2 0 5 (by decide) (by decide), if_pos g2']⟩
  have g2' : ¬ f_X6_within a2 0 5 = 0 := g2
  obtain ⟨k, hk, rfl⟩ := n_scent c1 b1 g1
  obtain ⟨u, hu, rfl⟩ := n_kind g2
  obtain ⟨-, -, f, -, -⟩ := (r_eq_fix hE).1
  have fk := f k (by omega)
  obtain ⟨v, v1, v2⟩ := hrng.2.1 k (by omega)
  have v1' : M 11 k = nI v := v1
  rw [f_X6_as, if_neg g1, if_neg g2, f_X7_as, g_scent hE, if_neg g1, g_in (nI u) 0 5 (by decide) (by decide), if_neg g2', q_chkI (by omega) (by omega), q_chkI (by omega) (by omega), q_clamp (by omega), x_of0 (by omega), q_b1, fk.1, v1, t_under v2 hu, q_b1]
  by_cases q : f_X7_isOf (nI v) (nI u) = 0
  · exact ⟨_, by rw [if_pos q], by rw [if_pos q]⟩
  · exact ⟨_, by rw [if_neg q], by rw [if_neg q, x_of1 (by omega), q_b1, fk.2.1]⟩
theorem t_turns (a1 a2 : Int32) : r_st (f_X6_turns a1 a2) (f_X7_turns a1 a2) := by
  intro M hR
  obtain ⟨nS, nC, nW, nT, d, ⟨hI, hE, hT⟩, hO⟩ := id hR
  obtain ⟨⟨⟨b1, b2, b3, b4, b5⟩, c1, c2, c3, c4, c5⟩, hrng, hzero, hcou⟩ := id hI
  have e0 : M 89 0 = M 10 10 := hE 0 (by omega)
  by_cases g1 : f_X6_isScent a1 M = 0
  · exact ⟨_, M, M, by rw [f_X6_turns, if_pos g1], by rw [f_X7_turns, g_scent hE, if_pos g1], hR⟩
  by_cases g2 : f_X6_isKind a2 = 0
  · have g2' : f_X6_within a2 0 5 = 0 := g2
    exact ⟨_, M, M, by rw [f_X6_turns, if_neg g1, if_pos g2], by rw [f_X7_turns, g_scent hE, if_neg g1, g_in a2 0 5 (by decide) (by decide), if_pos g2'], hR⟩
  have g2' : ¬ f_X6_within a2 0 5 = 0 := g2
  obtain ⟨k, hk, rfl⟩ := n_scent c1 b1 g1
  obtain ⟨u, hu, rfl⟩ := n_kind g2
  obtain ⟨-, -, f, -, -⟩ := (r_eq_fix hE).1
  have fk := f k (by omega)
  refine ⟨M 11 k, sk_u M 11 k (nI u), sk_u (sk_u M 11 k (nI u)) 89 (10 + 3 * k) (nI u), ?_, ?_, ?_⟩
  · rw [f_X6_turns, if_neg g1, if_neg g2, q_chkI (by omega) (by omega), q_let, q_chkI (by omega) (by omega), q_let, q_clamp (by omega)]
  · have ei : (10 : Int32) + 3 * nI k = nI (10 + 3 * k) := by show nI 10 + nI 3 * nI k = _; rw [pk_mul, nI_add]
    rw [f_X7_turns, g_scent1 (M := M) (by rw [q_uo (by omega)]; exact e0), if_neg g1, g_in (nI u) 0 5 (by decide) (by decide), if_neg g2', ei, x_bec (by omega), q_b2, q_uo (by omega : (89 : Nat) ≠ 11), fk.1]
  · obtain ⟨t1, t2⟩ := r_rest (M' := sk_u (sk_u M 11 k (nI u)) 89 (10 + 3 * k) (nI u)) b4 (fun o ho => by unfold r_keep at ho; rw [q_uo (by omega), q_uo (by omega)]) (fun j hj => by rw [q_un (by omega), q_uo (by omega)]) hT hO
    refine ⟨nS, nC, nW, nT, d, ⟨r_inv_ex (x := 11) hI (fun o q1 q2 q3 q4 q5 => by rw [q_uo (by omega), q_uo q3]) (by rw [q_uo (by omega), q_uo (by omega)]) ?_ (Nat.le_refl _) (Nat.le_refl _) rfl (fun _ j hj => ?_) (fun e => by omega) (fun e => by omega) (fun e => by omega) (fun e => by omega) (by omega) (fun c hc e => by omega), r_w_kind (by omega) _ hE, t1⟩, t2⟩
    · unfold r_cnt; rw [q_uo (by omega), q_uo (by omega)]; exact hI.1
    · rw [q_uo (by omega)]
      by_cases e : j = k
      · subst e; rw [q_ue]; exact ⟨u, rfl, hu⟩
      · rw [q_un (by omega)]; exact hrng.2.1 j hj
theorem t_pace (a1 a2 : Int32) : r_st (f_X6_pace a1 a2) (f_X7_pace a1 a2) := by
  intro M hR
  obtain ⟨nS, nC, nW, nT, d, ⟨hI, hE, hT⟩, hO⟩ := id hR
  obtain ⟨⟨⟨b1, b2, b3, b4, b5⟩, c1, c2, c3, c4, c5⟩, hrng, hzero, hcou⟩ := id hI
  have e0 : M 89 0 = M 10 10 := hE 0 (by omega)
  by_cases g1 : f_X6_isScent a1 M = 0
  · exact ⟨_, M, M, by rw [f_X6_pace, if_pos g1], by rw [f_X7_pace, g_scent hE, if_pos g1], hR⟩
  by_cases g2 : f_X6_within a2 0 50 = 0
  · exact ⟨_, M, M, by rw [f_X6_pace, if_neg g1, if_pos g2], by rw [f_X7_pace, g_scent hE, if_neg g1, g_in a2 0 50 (by decide) (by decide), if_pos g2], hR⟩
  obtain ⟨k, hk, rfl⟩ := n_scent c1 b1 g1
  obtain ⟨u, -, hu, rfl⟩ := q_wb (lo := 0) (hi := 50) (by omega) (by omega) g2
  obtain ⟨-, -, f, -, -⟩ := (r_eq_fix hE).1
  have fk := f k (by omega)
  refine ⟨M 12 k, sk_u M 12 k (nI u), sk_u (sk_u M 12 k (nI u)) 89 (11 + 3 * k) (nI u), ?_, ?_, ?_⟩
  · rw [f_X6_pace, if_neg g1, if_neg g2, q_chkI (by omega) (by omega), q_let, q_chkI (by omega) (by omega), q_let, q_clamp (by omega)]
  · have ei : ((10 : Int32) + 3 * nI k) + 1 = nI (11 + 3 * k) := by
      show nI 10 + nI 3 * nI k + nI 1 = _
      rw [pk_mul, nI_add, nI_add]; congr 1; omega
    rw [f_X7_pace, g_scent1 (M := M) (by rw [q_uo (by omega)]; exact e0), if_neg g1, g_in (nI u) 0 50 (by decide) (by decide), if_neg g2, ei, x_bec (by omega), q_b2, q_uo (by omega : (89 : Nat) ≠ 12), fk.2.1]
  · obtain ⟨t1, t2⟩ := r_rest (M' := sk_u (sk_u M 12 k (nI u)) 89 (11 + 3 * k) (nI u)) b4 (fun o ho => by unfold r_keep at ho; rw [q_uo (by omega), q_uo (by omega)]) (fun j hj => by rw [q_un (by omega), q_uo (by omega)]) hT hO
    refine ⟨nS, nC, nW, nT, d, ⟨r_inv_ex (x := 12) hI (fun o q1 q2 q3 q4 q5 => by rw [q_uo (by omega), q_uo q3]) (by rw [q_uo (by omega), q_uo (by omega)]) ?_ (Nat.le_refl _) (Nat.le_refl _) rfl (fun e => by omega) (fun _ j hj => ?_) (fun e => by omega) (fun e => by omega) (fun e => by omega) (by omega) (fun c hc e => by omega), r_w_pace (by omega) _ hE, t1⟩, t2⟩
    · unfold r_cnt; rw [q_uo (by omega), q_uo (by omega)]; exact hI.1
    · rw [q_uo (by omega)]
      by_cases e : j = k
      · subst e; rw [q_ue]; exact ⟨u, rfl, hu⟩
      · rw [q_un (by omega)]; exact hrng.2.2.1 j hj
theorem t_nose (a1 a2 : Int32) : r_st (f_X6_nose a1 a2) (f_X7_nose a1 a2) := by
  intro M hR
  obtain ⟨nS, nC, nW, nT, d, ⟨hI, hE, hT⟩, hO⟩ := id hR
  obtain ⟨⟨⟨b1, b2, b3, b4, b5⟩, c1, c2, c3, c4, c5⟩, hrng, hzero, hcou⟩ := id hI
  by_cases g1 : f_X6_isNose a1 = 0
  · exact ⟨_, M, M, by rw [f_X6_nose, if_pos g1], by rw [f_X7_nose, g_nose, if_pos g1], hR⟩
  by_cases g2 : f_X6_within a2 1 999 = 0
  · exact ⟨_, M, M, by rw [f_X6_nose, if_neg g1, if_pos g2], by rw [f_X7_nose, g_nose, if_neg g1, g_in a2 1 999 (by decide) (by decide), if_pos g2], hR⟩
  obtain ⟨k, hk, rfl⟩ := n_nose g1
  obtain ⟨u, hu1, hu, rfl⟩ := q_wb (lo := 1) (hi := 999) (by omega) (by omega) g2
  obtain ⟨-, f, -, -, -⟩ := (r_eq_fix hE).1
  have fk := f k hk
  refine ⟨M 14 k, sk_u M 14 k (nI u), sk_u (sk_u M 14 k (nI u)) 89 (6 + k) (nI u), ?_, ?_, ?_⟩
  · rw [f_X6_nose, if_neg g1, if_neg g2, q_chkI (by omega) (by omega), q_let, q_chkI (by omega) (by omega), q_let, q_clamp (by omega)]
  · have ei : (6 : Int32) + nI k = nI (6 + k) := nI_add 6 k
    rw [f_X7_nose, g_nose, if_neg g1, g_in (nI u) 1 999 (by decide) (by decide), if_neg g2, ei, x_bec (by omega), q_b2, q_uo (by omega : (89 : Nat) ≠ 14), fk]
  · obtain ⟨t1, t2⟩ := r_rest (M' := sk_u (sk_u M 14 k (nI u)) 89 (6 + k) (nI u)) b4 (fun o ho => by unfold r_keep at ho; rw [q_uo (by omega), q_uo (by omega)]) (fun j hj => by rw [q_un (by omega), q_uo (by omega)]) hT hO
    refine ⟨nS, nC, nW, nT, d, ⟨r_inv_ex (x := 14) hI (fun o q1 q2 q3 q4 q5 => by rw [q_uo (by omega), q_uo q3]) (by rw [q_uo (by omega), q_uo (by omega)]) ?_ (Nat.le_refl _) (Nat.le_refl _) rfl (fun e => by omega) (fun e => by omega) (fun e => by omega) (fun _ j hj => ?_) (fun e => by omega) (by omega) (fun c hc e => by omega), r_w_fine hk _ hE, t1⟩, t2⟩
    · unfold r_cnt; rw [q_uo (by omega), q_uo (by omega)]; exact hI.1
    · rw [q_uo (by omega)]
      by_cases e : j = k
      · subst e; rw [q_ue]; exact ⟨u, rfl, hu1, hu⟩
      · rw [q_un (by omega)]; exact hrng.1 j hj
theorem t_warm (a1 a2 : Int32) : r_st (f_X6_warm a1 a2) (f_X7_warm a1 a2) := by
  intro M hR
  obtain ⟨nS, nC, nW, nT, d, ⟨hI, hE, hT⟩, hO⟩ := id hR
  obtain ⟨⟨⟨b1, b2, b3, b4, b5⟩, c1, c2, c3, c4, c5⟩, hrng, hzero, hcou⟩ := id hI
  have e0 : M 89 1 = M 10 12 := hE 1 (by omega)
  by_cases g1 : f_X6_isCloth a1 M = 0
  · exact ⟨_, M, M, by rw [f_X6_warm, if_pos g1], by rw [f_X7_warm, g_cloth hE, if_pos g1], hR⟩
  by_cases g2 : f_X6_within a2 0 50 = 0
  · exact ⟨_, M, M, by rw [f_X6_warm, if_neg g1, if_pos g2], by rw [f_X7_warm, g_cloth hE, if_neg g1, g_in a2 0 50 (by decide) (by decide), if_pos g2], hR⟩
  obtain ⟨k, hk, rfl⟩ := n_cloth c2 b2 g1
  obtain ⟨u, -, hu, rfl⟩ := q_wb (lo := 0) (hi := 50) (by omega) (by omega) g2
  obtain ⟨-, -, -, f, -⟩ := (r_eq_fix hE).1
  have fk := f k (by omega)
  refine ⟨M 16 k, sk_u M 16 k (nI u), sk_u (sk_u M 16 k (nI u)) 89 (37 + k) (nI u), ?_, ?_, ?_⟩
  · rw [f_X6_warm, if_neg g1, if_neg g2, q_chkI (by omega) (by omega), q_let, q_chkI (by omega) (by omega), q_let, q_clamp (by omega)]
  · have ei : (37 : Int32) + nI k = nI (37 + k) := nI_add 37 k
    rw [f_X7_warm, g_cloth1 (M := M) (by rw [q_uo (by omega)]; exact e0), if_neg g1, g_in (nI u) 0 50 (by decide) (by decide), if_neg g2, ei, x_bec (by omega), q_b2, q_uo (by omega : (89 : Nat) ≠ 16), fk]
  · obtain ⟨t1, t2⟩ := r_rest (M' := sk_u (sk_u M 16 k (nI u)) 89 (37 + k) (nI u)) b4 (fun o ho => by unfold r_keep at ho; rw [q_uo (by omega), q_uo (by omega)]) (fun j hj => by rw [q_un (by omega), q_uo (by omega)]) hT hO
    refine ⟨nS, nC, nW, nT, d, ⟨r_inv_ex (x := 16) hI (fun o q1 q2 q3 q4 q5 => by rw [q_uo (by omega), q_uo q3]) (by rw [q_uo (by omega), q_uo (by omega)]) ?_ (Nat.le_refl _) (Nat.le_refl _) rfl (fun e => by omega) (fun e => by omega) (fun e => by omega) (fun e => by omega) (fun _ j hj => ?_) (by omega) (fun c hc e => by omega), r_w_warm (by omega) _ hE, t1⟩, t2⟩
    · unfold r_cnt; rw [q_uo (by omega), q_uo (by omega)]; exact hI.1
    · rw [q_uo (by omega)]
      by_cases e : j = k
      · subst e; rw [q_ue]; exact ⟨⟨u, rfl, hu⟩, fun q => by omega⟩
      · rw [q_un (by omega)]; exact ⟨hrng.2.2.2.1 j hj, hzero.2.1 j hj⟩
