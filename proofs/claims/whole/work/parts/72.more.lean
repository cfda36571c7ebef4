/-! Scents, words, cloths, spots. -/
theorem q_uid {M : sk_M} {o j : Nat} {v : Int32} (h : M o j = v) : sk_u M o j v = M := by
  funext a b
  rw [q_u]
  by_cases q : a = o ∧ b = j
  · rw [if_pos q, q.1, q.2, h]
  · rw [if_neg q]
theorem q_ucom {M : sk_M} {o j o' j' : Nat} {v v' : Int32} (h : o ≠ o') : sk_u (sk_u M o j v) o' j' v' = sk_u (sk_u M o' j' v') o j v := by
  funext a b
  rw [q_u, q_u, q_u, q_u]
  by_cases q : a = o ∧ b = j
  · have q2 : ¬ (a = o' ∧ b = j') := by omega
    simp only [q, q2, if_true, if_false]
    simp
    omega
  · by_cases q2 : a = o' ∧ b = j'
    · simp only [q, q2, if_true, if_false]
      simp
      omega
    · simp only [q, q2, if_false]
def r_p (nS nC nW nT d : Nat) (M : sk_M) : Prop := r_now nS nC nW nT d M ∧ r_oth nT M
theorem p_kind {nS nC nW nT d k u : Nat} {M : sk_M} (h : r_p nS nC nW nT d M) (hk : k < 9) (hu : u ≤ 5) : r_p nS nC nW nT d (sk_u (sk_u M 11 k (nI u)) 89 (10 + 3 * k) (nI u)) := by
  obtain ⟨⟨hI, hE, hT⟩, hO⟩ := h
  obtain ⟨t1, t2⟩ := r_rest (M' := sk_u (sk_u M 11 k (nI u)) 89 (10 + 3 * k) (nI u)) hI.1.1.2.2.2.1 (fun o ho => by unfold r_keep at ho; rw [q_uo (by omega), q_uo (by omega)]) (fun j hj => by rw [q_un (by omega), q_uo (by omega)]) hT hO
  refine ⟨⟨r_inv_ex (x := 11) hI (fun o q1 q2 q3 q4 q5 => by rw [q_uo (by omega), q_uo q3]) (by rw [q_uo (by omega), q_uo (by omega)]) ?_ (Nat.le_refl _) (Nat.le_refl _) rfl (fun _ j hj => ?_) (fun e => by omega) (fun e => by omega) (fun e => by omega) (fun e => by omega) (by omega) (fun c hc e => by omega), r_w_kind hk _ hE, t1⟩, t2⟩
  · unfold r_cnt; rw [q_uo (by omega), q_uo (by omega)]; exact hI.1
  · rw [q_uo (by omega)]
    by_cases e : j = k
    · subst e; rw [q_ue]; exact ⟨u, rfl, hu⟩
    · rw [q_un (by omega)]; exact hI.2.1.2.1 j hj
theorem p_pace {nS nC nW nT d k u : Nat} {M : sk_M} (h : r_p nS nC nW nT d M) (hk : k < 9) (hu : u ≤ 50) : r_p nS nC nW nT d (sk_u (sk_u M 12 k (nI u)) 89 (11 + 3 * k) (nI u)) := by
  obtain ⟨⟨hI, hE, hT⟩, hO⟩ := h
  obtain ⟨t1, t2⟩ := r_rest (M' := sk_u (sk_u M 12 k (nI u)) 89 (11 + 3 * k) (nI u)) hI.1.1.2.2.2.1 (fun o ho => by unfold r_keep at ho; rw [q_uo (by omega), q_uo (by omega)]) (fun j hj => by rw [q_un (by omega), q_uo (by omega)]) hT hO
  refine ⟨⟨r_inv_ex (x := 12) hI (fun o q1 q2 q3 q4 q5 => by rw [q_uo (by omega), q_uo q3]) (by rw [q_uo (by omega), q_uo (by omega)]) ?_ (Nat.le_refl _) (Nat.le_refl _) rfl (fun e => by omega) (fun _ j hj => ?_) (fun e => by omega) (fun e => by omega) (fun e => by omega) (by omega) (fun c hc e => by omega), r_w_pace hk _ hE, t1⟩, t2⟩
  · unfold r_cnt; rw [q_uo (by omega), q_uo (by omega)]; exact hI.1
  · rw [q_uo (by omega)]
    by_cases e : j = k
    · subst e; rw [q_ue]; exact ⟨u, rfl, hu⟩
    · rw [q_un (by omega)]; exact hI.2.1.2.2.1 j hj
theorem p_spot {nS nC nW nT d c k u : Nat} {M : sk_M} (h : r_p nS nC nW nT d M) (hc : c < nC) (hk : k < nS) (hu : u ≤ 999) : r_p nS nC nW nT d (sk_u (sk_u M (20 + c) k (nI u)) 89 (43 + 9 * c + k) (nI u)) := by
  obtain ⟨⟨hI, hE, hT⟩, hO⟩ := h
  have hb := hI.1.1
  obtain ⟨t1, t2⟩ := r_rest (M' := sk_u (sk_u M (20 + c) k (nI u)) 89 (43 + 9 * c + k) (nI u)) hI.1.1.2.2.2.1 (fun o ho => by unfold r_keep at ho; rw [q_uo (by omega), q_uo (by omega)]) (fun j hj => by rw [q_un (by omega), q_uo (by omega)]) hT hO
  refine ⟨⟨r_inv_ex (x := 20 + c) hI (fun o q1 q2 q3 q4 q5 => by rw [q_uo (by omega), q_uo q3]) (by rw [q_uo (by omega), q_uo (by omega)]) ?_ (Nat.le_refl _) (Nat.le_refl _) rfl (fun e => by omega) (fun e => by omega) (fun e => by omega) (fun e => by omega) (fun e => by omega) (by omega) (fun c' hc' e j hj => ?_), r_w_spot (by omega) (by omega) _ hE, t1⟩, t2⟩
  · unfold r_cnt; rw [q_uo (by omega), q_uo (by omega)]; exact hI.1
  · have e' : c' = c := by omega
    subst e'
    rw [q_uo (by omega)]
    by_cases e : j = k
    · subst e; rw [q_ue]; exact ⟨⟨u, rfl, hu⟩, fun q => by omega⟩
    · rw [q_un (by omega)]
      have z1 := hI.2.1.2.2.2.2 c' (by omega) j hj
      have z2 := hI.2.2.1.2.2 c' (by omega) j hj
      exact ⟨z1, z2⟩
theorem p_cnt {nS nC nW nT d nS' nC' nW' d' p : Nat} {v : Int32} {M : sk_M} (h : r_p nS nC nW nT d M) (hp : p < 6) (hp3 : p ≠ 3) (hcn : r_cnt 10 nS' nC' nW' nT d' (sk_u M 10 (r_cj p) v)) (hS : nS ≤ nS') (hC : nC ≤ nC') : r_p nS' nC' nW' nT d' (sk_u (sk_u M 10 (r_cj p) v) 89 p v) := by
  obtain ⟨⟨hI, hE, hT⟩, hO⟩ := h
  obtain ⟨t1, t2⟩ := r_rest (M' := sk_u (sk_u M 10 (r_cj p) v) 89 p v) hI.1.1.2.2.2.1 (fun o ho => by unfold r_keep at ho; rw [q_uo (by omega), q_uo (by omega)]) (fun j hj => by rw [q_un (by omega), q_uo (by omega)]) hT hO
  refine ⟨⟨r_inv_ex (x := 10) hI (fun o q1 q2 q3 q4 q5 => by rw [q_uo (by omega), q_uo q3]) (by rw [q_uo (by omega), q_uo (by omega)]) ?_ hS hC rfl (fun e => by omega) (fun e => by omega) (fun e => by omega) (fun e => by omega) (fun e => by omega) (by omega) (fun c' hc' e j hj => by omega), r_w_cnt hp _ hE, t1⟩, t2⟩
  unfold r_cnt; rw [q_uo (by omega)]; exact hcn
-- strength, dab
theorem n_spot {nS nC : Nat} {M : sk_M} {a b : Int32} (hn : M 10 10 = nI nS) (h9 : nS ≤ 9) (hm : M 10 12 = nI nC) (h6 : nC ≤ 6) (h : ¬ f_X6_isSpot a b M = 0) : (¬ f_X6_isCloth a M = 0 ∧ ¬ f_X6_isScent b M = 0) ∧ (∃ c, c < nC ∧ a = nI c) ∧ ∃ k, k < nS ∧ b = nI k := by
  unfold f_X6_isSpot at h
  by_cases g1 : f_X6_isCloth a M = 0
  · rw [if_pos g1] at h; exact absurd rfl h
  rw [if_neg g1] at h
  by_cases g2 : f_X6_isScent b M = 0
  · rw [if_pos g2] at h; exact absurd rfl h
  exact ⟨⟨g1, g2⟩, n_cloth hm h6 g1, n_scent hn h9 g2⟩
theorem g_spot0 {M : sk_M} {a b : Int32} (h : f_X6_isSpot a b M = 0) : f_X6_isCloth a M = 0 ∨ (¬ f_X6_isCloth a M = 0 ∧ f_X6_isScent b M = 0) := by
  unfold f_X6_isSpot at h
  by_cases g1 : f_X6_isCloth a M = 0
  · exact Or.inl g1
  rw [if_neg g1] at h
  by_cases g2 : f_X6_isScent b M = 0
  · exact Or.inr ⟨g1, g2⟩
  rw [if_neg g2] at h
  exact absurd h (by decide)
theorem t_strength (a1 a2 : Int32) : r_sr (f_X6_strength a1 a2) (f_X7_strength a1 a2) := by
  intro M hR
  obtain ⟨nS, nC, nW, nT, d, ⟨⟨⟨⟨b1, b2, b3, b4, b5⟩, c1, c2, c3, c4, c5⟩, hrng, hzero, hcou⟩, hE, hT⟩, hO⟩ := hR
  by_cases g1 : f_X6_isSpot a1 a2 M = 0
  · refine ⟨_, by rw [f_X6_strength, if_pos g1], ?_⟩
    rcases g_spot0 g1 with q | ⟨q1, q2⟩
    · rw [f_X7_strength, g_cloth hE, if_pos q]
    · rw [f_X7_strength, g_cloth hE, if_neg q1, g_scent hE, if_pos q2]
  obtain ⟨⟨q1, q2⟩, ⟨c, hc, rfl⟩, k, hk, rfl⟩ := n_spot c1 b1 c2 b2 g1
  have fv := (r_eq_fix hE).2.2 c (by omega) k (by omega)
  exact ⟨_, by rw [f_X6_strength, if_neg g1, q_chkI (by omega) (by omega), q_chkI (by omega) (by omega), q_clamp (by omega), q_clamp (by omega)], by rw [f_X7_strength, g_cloth hE, if_neg q1, g_scent hE, if_neg q2, x_on (by omega) (by omega), q_b1, fv]⟩
theorem t_wordOf (a1 : Int32) : r_sr (f_X6_wordOf a1) (f_X7_wordOf a1) := by
  intro M hR
  obtain ⟨nS, nC, nW, nT, d, ⟨⟨⟨⟨b1, b2, b3, b4, b5⟩, c1, c2, c3, c4, c5⟩, hrng, hzero, hcou⟩, hE, hT⟩, hO⟩ := hR
  by_cases g1 : f_X6_isWord a1 M = 0
  · exact ⟨_, by rw [f_X6_wordOf, if_pos g1], by rw [f_X7_wordOf, g_word hE, if_pos g1]⟩
  obtain ⟨k, hk, rfl⟩ := n_word c3 b3 g1
  have fv := (r_eq_fix hE).1.2.2.2.2 k (by omega)
  exact ⟨_, by rw [f_X6_wordOf, if_neg g1, q_chkI (by omega) (by omega), q_clamp (by omega)], by rw [f_X7_wordOf, g_word hE, if_neg g1, show (97 : Int32) + nI k = nI (97 + k) from nI_add 97 k, q_chkI (by omega) (by omega), q_clamp (by omega), fv]⟩
theorem x_heldW (x : Int32) : f_X7_within x 999 = f_X6_held x := by
  unfold f_X6_held
  rw [q_let]
  exact x_plain_w (a := 999) (by omega) x
theorem x_held_n (x : Int32) : ∃ p : Nat, p ≤ 999 ∧ f_X6_held x = nI p := by
  unfold f_X6_held
  rw [q_let]
  exact x_plain_n (a := 999) (by omega) x
theorem t_dab (a1 a2 a3 : Int32) : r_st (f_X6_dab a1 a2 a3) (f_X7_dab a1 a2 a3) := by
  intro M hR
  obtain ⟨nS, nC, nW, nT, d, ⟨hI, hE, hT⟩, hO⟩ := id hR
  obtain ⟨⟨⟨b1, b2, b3, b4, b5⟩, c1, c2, c3, c4, c5⟩, hrng, hzero, hcou⟩ := id hI
  by_cases g1 : f_X6_isSpot a1 a2 M = 0
  · refine ⟨_, M, M, by rw [f_X6_dab, if_pos g1], ?_, hR⟩
    rcases g_spot0 g1 with q | ⟨q1, q2⟩
    · rw [f_X7_dab, g_cloth hE, if_pos q]
    · rw [f_X7_dab, g_cloth hE, if_neg q1, g_scent hE, if_pos q2]
  obtain ⟨⟨q1, q2⟩, ⟨c, hc, rfl⟩, k, hk, rfl⟩ := n_spot c1 b1 c2 b2 g1
  by_cases g2 : f_X6_within a3 (-999) 999 = 0
  · exact ⟨_, M, M, by rw [f_X6_dab, if_neg g1, if_pos g2], by rw [f_X7_dab, g_cloth hE, if_neg q1, g_scent hE, if_neg q2, g_in a3 (-999) 999 (by decide) (by decide), if_pos g2], hR⟩
  have fv := (r_eq_fix hE).2.2 c (by omega) k (by omega)
  obtain ⟨p, hp, ep⟩ := x_held_n (M (20 + c) k + a3)
  refine ⟨nI p, sk_u M (20 + c) k (nI p), sk_u (sk_u M (20 + c) k (nI p)) 89 (43 + 9 * c + k) (nI p), ?_, ?_, nS, nC, nW, nT, d, p_spot ⟨⟨hI, hE, hT⟩, hO⟩ hc hk hp⟩
  · rw [f_X6_dab, if_neg g1, if_neg g2, q_chkI (by omega) (by omega), q_chkI (by omega) (by omega), q_chkI (by omega) (by omega), q_chkI (by omega) (by omega), q_let, q_chkI (by omega) (by omega), q_chkI (by omega) (by omega), q_clamp (by omega), q_clamp (by omega), ep, q_ue]
  · rw [f_X7_dab, g_cloth1 (M := M) (by rw [q_uo (by omega)]; exact hE 1 (by omega)), if_neg q1, g_scent1 (M := M) (by rw [q_uo (by omega)]; exact hE 0 (by omega)), if_neg q2, g_in a3 (-999) 999 (by decide) (by decide), if_neg g2, x_on (by omega) (by omega), q_b1, q_let, q_uo (by omega : 89 ≠ 20 + c), fv]
    rw [show M (10 + 10 + c) k = M (20 + c) k from rfl, x_heldW, ep, x_ix, q_chkI (by omega) (by omega), q_let, q_clamp (by omega)]
theorem t_hide (a1 a2 a3 : Int32) : r_st (f_X6_hide a1 a2 a3) (f_X7_hide a1 a2 a3) := by
  intro M hR
  obtain ⟨nS, nC, nW, nT, d, ⟨hI, hE, hT⟩, hO⟩ := id hR
  obtain ⟨⟨⟨b1, b2, b3, b4, b5⟩, c1, c2, c3, c4, c5⟩, hrng, hzero, hcou⟩ := id hI
  have e0 : M 89 0 = M 10 10 := hE 0 (by omega)
  by_cases g1 : f_X6_isScent a1 M = 0
  · exact ⟨_, M, M, by rw [f_X6_hide, if_pos g1], by rw [f_X7_hide, g_scent hE, if_pos g1], hR⟩
  by_cases g2 : f_X6_isScent a2 M = 0
  · exact ⟨_, M, M, by rw [f_X6_hide, if_neg g1, if_pos g2], by rw [f_X7_hide, g_scent hE, if_neg g1, g_scent hE, if_pos g2], hR⟩
  by_cases g3 : a1 = a2
  · exact ⟨_, M, M, by rw [f_X6_hide, if_neg g1, if_neg g2, if_pos g3], by rw [f_X7_hide, g_scent hE, if_neg g1, g_scent hE, if_neg g2, if_pos g3], hR⟩
  by_cases g4 : f_X6_within a3 0 1 = 0
  · exact ⟨_, M, M, by rw [f_X6_hide, if_neg g1, if_neg g2, if_neg g3, if_pos g4], by rw [f_X7_hide, g_scent hE, if_neg g1, g_scent hE, if_neg g2, if_neg g3, g_in a3 0 1 (by decide) (by decide), if_pos g4], hR⟩
  obtain ⟨k, hk, rfl⟩ := n_scent c1 b1 g1
  obtain ⟨-, -, f, -, -⟩ := (r_eq_fix hE).1
  have fk : M 89 (12 + 3 * k) = M 13 k := (f k (by omega)).2.2
  generalize hv : ((M 13 k &&& ((1 <<< (a2 &&& 31)) ^^^ (-1))) ||| (a3 <<< (a2 &&& 31))) = v
  have hrest := r_rest (M' := sk_u (sk_u M 13 k v) 89 (12 + 3 * k) v) b4 (fun o ho => by unfold r_keep at ho; rw [q_uo (by omega), q_uo (by omega)]) (fun j hj => by rw [q_un (by omega), q_uo (by omega)]) hT hO
  refine ⟨(M 13 k >>> (a2 &&& 31)) &&& 1, sk_u M 13 k v, sk_u (sk_u M 13 k v) 89 (12 + 3 * k) v, ?_, ?_, nS, nC, nW, nT, d, ⟨r_inv_ex (x := 13) hI (fun o q1 q2 q3 q4 q5 => by rw [q_uo (by omega), q_uo q3]) (by rw [q_uo (by omega), q_uo (by omega)]) ?_ (Nat.le_refl _) (Nat.le_refl _) rfl (fun e => by omega) (fun e => by omega) (fun _ j hj q => ?_) (fun e => by omega) (fun e => by omega) (by omega) (fun c hc e => by omega), r_w_hide (by omega) _ hE, hrest.1⟩, hrest.2⟩
  · rw [f_X6_hide, if_neg g1, if_neg g2, if_neg g3, if_neg g4, q_chkI (by omega) (by omega), q_let, q_chkI (by omega) (by omega), q_chkI (by omega) (by omega), q_let, q_clamp (by omega), hv]
  · have ei : ((10 : Int32) + 3 * nI k) + 2 = nI (12 + 3 * k) := by
      show nI 10 + nI 3 * nI k + nI 2 = _
      rw [pk_mul, nI_add, nI_add]; congr 1; omega
    rw [f_X7_hide, g_scent1 (M := M) (by rw [q_uo (by omega)]; exact e0), if_neg g1, g_scent1 (M := M) (by rw [q_uo (by omega)]; exact e0), if_neg g2, if_neg g3, g_in a3 0 1 (by decide) (by decide), if_neg g4, q_let, ei, q_chkI (by omega) (by omega), q_let, q_chkI (by omega) (by omega), q_chkI (by omega) (by omega), q_let, q_clamp (by omega), q_uo (by omega : (89 : Nat) ≠ 13), fk, hv]
  · unfold r_cnt; rw [q_uo (by omega), q_uo (by omega)]; exact hI.1
  · rw [q_uo (by omega), q_un (by omega)]; exact hzero.1 j hj q
theorem t_seed (a1 : Int32) : r_st (f_X6_seed a1) (f_X7_seed a1) := by
  intro M hR
  obtain ⟨nS, nC, nW, nT, d, hP⟩ := id hR
  have hI := hP.1.1
  have hE := hP.1.2.1
  obtain ⟨⟨⟨b1, b2, b3, b4, b5⟩, c1, c2, c3, c4, c5⟩, hrng, hzero, hcou⟩ := id hI
  refine ⟨M 10 15, sk_u M 10 15 a1, sk_u (sk_u M 10 15 a1) 89 5 a1, ?_, ?_, nS, nC, nW, nT, d, p_cnt (p := 5) hP (by omega) (by omega) ⟨⟨b1, b2, b3, b4, b5⟩, ?_, ?_, ?_, ?_, ?_⟩ (Nat.le_refl _) (Nat.le_refl _)⟩
  · rw [f_X6_seed, q_let, q_let]
  · rw [f_X7_seed, show (5 : Int32) = nI 5 from rfl, x_bec (by omega), q_b2, q_uo (by omega), show M 89 5 = M 10 15 from hE 5 (by omega)]
  all_goals show sk_u M 10 15 a1 10 _ = _
  all_goals rw [q_un (by omega)]
  all_goals assumption
theorem x_cz {c nS : Nat} {M : sk_M} (hc : c < 6) (hz : ∀ k, k < 9 → M 89 (43 + 9 * c + k) = 0) : ∀ (m k fu : Nat), k + m = 9 → m < fu → f_X7_cloth_L33 (nI c) fu (nI k) M = some M := by
  intro m
  induction m with
  | zero =>
    intro k fu hk hfu
    obtain ⟨g, rfl⟩ : ∃ g, fu = g + 1 := ⟨fu - 1, by omega⟩
    have e : k = 9 := by omega
    subst e
    rw [f_X7_cloth_L33, if_pos (show (9 : Int32) ≤ nI 9 from nI_le (a := 9) (Nat.le_refl _) (by omega))]
  | succ m ih =>
    intro k fu hk hfu
    obtain ⟨g, rfl⟩ : ∃ g, fu = g + 1 := ⟨fu - 1, by omega⟩
    rw [f_X7_cloth_L33, if_neg (show ¬ (9 : Int32) ≤ nI k from nI_ge (b := 9) (by omega) (by omega)), x_ix, q_chkI (by omega) (by omega), q_let, q_clamp (by omega), q_uid (hz k (by omega)), nI_1]
    exact ih (k + 1) g (by omega) (by omega)
theorem t_cloth : r_st f_X6_cloth f_X7_cloth := by
  intro M hR
  obtain ⟨nS, nC, nW, nT, d, hP⟩ := id hR
  have hI := hP.1.1
  have hE := hP.1.2.1
  obtain ⟨⟨⟨b1, b2, b3, b4, b5⟩, c1, c2, c3, c4, c5⟩, hrng, hzero, hcou⟩ := id hI
  have e1 : M 89 1 = nI nC := (hE 1 (by omega)).trans c2
  by_cases g : nC = 6
  · subst g
    refine ⟨_, M, M, by rw [f_X6_cloth, c2, if_neg (by decide)], by rw [f_X7_cloth, e1, if_pos (by decide)], hR⟩
  have hlt : nC < 6 := by omega
  have hz : ∀ k, k < 9 → sk_u M 10 12 (nI (nC + 1)) 89 (43 + 9 * nC + k) = 0 := fun k hk => by
    rw [q_uo (by omega), (r_eq_fix hE).2.2 nC hlt k hk]
    exact hzero.2.2 nC hlt k hk (Or.inl (Nat.le_refl _))
  have hw : sk_u M 10 12 (nI (nC + 1)) 89 (37 + nC) = 0 := by
    rw [q_uo (by omega), (r_eq_fix hE).1.2.2.2.1 nC hlt]
    exact hzero.2.1 nC hlt (Nat.le_refl _)
  have hl := x_cz (nS := nS) hlt hz 9 0 sk_FU (by omega) (by unfold sk_FU; omega)
  have hl' : f_X7_cloth_L33 (nI nC) sk_FU 0 (sk_u M 10 12 (nI (nC + 1))) = _ := hl
  refine ⟨nI nC, sk_u M 10 12 (nI (nC + 1)), sk_u (sk_u M 10 12 (nI (nC + 1))) 89 1 (nI (nC + 1)), ?_, ?_, nS, nC + 1, nW, nT, d, p_cnt (p := 1) hP (by omega) (by omega) ⟨⟨b1, by omega, b3, b4, b5⟩, ?_, ?_, ?_, ?_, ?_⟩ (Nat.le_refl _) (by omega)⟩
  · rw [f_X6_cloth, c2, if_pos (show nI nC < 6 from nI_lt (b := 6) hlt (by omega)), q_let, nI_1, q_ue, nI_pred]
  · rw [f_X7_cloth, q_uo (by omega), e1, if_neg (show ¬ nI nC = 6 from fun q => g ((q_eq (b := 6) (by omega) (by omega)).mp q)), q_let, show (37 : Int32) + nI nC = nI (37 + nC) from nI_add 37 nC, q_chkI (by omega) (by omega), q_let, q_clamp (by omega), q_uid hw, hl', q_b1, q_let, q_uo (by omega : (89 : Nat) ≠ 10), e1, nI_1]
  · show sk_u M 10 12 (nI (nC + 1)) 10 10 = _
    rw [q_un (by omega)]; exact c1
  · show sk_u M 10 12 (nI (nC + 1)) 10 12 = _
    rw [q_ue]
  · show sk_u M 10 12 (nI (nC + 1)) 10 11 = _
    rw [q_un (by omega)]; exact c3
  · show sk_u M 10 12 (nI (nC + 1)) 10 13 = _
    rw [q_un (by omega)]; exact c4
  · show sk_u M 10 12 (nI (nC + 1)) 10 14 = _
    rw [q_un (by omega)]; exact c5
