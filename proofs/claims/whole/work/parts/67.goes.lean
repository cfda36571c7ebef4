/-! A day of the reference. -/
def x_mh (w nS nC nT : Nat) (M : sk_M) : Prop := (sk_isW w ∧ nS ≤ 9 ∧ nC ≤ 6 ∧ nT ≤ 14) ∧ (M w 10 = nI nS ∧ M w 12 = nI nC ∧ M w 13 = nI nT) ∧ r_fix w 89 M ∧ r_cou w nT M ∧ r_txt 89 nT M ∧
  (∀ k, k < 9 → ∃ v : Nat, M (w + 2) k = nI v ∧ v ≤ 50) ∧ (∀ c, c < 6 → ∀ k, k < 9 → ∃ v : Nat, M 89 (43 + 9 * c + k) = nI v ∧ v ≤ 999)
theorem x_mh_c {w nS nC nT : Nat} {M M' : sk_M} (h : x_mh w nS nC nT M) (hq : ∀ q, q < 88 → M' q = M q) (ha : r_ag (M 89) (M' 89)) (hr : ∀ c, c < 6 → ∀ k, k < 9 → ∃ v : Nat, M' 89 (43 + 9 * c + k) = nI v ∧ v ≤ 999) : x_mh w nS nC nT M' := by
  obtain ⟨h1, h2, h3, h4, h5, h6, h7⟩ := h
  have hw : w ≤ 26 := by rcases h1.1 with rfl | rfl <;> decide
  have c1 : r_cs w M M' := fun o q => hq o (by omega)
  have c2 : r_lib M M' := fun o q q2 q3 => hq o (by omega)
  have e := hq w (by omega)
  refine ⟨h1, ⟨by rw [e]; exact h2.1, by rw [e]; exact h2.2.1, by rw [e]; exact h2.2.2⟩, r_fix_c c1 ha h3, r_cou_c c1 c2 h4, r_txt_c h1.2.2.2 c2 (fun j hj => ha j (by omega) (by omega)) h5, fun k hk => ?_, hr⟩
  rw [hq (w + 2) (by omega)]
  exact h6 k hk
theorem x_mh_ls {w nS nC nT : Nat} {M M' : sk_M} (h : x_mh w nS nC nT M) (hq : ∀ q, q < 88 → M' q = M q) : x_ls w M' = x_ls w M := by
  obtain ⟨h1, h2, h3, h4, h5, h6, h7⟩ := h
  have hw : w ≤ 26 := by rcases h1.1 with rfl | rfl <;> decide
  exact x_ls_c h1.2.2.2 h4 (fun o q => hq o (by omega)) (fun o q q2 q3 => hq o (by omega))
/-- nothing changes but 89, 103, 104 -/
def x_o3 (M M' : sk_M) : Prop := ∀ q, q ≠ 89 → q ≠ 103 → q ≠ 104 → M' q = M q
theorem x_o3.lt {M M' : sk_M} (h : x_o3 M M') : ∀ q, q < 88 → M' q = M q := fun q hq => h q (by omega) (by omega) (by omega)
theorem x_o3.trans {M M' M2 : sk_M} (h : x_o3 M M') (h2 : x_o3 M' M2) : x_o3 M M2 := fun q a b c => (h2 q a b c).trans (h q a b c)
theorem x_losesOn {w nS nC nT c k : Nat} {M : sk_M} (h : x_mh w nS nC nT M) (hc : c < 6) (hk : k < 9) : ∃ M', f_X7_losesOn (nI c) (nI k) M = some (x_ls w M k (M 89 (43 + 9 * c + k)) (M 89 (37 + c)) (M 89 4), M') ∧ x_o3 M M' ∧ M' 89 = M 89 := by
  obtain ⟨h1, h2, h3, h4, h5, h6, h7⟩ := h
  obtain ⟨v, v1, v2⟩ := h7 c hc k hk
  obtain ⟨N, B, hB⟩ := x_lossM (warm := M 89 (37 + c)) (day := M 89 4) hk h1.2.2.2 h3 h2.2.2 h4 h5 (h6 k hk) v2
  refine ⟨sk_uA (sk_uA M 103 N) 104 B, ?_, ?_, ?_⟩
  · rw [f_X7_losesOn, x_on hc hk, q_b1, show (37 : Int32) + nI c = nI (37 + c) from nI_add 37 c, q_chkI (by omega) (by omega), q_clamp (by omega), v1, hB, q_b2]
  · intro q q1 q2 q3
    rw [sk_uA_ne _ _ q3, sk_uA_ne _ _ q2]
  · rw [sk_uA_ne _ _ (by omega), sk_uA_ne _ _ (by omega)]
theorem x_ls_n {w nS nC nT c k : Nat} {M : sk_M} (h : x_mh w nS nC nT M) (hk : k < 9) {a : Nat} (ha : a ≤ 999) (warm day : Int32) : ∃ l : Nat, l ≤ a ∧ x_ls w M k (nI a) warm day = nI l := by
  obtain ⟨h1, h2, h3, h4, h5, h6, h7⟩ := h
  obtain ⟨p, p1, p2⟩ := h6 k hk
  unfold x_ls
  rw [p1]
  exact x_loss_n ha p2 _ _ _
/-- row T of the reference with cloth c faded below scent k -/
def x_gk (w : Nat) (M : sk_M) (c : Nat) (T : Nat → Int32) (k : Nat) : Nat → Int32 := fun i => if 43 + 9 * c ≤ i ∧ i < 43 + 9 * c + k then T i - x_ls w M (i - 43 - 9 * c) (T i) (T (37 + c)) (T 4) else T i
theorem x_gk_rng {w nS nC nT c k : Nat} {M : sk_M} (h : x_mh w nS nC nT M) (hk : k ≤ 9) : ∀ c', c' < 6 → ∀ k', k' < 9 → ∃ v : Nat, x_gk w M c (M 89) k (43 + 9 * c' + k') = nI v ∧ v ≤ 999 := by
  intro c' hc' k' hk'
  obtain ⟨v, v1, v2⟩ := h.2.2.2.2.2.2 c' hc' k' hk'
  unfold x_gk
  by_cases q : 43 + 9 * c ≤ 43 + 9 * c' + k' ∧ 43 + 9 * c' + k' < 43 + 9 * c + k
  · rw [if_pos q, v1]
    obtain ⟨l, l1, l2⟩ := x_ls_n (c := c) (k := 43 + 9 * c' + k' - 43 - 9 * c) h (by omega) v2 (M 89 (37 + c)) (M 89 4)
    rw [l2, pk_sub l1]
    exact ⟨v - l, rfl, by omega⟩
  · rw [if_neg q]; exact ⟨v, v1, v2⟩
theorem x_goL {w nS nC nT c : Nat} {M : sk_M} (h : x_mh w nS nC nT M) (hc : c < 6) :
    ∀ (m k fu : Nat) (Mk : sk_M), k + m = nS → m < fu → x_o3 M Mk → Mk 89 = x_gk w M c (M 89) k → ∃ M', f_X7_goesOn_L14 (nI c) fu (nI k) Mk = some M' ∧ x_o3 M M' ∧ M' 89 = x_gk w M c (M 89) nS := by
  intro m
  obtain ⟨h1, h2, h3, h4, h5, h6, h7⟩ := id h
  have hag : ∀ k, k ≤ 9 → r_ag (M 89) (x_gk w M c (M 89) k) := fun k hk i q1 q2 => by
    unfold x_gk
    rw [if_neg (by omega)]
  have h0 : M 89 0 = nI nS := h3.1.1.trans h2.1
  induction m with
  | zero =>
    intro k fu Mk hk hfu ho hT
    obtain ⟨g, rfl⟩ : ∃ g, fu = g + 1 := ⟨fu - 1, by omega⟩
    have e : k = nS := by omega
    subst e
    refine ⟨Mk, ?_, ho, hT⟩
    rw [f_X7_goesOn_L14, hT, hag k h1.2.1 0 (by omega) (by omega), h0, if_pos (nI_le (Nat.le_refl _) (by omega))]
  | succ m ih =>
    intro k fu Mk hk hfu ho hT
    obtain ⟨g, rfl⟩ : ∃ g, fu = g + 1 := ⟨fu - 1, by omega⟩
    have hk9 : k < 9 := by omega
    have hmk : x_mh w nS nC nT Mk := x_mh_c h ho.lt (by rw [hT]; exact hag k (by omega)) (by rw [hT]; exact x_gk_rng h (by omega))
    obtain ⟨M1, g1, g2, g3⟩ := x_losesOn hmk hc hk9
    have eT : Mk 89 (43 + 9 * c + k) = M 89 (43 + 9 * c + k) := by
      rw [hT]; unfold x_gk; rw [if_neg (by omega)]
    have e37 : Mk 89 (37 + c) = M 89 (37 + c) := by rw [hT]; exact hag k (by omega) _ (by omega) (by omega)
    have e4 : Mk 89 4 = M 89 4 := by rw [hT]; unfold x_gk; rw [if_neg (by omega)]
    rw [x_mh_ls h ho.lt, eT, e37, e4] at g1
    obtain ⟨M', k1, k2, k3⟩ := ih (k + 1) g (sk_u M1 89 (43 + 9 * c + k) (M 89 (43 + 9 * c + k) - x_ls w M k (M 89 (43 + 9 * c + k)) (M 89 (37 + c)) (M 89 4))) (by omega) (by omega) (by
      intro q q1 q2 q3
      rw [q_uo q1]; exact (g2 q q1 q2 q3).trans (ho q q1 q2 q3)) (by
      rw [q_us, g3, hT]
      funext i
      rw [q_upd]
      unfold x_gk
      by_cases e : i = 43 + 9 * c + k
      · subst e
        rw [if_pos rfl, if_pos (by omega), show 43 + 9 * c + k - 43 - 9 * c = k by omega]
      · rw [if_neg e]
        by_cases q : 43 + 9 * c ≤ i ∧ i < 43 + 9 * c + k
        · rw [if_pos q, if_pos (by omega)]
        · rw [if_neg q, if_neg (by omega)])
    refine ⟨M', ?_, k2, k3⟩
    rw [f_X7_goesOn_L14, hT, hag k (by omega) 0 (by omega) (by omega), h0, if_neg (nI_ge (by omega) (by omega)), x_ix, q_chkI (by omega) (by omega), g1, q_b2, q_chkI (by omega) (by omega), q_let, q_clamp (by omega), nI_1]
    have e9 : x_gk w M c (M 89) k (43 + 9 * c + k) = M 89 (43 + 9 * c + k) := by rw [← hT]; exact eT
    rw [e9]
    exact k1
/-- row T with the cloths below c faded -/
def x_gc (w : Nat) (M : sk_M) (nS : Nat) (T : Nat → Int32) (c : Nat) : Nat → Int32 := fun i => if 43 ≤ i ∧ i < 43 + 9 * c ∧ (i - 43) % 9 < nS then T i - x_ls w M ((i - 43) % 9) (T i) (T (37 + (i - 43) / 9)) (T 4) else T i
theorem x_gc_ag (w : Nat) (M : sk_M) (nS : Nat) (T : Nat → Int32) {c : Nat} (hc : c ≤ 6) : r_ag T (x_gc w M nS T c) := fun i q1 q2 => by
  unfold x_gc
  rw [if_neg (by omega)]
theorem x_gc_rng {w nS nC nT c : Nat} {M : sk_M} (h : x_mh w nS nC nT M) (hc : c ≤ 6) : ∀ c', c' < 6 → ∀ k', k' < 9 → ∃ v : Nat, x_gc w M nS (M 89) c (43 + 9 * c' + k') = nI v ∧ v ≤ 999 := by
  intro c' hc' k' hk'
  obtain ⟨v, v1, v2⟩ := h.2.2.2.2.2.2 c' hc' k' hk'
  unfold x_gc
  by_cases q : 43 ≤ 43 + 9 * c' + k' ∧ 43 + 9 * c' + k' < 43 + 9 * c ∧ (43 + 9 * c' + k' - 43) % 9 < nS
  · rw [if_pos q, v1]
    obtain ⟨l, l1, l2⟩ := x_ls_n (c := c) (k := (43 + 9 * c' + k' - 43) % 9) h (by omega) v2 (M 89 (37 + (43 + 9 * c' + k' - 43) / 9)) (M 89 4)
    rw [l2, pk_sub l1]
    exact ⟨v - l, rfl, by omega⟩
  · rw [if_neg q]; exact ⟨v, v1, v2⟩
theorem x_goL2 {w nS nC nT : Nat} {M : sk_M} (h : x_mh w nS nC nT M) :
    ∀ (m c fu : Nat) (Mc : sk_M), c + m = nC → m < fu → x_o3 M Mc → Mc 89 = x_gc w M nS (M 89) c → ∃ M', f_X7_goesOn_L2 fu (nI c) Mc = some M' ∧ x_o3 M M' ∧ M' 89 = x_gc w M nS (M 89) nC := by
  intro m
  obtain ⟨h1, h2, h3, h4, h5, h6, h7⟩ := id h
  have h0 : M 89 1 = nI nC := h3.1.2.1.trans h2.2.1
  induction m with
  | zero =>
    intro c fu Mc hc hfu ho hT
    obtain ⟨g, rfl⟩ : ∃ g, fu = g + 1 := ⟨fu - 1, by omega⟩
    have e : c = nC := by omega
    subst e
    refine ⟨Mc, ?_, ho, hT⟩
    rw [f_X7_goesOn_L2, hT, x_gc_ag w M nS (M 89) h1.2.2.1 1 (by omega) (by omega), h0, if_pos (nI_le (Nat.le_refl _) (by omega))]
  | succ m ih =>
    intro c fu Mc hc hfu ho hT
    obtain ⟨g, rfl⟩ : ∃ g, fu = g + 1 := ⟨fu - 1, by omega⟩
    have hag := x_gc_ag w M nS (M 89) (show c ≤ 6 by omega)
    have hmc : x_mh w nS nC nT Mc := x_mh_c h ho.lt (by rw [hT]; exact hag) (by rw [hT]; exact x_gc_rng h (by omega))
    obtain ⟨M1, g1, g2, g3⟩ := x_goL hmc (show c < 6 by omega) nS 0 sk_FU Mc (by omega) (by unfold sk_FU; omega) (fun q _ _ _ => rfl) (by
      funext i
      unfold x_gk
      rw [if_neg (by omega)])
    obtain ⟨M', k1, k2, k3⟩ := ih (c + 1) g M1 (by omega) (by omega) (ho.trans g2) (by
      rw [g3, hT]
      funext i
      unfold x_gk
      rw [x_mh_ls h ho.lt]
      have e37 : x_gc w M nS (M 89) c (37 + c) = M 89 (37 + c) := hag _ (by omega) (by omega)
      have e4 : x_gc w M nS (M 89) c 4 = M 89 4 := by unfold x_gc; rw [if_neg (by omega)]
      rw [e37, e4]
      unfold x_gc
      by_cases q : 43 + 9 * c ≤ i ∧ i < 43 + 9 * c + nS
      · rw [if_pos q, if_neg (by omega), if_pos (by omega), show (i - 43) % 9 = i - 43 - 9 * c by omega, show (i - 43) / 9 = c by omega]
      · rw [if_neg q]
        by_cases q2 : 43 ≤ i ∧ i < 43 + 9 * c ∧ (i - 43) % 9 < nS
        · rw [if_pos q2, if_pos (by omega)]
        · rw [if_neg q2, if_neg (by omega)])
    refine ⟨M', ?_, k2, k3⟩
    have g1' : f_X7_goesOn_L14 (nI c) sk_FU 0 Mc = some M1 := g1
    rw [f_X7_goesOn_L2, hT, hag 1 (by omega) (by omega), h0, if_neg (nI_ge (by omega) (by omega)), g1', q_b1, nI_1]
    exact k1
/-- row T behind a day -/
def x_day (w : Nat) (M : sk_M) (nS nC : Nat) (T : Nat → Int32) : Nat → Int32 := upd (x_gc w M nS T nC) 4 (T 4 + 1)
theorem x_goesOn {w nS nC nT : Nat} {M : sk_M} (h : x_mh w nS nC nT M) : ∃ M', f_X7_goesOn M = some M' ∧ x_o3 M M' ∧ M' 89 = x_day w M nS nC (M 89) ∧ x_mh w nS nC nT M' := by
  obtain ⟨h1, -⟩ := id h
  obtain ⟨M1, g1, g2, g3⟩ := x_goL2 h nC 0 sk_FU M (by omega) (by unfold sk_FU; omega) (fun q _ _ _ => rfl) (by
    funext i
    unfold x_gc
    rw [if_neg (by omega)])
  have g1' : f_X7_goesOn_L2 sk_FU 0 M = some M1 := g1
  have e4 : M1 89 4 = M 89 4 := by rw [g3]; unfold x_gc; rw [if_neg (by omega)]
  have eT : sk_u M1 89 4 (M 89 4 + 1) 89 = x_day w M nS nC (M 89) := by rw [q_us, g3]; rfl
  have ho : x_o3 M (sk_u M1 89 4 (M 89 4 + 1)) := fun q q1 q2 q3 => by rw [q_uo q1]; exact g2 q q1 q2 q3
  refine ⟨sk_u M1 89 4 (M 89 4 + 1), ?_, ho, eT, x_mh_c h ho.lt ?_ ?_⟩
  · rw [f_X7_goesOn, g1', q_b1, q_let, e4]
  · rw [eT]
    intro i q1 q2
    unfold x_day
    rw [q_upd, if_neg q1]
    exact x_gc_ag w M nS (M 89) h1.2.2.1 i q1 q2
  · rw [eT]
    intro c hc k hk
    unfold x_day
    rw [q_upd, if_neg (by omega)]
    exact x_gc_rng h h1.2.2.1 c hc k hk
