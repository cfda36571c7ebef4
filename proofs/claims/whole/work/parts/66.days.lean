/-! A day of the class's world, of a thought, of the reference. -/
def x_ch (w nS nC nT : Nat) (M : sk_M) : Prop := sk_isW w ∧ nS ≤ 9 ∧ nC ≤ 6 ∧ M w 10 = nI nS ∧ M w 12 = nI nC ∧ x_ctx M nT ∧ r_cou w nT M
theorem x_ch_c {w nS nC nT : Nat} {M M' : sk_M} (h : x_ch w nS nC nT M) (c1 : r_cs w M M') (c2 : r_lib M M') : x_ch w nS nC nT M' := by
  obtain ⟨h1, h2, h3, h4, h5, h6, h7⟩ := h
  have e := c1 w (Or.inl ⟨by omega, by omega⟩)
  exact ⟨h1, h2, h3, by rw [e]; exact h4, by rw [e]; exact h5, x_ctx_c c2 h6, r_cou_c c1 c2 h7⟩
theorem x_fr_c {w nS nT nC : Nat} {M M' : sk_M} (h : x_ch w nS nC nT M) (c1 : r_cs w M M') (c2 : r_lib M M') : x_fr w M' nS = x_fr w M nS := by
  obtain ⟨h1, h2, h3, h4, h5, h6, h7⟩ := h
  funext r warm day k
  unfold x_fr
  rw [x_ls_c h6.1 h7 c1 c2]
theorem x_passL {w nS nC nT : Nat} {M : sk_M} (h : x_ch w nS nC nT M) :
    ∀ (m c fu : Nat) (Mc : sk_M), c + m = nC → m < fu → (∀ o, o ≠ 47 → ¬ (w + 10 ≤ o ∧ o < w + 10 + c) → Mc o = M o) → (∀ c', c' < c → Mc (w + 10 + c') = x_fr w M nS (M (w + 10 + c')) (M (w + 6) c') (M w 14)) →
      ∃ M', f_X5_passDay_L2 w fu (nI c) Mc = some M' ∧ (∀ o, o ≠ 47 → ¬ (w + 10 ≤ o ∧ o < w + 10 + nC) → M' o = M o) ∧ (∀ c', c' < nC → M' (w + 10 + c') = x_fr w M nS (M (w + 10 + c')) (M (w + 6) c') (M w 14)) := by
  intro m
  obtain ⟨h1, h2, h3, h4, h5, h6, h7⟩ := id h
  induction m with
  | zero =>
    intro c fu Mc hk hfu hf hr
    obtain ⟨g, rfl⟩ : ∃ g, fu = g + 1 := ⟨fu - 1, by omega⟩
    have e : c = nC := by omega
    subst e
    have hw47 : w ≠ 47 := by rcases h1 with rfl | rfl <;> decide
    refine ⟨Mc, ?_, hf, hr⟩
    rw [f_X5_passDay_L2, hf w hw47 (by omega), h5, if_pos (nI_le (Nat.le_refl _) (by omega))]
  | succ m ih =>
    intro c fu Mc hk hfu hf hr
    obtain ⟨g, rfl⟩ : ∃ g, fu = g + 1 := ⟨fu - 1, by omega⟩
    have hw47 : w ≠ 47 ∧ w + 6 ≠ 47 ∧ w + 8 ≠ 47 ∧ w < 27 ∧ (w = 10 ∨ w = 26) := by rcases h1 with rfl | rfl <;> decide
    have c1 : r_cs w M Mc := fun o q => hf o (by omega) (by omega)
    have c2 : r_lib M Mc := fun o q q2 q3 => hf o q3 (by omega)
    have hh := x_ch_c h c1 c2
    obtain ⟨k1, k2, k3, k4, k5, k6, k7⟩ := hh
    obtain ⟨B, hB⟩ := x_fadeRow (o := w + 10 + c) k1 (Or.inr (Or.inr ⟨by omega, by omega⟩)) k2 k4 k6 k7 (M (w + 6) c) (M w 14)
    rw [x_fr_c h c1 c2, hf (w + 10 + c) (by omega) (by omega)] at hB
    obtain ⟨M', g1, g2, g3⟩ := ih (c + 1) g (sk_uA (sk_uA Mc (w + 10 + c) (x_fr w M nS (M (w + 10 + c)) (M (w + 6) c) (M w 14))) 47 B) (by omega) (by omega) (by
      intro o q1 q2
      rw [sk_uA_ne _ _ q1, sk_uA_ne _ _ (by omega)]
      exact hf o q1 (by omega)) (by
      intro c' hc'
      rw [sk_uA_ne _ _ (by omega)]
      by_cases e : c' = c
      · subst e; rw [sk_uA_self]
      · rw [sk_uA_ne _ _ (by omega)]; exact hr c' (by omega))
    refine ⟨M', ?_, g2, g3⟩
    rw [f_X5_passDay_L2, hf w hw47.1 (by omega), h5, if_neg (nI_ge (by omega) (by omega)), q_chkI (by omega) (by omega), q_chkI (by omega) (by omega), q_clamp (by omega), hf (w + 6) (by omega) (by omega), hB, q_b1, nI_1]
    exact g1
theorem x_passDay {w nS nC nT : Nat} {M : sk_M} (h : x_ch w nS nC nT M) :
    ∃ M', f_X5_passDay w M = some M' ∧ (∀ o, o ≠ 47 → o ≠ w → ¬ (w + 10 ≤ o ∧ o < w + 10 + nC) → M' o = M o) ∧ (∀ c', c' < nC → M' (w + 10 + c') = x_fr w M nS (M (w + 10 + c')) (M (w + 6) c') (M w 14)) ∧ M' w = upd (M w) 14 (M w 14 + 1) := by
  obtain ⟨M1, g1, g2, g3⟩ := x_passL h nC 0 sk_FU M (by omega) (by unfold sk_FU; have := h.2.2.1; omega) (fun o _ _ => rfl) (fun c' hc' => by omega)
  have g1' : f_X5_passDay_L2 w sk_FU 0 M = some M1 := g1
  have hw47 : w ≠ 47 ∧ (w = 10 ∨ w = 26) := by rcases h.1 with rfl | rfl <;> decide
  have hw1 := g2 w hw47.1 (by omega)
  refine ⟨sk_u M1 w 14 (M1 w 14 + 1), ?_, ?_, ?_, ?_⟩
  · rw [f_X5_passDay, g1', q_b1, q_let]
  · intro o q1 q2 q3
    rw [q_uo q2]; exact g2 o q1 q3
  · intro c' hc'
    rw [q_uo (by omega)]; exact g3 c' hc'
  · rw [q_us, hw1]
-- thoughts
def x_th (o : Nat) (M0 : sk_M) (r : Nat → Int32) (warm day : Int32) (M : sk_M) : Prop :=
  (∀ q, q ≠ 47 → q ≠ o → q ≠ o + 1 → M q = M0 q) ∧ (∀ k, k < 9 → M (o + 1) k = r k) ∧ M o 2 = warm ∧ M o 3 = day
theorem x_th_cs {o w : Nat} {M0 M : sk_M} {r : Nat → Int32} {warm day : Int32} (ho : sk_isT o) (hw : w = sk_tw o) (h : x_th o M0 r warm day M) : r_cs w M0 M ∧ r_lib M0 M := by
  subst hw
  constructor
  · intro q hq
    rcases ho with rfl | rfl
    · have : sk_tw 6 = 10 := rfl
      exact h.1 q (by omega) (by omega) (by omega)
    · have : sk_tw 8 = 26 := rfl
      exact h.1 q (by omega) (by omega) (by omega)
  · intro q q1 q2 q3
    rcases ho with rfl | rfl <;> exact h.1 q (by omega) (by omega) (by omega)
theorem x_begin {o c : Nat} (ho : sk_isT o) (hc : c < 6) (M : sk_M) : ∃ M', f_X4_begin o (nI c) M = some M' ∧ x_th o M (M (sk_tw o + 10 + c)) (M (sk_tw o + 6) c) (M (sk_tw o) 14) M' := by
  have ht : sk_tw o + 6 ≠ o + 1 ∧ sk_tw o ≠ o + 1 ∧ sk_tw o ≠ o := by
    rcases ho with rfl | rfl <;> decide
  refine ⟨sk_u (sk_u (sk_uA M (o + 1) (va_cpy (M (sk_tw o + 10 + c)) (M (o + 1)) 0 0 9)) o 2 (M (sk_tw o + 6) c)) o 3 (M (sk_tw o) 14), ?_, ?_⟩
  · rw [f_X4_begin, q_chkI hc (by omega), q_let, q_chkI hc (by omega), q_let, q_let, q_clamp (by omega), sk_uA_ne _ _ ht.1, q_uo ht.2.2, sk_uA_ne _ _ ht.2.1]
    rfl
  · refine ⟨fun q q1 q2 q3 => ?_, fun k hk => ?_, ?_, ?_⟩
    · rw [q_uo q2, q_uo q2, sk_uA_ne _ _ q3]
    · rw [q_uo (by omega), q_uo (by omega), sk_uA_self, pk_cpy_in (by omega) (by omega)]
      congr 1
      omega
    · rw [q_un (by omega), q_ue]
    · rw [q_ue]
theorem x_tday {o nS nC nT : Nat} {M0 M : sk_M} {r : Nat → Int32} {warm day : Int32} (ho : sk_isT o) (hh : x_ch (sk_tw o) nS nC nT M0) (h : x_th o M0 r warm day M) :
    ∃ M', f_X4_passDay o M = some M' ∧ x_th o M0 (x_fr (sk_tw o) M0 nS r warm day) warm (day + 1) M' := by
  obtain ⟨c1, c2⟩ := x_th_cs ho rfl h
  obtain ⟨k1, k2, k3, k4, k5, k6, k7⟩ := x_ch_c hh c1 c2
  obtain ⟨a1, a2, a3, a4⟩ := h
  obtain ⟨B, hB⟩ := x_fadeRow (o := o + 1) k1 (by unfold x_row; rcases ho with rfl | rfl <;> omega) k2 k4 k6 k7 warm day
  rw [x_fr_c hh c1 c2] at hB
  have h47 : o ≠ 47 ∧ o + 1 ≠ 47 := by rcases ho with rfl | rfl <;> decide
  refine ⟨sk_u (sk_uA (sk_uA M (o + 1) (x_fr (sk_tw o) M0 nS (M (o + 1)) warm day)) 47 B) o 3 (day + 1), ?_, fun q q1 q2 q3 => ?_, fun k hk => ?_, ?_, ?_⟩
  · rw [f_X4_passDay, a3, a4, hB, q_b1, q_let, sk_uA_ne _ _ h47.1, sk_uA_ne _ _ (by omega : o ≠ o + 1), a4]
  · rw [q_uo q2, sk_uA_ne _ _ q1, sk_uA_ne _ _ q3]; exact a1 q q1 q2 q3
  · rw [q_uo (by omega), sk_uA_ne _ _ h47.2, sk_uA_self]
    unfold x_fr
    rw [a2 k hk]
  · rw [q_un (by omega), sk_uA_ne _ _ h47.1, sk_uA_ne _ _ (by omega : o ≠ o + 1)]; exact a3
  · rw [q_ue]
/-- a row behind n days -/
def x_rn (w : Nat) (M : sk_M) (nS : Nat) (warm : Int32) : Nat → (Nat → Int32) → Int32 → (Nat → Int32)
  | 0, r, _ => r
  | n + 1, r, day => x_rn w M nS warm n (x_fr w M nS r warm day) (day + 1)
theorem x_tdaysL {o nS nC nT : Nat} {M0 : sk_M} {warm : Int32} (ho : sk_isT o) (hh : x_ch (sk_tw o) nS nC nT M0) {n : Nat} (hn : n < 1000) :
    ∀ (m i fu : Nat) (M : sk_M) (r : Nat → Int32) (day : Int32), i + m = n → m < fu → x_th o M0 r warm day M → ∃ M', f_X4_passDays_L2 o (nI n) fu (nI i) M = some M' ∧ ∃ day', x_th o M0 (x_rn (sk_tw o) M0 nS warm m r day) warm day' M' := by
  intro m
  induction m with
  | zero =>
    intro i fu M r day hi hfu h
    obtain ⟨g, rfl⟩ : ∃ g, fu = g + 1 := ⟨fu - 1, by omega⟩
    refine ⟨M, ?_, day, h⟩
    rw [f_X4_passDays_L2, if_pos (nI_le (by omega) (by omega))]
  | succ m ih =>
    intro i fu M r day hi hfu h
    obtain ⟨g, rfl⟩ : ∃ g, fu = g + 1 := ⟨fu - 1, by omega⟩
    obtain ⟨M1, g1, g2⟩ := x_tday ho hh h
    obtain ⟨M', g3, g4⟩ := ih (i + 1) g M1 _ _ (by omega) (by omega) g2
    refine ⟨M', ?_, g4⟩
    rw [f_X4_passDays_L2, if_neg (nI_ge (by omega) (by omega)), g1, q_b1, nI_1]
    exact g3
theorem x_tdays {o nS nC nT n : Nat} {M0 M : sk_M} {r : Nat → Int32} {warm day : Int32} (ho : sk_isT o) (hh : x_ch (sk_tw o) nS nC nT M0) (hn : n < 1000) (h : x_th o M0 r warm day M) :
    ∃ M', f_X4_passDays o (nI n) M = some M' ∧ ∃ day', x_th o M0 (x_rn (sk_tw o) M0 nS warm n r day) warm day' M' := by
  obtain ⟨M', g1, g2⟩ := x_tdaysL ho hh hn n 0 sk_FU M r day (by omega) (by unfold sk_FU; omega) h
  have g1' : f_X4_passDays_L2 o (nI n) sk_FU 0 M = some M' := g1
  exact ⟨M', by rw [f_X4_passDays, g1', q_b1], g2⟩
