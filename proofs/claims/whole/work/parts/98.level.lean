/-! The levels. -/
theorem u_lp0 (self : Nat → Int32 → sk_M → Option (Int32 × sk_M)) (key : Int32) : u_lp (0 + 3) (self 1 key) (f_X7_either_L10 self key) := by
  constructor
  · intro fu N h
    have h1 : f_X7_isSign 124 N = 0 := h 124 (by decide)
    rw [f_X7_either_L10, if_pos h1]
  · intro fu N c hc h h20
    have e : c = 124 := by
      have hc : [124].elem c = true := hc
      simp at hc; exact hc
    subst e
    have h1 : f_X7_isSign 124 N = 1 := h 124 (by decide)
    rw [f_X7_either_L10, h1, if_neg (by decide)]
    rfl
theorem u_lp1 (self : Nat → Int32 → sk_M → Option (Int32 × sk_M)) (key : Int32) : u_lp (1 + 3) (self 2 key) (f_X7_both_L10 self key) := by
  constructor
  · intro fu N h
    have h1 : f_X7_isSign 38 N = 0 := h 38 (by decide)
    rw [f_X7_both_L10, if_pos h1]
  · intro fu N c hc h h20
    have e : c = 38 := by
      have hc : [38].elem c = true := hc
      simp at hc; exact hc
    subst e
    have h1 : f_X7_isSign 38 N = 1 := h 38 (by decide)
    rw [f_X7_both_L10, h1, if_neg (by decide)]
    rfl
theorem u_lp3 (self : Nat → Int32 → sk_M → Option (Int32 × sk_M)) (key : Int32) : u_lp (3 + 3) (self 4 key) (f_X7_sum_L10 self key) := by
  constructor
  · intro fu N h
    have h1 : f_X7_isSign 43 N = 0 := h 43 (by decide)
    have h2 : f_X7_isSign 45 N = 0 := h 45 (by decide)
    rw [f_X7_sum_L10, if_pos h1, if_pos h2]
  · intro fu N c hc h h20
    have e : c = 43 ∨ c = 45 := by
      have hc : [43, 45].elem c = true := hc
      simp at hc; exact hc
    rcases e with rfl | rfl
    · have h1 : f_X7_isSign 43 N = 1 := h 43 (by decide)
      rw [f_X7_sum_L10, h1, if_neg (by decide), q_let, h20]
    · have h1 : f_X7_isSign 43 N = 0 := h 43 (by decide)
      have h2 : f_X7_isSign 45 N = 1 := h 45 (by decide)
      rw [f_X7_sum_L10, h1, if_pos rfl, h2, if_neg (by decide), q_let, h20]
theorem u_lp4 (self : Nat → Int32 → sk_M → Option (Int32 × sk_M)) (key : Int32) : u_lp (4 + 3) (self 5 key) (f_X7_term_L10 self key) := by
  constructor
  · intro fu N h
    have h1 : f_X7_isSign 42 N = 0 := h 42 (by decide)
    have h2 : f_X7_isSign 47 N = 0 := h 47 (by decide)
    rw [f_X7_term_L10, if_pos h1, if_pos h2]
  · intro fu N c hc h h20
    have e : c = 42 ∨ c = 47 := by
      have hc : [42, 47].elem c = true := hc
      simp at hc; exact hc
    rcases e with rfl | rfl
    · have h1 : f_X7_isSign 42 N = 1 := h 42 (by decide)
      rw [f_X7_term_L10, h1, if_neg (by decide), q_let, h20]
    · have h1 : f_X7_isSign 42 N = 0 := h 42 (by decide)
      have h2 : f_X7_isSign 47 N = 1 := h 47 (by decide)
      rw [f_X7_term_L10, h1, if_pos rfl, h2, if_neg (by decide), q_let, h20]
theorem u_S_le {t : Nat → Nat} {n key A s lo d u D : Nat} {M0 N0 M N : sk_M} (h : u_S t n key A (s + 1) lo d u M0 N0 D M N) : lo ≤ 96 := by
  obtain ⟨q, laid, said, h | h⟩ := h
  · have := h.1.hl; have := h.1.hlo; have := h.1.hq; have := h.1.tc.1; omega
  · have := h.1.hl; have := h.1.hlo; have := h.1.hq; have := h.1.tc.1; omega
theorem u_fu : ∃ g, sk_FU = g + 1 := ⟨sk_FU - 1, by unfold sk_FU; omega⟩
theorem u_lev {t : Nat → Nat} {n key A d u l : Nat} {M0 N0 : sk_M} {self : Nat → Int32 → Int32 → Int32 → sk_M → Option sk_M} {FM GM : sk_M → Option (Int32 × sk_M)} {FL : Nat → sk_M → Option ((Int32 × sk_M) ⊕ sk_M)} (hl5 : l < 5) (hl2 : l ≠ 2) (hs : u_sim t n key A d u M0 N0 (self 0 (nI l + 1) (nI d) (nI u)) FM) (hlp : u_lp (l + 3) FM FL) (hG : ∀ N, GM N = sk_b2 (FM N) (fun x N2 => if x = 0 then some (0, N2) else sk_s1 (FL sk_FU N2) (fun N12 => some (1, N12)))) : u_sim t n key A d u M0 N0 (f_X0_readLevel self (nI l) (nI d) (nI u)) GM := by
  have hlt : nI l < (5 : Int32) := nI_lt (b := 5) hl5 (by omega)
  have hne : ¬ nI l = (2 : Int32) := fun z => hl2 (q_inj (b := 2) (by omega) (by omega) z)
  refine ⟨?_, ?_, ?_⟩
  · intro s lo D q laid said M N h
    obtain ⟨M1, r, N1, k1, k2, k3⟩ := hs.1 s lo D q laid said M N h
    have hn := h.1.tc.1
    rcases k3 with ⟨hr, hS⟩ | ⟨hr, hF⟩
    · have hle := u_S_le hS
      obtain ⟨M', N', z1, z2⟩ := u_loop (e := 96) (by omega) hl5 hs hlp (97 - (lo + 1)) 0 sk_FU sk_FU (lo + 1) M1 N1 (by omega) (by omega) (by unfold sk_FU; omega) (by unfold sk_FU; omega) hS
      have z1' : f_X0_readLevel_L37 self (nI l) (nI d) (nI u) 96 sk_FU 0 M1 = some M' := z1
      rcases z2 with ⟨w1, w2⟩ | ⟨w1, w2⟩
      · refine ⟨M', 1, N', ?_, ?_, Or.inl ⟨rfl, w2⟩⟩
        · rw [f_X0_readLevel, if_pos hlt, k1, q_b1, q_let, if_neg hne, z1', q_b1]
        · rw [hG, k2, q_b2, if_neg (by rw [hr]; decide), w1, q_s1r]
      · refine ⟨M', 0, N', ?_, ?_, Or.inr ⟨rfl, w2⟩⟩
        · rw [f_X0_readLevel, if_pos hlt, k1, q_b1, q_let, if_neg hne, z1', q_b1]
        · rw [hG, k2, q_b2, if_neg (by rw [hr]; decide), w1, q_s1l]
    · obtain ⟨g, hg⟩ := u_fu
      refine ⟨M1, 0, N1, ?_, ?_, Or.inr ⟨rfl, hF⟩⟩
      · rw [f_X0_readLevel, if_pos hlt, k1, q_b1, q_let, hg, u_deadL (u_F_5 hn hF), q_b1]
      · rw [hG, k2, q_b2, if_pos hr]
  · intro M h
    obtain ⟨g, hg⟩ := u_fu
    rw [f_X0_readLevel, if_pos hlt, hs.2.1 M h, q_b1, q_let, hg, u_deadL h, q_b1]
  · intro N h
    rw [hG, hs.2.2 N h, q_b2, if_pos rfl]
theorem u_lev2 {t : Nat → Nat} {n key A d u : Nat} {M0 N0 : sk_M} {self : Nat → Int32 → Int32 → Int32 → sk_M → Option sk_M} {selfM : Nat → Int32 → sk_M → Option (Int32 × sk_M)} {kk : Int32} (hs : u_sim t n key A d u M0 N0 (self 0 (nI 2 + 1) (nI d) (nI u)) (selfM 3 kk)) : u_sim t n key A d u M0 N0 (f_X0_readLevel self (nI 2) (nI d) (nI u)) (f_X7_test selfM kk) := by
  have hlt : nI 2 < (5 : Int32) := by decide
  have hne : nI 2 = (2 : Int32) := rfl
  obtain ⟨g, hg⟩ := u_fu
  obtain ⟨g2, hg2⟩ : ∃ g2, g = g2 + 1 := ⟨g - 1, by unfold sk_FU at hg; omega⟩
  refine ⟨?_, ?_, ?_⟩
  · intro s lo D q0 laid0 said0 M N h
    obtain ⟨M1, r, N1, k1, k2, k3⟩ := hs.1 s lo D q0 laid0 said0 M N h
    have hn := h.1.tc.1
    rcases k3 with ⟨hr, hS⟩ | ⟨hr, hF⟩
    rotate_left
    · refine ⟨M1, 0, N1, ?_, ?_, Or.inr ⟨rfl, hF⟩⟩
      · rw [f_X0_readLevel, if_pos hlt, k1, q_b1, q_let, hg, u_deadL (u_F_5 hn hF), q_b1]
      · rw [f_X7_test, k2, q_b2, if_pos hr]
    have hr0 : ¬ r = 0 := by rw [hr]; decide
    obtain ⟨q, laid, said, z | z⟩ := id hS
    rotate_left
    · obtain ⟨z1, z2, z3⟩ := u_G_5 z
      refine ⟨M1, 1, N1, ?_, ?_, Or.inl ⟨rfl, hS⟩⟩
      · rw [f_X0_readLevel, if_pos hlt, k1, q_b1, q_let, hg, u_deadL z1, q_b1]
      · rw [f_X7_test, k2, q_b2, if_neg hr0, u_sg4 z2, if_pos rfl, u_sg4 z2, if_pos rfl, u_sg4 z2, if_pos rfl, q_s0l]
    have hsg : f_X0_isSignOf 5 M1 = some (if q < n ∧ (u_str 5).elem (t q) = true then 1 else 0) := u_sgC (o := 2) (by omega) z.1.tc z.1.hq z.2.m3 z.2.m5
    have hm : ∀ c, c = 60 ∨ c = 61 ∨ c = 62 → f_X7_isSign (nI c) N1 = if q < n ∧ t q = c then 1 else 0 := fun c hc => u_sgM z.1 (by omega) (by rcases hc with rfl | rfl | rfl <;> decide)
    have hso : f_X0_signsOf (nI 2) = 5 := rfl
    by_cases y : q < n ∧ (u_str 5).elem (t q) = true
    · obtain ⟨hq, hc⟩ := y
      obtain ⟨y1, y2⟩ := z.1.tc.2.2 q hq
      obtain ⟨M2, M3, M4, N2, r2, N3, a1, a2, a3, a4, a5, a6⟩ := u_op (o := 2) hs (by omega) z hq hc
      have hw := (u_sgW 2 (by omega) (t q) y2 hc).1
      have h20 : N1 88 20 = nI (t q) := z.1.nS hq (by rw [hw]; decide)
      have hcl : f_X0_readLevel self (nI 2) (nI d) (nI u) M = some M4 := by
        rw [f_X0_readLevel, if_pos hlt, k1, q_b1, q_let, if_pos hne, hg, f_X0_readLevel_L37, if_neg (by decide), hso, hsg, if_pos ⟨hq, hc⟩, q_b1, if_neg (by decide), z.2.m3, q_chkI (by omega) (by omega), q_let, q_clamp (by omega), y1, a1, q_b1, a2, q_b1, a3, q_b1, hg2, f_X0_readLevel_L37, if_pos (by decide), q_b1]
      have hsel : (if f_X7_isSign 60 N1 = 0 then (if f_X7_isSign 61 N1 = 0 then (if f_X7_isSign 62 N1 = 0 then (some (Sum.inl ((1 : Int32), N1))) else (some (Sum.inr ()))) else (some (Sum.inr ()))) else (some (Sum.inr ()))) = (some (Sum.inr ()) : Option ((Int32 × sk_M) ⊕ Unit)) := by
        have e : t q = 60 ∨ t q = 61 ∨ t q = 62 := by
          have hc : [60, 61, 62].elem (t q) = true := hc
          simp at hc; exact hc
        have m60 : f_X7_isSign 60 N1 = if q < n ∧ t q = 60 then 1 else 0 := hm 60 (Or.inl rfl)
        have m61 : f_X7_isSign 61 N1 = if q < n ∧ t q = 61 then 1 else 0 := hm 61 (Or.inr (Or.inl rfl))
        have m62 : f_X7_isSign 62 N1 = if q < n ∧ t q = 62 then 1 else 0 := hm 62 (Or.inr (Or.inr rfl))
        rcases e with e | e | e
        · have m : f_X7_isSign 60 N1 = 1 := by rw [m60, if_pos ⟨hq, e⟩]
          rw [m, if_neg (by decide)]
        · have m : f_X7_isSign 60 N1 = 0 := by rw [m60, if_neg (by omega)]
          have m' : f_X7_isSign 61 N1 = 1 := by rw [m61, if_pos ⟨hq, e⟩]
          rw [m, if_pos rfl, m', if_neg (by decide)]
        · have m : f_X7_isSign 60 N1 = 0 := by rw [m60, if_neg (by omega)]
          have m' : f_X7_isSign 61 N1 = 0 := by rw [m61, if_neg (by omega)]
          have m'' : f_X7_isSign 62 N1 = 1 := by rw [m62, if_pos ⟨hq, e⟩]
          rw [m, if_pos rfl, m', if_pos rfl, m'', if_neg (by decide)]
      rcases a6 with ⟨hr2, hF⟩ | ⟨hr2, N4, a7, a8⟩
      · refine ⟨M4, 0, N3, hcl, ?_, Or.inr ⟨rfl, hF⟩⟩
        rw [f_X7_test, k2, q_b2, if_neg hr0, hsel, q_s0r, q_let, a4, q_b1, a5, q_b2, if_pos hr2]
      · refine ⟨M4, 1, N4, hcl, ?_, Or.inl ⟨rfl, u_S_lo (by omega) a8⟩⟩
        rw [f_X7_test, k2, q_b2, if_neg hr0, hsel, q_s0r, q_let, a4, q_b1, a5, q_b2, if_neg (by rw [hr2]; decide), h20, a7, q_b1]
    · have hno : ∀ c, c = 60 ∨ c = 61 ∨ c = 62 → f_X7_isSign (nI c) N1 = 0 := fun c hc => by
        rw [hm c hc, if_neg]
        intro w
        exact y ⟨w.1, by rw [w.2]; rcases hc with rfl | rfl | rfl <;> decide⟩
      have m60 : f_X7_isSign 60 N1 = 0 := hno 60 (Or.inl rfl)
      have m61 : f_X7_isSign 61 N1 = 0 := hno 61 (Or.inr (Or.inl rfl))
      have m62 : f_X7_isSign 62 N1 = 0 := hno 62 (Or.inr (Or.inr rfl))
      refine ⟨M1, 1, N1, ?_, ?_, Or.inl ⟨rfl, hS⟩⟩
      · rw [f_X0_readLevel, if_pos hlt, k1, q_b1, q_let, if_pos hne, hg, f_X0_readLevel_L37, if_neg (by decide), hso, hsg, if_neg y, q_b1, if_pos rfl, q_b1]
      · rw [f_X7_test, k2, q_b2, if_neg hr0, m60, if_pos rfl, m61, if_pos rfl, m62, if_pos rfl, q_s0l]
  · intro M h
    rw [f_X0_readLevel, if_pos hlt, hs.2.1 M h, q_b1, q_let, hg, u_deadL h, q_b1]
  · intro N h
    rw [f_X7_test, hs.2.2 N h, q_b2, if_pos rfl]
