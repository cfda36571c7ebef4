/-! copy, lay. -/
theorem x_places {o n : Nat} {M : sk_M} {a b : Int32} (hn : n ≤ 24) (h : M o 2 = nI n) : (f_X1_hasPlaces o a b M = 0 ∧ (a.toInt < 0 ∨ b.toInt < 0 ∨ (n : Int) < a.toInt + b.toInt)) ∨ (f_X1_hasPlaces o a b M = 1 ∧ ∃ p q : Nat, p + q ≤ n ∧ a = nI p ∧ b = nI q) := by
  have e0 : (0 : Int32).toInt = 0 := rfl
  unfold f_X1_hasPlaces
  by_cases h1 : a < 0
  · rw [if_pos h1]; rw [q_ltI, e0] at h1; exact Or.inl ⟨rfl, by omega⟩
  rw [if_neg h1]
  by_cases h2 : b < 0
  · rw [if_pos h2]; rw [q_ltI, e0] at h2; exact Or.inl ⟨rfl, by omega⟩
  rw [if_neg h2, h]
  rw [q_ltI, e0] at h1 h2
  obtain ⟨p, p1, p2, rfl⟩ := q_of (x := a) (by omega)
  obtain ⟨q, r1, r2, rfl⟩ := q_of (x := b) (by omega)
  rw [q_toI p2, q_toI r2]
  by_cases h3 : nI n < nI p
  · rw [if_pos h3]; rw [q_lt (by omega) p2] at h3; exact Or.inl ⟨rfl, by omega⟩
  rw [if_neg h3]
  rw [q_lt (by omega) p2] at h3
  rw [pk_sub (by omega)]
  by_cases h4 : nI (n - p) < nI q
  · rw [if_pos h4]; rw [q_lt (by omega) r2] at h4; exact Or.inl ⟨rfl, by omega⟩
  · rw [if_neg h4]; rw [q_lt (by omega) r2] at h4; exact Or.inr ⟨rfl, p, q, by omega, rfl, rfl⟩
theorem x_lcmp {a b : Int32} {n : Nat} (hn : n ≤ 24) : (0 < lg_cmp (a.toInt64 + b.toInt64) ((nI n).toInt64) ↔ (n : Int) < a.toInt + b.toInt) ∧ (lg_cmp (a.toInt64 + b.toInt64) ((nI n).toInt64) ≤ 0 ↔ ¬ (n : Int) < a.toInt + b.toInt) := by
  have h1 := q_lo a
  have h2 := q_hi a
  have h3 := q_lo b
  have h4 := q_hi b
  have es : (a.toInt64 + b.toInt64).toInt = a.toInt + b.toInt := by
    rw [Int64.toInt_add, Int32.toInt_toInt64, Int32.toInt_toInt64]
    exact Int.bmod_eq_of_le (by omega) (by omega)
  have en : ((nI n).toInt64).toInt = n := by rw [Int32.toInt_toInt64, q_toI (by omega)]
  unfold lg_cmp
  by_cases q : a.toInt64 + b.toInt64 > (nI n).toInt64
  · have q' : (n : Int) < a.toInt + b.toInt := by
      have : (nI n).toInt64 < a.toInt64 + b.toInt64 := q
      rw [Int64.lt_iff_toInt_lt, es, en] at this
      exact this
    rw [if_pos q]
    exact ⟨⟨fun _ => q', fun _ => by decide⟩, ⟨fun z => absurd z (by decide), fun z => absurd q' z⟩⟩
  · have q' : ¬ (n : Int) < a.toInt + b.toInt := by
      intro z
      apply q
      show (nI n).toInt64 < a.toInt64 + b.toInt64
      rw [Int64.lt_iff_toInt_lt, es, en]
      exact z
    rw [if_neg q]
    by_cases q2 : a.toInt64 + b.toInt64 = (nI n).toInt64
    · rw [if_pos q2]
      exact ⟨⟨fun z => absurd z (by decide), fun z => absurd z q'⟩, ⟨fun _ => q', fun _ => by decide⟩⟩
    · rw [if_neg q2]
      exact ⟨⟨fun z => absurd z (by decide), fun z => absurd z q'⟩, ⟨fun _ => q', fun _ => by decide⟩⟩
theorem x_cpL1 {i p q : Nat} (a3 a4 : Int32) (hi : i < 4) (hp : p + q ≤ 24) (M : sk_M) : ∀ (m k fu : Nat), k + m = q → m < fu → f_X7_copy_L113 (nI i) (nI p) a3 a4 (nI q) fu (nI k) (sk_uA M 106 (x_rg (fun j => M 94 (24 * i + p + j)) (M 106) 0 k)) = some (sk_uA M 106 (x_rg (fun j => M 94 (24 * i + p + j)) (M 106) 0 q)) := by
  intro m
  induction m with
  | zero =>
    intro k fu hk hfu
    obtain ⟨g, rfl⟩ : ∃ g, fu = g + 1 := ⟨fu - 1, by omega⟩
    have e : k = q := by omega
    subst e
    rw [f_X7_copy_L113, if_pos (nI_le (Nat.le_refl _) (by omega))]
  | succ m ih =>
    intro k fu hk hfu
    obtain ⟨g, rfl⟩ : ∃ g, fu = g + 1 := ⟨fu - 1, by omega⟩
    have hs := x_rg_s (fun j => M 94 (24 * i + p + j)) (M 106) 0 k
    rw [Nat.zero_add] at hs
    rw [f_X7_copy_L113, if_neg (nI_ge (by omega) (by omega)), x_24, nI_add, q_chkI (by omega) (by omega), q_chkI (by omega) (by omega), q_let, q_clamp (by omega), q_clamp (by omega), sk_uA_ne _ _ (by omega : (94 : Nat) ≠ 106), x_uAu, hs, nI_1]
    exact ih (k + 1) g (by omega) (by omega)
theorem x_cpL2 {i p q : Nat} (hi : i < 4) (hp : p + q ≤ 24) (M : sk_M) : ∀ (m k fu : Nat), k + m = q → m < fu → f_X7_copy_L150 (nI i) (nI p) (nI q) fu (nI k) (sk_uA M 94 (x_rg (M 106) (M 94) (24 * i + p) k)) = some (sk_uA M 94 (x_rg (M 106) (M 94) (24 * i + p) q)) := by
  intro m
  induction m with
  | zero =>
    intro k fu hk hfu
    obtain ⟨g, rfl⟩ : ∃ g, fu = g + 1 := ⟨fu - 1, by omega⟩
    have e : k = q := by omega
    subst e
    rw [f_X7_copy_L150, if_pos (nI_le (Nat.le_refl _) (by omega))]
  | succ m ih =>
    intro k fu hk hfu
    obtain ⟨g, rfl⟩ : ∃ g, fu = g + 1 := ⟨fu - 1, by omega⟩
    rw [f_X7_copy_L150, if_neg (nI_ge (by omega) (by omega)), q_chkI (by omega) (by omega), x_24, nI_add, q_chkI (by omega) (by omega), q_let, q_clamp (by omega), q_clamp (by omega), sk_uA_ne _ _ (by omega : (106 : Nat) ≠ 94), x_uAu, x_rg_s, nI_1]
    exact ih (k + 1) g (by omega) (by omega)
theorem x_cin {p q n : Nat} (h : p + q ≤ n) (hn : n < 1000) : sk_cin (nI p) (nI q) n = true := by
  simp only [sk_cin, Bool.and_eq_true, Bool.not_eq_true', decide_eq_false_iff_not, decide_eq_true_eq]
  exact ⟨⟨nI_pos (by omega), nI_pos (by omega)⟩, by rw [q_clamp (by omega), q_clamp (by omega)]; exact h⟩
theorem t_copy (a1 a2 a3 a4 a5 : Int32) : r_st (f_X6_copy a1 a2 a3 a4 a5) (f_X7_copy a1 a2 a3 a4 a5) := by
  intro M hR
  obtain ⟨nS, nC, nW, nT, d, hP⟩ := id hR
  by_cases g1 : f_X6_isSheet a1 = 0
  · exact ⟨_, M, M, by rw [f_X6_copy, if_pos g1], by rw [f_X7_copy, g_sheet, if_pos g1], hR⟩
  by_cases g2 : f_X6_isSheet a3 = 0
  · exact ⟨_, M, M, by rw [f_X6_copy, if_neg g1, if_pos g2], by rw [f_X7_copy, g_sheet, if_neg g1, g_sheet, if_pos g2], hR⟩
  obtain ⟨i, hi, rfl⟩ := n_sheet g1
  obtain ⟨t, ht, rfl⟩ := n_sheet g2
  obtain ⟨s1, s2, s3, ⟨n, hn, s4⟩, s5⟩ := hP.2.2.2.2.1 i hi
  obtain ⟨u1, u2, u3, ⟨l, hl, u4⟩, u5⟩ := hP.2.2.2.2.1 t ht
  have hneg : ∀ x : Int32, (x = -1 ∨ x = 0 ∨ x = 1) → (x < 0 ↔ x = -1) ∧ (0 ≤ x ↔ ¬ x = -1) := by
    intro x hx
    rcases hx with rfl | rfl | rfl <;> decide
  have eo : ∀ z : Nat, (65 + 2 * z) + 1 = 66 + 2 * z := fun z => by omega
  by_cases g3 : M 92 i = -1
  · refine ⟨-1000000011, M, M, ?_, ?_, hR⟩
    · rw [f_X6_copy, if_neg g1, if_neg g2, q_chkI hi (by omega), q_chkI ht (by omega), q_clamp (by omega), q_clamp (by omega), s1, if_pos g3]
    · rw [f_X7_copy, g_sheet, if_neg g1, g_sheet, if_neg g2, q_chkI hi (by omega), q_clamp (by omega), if_pos ((hneg _ s3).1.mpr g3)]
  by_cases g4 : M 92 t = -1
  · refine ⟨-1000000011, M, M, ?_, ?_, hR⟩
    · rw [f_X6_copy, if_neg g1, if_neg g2, q_chkI hi (by omega), q_chkI ht (by omega), q_clamp (by omega), q_clamp (by omega), s1, if_neg g3, u1, if_pos g4]
    · rw [f_X7_copy, g_sheet, if_neg g1, g_sheet, if_neg g2, q_chkI hi (by omega), q_clamp (by omega), if_neg (fun z => g3 ((hneg _ s3).1.mp z)), q_chkI ht (by omega), q_clamp (by omega), if_neg (fun z => (hneg _ u3).2.mp z g4)]
  by_cases g5 : M 92 i = M 92 t
  · have cl : ∀ X, f_X6_copy (nI i) a2 (nI t) a4 a5 M = X ↔ (if f_X1_hasPlaces (65 + 2 * i) a2 a5 M = 0 then some ((-1000000013), M) else (if f_X1_hasPlaces (65 + 2 * t) a4 a5 M = 0 then some ((-1000000013), M) else (sk_chk (sk_cin a2 a5 24) (sk_chk (sk_cin a4 a5 24) (sk_let (sk_uA M (66 + 2 * t) (va_cpy (M (66 + 2 * i)) (M (66 + 2 * t)) a2.toNatClampNeg a4.toNatClampNeg a5.toNatClampNeg)) (fun M_9 => some (a5, M_9))))))) = X := fun X => by
      rw [f_X6_copy, if_neg g1, if_neg g2, q_chkI hi (by omega), q_chkI ht (by omega), q_clamp (by omega), q_clamp (by omega), s1, if_neg g3, u1, if_neg g4, if_pos g5, eo, eo]
    have mo : ∀ N : sk_M, N 92 = M 92 → N 93 = M 93 → ∀ X, f_X7_copy (nI i) a2 (nI t) a4 a5 N = X ↔ (if a2 < 0 then some ((-1000000013), N) else (if a4 < 0 then some ((-1000000013), N) else (if a5 < 0 then some ((-1000000013), N) else (if 0 < lg_cmp (a2.toInt64 + a5.toInt64) ((nI n).toInt64) then some ((-1000000013), N) else (if lg_cmp (a4.toInt64 + a5.toInt64) ((nI l).toInt64) ≤ 0 then sk_b1 (f_X7_copy_L113 (nI i) a2 (nI t) a4 a5 sk_FU 0 N) (fun M_12 => sk_b1 (f_X7_copy_L150 (nI t) a4 a5 sk_FU 0 M_12) (fun M_16 => some (a5, M_16))) else some ((-1000000013), N)))))) = X := fun N h92 h93 X => by
      rw [f_X7_copy, g_sheet, if_neg g1, g_sheet, if_neg g2, q_chkI hi (by omega), q_clamp (by omega), h92, if_neg (fun z => g3 ((hneg _ s3).1.mp z)), q_chkI ht (by omega), q_clamp (by omega), if_pos ((hneg _ u3).2.mpr g4), q_chkI hi (by omega), q_chkI ht (by omega), if_pos g5, q_chkI hi (by omega), q_chkI ht (by omega), h93, s4, u4]
    rcases x_places (o := 65 + 2 * i) (a := a2) (b := a5) hn (s2.trans s4) with ⟨z1, z2⟩ | ⟨z1, p, q, z2, rfl, rfl⟩
    · refine ⟨-1000000013, M, M, ?_, ?_, hR⟩
      · rw [cl, if_pos z1]
      · rw [mo M rfl rfl]
        by_cases y1 : a2 < 0
        · rw [if_pos y1]
        rw [if_neg y1]
        by_cases y2 : a4 < 0
        · rw [if_pos y2]
        rw [if_neg y2]
        by_cases y3 : a5 < 0
        · rw [if_pos y3]
        rw [if_neg y3, if_pos]
        rw [(x_lcmp hn).1]
        rw [q_ltI, show (0 : Int32).toInt = 0 from rfl] at y1 y3
        omega
    rcases x_places (o := 65 + 2 * t) (a := a4) (b := nI q) hl (u2.trans u4) with ⟨y1, y2⟩ | ⟨y1, p2, q2, y2, rfl, y4⟩
    · refine ⟨-1000000013, M, M, ?_, ?_, hR⟩
      · rw [cl, if_neg (by rw [z1]; decide), if_pos y1]
      · rw [mo M rfl rfl, if_neg (nI_pos (by omega))]
        by_cases x2 : a4 < 0
        · rw [if_pos x2]
        rw [if_neg x2, if_neg (nI_pos (by omega))]
        by_cases x3 : 0 < lg_cmp ((nI p).toInt64 + (nI q).toInt64) ((nI n).toInt64)
        · rw [if_pos x3]
        rw [if_neg x3, if_neg]
        rw [(x_lcmp hl).2]
        rw [q_ltI, show (0 : Int32).toInt = 0 from rfl] at x2
        have := q_toI (n := q) (by omega)
        omega
    have eq2 : q2 = q := (q_inj (by omega) (by omega) y4).symm
    subst eq2
    have h1 := x_cpL1 (i := i) (p := p) (q := q2) (nI t) (nI p2) hi (by omega)
    generalize hM1 : sk_uA M (66 + 2 * t) (va_cpy (M (66 + 2 * i)) (M (66 + 2 * t)) p p2 q2) = M1
    have ho : ∀ o, o ≠ 66 + 2 * t → M1 o = M o := fun o z => by rw [← hM1, sk_uA_ne _ _ z]
    have h1 := h1 M1 q2 0 sk_FU (by omega) (by unfold sk_FU; omega)
    rw [x_rg_0, x_uA_id] at h1
    generalize hM3 : sk_uA M1 106 (x_rg (fun j => M1 94 (24 * i + p + j)) (M1 106) 0 q2) = M3 at h1
    have h2 := x_cpL2 (i := t) (p := p2) (q := q2) ht (by omega) M3 q2 0 sk_FU (by omega) (by unfold sk_FU; omega)
    rw [x_rg_0, x_uA_id] at h2
    have h1' : f_X7_copy_L113 (nI i) (nI p) (nI t) (nI p2) (nI q2) sk_FU 0 M1 = some M3 := h1
    have h2' : f_X7_copy_L150 (nI t) (nI p2) (nI q2) sk_FU 0 M3 = _ := h2
    have h3o : ∀ o, o ≠ 106 → M3 o = M1 o := fun o z => by rw [← hM3, sk_uA_ne _ _ z]
    have h3i : ∀ j, j < q2 → M3 106 j = M 94 (24 * i + p + j) := fun j hj => by rw [← hM3, sk_uA_self, x_rg_in (by omega), Nat.sub_zero, ho 94 (by omega)]
    have hx : ∀ o, o ≠ 66 + 2 * t → o ≠ 106 → o ≠ 94 → sk_uA M3 94 (x_rg (M3 106) (M3 94) (24 * t + p2) q2) o = M o := fun o x1 x2 x3 => by rw [sk_uA_ne _ _ x3, h3o o x2, ho o x1]
    refine ⟨nI q2, M1, sk_uA M3 94 (x_rg (M3 106) (M3 94) (24 * t + p2) q2), ?_, ?_, nS, nC, nW, nT, d, p_sh hP (fun o z => hx o (by omega) (by omega) (by omega)) ?_ (r_sl_c (fun o z => hx o (by omega) (by omega) (by omega)) hP.2.2.2.2.2)⟩
    · rw [cl, if_neg (by rw [z1]; decide), if_neg (by rw [y1]; decide), q_chk (x_cin (by omega) (by omega)), q_chk (x_cin (by omega) (by omega)), q_let, q_clamp (by omega), q_clamp (by omega), q_clamp (by omega), hM1]
    · rw [mo M1 (ho 92 (by omega)) (ho 93 (by omega)), if_neg (nI_pos (by omega)), if_neg (nI_pos (by omega)), if_neg (nI_pos (by omega)), if_neg, if_pos, h1', q_b1, h2', q_b1]
      · rw [(x_lcmp hl).2, q_toI (by omega), q_toI (by omega)]; omega
      · rw [(x_lcmp hn).1, q_toI (by omega), q_toI (by omega)]; omega
    · intro i' hi'
      obtain ⟨v1, v2, v3, v4, v5⟩ := hP.2.2.2.2.1 i' hi'
      rw [hx (65 + 2 * i') (by omega) (by omega) (by omega), hx 92 (by omega) (by omega) (by omega), hx 93 (by omega) (by omega) (by omega), sk_uA_self]
      refine ⟨v1, v2, v3, v4, fun k hk => ?_⟩
      rw [sk_uA_ne _ _ (by omega), h3o _ (by omega), h3o 94 (by omega), ho 94 (by omega)]
      by_cases e : i' = t
      · subst e
        rw [← hM1, sk_uA_self]
        by_cases z : p2 ≤ k ∧ k < p2 + q2
        · rw [pk_cpy_in z.1 z.2, x_rg_in (by omega), h3i _ (by omega), s5 _ (by omega)]
          congr 1
          omega
        · rw [pk_cpy_out (by omega), x_rg_out (by omega)]; exact v5 k hk
      · rw [ho _ (by omega), x_rg_out (by omega)]; exact v5 k hk
  · refine ⟨-1000000012, M, M, ?_, ?_, hR⟩
    · rw [f_X6_copy, if_neg g1, if_neg g2, q_chkI hi (by omega), q_chkI ht (by omega), q_clamp (by omega), q_clamp (by omega), s1, if_neg g3, u1, if_neg g4, if_neg g5]
    · rw [f_X7_copy, g_sheet, if_neg g1, g_sheet, if_neg g2, q_chkI hi (by omega), q_clamp (by omega), if_neg (fun z => g3 ((hneg _ s3).1.mp z)), q_chkI ht (by omega), q_clamp (by omega), if_pos ((hneg _ u3).2.mpr g4), q_chkI hi (by omega), q_chkI ht (by omega), if_neg g5]
