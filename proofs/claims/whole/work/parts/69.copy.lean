/-! Rows copied; sums. -/
def x_cp (f g : Nat → Int32) (n : Nat) : Nat → Int32 := fun i => if i < n then f i else g i
theorem x_cp_s (f g : Nat → Int32) (n : Nat) : upd (x_cp f g n) n (f n) = x_cp f g (n + 1) := by
  funext i
  rw [q_upd]
  unfold x_cp
  by_cases h : i = n
  · subst h; rw [if_pos rfl, if_pos (by omega)]
  · rw [if_neg h]
    by_cases h2 : i < n
    · rw [if_pos h2, if_pos (by omega)]
    · rw [if_neg h2, if_neg (by omega)]
theorem x_cp_0 (f g : Nat → Int32) : x_cp f g 0 = g := by funext i; unfold x_cp; rw [if_neg (by omega)]
theorem x_cpv (f g : Nat → Int32) (n : Nat) : va_cpy f g 0 0 n = x_cp f g n := by
  funext i
  unfold x_cp
  by_cases h : i < n
  · rw [if_pos h, pk_cpy_in (by omega) (by omega)]; congr 1; omega
  · rw [if_neg h, pk_cpy_out (by omega)]
theorem x_asideL {a b : Nat} (hab : a ≠ b) (M : sk_M) : ∀ (m k fu : Nat), k + m = 2909 → m < fu → f_X7_setAside_L2 a b fu (nI k) (sk_uA M b (x_cp (M a) (M b) k)) = some (sk_uA M b (x_cp (M a) (M b) 2909)) := by
  intro m
  induction m with
  | zero =>
    intro k fu hk hfu
    obtain ⟨g, rfl⟩ : ∃ g, fu = g + 1 := ⟨fu - 1, by omega⟩
    have e : k = 2909 := by omega
    subst e
    rw [f_X7_setAside_L2, if_pos (show (2909 : Int32) ≤ nI 2909 from nI_le (a := 2909) (Nat.le_refl _) (by omega))]
  | succ m ih =>
    intro k fu hk hfu
    obtain ⟨g, rfl⟩ : ∃ g, fu = g + 1 := ⟨fu - 1, by omega⟩
    rw [f_X7_setAside_L2, if_neg (show ¬ (2909 : Int32) ≤ nI k from nI_ge (b := 2909) (by omega) (by omega)), q_chkI (by omega) (by omega), q_chkI (by omega) (by omega), q_let, q_clamp (by omega), sk_uA_ne _ _ hab, x_uAu, x_cp_s, nI_1]
    exact ih (k + 1) g (by omega) (by omega)
theorem x_aside {a b : Nat} (hab : a ≠ b) (M : sk_M) : f_X7_setAside a b M = some (sk_uA M b (x_cp (M a) (M b) 2909)) := by
  have h := x_asideL hab M 2909 0 sk_FU (by omega) (by unfold sk_FU; omega)
  rw [x_cp_0, x_uA_id] at h
  have h' : f_X7_setAside_L2 a b sk_FU 0 M = _ := h
  rw [f_X7_setAside, h', q_b1]
theorem x_byL (M : sk_M) : ∀ (m k fu : Nat), k + m = 109 → m < fu → f_X7_laysBy_L2 fu (nI k) (sk_uA M 100 (x_cp (M 89) (M 100) k)) = some (sk_uA M 100 (x_cp (M 89) (M 100) 109)) := by
  intro m
  induction m with
  | zero =>
    intro k fu hk hfu
    obtain ⟨g, rfl⟩ : ∃ g, fu = g + 1 := ⟨fu - 1, by omega⟩
    have e : k = 109 := by omega
    subst e
    rw [f_X7_laysBy_L2, if_pos (show (109 : Int32) ≤ nI 109 from nI_le (a := 109) (Nat.le_refl _) (by omega))]
  | succ m ih =>
    intro k fu hk hfu
    obtain ⟨g, rfl⟩ : ∃ g, fu = g + 1 := ⟨fu - 1, by omega⟩
    rw [f_X7_laysBy_L2, if_neg (show ¬ (109 : Int32) ≤ nI k from nI_ge (b := 109) (by omega) (by omega)), q_chkI (by omega) (by omega), q_chkI (by omega) (by omega), q_let, q_clamp (by omega), sk_uA_ne _ _ (by omega), x_uAu, x_cp_s, nI_1]
    exact ih (k + 1) g (by omega) (by omega)
theorem x_by (M : sk_M) : f_X7_laysBy M = some (sk_uA M 100 (x_cp (M 89) (M 100) 109)) := by
  have h := x_byL M 109 0 sk_FU (by omega) (by unfold sk_FU; omega)
  rw [x_cp_0, x_uA_id] at h
  have h' : f_X7_laysBy_L2 sk_FU 0 M = _ := h
  rw [f_X7_laysBy, h', q_b1]
theorem x_backL (M : sk_M) : ∀ (m k fu : Nat), k + m = 109 → m < fu → f_X7_laysBack_L2 fu (nI k) (sk_uA M 89 (x_cp (M 100) (M 89) k)) = some (sk_uA M 89 (x_cp (M 100) (M 89) 109)) := by
  intro m
  induction m with
  | zero =>
    intro k fu hk hfu
    obtain ⟨g, rfl⟩ : ∃ g, fu = g + 1 := ⟨fu - 1, by omega⟩
    have e : k = 109 := by omega
    subst e
    rw [f_X7_laysBack_L2, if_pos (show (109 : Int32) ≤ nI 109 from nI_le (a := 109) (Nat.le_refl _) (by omega))]
  | succ m ih =>
    intro k fu hk hfu
    obtain ⟨g, rfl⟩ : ∃ g, fu = g + 1 := ⟨fu - 1, by omega⟩
    rw [f_X7_laysBack_L2, if_neg (show ¬ (109 : Int32) ≤ nI k from nI_ge (b := 109) (by omega) (by omega)), q_chkI (by omega) (by omega), q_chkI (by omega) (by omega), q_let, q_clamp (by omega), sk_uA_ne _ _ (by omega), x_uAu, x_cp_s, nI_1]
    exact ih (k + 1) g (by omega) (by omega)
theorem x_lback (M : sk_M) : f_X7_laysBack M = some (sk_uA M 89 (x_cp (M 100) (M 89) 109)) := by
  have h := x_backL M 109 0 sk_FU (by omega) (by unfold sk_FU; omega)
  rw [x_cp_0, x_uA_id] at h
  have h' : f_X7_laysBack_L2 sk_FU 0 M = _ := h
  rw [f_X7_laysBack, h', q_b1]
-- a world becomes like another
def x_wl (j : Nat) : Nat := if j = 4 then 4 else if j = 5 then 12 else if j = 6 then 6 else if j = 8 then 3 else 9
def x_like (a b : Nat) (M M' : sk_M) : Prop := (∀ o, ¬ (a ≤ o ∧ o < a + 16) → M' o = M o) ∧ (∀ j, (1 ≤ j ∧ j ≤ 6) ∨ j = 8 ∨ (10 ≤ j ∧ j < 16) → ∀ k, k < x_wl j → M' (a + j) k = M (b + j) k) ∧ (∀ k, 10 ≤ k → k < 16 → M' a k = M b k)
theorem x_likeL {a b : Nat} (hd : a + 16 ≤ b ∨ b + 16 ≤ a) (M : sk_M) : ∀ (m c fu : Nat) (Mc : sk_M), c + m = 6 → m < fu → (∀ o, ¬ (a + 10 ≤ o ∧ o < a + 10 + c) → Mc o = M o) → (∀ c', c' < c → ∀ k, k < 9 → Mc (a + 10 + c') k = M (b + 10 + c') k) →
    ∃ M', f_X5_becomeLike_L105 a b fu (nI c) Mc = some M' ∧ (∀ o, ¬ (a + 10 ≤ o ∧ o < a + 16) → M' o = M o) ∧ (∀ c', c' < 6 → ∀ k, k < 9 → M' (a + 10 + c') k = M (b + 10 + c') k) := by
  intro m
  induction m with
  | zero =>
    intro c fu Mc hc hfu h1 h2
    obtain ⟨g, rfl⟩ : ∃ g, fu = g + 1 := ⟨fu - 1, by omega⟩
    have e : c = 6 := by omega
    subst e
    refine ⟨Mc, ?_, h1, h2⟩
    rw [f_X5_becomeLike_L105, if_pos (show (6 : Int32) ≤ nI 6 from nI_le (a := 6) (Nat.le_refl _) (by omega))]
  | succ m ih =>
    intro c fu Mc hc hfu h1 h2
    obtain ⟨g, rfl⟩ : ∃ g, fu = g + 1 := ⟨fu - 1, by omega⟩
    obtain ⟨M', g1, g2, g3⟩ := ih (c + 1) g (sk_uA Mc (a + 10 + c) (x_cp (Mc (b + 10 + c)) (Mc (a + 10 + c)) 9)) (by omega) (by omega) (by
      intro o ho
      rw [sk_uA_ne _ _ (by omega)]; exact h1 o (by omega)) (by
      intro c' hc' k hk
      by_cases e : c' = c
      · subst e
        rw [sk_uA_self, x_cp, if_pos hk, h1 _ (by omega)]
      · rw [sk_uA_ne _ _ (by omega)]; exact h2 c' (by omega) k hk)
    refine ⟨M', ?_, g2, g3⟩
    rw [f_X5_becomeLike_L105, if_neg (show ¬ (6 : Int32) ≤ nI c from nI_ge (b := 6) (by omega) (by omega)), q_chkI (by omega) (by omega), q_chkI (by omega) (by omega), q_let, q_clamp (by omega), nI_1, show (0 : Int32).toNatClampNeg = 0 from rfl, show (9 : Int32).toNatClampNeg = 9 from rfl, x_cpv]
    exact g1
theorem x_becLike {a b : Nat} (hd : a + 16 ≤ b ∨ b + 16 ≤ a) (M : sk_M) : ∃ M', f_X5_becomeLike a b M = some M' ∧ x_like a b M M' := by
  have n0 : (0 : Int32).toNatClampNeg = 0 := rfl
  have n9 : (9 : Int32).toNatClampNeg = 9 := rfl
  have n4 : (4 : Int32).toNatClampNeg = 4 := rfl
  have n12 : (12 : Int32).toNatClampNeg = 12 := rfl
  have n6 : (6 : Int32).toNatClampNeg = 6 := rfl
  have n3 : (3 : Int32).toNatClampNeg = 3 := rfl
  let M1 := sk_uA M (a + 1) (x_cp (M (b + 1)) (M (a + 1)) 9)
  let M2 := sk_uA M1 (a + 2) (x_cp (M1 (b + 2)) (M1 (a + 2)) 9)
  let M3 := sk_uA M2 (a + 3) (x_cp (M2 (b + 3)) (M2 (a + 3)) 9)
  let M4 := sk_uA M3 (a + 4) (x_cp (M3 (b + 4)) (M3 (a + 4)) 4)
  let M5 := sk_uA M4 (a + 5) (x_cp (M4 (b + 5)) (M4 (a + 5)) 12)
  let M6 := sk_uA M5 (a + 6) (x_cp (M5 (b + 6)) (M5 (a + 6)) 6)
  let M7 := sk_uA M6 (a + 8) (x_cp (M6 (b + 8)) (M6 (a + 8)) 3)
  obtain ⟨M8, g1, g2, g3⟩ := x_likeL hd M7 6 0 sk_FU M7 (by omega) (by unfold sk_FU; omega) (fun o _ => rfl) (fun c' hc' => by omega)
  have g1' : f_X5_becomeLike_L105 a b sk_FU 0 M7 = some M8 := g1
  have hb : ∀ o, b ≤ o → o < b + 16 → M7 o = M o := by
    intro o h1 h2
    show sk_uA M6 _ _ o = _
    rw [sk_uA_ne _ _ (by omega)]
    show sk_uA M5 _ _ o = _
    rw [sk_uA_ne _ _ (by omega)]
    show sk_uA M4 _ _ o = _
    rw [sk_uA_ne _ _ (by omega)]
    show sk_uA M3 _ _ o = _
    rw [sk_uA_ne _ _ (by omega)]
    show sk_uA M2 _ _ o = _
    rw [sk_uA_ne _ _ (by omega)]
    show sk_uA M1 _ _ o = _
    rw [sk_uA_ne _ _ (by omega)]
    show sk_uA M _ _ o = _
    rw [sk_uA_ne _ _ (by omega)]
  have hb8 : ∀ o, b ≤ o → o < b + 16 → M8 o = M o := fun o h1 h2 => (g2 o (by omega)).trans (hb o h1 h2)
  have ho7 : ∀ o, ¬ (a ≤ o ∧ o < a + 16) → M8 o = M o := by
    intro o h1
    rw [g2 o (by omega)]
    show sk_uA M6 _ _ o = _
    rw [sk_uA_ne _ _ (by omega)]
    show sk_uA M5 _ _ o = _
    rw [sk_uA_ne _ _ (by omega)]
    show sk_uA M4 _ _ o = _
    rw [sk_uA_ne _ _ (by omega)]
    show sk_uA M3 _ _ o = _
    rw [sk_uA_ne _ _ (by omega)]
    show sk_uA M2 _ _ o = _
    rw [sk_uA_ne _ _ (by omega)]
    show sk_uA M1 _ _ o = _
    rw [sk_uA_ne _ _ (by omega)]
    show sk_uA M _ _ o = _
    rw [sk_uA_ne _ _ (by omega)]
  refine ⟨sk_u (sk_u (sk_u (sk_u (sk_u (sk_u M8 a 10 (M b 10)) a 11 (M b 11)) a 12 (M b 12)) a 13 (M b 13)) a 14 (M b 14)) a 15 (M b 15), ?_, ?_, ?_, ?_⟩
  · rw [f_X5_becomeLike]
    simp only [q_let, n0, n9, n4, n12, n6, n3, x_cpv]
    show sk_b1 (f_X5_becomeLike_L105 a b sk_FU 0 M7) _ = _
    have hbb := hb8 b (by omega) (by omega)
    rw [g1', q_b1]
    simp only [q_uo (show b ≠ a by omega), hbb]
  · intro o h1
    rw [q_uo (by omega), q_uo (by omega), q_uo (by omega), q_uo (by omega), q_uo (by omega), q_uo (by omega)]
    exact ho7 o h1
  · intro j hj k hk
    rw [q_uo (by omega), q_uo (by omega), q_uo (by omega), q_uo (by omega), q_uo (by omega), q_uo (by omega)]
    by_cases h10 : 10 ≤ j
    · have := g3 (j - 10) (by omega) k (by
        unfold x_wl at hk
        rw [if_neg (by omega), if_neg (by omega), if_neg (by omega), if_neg (by omega)] at hk
        exact hk)
      rw [show a + 10 + (j - 10) = a + j by omega, show b + 10 + (j - 10) = b + j by omega] at this
      rw [this, hb _ (by omega) (by omega)]
    · rw [g2 _ (by omega)]
      have hbj : ∀ (N : sk_M), N (b + j) = M (b + j) → N (b + j) k = M (b + j) k := fun N e => by rw [e]
      have hj2 : j = 1 ∨ j = 2 ∨ j = 3 ∨ j = 4 ∨ j = 5 ∨ j = 6 ∨ j = 8 := by omega
      rcases hj2 with rfl | rfl | rfl | rfl | rfl | rfl | rfl
      all_goals simp only [x_wl] at hk
      all_goals simp (disch := omega) only [M7, M6, M5, M4, M3, M2, M1, sk_uA_self, sk_uA_ne]
      all_goals exact if_pos (by simpa using hk)
  · intro k h1 h2
    have hk : k = 10 ∨ k = 11 ∨ k = 12 ∨ k = 13 ∨ k = 14 ∨ k = 15 := by omega
    rcases hk with rfl | rfl | rfl | rfl | rfl | rfl
    all_goals simp (disch := omega) only [q_ue, q_un]
-- sums
def x_su (r : Nat → Int32) : Nat → Nat → Int32 → Int32
  | _, 0, s => s
  | k, m + 1, s => x_su r (k + 1) m (s + r k)
def x_sum (r : Nat → Int32) (n : Nat) : Int32 := x_su r 0 n 0
theorem x_su_c {r r' : Nat → Int32} {n : Nat} (h : ∀ j, j < n → r' j = r j) : ∀ (m k : Nat) (s : Int32), k + m = n → x_su r' k m s = x_su r k m s := by
  intro m
  induction m with
  | zero => intro k s _; rfl
  | succ m ih =>
    intro k s hk
    show x_su r' (k + 1) m (s + r' k) = x_su r (k + 1) m (s + r k)
    rw [h k (by omega)]
    exact ih (k + 1) _ (by omega)
theorem x_sum_c {r r' : Nat → Int32} {n : Nat} (h : ∀ j, j < n → r' j = r j) : x_sum r' n = x_sum r n := x_su_c h n 0 0 (by omega)
theorem x_sumOfL {w o nS : Nat} {M : sk_M} (h9 : nS ≤ 9) (hn : M w 10 = nI nS) : ∀ (m k fu : Nat) (s : Int32), k + m = nS → m < fu → f_X5_sumOf_L4 w o M fu s (nI k) = some (x_su (M o) k m s) := by
  intro m
  induction m with
  | zero =>
    intro k fu s hk hfu
    obtain ⟨g, rfl⟩ : ∃ g, fu = g + 1 := ⟨fu - 1, by omega⟩
    rw [f_X5_sumOf_L4, hn, if_pos (nI_le (by omega) (by omega))]
    rfl
  | succ m ih =>
    intro k fu s hk hfu
    obtain ⟨g, rfl⟩ : ∃ g, fu = g + 1 := ⟨fu - 1, by omega⟩
    rw [f_X5_sumOf_L4, hn, if_neg (nI_ge (by omega) (by omega)), q_chkI (by omega) (by omega), q_let, q_clamp (by omega), nI_1]
    exact ih (k + 1) g _ (by omega) (by omega)
theorem x_sumOf {w o nS : Nat} {M : sk_M} (h9 : nS ≤ 9) (hn : M w 10 = nI nS) : f_X5_sumOf w o M = some (x_sum (M o) nS) := by
  have h := x_sumOfL (o := o) h9 hn nS 0 sk_FU 0 (by omega) (by unfold sk_FU; omega)
  have h' : f_X5_sumOf_L4 w o M sk_FU 0 0 = _ := h
  rw [f_X5_sumOf, h', q_b1]
  rfl
theorem x_allOnL {c nS : Nat} {M : sk_M} (h9 : nS ≤ 9) (hc : c < 6) (hn : M 89 0 = nI nS) : ∀ (m k fu : Nat) (s : Int32), k + m = nS → m < fu → f_X7_allOn_L4 (nI c) M fu s (nI k) = some (x_su (fun j => M 89 (43 + 9 * c + j)) k m s) := by
  intro m
  induction m with
  | zero =>
    intro k fu s hk hfu
    obtain ⟨g, rfl⟩ : ∃ g, fu = g + 1 := ⟨fu - 1, by omega⟩
    rw [f_X7_allOn_L4, hn, if_pos (nI_le (by omega) (by omega))]
    rfl
  | succ m ih =>
    intro k fu s hk hfu
    obtain ⟨g, rfl⟩ : ∃ g, fu = g + 1 := ⟨fu - 1, by omega⟩
    rw [f_X7_allOn_L4, hn, if_neg (nI_ge (by omega) (by omega)), x_on hc (by omega), q_b1, q_let, nI_1]
    exact ih (k + 1) g _ (by omega) (by omega)
theorem x_allOn {c nS : Nat} {M : sk_M} (h9 : nS ≤ 9) (hc : c < 6) (hn : M 89 0 = nI nS) : f_X7_allOn (nI c) M = some (x_sum (fun j => M 89 (43 + 9 * c + j)) nS) := by
  have h := x_allOnL h9 hc hn nS 0 sk_FU 0 (by omega) (by unfold sk_FU; omega)
  have h' : f_X7_allOn_L4 (nI c) M sk_FU 0 0 = _ := h
  rw [f_X7_allOn, h', q_b1]
  rfl
