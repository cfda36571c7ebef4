/-! least, letter. -/
theorem t_least (a1 a2 a3 a4 : Int32) : r_st (f_X6_least a1 a2 a3 a4) (f_X7_least a1 a2 a3 a4) := by
  intro M hR
  obtain ⟨nS, nC, nW, nT, d, hP⟩ := id hR
  obtain ⟨⟨b1, b2, b3, b4, b5⟩, c1, c2, c3, c4, c5⟩ := hP.1.1.1
  have hE := hP.1.2.1
  by_cases g1 : f_X6_isSpot a1 a2 M = 0
  · refine ⟨_, M, M, by rw [f_X6_least, if_pos g1], ?_, hR⟩
    rcases g_spot0 g1 with q | ⟨q1, q2⟩
    · rw [f_X7_least, g_cloth hE, if_pos q]
    · rw [f_X7_least, g_cloth hE, if_neg q1, g_scent hE, if_pos q2]
  obtain ⟨⟨q1, q2⟩, ⟨c, hc, rfl⟩, k, hk, rfl⟩ := n_spot c1 b1 c2 b2 g1
  by_cases g2 : f_X6_isNose a3 = 0
  · exact ⟨_, M, M, by rw [f_X6_least, if_neg g1, if_pos g2], by rw [f_X7_least, g_cloth hE, if_neg q1, g_scent hE, if_neg q2, g_nose, if_pos g2], hR⟩
  by_cases g3 : f_X6_within a4 0 100 = 0
  · exact ⟨_, M, M, by rw [f_X6_least, if_neg g1, if_neg g2, if_pos g3], by rw [f_X7_least, g_cloth hE, if_neg q1, g_scent hE, if_neg q2, g_nose, if_neg g2, g_in a4 0 100 (by decide) (by decide), if_pos g3], hR⟩
  obtain ⟨v, hv, rfl⟩ := n_nose g2
  obtain ⟨n, -, hn, rfl⟩ := q_wb (lo := 0) (hi := 100) (by omega) (by omega) g3
  obtain ⟨f, f1, f2, f3⟩ := hP.1.1.2.1.1 v hv
  have f1' : M 14 v = nI f := f1
  obtain ⟨M1, k1, k2⟩ := x_leastC (k := k) (warm := M 16 c) (N := M) (p_mh hP) (p_ch hP) (by omega) f2 f3 c5 b5 hn (fun _ _ _ _ => rfl)
  have hmh1 : x_mh 10 nS nC nT M1 := x_mh_c2 (p_mh hP) (fun o q => k2 o (by omega) (by omega)) (fun o z1 z2 z3 => k2 o (by omega) z3) (by rw [k2 89 (by omega) (by omega)]; exact fun i _ _ => rfl) (by rw [k2 89 (by omega) (by omega)]; exact (p_mh hP).2.2.2.2.2.2)
  have hff := r_eq_fix hE
  obtain ⟨M2, m1, m2⟩ := x_leastM (k := k) (c := c) (d := d) (n := n) (vn := v) (f := f) hmh1 (by omega) (by omega) (by rw [k2 89 (by omega) (by omega), hff.2.1]; exact c5) b5 hn hv (by rw [k2 89 (by omega) (by omega), hff.1.2.1 v hv]; exact f1) f3
  have hls : x_ls 10 M1 = x_ls 10 M := x_ls_c b4 hP.1.1.2.2.2 (fun o q => k2 o (by omega) (by omega)) (fun o z1 z2 z3 => k2 o (by omega) z3)
  have hye : y_least M1 k (M1 89 (37 + c)) f d n = y_least M k (M 16 c) f d n := by
    unfold y_least y_g
    rw [hls, k2 89 (by omega) (by omega), hff.1.2.2.2.1 c (by omega), k2 11 (by omega) (by omega)]
  rw [hye] at m1
  have hlt := y_fi_lt (Q := fun v => decide (f ≤ y_it (y_g M k (M 16 c)) (y_due (M 11 k) d n) v)) (1000 - f) f
  have hlt' : ∀ w, y_least M k (M 16 c) f d n = some w → w < 1000 := fun w hw => by have := hlt w hw; omega
  generalize y_least M k (M 16 c) f d n = z at k1 m1 hlt'
  refine ⟨y_oN z, M1, M2, ?_, ?_, nS, nC, nW, nT, d, p_scr hP ?_ ?_⟩
  · rw [f_X6_least, if_neg g1, if_neg g2, if_neg g3, q_chkI (by omega) (by omega), q_chkI (by omega) (by omega), q_clamp (by omega), q_clamp (by omega), f1', k1, q_b2]
  · rw [f_X7_least, g_cloth1 (M := M) (by rw [k2 89 (by omega) (by omega)]; exact hE 1 (by omega)), if_neg q1, g_scent1 (M := M) (by rw [k2 89 (by omega) (by omega)]; exact hE 0 (by omega)), if_neg q2, g_nose, if_neg g2, g_in (nI n) 0 100 (by decide) (by decide), if_neg g3, m1, q_b2]
    cases z with
    | none => rfl
    | some w =>
      have := hlt' w rfl
      show some (f_X7_orNone (nI w), M2) = some (nI w, M2)
      rw [x_orN (by omega)]
  · intro o z1 z2
    unfold r_scr at z1
    rw [m2 o (by omega) (by omega), k2 o (by omega) (by omega)]
  · intro i hi
    rw [m2 89 (by omega) (by omega), k2 89 (by omega) (by omega)]
-- letter
/-- what is written of scent k -/
def y_wr (M : sk_M) (c wd f d n k : Nat) : Option Nat := if x_bit (M 15 wd) k = 1 then y_least M k (M 16 c) f d n else some 0
def y_lt (M : sk_M) (c wd f d n : Nat) : Nat → Nat → Int32 → Option Int32
  | _, 0, s => some s
  | k, m + 1, s => match y_wr M c wd f d n k with
    | none => none
    | some v => y_lt M c wd f d n (k + 1) m (s + nI v)
theorem y_wr_lt {M : sk_M} {c wd f d n k v : Nat} (h : y_wr M c wd f d n k = some v) (hf : f ≤ 999) : v ≤ 999 := by
  unfold y_wr at h
  by_cases q : x_bit (M 15 wd) k = 1
  · rw [if_pos q] at h
    have := y_fi_lt _ _ _ h
    omega
  · rw [if_neg q] at h; cases h; omega
def y_ls (x : Option Int32) (M : sk_M) : Option ((Int32 × sk_M) ⊕ (Int32 × sk_M)) := match x with
  | none => some (Sum.inl (-1000000002, M))
  | some s => some (Sum.inr (s, M))
theorem x_letC {nS nC nT c wd v f d n : Nat} {M : sk_M} (hmh : x_mh 10 nS nC nT M) (hch : x_ch 10 nS nC nT M) (hc : c < 6) (hwd : wd < 12) (hv : v < 4) (hf1 : 1 ≤ f) (hf : f ≤ 999) (h14 : M 14 v = nI f) (hd : M 10 14 = nI d) (hd9 : d ≤ 9999) (hn : n ≤ 100) :
    ∀ (m k fu : Nat) (s : Int32) (N : sk_M), k + m = nS → m < fu → (∀ o, o ≠ 4 → o ≠ 19 → o ≠ 47 → N o = M o) → (∀ j, j < k → ∃ w, y_wr M c wd f d n j = some w ∧ N 4 j = nI w) →
    ∃ M', f_X6_letter_L43 (nI c) (nI wd) (nI v) (nI n) fu s (nI k) N = y_ls (y_lt M c wd f d n k m s) M' ∧ (∀ o, o ≠ 4 → o ≠ 19 → o ≠ 47 → M' o = M o) ∧ ((y_lt M c wd f d n k m s).isSome = true → ∀ j, j < nS → ∃ w, y_wr M c wd f d n j = some w ∧ M' 4 j = nI w) := by
  intro m
  induction m with
  | zero =>
    intro k fu s N hk hfu hN hj
    obtain ⟨g, rfl⟩ : ∃ g, fu = g + 1 := ⟨fu - 1, by omega⟩
    have e : k = nS := by omega
    subst e
    refine ⟨N, ?_, hN, fun _ => hj⟩
    rw [f_X6_letter_L43, hN 10 (by omega) (by omega) (by omega), hch.2.2.2.1, if_pos (nI_le (by omega) (by have := hch.2.1; omega))]
    rfl
  | succ m ih =>
    intro k fu s N hk hfu hN hj
    obtain ⟨g, rfl⟩ : ∃ g, fu = g + 1 := ⟨fu - 1, by omega⟩
    have h9 := hch.2.1
    have hval : ∃ N1, (if (if x_bit (M 15 wd) k = 1 then (1 : Int32) else 0) = 0 then some (0, N) else (sk_chk (sk_in (nI c) 6) (sk_chk (sk_in (nI v) 4) (sk_b2 (f_X5_leastLeft 10 (nI k) (N 16 (nI c).toNatClampNeg) (N 14 (nI v).toNatClampNeg) (nI n) N) (fun x_10 M_11 => some (x_10, M_11)))))) = some (y_oN (y_wr M c wd f d n k), N1) ∧ (∀ o, o ≠ 19 → o ≠ 47 → N1 o = N o) := by
      unfold y_wr
      by_cases q : x_bit (M 15 wd) k = 1
      · obtain ⟨N1, z1, z2⟩ := x_leastC (k := k) (warm := M 16 c) hmh hch (by omega) hf1 hf hd hd9 hn hN
        rw [if_pos q, if_neg (by decide), q_chkI hc (by omega), q_chkI hv (by omega), q_clamp (by omega), q_clamp (by omega), hN 16 (by omega) (by omega) (by omega), hN 14 (by omega) (by omega) (by omega), h14, z1, q_b2, if_pos q]
        exact ⟨N1, rfl, z2⟩
      · rw [if_neg q, if_pos rfl, if_neg q]
        exact ⟨N, rfl, fun _ _ _ => rfl⟩
    obtain ⟨N1, z1, z2⟩ := hval
    have e15 : N 15 = M 15 := hN 15 (by omega) (by omega) (by omega)
    rw [f_X6_letter_L43, hN 10 (by omega) (by omega) (by omega), hch.2.2.2.1, if_neg (nI_ge (by omega) (by omega)), q_chkI (by omega) (by omega), q_let, q_clamp (by omega : wd < 2147483648), e15]
    show ∃ M', sk_b2 (if (if x_bit (M 15 wd) k = 1 then (1 : Int32) else 0) = 0 then some (0, N) else (sk_chk (sk_in (nI c) 6) (sk_chk (sk_in (nI v) 4) (sk_b2 (f_X5_leastLeft 10 (nI k) (N 16 (nI c).toNatClampNeg) (N 14 (nI v).toNatClampNeg) (nI n) N) (fun x_10 M_11 => some (x_10, M_11)))))) _ = _ ∧ _
    rw [z1, q_b2, q_chkI (by omega) (by omega), q_let, q_chkI (by omega) (by omega), q_chkI (by omega) (by omega), q_clamp (by omega), q_ue, q_let, nI_1]
    have hN2 : ∀ x, ∀ o, o ≠ 4 → o ≠ 19 → o ≠ 47 → sk_u N1 4 k x o = M o := fun x o y1 y2 y3 => by rw [q_uo y1, z2 o y2 y3]; exact hN o y1 y2 y3
    cases hw : y_wr M c wd f d n k with
    | none =>
      have e : y_lt M c wd f d n k (m + 1) s = none := by
        show (match y_wr M c wd f d n k with | none => none | some v => y_lt M c wd f d n (k + 1) m (s + nI v)) = none
        rw [hw]
      rw [e, show y_oN none = -1000000005 from rfl, if_pos rfl]
      exact ⟨_, rfl, hN2 _, fun z => by cases z⟩
    | some w =>
      have hw9 := y_wr_lt hw hf
      have e : y_lt M c wd f d n k (m + 1) s = y_lt M c wd f d n (k + 1) m (s + nI w) := by
        show (match y_wr M c wd f d n k with | none => none | some v => y_lt M c wd f d n (k + 1) m (s + nI v)) = _
        rw [hw]
      rw [e, show y_oN (some w) = nI w from rfl, if_neg (x_nN (by omega))]
      exact ih (k + 1) g _ _ (by omega) (by omega) (hN2 _) (fun j hj' => by
        by_cases e : j = k
        · subst e; exact ⟨w, hw, by rw [q_ue]⟩
        · obtain ⟨x, x1, x2⟩ := hj j (by omega)
          exact ⟨x, x1, by rw [q_un (by omega), z2 4 (by omega) (by omega)]; exact x2⟩)
theorem x_letM {nS nC nT c wd v f d n : Nat} {M M1 : sk_M} (hmh : x_mh 10 nS nC nT M1) (hff : r_eq 10 89 M) (h89 : M1 89 = M 89) (hls : x_ls 10 M1 = x_ls 10 M) (h11 : M1 11 = M 11) (hc : c < 6) (hwd : wd < 12) (hv : v < 4) (hf : f ≤ 999) (h14 : M 14 v = nI f) (hS : M 10 10 = nI nS) (hd : M 10 14 = nI d) (hd9 : d ≤ 9999) (hn : n ≤ 100) :
    ∀ (m k fu : Nat) (s : Int32) (N : sk_M), k + m = nS → m < fu → (∀ o, o ≠ 101 → o ≠ 103 → o ≠ 104 → N o = M1 o) → (∀ j, j < k → ∃ w, y_wr M c wd f d n j = some w ∧ N 101 j = nI w) →
    ∃ M', f_X7_letter_L45 (nI c) (nI wd) (nI v) (nI n) fu s (nI k) N = y_ls (y_lt M c wd f d n k m s) M' ∧ (∀ o, o ≠ 101 → o ≠ 103 → o ≠ 104 → M' o = M1 o) ∧ ((y_lt M c wd f d n k m s).isSome = true → ∀ j, j < nS → ∃ w, y_wr M c wd f d n j = some w ∧ M' 101 j = nI w) := by
  have hfx := r_eq_fix hff
  have hS9 := hmh.1.2.1
  have e0 : M 89 0 = nI nS := hfx.1.1.1.trans hS
  intro m
  induction m with
  | zero =>
    intro k fu s N hk hfu hN hj
    obtain ⟨g, rfl⟩ : ∃ g, fu = g + 1 := ⟨fu - 1, by omega⟩
    have e : k = nS := by omega
    subst e
    refine ⟨N, ?_, hN, fun _ => hj⟩
    rw [f_X7_letter_L45, hN 89 (by omega) (by omega) (by omega), h89, e0, if_pos (nI_le (by omega) (by omega))]
    rfl
  | succ m ih =>
    intro k fu s N hk hfu hN hj
    obtain ⟨g, rfl⟩ : ∃ g, fu = g + 1 := ⟨fu - 1, by omega⟩
    have n89 : N 89 = M 89 := (hN 89 (by omega) (by omega) (by omega)).trans h89
    have hmN : x_mh 10 nS nC nT N ∧ x_ls 10 N = x_ls 10 M := by
      have hq : ∀ q, q < 88 → N q = M1 q := fun q z => hN q (by omega) (by omega) (by omega)
      exact ⟨x_mh_c hmh hq (by rw [hN 89 (by omega) (by omega) (by omega)]; exact fun i _ _ => rfl) (by rw [hN 89 (by omega) (by omega) (by omega)]; exact hmh.2.2.2.2.2.2), (x_mh_ls hmh hq).trans hls⟩
    have hval : ∃ N1, (if x_bit (M 15 wd) k = 1 then (sk_b2 (f_X7_leastOf (nI c) (nI k) (nI v) (nI n) N) (fun x_7 M_8 => some (x_7, M_8))) else (some (0, N))) = some (z_o2i (y_wr M c wd f d n k), N1) ∧ x_o2 N N1 := by
      unfold y_wr
      by_cases q : x_bit (M 15 wd) k = 1
      · obtain ⟨N1, z1, z2⟩ := x_leastM (k := k) (c := c) (d := d) (n := n) (vn := v) (f := f) hmN.1 (by omega) hc (by rw [n89, hfx.2.1]; exact hd) hd9 hn hv (by rw [n89, hfx.1.2.1 v hv]; exact h14) hf
        have hye : y_least N k (N 89 (37 + c)) f d n = y_least M k (M 16 c) f d n := by
          unfold y_least y_g
          rw [hmN.2, n89, hfx.1.2.2.2.1 c hc, hN 11 (by omega) (by omega) (by omega), h11]
        rw [if_pos q, z1, q_b2, if_pos q, hye]
        exact ⟨N1, rfl, z2⟩
      · rw [if_neg q, if_neg q]
        exact ⟨N, rfl, fun _ _ _ => rfl⟩
    obtain ⟨N1, z1, z2⟩ := hval
    rw [f_X7_letter_L45, n89, e0, if_neg (nI_ge (by omega) (by omega)), show (97 : Int32) + nI wd = nI (97 + wd) from nI_add 97 wd, q_chkI (by omega) (by omega), q_clamp (by omega : 97 + wd < 2147483648), hfx.1.2.2.2.2 wd hwd]
    show ∃ M', sk_b2 (if x_bit (M 15 wd) k = 1 then (sk_b2 (f_X7_leastOf (nI c) (nI k) (nI v) (nI n) N) (fun x_7 M_8 => some (x_7, M_8))) else (some (0, N))) _ = _ ∧ _
    rw [z1, q_b2, q_chkI (by omega) (by omega), q_let, q_chkI (by omega) (by omega), q_chkI (by omega) (by omega), q_clamp (by omega), q_ue, q_let, nI_1]
    have hN2 : ∀ x, ∀ o, o ≠ 101 → o ≠ 103 → o ≠ 104 → sk_u N1 101 k x o = M1 o := fun x o y1 y2 y3 => by rw [q_uo y1, z2 o y2 y3]; exact hN o y1 y2 y3
    cases hw : y_wr M c wd f d n k with
    | none =>
      have e : y_lt M c wd f d n k (m + 1) s = none := by
        show (match y_wr M c wd f d n k with | none => none | some v => y_lt M c wd f d n (k + 1) m (s + nI v)) = none
        rw [hw]
      rw [e, show z_o2i none = -1 from rfl, if_neg (by decide)]
      exact ⟨_, rfl, hN2 _, fun z => by cases z⟩
    | some w =>
      have hw9 := y_wr_lt hw hf
      have e : y_lt M c wd f d n k (m + 1) s = y_lt M c wd f d n (k + 1) m (s + nI w) := by
        show (match y_wr M c wd f d n k with | none => none | some v => y_lt M c wd f d n (k + 1) m (s + nI v)) = _
        rw [hw]
      rw [e, show z_o2i (some w) = nI w from rfl, if_pos (nI_pos' (by omega))]
      exact ih (k + 1) g _ _ (by omega) (by omega) (hN2 _) (fun j hj' => by
        by_cases e : j = k
        · subst e; exact ⟨w, hw, by rw [q_ue]⟩
        · obtain ⟨x, x1, x2⟩ := hj j (by omega)
          exact ⟨x, x1, by rw [q_un (by omega), z2 101 (by omega) (by omega)]; exact x2⟩)
theorem x_letB {nS c : Nat} (a5 : Int32) {M : sk_M} (h9 : nS ≤ 9) (hc : c < 6) (h0 : M 89 0 = nI nS) : ∀ (m k fu : Nat), k + m = nS → m < fu → f_X7_letter_L129 (nI c) a5 fu (nI k) (sk_uA M 89 (x_rg (M 101) (M 89) (43 + 9 * c) k)) = some (sk_uA M 89 (x_rg (M 101) (M 89) (43 + 9 * c) nS)) := by
  intro m
  induction m with
  | zero =>
    intro k fu hk hfu
    obtain ⟨g, rfl⟩ : ∃ g, fu = g + 1 := ⟨fu - 1, by omega⟩
    have e : k = nS := by omega
    subst e
    rw [f_X7_letter_L129, sk_uA_self, x_rg_out (by omega), h0, if_pos (nI_le (Nat.le_refl _) (by omega))]
  | succ m ih =>
    intro k fu hk hfu
    obtain ⟨g, rfl⟩ : ∃ g, fu = g + 1 := ⟨fu - 1, by omega⟩
    rw [f_X7_letter_L129, sk_uA_self, x_rg_out (by omega), h0, if_neg (nI_ge (by omega) (by omega)), q_chkI (by omega) (by omega), x_ix, q_chkI (by omega) (by omega), q_let, q_clamp (by omega), q_clamp (by omega), sk_uA_ne _ _ (by omega : (101 : Nat) ≠ 89), x_uAu, x_rg_s, nI_1]
    exact ih (k + 1) g (by omega) (by omega)
/-- cloth c is written anew, both sides -/
theorem p_row {nS nC nW nT d c : Nat} {M M2 : sk_M} (h : r_p nS nC nW nT d M) (hc : c < nC) (hU : ∀ o, ¬ r_scr o → o ≠ 89 → o ≠ 20 + c → M2 o = M o) (hr : ∀ k, k < 9 → if k < nS then ∃ v : Nat, M2 (20 + c) k = nI v ∧ v ≤ 999 else M2 (20 + c) k = M (20 + c) k) (h89 : ∀ i, i < 2909 → M2 89 i = if 43 + 9 * c ≤ i ∧ i < 43 + 9 * c + nS then M2 (20 + c) (i - (43 + 9 * c)) else M 89 i) : r_p nS nC nW nT d M2 := by
  obtain ⟨⟨hI, hE, hT⟩, hO⟩ := id h
  have hb := hI.1.1
  have h3 : r_p nS nC nW nT d (sk_uA (sk_uA M (20 + c) (M2 (20 + c))) 89 (M2 89)) := by
    have hx : ∀ o, o ≠ 89 → o ≠ 20 + c → sk_uA (sk_uA M (20 + c) (M2 (20 + c))) 89 (M2 89) o = M o := fun o q1 q2 => by rw [sk_uA_ne _ _ q1, sk_uA_ne _ _ q2]
    have hx1 : sk_uA (sk_uA M (20 + c) (M2 (20 + c))) 89 (M2 89) (20 + c) = M2 (20 + c) := by rw [sk_uA_ne _ _ (by omega), sk_uA_self]
    refine ⟨⟨r_inv_ex (x := 20 + c) hI (fun o q1 q2 q3 q4 q5 => hx o (by omega) q3) (hx 45 (by omega) (by omega)) ?_ (Nat.le_refl _) (Nat.le_refl _) rfl (fun e => by omega) (fun e => by omega) (fun e => by omega) (fun e => by omega) (fun e => by omega) (by omega) (fun c' hc' e k hk => ?_), ?_, ?_⟩, ?_⟩
    · unfold r_cnt; rw [hx 10 (by omega) (by omega)]; exact hI.1
    · have e' : c' = c := by omega
      subst e'
      rw [hx1]
      have z := hr k hk
      by_cases q : k < nS
      · rw [if_pos q] at z; exact ⟨z, fun y => by omega⟩
      · rw [if_neg q] at z; rw [z]; exact ⟨hI.2.1.2.2.2.2 c' (by omega) k hk, fun y => hI.2.2.1.2.2 c' (by omega) k hk y⟩
    · intro i hi
      rw [sk_uA_self, h89 i (by omega)]
      by_cases q : 43 + 9 * c ≤ i ∧ i < 43 + 9 * c + nS
      · rw [if_pos q]
        obtain ⟨k, hk, rfl⟩ : ∃ k, k < nS ∧ i = 43 + 9 * c + k := ⟨i - (43 + 9 * c), by omega, by omega⟩
        rw [(r_c_spot (by omega) (by omega)).1, (r_c_spot (by omega) (by omega)).2, show 10 + (10 + c) = 20 + c by omega, hx1]
        congr 1
        omega
      · rw [if_neg q, hE i hi]
        have hlt := r_co_lt i hi
        by_cases q2 : 10 + r_co i = 20 + c
        · rw [q2, hx1]
          have hsp : 43 ≤ i ∧ i < 97 := by
            unfold r_co at q2
            repeat' split at q2
            all_goals omega
          obtain ⟨k, j, hj, rfl⟩ : ∃ k j, j < 9 ∧ i = 43 + 9 * k + j := ⟨(i - 43) / 9, (i - 43) % 9, by omega, by omega⟩
          rw [(r_c_spot (by omega) hj).1] at q2
          rw [(r_c_spot (by omega) hj).2]
          have z := hr j hj
          rw [if_neg (by omega)] at z
          exact z.symm
        · rw [hx _ (by omega) q2]
    · exact r_txt_c2 hb.2.2.2.1 (fun o q1 q2 q3 => hx o (by omega) (by omega)) (fun j q1 q2 => by rw [sk_uA_self, h89 j q2, if_neg (by omega)]) hT
    · exact r_oth_c (fun o q => by unfold r_keep at q; exact hx o (by omega) (by omega)) hb.2.2.2.1 hO
  refine p_scr h3 ?_ ?_
  · intro o q1 q2
    rw [sk_uA_ne _ _ q2]
    by_cases e : o = 20 + c
    · subst e; rw [sk_uA_self]
    · rw [sk_uA_ne _ _ e]; exact hU o q1 q2 e
  · intro i hi; rw [sk_uA_self]
theorem t_letter (a1 a2 a3 a4 : Int32) : r_st (f_X6_letter a1 a2 a3 a4) (f_X7_letter a1 a2 a3 a4) := by
  intro M hR
  obtain ⟨nS, nC, nW, nT, d, hP⟩ := id hR
  obtain ⟨⟨b1, b2, b3, b4, b5⟩, c1, c2, c3, c4, c5⟩ := hP.1.1.1
  have hE := hP.1.2.1
  by_cases g1 : f_X6_isCloth a1 M = 0
  · exact ⟨_, M, M, by rw [f_X6_letter, if_pos g1], by rw [f_X7_letter, g_cloth hE, if_pos g1], hR⟩
  by_cases g2 : f_X6_isWord a2 M = 0
  · exact ⟨_, M, M, by rw [f_X6_letter, if_neg g1, if_pos g2], by rw [f_X7_letter, g_cloth hE, if_neg g1, g_word hE, if_pos g2], hR⟩
  by_cases g3 : f_X6_isNose a3 = 0
  · exact ⟨_, M, M, by rw [f_X6_letter, if_neg g1, if_neg g2, if_pos g3], by rw [f_X7_letter, g_cloth hE, if_neg g1, g_word hE, if_neg g2, g_nose, if_pos g3], hR⟩
  by_cases g4 : f_X6_within a4 0 100 = 0
  · exact ⟨_, M, M, by rw [f_X6_letter, if_neg g1, if_neg g2, if_neg g3, if_pos g4], by rw [f_X7_letter, g_cloth hE, if_neg g1, g_word hE, if_neg g2, g_nose, if_neg g3, g_in a4 0 100 (by decide) (by decide), if_pos g4], hR⟩
  obtain ⟨c, hc, rfl⟩ := n_cloth c2 b2 g1
  obtain ⟨wd, hwd, rfl⟩ := n_word c3 b3 g2
  obtain ⟨v, hv, rfl⟩ := n_nose g3
  obtain ⟨n, -, hn, rfl⟩ := q_wb (lo := 0) (hi := 100) (by omega) (by omega) g4
  obtain ⟨f, f1, f2, f3⟩ := hP.1.1.2.1.1 v hv
  have f1' : M 14 v = nI f := f1
  obtain ⟨M1, k1, k2, k3⟩ := x_letC (c := c) (wd := wd) (v := v) (f := f) (d := d) (n := n) (p_mh hP) (p_ch hP) (by omega) (by omega) hv f2 f3 f1' c5 b5 hn nS 0 sk_FU 0 M (by omega) (by unfold sk_FU; omega) (fun _ _ _ _ => rfl) (fun j hj => by omega)
  have k1' : f_X6_letter_L43 (nI c) (nI wd) (nI v) (nI n) sk_FU 0 0 M = _ := k1
  -- the class's memory at its end
  have gend : ∀ M1' : sk_M, (∀ o, o ≠ 4 → o ≠ 19 → o ≠ 47 → o ≠ 20 + c → M1' o = M o) → x_mh 10 nS nC nT M1' ∧ x_ls 10 M1' = x_ls 10 M := fun M1' hU => by
    have z1 : r_cs 10 M M1' := fun o q => hU o (by omega) (by omega) (by omega) (by omega)
    have z2 : r_lib M M1' := fun o y1 y2 y3 => hU o (by omega) (by omega) y3 (by omega)
    have z3 := hU 89 (by omega) (by omega) (by omega) (by omega)
    exact ⟨x_mh_c2 (p_mh hP) z1 z2 (by rw [z3]; exact fun i _ _ => rfl) (by rw [z3]; exact (p_mh hP).2.2.2.2.2.2), x_ls_c b4 hP.1.1.2.2.2 z1 z2⟩
  have mrun : ∀ M1' : sk_M, (∀ o, o ≠ 4 → o ≠ 19 → o ≠ 47 → o ≠ 20 + c → M1' o = M o) → ∃ M', f_X7_letter_L45 (nI c) (nI wd) (nI v) (nI n) sk_FU 0 0 M1' = y_ls (y_lt M c wd f d n 0 nS 0) M' ∧ (∀ o, o ≠ 101 → o ≠ 103 → o ≠ 104 → M' o = M1' o) ∧ ((y_lt M c wd f d n 0 nS 0).isSome = true → ∀ j, j < nS → ∃ w, y_wr M c wd f d n j = some w ∧ M' 101 j = nI w) := fun M1' hU =>
    x_letM (gend M1' hU).1 hE (hU 89 (by omega) (by omega) (by omega) (by omega)) (gend M1' hU).2 (hU 11 (by omega) (by omega) (by omega) (by omega)) (by omega) (by omega) hv f3 f1' c1 c5 b5 hn nS 0 sk_FU 0 M1' (by omega) (by unfold sk_FU; omega) (fun _ _ _ _ => rfl) (fun j hj => by omega)
  have mg : ∀ M1' : sk_M, M1' 89 = M 89 → ∀ X, f_X7_letter (nI c) (nI wd) (nI v) (nI n) M1' = X ↔ sk_s2 (f_X7_letter_L45 (nI c) (nI wd) (nI v) (nI n) sk_FU 0 0 M1') (fun x_17 M_18 => sk_b1 (f_X7_letter_L129 (nI c) x_17 sk_FU 0 M_18) (fun M_22 => some (x_17, M_22))) = X := fun M1' h89 X => by
    rw [f_X7_letter, g_cloth1 (M := M) (by rw [h89]; exact hE 1 (by omega)), if_neg g1, g_word1 (M := M) (by rw [h89]; exact hE 2 (by omega)), if_neg g2, g_nose, if_neg g3, g_in (nI n) 0 100 (by decide) (by decide), if_neg g4]
  cases hz : y_lt M c wd f d n 0 nS 0 with
  | none =>
    rw [hz] at k1'
    obtain ⟨M2, m1, m2, -⟩ := mrun M1 (fun o q1 q2 q3 _ => k2 o q1 q2 q3)
    rw [hz] at m1
    refine ⟨-1000000002, M1, M2, ?_, ?_, nS, nC, nW, nT, d, p_scr hP ?_ ?_⟩
    · rw [f_X6_letter, if_neg g1, if_neg g2, if_neg g3, if_neg g4, k1']
      rfl
    · rw [mg M1 (k2 89 (by omega) (by omega) (by omega)), m1]
      rfl
    · intro o z1 z2
      unfold r_scr at z1
      rw [m2 o (by omega) (by omega) (by omega), k2 o (by omega) (by omega) (by omega)]
    · intro i hi; rw [m2 89 (by omega) (by omega) (by omega), k2 89 (by omega) (by omega) (by omega)]
  | some s =>
    rw [hz] at k1' k3
    have k3' := k3 rfl
    generalize hMe : sk_uA M1 (20 + c) (x_cp (M1 4) (M1 (20 + c)) nS) = Me
    have heo : ∀ o, o ≠ 20 + c → Me o = M1 o := fun o q => by rw [← hMe, sk_uA_ne _ _ q]
    obtain ⟨M3, m1, m2, m3⟩ := mrun Me (fun o q1 q2 q3 q4 => (heo o q4).trans (k2 o q1 q2 q3))
    rw [hz] at m1 m3
    have m3' := m3 rfl
    have e89 : M3 89 = M 89 := by rw [m2 89 (by omega) (by omega) (by omega), heo 89 (by omega), k2 89 (by omega) (by omega) (by omega)]
    have hlb := x_letB (c := c) (nS := nS) s (M := M3) b1 (by omega) (by rw [e89]; exact (hE 0 (by omega)).trans c1) nS 0 sk_FU (by omega) (by unfold sk_FU; omega)
    rw [x_rg_0, x_uA_id] at hlb
    have hlb' : f_X7_letter_L129 (nI c) s sk_FU 0 M3 = _ := hlb
    have hrow : ∀ k, k < 9 → Me (20 + c) k = if k < nS then M1 4 k else M (20 + c) k := fun k hk => by
      rw [← hMe, sk_uA_self, x_cp, k2 (20 + c) (by omega) (by omega) (by omega)]
    refine ⟨s, Me, sk_uA M3 89 (x_rg (M3 101) (M3 89) (43 + 9 * c) nS), ?_, ?_, nS, nC, nW, nT, d, p_row hP hc ?_ ?_ ?_⟩
    · have n0 : (0 : Int32).toNatClampNeg = 0 := rfl
      have hci : sk_cin 0 (nI nS) 9 = true := x_cin (p := 0) (by omega) (by omega)
      rw [f_X6_letter, if_neg g1, if_neg g2, if_neg g3, if_neg g4, k1']
      show sk_chk (sk_in (nI c) 6) (sk_chk (sk_cin 0 (M1 10 10) 9) (sk_chk (sk_cin 0 (M1 10 10) 9) (sk_let (sk_uA M1 (20 + (nI c).toNatClampNeg) (va_cpy (M1 4) (M1 (20 + (nI c).toNatClampNeg)) (0 : Int32).toNatClampNeg (0 : Int32).toNatClampNeg (M1 10 10).toNatClampNeg)) (fun M_25 => some (s, M_25))))) = _
      rw [q_chkI (by omega) (by omega), k2 10 (by omega) (by omega) (by omega), c1, q_chk hci, q_chk hci, q_let, q_clamp (by omega), q_clamp (by omega), n0, x_cpv, hMe]
    · rw [mg Me ((heo 89 (by omega)).trans (k2 89 (by omega) (by omega) (by omega))), m1]
      show sk_b1 (f_X7_letter_L129 (nI c) s sk_FU 0 M3) _ = _
      rw [hlb', q_b1]
    · intro o z1 z2 z3
      unfold r_scr at z1
      rw [sk_uA_ne _ _ z2, m2 o (by omega) (by omega) (by omega), heo o z3, k2 o (by omega) (by omega) (by omega)]
    · intro k hk
      rw [sk_uA_ne _ _ (by omega), m2 _ (by omega) (by omega) (by omega), hrow k hk]
      by_cases q : k < nS
      · rw [if_pos q, if_pos q]
        obtain ⟨w, w1, w2⟩ := k3' k q
        exact ⟨w, w2, y_wr_lt w1 f3⟩
      · rw [if_neg q, if_neg q]
    · intro i hi
      rw [sk_uA_self]
      by_cases q : 43 + 9 * c ≤ i ∧ i < 43 + 9 * c + nS
      · rw [if_pos q, x_rg_in q, sk_uA_ne _ _ (by omega), m2 (20 + c) (by omega) (by omega) (by omega), hrow _ (by omega), if_pos (by omega)]
        obtain ⟨w, w1, w2⟩ := k3' (i - (43 + 9 * c)) (by omega)
        obtain ⟨w', w1', w2'⟩ := m3' (i - (43 + 9 * c)) (by omega)
        rw [w1] at w1'
        cases w1'
        rw [w2, w2']
      · rw [if_neg q, x_rg_out q, e89]
