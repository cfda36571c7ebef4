/-! A piece, in both. -/
theorem u_p0f {selfM : Nat → Int32 → sk_M → Option (Int32 × sk_M)} {kk : Int32} {N : sk_M} (k2 : ¬ N 88 18 = 2) (k1 : N 88 18 = 1 → N 88 20 = 0 ∨ f_X7_isName kk (N 88 20) = 0) (a : f_X7_isSign 33 N = 0 ∨ (8 : Int32) ≤ N 88 22) (b : f_X7_isSign 40 N = 0 ∨ N 88 21 = 8) : f_X7_part0 selfM kk N = some (0, N) := by
  have hT : ∀ {x y : Option (Int32 × sk_M)}, (if f_X7_isSign 33 N = 0 then (if f_X7_isSign 40 N = 0 then some (0, N) else (if N 88 21 = 8 then some (0, N) else x)) else (if (8 : Int32) ≤ N 88 22 then (if f_X7_isSign 40 N = 0 then some (0, N) else (if N 88 21 = 8 then some (0, N) else x)) else y)) = some (0, N) := by
    intro x y
    by_cases z1 : f_X7_isSign 33 N = 0
    · rw [if_pos z1]
      by_cases z2 : f_X7_isSign 40 N = 0
      · rw [if_pos z2]
      · rw [if_neg z2, if_pos (b.resolve_left z2)]
    · rw [if_neg z1, if_pos (a.resolve_left z1)]
      by_cases z2 : f_X7_isSign 40 N = 0
      · rw [if_pos z2]
      · rw [if_neg z2, if_pos (b.resolve_left z2)]
  rw [f_X7_part0, if_neg k2]
  by_cases z : N 88 18 = 1
  · rw [if_pos z]
    by_cases y : N 88 20 = 0
    · rw [if_pos y]; exact hT
    · rw [if_neg y, if_pos ((k1 z).resolve_left y)]; exact hT
  · rw [if_neg z]; exact hT
theorem u_e33 {v : Nat} : (u_str (5 + 3)).elem v = true ↔ v = 33 := by
  show [33].elem v = true ↔ _
  simp
theorem u_e40 {v : Nat} : (u_str (6 + 3)).elem v = true ↔ v = 40 := by
  show [40].elem v = true ↔ _
  simp
theorem u_e41 {v : Nat} : (u_str (7 + 3)).elem v = true ↔ v = 41 := by
  show [41].elem v = true ↔ _
  simp
theorem u_sgC1 {t : Nat → Nat} {n q o c : Nat} {M : sk_M} (ho : o < 8) (h : u_tc t n M) (hq : q ≤ n) (h3 : M 62 3 = nI q) (h5 : M 62 5 = -1) (hc : ∀ v, (u_str (o + 3)).elem v = true ↔ v = c) : f_X0_isSignOf (o + 3) M = some (if q < n ∧ t q = c then 1 else 0) := by
  rw [u_sgC ho h hq h3 h5]
  by_cases z : q < n ∧ t q = c
  · rw [if_pos z, if_pos ⟨z.1, (hc _).mpr z.2⟩]
  · rw [if_neg z, if_neg (fun y => z ⟨y.1, (hc _).mp y.2⟩)]
theorem u_k2 {t : Nat → Nat} {n q : Nat} (hg : ¬ u_gl t n q) : (u_k t n q = 2 ↔ (q < n ∧ u_D (t q) = true ∧ u_e t n q ≤ q + 4)) ∧ (u_k t n q = 1 ↔ (q < n ∧ u_L (t q) = true)) := by
  have hgb : ¬ u_gb t n q = true := fun z => hg (u_gb_iff.mp z)
  unfold u_k
  by_cases z : q < n
  · rw [if_pos z]
    by_cases zL : u_L (t q) = true
    · rw [if_pos zL, if_neg hgb]
      exact ⟨⟨fun y => by omega, fun y => absurd y.2.1 (u_LD zL)⟩, ⟨fun _ => ⟨z, zL⟩, fun _ => rfl⟩⟩
    · rw [if_neg zL]
      by_cases zD : u_D (t q) = true
      · rw [if_pos zD, if_neg hgb]
        by_cases z4 : u_e t n q ≤ q + 4
        · rw [if_pos z4]
          exact ⟨⟨fun _ => ⟨z, zD, z4⟩, fun _ => rfl⟩, ⟨fun y => by omega, fun y => absurd y.2 zL⟩⟩
        · rw [if_neg z4]
          exact ⟨⟨fun y => by omega, fun y => absurd y.2.2 z4⟩, ⟨fun y => by omega, fun y => absurd y.2 zL⟩⟩
      · rw [if_neg zD]
        exact ⟨⟨fun y => by omega, fun y => absurd y.2.1 zD⟩, ⟨fun y => by omega, fun y => absurd y.2 zL⟩⟩
  · rw [if_neg z]
    exact ⟨⟨fun y => by omega, fun y => absurd y.1 z⟩, ⟨fun y => by omega, fun y => absurd y.1 z⟩⟩
theorem u_k_le (t : Nat → Nat) (n q : Nat) : u_k t n q ≤ 4 := by
  unfold u_k
  repeat' split
  all_goals omega
theorem u_pieceD {self : Nat → Int32 → Int32 → Int32 → sk_M → Option sk_M} {a b : Int32} {M : sk_M} (h : (0 : Int32) ≤ M 62 5) : f_X0_readPiece self a b M = some M := by
  rw [f_X0_readPiece, u_sgF h, q_b1, if_pos rfl, u_sgF h, q_b1, if_pos rfl, u_leafD h, q_b1]
theorem u_piece {t : Nat → Nat} {n key A d u : Nat} {M0 N0 : sk_M} {self : Nat → Int32 → Int32 → Int32 → sk_M → Option sk_M} {selfM : Nat → Int32 → sk_M → Option (Int32 × sk_M)} (hd8 : d ≤ 8) (hu8 : u ≤ 8)
    (hnot : u < 8 → u_sim t n key A d (u + 1) M0 N0 (self 1 (nI d) (nI (u + 1)) 0) (selfM 5 (nI key)))
    (hpar : d < 8 → u_sim t n key A (d + 1) u M0 N0 (self 0 0 (nI (d + 1)) (nI u)) (selfM 0 (nI key))) :
    u_sim t n key A d u M0 N0 (f_X0_readPiece self (nI d) (nI u)) (f_X7_part0 selfM (nI key)) := by
  refine ⟨?_, fun M h => u_pieceD h, fun N h => u_p0f (by rw [h]; decide) (fun z => by rw [h] at z; exact absurd z (by decide)) (Or.inl (u_sg4 h)) (Or.inl (u_sg4 h))⟩
  intro s lo D q laid said M N h
  have b := h.1
  have c := h.2
  have hn := b.tc.1
  have hqn := b.hq
  have g33 : f_X0_isSignOf 8 M = some (if q < n ∧ t q = 33 then 1 else 0) := u_sgC1 (o := 5) (by omega) b.tc b.hq c.m3 c.m5 (fun v => u_e33)
  have g40 : f_X0_isSignOf 9 M = some (if q < n ∧ t q = 40 then 1 else 0) := u_sgC1 (o := 6) (by omega) b.tc b.hq c.m3 c.m5 (fun v => u_e40)
  have s33 : f_X7_isSign 33 N = if q < n ∧ t q = 33 then 1 else 0 := u_sgM (c := 33) b (by omega) (by decide)
  have s40 : f_X7_isSign 40 N = if q < n ∧ t q = 40 then 1 else 0 := u_sgM (c := 40) b (by omega) (by decide)
  have hk4 := u_k_le t n q
  obtain ⟨hk2, hk1⟩ := u_k2 c.ng
  by_cases c1 : q < n ∧ t q = 33 ∧ u < 8
  · -- turned
    obtain ⟨hq, e33, hu⟩ := c1
    have hkk : u_k t n q = 3 := u_k3 hq (by rw [e33]; decide)
    have hR1 : u_R t n key A (s + 1) lo d (u + 1) M0 N0 q laid said D M (sk_u N 88 22 (nI (u + 1))) := ⟨u_B_du b hd8 (by omega) (by rw [q_un (by omega)]; exact b.n21) (by rw [q_ue]) (fun a j z => q_un (by omega)), u_Q_N c (q_uo (by omega))⟩
    obtain ⟨M1, N1, k1, k2, k3⟩ := u_mv hR1 hq (by omega)
    obtain ⟨M2, r, N2, m1, m2, m3⟩ := u_simS (hnot hu) k3
    have hcl : ∀ M3, f_X0_put (-33) M2 = some M3 → f_X0_readPiece self (nI d) (nI u) M = some M3 := fun M3 hM3 => by
      rw [f_X0_readPiece, g33, if_pos ⟨hq, e33⟩, q_b1, if_neg (by decide), if_neg (show ¬ (8 : Int32) ≤ nI u from nI_ge (b := 8) hu (by omega)), k1, q_b1, nI_1, m1, q_b1, hM3, q_b1]
    have hrf : f_X7_part0 selfM (nI key) N = (if r = 0 then some (0, N2) else sk_let (sk_u N2 88 22 ((N2 88 22) - 1)) (fun N3 => sk_b1 (f_X7_step 2 33 N3) (fun N4 => some (1, N4)))) := by
      have z33 : ¬ f_X7_isSign 33 N = 0 := by rw [s33, if_pos ⟨hq, e33⟩]; decide
      rw [f_X7_part0, b.n18, hkk, if_neg (by decide), if_neg (by decide), if_neg z33, b.n22, if_neg (show ¬ (8 : Int32) ≤ nI u from nI_ge (b := 8) hu (by omega)), q_let, nI_1, k2, q_b1, m2, q_b2]
    rcases m3 with ⟨hr, hS⟩ | ⟨hr, hF⟩
    · have h22 : N2 88 22 = nI (u + 1) := by
        obtain ⟨q', l', s', z | z⟩ := hS
        · exact z.1.n22
        · exact z.1.n22
      have h21 : N2 88 21 = nI d := by
        obtain ⟨q', l', s', z | z⟩ := hS
        · exact z.1.n21
        · exact z.1.n21
      have hS2 := u_S_du (N' := sk_u N2 88 22 (nI u)) hS hd8 hu8 (by rw [q_un (by omega)]; exact h21) (by rw [q_ue]) (fun a j z => q_un (by omega))
      have hrf2 : f_X7_part0 selfM (nI key) N = sk_b1 (f_X7_step 2 33 (sk_u N2 88 22 (nI u))) (fun N4 => some (1, N4)) := by
        rw [hrf, if_neg (by rw [hr]; decide), h22, show nI (u + 1) - (1 : Int32) = nI u from pk_sub (a := u + 1) (b := 1) (by omega), q_let]
      obtain ⟨q', laid', said', z | z⟩ := hS2
      · have hl := z.1.hl
        have hq' := z.1.hq
        obtain ⟨p1, p2, p3⟩ := u_put (x := -33) (p := 2) (v := 33) z (by omega) (Or.inr (Or.inr ⟨rfl, rfl, Or.inl rfl⟩)) (u_cd_not z.2.cd)
        exact ⟨_, 1, _, hcl _ p1, by rw [hrf2, p2, q_b1], Or.inl ⟨rfl, u_S_lo (by omega) ⟨q', _, said', Or.inl p3⟩⟩⟩
      · have hl := z.1.hl
        have hq' := z.1.hq
        have g := u_G_5 z
        exact ⟨_, 1, _, hcl _ (u_putF g.1), by rw [hrf2, u_stE z.1.hA (show laid' < 96 by omega) z.1.n23 z.1.n24, q_b1], Or.inl ⟨rfl, u_S_lo (lo := lo + 1 + 1) (by omega) ⟨q', _, said', Or.inr ⟨u_stB z.1 (by omega) (fun _ _ _ => rfl) rfl _ _, z.2⟩⟩⟩⟩
    · exact ⟨_, 0, N2, hcl _ (u_putF (u_F_5 hn hF)), by rw [hrf, if_pos hr], Or.inr ⟨rfl, hF⟩⟩
  by_cases c2 : q < n ∧ t q = 40 ∧ d < 8
  · -- a bracket
    obtain ⟨hq, e40, hd⟩ := c2
    have hkk : u_k t n q = 3 := u_k3 hq (by rw [e40]; decide)
    have hR1 : u_R t n key A (s + 1) lo (d + 1) u M0 N0 q laid said D M (sk_u N 88 21 (nI (d + 1))) := ⟨u_B_du b (by omega) hu8 (by rw [q_ue]) (by rw [q_un (by omega)]; exact b.n22) (fun a j z => q_un (by omega)), u_Q_N c (q_uo (by omega))⟩
    obtain ⟨M1, N1, k1, k2, k3⟩ := u_mv hR1 hq (by omega)
    obtain ⟨M2, r, N2, m1, m2, m3⟩ := u_simS (hpar hd) k3
    have hcl : f_X0_readPiece self (nI d) (nI u) M = sk_b1 (f_X0_isSignOf 10 M2) (fun x => if x = 0 then (sk_b1 (f_X0_fail M2) (fun M_15 => some M_15)) else (sk_b1 (f_X0_moveOn M2) (fun M_17 => some M_17))) := by
      rw [f_X0_readPiece, g33, if_neg (by omega), q_b1, if_pos rfl, g40, if_pos ⟨hq, e40⟩, q_b1, if_neg (by decide), if_neg (show ¬ (8 : Int32) ≤ nI d from nI_ge (b := 8) hd (by omega)), k1, q_b1, nI_1, m1, q_b1]
    have hrf : f_X7_part0 selfM (nI key) N = (if r = 0 then some (0, N2) else (if f_X7_isSign 41 N2 = 0 then some (0, N2) else sk_let (sk_u N2 88 21 ((N2 88 21) - 1)) (fun N3 => sk_b1 (f_X7_nextToken N3) (fun N4 => some (1, N4))))) := by
      have z33 : f_X7_isSign 33 N = 0 := by rw [s33, if_neg (by omega)]
      have z40 : ¬ f_X7_isSign 40 N = 0 := by rw [s40, if_pos ⟨hq, e40⟩]; decide
      rw [f_X7_part0, b.n18, hkk, if_neg (by decide), if_neg (by decide), if_pos z33, if_neg z40, b.n21, if_neg (show ¬ nI d = (8 : Int32) from fun w => by have := q_inj (b := 8) (by omega) (by omega) w; omega), q_let, nI_1, k2, q_b1, m2, q_b2]
    rcases m3 with ⟨hr, hS⟩ | ⟨hr, hF⟩
    rotate_left
    · have g := u_F_5 hn hF
      exact ⟨M2, 0, N2, by rw [hcl, u_sgF g, q_b1, if_pos rfl, u_failD g, q_b1], by rw [hrf, if_pos hr], Or.inr ⟨rfl, hF⟩⟩
    have hr0 : ¬ r = 0 := by rw [hr]; decide
    obtain ⟨q', laid', said', z | z⟩ := hS
    rotate_left
    · obtain ⟨g1, g2, g3⟩ := u_G_5 z
      exact ⟨M2, 0, N2, by rw [hcl, u_sgF g1, q_b1, if_pos rfl, u_failD g1, q_b1], by rw [hrf, if_neg hr0, u_sg4 g2, if_pos rfl], Or.inr ⟨rfl, g3⟩⟩
    have g41 : f_X0_isSignOf 10 M2 = some (if q' < n ∧ t q' = 41 then 1 else 0) := u_sgC1 (o := 7) (by omega) z.1.tc z.1.hq z.2.m3 z.2.m5 (fun v => u_e41)
    have s41 : f_X7_isSign 41 N2 = if q' < n ∧ t q' = 41 then 1 else 0 := u_sgM (c := 41) z.1 (by omega) (by decide)
    by_cases y : q' < n ∧ t q' = 41
    · have hR2 : u_R t n key A (s + 1 + 1) (lo + 1) d u M0 N0 q' laid' said' (D + 1) M2 (sk_u N2 88 21 (nI d)) := ⟨u_B_du z.1 hd8 hu8 (by rw [q_ue]) (by rw [q_un (by omega)]; exact z.1.n22) (fun a j w => q_un (by omega)), u_Q_N z.2 (q_uo (by omega))⟩
      have hkk' : u_k t n q' = 3 := u_k3 y.1 (by rw [y.2]; decide)
      obtain ⟨M3, N3, a1, a2, a3⟩ := u_mv hR2 y.1 (by omega)
      have z41 : ¬ f_X7_isSign 41 N2 = 0 := by rw [s41, if_pos y]; decide
      exact ⟨M3, 1, N3, by rw [hcl, g41, if_pos y, q_b1, if_neg (by decide), a1, q_b1], by rw [hrf, if_neg hr0, if_neg z41, z.1.n21, show nI (d + 1) - (1 : Int32) = nI d from pk_sub (a := d + 1) (b := 1) (by omega), q_let, a2, q_b1], Or.inl ⟨rfl, u_S_s (by omega) a3⟩⟩
    · obtain ⟨f1, f2⟩ := u_failF z
      have z41 : f_X7_isSign 41 N2 = 0 := by rw [s41, if_neg y]
      exact ⟨_, 0, N2, by rw [hcl, g41, if_neg y, q_b1, if_pos rfl, f1, q_b1], by rw [hrf, if_neg hr0, if_pos z41], Or.inr ⟨rfl, f2⟩⟩
  -- a leaf
  have hcl : f_X0_readPiece self (nI d) (nI u) M = f_X0_readLeaf M := by
    have hid : sk_b1 (f_X0_readLeaf M) (fun M_5 => some M_5) = f_X0_readLeaf M := by cases f_X0_readLeaf M <;> rfl
    rw [f_X0_readPiece, g33, g40]
    by_cases y : q < n ∧ t q = 33
    · have hu : u = 8 := by omega
      rw [if_pos y, q_b1, if_neg (by decide), if_pos (show (8 : Int32) ≤ nI u from nI_le (a := 8) (by omega) (by omega)), if_neg (by omega), q_b1, if_pos rfl, hid]
    · rw [if_neg y, q_b1, if_pos rfl]
      by_cases y2 : q < n ∧ t q = 40
      · rw [if_pos y2, q_b1, if_neg (by decide), if_pos (show (8 : Int32) ≤ nI d from nI_le (a := 8) (by omega) (by omega)), hid]
      · rw [if_neg y2, q_b1, if_pos rfl, hid]
  rw [hcl]
  by_cases c3 : q < n ∧ u_D (t q) = true ∧ u_e t n q ≤ q + 4
  · obtain ⟨hq, zD, z4⟩ := c3
    obtain ⟨x1, x2, x3⟩ := u_codeD h hq zD z4
    have hkk := hk2.mpr ⟨hq, zD, z4⟩
    obtain ⟨M', N', a1, a2, a3⟩ := u_leaf (p := 0) (v := N 88 19) h hq (by omega) x1 x2 (Or.inl ⟨rfl, rfl, x3⟩)
    refine ⟨M', 1, N', a1, ?_, Or.inl ⟨rfl, a3⟩⟩
    rw [f_X7_part0, b.n18, hkk, if_pos (by rfl)]
    exact a2
  by_cases c4 : q < n ∧ u_L (t q) = true ∧ u_e t n q = q + 1 ∧ ¬ u_nx key (t q) = -1
  · obtain ⟨hq, zL, z1, znx⟩ := c4
    have ht := (b.tc.2.2 q hq).2
    rcases u_nxD key c.hkey (t q) ht with y | ⟨y1, y2, y3, j, y4, y5, y6⟩
    · exact absurd y.1 znx
    have hkk := hk1.mpr ⟨hq, zL⟩
    have h20 : N 88 20 = nI (t q) := by rw [b.nL hq zL, if_pos z1]
    have hL := of_decide_eq_true zL
    obtain ⟨M', N', a1, a2, a3⟩ := u_leaf (p := 1) (v := nI (t q)) h hq (by omega) (u_codeL h hq zL z1 y2) y3 (Or.inr (Or.inl ⟨rfl, j, t q, y6, by rw [y5], rfl⟩))
    refine ⟨M', 1, N', a1, ?_, Or.inl ⟨rfl, a3⟩⟩
    rw [f_X7_part0, b.n18, hkk, if_neg (by decide), if_pos (by rfl), h20, if_neg (show ¬ nI (t q) = (0 : Int32) from fun w => by have := q_inj (b := 0) (by omega) (by omega) w; omega), y1, if_neg (by decide)]
    exact a2
  obtain ⟨M', a1, a2⟩ := u_leafN h (fun w => by
    rcases w.2 with y | y
    · exact c3 ⟨w.1, y⟩
    · exact c4 ⟨w.1, y⟩)
  refine ⟨M', 0, N, a1, u_p0f ?_ ?_ ?_ ?_, Or.inr ⟨rfl, a2⟩⟩
  · rw [b.n18]
    exact fun w => c3 (hk2.mp (q_inj (b := 2) (by omega) (by omega) w))
  · rw [b.n18]
    intro w
    obtain ⟨hq, zL⟩ := hk1.mp (q_inj (b := 1) (by omega) (by omega) w)
    have ht := (b.tc.2.2 q hq).2
    by_cases z1 : u_e t n q = q + 1
    · right
      rw [b.nL hq zL, if_pos z1]
      rcases u_nxD key c.hkey (t q) ht with y | ⟨y1, y2, y3, j, y4, y5, y6⟩
      · exact y.2
      · exact absurd ⟨hq, zL, z1, fun w => by rw [w] at y2; exact absurd y2 (by decide)⟩ c4
    · left; rw [b.nL hq zL, if_neg z1]
  · rw [s33]
    by_cases y : q < n ∧ t q = 33
    · right
      rw [b.n22]
      exact nI_le (a := 8) (by omega) (by omega)
    · left; rw [if_neg y]
  · rw [s40]
    by_cases y : q < n ∧ t q = 40
    · right
      rw [b.n21, show d = 8 by omega]; rfl
    · left; rw [if_neg y]
