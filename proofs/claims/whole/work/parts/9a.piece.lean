/-! A piece: a leaf, a turned piece, a bracket. -/
theorem u_nxW : ∀ key, key < 3 → ∀ v, v < 256 → ¬ u_L v = true → u_nx key v = -1 := by decide +kernel
theorem u_nxD : ∀ key, key < 3 → ∀ v, v < 256 → (u_nx key v = -1 ∧ f_X7_isName (nI key) (nI v) = 0) ∨ (f_X7_isName (nI key) (nI v) = 1 ∧ (0 : Int32) ≤ u_nx key v ∧ (-3 : Int32) ≤ -3 + u_nx key v ∧ ∃ q, q < 3 ∧ u_nx key v = nI q ∧ x_nl key q = some v) := by decide +kernel
theorem u_names {key : Nat} {M : sk_M} (hk : key < 3) (h : M 62 6 = nI key) : f_X0_names M = 11 + key := by
  unfold f_X0_names
  rw [h]
  have h3 : key = 0 ∨ key = 1 ∨ key = 2 := by omega
  rcases h3 with rfl | rfl | rfl <;> decide
/-- where no leaf stands -/
theorem u_code4 {t : Nat → Nat} {n key A s lo d u q laid said D : Nat} {M0 N0 M N : sk_M} (h : u_R t n key A s lo d u M0 N0 q laid said D M N) (hno : ¬ (q < n ∧ ((u_D (t q) = true ∧ u_e t n q ≤ q + 4) ∨ (u_L (t q) = true ∧ u_e t n q = q + 1 ∧ ¬ u_nx key (t q) = -1)))) : f_X0_leafCode M = some (-4) := by
  obtain ⟨b, c⟩ := h
  have hn := b.tc.1
  have hqn := b.hq
  have he := u_e_b (t := t) b.hq
  rw [f_X0_leafCode, c.m5, if_neg (by decide), c.m3, b.tc.2.1]
  by_cases z : q < n
  rotate_left
  · rw [if_neg (nI_nlt (by omega) (by omega))]
  obtain ⟨y1, y2⟩ := b.tc.2.2 q z
  rw [if_pos (nI_lt z (by omega)), q_chkI (by omega) (by omega), q_clamp (by omega), y1, u_isD y2, c.m4, show nI (u_e t n q) - nI q = nI (u_e t n q - q) from pk_sub he.1]
  by_cases zD : u_D (t q) = true
  · have h4 : ¬ u_e t n q ≤ q + 4 := fun w => hno ⟨z, Or.inl ⟨zD, w⟩⟩
    rw [if_neg (by rw [zD]; decide), if_pos (show (4 : Int32) < nI (u_e t n q - q) from nI_lt (a := 4) (by omega) (by omega))]
  · rw [if_pos ((u_01 _).mpr (Bool.eq_false_iff.mpr zD))]
    by_cases z1 : u_e t n q = q + 1
    · have hx : u_nx key (t q) = -1 := by
        by_cases zL : u_L (t q) = true
        · exact Classical.byContradiction fun w => hno ⟨z, Or.inr ⟨zL, z1, w⟩⟩
        · exact u_nxW key c.hkey (t q) y2 zL
      rw [if_pos (show nI (u_e t n q - q) = (1 : Int32) by rw [z1, show q + 1 - q = 1 by omega]; rfl), q_chkI (by omega) (by omega), u_names c.hkey c.m6, u_ix0, u_nmD key c.hkey (t q) y2, q_b1, q_b1, hx, if_neg (by decide)]
    · rw [if_neg (show ¬ nI (u_e t n q - q) = (1 : Int32) from fun w => by have := q_inj (b := 1) (by omega) (by omega) w; omega), q_b1, if_neg (by decide)]
theorem u_leafN {t : Nat → Nat} {n key A s lo d u q laid said D : Nat} {M0 N0 M N : sk_M} (h : u_R t n key A s lo d u M0 N0 q laid said D M N) (hno : ¬ (q < n ∧ ((u_D (t q) = true ∧ u_e t n q ≤ q + 4) ∨ (u_L (t q) = true ∧ u_e t n q = q + 1 ∧ ¬ u_nx key (t q) = -1)))) : ∃ M', f_X0_readLeaf M = some M' ∧ u_F n A M0 N0 M' N := by
  obtain ⟨k1, k2⟩ := u_failF h
  exact ⟨_, by rw [f_X0_readLeaf, u_code4 h hno, q_b1, if_neg (by decide), k1, q_b1], k2⟩
/-- a number -/
theorem u_codeD {t : Nat → Nat} {n key A s lo d u q laid said D : Nat} {M0 N0 M N : sk_M} (h : u_R t n key A s lo d u M0 N0 q laid said D M N) (hq : q < n) (zD : u_D (t q) = true) (h4 : u_e t n q ≤ q + 4) : f_X0_leafCode M = some (N 88 19) ∧ (-3 : Int32) ≤ N 88 19 ∧ ¬ N 88 19 < 0 := by
  obtain ⟨b, c⟩ := h
  have hn := b.tc.1
  have he := u_e_b (t := t) b.hq
  obtain ⟨y1, y2⟩ := b.tc.2.2 q hq
  have zL : ¬ u_L (t q) = true := fun w => u_LD w zD
  have hue : u_e t n q = u_run (fun j => u_D (t j)) (n - q) q := by unfold u_e; rw [if_pos hq, if_neg zL, if_pos zD]
  have hnum := b.nD hq zD h4
  obtain ⟨w, w1, w2⟩ := u_num_n (t := t) (u_e t n q - q) q 0 (fun i z1 z2 => u_run_all (P := fun j => u_D (t j)) (n - q) q i z1 (by omega))
  have w1' : u_num t (u_e t n q - q) q 0 = nI w := w1
  have hw : w < 10000 := by
    have : 10 ^ (u_e t n q - q) ≤ 10 ^ 4 := Nat.pow_le_pow_right (by omega) (by omega)
    omega
  have hp : (0 : Int32) ≤ nI w := nI_le (a := 0) (by omega) (by omega)
  refine ⟨?_, ?_, ?_⟩
  · have hN := u_numL (t := t) (n := n) (e := u_e t n q) b.tc he.2.1 c.m4 (u_e t n q - q) q sk_FU 0 (by omega) (by unfold sk_FU; omega)
    rw [f_X0_leafCode, c.m5, if_neg (by decide), c.m3, b.tc.2.1, if_pos (nI_lt hq (by omega)), q_chkI (by omega) (by omega), q_clamp (by omega), y1, u_isD y2, if_neg (by rw [zD]; decide), c.m4, show nI (u_e t n q) - nI q = nI (u_e t n q - q) from pk_sub he.1, if_neg (show ¬ (4 : Int32) < nI (u_e t n q - q) from nI_nlt (a := 4) (by omega) (by omega)), f_X0_numberHere, c.m3, q_let, hN, q_b1, q_b1, hnum]
  · rw [hnum, w1']
    rw [q_leI] at hp ⊢
    have e1 : (-3 : Int32).toInt = -3 := by decide
    have e2 : (0 : Int32).toInt = 0 := by decide
    omega
  · rw [hnum, w1']
    exact nI_nlt (b := 0) (by omega) (by omega)
/-- a name -/
theorem u_codeL {t : Nat → Nat} {n key A s lo d u q laid said D : Nat} {M0 N0 M N : sk_M} (h : u_R t n key A s lo d u M0 N0 q laid said D M N) (hq : q < n) (zL : u_L (t q) = true) (h1 : u_e t n q = q + 1) (hx : (0 : Int32) ≤ u_nx key (t q)) : f_X0_leafCode M = some (-3 + u_nx key (t q)) := by
  obtain ⟨b, c⟩ := h
  have hn := b.tc.1
  have he := u_e_b (t := t) b.hq
  obtain ⟨y1, y2⟩ := b.tc.2.2 q hq
  rw [f_X0_leafCode, c.m5, if_neg (by decide), c.m3, b.tc.2.1, if_pos (nI_lt hq (by omega)), q_chkI (by omega) (by omega), q_clamp (by omega), y1, u_isD y2, if_pos ((u_01 _).mpr (Bool.eq_false_iff.mpr (u_LD zL))), c.m4, show nI (u_e t n q) - nI q = nI (u_e t n q - q) from pk_sub he.1, if_pos (show nI (u_e t n q - q) = (1 : Int32) by rw [h1, show q + 1 - q = 1 by omega]; rfl), q_chkI (by omega) (by omega), u_names c.hkey c.m6, u_ix0, u_nmD key c.hkey (t q) y2, q_b1, q_b1, if_pos hx]
