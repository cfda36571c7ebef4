/-! Leaves. -/
theorem u_failF {t : Nat → Nat} {n key A s lo d u q laid said D : Nat} {M0 N0 M N : sk_M} (h : u_R t n key A s lo d u M0 N0 q laid said D M N) : f_X0_fail M = some (sk_u M 62 5 (nI q)) ∧ u_F n A M0 N0 (sk_u M 62 5 (nI q)) N := by
  obtain ⟨b, c⟩ := h
  refine ⟨by rw [u_fail c.m5, c.m3], ⟨fun o z1 z2 => by rw [q_uo z1]; exact b.fr.frM o z1 z2, by rw [q_un (by omega)]; exact b.fr.frM2, b.fr.frN, b.fr.frN8, b.fr.frN9⟩, q, b.hq, by rw [q_ue], b.n16⟩
theorem u_failD {M : sk_M} (h : (0 : Int32) ≤ M 62 5) : f_X0_fail M = some M := by rw [f_X0_fail, if_pos h]
theorem u_leafD {M : sk_M} (h : (0 : Int32) ≤ M 62 5) : f_X0_readLeaf M = some M := by
  rw [f_X0_readLeaf, f_X0_leafCode, if_pos h, q_b1, if_neg (by decide), u_failD h, q_b1]
theorem u_numL {t : Nat → Nat} {n e : Nat} {M : sk_M} (h : u_tc t n M) (he : e ≤ n) (h4 : M 62 4 = nI e) : ∀ (m j fu : Nat) (a : Int32), j + m = e → m < fu → f_X0_numberHere_L7 M fu a (nI j) = some (u_num t m j a) := by
  have h9 := h.1
  intro m
  induction m with
  | zero =>
    intro j fu a hj hfu
    obtain ⟨g, rfl⟩ : ∃ g, fu = g + 1 := ⟨fu - 1, by omega⟩
    rw [f_X0_numberHere_L7, h4, if_pos (nI_le (by omega) (by omega))]
    rfl
  | succ m ih =>
    intro j fu a hj hfu
    obtain ⟨g, rfl⟩ : ∃ g, fu = g + 1 := ⟨fu - 1, by omega⟩
    rw [f_X0_numberHere_L7, h4, if_neg (nI_ge (by omega) (by omega)), q_chkI (by omega) (by omega), q_let, q_clamp (by omega), (h.2.2 j (by omega)).1, nI_1]
    exact ih (j + 1) g _ (by omega) (by omega)
theorem u_num_n {t : Nat → Nat} : ∀ (m j a : Nat), (∀ i, j ≤ i → i < j + m → u_D (t i) = true) → ∃ b, u_num t m j (nI a) = nI b ∧ b < (a + 1) * 10 ^ m := by
  intro m
  induction m with
  | zero => intro j a _; exact ⟨a, rfl, by omega⟩
  | succ m ih =>
    intro j a hd
    have hj := of_decide_eq_true (hd j (by omega) (by omega))
    have e : nI a * 10 + nI (t j) - 48 = nI (10 * a + (t j - 48)) := by
      rw [show nI a * (10 : Int32) = nI (a * 10) from pk_mul a 10, nI_add, show nI (a * 10 + t j) - (48 : Int32) = nI (a * 10 + t j - 48) from pk_sub (b := 48) (by omega)]
      congr 1
      omega
    obtain ⟨b, b1, b2⟩ := ih (j + 1) (10 * a + (t j - 48)) (fun i z1 z2 => hd i (by omega) (by omega))
    refine ⟨b, ?_, ?_⟩
    · show u_num t m (j + 1) (nI a * 10 + nI (t j) - 48) = _
      rw [e]; exact b1
    · have h2 : 10 * a + (t j - 48) + 1 ≤ (a + 1) * 10 := by omega
      have h3 := Nat.mul_le_mul_right (10 ^ m) h2
      rw [Nat.pow_succ, Nat.mul_comm (10 ^ m) 10, ← Nat.mul_assoc]
      omega
theorem u_said {t : Nat → Nat} {n key A s lo d u q laid said D : Nat} {M0 N0 M N : sk_M} (h : u_R t n key A s lo d u M0 N0 q laid said D M N) (sd : Nat) : u_R t n key A s lo d u M0 N0 q laid sd D (sk_u M 62 8 (nI sd)) (sk_u N 88 25 (nI sd)) := by
  obtain ⟨b, c⟩ := h
  have hM : ∀ a j, a ≠ 62 ∨ j ≠ 8 → sk_u M 62 8 (nI sd) a j = M a j := fun a j z => q_un z
  have hN : ∀ a j, a ≠ 88 ∨ j ≠ 25 → sk_u N 88 25 (nI sd) a j = N a j := fun a j z => q_un z
  have h63 : sk_u M 62 8 (nI sd) 63 = M 63 := q_uo (by omega)
  have h64 : sk_u M 62 8 (nI sd) 64 = M 64 := q_uo (by omega)
  have h89 : sk_u N 88 25 (nI sd) 89 = N 89 := q_uo (by omega)
  refine ⟨⟨b.hq, b.hA, b.hl, b.hlo, b.hd, b.hu, u_tc_c b.tc (hM _ _ (by omega)) h63, u_tm_c b.tm (hN _ _ (by omega)) (q_uo (by omega)), ?_, ?_, ?_, ?_, ?_, ?_, ?_, ?_, ?_, ?_, ?_, ?_⟩, c.hkey, ?_, ?_, ?_, ?_, ?_, ?_, c.ng, ?_, ?_⟩
  · rw [hN _ _ (by omega)]; exact b.n16
  · rw [hN _ _ (by omega)]; exact b.n17
  · rw [hN _ _ (by omega)]; exact b.n18
  · rw [hN _ _ (by omega)]; exact b.nL
  · rw [hN _ _ (by omega)]; exact b.nD
  · rw [hN _ _ (by omega)]; exact b.nS
  · rw [hN _ _ (by omega)]; exact b.n21
  · rw [hN _ _ (by omega)]; exact b.n22
  · rw [hN _ _ (by omega)]; exact b.n23
  · rw [hN _ _ (by omega)]; exact b.n24
  · rw [q_ue]
  · exact ⟨fun o z1 z2 => by rw [q_uo z1]; exact b.fr.frM o z1 z2, by rw [hM _ _ (by omega)]; exact b.fr.frM2, fun o z1 z2 => by rw [q_uo z1]; exact b.fr.frN o z1 z2, fun j z => by rw [hN _ _ (by omega)]; exact b.fr.frN8 j z, fun i z => by rw [h89]; exact b.fr.frN9 i z⟩
  · rw [hM _ _ (by omega)]; exact c.m3
  · rw [hM _ _ (by omega)]; exact c.m4
  · rw [hM _ _ (by omega)]; exact c.m5
  · rw [hM _ _ (by omega)]; exact c.m6
  · rw [hM _ _ (by omega)]; exact c.m7
  · rw [q_ue]
  · rw [h64, h89]; exact c.cs
  · rw [h64]; exact c.cd
/-- the reference's depths, set -/
theorem u_B_du {t : Nat → Nat} {n A s lo d u d' u' q laid said : Nat} {M0 N0 M N N' : sk_M} (b : u_B t n A s lo d u M0 N0 q laid said M N) (hd : d' ≤ 8) (hu : u' ≤ 8) (h21 : N' 88 21 = nI d') (h22 : N' 88 22 = nI u') (hN : ∀ a j, a ≠ 88 ∨ (j ≠ 21 ∧ j ≠ 22) → N' a j = N a j) : u_B t n A s lo d' u' M0 N0 q laid said M N' := by
  have hNo : ∀ o, o ≠ 88 → N' o = N o := fun o z => funext fun j => hN o j (Or.inl z)
  refine ⟨b.hq, b.hA, b.hl, b.hlo, hd, hu, b.tc, u_tm_c b.tm (hN _ _ (by omega)) (hNo 102 (by omega)), ?_, ?_, ?_, ?_, ?_, ?_, h21, h22, ?_, ?_, ?_, ?_⟩
  · rw [hN _ _ (by omega)]; exact b.n16
  · rw [hN _ _ (by omega)]; exact b.n17
  · rw [hN _ _ (by omega)]; exact b.n18
  · rw [hN _ _ (by omega)]; exact b.nL
  · rw [hN _ _ (by omega)]; exact b.nD
  · rw [hN _ _ (by omega)]; exact b.nS
  · rw [hN _ _ (by omega)]; exact b.n23
  · rw [hN _ _ (by omega)]; exact b.n24
  · rw [hN _ _ (by omega)]; exact b.n25
  · exact ⟨b.fr.frM, b.fr.frM2, fun o z1 z2 => by rw [hNo o z1]; exact b.fr.frN o z1 z2, fun j z => by rw [hN _ _ (by omega)]; exact b.fr.frN8 j z, fun i z => by rw [hNo 89 (by omega)]; exact b.fr.frN9 i z⟩
theorem u_Q_N {t : Nat → Nat} {n key A q laid said D : Nat} {M N N' : sk_M} (c : u_Q t n key A q laid said D M N) (h : N' 89 = N 89) : u_Q t n key A q laid said D M N' := ⟨c.hkey, c.m3, c.m4, c.m5, c.m6, c.m7, c.m8, c.ng, by rw [h]; exact c.cs, c.cd⟩
theorem u_S_du {t : Nat → Nat} {n key A s lo d u d' u' D : Nat} {M0 N0 M N N' : sk_M} (h : u_S t n key A s lo d u M0 N0 D M N) (hd : d' ≤ 8) (hu : u' ≤ 8) (h21 : N' 88 21 = nI d') (h22 : N' 88 22 = nI u') (hN : ∀ a j, a ≠ 88 ∨ (j ≠ 21 ∧ j ≠ 22) → N' a j = N a j) : u_S t n key A s lo d' u' M0 N0 D M N' := by
  obtain ⟨q, laid, said, h | h⟩ := h
  · exact ⟨q, laid, said, Or.inl ⟨u_B_du h.1 hd hu h21 h22 hN, u_Q_N h.2 (funext fun j => hN 89 j (by omega))⟩⟩
  · exact ⟨q, laid, said, Or.inr ⟨u_B_du h.1 hd hu h21 h22 hN, h.2⟩⟩
theorem u_S_s {t : Nat → Nat} {n key A s s' lo d u D : Nat} {M0 N0 M N : sk_M} (hl : s' ≤ s) (h : u_S t n key A s lo d u M0 N0 D M N) : u_S t n key A s' lo d u M0 N0 D M N := by
  obtain ⟨q, laid, said, h | h⟩ := h
  · exact ⟨q, laid, said, Or.inl ⟨⟨h.1.1, h.1.2.1, by have := h.1.hl; omega, h.1.2.2.2⟩, h.2⟩⟩
  · exact ⟨q, laid, said, Or.inr ⟨⟨h.1.1, h.1.2.1, by have := h.1.hl; omega, h.1.2.2.2⟩, h.2⟩⟩
theorem u_leaf {t : Nat → Nat} {n key A s lo d u q laid said D : Nat} {M0 N0 M N : sk_M} {x p v : Int32} (h : u_R t n key A (s + 1) lo d u M0 N0 q laid said D M N) (hq : q < n) (hk : u_k t n q ≠ 4) (hx : f_X0_leafCode M = some x) (h3 : (-3 : Int32) ≤ x) (hrc : x_rc key x p v) :
    ∃ M' N', f_X0_readLeaf M = some M' ∧ sk_b1 (f_X7_step p v N) (fun N1 => sk_let (sk_u N1 88 25 ((N1 88 25) + 1)) (fun N2 => sk_b1 (f_X7_nextToken N2) (fun N3 => some ((1 : Int32), N3)))) = some (1, N') ∧ u_S t n key A (s + 1) (lo + 1) d u M0 N0 (D + 1) M' N' := by
  have hn := h.1.tc.1
  have hl := h.1.hl
  have hx3 : ¬ x < -3 := fun z => by rw [q_leI] at h3; rw [q_ltI] at z; omega
  obtain ⟨p1, p2, p3⟩ := u_put h (by omega) hrc (u_cd_leaf h.2.cd hx3)
  have p4 := u_said p3 (said + 1)
  obtain ⟨M', N', k1, k2, k3⟩ := u_mv p4 hq hk
  refine ⟨M', N', ?_, ?_, k3⟩
  · rw [f_X0_readLeaf, hx, q_b1, if_pos h3, p1, q_b1, p3.2.m8, nI_1, q_let, k1, q_b1]
  · rw [p2, q_b1, p3.1.n25, nI_1, q_let, k2, q_b1]
