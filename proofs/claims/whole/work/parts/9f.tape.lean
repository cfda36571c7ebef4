/-! The tape read, in both. -/
def u_out (n A : Nat) (M N : sk_M) (x : Int32) (M' : sk_M) (r : Int32) (N' : sk_M) : Prop :=
  (∀ o, o ≠ 62 → o ≠ 64 → M' o = M o) ∧ (∀ o, o ≠ 88 → o ≠ 89 → N' o = N o) ∧ (∀ b, b < 15 ∨ 25 < b → N' 88 b = N 88 b) ∧ N' 88 15 = 0 ∧ (∀ i, i < A ∨ A + 192 ≤ i → N' 89 i = N 89 i) ∧
  ((∃ q, q ≤ n ∧ x = nI q ∧ r = -1 ∧ N' 88 16 = nI q) ∨ (x = -1 ∧ ∃ key laid said : Nat, key < 3 ∧ laid ≤ 96 ∧ r = nI key ∧ M' 62 6 = nI key ∧ M' 62 7 = nI laid ∧ M' 62 8 = nI said ∧ N' 88 23 = nI laid ∧ N' 88 25 = nI said ∧ (∀ j, j < laid → x_rc key (M' 64 j) (N' 89 (A + 2 * j)) (N' 89 (A + 2 * j + 1))) ∧ u_cd (M' 64) laid 1))
theorem u_outF {n A : Nat} {M N M' N' : sk_M} (h : u_F n A M N M' N') : u_out n A M N (M' 62 5) M' (-1) (sk_u N' 88 15 0) := by
  obtain ⟨f, q, h1, h2, h3⟩ := h
  refine ⟨f.frM, fun o z1 z2 => by rw [q_uo z1]; exact f.frN o z1 z2, fun b z => by rw [q_un (by omega)]; exact f.frN8 b (by omega), by rw [q_ue], fun i z => by rw [q_uo (by omega)]; exact f.frN9 i z, Or.inl ⟨q, h1, h2, rfl, by rw [q_un (by omega)]; exact h3⟩⟩
theorem u_read {t : Nat → Nat} {n A : Nat} {M N : sk_M} (hM : u_tc t n M) (hN : u_tm t n N) (hA : A + 192 ≤ 3109) (hA2 : (if (14 : Int32) ≤ N 89 3 then (2909 : Int32) else f_X7_textAt (N 89 3) + 4) = nI A) :
    ∃ x M' r N', f_X0_readTape M = some (x, M') ∧ f_X7_parse N = some (r, N') ∧ u_out n A M N x M' r N' := by
  have hn := hM.1
  obtain ⟨M5, N9, q, k1, k2, hB, hng, e3, e4, e5, e7, e8⟩ := u_begin hM hN hA
  obtain ⟨x, x1, x2, x3⟩ := u_key hB.tc e3 e4 hB.tm hB.hq hng hB.n16 hB.n17 hB.n18
  have hc0 : f_X0_readTape M = sk_let (sk_u M5 62 6 x) (fun M_9 => if 0 ≤ (M_9 62 6) then (sk_b1 (f_X0_moveOn M_9) (fun M_10 => sk_b1 (f_G0 sk_RD 0 0 0 0 M_10) (fun M_12 => if (M_12 62 2) ≤ (M_12 62 3) then (some ((M_12 62 5), M_12)) else (sk_b1 (f_X0_fail M_12) (fun M_14 => some ((M_14 62 5), M_14)))))) else (sk_b1 (f_X0_fail M_9) (fun M_16 => some ((M_16 62 5), M_16)))) := by
    rw [f_X0_readTape, q_let, q_let, q_let, q_let]
    show sk_b1 (f_X0_moveOn (u_M4 M)) _ = _
    rw [k1, q_b1, x1, q_b1]
  have hp0 : f_X7_parse N = sk_let (if x < 0 then 0 else 1 : Int32) (fun x_13 => sk_b2 (if x_13 = 0 then (some (x_13, N9)) else (sk_b1 (f_X7_nextToken N9) (fun M_15 => sk_b2 (f_G7 sk_RD 0 x M_15) (fun x_17 M_18 => sk_let (if x_17 = 0 then 0 else (if (M_18 88 18) = 0 then 1 else 0 : Int32) : Int32) (fun x_20 => some (x_20, M_18)))))) (fun x_21 M_22 => sk_let (sk_u M_22 88 15 0) (fun M_23 => some ((if x_21 = 0 then (-1) else x : Int32), M_23)))) := by
    have e : sk_u (sk_u (sk_u (sk_u (sk_u (sk_u N 88 17 0) 88 18 3) 88 21 0) 88 22 0) 88 23 0) 88 25 0 89 = N 89 := by rw [q_uo (by omega), q_uo (by omega), q_uo (by omega), q_uo (by omega), q_uo (by omega), q_uo (by omega)]
    rw [f_X7_parse, q_let, q_let, q_let, q_let, q_let, q_let, q_let, e, hA2]
    show sk_b1 (f_X7_nextToken (u_N8 A N)) _ = _
    rw [k2, q_b1, x2, q_b1]
  rcases x3 with rfl | ⟨key, hkey, rfl, hq3, hk1, hq⟩
  · -- no key
    have f5 : sk_u M5 62 6 (-1) 62 5 = -1 := by rw [q_un (by omega)]; exact e5
    have f3 : sk_u M5 62 6 (-1) 62 3 = nI q := by rw [q_un (by omega)]; exact e3
    have hF : u_F n A M N (sk_u (sk_u M5 62 6 (-1)) 62 5 (nI q)) N9 := ⟨⟨fun o z1 z2 => by rw [q_uo z1, q_uo z1]; exact hB.fr.frM o z1 z2, by rw [q_un (by omega), q_un (by omega)]; exact hB.fr.frM2, hB.fr.frN, hB.fr.frN8, hB.fr.frN9⟩, q, hB.hq, by rw [q_ue], hB.n16⟩
    refine ⟨_, _, _, _, ?_, ?_, u_outF hF⟩
    · rw [hc0, q_let, q_ue, if_neg (by decide), u_fail f5, f3, q_b1]
    · rw [hp0, q_let, if_pos (by decide), q_b2, q_let, ite_self]
  · have hR : u_R t n key A 1 0 0 0 M N q 0 0 0 (sk_u M5 62 6 (nI key)) N9 := by
      have b := hB
      have h2 : ∀ a j, a ≠ 62 ∨ j ≠ 6 → sk_u M5 62 6 (nI key) a j = M5 a j := fun a j z => q_un z
      refine ⟨⟨b.hq, b.hA, b.hl, b.hlo, b.hd, b.hu, u_tc_c b.tc (h2 62 2 (by omega)) (q_uo (by omega)), b.tm, b.n16, b.n17, b.n18, b.nL, b.nD, b.nS, b.n21, b.n22, b.n23, b.n24, b.n25, ⟨fun o z1 z2 => by rw [q_uo z1]; exact b.fr.frM o z1 z2, by rw [h2 62 2 (by omega)]; exact b.fr.frM2, b.fr.frN, b.fr.frN8, b.fr.frN9⟩⟩, hkey, by rw [h2 62 3 (by omega)]; exact e3, by rw [h2 62 4 (by omega)]; exact e4, by rw [h2 62 5 (by omega)]; exact e5, by rw [q_ue], by rw [h2 62 7 (by omega)]; exact e7, by rw [h2 62 8 (by omega)]; exact e8, hng, fun j z => absurd z (by omega), rfl, fun j z => absurd z (by omega)⟩
    obtain ⟨M10, N15, a1, a2, a3⟩ := u_mv hR hq (by omega)
    obtain ⟨M12, r, N18, b1, b2, b3⟩ := u_simS (u_top (t := t) (n := n) (key := key) (A := A) (M0 := M) (N0 := N)) a3
    have hpos : (0 : Int32) ≤ nI key := nI_le (a := 0) (by omega) (by omega)
    have hneg : ¬ nI key < (0 : Int32) := nI_nlt (b := 0) (by omega) (by omega)
    have hc1 : f_X0_readTape M = if (M12 62 2) ≤ (M12 62 3) then (some ((M12 62 5), M12)) else (sk_b1 (f_X0_fail M12) (fun M_14 => some ((M_14 62 5), M_14))) := by
      rw [hc0, q_let, q_ue, if_pos hpos, a1, q_b1, b1, q_b1]
    have hp1 : f_X7_parse N = some ((if (if r = 0 then (0 : Int32) else (if N18 88 18 = 0 then 1 else 0)) = 0 then (-1) else nI key), sk_u N18 88 15 0) := by
      rw [hp0, if_neg hneg, q_let, if_neg (by decide), a2, q_b1, b2, q_b2, q_let, q_b2, q_let]
    have hdead : (0 : Int32) ≤ M12 62 5 → f_X0_readTape M = some (M12 62 5, M12) := fun z => by
      rw [hc1, u_failD z, q_b1]
      exact ite_self _
    rcases b3 with ⟨hr, q', laid, said, z | z⟩ | ⟨hr, hF⟩
    · have hr0 : ¬ r = 0 := by rw [hr]; decide
      by_cases y : q' < n
      · obtain ⟨f1, f2⟩ := u_failF z
        refine ⟨_, _, _, _, ?_, ?_, u_outF f2⟩
        · rw [hc1, z.1.tc.2.1, z.2.m3, if_neg (nI_ge y (by omega)), f1, q_b1]
        · have hk0 : ¬ N18 88 18 = 0 := by
            rw [z.1.n18]
            intro w
            have e0 := q_inj (b := 0) (by have := u_k_le t n q'; omega) (by omega) w
            unfold u_k at e0
            rw [if_pos y] at e0
            repeat' split at e0
            all_goals omega
          rw [hp1, if_neg hr0, if_neg hk0, if_pos rfl]
      · have hk0 : N18 88 18 = 0 := by rw [z.1.n18]; unfold u_k; rw [if_neg y]; rfl
        have hl := z.1.hl
        have hqn := z.1.hq
        refine ⟨-1, M12, nI key, sk_u N18 88 15 0, ?_, ?_, z.1.fr.frM, fun o z1 z2 => by rw [q_uo z1]; exact z.1.fr.frN o z1 z2, fun b w => by rw [q_un (by omega)]; exact z.1.fr.frN8 b (by omega), by rw [q_ue], fun i w => by rw [q_uo (by omega)]; exact z.1.fr.frN9 i w, Or.inr ⟨rfl, key, laid, said, hkey, by omega, rfl, z.2.m6, z.2.m7, z.2.m8, by rw [q_un (by omega)]; exact z.1.n23, by rw [q_un (by omega)]; exact z.1.n25, by rw [q_uo (by omega)]; exact z.2.cs, z.2.cd⟩⟩
        · rw [hc1, z.1.tc.2.1, z.2.m3, if_pos (nI_le (by omega) (by omega)), z.2.m5]
        · rw [hp1, if_neg hr0, if_pos hk0, if_neg (by decide)]
    · obtain ⟨g1, g2, g3⟩ := u_G_5 z
      refine ⟨_, _, _, _, hdead g1, ?_, u_outF g3⟩
      rw [hp1, if_neg (show ¬ r = 0 by rw [hr]; decide), if_neg (show ¬ N18 88 18 = 0 by rw [g2]; decide), if_pos rfl]
    · refine ⟨_, _, _, _, hdead (u_F_5 hn hF), ?_, u_outF hF⟩
      rw [hp1, if_pos hr, if_pos rfl]
