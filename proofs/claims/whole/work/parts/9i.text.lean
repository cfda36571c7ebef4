/-! text, taken: one text more in both. -/
theorem x_last_c {A B : Nat → Int32} {key : Int32} : ∀ n, (∀ j, j < n → A j = B j) → x_last A key n = x_last B key n := by
  intro n
  induction n with
  | zero => intro _; rfl
  | succ n ih =>
    intro h
    unfold x_last
    rw [h n (by omega), ih (fun j hj => h j (by omega))]
theorem p_text1 {nS nC nW nT d key laid said : Nat} {c : Nat → Int32} {M M2 : sk_M} (hP : r_p nS nC nW nT d M) (h14 : nT < 14) (hkey : key < 3) (hlaid : laid ≤ 96) (hcd : u_cd c laid 1)
    (ho : ∀ o, o ≠ 10 → o ≠ 18 → o ≠ 44 → o ≠ 45 → o ≠ 46 → o ≠ 48 + nT → o ≠ 62 → o ≠ 64 → o ≠ 88 → o ≠ 89 → M2 o = M o)
    (a1 : M2 10 13 = nI (nT + 1)) (a2 : ∀ j, j ≠ 13 → M2 10 j = M 10 j) (b1 : M2 18 key = nI nT) (b2 : ∀ j, j ≠ key → M2 18 j = M 18 j)
    (c1 : M2 44 nT = nI laid) (c2 : M2 45 nT = nI key) (c3 : M2 46 nT = nI said) (c4 : ∀ o, o = 44 ∨ o = 45 ∨ o = 46 → ∀ j, j ≠ nT → M2 o j = M o j) (c5 : ∀ j, j < laid → M2 (48 + nT) j = c j)
    (h62 : M2 62 2 = 0) (h15 : M2 88 15 = 0) (h88 : ∀ b, b < 15 ∨ 25 < b → M2 88 b = M 88 b)
    (e0 : M2 89 3 = nI (nT + 1)) (e1 : ∀ i, i ≠ 3 → i < 109 + 200 * nT → M2 89 i = M 89 i) (e2 : M2 89 (109 + 200 * nT) = nI key) (e3 : M2 89 (110 + 200 * nT) = nI said) (e4 : M2 89 (111 + 200 * nT) = nI laid)
    (e5 : ∀ j, j < laid → x_rc key (c j) (M2 89 (113 + 200 * nT + 2 * j)) (M2 89 (114 + 200 * nT + 2 * j))) : r_p nS nC nW (nT + 1) d M2 := by
  obtain ⟨⟨hI, hE, hT⟩, h1, h2, h3, h4, h5⟩ := hP
  have b4 := hI.1.1.2.2.2.1
  have hu : ∀ o, o ≠ 10 → o ≠ 18 → o < 44 → M2 o = M o := fun o z1 z2 z3 => ho o z1 z2 (by omega) (by omega) (by omega) (by omega) (by omega) (by omega) (by omega) (by omega)
  have hv : ∀ o, 64 < o → o ≠ 88 → o ≠ 89 → M2 o = M o := fun o z1 z2 z3 => ho o (by omega) (by omega) (by omega) (by omega) (by omega) (by omega) (by omega) (by omega) z2 z3
  have h44 : ∀ o, o = 44 ∨ o = 45 ∨ o = 46 → ∀ j, j < nT → M2 o j = M o j := fun o z j hj => c4 o z j (by omega)
  have h48 : ∀ i, i < nT → M2 (48 + i) = M (48 + i) := fun i hi => ho _ (by omega) (by omega) (by omega) (by omega) (by omega) (by omega) (by omega) (by omega) (by omega) (by omega)
  refine ⟨⟨?_, ?_, ?_⟩, r_img_c (nT := nT) (Nat.le_succ _) (by rw [hu 0 (by omega) (by omega) (by omega)]) (h88 3 (by omega)) (fun o z => hu o (by omega) (by omega) (by omega)) (hv 90 (by omega) (by omega) (by omega)) h44 h48 h1, r_wait_c (by rw [hu 0 (by omega) (by omega) (by omega)]) (hu 3 (by omega) (by omega) (by omega)) (h88 31 (by omega)) (hv 107 (by omega) (by omega) (by omega)) h2, ⟨0, by omega, h62, h15, fun j z => absurd z (by omega)⟩, r_sh_c (fun o z => hv o (by omega) (by omega) (by omega)) h4, r_sl_c (fun o z => hv o (by omega) (by omega) (by omega)) h5⟩
  · obtain ⟨⟨⟨k1, k2, k3, k4, k5⟩, n1, n2, n3, n4, n5⟩, ⟨q1, q2, q3, q4, q5⟩, ⟨z1, z2, z3⟩, hc⟩ := hI
    refine ⟨⟨⟨k1, k2, k3, by omega, k5⟩, (a2 10 (by omega)).trans n1, (a2 12 (by omega)).trans n2, (a2 11 (by omega)).trans n3, a1, (a2 14 (by omega)).trans n5⟩, ⟨?_, ?_, ?_, ?_, ?_⟩, ⟨?_, ?_, ?_⟩, ?_⟩
    · rw [hu (10 + 4) (by omega) (by omega) (by omega)]; exact q1
    · rw [hu (10 + 1) (by omega) (by omega) (by omega)]; exact q2
    · rw [hu (10 + 2) (by omega) (by omega) (by omega)]; exact q3
    · rw [hu (10 + 6) (by omega) (by omega) (by omega)]; exact q4
    · intro i hi k hk; rw [hu (10 + 10 + i) (by omega) (by omega) (by omega)]; exact q5 i hi k hk
    · rw [hu (10 + 3) (by omega) (by omega) (by omega)]; exact z1
    · rw [hu (10 + 6) (by omega) (by omega) (by omega)]; exact z2
    · intro i hi k hk; rw [hu (10 + 10 + i) (by omega) (by omega) (by omega)]; exact z3 i hi k hk
    · intro k hk
      show M2 18 k = f_X7_orNone (if M2 45 nT = nI k then nI nT else x_last (M2 45) (nI k) nT)
      by_cases e : k = key
      · subst e
        rw [if_pos c2, b1, f_X7_orNone, if_pos (show (0 : Int32) ≤ nI nT from nI_le (a := 0) (by omega) (by omega))]
      · rw [c2, if_neg (fun w => e (q_inj (by omega) (by omega) w).symm), b2 k e, x_last_c nT (fun j hj => h44 45 (by omega) j hj)]
        exact hc k hk
  · intro i hi
    by_cases e : i = 3
    · subst e
      exact e0.trans a1.symm
    · have hco := r_co_ne i hi
      have hlt := r_co_lt i hi
      rw [e1 i e (by omega)]
      by_cases z : r_co i = 0
      · have hj : r_cj i ≠ 13 := fun w => e (r_ci i hi 3 (by omega) z w)
        have := hE i hi
        rw [z] at this ⊢
        rw [a2 _ hj]
        exact this
      · rw [hu (10 + r_co i) (by omega) (by omega) (by omega)]
        exact hE i hi
  · intro i hi
    by_cases e : i = nT
    · subst e
      have hw : u_cd (M2 (48 + i)) laid 1 := u_cd_c hcd c5
      exact ⟨e2.trans c2.symm, e3.trans c3.symm, e4.trans c1.symm, key, laid, hkey, c2, hlaid, c1, ⟨by rw [hw.1]; exact Nat.le_refl _, hw.2⟩, fun j hj => by rw [c5 j hj]; exact e5 j hj⟩
    · exact r_txt_c3 (M := M) b4 h44 h48 (fun j z1 z2 => e1 j (by omega) z2) hT i (by omega)
theorem u_readM {t : Nat → Nat} {n A : Nat} {M : sk_M} (hM : u_tc t n M) (hN : u_tm t n M) (hA : A + 192 ≤ 3109) (hA2 : (if (14 : Int32) ≤ M 89 3 then (2909 : Int32) else f_X7_textAt (M 89 3) + 4) = nI A) :
    ∃ x M', f_X0_readTape M = some (x, M') ∧ (∀ o, o ≠ 62 → o ≠ 64 → M' o = M o) ∧ (x < 0 → ∃ key laid said : Nat, key < 3 ∧ laid ≤ 96 ∧ M' 62 6 = nI key ∧ M' 62 7 = nI laid ∧ M' 62 8 = nI said) ∧ ∀ N : sk_M, N 88 15 = M 88 15 → N 102 = M 102 → N 89 3 = M 89 3 → ∃ r N', f_X7_parse N = some (r, N') ∧ u_out n A M N x M' r N' := by
  obtain ⟨x, M', r, N', a1, a2, a3⟩ := u_read hM hN hA hA2
  refine ⟨x, M', a1, a3.1, fun hx => ?_, fun N z1 z2 z3 => ?_⟩
  · rcases a3.2.2.2.2.2 with ⟨q, h1, h2, -⟩ | ⟨-, key, laid, said, k1, k2, -, k3, k4, k5, -⟩
    · exfalso
      have := hM.1
      rw [h2] at hx
      exact nI_nlt (b := 0) (by omega) (by omega) hx
    · exact ⟨key, laid, said, k1, k2, k3, k4, k5⟩
  · obtain ⟨x2, M2, r2, N2, b1, b2, b3⟩ := u_read hM (u_tm_c hN z1 z2) hA (by rw [z3]; exact hA2)
    rw [a1] at b1
    have e := Option.some.inj b1
    rw [← (Prod.mk.inj e).1, ← (Prod.mk.inj e).2] at b3
    exact ⟨r2, N2, b2, b3⟩
/-- the reference's answer to a refused text, or to one too many -/
theorem t_textN {n A : Nat} {M N : sk_M} {x : Int32} {M' : sk_M} {r : Int32} {N' : sk_M} (h : f_X7_parse N = some (r, N')) (hu : u_out n A M N x M' r N') (hn : n ≤ 96) (hx : ¬ x < 0) : f_X7_text N = some ((-100) - x, N') := by
  rcases hu.2.2.2.2.2 with ⟨q, h1, h2, h3, h4⟩ | ⟨h1, -⟩
  · rw [f_X7_text, h, q_b2, if_neg (by rw [h3]; decide), h4, h2]
  · exact absurd (by rw [h1]; decide) hx
