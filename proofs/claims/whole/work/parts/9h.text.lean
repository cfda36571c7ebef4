/-! text, refused: nothing told of has changed. -/
theorem r_txt_c3 {t nT : Nat} {M M' : sk_M} (hT : nT ≤ 14) (hl : ∀ o, o = 44 ∨ o = 45 ∨ o = 46 → ∀ j, j < nT → M' o j = M o j) (hl8 : ∀ i, i < nT → M' (48 + i) = M (48 + i)) (ht : ∀ j, 109 ≤ j → j < 109 + 200 * nT → M' t j = M t j) (q : r_txt t nT M) : r_txt t nT M' := by
  intro i hi
  obtain ⟨q1, q2, q3, key, sz, q4, q5, q6, q7, q8, q9⟩ := q i hi
  refine ⟨?_, ?_, ?_, key, sz, q4, ?_, q6, ?_, ?_, ?_⟩
  · rw [ht _ (by omega) (by omega), hl 45 (by omega) i hi]; exact q1
  · rw [ht _ (by omega) (by omega), hl 46 (by omega) i hi]; exact q2
  · rw [ht _ (by omega) (by omega), hl 44 (by omega) i hi]; exact q3
  · rw [hl 45 (by omega) i hi]; exact q5
  · rw [hl 44 (by omega) i hi]; exact q7
  · rw [hl8 i hi]; exact q8
  · intro j hj
    rw [hl8 i hi, ht _ (by omega) (by omega), ht _ (by omega) (by omega)]
    exact q9 j hj
theorem p_text0 {nS nC nW nT d : Nat} {M M2 : sk_M} (hP : r_p nS nC nW nT d M) (ho : ∀ o, o ≠ 62 → o ≠ 64 → o ≠ 88 → o ≠ 89 → M2 o = M o) (h62 : M2 62 2 = 0) (h15 : M2 88 15 = 0) (h88 : ∀ b, b < 15 ∨ 25 < b → M2 88 b = M 88 b) (h89 : ∀ i, i < u_A nT → M2 89 i = M 89 i) : r_p nS nC nW nT d M2 := by
  obtain ⟨⟨hI, hE, hT⟩, h1, h2, h3, h4, h5⟩ := hP
  have b4 := hI.1.1.2.2.2.1
  have hA := u_A_b b4
  refine ⟨⟨r_inv_c hI (fun o z => ho o (by omega) (by omega) (by omega) (by omega)) (ho 45 (by omega) (by omega) (by omega) (by omega)), r_eq_c hE (fun o z => ho o (by omega) (by omega) (by omega) (by omega)) (fun i hi => h89 i (by omega)), r_txt_c3 b4 (fun o z j _ => by rw [ho o (by omega) (by omega) (by omega) (by omega)]) (fun i hi => ho _ (by omega) (by omega) (by omega) (by omega)) (fun j _ hj => h89 j (by omega)) hT⟩, r_img_c (Nat.le_refl _) (by rw [ho 0 (by omega) (by omega) (by omega) (by omega)]) (h88 3 (by omega)) (fun o z => ho o (by omega) (by omega) (by omega) (by omega)) (ho 90 (by omega) (by omega) (by omega) (by omega)) (fun o z j _ => by rw [ho o (by omega) (by omega) (by omega) (by omega)]) (fun i hi => ho _ (by omega) (by omega) (by omega) (by omega)) h1, r_wait_c (by rw [ho 0 (by omega) (by omega) (by omega) (by omega)]) (ho 3 (by omega) (by omega) (by omega) (by omega)) (h88 31 (by omega)) (ho 107 (by omega) (by omega) (by omega) (by omega)) h2, ⟨0, by omega, h62, h15, fun j z => absurd z (by omega)⟩, r_sh_c (fun o z => ho o (by omega) (by omega) (by omega) (by omega)) h4, r_sl_c (fun o z => ho o (by omega) (by omega) (by omega) (by omega)) h5⟩
