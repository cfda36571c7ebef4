/-! Frames; a day's fading on both sides. -/
/-- the class's objects of World w that are fixed while something fades, and its library, are as they were -/
def r_cs (w : Nat) (M M' : sk_M) : Prop := ∀ o, (w ≤ o ∧ o ≤ w + 6) ∨ o = w + 8 → M' o = M o
def r_lib (M M' : sk_M) : Prop := ∀ o, 44 ≤ o → o < 62 → o ≠ 47 → M' o = M o
def r_ag (T T' : Nat → Int32) : Prop := ∀ i, i ≠ 4 → (i < 43 ∨ 97 ≤ i) → T' i = T i
theorem r_cs.trans {w : Nat} {M M' M2 : sk_M} (h : r_cs w M M') (h2 : r_cs w M' M2) : r_cs w M M2 := fun o q => (h2 o q).trans (h o q)
theorem r_lib.trans {M M' M2 : sk_M} (h : r_lib M M') (h2 : r_lib M' M2) : r_lib M M2 := fun o q q2 q3 => (h2 o q q2 q3).trans (h o q q2 q3)
theorem r_cou_c {w nT : Nat} {M M' : sk_M} (h : r_cs w M M') (hl : r_lib M M') (q : r_cou w nT M) : r_cou w nT M' := by
  intro k hk
  rw [h (w + 8) (Or.inr rfl), hl 45 (by omega) (by omega) (by omega)]
  exact q k hk
theorem r_t1_c {t i : Nat} {M M' : sk_M} (hi : i < 14) (hl : r_lib M M') (ht : ∀ j, 109 ≤ j → M' t j = M t j) (q : r_t1 t i M) : r_t1 t i M' := by
  obtain ⟨q1, q2, q3, key, sz, q4, q5, q6, q7, q8, q9⟩ := q
  refine ⟨?_, ?_, ?_, key, sz, q4, ?_, q6, ?_, ?_, ?_⟩
  · rw [ht _ (by omega), hl 45 (by omega) (by omega) (by omega)]; exact q1
  · rw [ht _ (by omega), hl 46 (by omega) (by omega) (by omega)]; exact q2
  · rw [ht _ (by omega), hl 44 (by omega) (by omega) (by omega)]; exact q3
  · rw [hl 45 (by omega) (by omega) (by omega)]; exact q5
  · rw [hl 44 (by omega) (by omega) (by omega)]; exact q7
  · rw [hl (48 + i) (by omega) (by omega) (by omega)]; exact q8
  · intro j hj
    rw [hl (48 + i) (by omega) (by omega) (by omega), ht _ (by omega), ht _ (by omega)]
    exact q9 j hj
theorem r_txt_c {t nT : Nat} {M M' : sk_M} (hT : nT ≤ 14) (hl : r_lib M M') (ht : ∀ j, 109 ≤ j → M' t j = M t j) (q : r_txt t nT M) : r_txt t nT M' := fun i hi => r_t1_c (by omega) hl ht (q i hi)
theorem r_fix_c {w t : Nat} {M M' : sk_M} (h : r_cs w M M') (ht : r_ag (M t) (M' t)) (q : r_fix w t M) : r_fix w t M' := by
  obtain ⟨⟨a0, a1, a2, a3, a5⟩, b, c, d, e⟩ := q
  have e0 := h w (Or.inl ⟨by omega, by omega⟩)
  refine ⟨⟨?_, ?_, ?_, ?_, ?_⟩, fun k hk => ?_, fun k hk => ?_, fun k hk => ?_, fun k hk => ?_⟩
  · rw [ht 0 (by omega) (by omega), e0]; exact a0
  · rw [ht 1 (by omega) (by omega), e0]; exact a1
  · rw [ht 2 (by omega) (by omega), e0]; exact a2
  · rw [ht 3 (by omega) (by omega), e0]; exact a3
  · rw [ht 5 (by omega) (by omega), e0]; exact a5
  · rw [ht _ (by omega) (by omega), h (w + 4) (Or.inl ⟨by omega, by omega⟩)]; exact b k hk
  · rw [ht _ (by omega) (by omega), ht _ (by omega) (by omega), ht _ (by omega) (by omega), h (w + 1) (Or.inl ⟨by omega, by omega⟩), h (w + 2) (Or.inl ⟨by omega, by omega⟩), h (w + 3) (Or.inl ⟨by omega, by omega⟩)]; exact c k hk
  · rw [ht _ (by omega) (by omega), h (w + 6) (Or.inl ⟨by omega, by omega⟩)]; exact d k hk
  · rw [ht _ (by omega) (by omega), h (w + 5) (Or.inl ⟨by omega, by omega⟩)]; exact e k hk
theorem x_ls_c {w nT : Nat} {M M' : sk_M} (hT : nT ≤ 14) (hcou : r_cou w nT M) (h : r_cs w M M') (hl : r_lib M M') : x_ls w M' = x_ls w M := by
  funext k amt warm day
  unfold x_ls x_fade x_val
  rw [h (w + 1) (Or.inl ⟨by omega, by omega⟩), h (w + 2) (Or.inl ⟨by omega, by omega⟩), h (w + 8) (Or.inr rfl), hl 44 (by omega) (by omega) (by omega)]
  rcases x_cou0 hT hcou (k := 0) (by omega) with ⟨q, -⟩ | ⟨i, q1, q2, q3, -⟩
  · rw [if_pos q, if_pos q]
  · rw [q3, q_clamp (by omega), hl (48 + i) (by omega) (by omega) (by omega)]
theorem x_uAc {M : sk_M} {a b : Nat} {f g : Nat → Int32} (h : a ≠ b) : sk_uA (sk_uA M a f) b g = sk_uA (sk_uA M b g) a f := by
  funext o
  unfold sk_uA
  by_cases h1 : o = b
  · subst h1
    rw [if_pos rfl, if_neg (Ne.symm h), if_pos rfl]
  · by_cases h2 : o = a
    · subst h2
      rw [if_neg h1, if_pos rfl, if_pos rfl]
    · rw [if_neg h1, if_neg h2, if_neg h2, if_neg h1]
def x_ctx (M : sk_M) (nT : Nat) : Prop := nT ≤ 14 ∧ ∀ i, i < nT → ∃ sz, sz ≤ 96 ∧ M 44 i = nI sz ∧ x_wf (M (48 + i)) sz
theorem x_ctx_of {t nT : Nat} {M : sk_M} (hT : nT ≤ 14) (h : r_txt t nT M) : x_ctx M nT := ⟨hT, fun i hi => by
  obtain ⟨-, -, -, key, sz, -, -, q6, q7, q8, -⟩ := h i hi
  exact ⟨sz, q6, q7, q8⟩⟩
theorem x_ctx_c {nT : Nat} {M M' : sk_M} (hl : r_lib M M') (h : x_ctx M nT) : x_ctx M' nT := ⟨h.1, fun i hi => by
  have h14 := h.1
  obtain ⟨sz, q1, q2, q3⟩ := h.2 i hi
  exact ⟨sz, q1, by rw [hl 44 (by omega) (by omega) (by omega)]; exact q2, by rw [hl (48 + i) (by omega) (by omega) (by omega)]; exact q3⟩⟩
/-- a row behind a day -/
def x_fr (w : Nat) (M : sk_M) (nS : Nat) (r : Nat → Int32) (warm day : Int32) : Nat → Int32 := fun k => if k < nS then r k - x_ls w M k (r k) warm day else r k
/-- a row that a world's fading writes -/
def x_row (w o : Nat) : Prop := o = 7 ∨ o = 9 ∨ (w + 10 ≤ o ∧ o < w + 16)
theorem x_row_cs {w o : Nat} (hw : sk_isW w) (h : x_row w o) (M : sk_M) (r B : Nat → Int32) : r_cs w M (sk_uA (sk_uA M o r) 47 B) ∧ r_lib M (sk_uA (sk_uA M o r) 47 B) := by
  unfold x_row at h
  constructor
  · intro q hq
    rw [sk_uA_ne _ _ (by rcases hw with rfl | rfl <;> omega), sk_uA_ne _ _ (by rcases hw with rfl | rfl <;> omega)]
  · intro q h1 h2 h3
    rw [sk_uA_ne _ _ h3, sk_uA_ne _ _ (by rcases hw with rfl | rfl <;> omega)]
theorem x_fadeL {w o nS nT : Nat} {M : sk_M} (hw : sk_isW w) (ho : x_row w o) (h9 : nS ≤ 9) (hn : M w 10 = nI nS) (hcx : x_ctx M nT) (hcou : r_cou w nT M) (warm day : Int32) :
    ∀ (m k fu : Nat) (r B : Nat → Int32), k + m = nS → m < fu → ∃ B', f_X5_fadeRow_L3 w o warm day fu (nI k) (sk_uA (sk_uA M o r) 47 B) = some (sk_uA (sk_uA M o (fun j => if k ≤ j ∧ j < nS then r j - x_ls w M j (r j) warm day else r j)) 47 B') := by
  intro m
  have hwo : w ≠ 47 ∧ w ≠ o ∧ o ≠ 47 := by unfold x_row at ho; rcases hw with rfl | rfl <;> omega
  induction m with
  | zero =>
    intro k fu r B hk hfu
    obtain ⟨g, rfl⟩ : ∃ g, fu = g + 1 := ⟨fu - 1, by omega⟩
    refine ⟨B, ?_⟩
    rw [f_X5_fadeRow_L3, sk_uA_ne _ _ hwo.1, sk_uA_ne _ _ hwo.2.1, hn, if_pos (nI_le (by omega) (by omega))]
    congr 3
    funext j
    rw [if_neg (by omega)]
  | succ m ih =>
    intro k fu r B hk hfu
    obtain ⟨g, rfl⟩ : ∃ g, fu = g + 1 := ⟨fu - 1, by omega⟩
    obtain ⟨c1, c2⟩ := x_row_cs hw ho M r B
    obtain ⟨B1, hB1⟩ := x_lossC (k := k) hw (by omega) hcx.1 (r_cou_c c1 c2 hcou) (x_ctx_c c2 hcx).2 (r k) warm day
    have er : sk_uA (sk_uA M o r) 47 B o = r := by rw [sk_uA_ne _ _ hwo.2.2, sk_uA_self]
    rw [x_ls_c hcx.1 hcou c1 c2] at hB1
    obtain ⟨B', hB'⟩ := ih (k + 1) g (upd r k (r k - x_ls w M k (r k) warm day)) B1 (by omega) (by omega)
    refine ⟨B', ?_⟩
    rw [f_X5_fadeRow_L3, sk_uA_ne _ _ hwo.1, sk_uA_ne _ _ hwo.2.1, hn, if_neg (nI_ge (by omega) (by omega)), q_chkI (by omega) (by omega), q_chkI (by omega) (by omega), q_clamp (by omega), er, hB1, q_b2, q_chkI (by omega) (by omega), q_let, nI_1]
    have em : sk_u (sk_uA (sk_uA (sk_uA M o r) 47 B) 47 B1) o k (r k - x_ls w M k (r k) warm day) = sk_uA (sk_uA M o (upd r k (r k - x_ls w M k (r k) warm day))) 47 B1 := by
      unfold sk_u
      rw [x_uA2, sk_uA_ne _ _ hwo.2.2, sk_uA_self, x_uAc (Ne.symm hwo.2.2), x_uA2]
    rw [em, hB']
    congr 3
    funext j
    rw [q_upd]
    by_cases h1 : j = k
    · subst h1
      rw [if_neg (by omega), if_pos rfl, if_pos (by omega)]
    · rw [if_neg h1]
      by_cases h2 : k + 1 ≤ j ∧ j < nS
      · rw [if_pos h2, if_pos (by omega)]
      · rw [if_neg h2, if_neg (by omega)]
theorem x_fadeRow {w o nS nT : Nat} {M : sk_M} (hw : sk_isW w) (ho : x_row w o) (h9 : nS ≤ 9) (hn : M w 10 = nI nS) (hcx : x_ctx M nT) (hcou : r_cou w nT M) (warm day : Int32) :
    ∃ B', f_X5_fadeRow w o warm day M = some (sk_uA (sk_uA M o (x_fr w M nS (M o) warm day)) 47 B') := by
  obtain ⟨B', h⟩ := x_fadeL hw ho h9 hn hcx hcou warm day nS 0 sk_FU (M o) (M 47) (by omega) (by unfold sk_FU; omega)
  have e : sk_uA (sk_uA M o (M o)) 47 (M 47) = M := by rw [x_uA_id, x_uA_id]
  rw [e] at h
  have h' : f_X5_fadeRow_L3 w o warm day sk_FU 0 M = _ := h
  refine ⟨B', ?_⟩
  rw [f_X5_fadeRow, h', q_b1]
  congr 3
  funext j
  unfold x_fr
  by_cases h1 : j < nS
  · rw [if_pos h1, if_pos (by omega)]
  · rw [if_neg h1, if_neg (by omega)]
