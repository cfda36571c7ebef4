/-! The key of a text. -/
def u_len (o : Nat) : Nat := if o = 0 then 4 else if o = 1 then 5 else 3
def u_kb (o j : Nat) : Nat := (if o = 0 then [102, 97, 100, 101] else if o = 1 then [112, 114, 105, 99, 101] else [108, 105, 101]).getD j 0
def u_mt (t : Nat → Nat) (q o : Nat) : Nat → Nat → Bool
  | 0, _ => true
  | m + 1, i => decide (t (q + i) = u_kb o i) && u_mt t q o m (i + 1)
theorem u_chD : ∀ o, o < 3 → ∀ j, j < u_len o → f_J0_charAt_5068e o (nI j) (fun _ _ => 0) = some (nI (u_kb o j)) := by decide +kernel
theorem u_chL : ∀ o, o < 3 → f_J0_length_8abf5 o = nI (u_len o) := by decide +kernel
theorem u_kbB : ∀ o, o < 3 → ∀ j, j < u_len o → u_kb o j < 256 ∧ u_L (u_kb o j) = true := by decide +kernel
theorem u_ch {o j : Nat} {M : sk_M} (ho : o < 3) (hj : j < u_len o) : f_J0_charAt_5068e o (nI j) M = some (nI (u_kb o j)) := by
  have e : f_J0_charAt_5068e o (nI j) M = f_J0_charAt_5068e o (nI j) (fun _ _ => 0) := rfl
  rw [e, u_chD o ho j hj]
theorem u_len_le (o : Nat) : u_len o ≤ 5 ∧ 3 ≤ u_len o := by
  unfold u_len
  by_cases z : o = 0
  · rw [if_pos z]; omega
  · rw [if_neg z]
    by_cases y : o = 1
    · rw [if_pos y]; omega
    · rw [if_neg y]; omega
theorem u_hereL {t : Nat → Nat} {n q o : Nat} {M : sk_M} (ho : o < 3) (h : u_tc t n M) (h3 : M 62 3 = nI q) (hq : q + u_len o ≤ n) : ∀ (m i fu : Nat), i + m = u_len o → m < fu → f_X0_isHere_L20 o M fu (nI i) = some (if u_mt t q o m i = true then Sum.inr () else Sum.inl 0) := by
  have h9 := h.1
  have hl := u_len_le o
  intro m
  induction m with
  | zero =>
    intro i fu hi hfu
    obtain ⟨g, rfl⟩ : ∃ g, fu = g + 1 := ⟨fu - 1, by omega⟩
    rw [f_X0_isHere_L20, u_chL o ho, if_pos (nI_le (by omega) (by omega))]
    rfl
  | succ m ih =>
    intro i fu hi hfu
    obtain ⟨g, rfl⟩ : ∃ g, fu = g + 1 := ⟨fu - 1, by omega⟩
    obtain ⟨y1, y2⟩ := h.2.2 (q + i) (by omega)
    have hkb := u_kbB o ho i (by omega)
    have hmt : u_mt t q o (m + 1) i = (decide (t (q + i) = u_kb o i) && u_mt t q o m (i + 1)) := rfl
    rw [f_X0_isHere_L20, u_chL o ho, if_neg (nI_ge (by omega) (by omega)), h3, nI_add, q_chkI (by omega) (by omega), u_ch ho (by omega), q_b1, q_clamp (by omega), y1, hmt, nI_1]
    by_cases z : t (q + i) = u_kb o i
    · rw [if_pos (by rw [z]), ih (i + 1) g (by omega) (by omega), decide_eq_true z, Bool.true_and]
    · rw [if_neg (fun w => z ((u_eq y2 hkb.1).mp w)), decide_eq_false z, Bool.false_and, if_neg (by decide)]
theorem u_here {t : Nat → Nat} {n q e o : Nat} {M : sk_M} (ho : o < 3) (h : u_tc t n M) (h3 : M 62 3 = nI q) (h4 : M 62 4 = nI e) (hqe : q ≤ e) (hen : e ≤ n) : f_X0_isHere o M = some (if e - q = u_len o ∧ u_mt t q o (u_len o) 0 = true then 1 else 0) := by
  have h9 := h.1
  have hl := u_len_le o
  rw [f_X0_isHere, h3, h4, show nI e - nI q = nI (e - q) from pk_sub hqe, u_chL o ho]
  by_cases z : e - q = u_len o
  · have hL := u_hereL ho h h3 (by omega) (u_len o) 0 sk_FU (by omega) (by unfold sk_FU; omega)
    have hL' : f_X0_isHere_L20 o M sk_FU 0 = _ := hL
    rw [if_pos (by rw [z]), hL']
    by_cases y : u_mt t q o (u_len o) 0 = true
    · rw [if_pos y, if_pos ⟨z, y⟩, q_s0r]
    · rw [if_neg y, if_neg (fun w => y w.2), q_s0l]
  · rw [if_neg (fun w => z (q_inj (by omega) (by omega) w)), if_neg (fun w => z w.1)]
theorem u_mt0 {t : Nat → Nat} {q : Nat} : u_mt t q 0 (u_len 0) 0 = true ↔ t q = 102 ∧ t (q + 1) = 97 ∧ t (q + 2) = 100 ∧ t (q + 3) = 101 := by
  simp [u_mt, u_len, u_kb]
theorem u_mt1 {t : Nat → Nat} {q : Nat} : u_mt t q 1 (u_len 1) 0 = true ↔ t q = 112 ∧ t (q + 1) = 114 ∧ t (q + 2) = 105 ∧ t (q + 3) = 99 ∧ t (q + 4) = 101 := by
  simp [u_mt, u_len, u_kb]
theorem u_mt2 {t : Nat → Nat} {q : Nat} : u_mt t q 2 (u_len 2) 0 = true ↔ t q = 108 ∧ t (q + 1) = 105 ∧ t (q + 2) = 101 := by
  simp [u_mt, u_len, u_kb]
theorem u_by {t : Nat → Nat} {n q i c : Nat} {N : sk_M} (h : u_tm t n N) (hi : q + i < n) (hc : c < 256) {α : Type} {x y : Option α} : sk_chk (sk_in (nI (q + i)) 96) (if N 102 (nI (q + i)).toNatClampNeg = nI c then x else y) = if t (q + i) = c then x else y := by
  have h9 := h.1
  obtain ⟨y1, y2⟩ := h.2.2 (q + i) hi
  rw [q_chkI (by omega) (by omega), q_clamp (by omega), y1]
  by_cases z : t (q + i) = c
  · rw [if_pos z, if_pos (by rw [z])]
  · rw [if_neg z, if_neg (fun w => z ((u_eq y2 hc).mp w))]
theorem u_by1 {t : Nat → Nat} {n q i c : Nat} {N : sk_M} (h : u_tm t n N) (hi : q + i < n) (hc : c < 256) : sk_chk (sk_in (nI (q + i)) 96) (some (if N 102 (nI (q + i)).toNatClampNeg = nI c then (1 : Int32) else 0)) = some (if t (q + i) = c then 1 else 0) := by
  have h9 := h.1
  obtain ⟨y1, y2⟩ := h.2.2 (q + i) hi
  rw [q_chkI (by omega) (by omega), q_clamp (by omega), y1]
  by_cases z : t (q + i) = c
  · rw [if_pos z, if_pos (by rw [z])]
  · rw [if_neg z, if_neg (fun w => z ((u_eq y2 hc).mp w))]
theorem u_w0 {t : Nat → Nat} {n q : Nat} {N : sk_M} (h : u_tm t n N) (hq : q ≤ n) (hg : ¬ u_gl t n q) (h16 : N 88 16 = nI q) (h17 : N 88 17 = nI (u_e t n q)) (h18 : N 88 18 = nI (u_k t n q)) : f_X7_isWordAt 102 97 100 101 N = some (if u_e t n q - q = u_len 0 ∧ u_mt t q 0 (u_len 0) 0 = true then 1 else 0) := by
  have h9 := h.1
  have he := u_e_b (t := t) hq
  have hk4 := u_k_le t n q
  obtain ⟨-, hk1⟩ := u_k2 hg
  have hl : u_len 0 = 4 := rfl
  rw [f_X7_isWordAt, if_neg (by decide), q_let, h18, h17, h16, show nI (u_e t n q) - nI q = nI (u_e t n q - q) from pk_sub he.1]
  by_cases z4 : u_e t n q - q = 4
  · by_cases zk : u_k t n q = 1
    · have b0 := fun {x y : Option Int32} => u_by (i := 0) (c := 102) h (by omega : q + 0 < n) (by omega) (x := x) (y := y)
      have b1 := fun {x y : Option Int32} => u_by (i := 1) (c := 97) h (by omega : q + 1 < n) (by omega) (x := x) (y := y)
      have b2 := fun {x y : Option Int32} => u_by (i := 2) (c := 100) h (by omega : q + 2 < n) (by omega) (x := x) (y := y)
      have b3 := u_by1 (i := 3) (c := 101) h (by omega : q + 3 < n) (by omega)
      rw [zk, if_pos (by rfl), if_pos (show nI (u_e t n q - q) = (4 : Int32) by rw [z4]; rfl), show nI q + (1 : Int32) = nI (q + 1) from nI_add q 1, show nI q + (2 : Int32) = nI (q + 2) from nI_add q 2, show nI q + (3 : Int32) = nI (q + 3) from nI_add q 3]
      refine Eq.trans b0 ?_
      by_cases y0 : t (q + 0) = 102
      · rw [if_pos y0]
        refine Eq.trans b1 ?_
        by_cases y1 : t (q + 1) = 97
        · rw [if_pos y1]
          refine Eq.trans b2 ?_
          by_cases y2 : t (q + 2) = 100
          · rw [if_pos y2, if_neg (by decide)]
            refine Eq.trans b3 ?_
            by_cases y3 : t (q + 3) = 101
            · rw [if_pos y3, if_pos ⟨z4, u_mt0.mpr ⟨y0, y1, y2, y3⟩⟩]
            · rw [if_neg y3, if_neg (fun w => y3 (u_mt0.mp w.2).2.2.2)]
          · rw [if_neg y2, if_neg (fun w => y2 (u_mt0.mp w.2).2.2.1)]
        · rw [if_neg y1, if_neg (fun w => y1 (u_mt0.mp w.2).2.1)]
      · rw [if_neg y0, if_neg (fun w => y0 (u_mt0.mp w.2).1)]
    · rw [if_neg (show ¬ nI (u_k t n q) = (1 : Int32) from fun w => zk (q_inj (b := 1) (by omega) (by omega) w)), if_neg (fun w => zk (hk1.mpr ⟨by omega, by rw [(u_mt0.mp w.2).1]; decide⟩))]
  · rw [if_neg (c := u_e t n q - q = u_len 0 ∧ u_mt t q 0 (u_len 0) 0 = true) (fun w => z4 (w.1.trans hl))]
    by_cases zk : nI (u_k t n q) = (1 : Int32)
    · rw [if_pos zk, if_neg (show ¬ nI (u_e t n q - q) = (4 : Int32) from fun w => z4 (q_inj (b := 4) (by omega) (by omega) w))]
    · rw [if_neg zk]
theorem u_w2 {t : Nat → Nat} {n q : Nat} {N : sk_M} (h : u_tm t n N) (hq : q ≤ n) (hg : ¬ u_gl t n q) (h16 : N 88 16 = nI q) (h17 : N 88 17 = nI (u_e t n q)) (h18 : N 88 18 = nI (u_k t n q)) : f_X7_isWordAt 108 105 101 0 N = some (if u_e t n q - q = u_len 2 ∧ u_mt t q 2 (u_len 2) 0 = true then 1 else 0) := by
  have h9 := h.1
  have he := u_e_b (t := t) hq
  have hk4 := u_k_le t n q
  obtain ⟨-, hk1⟩ := u_k2 hg
  have hl : u_len 2 = 3 := rfl
  rw [f_X7_isWordAt, if_pos rfl, q_let, h18, h17, h16, show nI (u_e t n q) - nI q = nI (u_e t n q - q) from pk_sub he.1]
  by_cases z4 : u_e t n q - q = 3
  · by_cases zk : u_k t n q = 1
    · have b0 := fun {x y : Option Int32} => u_by (i := 0) (c := 108) h (by omega : q + 0 < n) (by omega) (x := x) (y := y)
      have b1 := fun {x y : Option Int32} => u_by (i := 1) (c := 105) h (by omega : q + 1 < n) (by omega) (x := x) (y := y)
      have b2 := fun {x y : Option Int32} => u_by (i := 2) (c := 101) h (by omega : q + 2 < n) (by omega) (x := x) (y := y)
      rw [zk, if_pos (by rfl), if_pos (show nI (u_e t n q - q) = (3 : Int32) by rw [z4]; rfl), show nI q + (1 : Int32) = nI (q + 1) from nI_add q 1, show nI q + (2 : Int32) = nI (q + 2) from nI_add q 2]
      refine Eq.trans b0 ?_
      by_cases y0 : t (q + 0) = 108
      · rw [if_pos y0]
        refine Eq.trans b1 ?_
        by_cases y1 : t (q + 1) = 105
        · rw [if_pos y1]
          refine Eq.trans b2 ?_
          by_cases y2 : t (q + 2) = 101
          · rw [if_pos y2, if_pos rfl, if_pos ⟨z4, u_mt2.mpr ⟨y0, y1, y2⟩⟩]
          · rw [if_neg y2, if_neg (fun w => y2 (u_mt2.mp w.2).2.2)]
        · rw [if_neg y1, if_neg (fun w => y1 (u_mt2.mp w.2).2.1)]
      · rw [if_neg y0, if_neg (fun w => y0 (u_mt2.mp w.2).1)]
    · rw [if_neg (show ¬ nI (u_k t n q) = (1 : Int32) from fun w => zk (q_inj (b := 1) (by omega) (by omega) w)), if_neg (fun w => zk (hk1.mpr ⟨by omega, by rw [(u_mt2.mp w.2).1]; decide⟩))]
  · rw [if_neg (c := u_e t n q - q = u_len 2 ∧ u_mt t q 2 (u_len 2) 0 = true) (fun w => z4 (w.1.trans hl))]
    by_cases zk : nI (u_k t n q) = (1 : Int32)
    · rw [if_pos zk, if_neg (show ¬ nI (u_e t n q - q) = (3 : Int32) from fun w => z4 (q_inj (b := 3) (by omega) (by omega) w))]
    · rw [if_neg zk]
theorem u_w1 {t : Nat → Nat} {n q : Nat} {N : sk_M} (h : u_tm t n N) (hq : q ≤ n) (hg : ¬ u_gl t n q) (h16 : N 88 16 = nI q) (h17 : N 88 17 = nI (u_e t n q)) (h18 : N 88 18 = nI (u_k t n q)) : f_X7_isLong 112 114 105 99 101 0 N = some (if u_e t n q - q = u_len 1 ∧ u_mt t q 1 (u_len 1) 0 = true then 1 else 0) := by
  have h9 := h.1
  have he := u_e_b (t := t) hq
  have hk4 := u_k_le t n q
  obtain ⟨-, hk1⟩ := u_k2 hg
  have hl : u_len 1 = 5 := rfl
  rw [f_X7_isLong, if_pos rfl, q_let, h18, h17, h16, show nI (u_e t n q) - nI q = nI (u_e t n q - q) from pk_sub he.1]
  by_cases z4 : u_e t n q - q = 5
  · by_cases zk : u_k t n q = 1
    · have b0 := fun {x y : Option Int32} => u_by (i := 0) (c := 112) h (by omega : q + 0 < n) (by omega) (x := x) (y := y)
      have b1 := fun {x y : Option Int32} => u_by (i := 1) (c := 114) h (by omega : q + 1 < n) (by omega) (x := x) (y := y)
      have b2 := fun {x y : Option Int32} => u_by (i := 2) (c := 105) h (by omega : q + 2 < n) (by omega) (x := x) (y := y)
      have b3 := fun {x y : Option Int32} => u_by (i := 3) (c := 99) h (by omega : q + 3 < n) (by omega) (x := x) (y := y)
      have b4 := fun {x y : Option Int32} => u_by (i := 4) (c := 101) h (by omega : q + 4 < n) (by omega) (x := x) (y := y)
      rw [zk, if_pos (by rfl), if_pos (show nI (u_e t n q - q) = (5 : Int32) by rw [z4]; rfl), show nI q + (1 : Int32) = nI (q + 1) from nI_add q 1, show nI q + (2 : Int32) = nI (q + 2) from nI_add q 2, show nI q + (3 : Int32) = nI (q + 3) from nI_add q 3, show nI q + (4 : Int32) = nI (q + 4) from nI_add q 4]
      refine Eq.trans b0 ?_
      by_cases y0 : t (q + 0) = 112
      · rw [if_pos y0]
        refine Eq.trans b1 ?_
        by_cases y1 : t (q + 1) = 114
        · rw [if_pos y1]
          refine Eq.trans b2 ?_
          by_cases y2 : t (q + 2) = 105
          · rw [if_pos y2]
            refine Eq.trans b3 ?_
            by_cases y3 : t (q + 3) = 99
            · rw [if_pos y3]
              refine Eq.trans b4 ?_
              by_cases y4 : t (q + 4) = 101
              · rw [if_pos y4, if_pos rfl, if_pos ⟨z4, u_mt1.mpr ⟨y0, y1, y2, y3, y4⟩⟩]
              · rw [if_neg y4, if_neg (fun w => y4 (u_mt1.mp w.2).2.2.2.2)]
            · rw [if_neg y3, if_neg (fun w => y3 (u_mt1.mp w.2).2.2.2.1)]
          · rw [if_neg y2, if_neg (fun w => y2 (u_mt1.mp w.2).2.2.1)]
        · rw [if_neg y1, if_neg (fun w => y1 (u_mt1.mp w.2).2.1)]
      · rw [if_neg y0, if_neg (fun w => y0 (u_mt1.mp w.2).1)]
    · rw [if_neg (show ¬ nI (u_k t n q) = (1 : Int32) from fun w => zk (q_inj (b := 1) (by omega) (by omega) w)), if_neg (fun w => zk (hk1.mpr ⟨by omega, by rw [(u_mt1.mp w.2).1]; decide⟩))]
  · rw [if_neg (c := u_e t n q - q = u_len 1 ∧ u_mt t q 1 (u_len 1) 0 = true) (fun w => z4 (w.1.trans hl))]
    by_cases zk : nI (u_k t n q) = (1 : Int32)
    · rw [if_pos zk, if_neg (show ¬ nI (u_e t n q - q) = (5 : Int32) from fun w => z4 (q_inj (b := 5) (by omega) (by omega) w))]
    · rw [if_neg zk]
/-- the key at the first sign, the same in both -/
theorem u_key {t : Nat → Nat} {n q : Nat} {M N : sk_M} (hM : u_tc t n M) (h3 : M 62 3 = nI q) (h4 : M 62 4 = nI (u_e t n q)) (h : u_tm t n N) (hq : q ≤ n) (hg : ¬ u_gl t n q) (h16 : N 88 16 = nI q) (h17 : N 88 17 = nI (u_e t n q)) (h18 : N 88 18 = nI (u_k t n q)) : ∃ x, f_X0_keyHere M = some x ∧ f_X7_key N = some x ∧ (x = -1 ∨ (∃ k, k < 3 ∧ x = nI k ∧ q + 3 ≤ u_e t n q ∧ u_k t n q = 1 ∧ q < n)) := by
  have he := u_e_b (t := t) hq
  obtain ⟨-, hk1⟩ := u_k2 hg
  have a0 := u_here (o := 0) (by omega) hM h3 h4 he.1 he.2.1
  have a1 := u_here (o := 1) (by omega) hM h3 h4 he.1 he.2.1
  have a2 := u_here (o := 2) (by omega) hM h3 h4 he.1 he.2.1
  have b0 := u_w0 h hq hg h16 h17 h18
  have b1 := u_w1 h hq hg h16 h17 h18
  have b2 := u_w2 h hq hg h16 h17 h18
  have l0 : u_len 0 = 4 := rfl
  have l1 : u_len 1 = 5 := rfl
  have l2 : u_len 2 = 3 := rfl
  rw [f_X0_keyHere, f_X7_key, a0, b0, q_b1, q_b1]
  by_cases z0 : u_e t n q - q = u_len 0 ∧ u_mt t q 0 (u_len 0) 0 = true
  · rw [if_pos z0]
    exact ⟨0, rfl, rfl, Or.inr ⟨0, by omega, rfl, by omega, hk1.mpr ⟨by omega, by rw [(u_mt0.mp z0.2).1]; decide⟩, by omega⟩⟩
  rw [if_neg z0, if_pos rfl, if_pos rfl, a1, b1, q_b1, q_b1]
  by_cases z1 : u_e t n q - q = u_len 1 ∧ u_mt t q 1 (u_len 1) 0 = true
  · rw [if_pos z1]
    exact ⟨1, rfl, rfl, Or.inr ⟨1, by omega, rfl, by omega, hk1.mpr ⟨by omega, by rw [(u_mt1.mp z1.2).1]; decide⟩, by omega⟩⟩
  rw [if_neg z1, if_pos rfl, if_pos rfl, a2, b2, q_b1]
  by_cases z2 : u_e t n q - q = u_len 2 ∧ u_mt t q 2 (u_len 2) 0 = true
  · rw [if_pos z2]
    exact ⟨2, rfl, rfl, Or.inr ⟨2, by omega, rfl, by omega, hk1.mpr ⟨by omega, by rw [(u_mt2.mp z2.2).1]; decide⟩, by omega⟩⟩
  · rw [if_neg z2]
    exact ⟨-1, rfl, rfl, Or.inl rfl⟩
