/-! Signs, codes, leaves, in both readers. -/
theorem u_sgC {t : Nat → Nat} {n q o : Nat} {M : sk_M} (ho : o < 8) (h : u_tc t n M) (hq : q ≤ n) (h3 : M 62 3 = nI q) (h5 : M 62 5 = -1) : f_X0_isSignOf (o + 3) M = some (if q < n ∧ (u_str (o + 3)).elem (t q) = true then 1 else 0) := by
  have h9 := h.1
  rw [f_X0_isSignOf, h5, if_neg (by decide), h.2.1, h3]
  by_cases z : q < n
  · obtain ⟨y1, y2⟩ := h.2.2 q z
    rw [if_neg (nI_ge z (by omega)), q_chkI (by omega) (by omega), q_clamp (by omega), y1, u_ix0]
    have e := u_sgD o ho (t q) y2
    cases hh : f_J0_indexOf_0f7a4 (o + 3) (sk_i2c (nI (t q))) (fun _ _ => 0) with
    | none => rw [hh] at e; cases e
    | some r =>
      rw [hh] at e
      rw [q_b1]
      by_cases y : (u_str (o + 3)).elem (t q) = true
      · rw [if_pos (c := q < n ∧ (u_str (o + 3)).elem (t q) = true) ⟨z, y⟩]
        rw [if_pos y] at e
        exact e
      · rw [if_neg (c := q < n ∧ (u_str (o + 3)).elem (t q) = true) (fun w => y w.2)]
        rw [if_neg y] at e
        exact e
  · rw [if_pos (nI_le (by omega) (by omega)), if_neg (fun y => z y.1)]
theorem u_sgF {o : Nat} {M : sk_M} (h : (0 : Int32) ≤ M 62 5) : f_X0_isSignOf o M = some 0 := by rw [f_X0_isSignOf, if_pos h]
theorem u_kw {t : Nat → Nat} {n q : Nat} (hw : q < n → u_w (t q) = true) : ¬ nI (u_k t n q) = (3 : Int32) := by
  unfold u_k
  by_cases z : q < n
  · rw [if_pos z]
    have hw := hw z
    by_cases zL : u_L (t q) = true
    · rw [if_pos zL]; split <;> decide
    · rw [if_neg zL]
      have zD : u_D (t q) = true := by
        unfold u_w at hw
        simp only [Bool.or_eq_true] at hw
        rcases hw with y | y
        · exact absurd y zL
        · exact y
      rw [if_pos zD]
      split
      · decide
      · split <;> decide
  · rw [if_neg z]; decide
theorem u_k3 {t : Nat → Nat} {n q : Nat} (hq : q < n) (hw : ¬ u_w (t q) = true) : u_k t n q = 3 := by
  have z2 : ¬ u_L (t q) = true := fun y => hw (by unfold u_w; rw [y]; rfl)
  have z3 : ¬ u_D (t q) = true := fun y => hw (by unfold u_w; rw [y]; simp)
  unfold u_k
  rw [if_pos hq, if_neg z2, if_neg z3]
theorem u_sgM {t : Nat → Nat} {n A s lo d u q laid said c : Nat} {M0 N0 M N : sk_M} (b : u_B t n A s lo d u M0 N0 q laid said M N) (hc : c < 256) (hcw : u_w c = false) : f_X7_isSign (nI c) N = if q < n ∧ t q = c then 1 else 0 := by
  unfold f_X7_isSign
  rw [b.n18]
  by_cases hw : q < n → u_w (t q) = true
  · rw [if_neg (u_kw hw), if_neg (fun z => by have := hw z.1; rw [z.2, hcw] at this; cases this)]
  · have hq : q < n := Classical.byContradiction fun z => hw (fun y => absurd y z)
    have hnw : ¬ u_w (t q) = true := fun z => hw (fun _ => z)
    have ht := (b.tm.2.2 q hq).2
    rw [u_k3 hq hnw, if_pos (by rfl : nI 3 = (3 : Int32)), b.nS hq hnw]
    by_cases z : t q = c
    · rw [if_pos (by rw [z]), if_pos ⟨hq, z⟩]
    · rw [if_neg (fun y => z ((u_eq ht hc).mp y)), if_neg (fun y => z y.2)]
def u_stN (A laid : Nat) (p v : Int32) (N : sk_M) : sk_M := sk_u (sk_u (sk_u N 89 (A + 2 * laid) p) 89 (A + 2 * laid + 1) v) 88 23 (nI (laid + 1))
theorem u_stE {A laid : Nat} {N : sk_M} (hA : A + 192 ≤ 3109) (hl : laid < 96) (h23 : N 88 23 = nI laid) (h24 : N 88 24 = nI A) (p v : Int32) : f_X7_step p v N = some (u_stN A laid p v N) := by
  have e2 : (2 : Int32) * nI laid = nI (2 * laid) := pk_mul 2 laid
  have r1 : ∀ i x, sk_u N 89 i x 88 = N 88 := fun i x => q_uo (by omega)
  have r2 : ∀ i x j y, sk_u (sk_u N 89 i x) 89 j y 88 = N 88 := fun i x j y => by rw [q_uo (by omega), q_uo (by omega)]
  rw [f_X7_step, h23, h24, e2, nI_add, q_chkI (by omega) (by omega), q_let, r1, h23, h24, e2, nI_add, nI_1, q_chkI (by omega) (by omega), q_let, q_clamp (by omega), q_clamp (by omega), r2, h23, nI_1, q_let]
  rfl
theorem u_stB {t : Nat → Nat} {n A s lo d u q laid said : Nat} {M0 N0 M N M' : sk_M} (b : u_B t n A (s + 1) lo d u M0 N0 q laid said M N) (hl : laid < 96) (hM : ∀ o, o ≠ 62 → o ≠ 64 → M' o = M o) (h2 : M' 62 2 = M 62 2) (p v : Int32) : u_B t n A s (lo + 1) d u M0 N0 q (laid + 1) said M' (u_stN A laid p v N) := by
  have hN : ∀ o, o ≠ 88 → o ≠ 89 → u_stN A laid p v N o = N o := fun o z1 z2 => by unfold u_stN; rw [q_uo z1, q_uo z2, q_uo z2]
  have h8 : ∀ j, j ≠ 23 → u_stN A laid p v N 88 j = N 88 j := fun j z => by unfold u_stN; rw [q_un (by omega), q_uo (by omega), q_uo (by omega)]
  refine ⟨b.hq, b.hA, by have := b.hl; omega, by have := b.hlo; omega, b.hd, b.hu, u_tc_c b.tc h2 (hM 63 (by omega) (by omega)), u_tm_c b.tm (h8 15 (by omega)) (hN 102 (by omega) (by omega)), ?_, ?_, ?_, ?_, ?_, ?_, ?_, ?_, ?_, ?_, ?_, ?_⟩
  · rw [h8 16 (by omega)]; exact b.n16
  · rw [h8 17 (by omega)]; exact b.n17
  · rw [h8 18 (by omega)]; exact b.n18
  · rw [h8 20 (by omega)]; exact b.nL
  · rw [h8 19 (by omega)]; exact b.nD
  · rw [h8 20 (by omega)]; exact b.nS
  · rw [h8 21 (by omega)]; exact b.n21
  · rw [h8 22 (by omega)]; exact b.n22
  · unfold u_stN; rw [q_ue]
  · rw [h8 24 (by omega)]; exact b.n24
  · rw [h8 25 (by omega)]; exact b.n25
  · refine ⟨fun o z1 z2 => (hM o z1 z2).trans (b.fr.frM o z1 z2), h2.trans b.fr.frM2, fun o z1 z2 => (hN o z1 z2).trans (b.fr.frN o z1 z2), fun j z => (h8 j (by omega)).trans (b.fr.frN8 j z), fun i z => ?_⟩
    unfold u_stN
    rw [q_uo (by omega), q_un (by omega), q_un (by omega)]
    exact b.fr.frN9 i z
def u_ptM (laid : Nat) (x : Int32) (M : sk_M) : sk_M := sk_u (sk_u M 64 laid x) 62 7 (nI (laid + 1))
theorem u_put {t : Nat → Nat} {n key A s lo d u q laid said D D' : Nat} {M0 N0 M N : sk_M} {x p v : Int32} (h : u_R t n key A (s + 1) lo d u M0 N0 q laid said D M N) (hl : laid < 96) (hx : x_rc key x p v) (hcd : u_cd (upd (M 64) laid x) (laid + 1) D') :
    f_X0_put x M = some (u_ptM laid x M) ∧ f_X7_step p v N = some (u_stN A laid p v N) ∧ u_R t n key A s (lo + 1) d u M0 N0 q (laid + 1) said D' (u_ptM laid x M) (u_stN A laid p v N) := by
  obtain ⟨b, c⟩ := h
  have h64 : u_ptM laid x M 64 = upd (M 64) laid x := by unfold u_ptM; rw [q_uo (by omega), q_us]
  have h62 : ∀ j, j ≠ 7 → u_ptM laid x M 62 j = M 62 j := fun j z => by unfold u_ptM; rw [q_un (by omega), q_uo (by omega)]
  refine ⟨?_, u_stE b.hA hl b.n23 b.n24 p v, u_stB b hl (fun o z1 z2 => by unfold u_ptM; rw [q_uo z1, q_uo z2]) (h62 2 (by omega)) p v, c.hkey, ?_, ?_, ?_, ?_, ?_, ?_, c.ng, ?_, ?_⟩
  · have r1 : ∀ y, sk_u M 64 laid y 62 7 = nI laid := fun y => by rw [q_uo (by omega)]; exact c.m7
    rw [f_X0_put, c.m5, if_neg (by decide), c.m7, if_neg (show ¬ (96 : Int32) ≤ nI laid from nI_ge (b := 96) (by omega) (by omega)), q_chkI (by omega) (by omega), q_let, q_clamp (by omega), r1, nI_1, q_let]
    rfl
  · rw [h62 3 (by omega)]; exact c.m3
  · rw [h62 4 (by omega)]; exact c.m4
  · rw [h62 5 (by omega)]; exact c.m5
  · rw [h62 6 (by omega)]; exact c.m6
  · unfold u_ptM; rw [q_ue]
  · rw [h62 8 (by omega)]; exact c.m8
  · intro j hj
    rw [h64, q_upd]
    unfold u_stN
    rw [q_uo (by omega)]
    by_cases e : j = laid
    · subst e
      rw [if_pos rfl, q_un (by omega), q_ue, q_ue]
      exact hx
    · rw [if_neg e, q_un (by omega), q_un (by omega), q_un (by omega), q_un (by omega)]
      exact c.cs j (by omega)
  · rw [h64]; exact hcd
theorem u_putF {x : Int32} {M : sk_M} (h : (0 : Int32) ≤ M 62 5) : f_X0_put x M = some M := by rw [f_X0_put, if_pos h]
theorem u_cd_leaf {f : Nat → Int32} {n D : Nat} {x : Int32} (h : u_cd f n D) (hx : ¬ x < -3) : u_cd (upd f n x) (n + 1) (D + 1) := by
  have e : ∀ j, j < n → upd f n x j = f j := fun j hj => by rw [q_upd, if_neg (by omega)]
  have e1 : upd f n x n = x := by rw [q_upd, if_pos rfl]
  have h' := u_cd_c h e
  refine ⟨?_, fun j hj => ?_⟩
  · show (if upd f n x n < -3 then (if upd f n x n = -33 then x_dp (upd f n x) n else x_dp (upd f n x) n - 1) else x_dp (upd f n x) n + 1) = _
    rw [e1, if_neg hx, h'.1]
  · by_cases q : j = n
    · subst q; rw [e1]; exact fun z => absurd z hx
    · exact h'.2 j (by omega)
theorem u_cd_op {f : Nat → Int32} {n D : Nat} {x : Int32} (h : u_cd f n (D + 2)) (hx : x < -3) (h33 : x ≠ -33) : u_cd (upd f n x) (n + 1) (D + 1) := by
  have e : ∀ j, j < n → upd f n x j = f j := fun j hj => by rw [q_upd, if_neg (by omega)]
  have e1 : upd f n x n = x := by rw [q_upd, if_pos rfl]
  have h' := u_cd_c h e
  refine ⟨?_, fun j hj => ?_⟩
  · show (if upd f n x n < -3 then (if upd f n x n = -33 then x_dp (upd f n x) n else x_dp (upd f n x) n - 1) else x_dp (upd f n x) n + 1) = _
    rw [e1, if_pos hx, if_neg h33, h'.1]
    rfl
  · by_cases q : j = n
    · subst q; rw [e1]; exact fun _ => Or.inr ⟨h33, by rw [h'.1]; omega⟩
    · exact h'.2 j (by omega)
theorem u_cd_not {f : Nat → Int32} {n D : Nat} (h : u_cd f n (D + 1)) : u_cd (upd f n (-33)) (n + 1) (D + 1) := by
  have e : ∀ j, j < n → upd f n (-33) j = f j := fun j hj => by rw [q_upd, if_neg (by omega)]
  have e1 : upd f n (-33) n = -33 := by rw [q_upd, if_pos rfl]
  have h' := u_cd_c h e
  refine ⟨?_, fun j hj => ?_⟩
  · show (if upd f n (-33) n < -3 then (if upd f n (-33) n = -33 then x_dp (upd f n (-33)) n else x_dp (upd f n (-33)) n - 1) else x_dp (upd f n (-33)) n + 1) = _
    rw [e1, if_pos (by decide), if_pos rfl, h'.1]
  · by_cases q : j = n
    · subst q; rw [e1]; exact fun _ => Or.inl ⟨rfl, by rw [h'.1]; omega⟩
    · exact h'.2 j (by omega)
