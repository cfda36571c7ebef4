/-! The two readers, side by side. -/
def u_cd (f : Nat → Int32) (n D : Nat) : Prop := x_dp f n = D ∧ ∀ j, j < n → f j < -3 → (f j = -33 ∧ 1 ≤ x_dp f j) ∨ (f j ≠ -33 ∧ 2 ≤ x_dp f j)
theorem u_dp_c {f g : Nat → Int32} : ∀ n, (∀ j, j < n → f j = g j) → x_dp f n = x_dp g n := by
  intro n
  induction n with
  | zero => intro _; rfl
  | succ n ih =>
    intro h
    unfold x_dp
    rw [h n (by omega), ih (fun j hj => h j (by omega))]
theorem u_cd_c {f g : Nat → Int32} {n D : Nat} (h : u_cd f n D) (e : ∀ j, j < n → g j = f j) : u_cd g n D := by
  refine ⟨(u_dp_c n e).trans h.1, fun j hj => ?_⟩
  rw [e j hj, u_dp_c j (fun i hi => e i (by omega))]
  exact h.2 j hj
def u_fr (n A : Nat) (M0 N0 M N : sk_M) : Prop :=
  (∀ o, o ≠ 62 → o ≠ 64 → M o = M0 o) ∧ (M 62 2 = M0 62 2) ∧ (∀ o, o ≠ 88 → o ≠ 89 → N o = N0 o) ∧ (∀ b, b < 16 ∨ 25 < b → N 88 b = N0 88 b) ∧ (∀ i, i < A ∨ A + 192 ≤ i → N 89 i = N0 89 i)
theorem u_fr.frM {n A : Nat} {M0 N0 M N : sk_M} (h : u_fr n A M0 N0 M N) : ∀ o, o ≠ 62 → o ≠ 64 → M o = M0 o := h.1
theorem u_fr.frM2 {n A : Nat} {M0 N0 M N : sk_M} (h : u_fr n A M0 N0 M N) : M 62 2 = M0 62 2 := h.2.1
theorem u_fr.frN {n A : Nat} {M0 N0 M N : sk_M} (h : u_fr n A M0 N0 M N) : ∀ o, o ≠ 88 → o ≠ 89 → N o = N0 o := h.2.2.1
theorem u_fr.frN8 {n A : Nat} {M0 N0 M N : sk_M} (h : u_fr n A M0 N0 M N) : ∀ b, b < 16 ∨ 25 < b → N 88 b = N0 88 b := h.2.2.2.1
theorem u_fr.frN9 {n A : Nat} {M0 N0 M N : sk_M} (h : u_fr n A M0 N0 M N) : ∀ i, i < A ∨ A + 192 ≤ i → N 89 i = N0 89 i := h.2.2.2.2
def u_B (t : Nat → Nat) (n A s lo d u : Nat) (M0 N0 : sk_M) (q laid said : Nat) (M N : sk_M) : Prop :=
  (q ≤ n) ∧ (A + 192 ≤ 3109) ∧ (laid + s ≤ q + 1) ∧ (lo ≤ laid) ∧ (d ≤ 8) ∧ (u ≤ 8) ∧ (u_tc t n M) ∧ (u_tm t n N) ∧ (N 88 16 = nI q) ∧ (N 88 17 = nI (u_e t n q)) ∧ (N 88 18 = nI (u_k t n q)) ∧ (q < n → u_L (t q) = true → N 88 20 = if u_e t n q = q + 1 then nI (t q) else 0) ∧ (q < n → u_D (t q) = true → u_e t n q ≤ q + 4 → N 88 19 = u_num t (u_e t n q - q) q 0) ∧ (q < n → ¬ u_w (t q) = true → N 88 20 = nI (t q)) ∧ (N 88 21 = nI d) ∧ (N 88 22 = nI u) ∧ (N 88 23 = nI laid) ∧ (N 88 24 = nI A) ∧ (N 88 25 = nI said) ∧ (u_fr n A M0 N0 M N)
theorem u_B.hq {t : Nat → Nat} {n A s lo d u : Nat} {M0 N0 : sk_M} {q laid said : Nat} {M N : sk_M} (h : u_B t n A s lo d u M0 N0 q laid said M N) : q ≤ n := h.1
theorem u_B.hA {t : Nat → Nat} {n A s lo d u : Nat} {M0 N0 : sk_M} {q laid said : Nat} {M N : sk_M} (h : u_B t n A s lo d u M0 N0 q laid said M N) : A + 192 ≤ 3109 := h.2.1
theorem u_B.hl {t : Nat → Nat} {n A s lo d u : Nat} {M0 N0 : sk_M} {q laid said : Nat} {M N : sk_M} (h : u_B t n A s lo d u M0 N0 q laid said M N) : laid + s ≤ q + 1 := h.2.2.1
theorem u_B.hlo {t : Nat → Nat} {n A s lo d u : Nat} {M0 N0 : sk_M} {q laid said : Nat} {M N : sk_M} (h : u_B t n A s lo d u M0 N0 q laid said M N) : lo ≤ laid := h.2.2.2.1
theorem u_B.hd {t : Nat → Nat} {n A s lo d u : Nat} {M0 N0 : sk_M} {q laid said : Nat} {M N : sk_M} (h : u_B t n A s lo d u M0 N0 q laid said M N) : d ≤ 8 := h.2.2.2.2.1
theorem u_B.hu {t : Nat → Nat} {n A s lo d u : Nat} {M0 N0 : sk_M} {q laid said : Nat} {M N : sk_M} (h : u_B t n A s lo d u M0 N0 q laid said M N) : u ≤ 8 := h.2.2.2.2.2.1
theorem u_B.tc {t : Nat → Nat} {n A s lo d u : Nat} {M0 N0 : sk_M} {q laid said : Nat} {M N : sk_M} (h : u_B t n A s lo d u M0 N0 q laid said M N) : u_tc t n M := h.2.2.2.2.2.2.1
theorem u_B.tm {t : Nat → Nat} {n A s lo d u : Nat} {M0 N0 : sk_M} {q laid said : Nat} {M N : sk_M} (h : u_B t n A s lo d u M0 N0 q laid said M N) : u_tm t n N := h.2.2.2.2.2.2.2.1
theorem u_B.n16 {t : Nat → Nat} {n A s lo d u : Nat} {M0 N0 : sk_M} {q laid said : Nat} {M N : sk_M} (h : u_B t n A s lo d u M0 N0 q laid said M N) : N 88 16 = nI q := h.2.2.2.2.2.2.2.2.1
theorem u_B.n17 {t : Nat → Nat} {n A s lo d u : Nat} {M0 N0 : sk_M} {q laid said : Nat} {M N : sk_M} (h : u_B t n A s lo d u M0 N0 q laid said M N) : N 88 17 = nI (u_e t n q) := h.2.2.2.2.2.2.2.2.2.1
theorem u_B.n18 {t : Nat → Nat} {n A s lo d u : Nat} {M0 N0 : sk_M} {q laid said : Nat} {M N : sk_M} (h : u_B t n A s lo d u M0 N0 q laid said M N) : N 88 18 = nI (u_k t n q) := h.2.2.2.2.2.2.2.2.2.2.1
theorem u_B.nL {t : Nat → Nat} {n A s lo d u : Nat} {M0 N0 : sk_M} {q laid said : Nat} {M N : sk_M} (h : u_B t n A s lo d u M0 N0 q laid said M N) : q < n → u_L (t q) = true → N 88 20 = if u_e t n q = q + 1 then nI (t q) else 0 := h.2.2.2.2.2.2.2.2.2.2.2.1
theorem u_B.nD {t : Nat → Nat} {n A s lo d u : Nat} {M0 N0 : sk_M} {q laid said : Nat} {M N : sk_M} (h : u_B t n A s lo d u M0 N0 q laid said M N) : q < n → u_D (t q) = true → u_e t n q ≤ q + 4 → N 88 19 = u_num t (u_e t n q - q) q 0 := h.2.2.2.2.2.2.2.2.2.2.2.2.1
theorem u_B.nS {t : Nat → Nat} {n A s lo d u : Nat} {M0 N0 : sk_M} {q laid said : Nat} {M N : sk_M} (h : u_B t n A s lo d u M0 N0 q laid said M N) : q < n → ¬ u_w (t q) = true → N 88 20 = nI (t q) := h.2.2.2.2.2.2.2.2.2.2.2.2.2.1
theorem u_B.n21 {t : Nat → Nat} {n A s lo d u : Nat} {M0 N0 : sk_M} {q laid said : Nat} {M N : sk_M} (h : u_B t n A s lo d u M0 N0 q laid said M N) : N 88 21 = nI d := h.2.2.2.2.2.2.2.2.2.2.2.2.2.2.1
theorem u_B.n22 {t : Nat → Nat} {n A s lo d u : Nat} {M0 N0 : sk_M} {q laid said : Nat} {M N : sk_M} (h : u_B t n A s lo d u M0 N0 q laid said M N) : N 88 22 = nI u := h.2.2.2.2.2.2.2.2.2.2.2.2.2.2.2.1
theorem u_B.n23 {t : Nat → Nat} {n A s lo d u : Nat} {M0 N0 : sk_M} {q laid said : Nat} {M N : sk_M} (h : u_B t n A s lo d u M0 N0 q laid said M N) : N 88 23 = nI laid := h.2.2.2.2.2.2.2.2.2.2.2.2.2.2.2.2.1
theorem u_B.n24 {t : Nat → Nat} {n A s lo d u : Nat} {M0 N0 : sk_M} {q laid said : Nat} {M N : sk_M} (h : u_B t n A s lo d u M0 N0 q laid said M N) : N 88 24 = nI A := h.2.2.2.2.2.2.2.2.2.2.2.2.2.2.2.2.2.1
theorem u_B.n25 {t : Nat → Nat} {n A s lo d u : Nat} {M0 N0 : sk_M} {q laid said : Nat} {M N : sk_M} (h : u_B t n A s lo d u M0 N0 q laid said M N) : N 88 25 = nI said := h.2.2.2.2.2.2.2.2.2.2.2.2.2.2.2.2.2.2.1
theorem u_B.fr {t : Nat → Nat} {n A s lo d u : Nat} {M0 N0 : sk_M} {q laid said : Nat} {M N : sk_M} (h : u_B t n A s lo d u M0 N0 q laid said M N) : u_fr n A M0 N0 M N := h.2.2.2.2.2.2.2.2.2.2.2.2.2.2.2.2.2.2.2
def u_Q (t : Nat → Nat) (n key A : Nat) (q laid said D : Nat) (M N : sk_M) : Prop :=
  (key < 3) ∧ (M 62 3 = nI q) ∧ (M 62 4 = nI (u_e t n q)) ∧ (M 62 5 = -1) ∧ (M 62 6 = nI key) ∧ (M 62 7 = nI laid) ∧ (M 62 8 = nI said) ∧ (¬ u_gl t n q) ∧ (∀ j, j < laid → x_rc key (M 64 j) (N 89 (A + 2 * j)) (N 89 (A + 2 * j + 1))) ∧ (u_cd (M 64) laid D)
theorem u_Q.hkey {t : Nat → Nat} {n key A : Nat} {q laid said D : Nat} {M N : sk_M} (h : u_Q t n key A q laid said D M N) : key < 3 := h.1
theorem u_Q.m3 {t : Nat → Nat} {n key A : Nat} {q laid said D : Nat} {M N : sk_M} (h : u_Q t n key A q laid said D M N) : M 62 3 = nI q := h.2.1
theorem u_Q.m4 {t : Nat → Nat} {n key A : Nat} {q laid said D : Nat} {M N : sk_M} (h : u_Q t n key A q laid said D M N) : M 62 4 = nI (u_e t n q) := h.2.2.1
theorem u_Q.m5 {t : Nat → Nat} {n key A : Nat} {q laid said D : Nat} {M N : sk_M} (h : u_Q t n key A q laid said D M N) : M 62 5 = -1 := h.2.2.2.1
theorem u_Q.m6 {t : Nat → Nat} {n key A : Nat} {q laid said D : Nat} {M N : sk_M} (h : u_Q t n key A q laid said D M N) : M 62 6 = nI key := h.2.2.2.2.1
theorem u_Q.m7 {t : Nat → Nat} {n key A : Nat} {q laid said D : Nat} {M N : sk_M} (h : u_Q t n key A q laid said D M N) : M 62 7 = nI laid := h.2.2.2.2.2.1
theorem u_Q.m8 {t : Nat → Nat} {n key A : Nat} {q laid said D : Nat} {M N : sk_M} (h : u_Q t n key A q laid said D M N) : M 62 8 = nI said := h.2.2.2.2.2.2.1
theorem u_Q.ng {t : Nat → Nat} {n key A : Nat} {q laid said D : Nat} {M N : sk_M} (h : u_Q t n key A q laid said D M N) : ¬ u_gl t n q := h.2.2.2.2.2.2.2.1
theorem u_Q.cs {t : Nat → Nat} {n key A : Nat} {q laid said D : Nat} {M N : sk_M} (h : u_Q t n key A q laid said D M N) : ∀ j, j < laid → x_rc key (M 64 j) (N 89 (A + 2 * j)) (N 89 (A + 2 * j + 1)) := h.2.2.2.2.2.2.2.2.1
theorem u_Q.cd {t : Nat → Nat} {n key A : Nat} {q laid said D : Nat} {M N : sk_M} (h : u_Q t n key A q laid said D M N) : u_cd (M 64) laid D := h.2.2.2.2.2.2.2.2.2
def u_R (t : Nat → Nat) (n key A s lo d u : Nat) (M0 N0 : sk_M) (q laid said D : Nat) (M N : sk_M) : Prop := u_B t n A s lo d u M0 N0 q laid said M N ∧ u_Q t n key A q laid said D M N
def u_G (t : Nat → Nat) (n A s lo d u : Nat) (M0 N0 : sk_M) (q laid said : Nat) (M N : sk_M) : Prop := u_B t n A s lo d u M0 N0 q laid said M N ∧ u_gl t n q ∧ M 62 5 = nI q
def u_F (n A : Nat) (M0 N0 M N : sk_M) : Prop := u_fr n A M0 N0 M N ∧ ∃ q, q ≤ n ∧ M 62 5 = nI q ∧ N 88 16 = nI q
def u_S (t : Nat → Nat) (n key A s lo d u : Nat) (M0 N0 : sk_M) (D : Nat) (M N : sk_M) : Prop := ∃ q laid said, u_R t n key A s lo d u M0 N0 q laid said D M N ∨ u_G t n A s lo d u M0 N0 q laid said M N
theorem u_gl_k {t : Nat → Nat} {n q : Nat} (h : u_gl t n q) : u_k t n q = 4 := by
  have hg := u_gb_iff.mpr h
  have hw := h.2.2.1
  unfold u_k
  rw [if_pos h.2.1]
  by_cases z : u_L (t q) = true
  · rw [if_pos z, if_pos hg]
  · have zD : u_D (t q) = true := by
      unfold u_w at hw
      simp only [Bool.or_eq_true] at hw
      rcases hw with y | y
      · exact absurd y z
      · exact y
    rw [if_neg z, if_pos zD, if_pos hg]
/-- the kind of a sign that is not glued, against its last byte -/
theorem u_pk_e {t : Nat → Nat} {n q : Nat} (hq : q < n) (hg : ¬ u_gl t n q) (h4 : u_k t n q ≠ 4) : u_pk t (u_e t n q) (u_k t n q) := by
  have hgb : ¬ u_gb t n q = true := fun z => hg (u_gb_iff.mp z)
  unfold u_k at h4 ⊢
  rw [if_pos hq] at h4 ⊢
  by_cases zL : u_L (t q) = true
  · have hr := u_run1 (P := fun j => u_L (t j)) hq zL
    have hue : u_e t n q = u_run (fun j => u_L (t j)) (n - q) q := by unfold u_e; rw [if_pos hq, if_pos zL]
    have hl := u_run_all (P := fun j => u_L (t j)) (n - q) q (u_e t n q - 1) (by omega) (by omega)
    rw [if_pos zL, if_neg hgb]
    refine ⟨by omega, fun _ => ⟨fun _ => ?_, fun _ => Or.inl rfl⟩⟩
    unfold u_w
    have hl' : u_L (t (u_e t n q - 1)) = true := hl
    rw [hl']; rfl
  · rw [if_neg zL] at h4 ⊢
    by_cases zD : u_D (t q) = true
    · have hr := u_run1 (P := fun j => u_D (t j)) hq zD
      have hue : u_e t n q = u_run (fun j => u_D (t j)) (n - q) q := by unfold u_e; rw [if_pos hq, if_neg zL, if_pos zD]
      have hl := u_run_all (P := fun j => u_D (t j)) (n - q) q (u_e t n q - 1) (by omega) (by omega)
      rw [if_pos zD, if_neg hgb] at h4 ⊢
      by_cases z4 : u_e t n q ≤ q + 4
      · rw [if_pos z4]
        refine ⟨by omega, fun _ => ⟨fun _ => ?_, fun _ => Or.inr rfl⟩⟩
        unfold u_w
        have hl' : u_D (t (u_e t n q - 1)) = true := hl
        rw [hl']; simp
      · rw [if_neg z4] at h4; exact absurd rfl h4
    · rw [if_neg zD]
      have hue : u_e t n q = q + 1 := by unfold u_e; rw [if_pos hq, if_neg zL, if_neg zD]
      refine ⟨by omega, fun _ => ⟨fun z => by omega, fun z => ?_⟩⟩
      rw [hue, show q + 1 - 1 = q by omega] at z
      unfold u_w at z
      simp only [Bool.or_eq_true] at z
      rcases z with y | y
      · exact absurd y zL
      · exact absurd y zD
/-- both go on to the next sign -/
theorem u_mv {t : Nat → Nat} {n key A s lo d u q laid said D : Nat} {M0 N0 M N : sk_M} (h : u_R t n key A s lo d u M0 N0 q laid said D M N) (hq : q < n) (h4 : u_k t n q ≠ 4) :
    ∃ M' N', f_X0_moveOn M = some M' ∧ f_X7_nextToken N = some N' ∧ u_S t n key A (s + 1) lo d u M0 N0 D M' N' := by
  obtain ⟨b, c⟩ := h
  have he := u_e_b (t := t) (n := n) (q := q) (by omega)
  have he2 := he.2.2 hq
  obtain ⟨M', k1, k2, k3, k4, k5, k6⟩ := u_moveC b.tc he.2.1 c.m4 c.m5
  obtain ⟨N', m1, m2, m3, m4, m5, m6, m7, m8⟩ := u_next b.tm he.2.1 b.n17 b.n18 (u_pk_e hq c.ng h4)
  have hsk := u_sk_b (t := t) he.2.1
  generalize u_sk t n (u_e t n q) = q' at k2 k3 k4 k5 m2 m3 m4 m5 m6 m7 hsk
  have hM : ∀ o, o ≠ 62 → M' o = M o := fun o z => funext fun j => k6 o j (Or.inl z)
  have hN : ∀ o, o ≠ 88 → N' o = N o := fun o z => funext fun j => m8 o j (Or.inl z)
  have hB : u_B t n A (s + 1) lo d u M0 N0 q' laid said M' N' := by
    refine ⟨hsk.2, b.hA, by have := b.hl; omega, b.hlo, b.hd, b.hu, u_tc_c b.tc (k6 62 2 (by omega)) (hM 63 (by omega)), u_tm_c b.tm (m8 88 15 (by omega)) (hN 102 (by omega)), m2, m3, m4, m5, m6, m7, ?_, ?_, ?_, ?_, ?_, ?_⟩
    · rw [m8 88 21 (by omega)]; exact b.n21
    · rw [m8 88 22 (by omega)]; exact b.n22
    · rw [m8 88 23 (by omega)]; exact b.n23
    · rw [m8 88 24 (by omega)]; exact b.n24
    · rw [m8 88 25 (by omega)]; exact b.n25
    · refine ⟨fun o z1 z2 => (hM o z1).trans (b.fr.frM o z1 z2), (k6 62 2 (by omega)).trans b.fr.frM2, fun o z1 z2 => (hN o z1).trans (b.fr.frN o z1 z2), fun j z => (m8 88 j (by omega)).trans (b.fr.frN8 j z), fun i z => by rw [hN 89 (by omega)]; exact b.fr.frN9 i z⟩
  refine ⟨M', N', k1, m1, q', laid, said, ?_⟩
  by_cases hg : u_gl t n q'
  · exact Or.inr ⟨hB, hg, k4 hg⟩
  · refine Or.inl ⟨hB, c.hkey, k2, k3, k5 hg, ?_, ?_, ?_, hg, ?_, ?_⟩
    · rw [k6 62 6 (by omega)]; exact c.m6
    · rw [k6 62 7 (by omega)]; exact c.m7
    · rw [k6 62 8 (by omega)]; exact c.m8
    · intro j hj
      rw [hM 64 (by omega), hN 89 (by omega)]
      exact c.cs j hj
    · rw [hM 64 (by omega)]; exact c.cd
