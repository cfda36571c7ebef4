/-! What ties class and reference: World w (object ids w ..) and the reference's row t. -/
def r_cnt (w nS nC nW nT d : Nat) (M : sk_M) : Prop := (nS ≤ 9 ∧ nC ≤ 6 ∧ nW ≤ 12 ∧ nT ≤ 14 ∧ d ≤ 9999) ∧ M w 10 = nI nS ∧ M w 12 = nI nC ∧ M w 11 = nI nW ∧ M w 13 = nI nT ∧ M w 14 = nI d
def r_rng (w : Nat) (M : sk_M) : Prop :=
  (∀ k, k < 4 → ∃ v : Nat, M (w + 4) k = nI v ∧ 1 ≤ v ∧ v ≤ 999) ∧ (∀ k, k < 9 → ∃ v : Nat, M (w + 1) k = nI v ∧ v ≤ 5) ∧ (∀ k, k < 9 → ∃ v : Nat, M (w + 2) k = nI v ∧ v ≤ 50) ∧
  (∀ c, c < 6 → ∃ v : Nat, M (w + 6) c = nI v ∧ v ≤ 50) ∧ (∀ c, c < 6 → ∀ k, k < 9 → ∃ v : Nat, M (w + 10 + c) k = nI v ∧ v ≤ 999)
def r_zero (w nS nC : Nat) (M : sk_M) : Prop :=
  (∀ k, k < 9 → nS ≤ k → M (w + 3) k = 0) ∧ (∀ c, c < 6 → nC ≤ c → M (w + 6) c = 0) ∧ (∀ c, c < 6 → ∀ k, k < 9 → (nC ≤ c ∨ nS ≤ k) → M (w + 10 + c) k = 0)
def r_cou (w nT : Nat) (M : sk_M) : Prop := ∀ k, k < 3 → M (w + 8) k = f_X7_orNone (x_last (M 45) (nI k) nT)
def r_inv (w nS nC nW nT d : Nat) (M : sk_M) : Prop := r_cnt w nS nC nW nT d M ∧ r_rng w M ∧ r_zero w nS nC M ∧ r_cou w nT M
def r_fix (w t : Nat) (M : sk_M) : Prop :=
  (M t 0 = M w 10 ∧ M t 1 = M w 12 ∧ M t 2 = M w 11 ∧ M t 3 = M w 13 ∧ M t 5 = M w 15) ∧ (∀ k, k < 4 → M t (6 + k) = M (w + 4) k) ∧
  (∀ k, k < 9 → M t (10 + 3 * k) = M (w + 1) k ∧ M t (11 + 3 * k) = M (w + 2) k ∧ M t (12 + 3 * k) = M (w + 3) k) ∧ (∀ c, c < 6 → M t (37 + c) = M (w + 6) c) ∧ (∀ j, j < 12 → M t (97 + j) = M (w + 5) j)
def r_var (w t : Nat) (M : sk_M) : Prop := M t 4 = M w 14 ∧ ∀ c, c < 6 → ∀ k, k < 9 → M t (43 + 9 * c + k) = M (w + 10 + c) k
/-- text i, in the class and in row t -/
def r_t1 (t i : Nat) (M : sk_M) : Prop := M t (109 + 200 * i) = M 45 i ∧ M t (110 + 200 * i) = M 46 i ∧ M t (111 + 200 * i) = M 44 i ∧
  ∃ key sz : Nat, key < 3 ∧ M 45 i = nI key ∧ sz ≤ 96 ∧ M 44 i = nI sz ∧ x_wf (M (48 + i)) sz ∧ ∀ j, j < sz → x_rc key (M (48 + i) j) (M t (113 + 200 * i + 2 * j)) (M t (114 + 200 * i + 2 * j))
def r_txt (t nT : Nat) (M : sk_M) : Prop := ∀ i, i < nT → r_t1 t i M
-- what a scent loses
def x_plain (amt fade : Int32) : Int32 := if 0 < (if fade < amt then fade else amt) then (if fade < amt then fade else amt) else 0
def x_light (pc amt plain : Int32) : Int32 := if plain + pc < amt then plain + pc else amt
def x_loss (kd pc amt fade day : Int32) : Int32 :=
  if kd = 1 then x_plain amt fade / 2 else if kd = 2 then x_light pc amt (x_plain amt fade) else if kd = 3 then (if 0 < x_plain amt fade / 2 - 1 then x_plain amt fade / 2 - 1 else 0)
  else if kd = 4 then (if 2 * x_light pc amt (x_plain amt fade) < amt then 2 * x_light pc amt (x_plain amt fade) else amt) else if kd = 5 then (if day - day / 2 * 2 = 1 then x_plain amt fade else 0) else x_plain amt fade
def x_fade (w : Nat) (M : sk_M) (k : Nat) (amt warm : Int32) : Int32 := if M (w + 8) 0 = -1000000005 then amt * (M (w + 2) k + warm) / 100 + 1 else x_val M (M (w + 8) 0).toNatClampNeg amt (M (w + 2) k) warm
def x_ls (w : Nat) (M : sk_M) (k : Nat) (amt warm day : Int32) : Int32 := x_loss (M (w + 1) k) (M (w + 2) k) amt (x_fade w M k amt warm) day
theorem x_plain_n {a : Nat} (ha : a ≤ 999) (fade : Int32) : ∃ p : Nat, p ≤ a ∧ x_plain (nI a) fade = nI p := by
  have ea := q_toI (n := a) (by omega)
  unfold x_plain
  by_cases h1 : fade < nI a
  · rw [if_pos h1]
    rw [q_ltI, ea] at h1
    by_cases h2 : 0 < fade
    · rw [if_pos h2]
      rw [q_ltI, show (0 : Int32).toInt = 0 from rfl] at h2
      obtain ⟨k, k1, k2, k3⟩ := q_of (x := fade) (by omega)
      exact ⟨k, by omega, k3⟩
    · rw [if_neg h2]; exact ⟨0, by omega, rfl⟩
  · rw [if_neg h1]
    by_cases h2 : (0 : Int32) < nI a
    · rw [if_pos h2]; exact ⟨a, by omega, rfl⟩
    · rw [if_neg h2]; exact ⟨0, by omega, rfl⟩
theorem x_plain_w {a : Nat} (ha : a ≤ 999) (fade : Int32) : f_X7_within fade (nI a) = x_plain (nI a) fade := by
  have ea := q_toI (n := a) (by omega)
  have e0 : (0 : Int32).toInt = 0 := rfl
  unfold x_plain f_X7_within
  by_cases h0 : 0 ≤ fade
  · rw [if_pos h0]
    rw [q_leI, e0] at h0
    by_cases h1 : fade < nI a
    · have h2 : fade ≤ nI a := by rw [q_ltI] at h1; rw [q_leI]; omega
      rw [if_pos h1, if_pos h2]
      by_cases h3 : 0 < fade
      · rw [if_pos h3]
      · rw [if_neg h3, q_eqI, e0]
        rw [q_ltI, e0] at h3
        omega
    · rw [if_neg h1]
      rw [q_ltI, ea] at h1
      by_cases h2 : fade ≤ nI a
      · rw [if_pos h2]
        rw [q_leI, ea] at h2
        by_cases h3 : 0 < nI a
        · rw [if_pos h3, q_eqI, ea]; omega
        · rw [if_neg h3, q_eqI, e0]
          rw [q_ltI, e0, ea] at h3
          omega
      · rw [if_neg h2]
        by_cases h3 : 0 < nI a
        · rw [if_pos h3]
        · rw [if_neg h3, q_eqI, e0, ea]
          rw [q_ltI, e0, ea] at h3
          omega
  · rw [if_neg h0]
    rw [q_leI, e0] at h0
    have h1 : fade < nI a := by rw [q_ltI, ea]; omega
    rw [if_pos h1, if_neg (by rw [q_ltI, e0]; omega)]
theorem x_light_n {a p c : Nat} (hp : p ≤ a) (ha : a ≤ 999) (hc : c ≤ 50) : x_light (nI c) (nI a) (nI p) = nI (min (p + c) a) := by
  unfold x_light
  rw [nI_add]
  by_cases h : p + c < a
  · rw [if_pos ((q_lt (by omega) (by omega)).mpr h)]; congr 1; omega
  · rw [if_neg (fun q => h ((q_lt (by omega) (by omega)).mp q))]; congr 1; omega
theorem x_with_n {a x : Nat} (ha : a ≤ 999) (hx : x < 100000) : f_X7_within (nI x) (nI a) = nI (min x a) := by
  unfold f_X7_within
  rw [if_pos (nI_pos' (by omega))]
  by_cases h : x ≤ a
  · rw [if_pos ((q_le (by omega) (by omega)).mpr h)]; congr 1; omega
  · rw [if_neg (fun q => h ((q_le (by omega) (by omega)).mp q))]; congr 1; omega
theorem x_half {p : Nat} (hp : p < 100000) : nI p / 2 = nI (p / 2) := by
  rw [show (2 : Int32) = nI 2 from rfl, pk_div (by omega) (by omega) (by omega)]
theorem x_amb {p : Nat} (hp : p ≤ 999) : (if 0 < nI p / 2 - 1 then nI p / 2 - 1 else 0) = nI (p / 2 - 1) := by
  rw [x_half (by omega)]
  by_cases h : 1 ≤ p / 2
  · rw [x_s1 h]
    by_cases h2 : 0 < p / 2 - 1
    · rw [if_pos]
      exact (q_lt (a := 0) (by omega) (by omega)).mpr h2
    · rw [if_neg]
      · show nI 0 = _
        congr 1; omega
      · exact fun q => h2 ((q_lt (a := 0) (by omega) (by omega)).mp q)
  · have e : p / 2 = 0 := by omega
    rw [e]
    decide
theorem x_ambW {p a : Nat} (hp : p ≤ a) (ha : a ≤ 999) : f_X7_within (nI p / 2 - 1) (nI a) = nI (p / 2 - 1) := by
  rw [x_half (by omega)]
  by_cases h : 1 ≤ p / 2
  · rw [x_s1 h, x_with_n ha (by omega)]; congr 1; omega
  · have e : p / 2 = 0 := by omega
    rw [e]
    rfl
theorem x_lem {l a : Nat} (hl : l ≤ a) (ha : a ≤ 999) : (if 2 * nI l < nI a then 2 * nI l else nI a) = nI (min (2 * l) a) := by
  rw [show (2 : Int32) = nI 2 from rfl, pk_mul]
  by_cases h : 2 * l < a
  · rw [if_pos ((q_lt (by omega) (by omega)).mpr h)]; congr 1; omega
  · rw [if_neg (fun q => h ((q_lt (by omega) (by omega)).mp q))]; congr 1; omega
theorem x_loss_n {a c : Nat} (ha : a ≤ 999) (hc : c ≤ 50) (kd fade day : Int32) : ∃ l : Nat, l ≤ a ∧ x_loss kd (nI c) (nI a) fade day = nI l := by
  obtain ⟨p, hp, ep⟩ := x_plain_n ha fade
  unfold x_loss
  rw [ep]
  by_cases h1 : kd = 1
  · rw [if_pos h1]; exact ⟨p / 2, by omega, x_half (by omega)⟩
  rw [if_neg h1, x_light_n hp ha hc]
  by_cases h2 : kd = 2
  · rw [if_pos h2]; exact ⟨_, by omega, rfl⟩
  rw [if_neg h2]
  by_cases h3 : kd = 3
  · rw [if_pos h3]; exact ⟨p / 2 - 1, by omega, x_amb (by omega)⟩
  rw [if_neg h3]
  by_cases h4 : kd = 4
  · rw [if_pos h4]; exact ⟨_, by omega, x_lem (by omega) ha⟩
  rw [if_neg h4]
  by_cases h5 : kd = 5
  · rw [if_pos h5]
    by_cases h6 : day - day / 2 * 2 = 1
    · rw [if_pos h6]; exact ⟨p, hp, rfl⟩
    · rw [if_neg h6]; exact ⟨0, by omega, rfl⟩
  · rw [if_neg h5]; exact ⟨p, hp, rfl⟩
