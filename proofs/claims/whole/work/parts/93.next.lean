/-! nextToken. -/
def u_gb (t : Nat → Nat) (n q : Nat) : Bool := decide (0 < q ∧ q < n ∧ u_w (t q) = true ∧ u_w (t (q - 1)) = true)
theorem u_gb_iff {t : Nat → Nat} {n q : Nat} : u_gb t n q = true ↔ u_gl t n q := decide_eq_true_iff
def u_k (t : Nat → Nat) (n q : Nat) : Nat := if q < n then (if u_L (t q) = true then (if u_gb t n q = true then 4 else 1) else if u_D (t q) = true then (if u_gb t n q = true then 4 else if u_e t n q ≤ q + 4 then 2 else 4) else 3) else 0
/-- the kind of the sign before, against the byte before p -/
def u_pk (t : Nat → Nat) (p k : Nat) : Prop := k ≤ 4 ∧ (0 < p → ((k = 1 ∨ k = 2) ↔ u_w (t (p - 1)) = true))
theorem u_x6 {t : Nat → Nat} {n p k : Nat} (hn : n ≤ 96) (hp : p ≤ n) (hk : u_pk t p k) (hq : u_sk t n p < n) (hw : u_w (t (u_sk t n p)) = true) :
    (if (if nI p ≤ 0 then (0 : Int32) else (if nI k = 1 then 1 else (if nI k = 2 then 1 else 0))) = 0 then (0 : Int32) else (if nI p = nI (u_sk t n p) then 1 else 0)) = if u_gb t n (u_sk t n p) = true then 1 else 0 := by
  have hb := u_sk_b (t := t) hp
  have hsp : p < u_sk t n p → t (u_sk t n p - 1) = 32 := fun z => by
    have := u_run_all (P := fun j => decide (t j = 32)) (n - p) p (u_sk t n p - 1) (by omega) (by show u_sk t n p - 1 < u_sk t n p; omega)
    exact of_decide_eq_true this
  generalize u_sk t n p = q at hb hsp hq hw ⊢
  have h4 := hk.1
  have hg : u_gb t n q = true ↔ (0 < q ∧ u_w (t (q - 1)) = true) := by
    rw [u_gb_iff]
    unfold u_gl
    exact ⟨fun z => ⟨z.1, z.2.2.2⟩, fun z => ⟨z.1, hq, hw, z.2⟩⟩
  by_cases hqp : p < q
  · have h32 : ¬ u_gb t n q = true := fun z => by
      have := (hg.mp z).2
      rw [hsp hqp] at this
      exact absurd this (by decide)
    rw [if_neg h32, if_neg (c := nI p = nI q) (fun z => by have := q_inj (by omega) (by omega) z; omega)]
    exact ite_self _
  · have e : p = q := by omega
    subst e
    rw [if_pos (rfl : nI p = nI p)]
    by_cases hp0 : p = 0
    · subst hp0
      rw [if_pos (c := nI 0 ≤ 0) (by decide), if_pos rfl, if_neg (fun z => by have := (hg.mp z).1; omega)]
    · rw [if_neg (c := nI p ≤ 0) (show ¬ nI p ≤ (0 : Int32) from nI_ge (a := 0) (by omega) (by omega))]
      by_cases hkk : k = 1 ∨ k = 2
      · rw [if_pos (c := u_gb t n p = true) (hg.mpr ⟨by omega, (hk.2 (by omega)).mp hkk⟩)]
        rcases hkk with rfl | rfl
        · decide
        · decide
      · rw [if_neg (c := u_gb t n p = true) (fun z => hkk ((hk.2 (by omega)).mpr (hg.mp z).2))]
        have k1 : ¬ nI k = (1 : Int32) := fun z => hkk (Or.inl (q_inj (b := 1) (by omega) (by omega) z))
        have k2 : ¬ nI k = (2 : Int32) := fun z => hkk (Or.inr (q_inj (b := 2) (by omega) (by omega) z))
        rw [if_neg k1, if_neg k2, if_pos rfl]
/-- what the reference has changed of its reader -/
def u_fm (N N' : sk_M) : Prop := ∀ a b, a ≠ 88 ∨ (b < 16 ∨ 20 < b) → N' a b = N a b
theorem u_next {t : Nat → Nat} {n p k : Nat} {N : sk_M} (h : u_tm t n N) (hp : p ≤ n) (h17 : N 88 17 = nI p) (h18 : N 88 18 = nI k) (hk : u_pk t p k) :
    ∃ N', f_X7_nextToken N = some N' ∧ N' 88 16 = nI (u_sk t n p) ∧ N' 88 17 = nI (u_e t n (u_sk t n p)) ∧ N' 88 18 = nI (u_k t n (u_sk t n p)) ∧ (u_sk t n p < n → u_L (t (u_sk t n p)) = true → N' 88 20 = if u_e t n (u_sk t n p) = u_sk t n p + 1 then nI (t (u_sk t n p)) else 0) ∧ (u_sk t n p < n → u_D (t (u_sk t n p)) = true → u_e t n (u_sk t n p) ≤ u_sk t n p + 4 → N' 88 19 = u_num t (u_e t n (u_sk t n p) - u_sk t n p) (u_sk t n p) 0) ∧ (u_sk t n p < n → ¬ u_w (t (u_sk t n p)) = true → N' 88 20 = nI (t (u_sk t n p))) ∧ u_fm N N' := by
  have h9 := h.1
  obtain ⟨M1, a1, a2, a3⟩ := u_L34 (t := t) (n := n) (x := if nI p ≤ 0 then (0 : Int32) else (if nI k = 1 then 1 else (if nI k = 2 then 1 else 0))) (y := nI p) (n - p) p sk_FU N h (by omega) (by unfold sk_FU; omega) h17
  have hb := u_sk_b (t := t) hp
  have hx6 := fun z1 z2 => u_x6 (t := t) h9 hp hk z1 z2
  have a2' : M1 88 17 = nI (u_sk t n p) := a2
  generalize u_sk t n p = q at a2' hb hx6 ⊢
  have hM2 : u_tm t n (sk_u M1 88 16 (nI q)) := u_tm_f (u_tm_f h (by omega) a3) (by omega) (u_f_u _ _ _ _)
  have e16 : sk_u M1 88 16 (nI q) 88 16 = nI q := by rw [q_ue]
  have e17 : sk_u M1 88 16 (nI q) 88 17 = nI q := by rw [q_un (by omega)]; exact a2'
  have f0 : u_fm N (sk_u M1 88 16 (nI q)) := fun a b z => by rw [q_un (by omega), a3 a b (by omega)]
  rw [f_X7_nextToken, h17, h18, q_let, q_let, a1, q_b1, a2', q_let, q_let]
  generalize sk_u M1 88 16 (nI q) = M2 at hM2 e16 e17 f0 ⊢
  rw [e16, hM2.2.1]
  have heb := u_e_b (t := t) hb.2
  by_cases hq : q < n
  rotate_left
  · have hqn : q = n := by omega
    have hue : u_e t n q = q := by unfold u_e; rw [if_neg hq]
    have huk : u_k t n q = 0 := by unfold u_k; rw [if_neg hq]
    refine ⟨sk_u M2 88 18 0, ?_, by rw [q_un (by omega)]; exact e16, by rw [q_un (by omega), hue]; exact e17, by rw [q_ue, huk]; rfl, fun z => absurd z hq, fun z => absurd z hq, fun z => absurd z hq, fun a b z => by rw [q_un (by omega)]; exact f0 a b z⟩
    rw [if_pos (by rw [hqn]), q_let]
  rw [if_neg (fun z => by have := q_inj (by omega) (by omega) z; omega)]
  by_cases hL : u_L (t q) = true
  · -- a word
    have hw : u_w (t q) = true := by unfold u_w; rw [hL]; rfl
    have hue : u_e t n q = u_run (fun j => u_L (t j)) (n - q) q := by unfold u_e; rw [if_pos hq, if_pos hL]
    obtain ⟨M3, c1, c2, c3⟩ := u_L128 (t := t) (n := n) (x := if u_gb t n q = true then (1 : Int32) else 0) (n - q) q sk_FU M2 hM2 (by omega) (by unfold sk_FU; omega) e17
    rw [← hue] at c2
    have huk : (if (if u_gb t n q = true then (1 : Int32) else 0) = 0 then (1 : Int32) else 4) = nI (u_k t n q) := by
      unfold u_k
      rw [if_pos hq, if_pos hL]
      cases u_gb t n q <;> rfl
    have hM3 : u_tm t n M3 := u_tm_f hM2 (by omega) c3
    obtain ⟨y1, y2⟩ := hM3.2.2 q hq
    have g16 : M3 88 16 = nI q := by rw [c3 88 16 (by omega)]; exact e16
    have hf3 : u_fm N M3 := fun a b z => by rw [c3 a b (by omega)]; exact f0 a b z
    have r16 : ∀ v, sk_u M3 88 18 v 88 16 = nI q := fun v => by rw [q_un (by omega)]; exact g16
    have r17 : ∀ v, sk_u M3 88 18 v 88 17 = nI (u_e t n q) := fun v => by rw [q_un (by omega)]; exact c2
    have r102 : ∀ v, sk_u M3 88 18 v 102 q = nI (t q) := fun v => by rw [q_un (by omega)]; exact y1
    rw [u_mL1 hM2 hq hL, q_b1, if_neg (by decide), hx6 hq hw, c1, q_b1, q_let, huk, r16, r17, show nI (u_e t n q) - nI q = nI (u_e t n q - q) from pk_sub heb.1]
    by_cases z : u_e t n q = q + 1
    · refine ⟨sk_u (sk_u M3 88 18 (nI (u_k t n q))) 88 20 (nI (t q)), ?_, by rw [q_un (by omega)]; exact r16 _, by rw [q_un (by omega)]; exact r17 _, by rw [q_un (by omega), q_ue], fun _ _ => by rw [q_ue, if_pos z], fun _ y => absurd y (u_LD hL), fun _ y => absurd hw y, fun a b y => by rw [q_un (by omega), q_un (by omega)]; exact hf3 a b y⟩
      rw [if_pos (show nI (u_e t n q - q) = (1 : Int32) by rw [show u_e t n q - q = 1 by omega]; rfl), q_chkI (by omega) (by omega), q_let, q_clamp (by omega), r102]
    · refine ⟨sk_u (sk_u M3 88 18 (nI (u_k t n q))) 88 20 0, ?_, by rw [q_un (by omega)]; exact r16 _, by rw [q_un (by omega)]; exact r17 _, by rw [q_un (by omega), q_ue], fun _ _ => by rw [q_ue, if_neg z], fun _ y => absurd y (u_LD hL), fun _ y => absurd hw y, fun a b y => by rw [q_un (by omega), q_un (by omega)]; exact hf3 a b y⟩
      rw [if_neg (show ¬ nI (u_e t n q - q) = (1 : Int32) from fun y => by have := q_inj (b := 1) (by omega) (by omega) y; have := heb.2.2 hq; omega), q_let]
  · rw [u_mL0 hM2 (by omega) (fun y => hL y.2), q_b1, if_pos rfl]
    by_cases hD : u_D (t q) = true
    · -- a number
      have hw : u_w (t q) = true := by unfold u_w; rw [hD]; simp
      have hue : u_e t n q = u_run (fun j => u_D (t j)) (n - q) q := by unfold u_e; rw [if_pos hq, if_neg hL, if_pos hD]
      obtain ⟨M3, c1, c2, c4, c3⟩ := u_L214 (t := t) (n := n) (q := q) (x := if u_gb t n q = true then (1 : Int32) else 0) h9 (n - q) q sk_FU (sk_u M2 88 19 0) (u_tm_f hM2 (by omega) (u_f_u _ _ _ _)) (by omega) (by omega) (by unfold sk_FU; omega) (by rw [q_un (by omega)]; exact e16) (by rw [q_un (by omega)]; exact e17)
      rw [← hue, q_ue] at c4
      rw [← hue] at c2
      have g16 : M3 88 16 = nI q := by rw [c3 88 16 (by omega), q_un (by omega)]; exact e16
      have huk : (if (if u_gb t n q = true then (1 : Int32) else 0) = 0 then (if nI (u_e t n q - q) ≤ (4 : Int32) then (2 : Int32) else 4) else 4) = nI (u_k t n q) := by
        unfold u_k
        rw [if_pos hq, if_neg hL, if_pos hD]
        by_cases z : u_gb t n q = true
        · rw [if_pos z, if_pos z, if_neg (by decide)]; rfl
        · rw [if_neg z, if_neg z, if_pos rfl]
          by_cases z2 : u_e t n q ≤ q + 4
          · rw [if_pos z2, if_pos (show nI (u_e t n q - q) ≤ (4 : Int32) from nI_le (b := 4) (by omega) (by omega))]; rfl
          · rw [if_neg z2, if_neg (show ¬ nI (u_e t n q - q) ≤ (4 : Int32) from nI_ge (a := 4) (by omega) (by omega))]; rfl
      refine ⟨sk_u M3 88 18 (nI (u_k t n q)), ?_, by rw [q_un (by omega)]; exact g16, by rw [q_un (by omega)]; exact c2, by rw [q_ue], fun _ y => absurd y hL, fun _ _ y => by rw [q_un (by omega)]; exact c4 y, fun _ y => absurd hw y, fun a b y => by rw [q_un (by omega), c3 a b (by omega), q_un (by omega)]; exact f0 a b y⟩
      rw [u_mD1 hM2 hq hD, q_b1, if_neg (by decide), q_let, hx6 hq hw, c1, q_b1, c2, g16, show nI (u_e t n q) - nI q = nI (u_e t n q - q) from pk_sub heb.1, huk, q_let]
    · have hnw : ¬ u_w (t q) = true := fun y => by
        unfold u_w at y
        simp only [Bool.or_eq_true] at y
        rcases y with y | y
        · exact hL y
        · exact hD y
      have hue : u_e t n q = q + 1 := by unfold u_e; rw [if_pos hq, if_neg hL, if_neg hD]
      have huk : u_k t n q = 3 := by unfold u_k; rw [if_pos hq, if_neg hL, if_neg hD]
      obtain ⟨y1, y2⟩ := hM2.2.2 q hq
      refine ⟨sk_u (sk_u (sk_u M2 88 18 3) 88 20 (nI (t q))) 88 17 (nI (q + 1)), ?_, by rw [q_un (by omega), q_un (by omega), q_un (by omega)]; exact e16, by rw [q_ue, hue], by rw [q_un (by omega), q_un (by omega), q_ue, huk]; rfl, fun _ y => absurd y hL, fun _ y => absurd y hD, fun _ _ => by rw [q_un (by omega), q_ue], fun a b y => by rw [q_un (by omega), q_un (by omega), q_un (by omega)]; exact f0 a b y⟩
      have r16 : sk_u M2 88 18 3 88 16 = nI q := by rw [q_un (by omega)]; exact e16
      have r102 : sk_u M2 88 18 3 102 q = nI (t q) := by rw [q_un (by omega)]; exact y1
      have r17 : sk_u (sk_u M2 88 18 3) 88 20 (nI (t q)) 88 17 = nI q := by rw [q_un (by omega), q_un (by omega)]; exact e17
      rw [u_mD0 hM2 (by omega) (fun y => hD y.2), q_b1, if_pos rfl, q_let, r16, q_chkI (by omega) (by omega), q_let, q_clamp (by omega), r102, r17, nI_1, q_let]
