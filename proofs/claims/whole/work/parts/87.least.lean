/-! The least strength that lasts: the class's table against the reference's search. -/
def y_g (M : sk_M) (k : Nat) (warm : Int32) (s : Nat) : Nat := s - (x_ls 10 M k (nI s) warm 1).toNatClampNeg
def y_it (g : Nat → Nat) : Nat → Nat → Nat
  | 0, s => s
  | n + 1, s => y_it g n (g s)
theorem y_it_le {g : Nat → Nat} (hg : ∀ s, g s ≤ s) : ∀ n s, y_it g n s ≤ s
  | 0, s => Nat.le_refl _
  | n + 1, s => Nat.le_trans (y_it_le hg n (g s)) (hg s)
theorem y_g_le (M : sk_M) (k : Nat) (warm : Int32) (s : Nat) : y_g M k warm s ≤ s := Nat.sub_le _ _
theorem y_g_n {nS nC nT k : Nat} {M : sk_M} (h : x_mh 10 nS nC nT M) (hk : k < 9) {s : Nat} (hs : s ≤ 999) (warm : Int32) : nI s - x_ls 10 M k (nI s) warm 1 = nI (y_g M k warm s) ∧ ∃ l, l ≤ s ∧ x_ls 10 M k (nI s) warm 1 = nI l ∧ y_g M k warm s = s - l := by
  obtain ⟨l, l1, l2⟩ := x_ls_n (c := 0) h hk hs warm 1
  have e : y_g M k warm s = s - l := by unfold y_g; rw [l2, q_clamp (by omega)]
  refine ⟨?_, l, l1, l2, e⟩
  rw [e, l2, pk_sub l1]
def y_fi (Q : Nat → Bool) : Nat → Nat → Option Nat
  | 0, _ => none
  | m + 1, s => if Q s = true then some s else y_fi Q m (s + 1)
theorem y_fi_s (Q : Nat → Bool) (m s : Nat) : y_fi Q (m + 1) s = if Q s = true then some s else y_fi Q m (s + 1) := rfl
theorem y_fi_skip {Q : Nat → Bool} {f : Nat} (hQ : ∀ s, s < f → Q s = false) : ∀ (j m s : Nat), s + j = f → y_fi Q (j + m) s = y_fi Q m f := by
  intro j
  induction j with
  | zero =>
    intro m s hs
    rw [Nat.zero_add, show s = f by omega]
  | succ j ih =>
    intro m s hs
    rw [show j + 1 + m = (j + m) + 1 by omega, y_fi_s, if_neg (by rw [hQ s (by omega)]; decide)]
    exact ih m (s + 1) (by omega)
theorem y_fi_lt {Q : Nat → Bool} : ∀ (m s v : Nat), y_fi Q m s = some v → v < s + m := by
  intro m
  induction m with
  | zero => intro s v h; cases h
  | succ m ih =>
    intro s v h
    rw [y_fi_s] at h
    by_cases q : Q s = true
    · rw [if_pos q] at h; cases h; omega
    · rw [if_neg q] at h
      have := ih _ _ h
      omega
/-- t tells on how many fadings s stands at f or more -/
def y_P (g : Nat → Nat) (f s t : Nat) : Prop := ∀ D, D ≤ 100 → (D ≤ t ↔ f ≤ y_it g D s)
theorem y_fix {g : Nat → Nat} {s : Nat} (h : g s = s) : ∀ n, y_it g n s = s
  | 0 => rfl
  | n + 1 => by show y_it g n (g s) = s; rw [h]; exact y_fix h n
theorem y_P_fix {g : Nat → Nat} {f s : Nat} (hf : f ≤ s) (h : g s = s) : y_P g f s 100 := fun D hD => by
  rw [y_fix h]; omega
theorem y_P_next {g : Nat → Nat} {f s t : Nat} (hf : f ≤ s) (h : y_P g f (g s) t) : y_P g f s (t + 1) := fun D hD => by
  cases D with
  | zero => show 0 ≤ t + 1 ↔ f ≤ s; omega
  | succ D =>
    have := h D (by omega)
    show D + 1 ≤ t + 1 ↔ f ≤ y_it g D (g s)
    rw [← this]; omega
theorem y_P_0 {g : Nat → Nat} {f s : Nat} (hg : ∀ s, g s ≤ s) (hf : f ≤ s) (h : g s < f) : y_P g f s 0 := fun D hD => by
  cases D with
  | zero => show 0 ≤ 0 ↔ f ≤ s; omega
  | succ D =>
    have := y_it_le hg D (g s)
    show D + 1 ≤ 0 ↔ f ≤ y_it g D (g s)
    omega
theorem x_leL {nS nC nT k f D : Nat} {M : sk_M} {warm : Int32} (hmh : x_mh 10 nS nC nT M) (hch : x_ch 10 nS nC nT M) (hk : k < 9) (hf1 : 1 ≤ f) (hf : f ≤ 999) (hD : D ≤ 100) : ∀ (m s fu : Nat) (Ms : sk_M), s + m = 1000 → f ≤ s → m < fu → (∀ o, o ≠ 19 → o ≠ 47 → Ms o = M o) → (∀ s', f ≤ s' → s' < s → ∃ t, t ≤ 100 + s' ∧ Ms 19 s' = nI t ∧ y_P (y_g M k warm) f s' t) →
    ∃ M', f_X5_leastLeft_L19 10 (nI k) warm (nI f) 100 1 (nI D) fu (nI s) Ms = z_o2s M' (y_fi (fun v => decide (f ≤ y_it (y_g M k warm) D v)) m s) ∧ (∀ o, o ≠ 19 → o ≠ 47 → M' o = M o) := by
  intro m
  induction m with
  | zero =>
    intro s fu Ms hs hfs hfu hU hst
    obtain ⟨g, rfl⟩ : ∃ g, fu = g + 1 := ⟨fu - 1, by omega⟩
    refine ⟨Ms, ?_, hU⟩
    rw [f_X5_leastLeft_L19, if_pos (show (999 : Int32) < nI s from nI_lt (a := 999) (by omega) (by omega))]
    rfl
  | succ m ih =>
    intro s fu Ms hs hfs hfu hU hst
    obtain ⟨g, rfl⟩ : ∃ g, fu = g + 1 := ⟨fu - 1, by omega⟩
    have hs9 : s ≤ 999 := by omega
    have c1 : r_cs 10 M Ms := fun o q => hU o (by omega) (by omega)
    have c2 : r_lib M Ms := fun o q1 q2 q3 => hU o (by omega) q3
    obtain ⟨k1, k2, k3, k4, k5, k6, k7⟩ := x_ch_c hch c1 c2
    obtain ⟨B, hB⟩ := x_lossC (k := k) k1 hk k6.1 k7 k6.2 (nI s) warm 1
    rw [x_ls_c hch.2.2.2.2.2.1.1 hch.2.2.2.2.2.2 c1 c2] at hB
    obtain ⟨e1, l, l1, l2, l3⟩ := y_g_n hmh hk hs9 warm
    have hgl := y_g_le M k warm s
    have hn19 : sk_uA Ms 47 B 19 = Ms 19 := sk_uA_ne _ _ (by omega)
    -- what stays s becomes
    have hnew : ∃ t, t ≤ 100 + s ∧ y_P (y_g M k warm) f s t ∧ (if nI (y_g M k warm s) = nI s then sk_chk (sk_in (nI s) 1000) (sk_let (sk_u (sk_uA Ms 47 B) (10 + 9) (nI s).toNatClampNeg 100) (fun M_14 => some M_14)) else (if nI f ≤ nI (y_g M k warm s) then sk_chk (sk_in (nI (y_g M k warm s)) 1000) (sk_chk (sk_in (nI s) 1000) (sk_let (sk_u (sk_uA Ms 47 B) (10 + 9) (nI s).toNatClampNeg ((sk_uA Ms 47 B (10 + 9) (nI (y_g M k warm s)).toNatClampNeg) + 1)) (fun M_10 => some M_10))) else sk_chk (sk_in (nI s) 1000) (sk_let (sk_u (sk_uA Ms 47 B) (10 + 9) (nI s).toNatClampNeg 0) (fun M_12 => some M_12)))) = some (sk_u (sk_uA Ms 47 B) 19 s (nI t)) := by
      by_cases q : y_g M k warm s = s
      · refine ⟨100, by omega, y_P_fix hfs q, ?_⟩
        rw [q, if_pos rfl, q_chkI (by omega) (by omega), q_let, q_clamp (by omega)]
        rfl
      · rw [if_neg (fun z => q (q_inj (by omega) (by omega) z))]
        by_cases q2 : f ≤ y_g M k warm s
        · obtain ⟨t, t1, t2, t3⟩ := hst (y_g M k warm s) q2 (by omega)
          refine ⟨t + 1, by omega, y_P_next hfs t3, ?_⟩
          rw [if_pos (nI_le q2 (by omega)), q_chkI (by omega) (by omega), q_chkI (by omega) (by omega), q_let, q_clamp (by omega), q_clamp (by omega)]
          show some (sk_u (sk_uA Ms 47 B) 19 s (sk_uA Ms 47 B 19 (y_g M k warm s) + 1)) = _
          rw [hn19, t2, nI_1]
        · refine ⟨0, by omega, y_P_0 (y_g_le M k warm) hfs (by omega), ?_⟩
          rw [if_neg (nI_ge (by omega) (by omega)), q_chkI (by omega) (by omega), q_let, q_clamp (by omega)]
          rfl
    obtain ⟨t, t1, t2, t3⟩ := hnew
    have hU2 : ∀ o, o ≠ 19 → o ≠ 47 → sk_u (sk_uA Ms 47 B) 19 s (nI t) o = M o := fun o z1 z2 => by rw [q_uo z1, sk_uA_ne _ _ z2]; exact hU o z1 z2
    rw [f_X5_leastLeft_L19, if_neg (show ¬ (999 : Int32) < nI s from nI_nlt (a := 999) (b := s) (by omega) (by omega)), hB, q_b2, q_let, e1, t3, q_b1, q_chkI (by omega) (by omega), q_clamp (by omega), y_fi_s, nI_1]
    show ∃ M', (if sk_u (sk_uA Ms 47 B) 19 s (nI t) 19 s < nI D then _ else _) = _ ∧ _
    rw [q_ue]
    have hPD := t2 D hD
    by_cases q : f ≤ y_it (y_g M k warm) D s
    · rw [if_neg (nI_nlt (hPD.mpr q) (by omega)), if_pos (decide_eq_true q)]
      exact ⟨_, rfl, hU2⟩
    · rw [if_pos (nI_lt (by omega) (by omega)), if_neg (fun z => q (of_decide_eq_true z))]
      exact ih (s + 1) g _ (by omega) (by omega) (by omega) hU2 (fun s' z1 z2 => by
        by_cases e : s' = s
        · subst e; exact ⟨t, t1, by rw [q_ue], t2⟩
        · rw [q_un (by omega), hn19]; exact hst s' z1 (by omega))
/-- how many of the days d .. d + n - 1 a scent fades on -/
def y_due (kd : Int32) (d n : Nat) : Nat := if kd = 5 then (d + n) / 2 - d / 2 else n
theorem x_fadings {k d n : Nat} {M : sk_M} (hk : k < 9) (hd : M 10 14 = nI d) (hd9 : d ≤ 9999) (hn : n ≤ 100) : f_X5_fadings 10 (nI k) (nI n) M = some (nI (y_due (M 11 k) d n)) := by
  rw [f_X5_fadings, q_chkI hk (by omega), q_clamp (by omega), hd]
  show some (if M 11 k = 5 then _ else _) = _
  unfold y_due
  by_cases q : M 11 k = 5
  · rw [if_pos q, if_pos q, nI_add, x_half (by omega), x_half (by omega), pk_sub (by omega)]
  · rw [if_neg q, if_neg q]
def y_least (M : sk_M) (k : Nat) (warm : Int32) (f d n : Nat) : Option Nat := y_fi (fun v => decide (f ≤ y_it (y_g M k warm) (y_due (M 11 k) d n) v)) (1000 - f) f
def y_oN : Option Nat → Int32
  | some v => nI v
  | none => -1000000005
theorem x_leastC {nS nC nT k f d n : Nat} {M N : sk_M} {warm : Int32} (hmh : x_mh 10 nS nC nT M) (hch : x_ch 10 nS nC nT M) (hk : k < 9) (hf1 : 1 ≤ f) (hf : f ≤ 999) (hd : M 10 14 = nI d) (hd9 : d ≤ 9999) (hn : n ≤ 100) (hN : ∀ o, o ≠ 4 → o ≠ 19 → o ≠ 47 → N o = M o) :
    ∃ M', f_X5_leastLeft 10 (nI k) warm (nI f) (nI n) N = some (y_oN (y_least M k warm f d n), M') ∧ (∀ o, o ≠ 19 → o ≠ 47 → M' o = N o) := by
  have c1 : r_cs 10 M N := fun o q => hN o (by omega) (by omega) (by omega)
  have c2 : r_lib M N := fun o q1 q2 q3 => hN o (by omega) (by omega) q3
  have hD : y_due (M 11 k) d n ≤ 100 := by unfold y_due; split <;> omega
  have hmN : x_mh 10 nS nC nT N := x_mh_c2 hmh c1 c2 (by rw [hN 89 (by omega) (by omega) (by omega)]; exact fun i _ _ => rfl) (by rw [hN 89 (by omega) (by omega) (by omega)]; exact hmh.2.2.2.2.2.2)
  have hg : y_g N k warm = y_g M k warm := by
    funext s
    unfold y_g
    rw [x_ls_c hch.2.2.2.2.2.1.1 hch.2.2.2.2.2.2 c1 c2]
  obtain ⟨M', h1, h2⟩ := x_leL (f := f) (D := y_due (M 11 k) d n) (warm := warm) hmN (x_ch_c hch c1 c2) hk hf1 hf hD (1000 - f) f sk_FU N (by omega) (Nat.le_refl _) (by unfold sk_FU; omega) (fun _ _ _ => rfl) (fun s' z1 z2 => by omega)
  rw [hg] at h1
  have e11 : N 11 = M 11 := hN 11 (by omega) (by omega) (by omega)
  have hfd := x_fadings (M := N) (n := n) hk (by rw [hN 10 (by omega) (by omega) (by omega)]; exact hd) hd9 hn
  rw [e11] at hfd
  refine ⟨M', ?_, h2⟩
  rw [f_X5_leastLeft, hfd, q_b1, h1]
  unfold y_least
  cases y_fi (fun v => decide (f ≤ y_it (y_g M k warm) (y_due (M 11 k) d n) v)) (1000 - f) f with
  | none => rfl
  | some v => rfl
-- the reference
theorem x_parity {t : Nat} (ht : t < 100000) : nI t - nI t / 2 * 2 = nI (t % 2) := pk_rem (d := 2) (by omega) (by omega) (by omega)
theorem x_ls_day {k t : Nat} {M : sk_M} {amt warm : Int32} (ht : t < 100000) : x_ls 10 M k amt warm (nI t) = if M 11 k = 5 ∧ t % 2 = 0 then 0 else x_ls 10 M k amt warm 1 := by
  unfold x_ls x_loss
  show (if M 11 k = 1 then _ else _) = _
  by_cases q5 : M 11 k = 5
  · rw [q5, if_neg (by decide), if_neg (by decide), if_neg (by decide), if_neg (by decide), if_pos rfl, x_parity ht]
    by_cases q : t % 2 = 0
    · rw [q, if_neg (by decide), if_pos ⟨rfl, rfl⟩]
    · have e : t % 2 = 1 := by omega
      rw [e, if_pos (by decide), if_neg (by omega)]
      rw [if_neg (by decide), if_neg (by decide), if_neg (by decide), if_neg (by decide), if_pos rfl, if_pos (by decide)]
  · rw [if_neg (c := M 11 k = 5 ∧ t % 2 = 0) (fun z => q5 z.1)]
    show _ = (if M 11 k = 1 then _ else _)
    by_cases q1 : M 11 k = 1
    · rw [if_pos q1, if_pos q1]
    rw [if_neg q1, if_neg q1]
    show (if M 11 k = 2 then _ else _) = (if M 11 k = 2 then _ else _)
    by_cases q2 : M 11 k = 2
    · rw [if_pos q2, if_pos q2]
    rw [if_neg q2, if_neg q2]
    show (if M 11 k = 3 then _ else _) = (if M 11 k = 3 then _ else _)
    by_cases q3 : M 11 k = 3
    · rw [if_pos q3, if_pos q3]
    rw [if_neg q3, if_neg q3]
    show (if M 11 k = 4 then _ else _) = (if M 11 k = 4 then _ else _)
    by_cases q4 : M 11 k = 4
    · rw [if_pos q4, if_pos q4]
    rw [if_neg q4, if_neg q4]
    show (if M 11 k = 5 then _ else _) = (if M 11 k = 5 then _ else _)
    rw [if_neg q5, if_neg q5]
/-- the reference's scratch -/
def x_o2 (M M' : sk_M) : Prop := ∀ q, q ≠ 103 → q ≠ 104 → M' q = M q
theorem x_o2.trans {M M' M2 : sk_M} (h : x_o2 M M') (h2 : x_o2 M' M2) : x_o2 M M2 := fun q a b => (h2 q a b).trans (h q a b)
theorem x_mh_o2 {nS nC nT : Nat} {M M' : sk_M} (h : x_mh 10 nS nC nT M) (h2 : x_o2 M M') : x_mh 10 nS nC nT M' ∧ x_ls 10 M' = x_ls 10 M := by
  have hq : ∀ q, q < 88 → M' q = M q := fun q z => h2 q (by omega) (by omega)
  have e := h2 89 (by omega) (by omega)
  exact ⟨x_mh_c h hq (by rw [e]; exact fun i _ _ => rfl) (by rw [e]; exact h.2.2.2.2.2.2), x_mh_ls h hq⟩
theorem x_losesO {nS nC nT k a : Nat} {M : sk_M} (h : x_mh 10 nS nC nT M) (hk : k < 9) (ha : a ≤ 999) (warm day : Int32) : ∃ M', f_X7_losesBy (nI k) (nI a) warm day M = some (x_ls 10 M k (nI a) warm day, M') ∧ x_o2 M M' := by
  obtain ⟨h1, h2, h3, h4, h5, h6, h7⟩ := h
  obtain ⟨N, B, hB⟩ := x_lossM (warm := warm) (day := day) hk h1.2.2.2 h3 h2.2.2 h4 h5 (h6 k hk) ha
  exact ⟨_, hB, fun q z1 z2 => by rw [sk_uA_ne _ _ z2, sk_uA_ne _ _ z1]⟩
theorem x_leftL {nS nC nT k c d n : Nat} {M : sk_M} (h : x_mh 10 nS nC nT M) (hk : k < 9) (hc : c < 6) (hd : M 89 4 = nI d) (hd9 : d ≤ 9999) (hn : n ≤ 100) : ∀ (m j v fu : Nat) (Mj : sk_M), j + m = n → m < fu → v ≤ 999 → x_o2 M Mj →
    ∃ M', f_X7_leftOf_L6 (nI c) (nI k) (nI n) fu (nI v) (nI j) Mj = some (nI (y_it (y_g M k (M 89 (37 + c))) (y_due (M 11 k) (d + j) m) v), M') ∧ x_o2 M M' := by
  intro m
  induction m with
  | zero =>
    intro j v fu Mj hj hfu hv ho
    obtain ⟨g, rfl⟩ : ∃ g, fu = g + 1 := ⟨fu - 1, by omega⟩
    refine ⟨Mj, ?_, ho⟩
    rw [f_X7_leftOf_L6, if_pos (nI_le (by omega) (by omega))]
    have : y_due (M 11 k) (d + j) 0 = 0 := by unfold y_due; split <;> omega
    rw [this]; rfl
  | succ m ih =>
    intro j v fu Mj hj hfu hv ho
    obtain ⟨g, rfl⟩ : ∃ g, fu = g + 1 := ⟨fu - 1, by omega⟩
    obtain ⟨hmj, hlsj⟩ := x_mh_o2 h ho
    have e89 := ho 89 (by omega) (by omega)
    obtain ⟨M1, g1, g2⟩ := x_losesO (k := k) hmj hk hv (M 89 (37 + c)) (nI (d + j))
    rw [hlsj, x_ls_day (by omega)] at g1
    rw [f_X7_leftOf_L6, if_neg (nI_ge (by omega) (by omega)), show (37 : Int32) + nI c = nI (37 + c) from nI_add 37 c, q_chkI (by omega) (by omega), q_clamp (by omega), e89, hd, nI_add, g1, q_b2, q_let, nI_1]
    obtain ⟨e1, l, l1, l2, l3⟩ := y_g_n h hk hv (M 89 (37 + c))
    by_cases q : M 11 k = 5 ∧ (d + j) % 2 = 0
    · rw [if_pos q, show nI v - (0 : Int32) = nI v by simp]
      obtain ⟨M', k1, k2⟩ := ih (j + 1) v g M1 (by omega) (by omega) hv (ho.trans g2)
      refine ⟨M', ?_, k2⟩
      rw [k1]
      have : y_due (M 11 k) (d + (j + 1)) m = y_due (M 11 k) (d + j) (m + 1) := by
        unfold y_due
        rw [if_pos q.1, if_pos q.1]
        omega
      rw [this]
    · rw [if_neg q, e1]
      obtain ⟨M', k1, k2⟩ := ih (j + 1) (y_g M k (M 89 (37 + c)) v) g M1 (by omega) (by omega) (by omega) (ho.trans g2)
      refine ⟨M', ?_, k2⟩
      rw [k1]
      have : y_due (M 11 k) (d + j) (m + 1) = y_due (M 11 k) (d + (j + 1)) m + 1 := by
        unfold y_due
        by_cases q5 : M 11 k = 5
        · rw [if_pos q5, if_pos q5]
          have : (d + j) % 2 = 1 := by
            have z : ¬ (d + j) % 2 = 0 := fun y => q ⟨q5, y⟩
            omega
          omega
        · rw [if_neg q5, if_neg q5]
      rw [this]; rfl
theorem x_leastL {nS nC nT k c d n vn f : Nat} {M : sk_M} (h : x_mh 10 nS nC nT M) (hk : k < 9) (hc : c < 6) (hd : M 89 4 = nI d) (hd9 : d ≤ 9999) (hn : n ≤ 100) (hvn : vn < 4) (hf : M 89 (6 + vn) = nI f) (hf9 : f ≤ 999) : ∀ (m v fu : Nat) (Mv : sk_M), v + m = 1000 → m < fu → x_o2 M Mv →
    ∃ M', f_X7_leastOf_L3 (nI c) (nI k) (nI vn) (nI n) fu (nI v) Mv = z_o2s M' (y_fi (fun v => decide (f ≤ y_it (y_g M k (M 89 (37 + c))) (y_due (M 11 k) d n) v)) m v) ∧ x_o2 M M' := by
  intro m
  induction m with
  | zero =>
    intro v fu Mv hv hfu ho
    obtain ⟨g, rfl⟩ : ∃ g, fu = g + 1 := ⟨fu - 1, by omega⟩
    refine ⟨Mv, ?_, ho⟩
    rw [f_X7_leastOf_L3, if_pos (show (999 : Int32) < nI v from nI_lt (a := 999) (by omega) (by omega))]
    rfl
  | succ m ih =>
    intro v fu Mv hv hfu ho
    obtain ⟨g, rfl⟩ : ∃ g, fu = g + 1 := ⟨fu - 1, by omega⟩
    obtain ⟨M1, g1, g2⟩ := x_leftL h hk hc hd hd9 hn n 0 v sk_FU Mv (by omega) (by unfold sk_FU; omega) (by omega) ho
    have g1' : f_X7_leftOf (nI c) (nI k) (nI v) (nI n) Mv = some (nI (y_it (y_g M k (M 89 (37 + c))) (y_due (M 11 k) d n) v), M1) := by
      have h0 : f_X7_leftOf_L6 (nI c) (nI k) (nI n) sk_FU (nI v) 0 Mv = _ := g1
      rw [f_X7_leftOf, h0, q_b2]
      rfl
    have hle := y_it_le (y_g_le M k (M 89 (37 + c))) (y_due (M 11 k) d n) v
    rw [f_X7_leastOf_L3, if_neg (show ¬ (999 : Int32) < nI v from nI_nlt (a := 999) (b := v) (by omega) (by omega)), g1', q_b2, show (6 : Int32) + nI vn = nI (6 + vn) from nI_add 6 vn, q_chkI (by omega) (by omega), q_clamp (by omega), g2 89 (by omega) (by omega), hf, y_fi_s, nI_1]
    by_cases q : f ≤ y_it (y_g M k (M 89 (37 + c))) (y_due (M 11 k) d n) v
    · rw [if_neg (nI_nlt q (by omega)), if_pos (decide_eq_true q)]
      exact ⟨M1, rfl, g2⟩
    · rw [if_pos (nI_lt (by omega) (by omega)), if_neg (fun z => q (of_decide_eq_true z))]
      exact ih (v + 1) g M1 (by omega) (by omega) g2
theorem x_leastM {nS nC nT k c d n vn f : Nat} {M : sk_M} (h : x_mh 10 nS nC nT M) (hk : k < 9) (hc : c < 6) (hd : M 89 4 = nI d) (hd9 : d ≤ 9999) (hn : n ≤ 100) (hvn : vn < 4) (hf : M 89 (6 + vn) = nI f) (hf9 : f ≤ 999) :
    ∃ M', f_X7_leastOf (nI c) (nI k) (nI vn) (nI n) M = some (z_o2i (y_least M k (M 89 (37 + c)) f d n), M') ∧ x_o2 M M' := by
  obtain ⟨M', h1, h2⟩ := x_leastL h hk hc hd hd9 hn hvn hf hf9 1000 0 sk_FU M (by omega) (by unfold sk_FU; omega) (fun _ _ _ => rfl)
  refine ⟨M', ?_, h2⟩
  have h1' : f_X7_leastOf_L3 (nI c) (nI k) (nI vn) (nI n) sk_FU 0 M = _ := h1
  have hskip := y_fi_skip (Q := fun v => decide (f ≤ y_it (y_g M k (M 89 (37 + c))) (y_due (M 11 k) d n) v)) (f := f) (fun s hs => decide_eq_false (by have := y_it_le (y_g_le M k (M 89 (37 + c))) (y_due (M 11 k) d n) s; omega)) f (1000 - f) 0 (by omega)
  rw [show f + (1000 - f) = 1000 by omega] at hskip
  rw [hskip] at h1'
  rw [f_X7_leastOf, h1']
  unfold y_least
  cases y_fi (fun v => decide (f ≤ y_it (y_g M k (M 89 (37 + c))) (y_due (M 11 k) d n) v)) (1000 - f) f with
  | none => rfl
  | some v => rfl
