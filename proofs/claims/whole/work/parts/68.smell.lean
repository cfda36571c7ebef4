/-! What is smelled and said. -/
def x_bit (x : Int32) (k : Nat) : Int32 := (x >>> (nI k &&& 31)) &&& 1
theorem x_bit01 (x : Int32) (k : Nat) : x_bit x k = 0 ∨ x_bit x k = 1 := by
  obtain ⟨j, h1, h2⟩ := pk_andE (x >>> (nI k &&& 31)) (m := 1) 1 (by decide)
  unfold x_bit
  rw [h2]
  match j, h1 with
  | 0, _ => exact Or.inl rfl
  | 1, _ => exact Or.inr rfl
/-- scent k of row r is hidden by one of the m scents from h on -/
def x_hd (Hd r : Nat → Int32) (k : Nat) : Nat → Nat → Bool
  | _, 0 => false
  | h, m + 1 => if x_bit (Hd h) k = 1 ∧ ¬ r h < 2 * r k then true else x_hd Hd r k (h + 1) m
theorem x_hd_s (Hd r : Nat → Int32) (k h m : Nat) : x_hd Hd r k h (m + 1) = if x_bit (Hd h) k = 1 ∧ ¬ r h < 2 * r k then true else x_hd Hd r k (h + 1) m := rfl
theorem x_hidL {w o nS k : Nat} {M : sk_M} (h9 : nS ≤ 9) (hn : M w 10 = nI nS) (hk : k < 9) : ∀ (m h fu : Nat), h + m = nS → m < fu →
    f_X5_isHidden_L2 w o (nI k) M fu (nI h) = if x_hd (M (w + 3)) (M o) k h m = true then some (Sum.inl 1) else some (Sum.inr ()) := by
  intro m
  induction m with
  | zero =>
    intro h fu hh hfu
    obtain ⟨g, rfl⟩ : ∃ g, fu = g + 1 := ⟨fu - 1, by omega⟩
    rw [f_X5_isHidden_L2, hn, if_pos (nI_le (by omega) (by omega))]
    rfl
  | succ m ih =>
    intro h fu hh hfu
    obtain ⟨g, rfl⟩ : ∃ g, fu = g + 1 := ⟨fu - 1, by omega⟩
    rw [f_X5_isHidden_L2, hn, if_neg (nI_ge (by omega) (by omega)), q_chkI (by omega) (by omega), q_clamp (by omega), q_clamp (by omega), nI_1, ih (h + 1) g (by omega) (by omega), q_chkI (by omega) (by omega), q_chkI (by omega) (by omega)]
    rw [x_hd_s]
    show (if x_bit (M (w + 3) h) k = 1 then _ else _) = _
    by_cases h1 : x_bit (M (w + 3) h) k = 1
    · rw [if_pos h1]
      by_cases h2 : M o h < 2 * M o k
      · rw [if_pos h2, if_neg (c := x_bit (M (w + 3) h) k = 1 ∧ ¬ M o h < 2 * M o k) (fun q => q.2 h2)]
      · rw [if_neg h2, if_pos (c := x_bit (M (w + 3) h) k = 1 ∧ ¬ M o h < 2 * M o k) ⟨h1, h2⟩]
        rfl
    · rw [if_neg h1, if_neg (c := x_bit (M (w + 3) h) k = 1 ∧ ¬ M o h < 2 * M o k) (fun q => h1 q.1)]
theorem x_hid {w o nS k : Nat} {M : sk_M} (h9 : nS ≤ 9) (hn : M w 10 = nI nS) (hk : k < 9) : f_X5_isHidden w o (nI k) M = some (if x_hd (M (w + 3)) (M o) k 0 nS = true then 1 else 0) := by
  have h := x_hidL (o := o) h9 hn hk nS 0 sk_FU (by omega) (by unfold sk_FU; omega)
  have h' : f_X5_isHidden_L2 w o (nI k) M sk_FU 0 = _ := h
  rw [f_X5_isHidden, h']
  by_cases q : x_hd (M (w + 3)) (M o) k 0 nS = true
  · rw [if_pos q, if_pos q]; rfl
  · rw [if_neg q, if_neg q]; rfl
/-- the set that is smelled, scents from k on -/
def x_sm (Hd r : Nat → Int32) (fine : Int32) (nS : Nat) : Nat → Nat → Int32 → Int32
  | _, 0, s => s
  | k, m + 1, s => x_sm Hd r fine nS (k + 1) m (if r k < fine ∨ x_hd Hd r k 0 nS = true then s else s ||| (1 <<< (nI k &&& 31)))
theorem x_smellL {w o nS v : Nat} {M : sk_M} (h9 : nS ≤ 9) (hn : M w 10 = nI nS) (hv : v < 4) : ∀ (m k fu : Nat) (s : Int32), k + m = nS → m < fu →
    f_X5_smelled_L5 w o (nI v) M fu s (nI k) = some (x_sm (M (w + 3)) (M o) (M (w + 4) v) nS k m s) := by
  intro m
  induction m with
  | zero =>
    intro k fu s hk hfu
    obtain ⟨g, rfl⟩ : ∃ g, fu = g + 1 := ⟨fu - 1, by omega⟩
    rw [f_X5_smelled_L5, hn, if_pos (nI_le (by omega) (by omega))]
    rfl
  | succ m ih =>
    intro k fu s hk hfu
    obtain ⟨g, rfl⟩ : ∃ g, fu = g + 1 := ⟨fu - 1, by omega⟩
    rw [f_X5_smelled_L5, hn, if_neg (nI_ge (by omega) (by omega)), q_chkI (by omega) (by omega), q_chkI (by omega) (by omega), q_clamp (by omega), q_clamp (by omega), nI_1, x_hid h9 hn (by omega), q_b1, q_let]
    unfold x_sm
    by_cases h1 : M o k < M (w + 4) v
    · rw [if_pos h1, if_pos (Or.inl h1)]
      exact ih (k + 1) g s (by omega) (by omega)
    · rw [if_neg h1]
      by_cases h2 : x_hd (M (w + 3)) (M o) k 0 nS = true
      · rw [if_pos h2, if_neg (by decide), if_pos (Or.inr h2)]
        exact ih (k + 1) g s (by omega) (by omega)
      · rw [if_neg h2, if_pos rfl, if_neg (fun q => q.elim h1 h2)]
        exact ih (k + 1) g _ (by omega) (by omega)
def x_smell (Hd r : Nat → Int32) (fine : Int32) (nS : Nat) : Int32 := x_sm Hd r fine nS 0 nS 0
theorem x_smelled {w o nS v : Nat} {M : sk_M} (h9 : nS ≤ 9) (hn : M w 10 = nI nS) (hv : v < 4) : f_X5_smelled w o (nI v) M = some (x_smell (M (w + 3)) (M o) (M (w + 4) v) nS) := by
  have h := x_smellL (o := o) h9 hn hv nS 0 sk_FU 0 (by omega) (by unfold sk_FU; omega)
  have h' : f_X5_smelled_L5 w o (nI v) M sk_FU 0 0 = _ := h
  rw [f_X5_smelled, h', q_b1]
  rfl
-- rows that agree below nS are smelled alike
theorem x_hd_c {Hd r Hd' r' : Nat → Int32} {k n : Nat} (hk : k < n) (h : ∀ j, j < n → Hd' j = Hd j ∧ r' j = r j) : ∀ (m s : Nat), s + m = n → x_hd Hd' r' k s m = x_hd Hd r k s m := by
  intro m
  induction m with
  | zero => intro s _; rfl
  | succ m ih =>
    intro s hs
    unfold x_hd
    rw [(h s (by omega)).1, (h s (by omega)).2, (h k hk).2, ih (s + 1) (by omega)]
theorem x_sm_c {Hd r Hd' r' : Nat → Int32} {n : Nat} {fine : Int32} (h : ∀ j, j < n → Hd' j = Hd j ∧ r' j = r j) : ∀ (m k : Nat) (s : Int32), k + m = n → x_sm Hd' r' fine n k m s = x_sm Hd r fine n k m s := by
  intro m
  induction m with
  | zero => intro k s _; rfl
  | succ m ih =>
    intro k s hk
    unfold x_sm
    rw [(h k (by omega)).2, x_hd_c (by omega) h n 0 (by omega)]
    exact ih (k + 1) _ (by omega)
theorem x_smell_c {Hd r Hd' r' : Nat → Int32} {n : Nat} {fine : Int32} (h : ∀ j, j < n → Hd' j = Hd j ∧ r' j = r j) : x_smell Hd' r' fine n = x_smell Hd r fine n := x_sm_c h n 0 0 (by omega)
/-- the first word from j on that is the set; -1 -/
def x_wd (S : Nat → Int32) (set : Int32) : Nat → Nat → Int32
  | _, 0 => -1
  | j, m + 1 => if S j = set then nI j else x_wd S set (j + 1) m
theorem x_wd_s (S : Nat → Int32) (set : Int32) (j m : Nat) : x_wd S set j (m + 1) = if S j = set then nI j else x_wd S set (j + 1) m := rfl
theorem x_wd_cases (S : Nat → Int32) (set : Int32) : ∀ (m j : Nat), x_wd S set j m = -1 ∨ ∃ i, j ≤ i ∧ i < j + m ∧ x_wd S set j m = nI i := by
  intro m
  induction m with
  | zero => intro j; exact Or.inl rfl
  | succ m ih =>
    intro j
    unfold x_wd
    by_cases h : S j = set
    · rw [if_pos h]; exact Or.inr ⟨j, by omega, by omega, rfl⟩
    · rw [if_neg h]
      rcases ih (j + 1) with q | ⟨i, q1, q2, q3⟩
      · exact Or.inl q
      · exact Or.inr ⟨i, by omega, by omega, q3⟩
theorem x_saidL {w o nW : Nat} {M : sk_M} {set : Int32} (h12 : nW ≤ 12) (hn : M w 11 = nI nW) : ∀ (m j fu : Nat), j + m = nW → m < fu →
    f_X5_said_L10 w o set M fu (nI j) = if x_wd (M (w + 5)) set j m = -1 then some (Sum.inr ()) else some (Sum.inl (x_wd (M (w + 5)) set j m)) := by
  intro m
  induction m with
  | zero =>
    intro j fu hj hfu
    obtain ⟨g, rfl⟩ : ∃ g, fu = g + 1 := ⟨fu - 1, by omega⟩
    rw [f_X5_said_L10, hn, if_pos (nI_le (by omega) (by omega))]
    rfl
  | succ m ih =>
    intro j fu hj hfu
    obtain ⟨g, rfl⟩ : ∃ g, fu = g + 1 := ⟨fu - 1, by omega⟩
    rw [f_X5_said_L10, hn, if_neg (nI_ge (by omega) (by omega)), q_chkI (by omega) (by omega), q_clamp (by omega), nI_1, ih (j + 1) g (by omega) (by omega)]
    rw [x_wd_s]
    by_cases h : M (w + 5) j = set
    · rw [if_pos h, if_pos h, if_neg]
      intro q
      have := congrArg Int32.toInt q
      rw [q_toI (by omega), show (-1 : Int32).toInt = -1 from rfl] at this
      omega
    · rw [if_neg h, if_neg h]
theorem x_nm1 {i : Nat} (hi : i < 2147483648) : ¬ nI i = -1 := by
  intro q
  have := congrArg Int32.toInt q
  rw [q_toI hi, show (-1 : Int32).toInt = -1 from rfl] at this
  omega
/-- the word, -1 if there is none -/
def x_said (Hd S r : Nat → Int32) (fine : Int32) (nS nW : Nat) : Int32 := x_wd S (x_smell Hd r fine nS) 0 nW
theorem x_saidC {w o nS nW v : Nat} {M : sk_M} (h9 : nS ≤ 9) (h12 : nW ≤ 12) (hn : M w 10 = nI nS) (hw : M w 11 = nI nW) (hv : v < 4) : f_X5_said w o (nI v) M = some (f_X7_orNone (x_said (M (w + 3)) (M (w + 5)) (M o) (M (w + 4) v) nS nW)) := by
  have h := x_saidL (o := o) (set := x_smell (M (w + 3)) (M o) (M (w + 4) v) nS) h12 hw nW 0 sk_FU (by omega) (by unfold sk_FU; omega)
  have h' : f_X5_said_L10 w o (x_smell (M (w + 3)) (M o) (M (w + 4) v) nS) M sk_FU 0 = _ := h
  rw [f_X5_said, x_smelled h9 hn hv, q_b1, h']
  unfold x_said
  rcases x_wd_cases (M (w + 5)) (x_smell (M (w + 3)) (M o) (M (w + 4) v) nS) nW 0 with q | ⟨i, q1, q2, q3⟩
  · rw [q, if_pos rfl]; rfl
  · rw [q3, if_neg (x_nm1 (by omega)), x_orN (by omega)]
    rfl
-- the reference
theorem x_mhidL {w nS k c v : Nat} {M : sk_M} (a3 : Int32) (h9 : nS ≤ 9) (h0 : M 89 0 = nI nS) (hh : ∀ h, h < nS → M 89 (12 + 3 * h) = M (w + 3) h) (hc : c < 6) (hk : k < 9) {r : Nat → Int32} (hr : ∀ j, j < 9 → M 89 (43 + 9 * c + j) = r j) : ∀ (m h fu : Nat), h + m = nS → m < fu →
    f_X7_smeltOn_L45 (nI c) (nI v) a3 (nI k) M fu 0 (nI h) = some 0 ∧ f_X7_smeltOn_L45 (nI c) (nI v) a3 (nI k) M fu 1 (nI h) = some (if x_hd (M (w + 3)) r k h m = true then 0 else 1) := by
  intro m
  induction m with
  | zero =>
    intro h fu hh' hfu
    obtain ⟨g, rfl⟩ : ∃ g, fu = g + 1 := ⟨fu - 1, by omega⟩
    constructor
    · rw [f_X7_smeltOn_L45, h0, if_pos (nI_le (by omega) (by omega))]
    · rw [f_X7_smeltOn_L45, h0, if_pos (nI_le (by omega) (by omega))]
      rfl
  | succ m ih =>
    intro h fu hh' hfu
    obtain ⟨g, rfl⟩ : ∃ g, fu = g + 1 := ⟨fu - 1, by omega⟩
    obtain ⟨i0, i1⟩ := ih (h + 1) g (by omega) (by omega)
    constructor
    · rw [f_X7_smeltOn_L45, h0, if_neg (nI_ge (by omega) (by omega)), if_pos rfl, nI_1]
      exact i0
    · rw [f_X7_smeltOn_L45, h0, if_neg (nI_ge (by omega) (by omega)), if_neg (by decide), x_of2 (by omega), q_b1, hh h (by omega), nI_1, x_on hc (by omega), q_b1, x_on hc hk, q_b1, q_let, hr h (by omega), hr k hk]
      rw [x_hd_s]
      show (if x_bit (M (w + 3) h) k = 0 then _ else _) = _
      rcases x_bit01 (M (w + 3) h) k with q | q
      · rw [if_pos q, i1, if_neg (c := x_bit (M (w + 3) h) k = 1 ∧ ¬ r h < 2 * r k) (fun z => by rw [q] at z; exact absurd z.1 (by decide))]
      · rw [if_neg (by rw [q]; decide)]
        by_cases z : r h < 2 * r k
        · have z2 : ¬ 2 * r k ≤ r h := by rw [q_ltI] at z; rw [q_leI]; omega
          rw [if_neg z2, i1, if_neg (c := x_bit (M (w + 3) h) k = 1 ∧ ¬ r h < 2 * r k) (fun y => y.2 z)]
        · have z2 : 2 * r k ≤ r h := by rw [q_ltI] at z; rw [q_leI]; omega
          rw [if_pos z2, i0, if_pos (c := x_bit (M (w + 3) h) k = 1 ∧ ¬ r h < 2 * r k) ⟨q, z⟩]
          rfl
theorem x_or0 (x : Int32) : x ||| 0 = x := by simp
theorem x_msmellL {w nS c v : Nat} {M : sk_M} (h9 : nS ≤ 9) (h0 : M 89 0 = nI nS) (hh : ∀ h, h < nS → M 89 (12 + 3 * h) = M (w + 3) h) (hf : M 89 (6 + v) = M (w + 4) v) (hc : c < 6) (hv : v < 4) {r : Nat → Int32} (hr : ∀ j, j < 9 → M 89 (43 + 9 * c + j) = r j) : ∀ (m k fu : Nat) (s : Int32), k + m = nS → m < fu →
    f_X7_smeltOn_L5 (nI c) (nI v) M fu s (nI k) = some (x_sm (M (w + 3)) r (M (w + 4) v) nS k m s) := by
  intro m
  induction m with
  | zero =>
    intro k fu s hk hfu
    obtain ⟨g, rfl⟩ : ∃ g, fu = g + 1 := ⟨fu - 1, by omega⟩
    rw [f_X7_smeltOn_L5, h0, if_pos (nI_le (by omega) (by omega))]
    rfl
  | succ m ih =>
    intro k fu s hk hfu
    obtain ⟨g, rfl⟩ : ∃ g, fu = g + 1 := ⟨fu - 1, by omega⟩
    obtain ⟨i0, i1⟩ := x_mhidL (w := w) (k := k) (c := c) (v := v) s h9 h0 hh hc (by omega) hr nS 0 sk_FU (by omega) (by unfold sk_FU; omega)
    have i0' : f_X7_smeltOn_L45 (nI c) (nI v) s (nI k) M sk_FU 0 0 = some 0 := i0
    have i1' : f_X7_smeltOn_L45 (nI c) (nI v) s (nI k) M sk_FU 1 0 = _ := i1
    rw [f_X7_smeltOn_L5, h0, if_neg (nI_ge (by omega) (by omega)), x_on hc (by omega), q_b1, show (6 : Int32) + nI v = nI (6 + v) from nI_add 6 v, q_chkI (by omega) (by omega), q_clamp (by omega), hf, q_let, hr k (by omega), nI_1]
    unfold x_sm
    by_cases h1 : r k < M (w + 4) v
    · rw [if_pos h1, i0', q_b1, q_let, if_pos rfl, x_or0, if_pos (Or.inl h1)]
      exact ih (k + 1) g s (by omega) (by omega)
    · rw [if_neg h1, i1', q_b1, q_let]
      by_cases h2 : x_hd (M (w + 3)) r k 0 nS = true
      · rw [if_pos h2, if_pos rfl, x_or0, if_pos (Or.inr h2)]
        exact ih (k + 1) g s (by omega) (by omega)
      · rw [if_neg h2, if_neg (by decide), if_neg (fun q => q.elim h1 h2)]
        exact ih (k + 1) g _ (by omega) (by omega)
theorem x_msmell {w nS c v : Nat} {M : sk_M} (h9 : nS ≤ 9) (hn : M w 10 = nI nS) (hfix : r_fix w 89 M) (hc : c < 6) (hv : v < 4) : f_X7_smeltOn (nI c) (nI v) M = some (x_smell (M (w + 3)) (fun k => M 89 (43 + 9 * c + k)) (M (w + 4) v) nS) := by
  obtain ⟨⟨f0, -⟩, f1, f2, -, -⟩ := hfix
  have h := x_msmellL (w := w) h9 (f0.trans hn) (fun h hh => (f2 h (by omega)).2.2) (f1 v hv) hc hv (r := fun k => M 89 (43 + 9 * c + k)) (fun j _ => rfl) nS 0 sk_FU 0 (by omega) (by unfold sk_FU; omega)
  have h' : f_X7_smeltOn_L5 (nI c) (nI v) M sk_FU 0 0 = _ := h
  rw [f_X7_smeltOn, h', q_b1]
  rfl
theorem x_msaidL {w nW : Nat} {M : sk_M} {set : Int32} (h12 : nW ≤ 12) (hn : M 89 2 = nI nW) (hs : ∀ j, j < 12 → M 89 (97 + j) = M (w + 5) j) : ∀ (m j fu : Nat), j + m = nW → m < fu →
    f_X7_saidBy_L10 set M fu (nI j) = if x_wd (M (w + 5)) set j m = -1 then some (Sum.inr ()) else some (Sum.inl (x_wd (M (w + 5)) set j m)) := by
  intro m
  induction m with
  | zero =>
    intro j fu hj hfu
    obtain ⟨g, rfl⟩ : ∃ g, fu = g + 1 := ⟨fu - 1, by omega⟩
    rw [f_X7_saidBy_L10, hn, if_pos (nI_le (by omega) (by omega))]
    rfl
  | succ m ih =>
    intro j fu hj hfu
    obtain ⟨g, rfl⟩ : ∃ g, fu = g + 1 := ⟨fu - 1, by omega⟩
    rw [f_X7_saidBy_L10, hn, if_neg (nI_ge (by omega) (by omega)), show (97 : Int32) + nI j = nI (97 + j) from nI_add 97 j, q_chkI (by omega) (by omega), q_clamp (by omega), hs j (by omega), nI_1, ih (j + 1) g (by omega) (by omega)]
    rw [x_wd_s]
    by_cases h : M (w + 5) j = set
    · rw [if_pos h, if_pos h, if_neg (x_nm1 (by omega))]
    · rw [if_neg h, if_neg h]
theorem x_msaid {w nS nW c v : Nat} {M : sk_M} (h9 : nS ≤ 9) (h12 : nW ≤ 12) (hn : M w 10 = nI nS) (hw : M w 11 = nI nW) (hfix : r_fix w 89 M) (hc : c < 6) (hv : v < 4) : f_X7_saidBy (nI c) (nI v) M = some (x_said (M (w + 3)) (M (w + 5)) (fun k => M 89 (43 + 9 * c + k)) (M (w + 4) v) nS nW) := by
  have h := x_msaidL (w := w) (set := x_smell (M (w + 3)) (fun k => M 89 (43 + 9 * c + k)) (M (w + 4) v) nS) h12 (hfix.1.2.2.1.trans hw) hfix.2.2.2.2 nW 0 sk_FU (by omega) (by unfold sk_FU; omega)
  have h' : f_X7_saidBy_L10 (x_smell (M (w + 3)) (fun k => M 89 (43 + 9 * c + k)) (M (w + 4) v) nS) M sk_FU 0 = _ := h
  rw [f_X7_saidBy, x_msmell h9 hn hfix hc hv, q_b1, h']
  unfold x_said
  rcases x_wd_cases (M (w + 5)) (x_smell (M (w + 3)) (fun k => M 89 (43 + 9 * c + k)) (M (w + 4) v) nS) nW 0 with q | ⟨i, q1, q2, q3⟩
  · rw [q, if_pos rfl]; rfl
  · rw [q3, if_neg (x_nm1 (by omega))]
    rfl
theorem x_said_c {Hd S r Hd' S' r' : Nat → Int32} {n nW : Nat} {fine : Int32} (h : ∀ j, j < n → Hd' j = Hd j ∧ r' j = r j) (hs : S' = S) : x_said Hd' S' r' fine n nW = x_said Hd S r fine n nW := by
  unfold x_said
  rw [x_smell_c h, hs]
