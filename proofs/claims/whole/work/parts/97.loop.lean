/-! The loops of a level. -/
def u_post (t : Nat → Nat) (n key A s lo d u : Nat) (M0 N0 : sk_M) (D : Nat) (M' N' : sk_M) (r : Int32) : Prop := (r = 1 ∧ u_S t n key A s lo d u M0 N0 D M' N') ∨ (r = 0 ∧ u_F n A M0 N0 M' N')
def u_sim (t : Nat → Nat) (n key A d u : Nat) (M0 N0 : sk_M) (FC : sk_M → Option sk_M) (FM : sk_M → Option (Int32 × sk_M)) : Prop :=
  (∀ s lo D q laid said M N, u_R t n key A (s + 1) lo d u M0 N0 q laid said D M N → ∃ M' r N', FC M = some M' ∧ FM N = some (r, N') ∧ u_post t n key A (s + 1) (lo + 1) d u M0 N0 (D + 1) M' N' r) ∧ (∀ M, (0 : Int32) ≤ M 62 5 → FC M = some M) ∧ (∀ N, N 88 18 = 4 → FM N = some (0, N))
theorem u_pos {q : Nat} (h : q ≤ 96) : (0 : Int32) ≤ nI q := nI_le (a := 0) (by omega) (by omega)
theorem u_G_5 {t : Nat → Nat} {n A s lo d u q laid said : Nat} {M0 N0 M N : sk_M} (h : u_G t n A s lo d u M0 N0 q laid said M N) : (0 : Int32) ≤ M 62 5 ∧ N 88 18 = 4 ∧ u_F n A M0 N0 M N := by
  obtain ⟨b, g, h5⟩ := h
  have h1 := b.hq
  have h2 := b.tc.1
  refine ⟨by rw [h5]; exact u_pos (by omega), by rw [b.n18, u_gl_k g]; rfl, b.fr, q, b.hq, h5, b.n16⟩
theorem u_F_5 {n A : Nat} {M0 N0 M N : sk_M} (hn : n ≤ 96) (h : u_F n A M0 N0 M N) : (0 : Int32) ≤ M 62 5 := by
  obtain ⟨-, q, h1, h2, -⟩ := h
  rw [h2]; exact u_pos (by omega)
theorem u_S_n {t : Nat → Nat} {n key A s lo d u D : Nat} {M0 N0 M N : sk_M} (h : u_S t n key A s lo d u M0 N0 D M N) : n ≤ 96 := by
  obtain ⟨q, laid, said, h | h⟩ := h
  · exact h.1.tc.1
  · exact h.1.tc.1
theorem u_simS {t : Nat → Nat} {n key A s lo d u D : Nat} {M0 N0 M N : sk_M} {FC : sk_M → Option sk_M} {FM : sk_M → Option (Int32 × sk_M)} (hs : u_sim t n key A d u M0 N0 FC FM) (h : u_S t n key A (s + 1) lo d u M0 N0 D M N) :
    ∃ M' r N', FC M = some M' ∧ FM N = some (r, N') ∧ u_post t n key A (s + 1) (lo + 1) d u M0 N0 (D + 1) M' N' r := by
  obtain ⟨q, laid, said, h | h⟩ := h
  · exact hs.1 s lo D q laid said M N h
  · obtain ⟨g1, g2, g3⟩ := u_G_5 h
    exact ⟨M, 0, N, hs.2.1 M g1, hs.2.2 N g2, Or.inr ⟨rfl, g3⟩⟩
theorem u_B_lo {t : Nat → Nat} {n A s lo lo' d u q laid said : Nat} {M0 N0 M N : sk_M} (hl : lo' ≤ lo) (b : u_B t n A s lo d u M0 N0 q laid said M N) : u_B t n A s lo' d u M0 N0 q laid said M N := ⟨b.1, b.2.1, b.2.2.1, by have := b.hlo; omega, b.2.2.2.2⟩
theorem u_S_lo {t : Nat → Nat} {n key A s lo lo' d u D : Nat} {M0 N0 M N : sk_M} (hl : lo' ≤ lo) (h : u_S t n key A s lo d u M0 N0 D M N) : u_S t n key A s lo' d u M0 N0 D M N := by
  obtain ⟨q, laid, said, h | h⟩ := h
  · exact ⟨q, laid, said, Or.inl ⟨u_B_lo hl h.1, h.2⟩⟩
  · exact ⟨q, laid, said, Or.inr ⟨u_B_lo hl h.1, h.2⟩⟩
theorem u_opD : ∀ o, o < 5 → ∀ c, c < 256 → (u_str (o + 3)).elem c = true → -nI c < (-3 : Int32) ∧ -nI c ≠ (-33 : Int32) := by decide +kernel
theorem u_opS {o c : Nat} (ho : o < 5) (h : (u_str (o + 3)).elem c = true) : x_sign (nI c) := by
  unfold x_sign
  have h5 : o = 0 ∨ o = 1 ∨ o = 2 ∨ o = 3 ∨ o = 4 := by omega
  rcases h5 with rfl | rfl | rfl | rfl | rfl
  · have h : [124].elem c = true := h
    simp at h; subst h; decide
  · have h : [38].elem c = true := h
    simp at h; subst h; decide
  · have h : [60, 61, 62].elem c = true := h
    simp at h; rcases h with rfl | rfl | rfl <;> decide
  · have h : [43, 45].elem c = true := h
    simp at h; rcases h with rfl | rfl <;> decide
  · have h : [42, 47].elem c = true := h
    simp at h; rcases h with rfl | rfl <;> decide
theorem u_op {t : Nat → Nat} {n key A s lo d u q laid said D o : Nat} {M0 N0 M N : sk_M} {FC : sk_M → Option sk_M} {FM : sk_M → Option (Int32 × sk_M)} (hs : u_sim t n key A d u M0 N0 FC FM) (ho : o < 5) (h : u_R t n key A (s + 1) lo d u M0 N0 q laid said (D + 1) M N) (hq : q < n) (hc : (u_str (o + 3)).elem (t q) = true) :
    ∃ M1 M2 M3 N1 r N2, f_X0_moveOn M = some M1 ∧ FC M1 = some M2 ∧ f_X0_put (-nI (t q)) M2 = some M3 ∧ f_X7_nextToken N = some N1 ∧ FM N1 = some (r, N2) ∧ ((r = 0 ∧ u_F n A M0 N0 M3 N2) ∨ (r = 1 ∧ ∃ N3, f_X7_step 2 (nI (t q)) N2 = some N3 ∧ u_S t n key A (s + 1) (lo + 2) d u M0 N0 (D + 1) M3 N3)) := by
  have ht := (h.1.tc.2.2 q hq).2
  have hw := (u_sgW o (by omega) (t q) ht hc).1
  have hk3 := u_k3 hq (by rw [hw]; decide)
  have hn := h.1.tc.1
  obtain ⟨M1, N1, k1, k2, k3⟩ := u_mv h hq (by omega)
  obtain ⟨M2, r, N2, m1, m2, m3⟩ := u_simS hs k3
  have hop := u_opD o ho (t q) ht hc
  rcases m3 with ⟨hr, q', laid', said', z | z⟩ | ⟨hr, z⟩
  · have hl := z.1.hl
    have hq' := z.1.hq
    obtain ⟨p1, p2, p3⟩ := u_put (x := -nI (t q)) (p := 2) (v := nI (t q)) z (by omega) (Or.inr (Or.inr ⟨rfl, rfl, Or.inr (u_opS ho hc)⟩)) (u_cd_op z.2.cd hop.1 hop.2)
    exact ⟨M1, M2, _, N1, r, N2, k1, m1, p1, k2, m2, Or.inr ⟨hr, _, p2, q', _, said', Or.inl p3⟩⟩
  · have hl := z.1.hl
    have hq' := z.1.hq
    have g := u_G_5 z
    exact ⟨M1, M2, M2, N1, r, N2, k1, m1, u_putF g.1, k2, m2, Or.inr ⟨hr, _, u_stE z.1.hA (by omega) z.1.n23 z.1.n24 _ _, q', _, said', Or.inr ⟨u_stB z.1 (by omega) (fun _ _ _ => rfl) rfl _ _, z.2⟩⟩⟩
  · exact ⟨M1, M2, M2, N1, r, N2, k1, m1, u_putF (u_F_5 hn z), k2, m2, Or.inl ⟨hr, z⟩⟩
/-- a loop of the reference over the signs of string o -/
def u_lp (o : Nat) (FM : sk_M → Option (Int32 × sk_M)) (FL : Nat → sk_M → Option ((Int32 × sk_M) ⊕ sk_M)) : Prop :=
  (∀ fu N, (∀ c, (u_str o).elem c = true → f_X7_isSign (nI c) N = 0) → FL (fu + 1) N = some (Sum.inr N)) ∧
  (∀ fu N c, (u_str o).elem c = true → (∀ c', (u_str o).elem c' = true → f_X7_isSign (nI c') N = if c = c' then 1 else 0) → N 88 20 = nI c → FL (fu + 1) N = sk_b1 (f_X7_nextToken N) (fun N5 => sk_b2 (FM N5) (fun x N8 => if x = 0 then some (Sum.inl (0, N8)) else sk_b1 (f_X7_step 2 (nI c) N8) (fun N10 => FL fu N10))))
theorem u_str_b {o c : Nat} (ho : o < 8) (h : (u_str (o + 3)).elem c = true) : c < 256 := by
  have h5 : o = 0 ∨ o = 1 ∨ o = 2 ∨ o = 3 ∨ o = 4 ∨ o = 5 ∨ o = 6 ∨ o = 7 := by omega
  rcases h5 with rfl | rfl | rfl | rfl | rfl | rfl | rfl | rfl
  · have h : [124].elem c = true := h
    simp at h; omega
  · have h : [38].elem c = true := h
    simp at h; omega
  · have h : [60, 61, 62].elem c = true := h
    simp at h; omega
  · have h : [43, 45].elem c = true := h
    simp at h; omega
  · have h : [42, 47].elem c = true := h
    simp at h; omega
  · have h : [33].elem c = true := h
    simp at h; omega
  · have h : [40].elem c = true := h
    simp at h; omega
  · have h : [41].elem c = true := h
    simp at h; omega
theorem u_sg4 {c : Int32} {N : sk_M} (h : N 88 18 = 4) : f_X7_isSign c N = 0 := by
  unfold f_X7_isSign
  rw [h, if_neg (by decide)]
theorem u_sgO : ∀ l, l < 5 → f_X0_signsOf (nI l) = l + 3 := by decide
theorem u_deadL {self : Nat → Int32 → Int32 → Int32 → sk_M → Option sk_M} {a1 a2 a3 a4 a5 : Int32} {fu : Nat} {M : sk_M} (h : (0 : Int32) ≤ M 62 5) : f_X0_readLevel_L37 self a1 a2 a3 a4 (fu + 1) a5 M = some M := by
  rw [f_X0_readLevel_L37]
  by_cases z : a4 ≤ a5
  · rw [if_pos z]
  · rw [if_neg z, u_sgF h, q_b1, if_pos rfl]
theorem u_loop {t : Nat → Nat} {n key A s d u D l : Nat} {M0 N0 : sk_M} {self : Nat → Int32 → Int32 → Int32 → sk_M → Option sk_M} {FM : sk_M → Option (Int32 × sk_M)} {FL : Nat → sk_M → Option ((Int32 × sk_M) ⊕ sk_M)} {e : Nat} (he : e ≤ 96) (hl5 : l < 5) (hs : u_sim t n key A d u M0 N0 (self 0 (nI l + 1) (nI d) (nI u)) FM) (hlp : u_lp (l + 3) FM FL) : ∀ (m i fu fu' lo : Nat) (M N : sk_M), lo + m = 97 → i + m ≤ e → m < fu → m < fu' → u_S t n key A (s + 1) lo d u M0 N0 (D + 1) M N →
    ∃ M' N', f_X0_readLevel_L37 self (nI l) (nI d) (nI u) (nI e) fu (nI i) M = some M' ∧ ((FL fu' N = some (Sum.inr N') ∧ u_S t n key A (s + 1) lo d u M0 N0 (D + 1) M' N') ∨ (FL fu' N = some (Sum.inl (0, N')) ∧ u_F n A M0 N0 M' N')) := by
  intro m
  induction m with
  | zero =>
    intro i fu fu' lo M N h1 h2 h3 h4 hS
    exfalso
    obtain ⟨q, laid, said, h | h⟩ := hS
    · have := h.1.hl; have := h.1.hlo; have := h.1.hq; have := h.1.tc.1; omega
    · have := h.1.hl; have := h.1.hlo; have := h.1.hq; have := h.1.tc.1; omega
  | succ m ih =>
    intro i fu fu' lo M N h1 h2 h3 h4 hS
    obtain ⟨g, rfl⟩ : ∃ g, fu = g + 1 := ⟨fu - 1, by omega⟩
    obtain ⟨g', rfl⟩ : ∃ g', fu' = g' + 1 := ⟨fu' - 1, by omega⟩
    obtain ⟨q, laid, said, h | h⟩ := id hS
    rotate_left
    · obtain ⟨z1, z2, z3⟩ := u_G_5 h
      exact ⟨M, N, u_deadL z1, Or.inl ⟨hlp.1 g' N (fun c _ => u_sg4 z2), hS⟩⟩
    have hsg := u_sgC (o := l) (by omega) h.1.tc h.1.hq h.2.m3 h.2.m5
    have hn := h.1.tc.1
    by_cases y : q < n ∧ (u_str (l + 3)).elem (t q) = true
    · obtain ⟨hq, hc⟩ := y
      obtain ⟨y1, y2⟩ := h.1.tc.2.2 q hq
      obtain ⟨M1, M2, M3, N1, r, N2, k1, k2, k3, k4, k5, k6⟩ := u_op hs hl5 h hq hc
      have hw := (u_sgW l (by omega) (t q) y2 hc).1
      have hE := hlp.2 g' N (t q) hc (fun c' hc' => by
        rw [u_sgM h.1 (u_str_b (by omega) hc') (u_sgW l (by omega) c' (u_str_b (by omega) hc') hc').1]
        by_cases z : t q = c'
        · rw [if_pos z, if_pos ⟨hq, z⟩]
        · rw [if_neg z, if_neg (fun w => z w.2)]) (h.1.nS hq (by rw [hw]; decide))
      have hcl : f_X0_readLevel_L37 self (nI l) (nI d) (nI u) (nI e) (g + 1) (nI i) M = f_X0_readLevel_L37 self (nI l) (nI d) (nI u) (nI e) g (nI (i + 1)) M3 := by
        rw [f_X0_readLevel_L37, if_neg (nI_ge (by omega) (by omega)), u_sgO l hl5, hsg, if_pos ⟨hq, hc⟩, q_b1, if_neg (by decide), h.2.m3, q_chkI (by omega) (by omega), q_let, q_clamp (by omega), y1, k1, q_b1, k2, q_b1, k3, q_b1, nI_1]
      rw [hcl, hE, k4, q_b1, k5, q_b2]
      obtain ⟨gg, hgg⟩ : ∃ gg, g = gg + 1 := ⟨g - 1, by omega⟩
      rcases k6 with ⟨hr, hF⟩ | ⟨hr, N3, k7, k8⟩
      · refine ⟨M3, N2, by rw [hgg]; exact u_deadL (u_F_5 hn hF), Or.inr ⟨by rw [if_pos hr], hF⟩⟩
      · rw [if_neg (by rw [hr]; decide), k7, q_b1]
        obtain ⟨M', N', z1, z2⟩ := ih (i + 1) g g' (lo + 1) M3 N3 (by omega) (by omega) (by omega) (by omega) (u_S_lo (by omega) k8)
        refine ⟨M', N', z1, ?_⟩
        rcases z2 with ⟨w1, w2⟩ | ⟨w1, w2⟩
        · exact Or.inl ⟨w1, u_S_lo (by omega) w2⟩
        · exact Or.inr ⟨w1, w2⟩
    · refine ⟨M, N, ?_, Or.inl ⟨hlp.1 g' N (fun c hc => ?_), hS⟩⟩
      · rw [f_X0_readLevel_L37, if_neg (nI_ge (by omega) (by omega)), u_sgO l hl5, hsg, if_neg y, q_b1, if_pos rfl]
      · rw [u_sgM h.1 (u_str_b (by omega) hc) (u_sgW l (by omega) c (u_str_b (by omega) hc) hc).1, if_neg (fun z => y ⟨z.1, by rw [z.2]; exact hc⟩)]
