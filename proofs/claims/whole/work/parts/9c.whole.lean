/-! The whole grammar, in both. -/
theorem u_G0l (g : Nat) (a b c : Int32) : f_G0 (g + 1) 0 a b c = f_X0_readLevel (f_G0 g) a b c := by
  funext M
  show (if 0 = 0 then f_X0_readLevel (f_G0 g) a b c M else _) = _
  rw [if_pos rfl]
theorem u_G0p (g : Nat) (a b c : Int32) : f_G0 (g + 1) 1 a b c = f_X0_readPiece (f_G0 g) a b := by
  funext M
  show (if 1 = 0 then _ else f_X0_readPiece (f_G0 g) a b M) = _
  rw [if_neg (by omega)]
theorem u_G7_0 (g : Nat) (a : Int32) : f_G7 (g + 1) 0 a = f_X7_either (f_G7 g) a := by
  funext M; simp [f_G7]
theorem u_G7_1 (g : Nat) (a : Int32) : f_G7 (g + 1) 1 a = f_X7_both (f_G7 g) a := by
  funext M; simp [f_G7]
theorem u_G7_2 (g : Nat) (a : Int32) : f_G7 (g + 1) 2 a = f_X7_test (f_G7 g) a := by
  funext M; simp [f_G7]
theorem u_G7_3 (g : Nat) (a : Int32) : f_G7 (g + 1) 3 a = f_X7_sum (f_G7 g) a := by
  funext M; simp [f_G7]
theorem u_G7_4 (g : Nat) (a : Int32) : f_G7 (g + 1) 4 a = f_X7_term (f_G7 g) a := by
  funext M; simp [f_G7]
theorem u_G7_5 (g : Nat) (a : Int32) : f_G7 (g + 1) 5 a = f_X7_part0 (f_G7 g) a := by
  funext M; simp [f_G7]
theorem u_lvl {t : Nat → Nat} {n key A d u gc gm : Nat} {M0 N0 : sk_M} (h : u_sim t n key A d u M0 N0 (f_G0 gc 1 (nI d) (nI u) 0) (f_G7 gm 5 (nI key))) : u_sim t n key A d u M0 N0 (f_G0 (gc + 6) 0 (nI 0) (nI d) (nI u)) (f_G7 (gm + 5) 0 (nI key)) := by
  have h5 : u_sim t n key A d u M0 N0 (f_G0 (gc + 1) 0 (nI 5) (nI d) (nI u)) (f_G7 gm 5 (nI key)) := by
    have e : f_G0 (gc + 1) 0 (nI 5) (nI d) (nI u) = f_G0 gc 1 (nI d) (nI u) 0 := by
      rw [u_G0l]
      funext M
      rw [f_X0_readLevel, if_neg (by decide)]
      cases f_G0 gc 1 (nI d) (nI u) 0 M <;> rfl
    rw [e]; exact h
  have h4 : u_sim t n key A d u M0 N0 (f_G0 (gc + 2) 0 (nI 4) (nI d) (nI u)) (f_G7 (gm + 1) 4 (nI key)) := by
    rw [u_G0l, u_G7_4]
    exact u_lev (by omega) (by omega) (by rw [nI_1]; exact h5) (u_lp4 _ _) (fun N => rfl)
  have h3 : u_sim t n key A d u M0 N0 (f_G0 (gc + 3) 0 (nI 3) (nI d) (nI u)) (f_G7 (gm + 2) 3 (nI key)) := by
    rw [u_G0l, u_G7_3]
    exact u_lev (by omega) (by omega) (by rw [nI_1]; exact h4) (u_lp3 _ _) (fun N => rfl)
  have h2 : u_sim t n key A d u M0 N0 (f_G0 (gc + 4) 0 (nI 2) (nI d) (nI u)) (f_G7 (gm + 3) 2 (nI key)) := by
    rw [u_G0l, u_G7_2]
    exact u_lev2 (by rw [nI_1]; exact h3)
  have h1 : u_sim t n key A d u M0 N0 (f_G0 (gc + 5) 0 (nI 1) (nI d) (nI u)) (f_G7 (gm + 4) 1 (nI key)) := by
    rw [u_G0l, u_G7_1]
    exact u_lev (by omega) (by omega) (by rw [nI_1]; exact h2) (u_lp1 _ _) (fun N => rfl)
  rw [u_G0l, u_G7_0]
  exact u_lev (by omega) (by omega) (by rw [nI_1]; exact h1) (u_lp0 _ _) (fun N => rfl)
theorem u_pc {t : Nat → Nat} {n key A : Nat} {M0 N0 : sk_M} : ∀ (m d u gc gm : Nat), d ≤ 8 → u ≤ 8 → (8 - u) + 7 * (8 - d) ≤ m → m + 1 ≤ gc → m + 1 ≤ gm → u_sim t n key A d u M0 N0 (f_G0 gc 1 (nI d) (nI u) 0) (f_G7 gm 5 (nI key)) := by
  intro m
  induction m using Nat.strongRecOn with
  | ind m ih =>
    intro d u gc gm hd hu hm hgc hgm
    obtain ⟨g, rfl⟩ : ∃ g, gc = g + 1 := ⟨gc - 1, by omega⟩
    obtain ⟨g', rfl⟩ : ∃ g', gm = g' + 1 := ⟨gm - 1, by omega⟩
    rw [u_G0p, u_G7_5]
    refine u_piece hd hu (fun hu8 => ?_) (fun hd8 => ?_)
    · exact ih (m - 1) (by omega) d (u + 1) g g' hd (by omega) (by omega) (by omega) (by omega)
    · obtain ⟨c, rfl⟩ : ∃ c, g = c + 6 := ⟨g - 6, by omega⟩
      obtain ⟨c', rfl⟩ : ∃ c', g' = c' + 5 := ⟨g' - 5, by omega⟩
      exact u_lvl (ih (m - 7) (by omega) (d + 1) u c c' (by omega) hu (by omega) (by omega) (by omega))
theorem u_top {t : Nat → Nat} {n key A : Nat} {M0 N0 : sk_M} : u_sim t n key A 0 0 M0 N0 (f_G0 sk_RD 0 0 0 0) (f_G7 sk_RD 0 (nI key)) := by
  have h := u_lvl (u_pc (t := t) (n := n) (key := key) (A := A) (M0 := M0) (N0 := N0) 64 0 0 114 115 (by omega) (by omega) (by omega) (by omega) (by omega))
  exact h
