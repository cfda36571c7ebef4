/-! The start: the memory, the relation, the cells in the order of their numbers. -/
def k_M0 : sk_M := fun o => if o = 10 ∨ o = 26 then (fun j => if j = 15 then 1 else 0) else if o = 14 ∨ o = 30 then k_fl 4 10 (fun _ => 0) else if o = 18 ∨ o = 34 then k_fl 3 (-1000000005) (fun _ => 0) else if o = 65 ∨ o = 67 ∨ o = 69 ∨ o = 71 ∨ o = 74 ∨ o = 77 ∨ o = 80 ∨ o = 83 ∨ o = 86 then (fun j => if j = 1 then -1 else 0) else if o = 89 then k_s0 else if o = 92 then k_t0 else (fun _ => 0)
theorem k_z0 {o : Nat} (h : o ≠ 10 ∧ o ≠ 26 ∧ o ≠ 14 ∧ o ≠ 30 ∧ o ≠ 18 ∧ o ≠ 34 ∧ o < 65) (j : Nat) : k_M0 o j = 0 := by
  unfold k_M0
  rw [if_neg (by omega), if_neg (by omega), if_neg (by omega), if_neg (by omega), if_neg (by omega), if_neg (by omega)]
theorem k_eq0 : ∀ i, i < 109 → k_M0 89 i = k_M0 (10 + r_co i) (r_cj i) := by decide +kernel
theorem k_all0 : r_all k_M0 := by
  refine ⟨0, 0, 0, 0, 0, ⟨⟨⟨⟨by omega, by omega, by omega, by omega, by omega⟩, rfl, rfl, rfl, rfl, rfl⟩, ⟨?_, ?_, ?_, ?_, ?_⟩, ⟨?_, ?_, ?_⟩, ?_⟩, k_eq0, fun i hi => absurd hi (by omega)⟩, Or.inl ⟨rfl, rfl⟩, ⟨0, by omega, rfl, rfl, fun j hj => absurd hj (by omega)⟩, ⟨0, by omega, rfl, rfl, fun j hj => absurd hj (by omega)⟩, ?_, ?_⟩
  · intro k hk
    refine ⟨10, ?_, by omega, by omega⟩
    have e : k_M0 (10 + 4) = k_fl 4 10 (fun _ => 0) := rfl
    rw [e]
    unfold k_fl
    rw [if_pos hk]
    rfl
  · intro k hk; exact ⟨0, k_z0 (by omega) k, by omega⟩
  · intro k hk; exact ⟨0, k_z0 (by omega) k, by omega⟩
  · intro k hk; exact ⟨0, k_z0 (by omega) k, by omega⟩
  · intro c hc k hk; exact ⟨0, k_z0 (by omega) k, by omega⟩
  · intro k hk _; exact k_z0 (by omega) k
  · intro k hk _; exact k_z0 (by omega) k
  · intro c hc k hk _; exact k_z0 (by omega) k
  · intro k hk
    have e : k_M0 (10 + 8) = k_fl 3 (-1000000005) (fun _ => 0) := rfl
    rw [e]
    unfold k_fl
    rw [if_pos hk]
    rfl
  · intro i hi
    rcases k_lt4 hi with rfl | rfl | rfl | rfl
    all_goals exact ⟨rfl, rfl, Or.inl rfl, ⟨0, by omega, rfl⟩, fun k hk => rfl⟩
  · intro i hi
    rcases k_lt5 hi with rfl | rfl | rfl | rfl | rfl
    all_goals exact ⟨rfl, ⟨0, by omega, rfl⟩, fun h => absurd h (by decide), fun h => absurd h (by decide), fun h => absurd h (by decide)⟩
def k_pi : List Nat := [0, 1, 2, 3, 4, 5, 84, 85, 86, 87, 52, 53, 54, 55, 56, 57, 58, 59, 60, 61, 62, 63, 64, 65, 66, 67, 68, 69, 70, 71, 72, 73, 74, 75, 76, 77, 78, 79, 80, 81, 82, 83, 29, 30, 31, 32, 33, 34, 35, 36, 37, 38, 39, 40, 41, 42, 43, 44, 45, 46, 47, 48, 49, 50, 51, 27, 28, 25, 26, 23, 24, 21, 22, 18, 19, 20, 15, 16, 17, 12, 13, 14, 9, 10, 11, 6, 7, 8, 88, 89, 90, 91, 92, 93, 94, 95, 96, 97, 98, 99, 100, 101, 102, 103, 104, 105, 106, 107, 108]
theorem k_pi_inj : ∀ i, i < 109 → ∀ j, j < 109 → k_pi.getD i 0 = k_pi.getD j 0 → i = j := by decide +kernel
def k_ad (u6 u7 : Nat → Nat) : Nat → Nat := fun o => if o < 88 then u6 o else u7 (o - 88)
def k_g (D : va_G) (ac : Nat → ClassId) (u6 u7 aK aV : Nat → Nat) (ka : Nat) : sk_G := (k_ad u6 u7, D, ac, aK, aV, ka)
theorem k_atq {D : va_G} {a n : Nat} {c : ClassId} {f f' : Nat → Option Nat} {H : Heap} (hf : ∀ i, i < n → f i = f' i) (h : va_at D sk_cl (a, k_refs c n f) H) : va_at D sk_cl (a, k_refs c n f') H := by
  have h : H[a]? = some (arrV c n (fun j => va_rf (f j))) := h
  show H[a]? = some (arrV c n (fun j => va_rf (f' j)))
  have e : arrV c n (fun j => va_rf (f j)) = arrV c n (fun j => va_rf (f' j)) := k_arrc fun j hj => by rw [hf j hj]
  rw [h, e]
def k_okp (D : va_G) (ac : Nat → ClassId) (u6 u7 aK aV : Nat → Nat) (ka : Nat) (H : Heap) (o : Nat) : Prop := ∃ e : va_E, (k_SC ac u6 ++ k_Mo ac u7)[k_pi.getD o 0]? = some (k_ad u6 u7 o, e) ∧ (va_at D sk_cl (k_ad u6 u7 o, e) H → va_at D sk_cl (sk_ad (k_g D ac u6 u7 aK aV ka) o, sk_en (k_g D ac u6 u7 aK aV ka) o (k_M0 o)) H)
theorem k_ok0 (D : va_G) (ac : Nat → ClassId) (u6 u7 aK aV : Nat → Nat) (ka : Nat) (H : Heap) : k_okp D ac u6 u7 aK aV ka H 0 := ⟨_, rfl, fun h => h⟩
theorem k_ok1 (D : va_G) (ac : Nat → ClassId) (u6 u7 aK aV : Nat → Nat) (ka : Nat) (H : Heap) : k_okp D ac u6 u7 aK aV ka H 1 := ⟨_, rfl, fun h => k_atq (fun i hi => by rcases k_lt4 hi with rfl | rfl | rfl | rfl <;> rfl) h⟩
theorem k_ok2 (D : va_G) (ac : Nat → ClassId) (u6 u7 aK aV : Nat → Nat) (ka : Nat) (H : Heap) : k_okp D ac u6 u7 aK aV ka H 2 := ⟨_, rfl, fun h => k_atq (fun i hi => by rcases k_lt5 hi with rfl | rfl | rfl | rfl | rfl <;> rfl) h⟩
theorem k_ok3 (D : va_G) (ac : Nat → ClassId) (u6 u7 aK aV : Nat → Nat) (ka : Nat) (H : Heap) : k_okp D ac u6 u7 aK aV ka H 3 := ⟨_, rfl, fun h => h⟩
theorem k_ok4 (D : va_G) (ac : Nat → ClassId) (u6 u7 aK aV : Nat → Nat) (ka : Nat) (H : Heap) : k_okp D ac u6 u7 aK aV ka H 4 := ⟨_, rfl, fun h => h⟩
theorem k_ok5 (D : va_G) (ac : Nat → ClassId) (u6 u7 aK aV : Nat → Nat) (ka : Nat) (H : Heap) : k_okp D ac u6 u7 aK aV ka H 5 := ⟨_, rfl, fun h => h⟩
theorem k_ok6 (D : va_G) (ac : Nat → ClassId) (u6 u7 aK aV : Nat → Nat) (ka : Nat) (H : Heap) : k_okp D ac u6 u7 aK aV ka H 6 := ⟨_, rfl, fun h => h⟩
theorem k_ok7 (D : va_G) (ac : Nat → ClassId) (u6 u7 aK aV : Nat → Nat) (ka : Nat) (H : Heap) : k_okp D ac u6 u7 aK aV ka H 7 := ⟨_, rfl, fun h => h⟩
theorem k_ok8 (D : va_G) (ac : Nat → ClassId) (u6 u7 aK aV : Nat → Nat) (ka : Nat) (H : Heap) : k_okp D ac u6 u7 aK aV ka H 8 := ⟨_, rfl, fun h => h⟩
theorem k_ok9 (D : va_G) (ac : Nat → ClassId) (u6 u7 aK aV : Nat → Nat) (ka : Nat) (H : Heap) : k_okp D ac u6 u7 aK aV ka H 9 := ⟨_, rfl, fun h => h⟩
theorem k_ok10 (D : va_G) (ac : Nat → ClassId) (u6 u7 aK aV : Nat → Nat) (ka : Nat) (H : Heap) : k_okp D ac u6 u7 aK aV ka H 10 := ⟨_, rfl, fun h => h⟩
theorem k_ok11 (D : va_G) (ac : Nat → ClassId) (u6 u7 aK aV : Nat → Nat) (ka : Nat) (H : Heap) : k_okp D ac u6 u7 aK aV ka H 11 := ⟨_, rfl, fun h => h⟩
theorem k_ok12 (D : va_G) (ac : Nat → ClassId) (u6 u7 aK aV : Nat → Nat) (ka : Nat) (H : Heap) : k_okp D ac u6 u7 aK aV ka H 12 := ⟨_, rfl, fun h => h⟩
theorem k_ok13 (D : va_G) (ac : Nat → ClassId) (u6 u7 aK aV : Nat → Nat) (ka : Nat) (H : Heap) : k_okp D ac u6 u7 aK aV ka H 13 := ⟨_, rfl, fun h => h⟩
theorem k_ok14 (D : va_G) (ac : Nat → ClassId) (u6 u7 aK aV : Nat → Nat) (ka : Nat) (H : Heap) : k_okp D ac u6 u7 aK aV ka H 14 := ⟨_, rfl, fun h => h⟩
theorem k_ok15 (D : va_G) (ac : Nat → ClassId) (u6 u7 aK aV : Nat → Nat) (ka : Nat) (H : Heap) : k_okp D ac u6 u7 aK aV ka H 15 := ⟨_, rfl, fun h => h⟩
theorem k_ok16 (D : va_G) (ac : Nat → ClassId) (u6 u7 aK aV : Nat → Nat) (ka : Nat) (H : Heap) : k_okp D ac u6 u7 aK aV ka H 16 := ⟨_, rfl, fun h => h⟩
theorem k_ok17 (D : va_G) (ac : Nat → ClassId) (u6 u7 aK aV : Nat → Nat) (ka : Nat) (H : Heap) : k_okp D ac u6 u7 aK aV ka H 17 := ⟨_, rfl, fun h => k_atq (fun i hi => by rcases k_lt6 hi with rfl | rfl | rfl | rfl | rfl | rfl <;> rfl) h⟩
theorem k_ok18 (D : va_G) (ac : Nat → ClassId) (u6 u7 aK aV : Nat → Nat) (ka : Nat) (H : Heap) : k_okp D ac u6 u7 aK aV ka H 18 := ⟨_, rfl, fun h => h⟩
theorem k_ok19 (D : va_G) (ac : Nat → ClassId) (u6 u7 aK aV : Nat → Nat) (ka : Nat) (H : Heap) : k_okp D ac u6 u7 aK aV ka H 19 := ⟨_, rfl, fun h => h⟩
theorem k_ok20 (D : va_G) (ac : Nat → ClassId) (u6 u7 aK aV : Nat → Nat) (ka : Nat) (H : Heap) : k_okp D ac u6 u7 aK aV ka H 20 := ⟨_, rfl, fun h => h⟩
theorem k_ok21 (D : va_G) (ac : Nat → ClassId) (u6 u7 aK aV : Nat → Nat) (ka : Nat) (H : Heap) : k_okp D ac u6 u7 aK aV ka H 21 := ⟨_, rfl, fun h => h⟩
theorem k_ok22 (D : va_G) (ac : Nat → ClassId) (u6 u7 aK aV : Nat → Nat) (ka : Nat) (H : Heap) : k_okp D ac u6 u7 aK aV ka H 22 := ⟨_, rfl, fun h => h⟩
theorem k_ok23 (D : va_G) (ac : Nat → ClassId) (u6 u7 aK aV : Nat → Nat) (ka : Nat) (H : Heap) : k_okp D ac u6 u7 aK aV ka H 23 := ⟨_, rfl, fun h => h⟩
theorem k_ok24 (D : va_G) (ac : Nat → ClassId) (u6 u7 aK aV : Nat → Nat) (ka : Nat) (H : Heap) : k_okp D ac u6 u7 aK aV ka H 24 := ⟨_, rfl, fun h => h⟩
theorem k_ok25 (D : va_G) (ac : Nat → ClassId) (u6 u7 aK aV : Nat → Nat) (ka : Nat) (H : Heap) : k_okp D ac u6 u7 aK aV ka H 25 := ⟨_, rfl, fun h => h⟩
theorem k_ok26 (D : va_G) (ac : Nat → ClassId) (u6 u7 aK aV : Nat → Nat) (ka : Nat) (H : Heap) : k_okp D ac u6 u7 aK aV ka H 26 := ⟨_, rfl, fun h => h⟩
theorem k_ok27 (D : va_G) (ac : Nat → ClassId) (u6 u7 aK aV : Nat → Nat) (ka : Nat) (H : Heap) : k_okp D ac u6 u7 aK aV ka H 27 := ⟨_, rfl, fun h => h⟩
theorem k_ok28 (D : va_G) (ac : Nat → ClassId) (u6 u7 aK aV : Nat → Nat) (ka : Nat) (H : Heap) : k_okp D ac u6 u7 aK aV ka H 28 := ⟨_, rfl, fun h => h⟩
theorem k_ok29 (D : va_G) (ac : Nat → ClassId) (u6 u7 aK aV : Nat → Nat) (ka : Nat) (H : Heap) : k_okp D ac u6 u7 aK aV ka H 29 := ⟨_, rfl, fun h => h⟩
theorem k_ok30 (D : va_G) (ac : Nat → ClassId) (u6 u7 aK aV : Nat → Nat) (ka : Nat) (H : Heap) : k_okp D ac u6 u7 aK aV ka H 30 := ⟨_, rfl, fun h => h⟩
theorem k_ok31 (D : va_G) (ac : Nat → ClassId) (u6 u7 aK aV : Nat → Nat) (ka : Nat) (H : Heap) : k_okp D ac u6 u7 aK aV ka H 31 := ⟨_, rfl, fun h => h⟩
theorem k_ok32 (D : va_G) (ac : Nat → ClassId) (u6 u7 aK aV : Nat → Nat) (ka : Nat) (H : Heap) : k_okp D ac u6 u7 aK aV ka H 32 := ⟨_, rfl, fun h => h⟩
theorem k_ok33 (D : va_G) (ac : Nat → ClassId) (u6 u7 aK aV : Nat → Nat) (ka : Nat) (H : Heap) : k_okp D ac u6 u7 aK aV ka H 33 := ⟨_, rfl, fun h => k_atq (fun i hi => by rcases k_lt6 hi with rfl | rfl | rfl | rfl | rfl | rfl <;> rfl) h⟩
theorem k_ok34 (D : va_G) (ac : Nat → ClassId) (u6 u7 aK aV : Nat → Nat) (ka : Nat) (H : Heap) : k_okp D ac u6 u7 aK aV ka H 34 := ⟨_, rfl, fun h => h⟩
theorem k_ok35 (D : va_G) (ac : Nat → ClassId) (u6 u7 aK aV : Nat → Nat) (ka : Nat) (H : Heap) : k_okp D ac u6 u7 aK aV ka H 35 := ⟨_, rfl, fun h => h⟩
theorem k_ok36 (D : va_G) (ac : Nat → ClassId) (u6 u7 aK aV : Nat → Nat) (ka : Nat) (H : Heap) : k_okp D ac u6 u7 aK aV ka H 36 := ⟨_, rfl, fun h => h⟩
theorem k_ok37 (D : va_G) (ac : Nat → ClassId) (u6 u7 aK aV : Nat → Nat) (ka : Nat) (H : Heap) : k_okp D ac u6 u7 aK aV ka H 37 := ⟨_, rfl, fun h => h⟩
theorem k_ok38 (D : va_G) (ac : Nat → ClassId) (u6 u7 aK aV : Nat → Nat) (ka : Nat) (H : Heap) : k_okp D ac u6 u7 aK aV ka H 38 := ⟨_, rfl, fun h => h⟩
theorem k_ok39 (D : va_G) (ac : Nat → ClassId) (u6 u7 aK aV : Nat → Nat) (ka : Nat) (H : Heap) : k_okp D ac u6 u7 aK aV ka H 39 := ⟨_, rfl, fun h => h⟩
theorem k_ok40 (D : va_G) (ac : Nat → ClassId) (u6 u7 aK aV : Nat → Nat) (ka : Nat) (H : Heap) : k_okp D ac u6 u7 aK aV ka H 40 := ⟨_, rfl, fun h => h⟩
theorem k_ok41 (D : va_G) (ac : Nat → ClassId) (u6 u7 aK aV : Nat → Nat) (ka : Nat) (H : Heap) : k_okp D ac u6 u7 aK aV ka H 41 := ⟨_, rfl, fun h => h⟩
theorem k_ok42 (D : va_G) (ac : Nat → ClassId) (u6 u7 aK aV : Nat → Nat) (ka : Nat) (H : Heap) : k_okp D ac u6 u7 aK aV ka H 42 := ⟨_, rfl, fun h => h⟩
theorem k_ok43 (D : va_G) (ac : Nat → ClassId) (u6 u7 aK aV : Nat → Nat) (ka : Nat) (H : Heap) : k_okp D ac u6 u7 aK aV ka H 43 := ⟨_, rfl, fun h => k_atq (fun i hi => by rcases k_lt14 hi with rfl | rfl | rfl | rfl | rfl | rfl | rfl | rfl | rfl | rfl | rfl | rfl | rfl | rfl <;> rfl) h⟩
theorem k_ok44 (D : va_G) (ac : Nat → ClassId) (u6 u7 aK aV : Nat → Nat) (ka : Nat) (H : Heap) : k_okp D ac u6 u7 aK aV ka H 44 := ⟨_, rfl, fun h => h⟩
theorem k_ok45 (D : va_G) (ac : Nat → ClassId) (u6 u7 aK aV : Nat → Nat) (ka : Nat) (H : Heap) : k_okp D ac u6 u7 aK aV ka H 45 := ⟨_, rfl, fun h => h⟩
theorem k_ok46 (D : va_G) (ac : Nat → ClassId) (u6 u7 aK aV : Nat → Nat) (ka : Nat) (H : Heap) : k_okp D ac u6 u7 aK aV ka H 46 := ⟨_, rfl, fun h => h⟩
theorem k_ok47 (D : va_G) (ac : Nat → ClassId) (u6 u7 aK aV : Nat → Nat) (ka : Nat) (H : Heap) : k_okp D ac u6 u7 aK aV ka H 47 := ⟨_, rfl, fun h => h⟩
theorem k_ok48 (D : va_G) (ac : Nat → ClassId) (u6 u7 aK aV : Nat → Nat) (ka : Nat) (H : Heap) : k_okp D ac u6 u7 aK aV ka H 48 := ⟨_, rfl, fun h => h⟩
theorem k_ok49 (D : va_G) (ac : Nat → ClassId) (u6 u7 aK aV : Nat → Nat) (ka : Nat) (H : Heap) : k_okp D ac u6 u7 aK aV ka H 49 := ⟨_, rfl, fun h => h⟩
theorem k_ok50 (D : va_G) (ac : Nat → ClassId) (u6 u7 aK aV : Nat → Nat) (ka : Nat) (H : Heap) : k_okp D ac u6 u7 aK aV ka H 50 := ⟨_, rfl, fun h => h⟩
theorem k_ok51 (D : va_G) (ac : Nat → ClassId) (u6 u7 aK aV : Nat → Nat) (ka : Nat) (H : Heap) : k_okp D ac u6 u7 aK aV ka H 51 := ⟨_, rfl, fun h => h⟩
theorem k_ok52 (D : va_G) (ac : Nat → ClassId) (u6 u7 aK aV : Nat → Nat) (ka : Nat) (H : Heap) : k_okp D ac u6 u7 aK aV ka H 52 := ⟨_, rfl, fun h => h⟩
theorem k_ok53 (D : va_G) (ac : Nat → ClassId) (u6 u7 aK aV : Nat → Nat) (ka : Nat) (H : Heap) : k_okp D ac u6 u7 aK aV ka H 53 := ⟨_, rfl, fun h => h⟩
theorem k_ok54 (D : va_G) (ac : Nat → ClassId) (u6 u7 aK aV : Nat → Nat) (ka : Nat) (H : Heap) : k_okp D ac u6 u7 aK aV ka H 54 := ⟨_, rfl, fun h => h⟩
theorem k_ok55 (D : va_G) (ac : Nat → ClassId) (u6 u7 aK aV : Nat → Nat) (ka : Nat) (H : Heap) : k_okp D ac u6 u7 aK aV ka H 55 := ⟨_, rfl, fun h => h⟩
theorem k_ok56 (D : va_G) (ac : Nat → ClassId) (u6 u7 aK aV : Nat → Nat) (ka : Nat) (H : Heap) : k_okp D ac u6 u7 aK aV ka H 56 := ⟨_, rfl, fun h => h⟩
theorem k_ok57 (D : va_G) (ac : Nat → ClassId) (u6 u7 aK aV : Nat → Nat) (ka : Nat) (H : Heap) : k_okp D ac u6 u7 aK aV ka H 57 := ⟨_, rfl, fun h => h⟩
theorem k_ok58 (D : va_G) (ac : Nat → ClassId) (u6 u7 aK aV : Nat → Nat) (ka : Nat) (H : Heap) : k_okp D ac u6 u7 aK aV ka H 58 := ⟨_, rfl, fun h => h⟩
theorem k_ok59 (D : va_G) (ac : Nat → ClassId) (u6 u7 aK aV : Nat → Nat) (ka : Nat) (H : Heap) : k_okp D ac u6 u7 aK aV ka H 59 := ⟨_, rfl, fun h => h⟩
theorem k_ok60 (D : va_G) (ac : Nat → ClassId) (u6 u7 aK aV : Nat → Nat) (ka : Nat) (H : Heap) : k_okp D ac u6 u7 aK aV ka H 60 := ⟨_, rfl, fun h => h⟩
theorem k_ok61 (D : va_G) (ac : Nat → ClassId) (u6 u7 aK aV : Nat → Nat) (ka : Nat) (H : Heap) : k_okp D ac u6 u7 aK aV ka H 61 := ⟨_, rfl, fun h => h⟩
theorem k_ok62 (D : va_G) (ac : Nat → ClassId) (u6 u7 aK aV : Nat → Nat) (ka : Nat) (H : Heap) : k_okp D ac u6 u7 aK aV ka H 62 := ⟨_, rfl, fun h => h⟩
theorem k_ok63 (D : va_G) (ac : Nat → ClassId) (u6 u7 aK aV : Nat → Nat) (ka : Nat) (H : Heap) : k_okp D ac u6 u7 aK aV ka H 63 := ⟨_, rfl, fun h => h⟩
theorem k_ok64 (D : va_G) (ac : Nat → ClassId) (u6 u7 aK aV : Nat → Nat) (ka : Nat) (H : Heap) : k_okp D ac u6 u7 aK aV ka H 64 := ⟨_, rfl, fun h => h⟩
theorem k_ok65 (D : va_G) (ac : Nat → ClassId) (u6 u7 aK aV : Nat → Nat) (ka : Nat) (H : Heap) : k_okp D ac u6 u7 aK aV ka H 65 := ⟨_, rfl, fun h => h⟩
theorem k_ok66 (D : va_G) (ac : Nat → ClassId) (u6 u7 aK aV : Nat → Nat) (ka : Nat) (H : Heap) : k_okp D ac u6 u7 aK aV ka H 66 := ⟨_, rfl, fun h => h⟩
theorem k_ok67 (D : va_G) (ac : Nat → ClassId) (u6 u7 aK aV : Nat → Nat) (ka : Nat) (H : Heap) : k_okp D ac u6 u7 aK aV ka H 67 := ⟨_, rfl, fun h => h⟩
theorem k_ok68 (D : va_G) (ac : Nat → ClassId) (u6 u7 aK aV : Nat → Nat) (ka : Nat) (H : Heap) : k_okp D ac u6 u7 aK aV ka H 68 := ⟨_, rfl, fun h => h⟩
theorem k_ok69 (D : va_G) (ac : Nat → ClassId) (u6 u7 aK aV : Nat → Nat) (ka : Nat) (H : Heap) : k_okp D ac u6 u7 aK aV ka H 69 := ⟨_, rfl, fun h => h⟩
theorem k_ok70 (D : va_G) (ac : Nat → ClassId) (u6 u7 aK aV : Nat → Nat) (ka : Nat) (H : Heap) : k_okp D ac u6 u7 aK aV ka H 70 := ⟨_, rfl, fun h => h⟩
theorem k_ok71 (D : va_G) (ac : Nat → ClassId) (u6 u7 aK aV : Nat → Nat) (ka : Nat) (H : Heap) : k_okp D ac u6 u7 aK aV ka H 71 := ⟨_, rfl, fun h => h⟩
theorem k_ok72 (D : va_G) (ac : Nat → ClassId) (u6 u7 aK aV : Nat → Nat) (ka : Nat) (H : Heap) : k_okp D ac u6 u7 aK aV ka H 72 := ⟨_, rfl, fun h => h⟩
theorem k_ok73 (D : va_G) (ac : Nat → ClassId) (u6 u7 aK aV : Nat → Nat) (ka : Nat) (H : Heap) : k_okp D ac u6 u7 aK aV ka H 73 := ⟨_, rfl, fun h => h⟩
theorem k_ok74 (D : va_G) (ac : Nat → ClassId) (u6 u7 aK aV : Nat → Nat) (ka : Nat) (H : Heap) : k_okp D ac u6 u7 aK aV ka H 74 := ⟨_, rfl, fun h => h⟩
theorem k_ok75 (D : va_G) (ac : Nat → ClassId) (u6 u7 aK aV : Nat → Nat) (ka : Nat) (H : Heap) : k_okp D ac u6 u7 aK aV ka H 75 := ⟨_, rfl, fun h => h⟩
theorem k_ok76 (D : va_G) (ac : Nat → ClassId) (u6 u7 aK aV : Nat → Nat) (ka : Nat) (H : Heap) : k_okp D ac u6 u7 aK aV ka H 76 := ⟨_, rfl, fun h => h⟩
theorem k_ok77 (D : va_G) (ac : Nat → ClassId) (u6 u7 aK aV : Nat → Nat) (ka : Nat) (H : Heap) : k_okp D ac u6 u7 aK aV ka H 77 := ⟨_, rfl, fun h => h⟩
theorem k_ok78 (D : va_G) (ac : Nat → ClassId) (u6 u7 aK aV : Nat → Nat) (ka : Nat) (H : Heap) : k_okp D ac u6 u7 aK aV ka H 78 := ⟨_, rfl, fun h => h⟩
theorem k_ok79 (D : va_G) (ac : Nat → ClassId) (u6 u7 aK aV : Nat → Nat) (ka : Nat) (H : Heap) : k_okp D ac u6 u7 aK aV ka H 79 := ⟨_, rfl, fun h => h⟩
theorem k_ok80 (D : va_G) (ac : Nat → ClassId) (u6 u7 aK aV : Nat → Nat) (ka : Nat) (H : Heap) : k_okp D ac u6 u7 aK aV ka H 80 := ⟨_, rfl, fun h => h⟩
theorem k_ok81 (D : va_G) (ac : Nat → ClassId) (u6 u7 aK aV : Nat → Nat) (ka : Nat) (H : Heap) : k_okp D ac u6 u7 aK aV ka H 81 := ⟨_, rfl, fun h => h⟩
theorem k_ok82 (D : va_G) (ac : Nat → ClassId) (u6 u7 aK aV : Nat → Nat) (ka : Nat) (H : Heap) : k_okp D ac u6 u7 aK aV ka H 82 := ⟨_, rfl, fun h => h⟩
theorem k_ok83 (D : va_G) (ac : Nat → ClassId) (u6 u7 aK aV : Nat → Nat) (ka : Nat) (H : Heap) : k_okp D ac u6 u7 aK aV ka H 83 := ⟨_, rfl, fun h => h⟩
theorem k_ok84 (D : va_G) (ac : Nat → ClassId) (u6 u7 aK aV : Nat → Nat) (ka : Nat) (H : Heap) : k_okp D ac u6 u7 aK aV ka H 84 := ⟨_, rfl, fun h => h⟩
theorem k_ok85 (D : va_G) (ac : Nat → ClassId) (u6 u7 aK aV : Nat → Nat) (ka : Nat) (H : Heap) : k_okp D ac u6 u7 aK aV ka H 85 := ⟨_, rfl, fun h => h⟩
theorem k_ok86 (D : va_G) (ac : Nat → ClassId) (u6 u7 aK aV : Nat → Nat) (ka : Nat) (H : Heap) : k_okp D ac u6 u7 aK aV ka H 86 := ⟨_, rfl, fun h => h⟩
theorem k_ok87 (D : va_G) (ac : Nat → ClassId) (u6 u7 aK aV : Nat → Nat) (ka : Nat) (H : Heap) : k_okp D ac u6 u7 aK aV ka H 87 := ⟨_, rfl, fun h => h⟩
theorem k_ok88 (D : va_G) (ac : Nat → ClassId) (u6 u7 aK aV : Nat → Nat) (ka : Nat) (H : Heap) : k_okp D ac u6 u7 aK aV ka H 88 := ⟨_, rfl, fun h => h⟩
theorem k_ok89 (D : va_G) (ac : Nat → ClassId) (u6 u7 aK aV : Nat → Nat) (ka : Nat) (H : Heap) : k_okp D ac u6 u7 aK aV ka H 89 := ⟨_, rfl, fun h => h⟩
theorem k_ok90 (D : va_G) (ac : Nat → ClassId) (u6 u7 aK aV : Nat → Nat) (ka : Nat) (H : Heap) : k_okp D ac u6 u7 aK aV ka H 90 := ⟨_, rfl, fun h => h⟩
theorem k_ok91 (D : va_G) (ac : Nat → ClassId) (u6 u7 aK aV : Nat → Nat) (ka : Nat) (H : Heap) : k_okp D ac u6 u7 aK aV ka H 91 := ⟨_, rfl, fun h => h⟩
theorem k_ok92 (D : va_G) (ac : Nat → ClassId) (u6 u7 aK aV : Nat → Nat) (ka : Nat) (H : Heap) : k_okp D ac u6 u7 aK aV ka H 92 := ⟨_, rfl, fun h => h⟩
theorem k_ok93 (D : va_G) (ac : Nat → ClassId) (u6 u7 aK aV : Nat → Nat) (ka : Nat) (H : Heap) : k_okp D ac u6 u7 aK aV ka H 93 := ⟨_, rfl, fun h => h⟩
theorem k_ok94 (D : va_G) (ac : Nat → ClassId) (u6 u7 aK aV : Nat → Nat) (ka : Nat) (H : Heap) : k_okp D ac u6 u7 aK aV ka H 94 := ⟨_, rfl, fun h => h⟩
theorem k_ok95 (D : va_G) (ac : Nat → ClassId) (u6 u7 aK aV : Nat → Nat) (ka : Nat) (H : Heap) : k_okp D ac u6 u7 aK aV ka H 95 := ⟨_, rfl, fun h => h⟩
theorem k_ok96 (D : va_G) (ac : Nat → ClassId) (u6 u7 aK aV : Nat → Nat) (ka : Nat) (H : Heap) : k_okp D ac u6 u7 aK aV ka H 96 := ⟨_, rfl, fun h => h⟩
theorem k_ok97 (D : va_G) (ac : Nat → ClassId) (u6 u7 aK aV : Nat → Nat) (ka : Nat) (H : Heap) : k_okp D ac u6 u7 aK aV ka H 97 := ⟨_, rfl, fun h => h⟩
theorem k_ok98 (D : va_G) (ac : Nat → ClassId) (u6 u7 aK aV : Nat → Nat) (ka : Nat) (H : Heap) : k_okp D ac u6 u7 aK aV ka H 98 := ⟨_, rfl, fun h => h⟩
theorem k_ok99 (D : va_G) (ac : Nat → ClassId) (u6 u7 aK aV : Nat → Nat) (ka : Nat) (H : Heap) : k_okp D ac u6 u7 aK aV ka H 99 := ⟨_, rfl, fun h => h⟩
theorem k_ok100 (D : va_G) (ac : Nat → ClassId) (u6 u7 aK aV : Nat → Nat) (ka : Nat) (H : Heap) : k_okp D ac u6 u7 aK aV ka H 100 := ⟨_, rfl, fun h => h⟩
theorem k_ok101 (D : va_G) (ac : Nat → ClassId) (u6 u7 aK aV : Nat → Nat) (ka : Nat) (H : Heap) : k_okp D ac u6 u7 aK aV ka H 101 := ⟨_, rfl, fun h => h⟩
theorem k_ok102 (D : va_G) (ac : Nat → ClassId) (u6 u7 aK aV : Nat → Nat) (ka : Nat) (H : Heap) : k_okp D ac u6 u7 aK aV ka H 102 := ⟨_, rfl, fun h => h⟩
theorem k_ok103 (D : va_G) (ac : Nat → ClassId) (u6 u7 aK aV : Nat → Nat) (ka : Nat) (H : Heap) : k_okp D ac u6 u7 aK aV ka H 103 := ⟨_, rfl, fun h => h⟩
theorem k_ok104 (D : va_G) (ac : Nat → ClassId) (u6 u7 aK aV : Nat → Nat) (ka : Nat) (H : Heap) : k_okp D ac u6 u7 aK aV ka H 104 := ⟨_, rfl, fun h => h⟩
theorem k_ok105 (D : va_G) (ac : Nat → ClassId) (u6 u7 aK aV : Nat → Nat) (ka : Nat) (H : Heap) : k_okp D ac u6 u7 aK aV ka H 105 := ⟨_, rfl, fun h => h⟩
theorem k_ok106 (D : va_G) (ac : Nat → ClassId) (u6 u7 aK aV : Nat → Nat) (ka : Nat) (H : Heap) : k_okp D ac u6 u7 aK aV ka H 106 := ⟨_, rfl, fun h => h⟩
theorem k_ok107 (D : va_G) (ac : Nat → ClassId) (u6 u7 aK aV : Nat → Nat) (ka : Nat) (H : Heap) : k_okp D ac u6 u7 aK aV ka H 107 := ⟨_, rfl, fun h => h⟩
theorem k_ok108 (D : va_G) (ac : Nat → ClassId) (u6 u7 aK aV : Nat → Nat) (ka : Nat) (H : Heap) : k_okp D ac u6 u7 aK aV ka H 108 := ⟨_, rfl, fun h => h⟩
theorem k_okAll (D : va_G) (ac : Nat → ClassId) (u6 u7 aK aV : Nat → Nat) (ka : Nat) (H : Heap) : ∀ o, o < 109 → k_okp D ac u6 u7 aK aV ka H o := by
  intro o ho
  match o, ho with
  | 0, _ => exact k_ok0 D ac u6 u7 aK aV ka H
  | 1, _ => exact k_ok1 D ac u6 u7 aK aV ka H
  | 2, _ => exact k_ok2 D ac u6 u7 aK aV ka H
  | 3, _ => exact k_ok3 D ac u6 u7 aK aV ka H
  | 4, _ => exact k_ok4 D ac u6 u7 aK aV ka H
  | 5, _ => exact k_ok5 D ac u6 u7 aK aV ka H
  | 6, _ => exact k_ok6 D ac u6 u7 aK aV ka H
  | 7, _ => exact k_ok7 D ac u6 u7 aK aV ka H
  | 8, _ => exact k_ok8 D ac u6 u7 aK aV ka H
  | 9, _ => exact k_ok9 D ac u6 u7 aK aV ka H
  | 10, _ => exact k_ok10 D ac u6 u7 aK aV ka H
  | 11, _ => exact k_ok11 D ac u6 u7 aK aV ka H
  | 12, _ => exact k_ok12 D ac u6 u7 aK aV ka H
  | 13, _ => exact k_ok13 D ac u6 u7 aK aV ka H
  | 14, _ => exact k_ok14 D ac u6 u7 aK aV ka H
  | 15, _ => exact k_ok15 D ac u6 u7 aK aV ka H
  | 16, _ => exact k_ok16 D ac u6 u7 aK aV ka H
  | 17, _ => exact k_ok17 D ac u6 u7 aK aV ka H
  | 18, _ => exact k_ok18 D ac u6 u7 aK aV ka H
  | 19, _ => exact k_ok19 D ac u6 u7 aK aV ka H
  | 20, _ => exact k_ok20 D ac u6 u7 aK aV ka H
  | 21, _ => exact k_ok21 D ac u6 u7 aK aV ka H
  | 22, _ => exact k_ok22 D ac u6 u7 aK aV ka H
  | 23, _ => exact k_ok23 D ac u6 u7 aK aV ka H
  | 24, _ => exact k_ok24 D ac u6 u7 aK aV ka H
  | 25, _ => exact k_ok25 D ac u6 u7 aK aV ka H
  | 26, _ => exact k_ok26 D ac u6 u7 aK aV ka H
  | 27, _ => exact k_ok27 D ac u6 u7 aK aV ka H
  | 28, _ => exact k_ok28 D ac u6 u7 aK aV ka H
  | 29, _ => exact k_ok29 D ac u6 u7 aK aV ka H
  | 30, _ => exact k_ok30 D ac u6 u7 aK aV ka H
  | 31, _ => exact k_ok31 D ac u6 u7 aK aV ka H
  | 32, _ => exact k_ok32 D ac u6 u7 aK aV ka H
  | 33, _ => exact k_ok33 D ac u6 u7 aK aV ka H
  | 34, _ => exact k_ok34 D ac u6 u7 aK aV ka H
  | 35, _ => exact k_ok35 D ac u6 u7 aK aV ka H
  | 36, _ => exact k_ok36 D ac u6 u7 aK aV ka H
  | 37, _ => exact k_ok37 D ac u6 u7 aK aV ka H
  | 38, _ => exact k_ok38 D ac u6 u7 aK aV ka H
  | 39, _ => exact k_ok39 D ac u6 u7 aK aV ka H
  | 40, _ => exact k_ok40 D ac u6 u7 aK aV ka H
  | 41, _ => exact k_ok41 D ac u6 u7 aK aV ka H
  | 42, _ => exact k_ok42 D ac u6 u7 aK aV ka H
  | 43, _ => exact k_ok43 D ac u6 u7 aK aV ka H
  | 44, _ => exact k_ok44 D ac u6 u7 aK aV ka H
  | 45, _ => exact k_ok45 D ac u6 u7 aK aV ka H
  | 46, _ => exact k_ok46 D ac u6 u7 aK aV ka H
  | 47, _ => exact k_ok47 D ac u6 u7 aK aV ka H
  | 48, _ => exact k_ok48 D ac u6 u7 aK aV ka H
  | 49, _ => exact k_ok49 D ac u6 u7 aK aV ka H
  | 50, _ => exact k_ok50 D ac u6 u7 aK aV ka H
  | 51, _ => exact k_ok51 D ac u6 u7 aK aV ka H
  | 52, _ => exact k_ok52 D ac u6 u7 aK aV ka H
  | 53, _ => exact k_ok53 D ac u6 u7 aK aV ka H
  | 54, _ => exact k_ok54 D ac u6 u7 aK aV ka H
  | 55, _ => exact k_ok55 D ac u6 u7 aK aV ka H
  | 56, _ => exact k_ok56 D ac u6 u7 aK aV ka H
  | 57, _ => exact k_ok57 D ac u6 u7 aK aV ka H
  | 58, _ => exact k_ok58 D ac u6 u7 aK aV ka H
  | 59, _ => exact k_ok59 D ac u6 u7 aK aV ka H
  | 60, _ => exact k_ok60 D ac u6 u7 aK aV ka H
  | 61, _ => exact k_ok61 D ac u6 u7 aK aV ka H
  | 62, _ => exact k_ok62 D ac u6 u7 aK aV ka H
  | 63, _ => exact k_ok63 D ac u6 u7 aK aV ka H
  | 64, _ => exact k_ok64 D ac u6 u7 aK aV ka H
  | 65, _ => exact k_ok65 D ac u6 u7 aK aV ka H
  | 66, _ => exact k_ok66 D ac u6 u7 aK aV ka H
  | 67, _ => exact k_ok67 D ac u6 u7 aK aV ka H
  | 68, _ => exact k_ok68 D ac u6 u7 aK aV ka H
  | 69, _ => exact k_ok69 D ac u6 u7 aK aV ka H
  | 70, _ => exact k_ok70 D ac u6 u7 aK aV ka H
  | 71, _ => exact k_ok71 D ac u6 u7 aK aV ka H
  | 72, _ => exact k_ok72 D ac u6 u7 aK aV ka H
  | 73, _ => exact k_ok73 D ac u6 u7 aK aV ka H
  | 74, _ => exact k_ok74 D ac u6 u7 aK aV ka H
  | 75, _ => exact k_ok75 D ac u6 u7 aK aV ka H
  | 76, _ => exact k_ok76 D ac u6 u7 aK aV ka H
  | 77, _ => exact k_ok77 D ac u6 u7 aK aV ka H
  | 78, _ => exact k_ok78 D ac u6 u7 aK aV ka H
  | 79, _ => exact k_ok79 D ac u6 u7 aK aV ka H
  | 80, _ => exact k_ok80 D ac u6 u7 aK aV ka H
  | 81, _ => exact k_ok81 D ac u6 u7 aK aV ka H
  | 82, _ => exact k_ok82 D ac u6 u7 aK aV ka H
  | 83, _ => exact k_ok83 D ac u6 u7 aK aV ka H
  | 84, _ => exact k_ok84 D ac u6 u7 aK aV ka H
  | 85, _ => exact k_ok85 D ac u6 u7 aK aV ka H
  | 86, _ => exact k_ok86 D ac u6 u7 aK aV ka H
  | 87, _ => exact k_ok87 D ac u6 u7 aK aV ka H
  | 88, _ => exact k_ok88 D ac u6 u7 aK aV ka H
  | 89, _ => exact k_ok89 D ac u6 u7 aK aV ka H
  | 90, _ => exact k_ok90 D ac u6 u7 aK aV ka H
  | 91, _ => exact k_ok91 D ac u6 u7 aK aV ka H
  | 92, _ => exact k_ok92 D ac u6 u7 aK aV ka H
  | 93, _ => exact k_ok93 D ac u6 u7 aK aV ka H
  | 94, _ => exact k_ok94 D ac u6 u7 aK aV ka H
  | 95, _ => exact k_ok95 D ac u6 u7 aK aV ka H
  | 96, _ => exact k_ok96 D ac u6 u7 aK aV ka H
  | 97, _ => exact k_ok97 D ac u6 u7 aK aV ka H
  | 98, _ => exact k_ok98 D ac u6 u7 aK aV ka H
  | 99, _ => exact k_ok99 D ac u6 u7 aK aV ka H
  | 100, _ => exact k_ok100 D ac u6 u7 aK aV ka H
  | 101, _ => exact k_ok101 D ac u6 u7 aK aV ka H
  | 102, _ => exact k_ok102 D ac u6 u7 aK aV ka H
  | 103, _ => exact k_ok103 D ac u6 u7 aK aV ka H
  | 104, _ => exact k_ok104 D ac u6 u7 aK aV ka H
  | 105, _ => exact k_ok105 D ac u6 u7 aK aV ka H
  | 106, _ => exact k_ok106 D ac u6 u7 aK aV ka H
  | 107, _ => exact k_ok107 D ac u6 u7 aK aV ka H
  | 108, _ => exact k_ok108 D ac u6 u7 aK aV ka H
  | o + 109, h => exact absurd h (by omega)
theorem k_PP {D : va_G} {ac : Nat → ClassId} {u6 u7 : Nat → Nat} {H : Heap} (aK aV : Nat → Nat) (ka : Nat) (hP : va_P D sk_cl (k_SC ac u6 ++ k_Mo ac u7) H) : sk_P (k_g D ac u6 u7 aK aV ka) k_M0 H := by
  intro k q hq
  by_cases hl : k < 109
  · rw [sk_ws_at _ _ hl] at hq
    cases hq
    obtain ⟨e, h1, h2⟩ := k_okAll D ac u6 u7 aK aV ka H k hl
    exact h2 (hP _ _ h1)
  · rw [List.getElem?_eq_none (by simpa [sk_ws] using hl)] at hq
    cases hq
theorem k_DD {A : Nat → Prop} {ac : Nat → ClassId} {u6 u7 : Nat → Nat} (hD : va_D A (k_SC ac u6 ++ k_Mo ac u7)) : (∀ i j : Nat, i < 109 → j < 109 → k_ad u6 u7 i = k_ad u6 u7 j → i = j) ∧ ∀ o, o < 109 → A (k_ad u6 u7 o) := by
  refine ⟨fun i j hi hj h => ?_, fun o ho => ?_⟩
  · obtain ⟨e, h1, -⟩ := k_okAll ((fun _ => 0), fun _ _ => 0) ac u6 u7 u6 u7 0 #[] i hi
    obtain ⟨e', h2, -⟩ := k_okAll ((fun _ => 0), fun _ _ => 0) ac u6 u7 u6 u7 0 #[] j hj
    exact k_pi_inj i hi j hj (hD.1 _ _ _ _ h1 h2 h)
  · obtain ⟨e, h1, -⟩ := k_okAll ((fun _ => 0), fun _ _ => 0) ac u6 u7 u6 u7 0 #[] o ho
    exact hD.2 _ _ h1
