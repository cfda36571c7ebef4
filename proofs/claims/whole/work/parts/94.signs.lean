/-! Signs and names. -/
def u_str (o : Nat) : List Nat := if o = 3 then [124] else if o = 4 then [38] else if o = 5 then [60, 61, 62] else if o = 6 then [43, 45] else if o = 7 then [42, 47] else if o = 8 then [33] else if o = 9 then [40] else [41]
def u_nx (key v : Nat) : Int32 := if key = 0 then (if v = 115 then 0 else if v = 112 then 1 else if v = 119 then 2 else -1) else if key = 1 then (if v = 116 then 0 else if v = 110 then 1 else -1) else (if v = 100 then 0 else if v = 110 then 1 else -1)
theorem u_L7 (o : Nat) (a3 a4 : Int32) (M M' : sk_M) : ∀ n a5, f_J1_indexOfChar_4cfef_L7 o a3 a4 M n a5 = f_J1_indexOfChar_4cfef_L7 o a3 a4 M' n a5 := by
  intro n
  induction n with
  | zero => intro a5; rfl
  | succ n ih => intro a5; simp only [f_J1_indexOfChar_4cfef_L7, ih]
theorem u_ix0 (o : Nat) (c : Int32) (M : sk_M) : f_J0_indexOf_0f7a4 o c M = f_J0_indexOf_0f7a4 o c (fun _ _ => 0) := by
  simp only [f_J0_indexOf_0f7a4, f_J0_indexOf_7cf53, f_J1_indexOf_4cfef, f_J1_indexOfChar_4cfef, u_L7 _ _ _ M (fun _ _ => 0)]
theorem u_sgD : ∀ o, o < 8 → ∀ v, v < 256 → (f_J0_indexOf_0f7a4 (o + 3) (sk_i2c (nI v)) (fun _ _ => 0)).map (fun r => (if r < 0 then (0 : Int32) else 1)) = some (if (u_str (o + 3)).elem v = true then 1 else 0) := by decide +kernel
theorem u_nmD : ∀ key, key < 3 → ∀ v, v < 256 → f_J0_indexOf_0f7a4 (11 + key) (sk_i2c (nI v)) (fun _ _ => 0) = some (u_nx key v) := by decide +kernel
theorem u_sgW : ∀ o, o < 8 → ∀ v, v < 256 → (u_str (o + 3)).elem v = true → u_w v = false ∧ v ≠ 32 := by decide +kernel
