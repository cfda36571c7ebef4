/-! The ones of a set of words. -/
set_option maxRecDepth 100000 in
set_option maxHeartbeats 4000000 in
theorem t_ones0 : ∀ s, s < 4096 → f_X7_ones (nI s) (fun _ _ => 0) = some (f_J6_bitCount_0f7a4 (nI s)) := by decide +kernel
theorem t_ones {s : Nat} (hs : s < 4096) (M : sk_M) : f_X7_ones (nI s) M = some (f_J6_bitCount_0f7a4 (nI s)) := by
  rw [t_onesM]; exact t_ones0 s hs
