/-! What the Statement gives of the start: classes, arrays' classes, statics, string constants. -/
theorem z_m {i : Nat} {w : Cond} (h : lw_tbl[i]? = some w) : w ∈ lw_tbl := List.mem_of_getElem? h
theorem z_inst : ∀ (c : Nat) (q : vw_C), sk_cl[c]? = some q → Cond.instantiable q.1 q.2.2 ∈ lw_tbl := by
  intro c q h
  match c, h with
  | 0, h => cases h; exact z_m (i := 115) (by decide +kernel)
  | 1, h => cases h; exact z_m (i := 252) (by decide +kernel)
  | 2, h => cases h; exact z_m (i := 272) (by decide +kernel)
  | 3, h => cases h; exact z_m (i := 88) (by decide +kernel)
  | 4, h => cases h; exact z_m (i := 232) (by decide +kernel)
  | 5, h => cases h; exact z_m (i := 155) (by decide +kernel)
  | 6, h => cases h; exact z_m (i := 80) (by decide +kernel)
  | 7, h => cases h; exact z_m (i := 930) (by decide +kernel)
  | k + 8, h => simp [sk_cl] at h
theorem z_nests : ∀ w ∈ k_nests, w ∈ lw_tbl := by
  intro w hw
  simp only [k_nests, List.mem_cons, List.not_mem_nil, or_false] at hw
  rcases hw with rfl | rfl | rfl | rfl | rfl
  · exact z_m (i := 89) (by decide +kernel)
  · exact z_m (i := 116) (by decide +kernel)
  · exact z_m (i := 253) (by decide +kernel)
  · exact z_m (i := 273) (by decide +kernel)
  · exact z_m (i := 278) (by decide +kernel)
theorem z_K {args : Array Value} {s : State} (hts : ∀ w ∈ lw_tbl, w.before args s = true) : ∃ (D : va_G) (ac : Nat → ClassId), k_K D ac s := by
  have h0 : ∀ c : Nat, ∃ x : ClassId × (Nat → Nat), ∀ q : vw_C, sk_cl[c]? = some q → u_Kn s q.1 q.2.1 q.2.2 x.1 x.2 := by
    intro c
    cases hc : sk_cl[c]? with
    | none => exact ⟨(0, fun _ => 0), fun q h => by cases h⟩
    | some q =>
      obtain ⟨cC, iS, h⟩ := u_known (C := q.1) (T := q.2.1) (N := q.2.2) (n := q.2.2) hts (fun w hw => (List.mem_filter.mp (sk_hin c q hc w hw)).1) (hts _ (z_inst c q hc))
      exact ⟨(cC, iS), fun q' h' => by cases h'; exact h⟩
  obtain ⟨d, hd⟩ := Classical.axiomOfChoice h0
  obtain ⟨cI, kI, xI, i1, i2, i3⟩ := Cond.arrayClass_spec (hts (.arrayClass .int) (z_m (i := 113) (by decide +kernel)))
  obtain ⟨cm, cA, kA, a1, -, a2, a3, a4⟩ := arrayOverA_spec (hts (.arrayOver (.array .int)) (z_m (i := 94) (by decide +kernel)))
  obtain ⟨m2, c2, k2, p1, -, p2, p3, p4⟩ := Cond.arrayOver_spec (hts (.arrayOver (.object RX1)) (z_m (i := 251) (by decide +kernel)))
  obtain ⟨m3, c3, k3, r1, -, r2, r3, r4⟩ := Cond.arrayOver_spec (hts (.arrayOver (.object RX2)) (z_m (i := 271) (by decide +kernel)))
  have e1 : (FieldType.array .int).toString = "[" ++ FieldType.int.toString := rfl
  have e2 : "[" ++ (FieldType.array .int).toString = "[[I" := by decide +kernel
  have ec : cm = cI := by
    rw [e1] at a1
    exact Option.some.inj (a1.symm.trans i1)
  subst ec
  refine ⟨(fun c => (d c).1, fun c => (d c).2), fun t => [cm, cA, c2, c3].getD t 0, ⟨fun c q hq => hd c q hq, fun k q hq => ?_⟩, ⟨⟨kA, a2, a3⟩, ⟨kI, xI, i2, i3⟩, by rw [← e2]; exact a4⟩, va_AO.of (hts (.arrayOver (.object RX1)) (z_m (i := 251) (by decide +kernel))), va_AO.of (hts (.arrayOver (.object RX2)) (z_m (i := 271) (by decide +kernel))), fun w hw => va_Nw.of (k_nest_M w hw).1 (hts w (z_nests w hw))⟩
  match k, hq with
  | 0, hq => cases hq; exact ⟨fun n z => ⟨fun k h => (by cases h), kI, i2, xI, i3⟩, i1⟩
  | 1, hq => cases hq; exact ⟨fun n z => ⟨fun k h => (by cases h), kA, a2, cm, a3⟩, a4⟩
  | 2, hq => cases hq; exact ⟨fun n z => ⟨fun k h => (by cases h), k2, p2, m2, p3⟩, k2, m2, p2, p3, p1, p4⟩
  | 3, hq => cases hq; exact ⟨fun n z => ⟨fun k h => (by cases h), k3, r2, m3, r3⟩, k3, m3, r2, r3, r1, r4⟩
  | k + 4, hq => simp [k_ty] at hq
/-- statics and string constants, for cells of a kind -/
def z_E (aK aV : Nat → Nat) (ka : Nat) (A : Nat → Prop) (U : State) (H : Heap) : Prop :=
  va_Z "ScentCloth" "KIND_ABOVE" "[I" (.ref ka) A U H ∧ va_T .int ka 6 (fun j => .int (sk_ab.getD j 0)) A U H ∧
  va_Z "java/lang/String" "COMPACT_STRINGS" "Z" (.int 1) A U H ∧ va_Zq "jdk/internal/util/Preconditions" "SIOOBE_FORMATTER" "Ljava/util/function/BiFunction;" A U H ∧
  vk_S 14 sk_sl sk_sb aK aV A U H ∧ ∀ i : Nat, i < 14 → vk_R RX0 (sk_sx.getD i (0, "")).1 (sk_sx.getD i (0, "")).2 (aK i) U
def z_pre : List Cond := flatC (Jvm.Cond.and given_1 narrow_1)
theorem z_pm {i : Nat} {w : Cond} (h : z_pre[i]? = some w) : w ∈ z_pre := List.mem_of_getElem? h
theorem z_p1 : Cond.arrayOf (.static "ScentCloth" "KIND_ABOVE" "[I") .int ∈ z_pre := z_pm (i := 5) (by decide +kernel)
theorem z_p2 : Cond.eq (.length (.static "ScentCloth" "KIND_ABOVE" "[I")) (.int (Int32.ofNat 6)) ∈ z_pre := z_pm (i := 6) (by decide +kernel)
theorem z_p30 : ∀ j : Nat, j < 6 → z_pre[([7, 8, 9, 10, 11, 12] : List Nat).getD j 0]? = some (Cond.eq (.elem (.static "ScentCloth" "KIND_ABOVE" "[I") (.int (Int32.ofNat j))) (.int (sk_ab.getD j 0))) := by decide +kernel
theorem z_p3 : ∀ j : Nat, j < 6 → Cond.eq (.elem (.static "ScentCloth" "KIND_ABOVE" "[I") (.int (Int32.ofNat j))) (.int (sk_ab.getD j 0)) ∈ z_pre := fun j hj => z_pm (z_p30 j hj)
theorem z_p4 : Cond.eq (.static "java/lang/String" "COMPACT_STRINGS" "Z") (.int 1) ∈ z_pre := z_pm (i := 13) (by decide +kernel)
theorem z_p5 : Cond.isRef (.static "jdk/internal/util/Preconditions" "SIOOBE_FORMATTER" "Ljava/util/function/BiFunction;") ∈ z_pre := z_pm (i := 14) (by decide +kernel)
def z_tm (i : Nat) : Term := .string RX0 (sk_sx.getD i (0, "")).1
theorem z_s10 : ∀ j : Nat, j < 14 → z_pre[([34, 42, 52, 128, 142, 157, 175, 193, 61, 69, 78, 88, 101, 114] : List Nat).getD j 0]? = some (Cond.exactly (z_tm j) "java/lang/String") := by decide +kernel
theorem z_s1 : ∀ j : Nat, j < 14 → Cond.exactly (z_tm j) "java/lang/String" ∈ z_pre := fun j hj => z_pm (z_s10 j hj)
theorem z_s20 : ∀ j : Nat, j < 14 → z_pre[([35, 43, 53, 129, 143, 158, 176, 194, 62, 70, 79, 89, 102, 115] : List Nat).getD j 0]? = some (Cond.eq (.field (z_tm j) "java/lang/String" "coder" "B") (.int 0)) := by decide +kernel
theorem z_s2 : ∀ j : Nat, j < 14 → Cond.eq (.field (z_tm j) "java/lang/String" "coder" "B") (.int 0) ∈ z_pre := fun j hj => z_pm (z_s20 j hj)
theorem z_s30 : ∀ j : Nat, j < 14 → z_pre[([36, 44, 54, 130, 144, 159, 177, 195, 63, 71, 80, 90, 103, 116] : List Nat).getD j 0]? = some (Cond.arrayOf (.field (z_tm j) "java/lang/String" "value" "[B") .byte) := by decide +kernel
theorem z_s3 : ∀ j : Nat, j < 14 → Cond.arrayOf (.field (z_tm j) "java/lang/String" "value" "[B") .byte ∈ z_pre := fun j hj => z_pm (z_s30 j hj)
theorem z_s40 : ∀ j : Nat, j < 14 → z_pre[([37, 45, 55, 131, 145, 160, 178, 196, 64, 72, 81, 91, 104, 117] : List Nat).getD j 0]? = some (Cond.eq (.length (.field (z_tm j) "java/lang/String" "value" "[B")) (.int (Int32.ofNat (sk_sl.getD j 0)))) := by decide +kernel
theorem z_s4 : ∀ j : Nat, j < 14 → Cond.eq (.length (.field (z_tm j) "java/lang/String" "value" "[B")) (.int (Int32.ofNat (sk_sl.getD j 0))) ∈ z_pre := fun j hj => z_pm (z_s40 j hj)
theorem z_s50 : ∀ i : Nat, i < 14 → ∀ j : Nat, j < sk_sl.getD i 0 → z_pre[(([[38, 39, 40, 41], [46, 47, 48, 49, 50], [56, 57, 58], [132], [146], [161, 162, 163], [179, 180], [197, 198], [65], [73], [82], [92, 93, 94], [105, 106], [118, 119]] : List (List Nat)).getD i []).getD j 0]? = some (Cond.eq (.elem (.field (z_tm i) "java/lang/String" "value" "[B") (.int (Int32.ofNat j))) (.int ((sk_sb.getD i []).getD j 0))) := by decide +kernel
theorem z_s5 : ∀ i : Nat, i < 14 → ∀ j : Nat, j < sk_sl.getD i 0 → Cond.eq (.elem (.field (z_tm i) "java/lang/String" "value" "[B") (.int (Int32.ofNat j))) (.int ((sk_sb.getD i []).getD j 0)) ∈ z_pre := fun i hi j hj => z_pm (z_s50 i hi j hj)
def z_nt : List (List Nat) := ([[0, 51, 59, 133, 147, 164, 181, 199, 66, 74, 83, 95, 107, 120], [51, 0, 60, 134, 148, 165, 182, 200, 67, 75, 84, 96, 108, 121], [59, 60, 0, 135, 149, 166, 183, 201, 68, 76, 85, 97, 109, 122], [133, 134, 135, 0, 156, 173, 190, 208, 136, 137, 138, 139, 140, 141], [147, 148, 149, 156, 0, 174, 191, 209, 150, 151, 152, 153, 154, 155], [164, 165, 166, 173, 174, 0, 192, 210, 167, 168, 169, 170, 171, 172], [181, 182, 183, 190, 191, 192, 0, 211, 184, 185, 186, 187, 188, 189], [199, 200, 201, 208, 209, 210, 211, 0, 202, 203, 204, 205, 206, 207], [66, 67, 68, 136, 150, 167, 184, 202, 0, 77, 86, 98, 110, 123], [74, 75, 76, 137, 151, 168, 185, 203, 77, 0, 87, 99, 111, 124], [83, 84, 85, 138, 152, 169, 186, 204, 86, 87, 0, 100, 112, 125], [95, 96, 97, 139, 153, 170, 187, 205, 98, 99, 100, 0, 113, 126], [107, 108, 109, 140, 154, 171, 188, 206, 110, 111, 112, 113, 0, 127], [120, 121, 122, 141, 155, 172, 189, 207, 123, 124, 125, 126, 127, 0]] : List (List Nat))
theorem z_s60 : ∀ i : Nat, i < 14 → ∀ j : Nat, j < 14 → i ≠ j → z_pre[(z_nt.getD i []).getD j 0]? = some (Cond.not (Cond.eq (z_tm i) (z_tm j))) ∨ z_pre[(z_nt.getD i []).getD j 0]? = some (Cond.not (Cond.eq (z_tm j) (z_tm i))) := by decide +kernel
theorem z_s6 : ∀ i : Nat, i < 14 → ∀ j : Nat, j < 14 → i ≠ j → Cond.not (Cond.eq (z_tm i) (z_tm j)) ∈ z_pre ∨ Cond.not (Cond.eq (z_tm j) (z_tm i)) ∈ z_pre := fun i hi j hj h => (z_s60 i hi j hj h).imp z_pm z_pm
theorem z_s7 : ∀ i : Nat, i < 14 → sk_sl.getD i 0 < 2 ^ 31 := by decide +kernel
theorem z_s8 : ∀ i : Nat, i < 14 → Cond.stringRef RX0 (sk_sx.getD i (0, "")).1 (sk_sx.getD i (0, "")).2 ∈ lw_tbl := by
  intro i hi
  rcases k_lt14 hi with rfl | rfl | rfl | rfl | rfl | rfl | rfl | rfl | rfl | rfl | rfl | rfl | rfl | rfl
  · exact z_m (i := 667) (by decide +kernel)
  · exact z_m (i := 720) (by decide +kernel)
  · exact z_m (i := 721) (by decide +kernel)
  · exact z_m (i := 818) (by decide +kernel)
  · exact z_m (i := 819) (by decide +kernel)
  · exact z_m (i := 820) (by decide +kernel)
  · exact z_m (i := 821) (by decide +kernel)
  · exact z_m (i := 822) (by decide +kernel)
  · exact z_m (i := 730) (by decide +kernel)
  · exact z_m (i := 794) (by decide +kernel)
  · exact z_m (i := 795) (by decide +kernel)
  · exact z_m (i := 812) (by decide +kernel)
  · exact z_m (i := 813) (by decide +kernel)
  · exact z_m (i := 814) (by decide +kernel)
theorem z_E0 {args : Array Value} {s : State} (hts : ∀ w ∈ lw_tbl, w.before args s = true) (hgv : (Jvm.Cond.and given_1 narrow_1).before args s = true) : ∃ (aK aV : Nat → Nat) (ka : Nat), z_E aK aV ka (fun q => s.heap.size ≤ q) s s.heap := by
  have hs : ∀ w ∈ z_pre, w.before args s = true := flat_of_before _ hgv
  have hA : ∀ a : Nat, a < s.heap.size → ¬ (fun q : Nat => s.heap.size ≤ q) a := fun a h => Nat.not_le.mpr h
  obtain ⟨ka, t1, t2⟩ := va_Tof (tm := .static "ScentCloth" "KIND_ABOVE" "[I") (ty := .int) (N := 6) (f := fun j => .int (sk_ab.getD j 0)) (by decide) (hs _ z_p1) (va_eqt (hs _ z_p2)) (fun j hj => va_eqt (hs _ (z_p3 j hj))) hA
  obtain ⟨aK, aV, s1, s2⟩ := vk_Sof (N := 14) (tm := z_tm) (len := sk_sl) (byt := sk_sb) z_s7 (fun i hi => hs _ (z_s1 i hi)) (fun i hi => hs _ (z_s2 i hi)) (fun i hi => hs _ (z_s3 i hi)) (fun i hi => hs _ (z_s4 i hi)) (fun i hi j hj => hs _ (z_s5 i hi j hj)) (fun i j hi hj hij => (z_s6 i hi j hj hij).imp (hs _) (hs _)) hA
  exact ⟨aK, aV, ka, va_Zof (hts _ (z_m (i := 372) (by decide +kernel))) (hts (.initialized "ScentCloth") (z_m (i := 62) (by decide +kernel))) t1 hA, t2, va_Zof (hts _ (z_m (i := 681) (by decide +kernel))) (hts (.initialized "java/lang/String") (z_m (i := 74) (by decide +kernel))) (va_eqi (hs _ z_p4)) hA, va_Zqof (hts _ (z_m (i := 697) (by decide +kernel))) (hts (.initialized "jdk/internal/util/Preconditions") (z_m (i := 76) (by decide +kernel))) (hs _ z_p5) hA, s1, fun i hi => vk_R.of (hts _ (z_s8 i hi)) (s2 i hi)⟩
theorem z_E1 {D : va_G} {ac : Nat → ClassId} {u6 u7 aK aV : Nat → Nat} {ka : Nat} {s : State} (h : z_E aK aV ka (fun q => s.heap.size ≤ q) s s.heap) (hA : ∀ o, o < 109 → s.heap.size ≤ k_ad u6 u7 o) : sk_E (k_g D ac u6 u7 aK aV ka) s s.heap := by
  obtain ⟨h1, h2, h3, h4, h5, h6⟩ := h
  have hn : ∀ q, sk_A (k_g D ac u6 u7 aK aV ka) q → (fun q : Nat => s.heap.size ≤ q) q := by
    intro q hq
    obtain ⟨o, ho, rfl⟩ := hq
    exact hA o ho
  exact ⟨h1.narrow hn, h2.narrow hn, h3.narrow hn, h4.narrow hn, h5.narrow hn, h6⟩
