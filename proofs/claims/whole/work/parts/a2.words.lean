/-! Words that the constructors take. -/
theorem kw_69 : Cond.initialized RX2 ∈ sk_W := sk_m (i := 69) (by decide +kernel) (by decide +kernel)
theorem kw_82 : Cond.instanceMethod yX6_init ∈ sk_W := sk_m (i := 82) (by decide +kernel) (by decide +kernel)
theorem kw_83 : Cond.code yX6_init cX6_init 2 none ∈ sk_W := sk_m (i := 83) (by decide +kernel) (by decide +kernel)
theorem kw_84 : Cond.methodLink RX6 1 Lib.objectInit ∈ sk_W := sk_m (i := 84) (by decide +kernel) (by decide +kernel)
theorem kw_85 : Cond.instanceMethod Lib.objectInit ∈ sk_W := sk_m (i := 85) (by decide +kernel) (by decide +kernel)
theorem kw_86 : Cond.code Lib.objectInit ⟨#[0xb1]⟩ 1 none ∈ sk_W := sk_m (i := 86) (by decide +kernel) (by decide +kernel)
theorem kw_87 : Cond.classLink RX6 7 RX3 ∈ sk_W := sk_m (i := 87) (by decide +kernel) (by decide +kernel)
theorem kw_88 : Cond.instantiable RX3 5 ∈ sk_W := sk_m (i := 88) (by decide +kernel) (by decide +kernel)
theorem kw_90 : Cond.instanceMethod yX3_init ∈ sk_W := sk_m (i := 90) (by decide +kernel) (by decide +kernel)
theorem kw_91 : Cond.code yX3_init cX3_init 1 none ∈ sk_W := sk_m (i := 91) (by decide +kernel) (by decide +kernel)
theorem kw_92 : Cond.methodLink RX3 3 Lib.objectInit ∈ sk_W := sk_m (i := 92) (by decide +kernel) (by decide +kernel)
theorem kw_93 : Cond.classLink RX3 9 "[[I" ∈ sk_W := sk_m (i := 93) (by decide +kernel) (by decide +kernel)
theorem kw_113 : Cond.arrayClass .int ∈ sk_W := sk_m (i := 113) (by decide +kernel) (by decide +kernel)
theorem kw_114 : Cond.classLink RX6 16 RX0 ∈ sk_W := sk_m (i := 114) (by decide +kernel) (by decide +kernel)
theorem kw_115 : Cond.instantiable RX0 9 ∈ sk_W := sk_m (i := 115) (by decide +kernel) (by decide +kernel)
theorem kw_117 : Cond.instanceMethod yX0_init ∈ sk_W := sk_m (i := 117) (by decide +kernel) (by decide +kernel)
theorem kw_118 : Cond.code yX0_init cX0_init 1 none ∈ sk_W := sk_m (i := 118) (by decide +kernel) (by decide +kernel)
theorem kw_119 : Cond.methodLink RX0 3 Lib.objectInit ∈ sk_W := sk_m (i := 119) (by decide +kernel) (by decide +kernel)
theorem kw_154 : Cond.classLink RX6 23 RX5 ∈ sk_W := sk_m (i := 154) (by decide +kernel) (by decide +kernel)
theorem kw_155 : Cond.instantiable RX5 16 ∈ sk_W := sk_m (i := 155) (by decide +kernel) (by decide +kernel)
theorem kw_156 : Cond.methodLink RX6 25 yX5_init ∈ sk_W := sk_m (i := 156) (by decide +kernel) (by decide +kernel)
theorem kw_157 : Cond.instanceMethod yX5_init ∈ sk_W := sk_m (i := 157) (by decide +kernel) (by decide +kernel)
theorem kw_158 : Cond.code yX5_init cX5_init 2 none ∈ sk_W := sk_m (i := 158) (by decide +kernel) (by decide +kernel)
theorem kw_159 : Cond.methodLink RX5 3 Lib.objectInit ∈ sk_W := sk_m (i := 159) (by decide +kernel) (by decide +kernel)
theorem kw_160 : Cond.classLink RX5 30 "[[I" ∈ sk_W := sk_m (i := 160) (by decide +kernel) (by decide +kernel)
theorem kw_161 : Cond.methodLink RX5 45 yJ7_fill_53178 ∈ sk_W := sk_m (i := 161) (by decide +kernel) (by decide +kernel)
theorem kw_231 : Cond.classLink RX6 35 RX4 ∈ sk_W := sk_m (i := 231) (by decide +kernel) (by decide +kernel)
theorem kw_232 : Cond.instantiable RX4 4 ∈ sk_W := sk_m (i := 232) (by decide +kernel) (by decide +kernel)
theorem kw_233 : Cond.methodLink RX6 37 yX4_init ∈ sk_W := sk_m (i := 233) (by decide +kernel) (by decide +kernel)
theorem kw_234 : Cond.instanceMethod yX4_init ∈ sk_W := sk_m (i := 234) (by decide +kernel) (by decide +kernel)
theorem kw_235 : Cond.code yX4_init cX4_init 2 none ∈ sk_W := sk_m (i := 235) (by decide +kernel) (by decide +kernel)
theorem kw_236 : Cond.methodLink RX4 3 Lib.objectInit ∈ sk_W := sk_m (i := 236) (by decide +kernel) (by decide +kernel)
theorem kw_250 : Cond.classLink RX6 47 RX1 ∈ sk_W := sk_m (i := 250) (by decide +kernel) (by decide +kernel)
theorem kw_252 : Cond.instantiable RX1 3 ∈ sk_W := sk_m (i := 252) (by decide +kernel) (by decide +kernel)
theorem kw_254 : Cond.instanceMethod yX1_init ∈ sk_W := sk_m (i := 254) (by decide +kernel) (by decide +kernel)
theorem kw_255 : Cond.code yX1_init cX1_init 1 none ∈ sk_W := sk_m (i := 255) (by decide +kernel) (by decide +kernel)
theorem kw_256 : Cond.methodLink RX1 3 Lib.objectInit ∈ sk_W := sk_m (i := 256) (by decide +kernel) (by decide +kernel)
theorem kw_270 : Cond.classLink RX6 54 RX2 ∈ sk_W := sk_m (i := 270) (by decide +kernel) (by decide +kernel)
theorem kw_272 : Cond.instantiable RX2 5 ∈ sk_W := sk_m (i := 272) (by decide +kernel) (by decide +kernel)
theorem kw_274 : Cond.instanceMethod yX2_init ∈ sk_W := sk_m (i := 274) (by decide +kernel) (by decide +kernel)
theorem kw_275 : Cond.code yX2_init cX2_init 1 none ∈ sk_W := sk_m (i := 275) (by decide +kernel) (by decide +kernel)
theorem kw_276 : Cond.methodLink RX2 3 Lib.objectInit ∈ sk_W := sk_m (i := 276) (by decide +kernel) (by decide +kernel)
theorem kw_277 : Cond.classLink RX2 9 RX1 ∈ sk_W := sk_m (i := 277) (by decide +kernel) (by decide +kernel)
theorem kw_279 : Cond.fieldLink RX2 12 "ScentCloth$Slot" "row" "LScentCloth$Sheet;" ∈ sk_W := sk_m (i := 279) (by decide +kernel) (by decide +kernel)
theorem kw_281 : Cond.fieldLink RX2 18 "ScentCloth$Slot" "thing" "I" ∈ sk_W := sk_m (i := 281) (by decide +kernel) (by decide +kernel)
theorem kw_932 : Cond.instanceMethod yX7_init ∈ sk_W := sk_m (i := 932) (by decide +kernel) (by decide +kernel)
theorem kw_933 : Cond.code yX7_init cX7_init 2 none ∈ sk_W := sk_m (i := 933) (by decide +kernel) (by decide +kernel)
theorem kw_934 : Cond.methodLink RX7 1 Lib.objectInit ∈ sk_W := sk_m (i := 934) (by decide +kernel) (by decide +kernel)
theorem k_yX0 : k_y yX0_init cX0_init 1 0 := ⟨⟨by decide, by decide, by decide +kernel⟩, rfl, kw_118, kw_117, kw_64⟩
theorem k_yX1 : k_y yX1_init cX1_init 1 0 := ⟨⟨by decide, by decide, by decide +kernel⟩, rfl, kw_255, kw_254, kw_68⟩
theorem k_yX2 : k_y yX2_init cX2_init 1 0 := ⟨⟨by decide, by decide, by decide +kernel⟩, rfl, kw_275, kw_274, kw_69⟩
theorem k_yX3 : k_y yX3_init cX3_init 1 0 := ⟨⟨by decide, by decide, by decide +kernel⟩, rfl, kw_91, kw_90, kw_63⟩
theorem k_yX4 : k_y yX4_init cX4_init 2 1 := ⟨⟨by decide, by decide, by decide +kernel⟩, rfl, kw_235, kw_234, kw_67⟩
theorem k_yX5 : k_y yX5_init cX5_init 2 1 := ⟨⟨by decide, by decide, by decide +kernel⟩, rfl, kw_158, kw_157, kw_65⟩
theorem k_yX7 : k_y yX7_init cX7_init 2 0 := ⟨⟨by decide, by decide, by decide +kernel⟩, rfl, kw_933, kw_932, kw_70⟩
theorem k_dfX0 : ∀ j, j < 9 → defaultValue (tyX0 j) = vp_V [.null, .null, .int 0, .int 0, .int 0, .int 0, .int 0, .int 0, .int 0] j := by
  intro j hj
  match j, hj with
  | 0, _ => rfl
  | 1, _ => rfl
  | 2, _ => rfl
  | 3, _ => rfl
  | 4, _ => rfl
  | 5, _ => rfl
  | 6, _ => rfl
  | 7, _ => rfl
  | 8, _ => rfl
theorem k_dfX1 : ∀ j, j < 3 → defaultValue (tyX1 j) = vp_V [.null, .int 0, .int 0] j := by
  intro j hj
  match j, hj with
  | 0, _ => rfl
  | 1, _ => rfl
  | 2, _ => rfl
theorem k_dfX2 : ∀ j, j < 5 → defaultValue (tyX2 j) = vp_V [.null, .int 0, .int 0, .int 0, .int 0] j := by
  intro j hj
  match j, hj with
  | 0, _ => rfl
  | 1, _ => rfl
  | 2, _ => rfl
  | 3, _ => rfl
  | 4, _ => rfl
theorem k_dfX3 : ∀ j, j < 5 → defaultValue (tyX3 j) = vp_V [.null, .null, .null, .null, .null] j := by
  intro j hj
  match j, hj with
  | 0, _ => rfl
  | 1, _ => rfl
  | 2, _ => rfl
  | 3, _ => rfl
  | 4, _ => rfl
theorem k_dfX4 : ∀ j, j < 4 → defaultValue (tyX4 j) = vp_V [.null, .null, .int 0, .int 0] j := by
  intro j hj
  match j, hj with
  | 0, _ => rfl
  | 1, _ => rfl
  | 2, _ => rfl
  | 3, _ => rfl
theorem k_dfX5 : ∀ j, j < 16 → defaultValue (tyX5 j) = vp_V [.null, .null, .null, .null, .null, .null, .null, .null, .null, .null, .int 0, .int 0, .int 0, .int 0, .int 0, .int 0] j := by
  intro j hj
  match j, hj with
  | 0, _ => rfl
  | 1, _ => rfl
  | 2, _ => rfl
  | 3, _ => rfl
  | 4, _ => rfl
  | 5, _ => rfl
  | 6, _ => rfl
  | 7, _ => rfl
  | 8, _ => rfl
  | 9, _ => rfl
  | 10, _ => rfl
  | 11, _ => rfl
  | 12, _ => rfl
  | 13, _ => rfl
  | 14, _ => rfl
  | 15, _ => rfl
  | j + 16, h => exact absurd h (by omega)
theorem k_dfX6 : ∀ j, j < 13 → defaultValue (tyX6 j) = vp_V [.null, .null, .null, .null, .null, .null, .null, .null, .null, .null, .null, .int 0, .int 0] j := by
  intro j hj
  match j, hj with
  | 0, _ => rfl
  | 1, _ => rfl
  | 2, _ => rfl
  | 3, _ => rfl
  | 4, _ => rfl
  | 5, _ => rfl
  | 6, _ => rfl
  | 7, _ => rfl
  | 8, _ => rfl
  | 9, _ => rfl
  | 10, _ => rfl
  | 11, _ => rfl
  | 12, _ => rfl
theorem k_dfX7 : ∀ j, j < 33 → defaultValue (tyX7 j) = vp_V [.null, .null, .null, .int 0, .null, .null, .null, .null, .null, .null, .null, .null, .null, .null, .null, .int 0, .int 0, .int 0, .int 0, .int 0, .int 0, .int 0, .int 0, .int 0, .int 0, .int 0, .null, .null, .null, .null, .null, .int 0, .null] j := by
  intro j hj
  match j, hj with
  | 0, _ => rfl
  | 1, _ => rfl
  | 2, _ => rfl
  | 3, _ => rfl
  | 4, _ => rfl
  | 5, _ => rfl
  | 6, _ => rfl
  | 7, _ => rfl
  | 8, _ => rfl
  | 9, _ => rfl
  | 10, _ => rfl
  | 11, _ => rfl
  | 12, _ => rfl
  | 13, _ => rfl
  | 14, _ => rfl
  | 15, _ => rfl
  | 16, _ => rfl
  | 17, _ => rfl
  | 18, _ => rfl
  | 19, _ => rfl
  | 20, _ => rfl
  | 21, _ => rfl
  | 22, _ => rfl
  | 23, _ => rfl
  | 24, _ => rfl
  | 25, _ => rfl
  | 26, _ => rfl
  | 27, _ => rfl
  | 28, _ => rfl
  | 29, _ => rfl
  | 30, _ => rfl
  | 31, _ => rfl
  | 32, _ => rfl
  | j + 33, h => exact absurd h (by omega)
theorem k_lt4 {i : Nat} (h : i < 4) : i = 0 ∨ i = 1 ∨ i = 2 ∨ i = 3 := by omega
theorem k_lt5 {i : Nat} (h : i < 5) : i = 0 ∨ i = 1 ∨ i = 2 ∨ i = 3 ∨ i = 4 := by omega
theorem k_lt6 {i : Nat} (h : i < 6) : i = 0 ∨ i = 1 ∨ i = 2 ∨ i = 3 ∨ i = 4 ∨ i = 5 := by omega
theorem k_lt14 {i : Nat} (h : i < 14) : i = 0 ∨ i = 1 ∨ i = 2 ∨ i = 3 ∨ i = 4 ∨ i = 5 ∨ i = 6 ∨ i = 7 ∨ i = 8 ∨ i = 9 ∨ i = 10 ∨ i = 11 ∨ i = 12 ∨ i = 13 := by omega
theorem k_yX6 : k_y yX6_init cX6_init 2 0 := ⟨⟨by decide, by decide, by decide +kernel⟩, rfl, kw_83, kw_82, kw_62⟩
