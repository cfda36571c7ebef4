section
-- ===== PART A: goes FIRST, ahead of the names: the tables' words, and 'selects' of the private methods out of them =====
/-- a private method of a class that the tables say can be made, by its rows of tables_1 -/
def lw_okq (q : MethodName × Nat) : Prop := (q.1.cls ≠ "java/lang/invoke/MethodHandle" ∧ q.1.cls ≠ "java/lang/invoke/VarHandle") ∧ Cond.instantiable q.1.cls q.2 ∈ tables_1 ∧ Cond.privateMethod q.1 ∈ tables_1 ∧ Cond.instanceMethod q.1 ∈ tables_1
theorem lw_p0 : lw_okq (⟨"ScentCloth", "isScent", "(I)Z"⟩, 13) := ⟨⟨by decide +kernel, by decide +kernel⟩, List.mem_of_getElem? (i := 19) (by decide +kernel), List.mem_of_getElem? (i := 297) (by decide +kernel), List.mem_of_getElem? (i := 298) (by decide +kernel)⟩
theorem lw_p1 : lw_okq (⟨"ScentCloth", "isWord", "(I)Z"⟩, 13) := ⟨⟨by decide +kernel, by decide +kernel⟩, List.mem_of_getElem? (i := 19) (by decide +kernel), List.mem_of_getElem? (i := 342) (by decide +kernel), List.mem_of_getElem? (i := 343) (by decide +kernel)⟩
theorem lw_p2 : lw_okq (⟨"ScentCloth", "isSpot", "(II)Z"⟩, 13) := ⟨⟨by decide +kernel, by decide +kernel⟩, List.mem_of_getElem? (i := 19) (by decide +kernel), List.mem_of_getElem? (i := 370) (by decide +kernel), List.mem_of_getElem? (i := 371) (by decide +kernel)⟩
theorem lw_p3 : lw_okq (⟨"ScentCloth", "isCloth", "(I)Z"⟩, 13) := ⟨⟨by decide +kernel, by decide +kernel⟩, List.mem_of_getElem? (i := 19) (by decide +kernel), List.mem_of_getElem? (i := 374) (by decide +kernel), List.mem_of_getElem? (i := 375) (by decide +kernel)⟩
theorem lw_p4 : lw_okq (⟨"ScentCloth", "followCourse", "(II)V"⟩, 13) := ⟨⟨by decide +kernel, by decide +kernel⟩, List.mem_of_getElem? (i := 19) (by decide +kernel), List.mem_of_getElem? (i := 538) (by decide +kernel), List.mem_of_getElem? (i := 539) (by decide +kernel)⟩
theorem lw_p5 : lw_okq (⟨"ScentCloth", "differences", "(LScentCloth$Sheet;I)I"⟩, 13) := ⟨⟨by decide +kernel, by decide +kernel⟩, List.mem_of_getElem? (i := 19) (by decide +kernel), List.mem_of_getElem? (i := 542) (by decide +kernel), List.mem_of_getElem? (i := 543) (by decide +kernel)⟩
theorem lw_p6 : lw_okq (⟨"ScentCloth$Reader", "moveOn", "()V"⟩, 9) := ⟨⟨by decide +kernel, by decide +kernel⟩, List.mem_of_getElem? (i := 54) (by decide +kernel), List.mem_of_getElem? (i := 589) (by decide +kernel), List.mem_of_getElem? (i := 590) (by decide +kernel)⟩
theorem lw_p7 : lw_okq (⟨"ScentCloth$Reader", "fail", "()V"⟩, 9) := ⟨⟨by decide +kernel, by decide +kernel⟩, List.mem_of_getElem? (i := 54) (by decide +kernel), List.mem_of_getElem? (i := 599) (by decide +kernel), List.mem_of_getElem? (i := 600) (by decide +kernel)⟩
theorem lw_p8 : lw_okq (⟨"ScentCloth$Reader", "keyHere", "()I"⟩, 9) := ⟨⟨by decide +kernel, by decide +kernel⟩, List.mem_of_getElem? (i := 54) (by decide +kernel), List.mem_of_getElem? (i := 603) (by decide +kernel), List.mem_of_getElem? (i := 604) (by decide +kernel)⟩
theorem lw_p9 : lw_okq (⟨"ScentCloth$Reader", "isHere", "(Ljava/lang/String;)Z"⟩, 9) := ⟨⟨by decide +kernel, by decide +kernel⟩, List.mem_of_getElem? (i := 54) (by decide +kernel), List.mem_of_getElem? (i := 608) (by decide +kernel), List.mem_of_getElem? (i := 609) (by decide +kernel)⟩
theorem lw_p10 : lw_okq (⟨"ScentCloth$Reader", "readLevel", "(III)V"⟩, 9) := ⟨⟨by decide +kernel, by decide +kernel⟩, List.mem_of_getElem? (i := 54) (by decide +kernel), List.mem_of_getElem? (i := 662) (by decide +kernel), List.mem_of_getElem? (i := 663) (by decide +kernel)⟩
theorem lw_p11 : lw_okq (⟨"ScentCloth$Reader", "readPiece", "(II)V"⟩, 9) := ⟨⟨by decide +kernel, by decide +kernel⟩, List.mem_of_getElem? (i := 54) (by decide +kernel), List.mem_of_getElem? (i := 666) (by decide +kernel), List.mem_of_getElem? (i := 667) (by decide +kernel)⟩
theorem lw_p12 : lw_okq (⟨"ScentCloth$Reader", "isSignOf", "(Ljava/lang/String;)Z"⟩, 9) := ⟨⟨by decide +kernel, by decide +kernel⟩, List.mem_of_getElem? (i := 54) (by decide +kernel), List.mem_of_getElem? (i := 671) (by decide +kernel), List.mem_of_getElem? (i := 672) (by decide +kernel)⟩
theorem lw_p13 : lw_okq (⟨"ScentCloth$Reader", "put", "(I)V"⟩, 9) := ⟨⟨by decide +kernel, by decide +kernel⟩, List.mem_of_getElem? (i := 54) (by decide +kernel), List.mem_of_getElem? (i := 730) (by decide +kernel), List.mem_of_getElem? (i := 731) (by decide +kernel)⟩
theorem lw_p14 : lw_okq (⟨"ScentCloth$Reader", "readLeaf", "()V"⟩, 9) := ⟨⟨by decide +kernel, by decide +kernel⟩, List.mem_of_getElem? (i := 54) (by decide +kernel), List.mem_of_getElem? (i := 736) (by decide +kernel), List.mem_of_getElem? (i := 737) (by decide +kernel)⟩
theorem lw_p15 : lw_okq (⟨"ScentCloth$Reader", "leafCode", "()I"⟩, 9) := ⟨⟨by decide +kernel, by decide +kernel⟩, List.mem_of_getElem? (i := 54) (by decide +kernel), List.mem_of_getElem? (i := 740) (by decide +kernel), List.mem_of_getElem? (i := 741) (by decide +kernel)⟩
def lw_privs_1 : List (MethodName × Nat) := [(⟨"ScentCloth", "isScent", "(I)Z"⟩, 13), (⟨"ScentCloth", "isWord", "(I)Z"⟩, 13), (⟨"ScentCloth", "isSpot", "(II)Z"⟩, 13), (⟨"ScentCloth", "isCloth", "(I)Z"⟩, 13), (⟨"ScentCloth", "followCourse", "(II)V"⟩, 13), (⟨"ScentCloth", "differences", "(LScentCloth$Sheet;I)I"⟩, 13), (⟨"ScentCloth$Reader", "moveOn", "()V"⟩, 9), (⟨"ScentCloth$Reader", "fail", "()V"⟩, 9), (⟨"ScentCloth$Reader", "keyHere", "()I"⟩, 9), (⟨"ScentCloth$Reader", "isHere", "(Ljava/lang/String;)Z"⟩, 9), (⟨"ScentCloth$Reader", "readLevel", "(III)V"⟩, 9), (⟨"ScentCloth$Reader", "readPiece", "(II)V"⟩, 9), (⟨"ScentCloth$Reader", "isSignOf", "(Ljava/lang/String;)Z"⟩, 9), (⟨"ScentCloth$Reader", "put", "(I)V"⟩, 9), (⟨"ScentCloth$Reader", "readLeaf", "()V"⟩, 9), (⟨"ScentCloth$Reader", "leafCode", "()I"⟩, 9)]
theorem lw_r1 : ∀ q ∈ lw_privs_1, lw_okq q := List.forall_mem_cons.mpr ⟨lw_p0, List.forall_mem_cons.mpr ⟨lw_p1, List.forall_mem_cons.mpr ⟨lw_p2, List.forall_mem_cons.mpr ⟨lw_p3, List.forall_mem_cons.mpr ⟨lw_p4, List.forall_mem_cons.mpr ⟨lw_p5, List.forall_mem_cons.mpr ⟨lw_p6, List.forall_mem_cons.mpr ⟨lw_p7, List.forall_mem_cons.mpr ⟨lw_p8, List.forall_mem_cons.mpr ⟨lw_p9, List.forall_mem_cons.mpr ⟨lw_p10, List.forall_mem_cons.mpr ⟨lw_p11, List.forall_mem_cons.mpr ⟨lw_p12, List.forall_mem_cons.mpr ⟨lw_p13, List.forall_mem_cons.mpr ⟨lw_p14, List.forall_mem_cons.mpr ⟨lw_p15, fun _ h => absurd h List.not_mem_nil⟩⟩⟩⟩⟩⟩⟩⟩⟩⟩⟩⟩⟩⟩⟩⟩
theorem lw_p16 : lw_okq (⟨"ScentCloth$Reader", "numberHere", "()I"⟩, 9) := ⟨⟨by decide +kernel, by decide +kernel⟩, List.mem_of_getElem? (i := 54) (by decide +kernel), List.mem_of_getElem? (i := 744) (by decide +kernel), List.mem_of_getElem? (i := 745) (by decide +kernel)⟩
theorem lw_p17 : lw_okq (⟨"ScentCloth$Reader", "names", "()Ljava/lang/String;"⟩, 9) := ⟨⟨by decide +kernel, by decide +kernel⟩, List.mem_of_getElem? (i := 54) (by decide +kernel), List.mem_of_getElem? (i := 748) (by decide +kernel), List.mem_of_getElem? (i := 749) (by decide +kernel)⟩
theorem lw_p18 : lw_okq (⟨"ScentCloth", "rightAhead", "(II)I"⟩, 13) := ⟨⟨by decide +kernel, by decide +kernel⟩, List.mem_of_getElem? (i := 19) (by decide +kernel), List.mem_of_getElem? (i := 838) (by decide +kernel), List.mem_of_getElem? (i := 839) (by decide +kernel)⟩
theorem lw_p19 : lw_okq (⟨"ScentClothModel", "comes", "(II)V"⟩, 33) := ⟨⟨by decide +kernel, by decide +kernel⟩, List.mem_of_getElem? (i := 869) (by decide +kernel), List.mem_of_getElem? (i := 986) (by decide +kernel), List.mem_of_getElem? (i := 987) (by decide +kernel)⟩
theorem lw_p20 : lw_okq (⟨"ScentClothModel", "isScent", "(I)Z"⟩, 33) := ⟨⟨by decide +kernel, by decide +kernel⟩, List.mem_of_getElem? (i := 869) (by decide +kernel), List.mem_of_getElem? (i := 994) (by decide +kernel), List.mem_of_getElem? (i := 995) (by decide +kernel)⟩
theorem lw_p21 : lw_okq (⟨"ScentClothModel", "of", "(II)I"⟩, 33) := ⟨⟨by decide +kernel, by decide +kernel⟩, List.mem_of_getElem? (i := 869) (by decide +kernel), List.mem_of_getElem? (i := 999) (by decide +kernel), List.mem_of_getElem? (i := 1000) (by decide +kernel)⟩
theorem lw_p22 : lw_okq (⟨"ScentClothModel", "worth", "(I)I"⟩, 33) := ⟨⟨by decide +kernel, by decide +kernel⟩, List.mem_of_getElem? (i := 869) (by decide +kernel), List.mem_of_getElem? (i := 1003) (by decide +kernel), List.mem_of_getElem? (i := 1004) (by decide +kernel)⟩
theorem lw_p23 : lw_okq (⟨"ScentClothModel", "becomes", "(II)I"⟩, 33) := ⟨⟨by decide +kernel, by decide +kernel⟩, List.mem_of_getElem? (i := 869) (by decide +kernel), List.mem_of_getElem? (i := 1019) (by decide +kernel), List.mem_of_getElem? (i := 1020) (by decide +kernel)⟩
theorem lw_p24 : lw_okq (⟨"ScentClothModel", "isSaid", "(I)Z"⟩, 33) := ⟨⟨by decide +kernel, by decide +kernel⟩, List.mem_of_getElem? (i := 869) (by decide +kernel), List.mem_of_getElem? (i := 1047) (by decide +kernel), List.mem_of_getElem? (i := 1048) (by decide +kernel)⟩
theorem lw_p25 : lw_okq (⟨"ScentClothModel", "drawn", "()I"⟩, 33) := ⟨⟨by decide +kernel, by decide +kernel⟩, List.mem_of_getElem? (i := 869) (by decide +kernel), List.mem_of_getElem? (i := 1056) (by decide +kernel), List.mem_of_getElem? (i := 1057) (by decide +kernel)⟩
theorem lw_p26 : lw_okq (⟨"ScentClothModel", "isCloth", "(I)Z"⟩, 33) := ⟨⟨by decide +kernel, by decide +kernel⟩, List.mem_of_getElem? (i := 869) (by decide +kernel), List.mem_of_getElem? (i := 1073) (by decide +kernel), List.mem_of_getElem? (i := 1074) (by decide +kernel)⟩
theorem lw_p27 : lw_okq (⟨"ScentClothModel", "on", "(II)I"⟩, 33) := ⟨⟨by decide +kernel, by decide +kernel⟩, List.mem_of_getElem? (i := 869) (by decide +kernel), List.mem_of_getElem? (i := 1077) (by decide +kernel), List.mem_of_getElem? (i := 1078) (by decide +kernel)⟩
theorem lw_p28 : lw_okq (⟨"ScentClothModel", "losesOn", "(II)I"⟩, 33) := ⟨⟨by decide +kernel, by decide +kernel⟩, List.mem_of_getElem? (i := 869) (by decide +kernel), List.mem_of_getElem? (i := 1085) (by decide +kernel), List.mem_of_getElem? (i := 1086) (by decide +kernel)⟩
theorem lw_p29 : lw_okq (⟨"ScentClothModel", "losesBy", "(IIII)I"⟩, 33) := ⟨⟨by decide +kernel, by decide +kernel⟩, List.mem_of_getElem? (i := 869) (by decide +kernel), List.mem_of_getElem? (i := 1089) (by decide +kernel), List.mem_of_getElem? (i := 1090) (by decide +kernel)⟩
theorem lw_p30 : lw_okq (⟨"ScentClothModel", "counts", "(I)I"⟩, 33) := ⟨⟨by decide +kernel, by decide +kernel⟩, List.mem_of_getElem? (i := 869) (by decide +kernel), List.mem_of_getElem? (i := 1093) (by decide +kernel), List.mem_of_getElem? (i := 1094) (by decide +kernel)⟩
theorem lw_p31 : lw_okq (⟨"ScentClothModel", "textAt", "(I)I"⟩, 33) := ⟨⟨by decide +kernel, by decide +kernel⟩, List.mem_of_getElem? (i := 869) (by decide +kernel), List.mem_of_getElem? (i := 1097) (by decide +kernel), List.mem_of_getElem? (i := 1098) (by decide +kernel)⟩
def lw_privs_2 : List (MethodName × Nat) := [(⟨"ScentCloth$Reader", "numberHere", "()I"⟩, 9), (⟨"ScentCloth$Reader", "names", "()Ljava/lang/String;"⟩, 9), (⟨"ScentCloth", "rightAhead", "(II)I"⟩, 13), (⟨"ScentClothModel", "comes", "(II)V"⟩, 33), (⟨"ScentClothModel", "isScent", "(I)Z"⟩, 33), (⟨"ScentClothModel", "of", "(II)I"⟩, 33), (⟨"ScentClothModel", "worth", "(I)I"⟩, 33), (⟨"ScentClothModel", "becomes", "(II)I"⟩, 33), (⟨"ScentClothModel", "isSaid", "(I)Z"⟩, 33), (⟨"ScentClothModel", "drawn", "()I"⟩, 33), (⟨"ScentClothModel", "isCloth", "(I)Z"⟩, 33), (⟨"ScentClothModel", "on", "(II)I"⟩, 33), (⟨"ScentClothModel", "losesOn", "(II)I"⟩, 33), (⟨"ScentClothModel", "losesBy", "(IIII)I"⟩, 33), (⟨"ScentClothModel", "counts", "(I)I"⟩, 33), (⟨"ScentClothModel", "textAt", "(I)I"⟩, 33)]
theorem lw_r2 : ∀ q ∈ lw_privs_2, lw_okq q := List.forall_mem_cons.mpr ⟨lw_p16, List.forall_mem_cons.mpr ⟨lw_p17, List.forall_mem_cons.mpr ⟨lw_p18, List.forall_mem_cons.mpr ⟨lw_p19, List.forall_mem_cons.mpr ⟨lw_p20, List.forall_mem_cons.mpr ⟨lw_p21, List.forall_mem_cons.mpr ⟨lw_p22, List.forall_mem_cons.mpr ⟨lw_p23, List.forall_mem_cons.mpr ⟨lw_p24, List.forall_mem_cons.mpr ⟨lw_p25, List.forall_mem_cons.mpr ⟨lw_p26, List.forall_mem_cons.mpr ⟨lw_p27, List.forall_mem_cons.mpr ⟨lw_p28, List.forall_mem_cons.mpr ⟨lw_p29, List.forall_mem_cons.mpr ⟨lw_p30, List.forall_mem_cons.mpr ⟨lw_p31, fun _ h => absurd h List.not_mem_nil⟩⟩⟩⟩⟩⟩⟩⟩⟩⟩⟩⟩⟩⟩⟩⟩
theorem lw_p32 : lw_okq (⟨"ScentClothModel", "worked", "(I)I"⟩, 33) := ⟨⟨by decide +kernel, by decide +kernel⟩, List.mem_of_getElem? (i := 869) (by decide +kernel), List.mem_of_getElem? (i := 1101) (by decide +kernel), List.mem_of_getElem? (i := 1102) (by decide +kernel)⟩
theorem lw_p33 : lw_okq (⟨"ScentClothModel", "goesOn", "()V"⟩, 33) := ⟨⟨by decide +kernel, by decide +kernel⟩, List.mem_of_getElem? (i := 869) (by decide +kernel), List.mem_of_getElem? (i := 1129) (by decide +kernel), List.mem_of_getElem? (i := 1130) (by decide +kernel)⟩
theorem lw_p34 : lw_okq (⟨"ScentClothModel", "smeltOn", "(II)I"⟩, 33) := ⟨⟨by decide +kernel, by decide +kernel⟩, List.mem_of_getElem? (i := 869) (by decide +kernel), List.mem_of_getElem? (i := 1137) (by decide +kernel), List.mem_of_getElem? (i := 1138) (by decide +kernel)⟩
theorem lw_p35 : lw_okq (⟨"ScentClothModel", "saidBy", "(II)I"⟩, 33) := ⟨⟨by decide +kernel, by decide +kernel⟩, List.mem_of_getElem? (i := 869) (by decide +kernel), List.mem_of_getElem? (i := 1145) (by decide +kernel), List.mem_of_getElem? (i := 1146) (by decide +kernel)⟩
theorem lw_p36 : lw_okq (⟨"ScentClothModel", "laysBy", "()V"⟩, 33) := ⟨⟨by decide +kernel, by decide +kernel⟩, List.mem_of_getElem? (i := 869) (by decide +kernel), List.mem_of_getElem? (i := 1158) (by decide +kernel), List.mem_of_getElem? (i := 1159) (by decide +kernel)⟩
theorem lw_p37 : lw_okq (⟨"ScentClothModel", "goesOnMany", "(I)V"⟩, 33) := ⟨⟨by decide +kernel, by decide +kernel⟩, List.mem_of_getElem? (i := 869) (by decide +kernel), List.mem_of_getElem? (i := 1162) (by decide +kernel), List.mem_of_getElem? (i := 1163) (by decide +kernel)⟩
theorem lw_p38 : lw_okq (⟨"ScentClothModel", "laysBack", "()V"⟩, 33) := ⟨⟨by decide +kernel, by decide +kernel⟩, List.mem_of_getElem? (i := 869) (by decide +kernel), List.mem_of_getElem? (i := 1166) (by decide +kernel), List.mem_of_getElem? (i := 1167) (by decide +kernel)⟩
theorem lw_p39 : lw_okq (⟨"ScentClothModel", "leastOf", "(IIII)I"⟩, 33) := ⟨⟨by decide +kernel, by decide +kernel⟩, List.mem_of_getElem? (i := 869) (by decide +kernel), List.mem_of_getElem? (i := 1199) (by decide +kernel), List.mem_of_getElem? (i := 1200) (by decide +kernel)⟩
theorem lw_p40 : lw_okq (⟨"ScentClothModel", "leftOf", "(IIII)I"⟩, 33) := ⟨⟨by decide +kernel, by decide +kernel⟩, List.mem_of_getElem? (i := 869) (by decide +kernel), List.mem_of_getElem? (i := 1203) (by decide +kernel), List.mem_of_getElem? (i := 1204) (by decide +kernel)⟩
theorem lw_p41 : lw_okq (⟨"ScentClothModel", "allOn", "(I)I"⟩, 33) := ⟨⟨by decide +kernel, by decide +kernel⟩, List.mem_of_getElem? (i := 869) (by decide +kernel), List.mem_of_getElem? (i := 1216) (by decide +kernel), List.mem_of_getElem? (i := 1217) (by decide +kernel)⟩
theorem lw_p42 : lw_okq (⟨"ScentClothModel", "saidOr", "(I)I"⟩, 33) := ⟨⟨by decide +kernel, by decide +kernel⟩, List.mem_of_getElem? (i := 869) (by decide +kernel), List.mem_of_getElem? (i := 1224) (by decide +kernel), List.mem_of_getElem? (i := 1225) (by decide +kernel)⟩
theorem lw_p43 : lw_okq (⟨"ScentClothModel", "parse", "()I"⟩, 33) := ⟨⟨by decide +kernel, by decide +kernel⟩, List.mem_of_getElem? (i := 869) (by decide +kernel), List.mem_of_getElem? (i := 1240) (by decide +kernel), List.mem_of_getElem? (i := 1241) (by decide +kernel)⟩
theorem lw_p44 : lw_okq (⟨"ScentClothModel", "nextToken", "()V"⟩, 33) := ⟨⟨by decide +kernel, by decide +kernel⟩, List.mem_of_getElem? (i := 869) (by decide +kernel), List.mem_of_getElem? (i := 1244) (by decide +kernel), List.mem_of_getElem? (i := 1245) (by decide +kernel)⟩
theorem lw_p45 : lw_okq (⟨"ScentClothModel", "isLetter", "(I)Z"⟩, 33) := ⟨⟨by decide +kernel, by decide +kernel⟩, List.mem_of_getElem? (i := 869) (by decide +kernel), List.mem_of_getElem? (i := 1248) (by decide +kernel), List.mem_of_getElem? (i := 1249) (by decide +kernel)⟩
theorem lw_p46 : lw_okq (⟨"ScentClothModel", "isDigit", "(I)Z"⟩, 33) := ⟨⟨by decide +kernel, by decide +kernel⟩, List.mem_of_getElem? (i := 869) (by decide +kernel), List.mem_of_getElem? (i := 1254) (by decide +kernel), List.mem_of_getElem? (i := 1255) (by decide +kernel)⟩
theorem lw_p47 : lw_okq (⟨"ScentClothModel", "key", "()I"⟩, 33) := ⟨⟨by decide +kernel, by decide +kernel⟩, List.mem_of_getElem? (i := 869) (by decide +kernel), List.mem_of_getElem? (i := 1260) (by decide +kernel), List.mem_of_getElem? (i := 1261) (by decide +kernel)⟩
def lw_privs_3 : List (MethodName × Nat) := [(⟨"ScentClothModel", "worked", "(I)I"⟩, 33), (⟨"ScentClothModel", "goesOn", "()V"⟩, 33), (⟨"ScentClothModel", "smeltOn", "(II)I"⟩, 33), (⟨"ScentClothModel", "saidBy", "(II)I"⟩, 33), (⟨"ScentClothModel", "laysBy", "()V"⟩, 33), (⟨"ScentClothModel", "goesOnMany", "(I)V"⟩, 33), (⟨"ScentClothModel", "laysBack", "()V"⟩, 33), (⟨"ScentClothModel", "leastOf", "(IIII)I"⟩, 33), (⟨"ScentClothModel", "leftOf", "(IIII)I"⟩, 33), (⟨"ScentClothModel", "allOn", "(I)I"⟩, 33), (⟨"ScentClothModel", "saidOr", "(I)I"⟩, 33), (⟨"ScentClothModel", "parse", "()I"⟩, 33), (⟨"ScentClothModel", "nextToken", "()V"⟩, 33), (⟨"ScentClothModel", "isLetter", "(I)Z"⟩, 33), (⟨"ScentClothModel", "isDigit", "(I)Z"⟩, 33), (⟨"ScentClothModel", "key", "()I"⟩, 33)]
theorem lw_r3 : ∀ q ∈ lw_privs_3, lw_okq q := List.forall_mem_cons.mpr ⟨lw_p32, List.forall_mem_cons.mpr ⟨lw_p33, List.forall_mem_cons.mpr ⟨lw_p34, List.forall_mem_cons.mpr ⟨lw_p35, List.forall_mem_cons.mpr ⟨lw_p36, List.forall_mem_cons.mpr ⟨lw_p37, List.forall_mem_cons.mpr ⟨lw_p38, List.forall_mem_cons.mpr ⟨lw_p39, List.forall_mem_cons.mpr ⟨lw_p40, List.forall_mem_cons.mpr ⟨lw_p41, List.forall_mem_cons.mpr ⟨lw_p42, List.forall_mem_cons.mpr ⟨lw_p43, List.forall_mem_cons.mpr ⟨lw_p44, List.forall_mem_cons.mpr ⟨lw_p45, List.forall_mem_cons.mpr ⟨lw_p46, List.forall_mem_cons.mpr ⟨lw_p47, fun _ h => absurd h List.not_mem_nil⟩⟩⟩⟩⟩⟩⟩⟩⟩⟩⟩⟩⟩⟩⟩⟩
theorem lw_p48 : lw_okq (⟨"ScentClothModel", "isWordAt", "(IIII)Z"⟩, 33) := ⟨⟨by decide +kernel, by decide +kernel⟩, List.mem_of_getElem? (i := 869) (by decide +kernel), List.mem_of_getElem? (i := 1264) (by decide +kernel), List.mem_of_getElem? (i := 1265) (by decide +kernel)⟩
theorem lw_p49 : lw_okq (⟨"ScentClothModel", "isLong", "(IIIIII)Z"⟩, 33) := ⟨⟨by decide +kernel, by decide +kernel⟩, List.mem_of_getElem? (i := 869) (by decide +kernel), List.mem_of_getElem? (i := 1268) (by decide +kernel), List.mem_of_getElem? (i := 1269) (by decide +kernel)⟩
theorem lw_p50 : lw_okq (⟨"ScentClothModel", "either", "(I)Z"⟩, 33) := ⟨⟨by decide +kernel, by decide +kernel⟩, List.mem_of_getElem? (i := 869) (by decide +kernel), List.mem_of_getElem? (i := 1272) (by decide +kernel), List.mem_of_getElem? (i := 1273) (by decide +kernel)⟩
theorem lw_p51 : lw_okq (⟨"ScentClothModel", "both", "(I)Z"⟩, 33) := ⟨⟨by decide +kernel, by decide +kernel⟩, List.mem_of_getElem? (i := 869) (by decide +kernel), List.mem_of_getElem? (i := 1276) (by decide +kernel), List.mem_of_getElem? (i := 1277) (by decide +kernel)⟩
theorem lw_p52 : lw_okq (⟨"ScentClothModel", "test", "(I)Z"⟩, 33) := ⟨⟨by decide +kernel, by decide +kernel⟩, List.mem_of_getElem? (i := 869) (by decide +kernel), List.mem_of_getElem? (i := 1280) (by decide +kernel), List.mem_of_getElem? (i := 1281) (by decide +kernel)⟩
theorem lw_p53 : lw_okq (⟨"ScentClothModel", "sum", "(I)Z"⟩, 33) := ⟨⟨by decide +kernel, by decide +kernel⟩, List.mem_of_getElem? (i := 869) (by decide +kernel), List.mem_of_getElem? (i := 1284) (by decide +kernel), List.mem_of_getElem? (i := 1285) (by decide +kernel)⟩
theorem lw_p54 : lw_okq (⟨"ScentClothModel", "term", "(I)Z"⟩, 33) := ⟨⟨by decide +kernel, by decide +kernel⟩, List.mem_of_getElem? (i := 869) (by decide +kernel), List.mem_of_getElem? (i := 1288) (by decide +kernel), List.mem_of_getElem? (i := 1289) (by decide +kernel)⟩
theorem lw_p55 : lw_okq (⟨"ScentClothModel", "part0", "(I)Z"⟩, 33) := ⟨⟨by decide +kernel, by decide +kernel⟩, List.mem_of_getElem? (i := 869) (by decide +kernel), List.mem_of_getElem? (i := 1292) (by decide +kernel), List.mem_of_getElem? (i := 1293) (by decide +kernel)⟩
theorem lw_p56 : lw_okq (⟨"ScentClothModel", "step", "(II)V"⟩, 33) := ⟨⟨by decide +kernel, by decide +kernel⟩, List.mem_of_getElem? (i := 869) (by decide +kernel), List.mem_of_getElem? (i := 1296) (by decide +kernel), List.mem_of_getElem? (i := 1297) (by decide +kernel)⟩
theorem lw_p57 : lw_okq (⟨"ScentClothModel", "isSign", "(I)Z"⟩, 33) := ⟨⟨by decide +kernel, by decide +kernel⟩, List.mem_of_getElem? (i := 869) (by decide +kernel), List.mem_of_getElem? (i := 1303) (by decide +kernel), List.mem_of_getElem? (i := 1304) (by decide +kernel)⟩
theorem lw_p58 : lw_okq (⟨"ScentClothModel", "isText", "(I)Z"⟩, 33) := ⟨⟨by decide +kernel, by decide +kernel⟩, List.mem_of_getElem? (i := 869) (by decide +kernel), List.mem_of_getElem? (i := 1311) (by decide +kernel), List.mem_of_getElem? (i := 1312) (by decide +kernel)⟩
theorem lw_p59 : lw_okq (⟨"ScentClothModel", "setAside", "([I[I)V"⟩, 33) := ⟨⟨by decide +kernel, by decide +kernel⟩, List.mem_of_getElem? (i := 869) (by decide +kernel), List.mem_of_getElem? (i := 1378) (by decide +kernel), List.mem_of_getElem? (i := 1379) (by decide +kernel)⟩
theorem lw_p60 : lw_okq (⟨"ScentClothModel", "allStrengths", "()I"⟩, 33) := ⟨⟨by decide +kernel, by decide +kernel⟩, List.mem_of_getElem? (i := 869) (by decide +kernel), List.mem_of_getElem? (i := 1394) (by decide +kernel), List.mem_of_getElem? (i := 1395) (by decide +kernel)⟩
def lw_privs_4 : List (MethodName × Nat) := [(⟨"ScentClothModel", "isWordAt", "(IIII)Z"⟩, 33), (⟨"ScentClothModel", "isLong", "(IIIIII)Z"⟩, 33), (⟨"ScentClothModel", "either", "(I)Z"⟩, 33), (⟨"ScentClothModel", "both", "(I)Z"⟩, 33), (⟨"ScentClothModel", "test", "(I)Z"⟩, 33), (⟨"ScentClothModel", "sum", "(I)Z"⟩, 33), (⟨"ScentClothModel", "term", "(I)Z"⟩, 33), (⟨"ScentClothModel", "part0", "(I)Z"⟩, 33), (⟨"ScentClothModel", "step", "(II)V"⟩, 33), (⟨"ScentClothModel", "isSign", "(I)Z"⟩, 33), (⟨"ScentClothModel", "isText", "(I)Z"⟩, 33), (⟨"ScentClothModel", "setAside", "([I[I)V"⟩, 33), (⟨"ScentClothModel", "allStrengths", "()I"⟩, 33)]
theorem lw_r4 : ∀ q ∈ lw_privs_4, lw_okq q := List.forall_mem_cons.mpr ⟨lw_p48, List.forall_mem_cons.mpr ⟨lw_p49, List.forall_mem_cons.mpr ⟨lw_p50, List.forall_mem_cons.mpr ⟨lw_p51, List.forall_mem_cons.mpr ⟨lw_p52, List.forall_mem_cons.mpr ⟨lw_p53, List.forall_mem_cons.mpr ⟨lw_p54, List.forall_mem_cons.mpr ⟨lw_p55, List.forall_mem_cons.mpr ⟨lw_p56, List.forall_mem_cons.mpr ⟨lw_p57, List.forall_mem_cons.mpr ⟨lw_p58, List.forall_mem_cons.mpr ⟨lw_p59, List.forall_mem_cons.mpr ⟨lw_p60, fun _ h => absurd h List.not_mem_nil⟩⟩⟩⟩⟩⟩⟩⟩⟩⟩⟩⟩⟩
def lw_privs : List (MethodName × Nat) := lw_privs_1 ++ (lw_privs_2 ++ (lw_privs_3 ++ (lw_privs_4)))
def lw_tbl : List Cond := k2_sels lw_privs ++ tables_1
theorem lw_privs_ok : ∀ q ∈ lw_privs, lw_okq q := by
  show ∀ q ∈ lw_privs_1 ++ (lw_privs_2 ++ (lw_privs_3 ++ (lw_privs_4))), lw_okq q
  exact List.forall_mem_append.mpr ⟨lw_r1, List.forall_mem_append.mpr ⟨lw_r2, List.forall_mem_append.mpr ⟨lw_r3, lw_r4⟩⟩⟩
end
section
def RX0 : String := "ScentCloth$Reader"
def TX0 : u_T := fun k => match k with
  | 0 => ("ScentCloth$Reader", "tape", "[I", true)
  | 1 => ("ScentCloth$Reader", "codes", "[I", true)
  | 2 => ("ScentCloth$Reader", "length", "I", false)
  | 3 => ("ScentCloth$Reader", "at", "I", false)
  | 4 => ("ScentCloth$Reader", "end", "I", false)
  | 5 => ("ScentCloth$Reader", "fault", "I", false)
  | 6 => ("ScentCloth$Reader", "key", "I", false)
  | 7 => ("ScentCloth$Reader", "size", "I", false)
  | _ => ("ScentCloth$Reader", "leaves", "I", false)
def tyX0 : Nat → FieldType := fun k => match k with
  | 0 => .array .int
  | 1 => .array .int
  | 2 => .int
  | 3 => .int
  | 4 => .int
  | 5 => .int
  | 6 => .int
  | 7 => .int
  | _ => .int
theorem nmX0 : ∀ a, a < 9 → ∀ b, b < 9 → a ≠ b → (TX0 a).2.1 ≠ (TX0 b).2.1 := by decide +kernel
theorem tyX0_ok : ∀ k, k < 9 → parseFieldDescriptor (TX0 k).2.2.1 = some (tyX0 k) := by decide +kernel
def RX1 : String := "ScentCloth$Sheet"
def TX1 : u_T := fun k => match k with
  | 0 => ("ScentCloth$Sheet", "places", "[I", true)
  | 1 => ("ScentCloth$Sheet", "sort", "I", false)
  | _ => ("ScentCloth$Sheet", "size", "I", false)
def tyX1 : Nat → FieldType := fun k => match k with
  | 0 => .array .int
  | 1 => .int
  | _ => .int
theorem nmX1 : ∀ a, a < 3 → ∀ b, b < 3 → a ≠ b → (TX1 a).2.1 ≠ (TX1 b).2.1 := by decide +kernel
theorem tyX1_ok : ∀ k, k < 3 → parseFieldDescriptor (TX1 k).2.2.1 = some (tyX1 k) := by decide +kernel
def RX2 : String := "ScentCloth$Slot"
def TX2 : u_T := fun k => match k with
  | 0 => ("ScentCloth$Slot", "row", "LScentCloth$Sheet;", true)
  | 1 => ("ScentCloth$Slot", "thing", "I", false)
  | 2 => ("ScentCloth$Slot", "kind", "I", false)
  | 3 => ("ScentCloth$Slot", "pace", "I", false)
  | _ => ("ScentCloth$Slot", "number", "I", false)
def tyX2 : Nat → FieldType := fun k => match k with
  | 0 => .object "ScentCloth$Sheet"
  | 1 => .int
  | 2 => .int
  | 3 => .int
  | _ => .int
theorem nmX2 : ∀ a, a < 5 → ∀ b, b < 5 → a ≠ b → (TX2 a).2.1 ≠ (TX2 b).2.1 := by decide +kernel
theorem tyX2_ok : ∀ k, k < 5 → parseFieldDescriptor (TX2 k).2.2.1 = some (tyX2 k) := by decide +kernel
def RX3 : String := "ScentCloth$Texts"
def TX3 : u_T := fun k => match k with
  | 0 => ("ScentCloth$Texts", "codes", "[[I", true)
  | 1 => ("ScentCloth$Texts", "sizes", "[I", true)
  | 2 => ("ScentCloth$Texts", "keys", "[I", true)
  | 3 => ("ScentCloth$Texts", "leaves", "[I", true)
  | _ => ("ScentCloth$Texts", "stack", "[I", true)
def tyX3 : Nat → FieldType := fun k => match k with
  | 0 => .array (.array .int)
  | 1 => .array .int
  | 2 => .array .int
  | 3 => .array .int
  | _ => .array .int
theorem nmX3 : ∀ a, a < 5 → ∀ b, b < 5 → a ≠ b → (TX3 a).2.1 ≠ (TX3 b).2.1 := by decide +kernel
theorem tyX3_ok : ∀ k, k < 5 → parseFieldDescriptor (TX3 k).2.2.1 = some (tyX3 k) := by decide +kernel
def RX4 : String := "ScentCloth$Thought"
def TX4 : u_T := fun k => match k with
  | 0 => ("ScentCloth$Thought", "world", "LScentCloth$World;", true)
  | 1 => ("ScentCloth$Thought", "row", "[I", true)
  | 2 => ("ScentCloth$Thought", "warm", "I", false)
  | _ => ("ScentCloth$Thought", "day", "I", false)
def tyX4 : Nat → FieldType := fun k => match k with
  | 0 => .object "ScentCloth$World"
  | 1 => .array .int
  | 2 => .int
  | _ => .int
theorem nmX4 : ∀ a, a < 4 → ∀ b, b < 4 → a ≠ b → (TX4 a).2.1 ≠ (TX4 b).2.1 := by decide +kernel
theorem tyX4_ok : ∀ k, k < 4 → parseFieldDescriptor (TX4 k).2.2.1 = some (tyX4 k) := by decide +kernel
def RX5 : String := "ScentCloth$World"
def TX5 : u_T := fun k => match k with
  | 0 => ("ScentCloth$World", "library", "LScentCloth$Texts;", true)
  | 1 => ("ScentCloth$World", "kinds", "[I", true)
  | 2 => ("ScentCloth$World", "paces", "[I", true)
  | 3 => ("ScentCloth$World", "hides", "[I", true)
  | 4 => ("ScentCloth$World", "fines", "[I", true)
  | 5 => ("ScentCloth$World", "sets", "[I", true)
  | 6 => ("ScentCloth$World", "warms", "[I", true)
  | 7 => ("ScentCloth$World", "spots", "[[I", true)
  | 8 => ("ScentCloth$World", "counting", "[I", true)
  | 9 => ("ScentCloth$World", "stays", "[I", true)
  | 10 => ("ScentCloth$World", "scents", "I", false)
  | 11 => ("ScentCloth$World", "words", "I", false)
  | 12 => ("ScentCloth$World", "cloths", "I", false)
  | 13 => ("ScentCloth$World", "texts", "I", false)
  | 14 => ("ScentCloth$World", "today", "I", false)
  | _ => ("ScentCloth$World", "z", "I", false)
def tyX5 : Nat → FieldType := fun k => match k with
  | 0 => .object "ScentCloth$Texts"
  | 1 => .array .int
  | 2 => .array .int
  | 3 => .array .int
  | 4 => .array .int
  | 5 => .array .int
  | 6 => .array .int
  | 7 => .array (.array .int)
  | 8 => .array .int
  | 9 => .array .int
  | 10 => .int
  | 11 => .int
  | 12 => .int
  | 13 => .int
  | 14 => .int
  | _ => .int
theorem nmX5 : ∀ a, a < 16 → ∀ b, b < 16 → a ≠ b → (TX5 a).2.1 ≠ (TX5 b).2.1 := by decide +kernel
theorem tyX5_ok : ∀ k, k < 16 → parseFieldDescriptor (TX5 k).2.2.1 = some (tyX5 k) := by decide +kernel
def RX6 : String := "ScentCloth"
def TX6 : u_T := fun k => match k with
  | 0 => ("ScentCloth", "now", "LScentCloth$World;", true)
  | 1 => ("ScentCloth", "image", "LScentCloth$World;", true)
  | 2 => ("ScentCloth", "ahead", "LScentCloth$Thought;", true)
  | 3 => ("ScentCloth", "recalled", "LScentCloth$Thought;", true)
  | 4 => ("ScentCloth", "library", "LScentCloth$Texts;", true)
  | 5 => ("ScentCloth", "reader", "LScentCloth$Reader;", true)
  | 6 => ("ScentCloth", "sheets", "[LScentCloth$Sheet;", true)
  | 7 => ("ScentCloth", "slots", "[LScentCloth$Slot;", true)
  | 8 => ("ScentCloth", "waiting", "[I", true)
  | 9 => ("ScentCloth", "fresh", "[I", true)
  | 10 => ("ScentCloth", "course", "[I", true)
  | 11 => ("ScentCloth", "waits", "I", false)
  | _ => ("ScentCloth", "imageKept", "Z", false)
def tyX6 : Nat → FieldType := fun k => match k with
  | 0 => .object "ScentCloth$World"
  | 1 => .object "ScentCloth$World"
  | 2 => .object "ScentCloth$Thought"
  | 3 => .object "ScentCloth$Thought"
  | 4 => .object "ScentCloth$Texts"
  | 5 => .object "ScentCloth$Reader"
  | 6 => .array (.object "ScentCloth$Sheet")
  | 7 => .array (.object "ScentCloth$Slot")
  | 8 => .array .int
  | 9 => .array .int
  | 10 => .array .int
  | 11 => .int
  | _ => .boolean
theorem nmX6 : ∀ a, a < 13 → ∀ b, b < 13 → a ≠ b → (TX6 a).2.1 ≠ (TX6 b).2.1 := by decide +kernel
theorem tyX6_ok : ∀ k, k < 13 → parseFieldDescriptor (TX6 k).2.2.1 = some (tyX6 k) := by decide +kernel
def RX7 : String := "ScentClothModel"
def TX7 : u_T := fun k => match k with
  | 0 => ("ScentClothModel", "s", "[I", true)
  | 1 => ("ScentClothModel", "image", "[I", true)
  | 2 => ("ScentClothModel", "aside", "[I", true)
  | 3 => ("ScentClothModel", "hasImage", "Z", false)
  | 4 => ("ScentClothModel", "tSort", "[I", true)
  | 5 => ("ScentClothModel", "tSize", "[I", true)
  | 6 => ("ScentClothModel", "tNumber", "[I", true)
  | 7 => ("ScentClothModel", "held", "[I", true)
  | 8 => ("ScentClothModel", "heldNumber", "[I", true)
  | 9 => ("ScentClothModel", "heldWorth", "[I", true)
  | 10 => ("ScentClothModel", "heldSize", "[I", true)
  | 11 => ("ScentClothModel", "heldRow", "[I", true)
  | 12 => ("ScentClothModel", "close", "[I", true)
  | 13 => ("ScentClothModel", "written", "[I", true)
  | 14 => ("ScentClothModel", "tape", "[I", true)
  | 15 => ("ScentClothModel", "taped", "I", false)
  | 16 => ("ScentClothModel", "begin", "I", false)
  | 17 => ("ScentClothModel", "behind", "I", false)
  | 18 => ("ScentClothModel", "token", "I", false)
  | 19 => ("ScentClothModel", "number", "I", false)
  | 20 => ("ScentClothModel", "letter", "I", false)
  | 21 => ("ScentClothModel", "deep", "I", false)
  | 22 => ("ScentClothModel", "turned", "I", false)
  | 23 => ("ScentClothModel", "laid", "I", false)
  | 24 => ("ScentClothModel", "laidAt", "I", false)
  | 25 => ("ScentClothModel", "said", "I", false)
  | 26 => ("ScentClothModel", "named", "[I", true)
  | 27 => ("ScentClothModel", "pile", "[I", true)
  | 28 => ("ScentClothModel", "byDay", "[I", true)
  | 29 => ("ScentClothModel", "carried", "[I", true)
  | 30 => ("ScentClothModel", "waits", "[I", true)
  | 31 => ("ScentClothModel", "waiting", "I", false)
  | _ => ("ScentClothModel", "rowDue", "[I", true)
def tyX7 : Nat → FieldType := fun k => match k with
  | 0 => .array .int
  | 1 => .array .int
  | 2 => .array .int
  | 3 => .boolean
  | 4 => .array .int
  | 5 => .array .int
  | 6 => .array .int
  | 7 => .array .int
  | 8 => .array .int
  | 9 => .array .int
  | 10 => .array .int
  | 11 => .array .int
  | 12 => .array .int
  | 13 => .array .int
  | 14 => .array .int
  | 15 => .int
  | 16 => .int
  | 17 => .int
  | 18 => .int
  | 19 => .int
  | 20 => .int
  | 21 => .int
  | 22 => .int
  | 23 => .int
  | 24 => .int
  | 25 => .int
  | 26 => .array .int
  | 27 => .array .int
  | 28 => .array .int
  | 29 => .array .int
  | 30 => .array .int
  | 31 => .int
  | _ => .array .int
theorem nmX7 : ∀ a, a < 33 → ∀ b, b < 33 → a ≠ b → (TX7 a).2.1 ≠ (TX7 b).2.1 := by decide +kernel
theorem tyX7_ok : ∀ k, k < 33 → parseFieldDescriptor (TX7 k).2.2.1 = some (tyX7 k) := by decide +kernel
def RJ0 : String := "java/lang/String"
def RJ1 : String := "java/lang/StringLatin1"
def RJ3 : String := "jdk/internal/util/Preconditions"
def RJ6 : String := "java/lang/Integer"
def RJ7 : String := "java/util/Arrays"
abbrev cX0_init : ByteArray := prog_2_method_1_code
def yX0_init : MethodName := ⟨RX0, "<init>", "()V"⟩
abbrev cX0_takeBytes : ByteArray := prog_2_method_2_code
def yX0_takeBytes : MethodName := ⟨RX0, "takeBytes", "(I)V"⟩
abbrev cX0_readTape : ByteArray := prog_2_method_3_code
def yX0_readTape : MethodName := ⟨RX0, "readTape", "()I"⟩
abbrev cX0_fail : ByteArray := prog_2_method_4_code
def yX0_fail : MethodName := ⟨RX0, "fail", "()V"⟩
abbrev cX0_moveOn : ByteArray := prog_2_method_5_code
def yX0_moveOn : MethodName := ⟨RX0, "moveOn", "()V"⟩
abbrev cX0_isLetter : ByteArray := prog_2_method_6_code
def yX0_isLetter : MethodName := ⟨RX0, "isLetter", "(I)Z"⟩
abbrev cX0_isDigit : ByteArray := prog_2_method_7_code
def yX0_isDigit : MethodName := ⟨RX0, "isDigit", "(I)Z"⟩
abbrev cX0_keyHere : ByteArray := prog_2_method_8_code
def yX0_keyHere : MethodName := ⟨RX0, "keyHere", "()I"⟩
abbrev cX0_isHere : ByteArray := prog_2_method_9_code
def yX0_isHere : MethodName := ⟨RX0, "isHere", "(Ljava/lang/String;)Z"⟩
abbrev cX0_isSignOf : ByteArray := prog_2_method_10_code
def yX0_isSignOf : MethodName := ⟨RX0, "isSignOf", "(Ljava/lang/String;)Z"⟩
abbrev cX0_put : ByteArray := prog_2_method_11_code
def yX0_put : MethodName := ⟨RX0, "put", "(I)V"⟩
abbrev cX0_signsOf : ByteArray := prog_2_method_12_code
def yX0_signsOf : MethodName := ⟨RX0, "signsOf", "(I)Ljava/lang/String;"⟩
abbrev cX0_readLevel : ByteArray := prog_2_method_13_code
def yX0_readLevel : MethodName := ⟨RX0, "readLevel", "(III)V"⟩
abbrev cX0_readPiece : ByteArray := prog_2_method_14_code
def yX0_readPiece : MethodName := ⟨RX0, "readPiece", "(II)V"⟩
abbrev cX0_readLeaf : ByteArray := prog_2_method_15_code
def yX0_readLeaf : MethodName := ⟨RX0, "readLeaf", "()V"⟩
abbrev cX0_leafCode : ByteArray := prog_2_method_16_code
def yX0_leafCode : MethodName := ⟨RX0, "leafCode", "()I"⟩
abbrev cX0_numberHere : ByteArray := prog_2_method_17_code
def yX0_numberHere : MethodName := ⟨RX0, "numberHere", "()I"⟩
abbrev cX0_names : ByteArray := prog_2_method_18_code
def yX0_names : MethodName := ⟨RX0, "names", "()Ljava/lang/String;"⟩
abbrev cX1_init : ByteArray := prog_3_method_1_code
def yX1_init : MethodName := ⟨RX1, "<init>", "()V"⟩
abbrev cX1_becomeRow : ByteArray := prog_3_method_2_code
def yX1_becomeRow : MethodName := ⟨RX1, "becomeRow", "(II)V"⟩
abbrev cX1_becomeLike : ByteArray := prog_3_method_3_code
def yX1_becomeLike : MethodName := ⟨RX1, "becomeLike", "(LScentCloth$Sheet;)V"⟩
abbrev cX1_hasPlaces : ByteArray := prog_3_method_4_code
def yX1_hasPlaces : MethodName := ⟨RX1, "hasPlaces", "(II)Z"⟩
abbrev cX2_init : ByteArray := prog_4_method_1_code
def yX2_init : MethodName := ⟨RX2, "<init>", "()V"⟩
abbrev cX3_init : ByteArray := prog_5_method_1_code
def yX3_init : MethodName := ⟨RX3, "<init>", "()V"⟩
abbrev cX3_store : ByteArray := prog_5_method_2_code
def yX3_store : MethodName := ⟨RX3, "store", "(ILScentCloth$Reader;)V"⟩
abbrev cX3_give : ByteArray := prog_5_method_3_code
def yX3_give : MethodName := ⟨RX3, "give", "(IIII)I"⟩
abbrev cX3_named : ByteArray := prog_5_method_4_code
def yX3_named : MethodName := ⟨RX3, "named", "(IIII)I"⟩
abbrev cX3_join : ByteArray := prog_5_method_5_code
def yX3_join : MethodName := ⟨RX3, "join", "(III)I"⟩
abbrev cX4_init : ByteArray := prog_6_method_1_code
def yX4_init : MethodName := ⟨RX4, "<init>", "(LScentCloth$World;)V"⟩
abbrev cX4_begin : ByteArray := prog_6_method_2_code
def yX4_begin : MethodName := ⟨RX4, "begin", "(I)V"⟩
abbrev cX4_passDay : ByteArray := prog_6_method_3_code
def yX4_passDay : MethodName := ⟨RX4, "passDay", "()V"⟩
abbrev cX4_passDays : ByteArray := prog_6_method_4_code
def yX4_passDays : MethodName := ⟨RX4, "passDays", "(I)V"⟩
abbrev cX4_smelledBy : ByteArray := prog_6_method_5_code
def yX4_smelledBy : MethodName := ⟨RX4, "smelledBy", "(I)I"⟩
abbrev cX4_saidTo : ByteArray := prog_6_method_6_code
def yX4_saidTo : MethodName := ⟨RX4, "saidTo", "(I)I"⟩
abbrev cX4_sum : ByteArray := prog_6_method_7_code
def yX4_sum : MethodName := ⟨RX4, "sum", "()I"⟩
abbrev cX5_init : ByteArray := prog_7_method_1_code
def yX5_init : MethodName := ⟨RX5, "<init>", "(LScentCloth$Texts;)V"⟩
abbrev cX5_becomeLike : ByteArray := prog_7_method_2_code
def yX5_becomeLike : MethodName := ⟨RX5, "becomeLike", "(LScentCloth$World;)V"⟩
abbrev cX5_addScent : ByteArray := prog_7_method_3_code
def yX5_addScent : MethodName := ⟨RX5, "addScent", "(II)I"⟩
abbrev cX5_draw : ByteArray := prog_7_method_4_code
def yX5_draw : MethodName := ⟨RX5, "draw", "()I"⟩
abbrev cX5_putSpot : ByteArray := prog_7_method_5_code
def yX5_putSpot : MethodName := ⟨RX5, "putSpot", "(III)I"⟩
abbrev cX5_loss : ByteArray := prog_7_method_6_code
def yX5_loss : MethodName := ⟨RX5, "loss", "(IIII)I"⟩
abbrev cX5_fadeRow : ByteArray := prog_7_method_7_code
def yX5_fadeRow : MethodName := ⟨RX5, "fadeRow", "([III)V"⟩
abbrev cX5_passDay : ByteArray := prog_7_method_8_code
def yX5_passDay : MethodName := ⟨RX5, "passDay", "()V"⟩
abbrev cX5_isHidden : ByteArray := prog_7_method_9_code
def yX5_isHidden : MethodName := ⟨RX5, "isHidden", "([II)Z"⟩
abbrev cX5_smelled : ByteArray := prog_7_method_10_code
def yX5_smelled : MethodName := ⟨RX5, "smelled", "([II)I"⟩
abbrev cX5_said : ByteArray := prog_7_method_11_code
def yX5_said : MethodName := ⟨RX5, "said", "([II)I"⟩
abbrev cX5_sumOf : ByteArray := prog_7_method_12_code
def yX5_sumOf : MethodName := ⟨RX5, "sumOf", "([I)I"⟩
abbrev cX5_present : ByteArray := prog_7_method_13_code
def yX5_present : MethodName := ⟨RX5, "present", "([I)I"⟩
abbrev cX5_sumOfAll : ByteArray := prog_7_method_14_code
def yX5_sumOfAll : MethodName := ⟨RX5, "sumOfAll", "()I"⟩
abbrev cX5_fadings : ByteArray := prog_7_method_15_code
def yX5_fadings : MethodName := ⟨RX5, "fadings", "(II)I"⟩
abbrev cX5_leastLeft : ByteArray := prog_7_method_16_code
def yX5_leastLeft : MethodName := ⟨RX5, "leastLeft", "(IIII)I"⟩
abbrev cX6_init : ByteArray := prog_1_method_1_code
def yX6_init : MethodName := ⟨RX6, "<init>", "()V"⟩
abbrev cX6_scent : ByteArray := prog_1_method_2_code
def yX6_scent : MethodName := ⟨RX6, "scent", "(II)I"⟩
abbrev cX6_told : ByteArray := prog_1_method_3_code
def yX6_told : MethodName := ⟨RX6, "told", "(II)I"⟩
abbrev cX6_as : ByteArray := prog_1_method_4_code
def yX6_as : MethodName := ⟨RX6, "as", "(II)I"⟩
abbrev cX6_turns : ByteArray := prog_1_method_5_code
def yX6_turns : MethodName := ⟨RX6, "turns", "(II)I"⟩
abbrev cX6_pace : ByteArray := prog_1_method_6_code
def yX6_pace : MethodName := ⟨RX6, "pace", "(II)I"⟩
abbrev cX6_hide : ByteArray := prog_1_method_7_code
def yX6_hide : MethodName := ⟨RX6, "hide", "(III)I"⟩
abbrev cX6_nose : ByteArray := prog_1_method_8_code
def yX6_nose : MethodName := ⟨RX6, "nose", "(II)I"⟩
abbrev cX6_word : ByteArray := prog_1_method_9_code
def yX6_word : MethodName := ⟨RX6, "word", "(I)I"⟩
abbrev cX6_wordOf : ByteArray := prog_1_method_10_code
def yX6_wordOf : MethodName := ⟨RX6, "wordOf", "(I)I"⟩
abbrev cX6_deal : ByteArray := prog_1_method_11_code
def yX6_deal : MethodName := ⟨RX6, "deal", "(I)I"⟩
abbrev cX6_seed : ByteArray := prog_1_method_12_code
def yX6_seed : MethodName := ⟨RX6, "seed", "(I)I"⟩
abbrev cX6_cloth : ByteArray := prog_1_method_13_code
def yX6_cloth : MethodName := ⟨RX6, "cloth", "()I"⟩
abbrev cX6_strength : ByteArray := prog_1_method_14_code
def yX6_strength : MethodName := ⟨RX6, "strength", "(II)I"⟩
abbrev cX6_loses : ByteArray := prog_1_method_15_code
def yX6_loses : MethodName := ⟨RX6, "loses", "(II)I"⟩
abbrev cX6_dab : ByteArray := prog_1_method_16_code
def yX6_dab : MethodName := ⟨RX6, "dab", "(III)I"⟩
abbrev cX6_warm : ByteArray := prog_1_method_17_code
def yX6_warm : MethodName := ⟨RX6, "warm", "(II)I"⟩
abbrev cX6_touch : ByteArray := prog_1_method_18_code
def yX6_touch : MethodName := ⟨RX6, "touch", "(II)I"⟩
abbrev cX6_days : ByteArray := prog_1_method_19_code
def yX6_days : MethodName := ⟨RX6, "days", "(I)I"⟩
abbrev cX6_smells : ByteArray := prog_1_method_20_code
def yX6_smells : MethodName := ⟨RX6, "smells", "(II)I"⟩
abbrev cX6_says : ByteArray := prog_1_method_21_code
def yX6_says : MethodName := ⟨RX6, "says", "(II)I"⟩
abbrev cX6_behind : ByteArray := prog_1_method_22_code
def yX6_behind : MethodName := ⟨RX6, "behind", "(III)I"⟩
abbrev cX6_first : ByteArray := prog_1_method_23_code
def yX6_first : MethodName := ⟨RX6, "first", "(III)I"⟩
abbrev cX6_lasts : ByteArray := prog_1_method_24_code
def yX6_lasts : MethodName := ⟨RX6, "lasts", "(IIII)I"⟩
abbrev cX6_whispers : ByteArray := prog_1_method_25_code
def yX6_whispers : MethodName := ⟨RX6, "whispers", "(III)I"⟩
abbrev cX6_dumb : ByteArray := prog_1_method_26_code
def yX6_dumb : MethodName := ⟨RX6, "dumb", "(II)I"⟩
abbrev cX6_secret : ByteArray := prog_1_method_27_code
def yX6_secret : MethodName := ⟨RX6, "secret", "(II)I"⟩
abbrev cX6_least : ByteArray := prog_1_method_28_code
def yX6_least : MethodName := ⟨RX6, "least", "(IIII)I"⟩
abbrev cX6_letter : ByteArray := prog_1_method_29_code
def yX6_letter : MethodName := ⟨RX6, "letter", "(IIII)I"⟩
abbrev cX6_dated : ByteArray := prog_1_method_30_code
def yX6_dated : MethodName := ⟨RX6, "dated", "(IIII)I"⟩
abbrev cX6_price : ByteArray := prog_1_method_31_code
def yX6_price : MethodName := ⟨RX6, "price", "(I)I"⟩
abbrev cX6_lie : ByteArray := prog_1_method_32_code
def yX6_lie : MethodName := ⟨RX6, "lie", "(I)I"⟩
abbrev cX6_feed : ByteArray := prog_1_method_33_code
def yX6_feed : MethodName := ⟨RX6, "feed", "(III)I"⟩
abbrev cX6_trim : ByteArray := prog_1_method_34_code
def yX6_trim : MethodName := ⟨RX6, "trim", "(I)I"⟩
abbrev cX6_text : ByteArray := prog_1_method_35_code
def yX6_text : MethodName := ⟨RX6, "text", "()I"⟩
abbrev cX6_textTold : ByteArray := prog_1_method_36_code
def yX6_textTold : MethodName := ⟨RX6, "textTold", "(II)I"⟩
abbrev cX6_why : ByteArray := prog_1_method_37_code
def yX6_why : MethodName := ⟨RX6, "why", "(I)I"⟩
abbrev cX6_sheet : ByteArray := prog_1_method_38_code
def yX6_sheet : MethodName := ⟨RX6, "sheet", "(III)I"⟩
abbrev cX6_mark : ByteArray := prog_1_method_39_code
def yX6_mark : MethodName := ⟨RX6, "mark", "(III)I"⟩
abbrev cX6_pour : ByteArray := prog_1_method_40_code
def yX6_pour : MethodName := ⟨RX6, "pour", "(II)I"⟩
abbrev cX6_copy : ByteArray := prog_1_method_41_code
def yX6_copy : MethodName := ⟨RX6, "copy", "(IIIII)I"⟩
abbrev cX6_lay : ByteArray := prog_1_method_42_code
def yX6_lay : MethodName := ⟨RX6, "lay", "(III)I"⟩
abbrev cX6_ask : ByteArray := prog_1_method_43_code
def yX6_ask : MethodName := ⟨RX6, "ask", "(II)I"⟩
abbrev cX6_item : ByteArray := prog_1_method_44_code
def yX6_item : MethodName := ⟨RX6, "item", "(II)I"⟩
abbrev cX6_rest : ByteArray := prog_1_method_45_code
def yX6_rest : MethodName := ⟨RX6, "rest", "(II)I"⟩
abbrev cX6_tell : ByteArray := prog_1_method_46_code
def yX6_tell : MethodName := ⟨RX6, "tell", "(I)I"⟩
abbrev cX6_check : ByteArray := prog_1_method_47_code
def yX6_check : MethodName := ⟨RX6, "check", "(II)I"⟩
abbrev cX6_keep : ByteArray := prog_1_method_48_code
def yX6_keep : MethodName := ⟨RX6, "keep", "()I"⟩
abbrev cX6_back : ByteArray := prog_1_method_49_code
def yX6_back : MethodName := ⟨RX6, "back", "()I"⟩
abbrev cX6_count : ByteArray := prog_1_method_50_code
def yX6_count : MethodName := ⟨RX6, "count", "(I)I"⟩
abbrev cX6_within : ByteArray := prog_1_method_51_code
def yX6_within : MethodName := ⟨RX6, "within", "(III)Z"⟩
abbrev cX6_held : ByteArray := prog_1_method_52_code
def yX6_held : MethodName := ⟨RX6, "held", "(I)I"⟩
abbrev cX6_isKind : ByteArray := prog_1_method_53_code
def yX6_isKind : MethodName := ⟨RX6, "isKind", "(I)Z"⟩
abbrev cX6_isNose : ByteArray := prog_1_method_54_code
def yX6_isNose : MethodName := ⟨RX6, "isNose", "(I)Z"⟩
abbrev cX6_isSheet : ByteArray := prog_1_method_55_code
def yX6_isSheet : MethodName := ⟨RX6, "isSheet", "(I)Z"⟩
abbrev cX6_isSlot : ByteArray := prog_1_method_56_code
def yX6_isSlot : MethodName := ⟨RX6, "isSlot", "(I)Z"⟩
abbrev cX6_isScent : ByteArray := prog_1_method_57_code
def yX6_isScent : MethodName := ⟨RX6, "isScent", "(I)Z"⟩
abbrev cX6_isCloth : ByteArray := prog_1_method_58_code
def yX6_isCloth : MethodName := ⟨RX6, "isCloth", "(I)Z"⟩
abbrev cX6_isWord : ByteArray := prog_1_method_59_code
def yX6_isWord : MethodName := ⟨RX6, "isWord", "(I)Z"⟩
abbrev cX6_isSpot : ByteArray := prog_1_method_60_code
def yX6_isSpot : MethodName := ⟨RX6, "isSpot", "(II)Z"⟩
abbrev cX6_isUnder : ByteArray := prog_1_method_61_code
def yX6_isUnder : MethodName := ⟨RX6, "isUnder", "(II)Z"⟩
abbrev cX6_worth : ByteArray := prog_1_method_62_code
def yX6_worth : MethodName := ⟨RX6, "worth", "(II)I"⟩
abbrev cX6_wordOr99 : ByteArray := prog_1_method_63_code
def yX6_wordOr99 : MethodName := ⟨RX6, "wordOr99", "(I)I"⟩
abbrev cX6_followCourse : ByteArray := prog_1_method_64_code
def yX6_followCourse : MethodName := ⟨RX6, "followCourse", "(II)V"⟩
abbrev cX6_differences : ByteArray := prog_1_method_65_code
def yX6_differences : MethodName := ⟨RX6, "differences", "(LScentCloth$Sheet;I)I"⟩
abbrev cX6_rightAhead : ByteArray := prog_1_method_66_code
def yX6_rightAhead : MethodName := ⟨RX6, "rightAhead", "(II)I"⟩
abbrev cX7_init : ByteArray := prog_9_method_1_code
def yX7_init : MethodName := ⟨RX7, "<init>", "()V"⟩
abbrev cX7_isIn : ByteArray := prog_9_method_2_code
def yX7_isIn : MethodName := ⟨RX7, "isIn", "(JJJ)Z"⟩
abbrev cX7_orNone : ByteArray := prog_9_method_3_code
def yX7_orNone : MethodName := ⟨RX7, "orNone", "(I)I"⟩
abbrev cX7_within : ByteArray := prog_9_method_4_code
def yX7_within : MethodName := ⟨RX7, "within", "(II)I"⟩
abbrev cX7_becomes : ByteArray := prog_9_method_5_code
def yX7_becomes : MethodName := ⟨RX7, "becomes", "(II)I"⟩
abbrev cX7_textAt : ByteArray := prog_9_method_6_code
def yX7_textAt : MethodName := ⟨RX7, "textAt", "(I)I"⟩
abbrev cX7_of : ByteArray := prog_9_method_7_code
def yX7_of : MethodName := ⟨RX7, "of", "(II)I"⟩
abbrev cX7_on : ByteArray := prog_9_method_8_code
def yX7_on : MethodName := ⟨RX7, "on", "(II)I"⟩
abbrev cX7_isScent : ByteArray := prog_9_method_9_code
def yX7_isScent : MethodName := ⟨RX7, "isScent", "(I)Z"⟩
abbrev cX7_isCloth : ByteArray := prog_9_method_10_code
def yX7_isCloth : MethodName := ⟨RX7, "isCloth", "(I)Z"⟩
abbrev cX7_isNose : ByteArray := prog_9_method_11_code
def yX7_isNose : MethodName := ⟨RX7, "isNose", "(I)Z"⟩
abbrev cX7_isSaid : ByteArray := prog_9_method_12_code
def yX7_isSaid : MethodName := ⟨RX7, "isSaid", "(I)Z"⟩
abbrev cX7_isText : ByteArray := prog_9_method_13_code
def yX7_isText : MethodName := ⟨RX7, "isText", "(I)Z"⟩
abbrev cX7_drawn : ByteArray := prog_9_method_14_code
def yX7_drawn : MethodName := ⟨RX7, "drawn", "()I"⟩
abbrev cX7_comes : ByteArray := prog_9_method_15_code
def yX7_comes : MethodName := ⟨RX7, "comes", "(II)V"⟩
abbrev cX7_scent : ByteArray := prog_9_method_16_code
def yX7_scent : MethodName := ⟨RX7, "scent", "(II)I"⟩
abbrev cX7_losesBy : ByteArray := prog_9_method_17_code
def yX7_losesBy : MethodName := ⟨RX7, "losesBy", "(IIII)I"⟩
abbrev cX7_losesOn : ByteArray := prog_9_method_18_code
def yX7_losesOn : MethodName := ⟨RX7, "losesOn", "(II)I"⟩
abbrev cX7_worth : ByteArray := prog_9_method_19_code
def yX7_worth : MethodName := ⟨RX7, "worth", "(I)I"⟩
abbrev cX7_told : ByteArray := prog_9_method_20_code
def yX7_told : MethodName := ⟨RX7, "told", "(II)I"⟩
abbrev cX7_isOf : ByteArray := prog_9_method_21_code
def yX7_isOf : MethodName := ⟨RX7, "isOf", "(II)Z"⟩
abbrev cX7_as : ByteArray := prog_9_method_22_code
def yX7_as : MethodName := ⟨RX7, "as", "(II)I"⟩
abbrev cX7_turns : ByteArray := prog_9_method_23_code
def yX7_turns : MethodName := ⟨RX7, "turns", "(II)I"⟩
abbrev cX7_pace : ByteArray := prog_9_method_24_code
def yX7_pace : MethodName := ⟨RX7, "pace", "(II)I"⟩
abbrev cX7_hide : ByteArray := prog_9_method_25_code
def yX7_hide : MethodName := ⟨RX7, "hide", "(III)I"⟩
abbrev cX7_nose : ByteArray := prog_9_method_26_code
def yX7_nose : MethodName := ⟨RX7, "nose", "(II)I"⟩
abbrev cX7_word : ByteArray := prog_9_method_27_code
def yX7_word : MethodName := ⟨RX7, "word", "(I)I"⟩
abbrev cX7_wordOf : ByteArray := prog_9_method_28_code
def yX7_wordOf : MethodName := ⟨RX7, "wordOf", "(I)I"⟩
abbrev cX7_deal : ByteArray := prog_9_method_29_code
def yX7_deal : MethodName := ⟨RX7, "deal", "(I)I"⟩
abbrev cX7_seed : ByteArray := prog_9_method_30_code
def yX7_seed : MethodName := ⟨RX7, "seed", "(I)I"⟩
abbrev cX7_cloth : ByteArray := prog_9_method_31_code
def yX7_cloth : MethodName := ⟨RX7, "cloth", "()I"⟩
abbrev cX7_strength : ByteArray := prog_9_method_32_code
def yX7_strength : MethodName := ⟨RX7, "strength", "(II)I"⟩
abbrev cX7_loses : ByteArray := prog_9_method_33_code
def yX7_loses : MethodName := ⟨RX7, "loses", "(II)I"⟩
abbrev cX7_dab : ByteArray := prog_9_method_34_code
def yX7_dab : MethodName := ⟨RX7, "dab", "(III)I"⟩
abbrev cX7_warm : ByteArray := prog_9_method_35_code
def yX7_warm : MethodName := ⟨RX7, "warm", "(II)I"⟩
abbrev cX7_touch : ByteArray := prog_9_method_36_code
def yX7_touch : MethodName := ⟨RX7, "touch", "(II)I"⟩
abbrev cX7_goesOn : ByteArray := prog_9_method_37_code
def yX7_goesOn : MethodName := ⟨RX7, "goesOn", "()V"⟩
abbrev cX7_days : ByteArray := prog_9_method_38_code
def yX7_days : MethodName := ⟨RX7, "days", "(I)I"⟩
abbrev cX7_smeltOn : ByteArray := prog_9_method_39_code
def yX7_smeltOn : MethodName := ⟨RX7, "smeltOn", "(II)I"⟩
abbrev cX7_saidBy : ByteArray := prog_9_method_40_code
def yX7_saidBy : MethodName := ⟨RX7, "saidBy", "(II)I"⟩
abbrev cX7_smells : ByteArray := prog_9_method_41_code
def yX7_smells : MethodName := ⟨RX7, "smells", "(II)I"⟩
abbrev cX7_says : ByteArray := prog_9_method_42_code
def yX7_says : MethodName := ⟨RX7, "says", "(II)I"⟩
abbrev cX7_laysBy : ByteArray := prog_9_method_43_code
def yX7_laysBy : MethodName := ⟨RX7, "laysBy", "()V"⟩
abbrev cX7_laysBack : ByteArray := prog_9_method_44_code
def yX7_laysBack : MethodName := ⟨RX7, "laysBack", "()V"⟩
abbrev cX7_goesOnMany : ByteArray := prog_9_method_45_code
def yX7_goesOnMany : MethodName := ⟨RX7, "goesOnMany", "(I)V"⟩
abbrev cX7_behind : ByteArray := prog_9_method_46_code
def yX7_behind : MethodName := ⟨RX7, "behind", "(III)I"⟩
abbrev cX7_first : ByteArray := prog_9_method_47_code
def yX7_first : MethodName := ⟨RX7, "first", "(III)I"⟩
abbrev cX7_lasts : ByteArray := prog_9_method_48_code
def yX7_lasts : MethodName := ⟨RX7, "lasts", "(IIII)I"⟩
abbrev cX7_ones : ByteArray := prog_9_method_49_code
def yX7_ones : MethodName := ⟨RX7, "ones", "(I)I"⟩
abbrev cX7_whispers : ByteArray := prog_9_method_50_code
def yX7_whispers : MethodName := ⟨RX7, "whispers", "(III)I"⟩
abbrev cX7_dumb : ByteArray := prog_9_method_51_code
def yX7_dumb : MethodName := ⟨RX7, "dumb", "(II)I"⟩
abbrev cX7_secret : ByteArray := prog_9_method_52_code
def yX7_secret : MethodName := ⟨RX7, "secret", "(II)I"⟩
abbrev cX7_leftOf : ByteArray := prog_9_method_53_code
def yX7_leftOf : MethodName := ⟨RX7, "leftOf", "(IIII)I"⟩
abbrev cX7_leastOf : ByteArray := prog_9_method_54_code
def yX7_leastOf : MethodName := ⟨RX7, "leastOf", "(IIII)I"⟩
abbrev cX7_least : ByteArray := prog_9_method_55_code
def yX7_least : MethodName := ⟨RX7, "least", "(IIII)I"⟩
abbrev cX7_letter : ByteArray := prog_9_method_56_code
def yX7_letter : MethodName := ⟨RX7, "letter", "(IIII)I"⟩
abbrev cX7_allOn : ByteArray := prog_9_method_57_code
def yX7_allOn : MethodName := ⟨RX7, "allOn", "(I)I"⟩
abbrev cX7_price : ByteArray := prog_9_method_58_code
def yX7_price : MethodName := ⟨RX7, "price", "(I)I"⟩
abbrev cX7_saidOr : ByteArray := prog_9_method_59_code
def yX7_saidOr : MethodName := ⟨RX7, "saidOr", "(I)I"⟩
abbrev cX7_lie : ByteArray := prog_9_method_60_code
def yX7_lie : MethodName := ⟨RX7, "lie", "(I)I"⟩
abbrev cX7_feed : ByteArray := prog_9_method_61_code
def yX7_feed : MethodName := ⟨RX7, "feed", "(III)I"⟩
abbrev cX7_trim : ByteArray := prog_9_method_62_code
def yX7_trim : MethodName := ⟨RX7, "trim", "(I)I"⟩
abbrev cX7_isLetter : ByteArray := prog_9_method_63_code
def yX7_isLetter : MethodName := ⟨RX7, "isLetter", "(I)Z"⟩
abbrev cX7_isDigit : ByteArray := prog_9_method_64_code
def yX7_isDigit : MethodName := ⟨RX7, "isDigit", "(I)Z"⟩
abbrev cX7_nextToken : ByteArray := prog_9_method_65_code
def yX7_nextToken : MethodName := ⟨RX7, "nextToken", "()V"⟩
abbrev cX7_isSign : ByteArray := prog_9_method_66_code
def yX7_isSign : MethodName := ⟨RX7, "isSign", "(I)Z"⟩
abbrev cX7_isWordAt : ByteArray := prog_9_method_67_code
def yX7_isWordAt : MethodName := ⟨RX7, "isWordAt", "(IIII)Z"⟩
abbrev cX7_isLong : ByteArray := prog_9_method_68_code
def yX7_isLong : MethodName := ⟨RX7, "isLong", "(IIIIII)Z"⟩
abbrev cX7_key : ByteArray := prog_9_method_69_code
def yX7_key : MethodName := ⟨RX7, "key", "()I"⟩
abbrev cX7_isName : ByteArray := prog_9_method_70_code
def yX7_isName : MethodName := ⟨RX7, "isName", "(II)Z"⟩
abbrev cX7_step : ByteArray := prog_9_method_71_code
def yX7_step : MethodName := ⟨RX7, "step", "(II)V"⟩
abbrev cX7_either : ByteArray := prog_9_method_72_code
def yX7_either : MethodName := ⟨RX7, "either", "(I)Z"⟩
abbrev cX7_both : ByteArray := prog_9_method_73_code
def yX7_both : MethodName := ⟨RX7, "both", "(I)Z"⟩
abbrev cX7_test : ByteArray := prog_9_method_74_code
def yX7_test : MethodName := ⟨RX7, "test", "(I)Z"⟩
abbrev cX7_sum : ByteArray := prog_9_method_75_code
def yX7_sum : MethodName := ⟨RX7, "sum", "(I)Z"⟩
abbrev cX7_term : ByteArray := prog_9_method_76_code
def yX7_term : MethodName := ⟨RX7, "term", "(I)Z"⟩
abbrev cX7_part0 : ByteArray := prog_9_method_77_code
def yX7_part0 : MethodName := ⟨RX7, "part0", "(I)Z"⟩
abbrev cX7_parse : ByteArray := prog_9_method_78_code
def yX7_parse : MethodName := ⟨RX7, "parse", "()I"⟩
abbrev cX7_text : ByteArray := prog_9_method_79_code
def yX7_text : MethodName := ⟨RX7, "text", "()I"⟩
abbrev cX7_textTold : ByteArray := prog_9_method_80_code
def yX7_textTold : MethodName := ⟨RX7, "textTold", "(II)I"⟩
abbrev cX7_counts : ByteArray := prog_9_method_81_code
def yX7_counts : MethodName := ⟨RX7, "counts", "(I)I"⟩
abbrev cX7_why : ByteArray := prog_9_method_82_code
def yX7_why : MethodName := ⟨RX7, "why", "(I)I"⟩
abbrev cX7_joined : ByteArray := prog_9_method_83_code
def yX7_joined : MethodName := ⟨RX7, "joined", "(III)I"⟩
abbrev cX7_worked : ByteArray := prog_9_method_84_code
def yX7_worked : MethodName := ⟨RX7, "worked", "(I)I"⟩
abbrev cX7_isSheet : ByteArray := prog_9_method_85_code
def yX7_isSheet : MethodName := ⟨RX7, "isSheet", "(I)Z"⟩
abbrev cX7_sheet : ByteArray := prog_9_method_86_code
def yX7_sheet : MethodName := ⟨RX7, "sheet", "(III)I"⟩
abbrev cX7_mark : ByteArray := prog_9_method_87_code
def yX7_mark : MethodName := ⟨RX7, "mark", "(III)I"⟩
abbrev cX7_pour : ByteArray := prog_9_method_88_code
def yX7_pour : MethodName := ⟨RX7, "pour", "(II)I"⟩
abbrev cX7_dated : ByteArray := prog_9_method_89_code
def yX7_dated : MethodName := ⟨RX7, "dated", "(IIII)I"⟩
abbrev cX7_copy : ByteArray := prog_9_method_90_code
def yX7_copy : MethodName := ⟨RX7, "copy", "(IIIII)I"⟩
abbrev cX7_isSlot : ByteArray := prog_9_method_91_code
def yX7_isSlot : MethodName := ⟨RX7, "isSlot", "(I)Z"⟩
abbrev cX7_lay : ByteArray := prog_9_method_92_code
def yX7_lay : MethodName := ⟨RX7, "lay", "(III)I"⟩
abbrev cX7_ask : ByteArray := prog_9_method_93_code
def yX7_ask : MethodName := ⟨RX7, "ask", "(II)I"⟩
abbrev cX7_item : ByteArray := prog_9_method_94_code
def yX7_item : MethodName := ⟨RX7, "item", "(II)I"⟩
abbrev cX7_rest : ByteArray := prog_9_method_95_code
def yX7_rest : MethodName := ⟨RX7, "rest", "(II)I"⟩
abbrev cX7_tell : ByteArray := prog_9_method_96_code
def yX7_tell : MethodName := ⟨RX7, "tell", "(I)I"⟩
abbrev cX7_setAside : ByteArray := prog_9_method_97_code
def yX7_setAside : MethodName := ⟨RX7, "setAside", "([I[I)V"⟩
abbrev cX7_check : ByteArray := prog_9_method_98_code
def yX7_check : MethodName := ⟨RX7, "check", "(II)I"⟩
abbrev cX7_keep : ByteArray := prog_9_method_99_code
def yX7_keep : MethodName := ⟨RX7, "keep", "()I"⟩
abbrev cX7_back : ByteArray := prog_9_method_100_code
def yX7_back : MethodName := ⟨RX7, "back", "()I"⟩
abbrev cX7_allStrengths : ByteArray := prog_9_method_101_code
def yX7_allStrengths : MethodName := ⟨RX7, "allStrengths", "()I"⟩
abbrev cX7_count : ByteArray := prog_9_method_102_code
def yX7_count : MethodName := ⟨RX7, "count", "(I)I"⟩
abbrev cJ6_bitCount_0f7a4 : ByteArray := prog_11_method_49_code
def yJ6_bitCount_0f7a4 : MethodName := ⟨RJ6, "bitCount", "(I)I"⟩
abbrev cJ0_length_8abf5 : ByteArray := prog_13_method_54_code
def yJ0_length_8abf5 : MethodName := ⟨RJ0, "length", "()I"⟩
abbrev cJ0_charAt_5068e : ByteArray := prog_13_method_56_code
def yJ0_charAt_5068e : MethodName := ⟨RJ0, "charAt", "(I)C"⟩
abbrev cJ0_indexOf_0f7a4 : ByteArray := prog_13_method_79_code
def yJ0_indexOf_0f7a4 : MethodName := ⟨RJ0, "indexOf", "(I)I"⟩
abbrev cJ0_indexOf_7cf53 : ByteArray := prog_13_method_80_code
def yJ0_indexOf_7cf53 : MethodName := ⟨RJ0, "indexOf", "(II)I"⟩
abbrev cJ0_coder_7d493 : ByteArray := prog_13_method_152_code
def yJ0_coder_7d493 : MethodName := ⟨RJ0, "coder", "()B"⟩
abbrev cJ0_isLatin1_aae02 : ByteArray := prog_13_method_154_code
def yJ0_isLatin1_aae02 : MethodName := ⟨RJ0, "isLatin1", "()Z"⟩
abbrev cJ0_checkIndex_df160 : ByteArray := prog_13_method_155_code
def yJ0_checkIndex_df160 : MethodName := ⟨RJ0, "checkIndex", "(II)V"⟩
abbrev cJ1_charAt_3b067 : ByteArray := prog_14_method_2_code
def yJ1_charAt_3b067 : MethodName := ⟨RJ1, "charAt", "([BI)C"⟩
abbrev cJ1_canEncode_9a6ad : ByteArray := prog_14_method_4_code
def yJ1_canEncode_9a6ad : MethodName := ⟨RJ1, "canEncode", "(I)Z"⟩
abbrev cJ1_indexOf_4cfef : ByteArray := prog_14_method_22_code
def yJ1_indexOf_4cfef : MethodName := ⟨RJ1, "indexOf", "([BIII)I"⟩
abbrev cJ1_indexOfChar_4cfef : ByteArray := prog_14_method_23_code
def yJ1_indexOfChar_4cfef : MethodName := ⟨RJ1, "indexOfChar", "([BIII)I"⟩
abbrev cJ7_fill_53178 : ByteArray := prog_17_method_103_code
def yJ7_fill_53178 : MethodName := ⟨RJ7, "fill", "([II)V"⟩
abbrev cJ3_checkIndex_8e157 : ByteArray := prog_18_method_11_code
def yJ3_checkIndex_8e157 : MethodName := ⟨RJ3, "checkIndex", "(IILjava/util/function/BiFunction;)I"⟩
abbrev sk_cl : List vw_C := [(RX0, TX0, 9), (RX1, TX1, 3), (RX2, TX2, 5), (RX3, TX3, 5), (RX4, TX4, 4), (RX5, TX5, 16), (RX6, TX6, 13), (RX7, TX7, 33)]
end
section
/-! THE UNIFORM WORLD: after the two constructors the heap's shape never changes; object o lies at sk_ad g o, and its ints are M o. -/
abbrev sk_M : Type := Nat → Nat → Int32
def sk_uA (M : sk_M) (o : Nat) (f : Nat → Int32) : sk_M := fun a => if a = o then f else M a
def sk_u (M : sk_M) (o j : Nat) (v : Int32) : sk_M := sk_uA M o (upd (M o) j v)
def sk_tab : List (Nat × Nat) := [(16, 13), (2, 4), (3, 5), (0, 60), (0, 9), (0, 125), (14, 4), (0, 9), (14, 4), (0, 9), (15, 16), (0, 9), (0, 9), (0, 9), (0, 4), (0, 12), (0, 6), (1, 6), (0, 3), (0, 1000), (0, 9), (0, 9), (0, 9), (0, 9), (0, 9), (0, 9), (15, 16), (0, 9), (0, 9), (0, 9), (0, 4), (0, 12), (0, 6), (1, 6), (0, 3), (0, 1000), (0, 9), (0, 9), (0, 9), (0, 9), (0, 9), (0, 9), (13, 5), (1, 14), (0, 14), (0, 14), (0, 14), (0, 96), (0, 96), (0, 96), (0, 96), (0, 96), (0, 96), (0, 96), (0, 96), (0, 96), (0, 96), (0, 96), (0, 96), (0, 96), (0, 96), (0, 96), (10, 9), (0, 96), (0, 96), (11, 3), (0, 24), (11, 3), (0, 24), (11, 3), (0, 24), (11, 3), (0, 24), (12, 5), (11, 3), (0, 24), (12, 5), (11, 3), (0, 24), (12, 5), (11, 3), (0, 24), (12, 5), (11, 3), (0, 24), (12, 5), (11, 3), (0, 24), (17, 33), (0, 3109), (0, 3109), (0, 3109), (0, 4), (0, 4), (0, 96), (0, 5), (0, 5), (0, 5), (0, 5), (0, 120), (0, 109), (0, 9), (0, 96), (0, 128), (0, 100), (0, 130), (0, 24), (0, 60), (0, 60)]
def sk_kd (o : Nat) : Nat × Nat := sk_tab.getD o (9, 0)
def sk_mf : List Nat := [89, 90, 91, 0, 92, 93, 94, 95, 96, 97, 98, 99, 100, 101, 102, 0, 0, 0, 0, 0, 0, 0, 0, 0, 0, 0, 103, 104, 105, 106, 107, 0, 108]
def sk_rf (o j : Nat) : Nat := if o = 0 then [10, 26, 6, 8, 42, 62, 1, 2, 3, 4, 5].getD j 0 else if o = 1 then 65 + 2 * j else if o = 2 then 73 + 3 * j else if o = 6 then (if j = 0 then 10 else 7) else if o = 8 then (if j = 0 then 26 else 9) else if o = 10 then (if j = 0 then 42 else 10 + j) else if o = 26 then (if j = 0 then 42 else 26 + j) else if o = 17 then 20 + j else if o = 33 then 36 + j else if o = 42 then 43 + j else if o = 43 then 48 + j else if o = 62 then 63 + j else if o = 88 then sk_mf.getD j 0 else o + 1
def sk_isR (ci j : Nat) : Bool := if ci = 7 then !(j == 3 || (decide (15 ≤ j) && decide (j ≤ 25)) || j == 31) else decide (j < [2, 1, 1, 5, 2, 10, 11].getD ci 0)
abbrev sk_G : Type := (Nat → Nat) × va_G × (Nat → ClassId) × (Nat → Nat) × (Nat → Nat) × Nat
def sk_ad (g : sk_G) : Nat → Nat := g.1
def sk_D (g : sk_G) : va_G := g.2.1
def sk_ac (g : sk_G) : Nat → ClassId := g.2.2.1
def sk_aK (g : sk_G) : Nat → Nat := g.2.2.2.1
def sk_aV (g : sk_G) : Nat → Nat := g.2.2.2.2.1
def sk_ka (g : sk_G) : Nat := g.2.2.2.2.2
def sk_fv (g : sk_G) (o ci : Nat) (r : Nat → Int32) (j : Nat) : Value := if sk_isR ci j = true then Value.ref (sk_ad g (sk_rf o j)) else Value.int (r j)
def sk_en (g : sk_G) (o : Nat) (r : Nat → Int32) : va_E :=
  if (sk_kd o).1 = 0 then .inl (sk_ac g 0, (sk_kd o).2, .inl r)
  else if (sk_kd o).1 < 10 then .inl (sk_ac g (sk_kd o).1, (sk_kd o).2, .inr (.inr (.inr (.inr (fun i => some (sk_ad g (sk_rf o i)))))))
  else .inr ((sk_kd o).1 - 10, (List.range (sk_kd o).2).map (sk_fv g o ((sk_kd o).1 - 10) r))
def sk_ws (g : sk_G) (M : sk_M) : va_W := (List.range 109).map (fun o => (sk_ad g o, sk_en g o (M o)))
def sk_P (g : sk_G) (M : sk_M) (H : Heap) : Prop := va_P (sk_D g) sk_cl (sk_ws g M) H
def sk_A (g : sk_G) : Nat → Prop := fun q => ∃ o : Nat, o < 109 ∧ q = sk_ad g o
def sk_ty (g : sk_G) : List (ClassId × FieldType) := [(sk_ac g 0, .int), (sk_ac g 1, .array .int), (sk_ac g 2, .object RX1), (sk_ac g 3, .object RX2)]
/-- what is known of the tables, and that the objects are apart -/
def sk_K (g : sk_G) (U : State) : Prop := va_K (sk_D g) sk_cl (sk_ty g) U ∧ ∀ i j : Nat, i < 109 → j < 109 → sk_ad g i = sk_ad g j → i = j
/-- the string constants, and the statics: nobody writes them -/
def sk_sx : List (Nat × String) := [(61, "fade"), (67, "price"), (69, "lie"), (83, "|"), (85, "&"), (87, "<=>"), (89, "+-"), (91, "*/"), (108, "!"), (110, "("), (112, ")"), (127, "spw"), (129, "tn"), (131, "dn")]
def sk_sl : List Nat := [4, 5, 3, 1, 1, 3, 2, 2, 1, 1, 1, 3, 2, 2]
def sk_sb : List (List Int32) := [[102, 97, 100, 101], [112, 114, 105, 99, 101], [108, 105, 101], [124], [38], [60, 61, 62], [43, 45], [42, 47], [33], [40], [41], [115, 112, 119], [116, 110], [100, 110]]
def sk_ab : List Int32 := [-1, 0, 0, 1, 2, 0]
def sk_E (g : sk_G) (U : State) (H : Heap) : Prop :=
  va_Z "ScentCloth" "KIND_ABOVE" "[I" (.ref (sk_ka g)) (sk_A g) U H ∧ va_T .int (sk_ka g) 6 (fun j => .int (sk_ab.getD j 0)) (sk_A g) U H ∧
  va_Z "java/lang/String" "COMPACT_STRINGS" "Z" (.int 1) (sk_A g) U H ∧ va_Zq "jdk/internal/util/Preconditions" "SIOOBE_FORMATTER" "Ljava/util/function/BiFunction;" (sk_A g) U H ∧
  vk_S 14 sk_sl sk_sb (sk_aK g) (sk_aV g) (sk_A g) U H ∧ ∀ i : Nat, i < 14 → vk_R RX0 (sk_sx.getD i (0, "")).1 (sk_sx.getD i (0, "")).2 (sk_aK g i) U
theorem sk_ws_at (g : sk_G) (M : sk_M) {o : Nat} (h : o < 109) : (sk_ws g M)[o]? = some (sk_ad g o, sk_en g o (M o)) := by
  simp [sk_ws, h]
theorem sk_uA_self (M : sk_M) (o : Nat) (f : Nat → Int32) : sk_uA M o f o = f := if_pos rfl
theorem sk_uA_ne (M : sk_M) {o a : Nat} (f : Nat → Int32) (h : a ≠ o) : sk_uA M o f a = M a := if_neg h
theorem sk_ws_set (g : sk_G) (M : sk_M) {o : Nat} (h : o < 109) (f : Nat → Int32) : (sk_ws g M).set o (sk_ad g o, sk_en g o f) = sk_ws g (sk_uA M o f) := by
  apply List.ext_getElem?
  intro k
  by_cases hk : k < 109
  · by_cases e : k = o
    · subst e
      rw [sk_ws_at g _ hk, sk_uA_self, List.getElem?_set_self (by simpa [sk_ws] using hk)]
    · rw [sk_ws_at g _ hk, sk_uA_ne _ _ e, List.getElem?_set_ne (Ne.symm e), sk_ws_at g _ hk]
  · rw [List.getElem?_eq_none (by simpa [sk_ws] using hk), List.getElem?_eq_none (by simpa [sk_ws] using hk)]
theorem sk_en_i {g : sk_G} {o n : Nat} {r : Nat → Int32} (h : sk_kd o = (0, n)) : sk_en g o r = .inl (sk_ac g 0, n, .inl r) := by
  simp [sk_en, h]
theorem sk_en_q {g : sk_G} {o k n : Nat} {r : Nat → Int32} (h : sk_kd o = (k + 1, n)) (hk : k < 9) : sk_en g o r = .inl (sk_ac g (k + 1), n, .inr (.inr (.inr (.inr (fun i => some (sk_ad g (sk_rf o i))))))) := by
  simp [sk_en, h]
  omega
theorem sk_en_o {g : sk_G} {o ci n : Nat} {r : Nat → Int32} (h : sk_kd o = (10 + ci, n)) : sk_en g o r = .inr (ci, (List.range n).map (sk_fv g o ci r)) := by
  simp [sk_en, h]
theorem sk_lt {o k n : Nat} (h : sk_kd o = (k, n)) (hk : k ≠ 9) : o < 109 := by
  rcases Nat.lt_or_ge o 109 with q | q
  · exact q
  · exfalso
    apply hk
    have : sk_kd o = (9, 0) := by
      unfold sk_kd
      rw [List.getD_eq_getElem?_getD, List.getElem?_eq_none (by show sk_tab.length ≤ o; exact q)]
      rfl
    rw [this] at h
    exact (Prod.mk.inj h).1.symm
theorem sk_Dd {g : sk_G} {U : State} (h : sk_K g U) (M : sk_M) : va_D (sk_A g) (sk_ws g M) := by
  have key : ∀ (k : Nat) (q : Nat × va_E), (sk_ws g M)[k]? = some q → k < 109 ∧ q.1 = sk_ad g k := by
    intro k q hk
    by_cases hl : k < 109
    · rw [sk_ws_at g M hl] at hk
      cases hk
      exact ⟨hl, rfl⟩
    · rw [List.getElem?_eq_none (by simpa [sk_ws] using hl)] at hk
      cases hk
  refine ⟨fun i j p q hi hj e => ?_, fun k q hk => ?_⟩
  · obtain ⟨h1, h2⟩ := key i p hi
    obtain ⟨h3, h4⟩ := key j q hj
    exact h.2 i j h1 h3 (h2.symm.trans (e.trans h4))
  · obtain ⟨h1, h2⟩ := key k q hk
    exact ⟨k, h1, h2⟩
theorem sk_K.moved {g : sk_G} {u U : State} (hvm : u.vm.Alike U.vm) (h : sk_K g u) : sk_K g U := ⟨va_K.moved hvm h.1, h.2⟩
theorem sk_E.next {g : sk_G} {s U : State} {H : Heap} {locs : List Loc} (h : sk_E g s s.heap) (hS : va_S (sk_A g) s.heap H locs) (hU : U.heap = H) (hW : s.WarmedH U.vm) : sk_E g U U.heap := by
  obtain ⟨h1, h2, h3, h4, h5, h6⟩ := h
  have hq : ∀ a : Nat, a < s.heap.size → ¬ sk_A g a → U.heap[a]? = s.heap[a]? := fun a z1 z2 => by rw [hU]; exact hS.2.1 a z1 z2
  exact ⟨(va_Z.moved hW.alike h1).kept hq, (va_T.moved hW.alike h2).kept hq, (va_Z.moved hW.alike h3).kept hq, (va_Zq.moved hW.alike h4).kept hq, (vk_S.moved hW.alike h5).kept hq, fun i hi => (h6 i hi).warm hW⟩
theorem sk_E.same {g : sk_G} {u U : State} (hvm : U.vm = u.vm) (hh : U.heap = u.heap) (h : sk_E g u u.heap) : sk_E g U U.heap := by
  obtain ⟨h1, h2, h3, h4, h5, h6⟩ := h
  have ha : u.vm.Alike U.vm := by rw [hvm]; exact Vm.Alike.refl _
  rw [hh]
  exact ⟨va_Z.moved ha h1, va_T.moved ha h2, va_Z.moved ha h3, va_Zq.moved ha h4, vk_S.moved ha h5, fun i hi => (h6 i hi).same hvm⟩
-- the words that a method takes along
def sk_W : List Cond := lw_tbl.filter goodWord
theorem sk_m {i : Nat} {w : Cond} (h : lw_tbl[i]? = some w) (hg : goodWord w = true) : w ∈ sk_W := List.mem_filter.mpr ⟨List.mem_of_getElem? h, hg⟩
theorem sk_good {w0 : Cond} (h0 : w0 ∈ sk_W) : GoodIn sk_W (w0 :: sk_W) := by
  have key : ∀ w ∈ sk_W, w ∈ sk_W ∧ ((w.onTables && w.keeps) = true ∨ ∃ ty, w = .arrayClass ty) := fun w hw => ⟨hw, good_of_word (List.mem_filter.mp hw).2⟩
  intro w hw
  rcases List.mem_cons.mp hw with rfl | hw
  · exact key _ h0
  · exact key _ hw
def sk_rm (d : Nat) : Room := { frames := d, cells := 0, slots := 0, locals := 40 * d }
/-- what stays the same over a method's body -/
def sk_C (g : sk_G) (p : Program) (s : State) (m : MethodId) (args : Array Value) (meth : Method) (c : Code) (cc : ByteArray) (nL : Nat) (own : String) (ret : Option FieldType) : Prop :=
  p.tables.exec = Jvm.exec ∧ c.code = cc ∧ c.maxLocals = nL ∧ s.vm.findClass own = some m.cls ∧ (∀ w ∈ sk_W, w.before args s = true) ∧ sk_K g s ∧ sk_E g s s.heap ∧ meth.sig.returnType = ret ∧ meth.locks = false
def sk_Pc (g : sk_G) (M : sk_M) (U : State) : Prop := sk_P g M U.heap ∧ sk_K g U ∧ sk_E g U U.heap
abbrev sk_QI (g : sk_G) (r : Int32) (M' : sk_M) : Array Value → State → Outcome → State → Prop := va_Qi (fun r' (M'' : sk_M) => r' = r ∧ M'' = M') (fun u t => sk_P g u t.heap) (sk_A g)
abbrev sk_QV (g : sk_G) (M' : sk_M) : Array Value → State → Outcome → State → Prop := va_Qv (fun (M'' : sk_M) => M'' = M') (fun u t => sk_P g u t.heap) (sk_A g)
abbrev sk_QS (g : sk_G) (i : Nat) (M' : sk_M) : Array Value → State → Outcome → State → Prop := va_Qr (fun (M'' : sk_M) => M'' = M') (fun u a t => a = sk_aK g i ∧ sk_P g u t.heap) (sk_A g)
abbrev sk_Met (g : sk_G) (l : Launch) (y : MethodName) (cy : ByteArray) (ny : Nat) (ret : Option FieldType) (d : Nat) (av : List Value) (M : sk_M) (Qc : Array Value → State → Outcome → State → Prop) : Prop :=
  Met l y (Cond.code y cy ny ret :: sk_W) (sk_rm d) (va_Pc av (sk_Pc g M)) Qc 0 0 (sk_A g)
def sk_MI (g : sk_G) (l : Launch) (y : MethodName) (cy : ByteArray) (ny : Nat) (ret : Option FieldType) (d : Nat) (av : List Value) (M : sk_M) (r : Int32) (M' : sk_M) : Prop := sk_Met g l y cy ny ret d av M (sk_QI g r M')
def sk_MV (g : sk_G) (l : Launch) (y : MethodName) (cy : ByteArray) (ny : Nat) (ret : Option FieldType) (d : Nat) (av : List Value) (M : sk_M) (M' : sk_M) : Prop := sk_Met g l y cy ny ret d av M (sk_QV g M')
def sk_MS (g : sk_G) (l : Launch) (y : MethodName) (cy : ByteArray) (ny : Nat) (ret : Option FieldType) (d : Nat) (av : List Value) (M : sk_M) (i : Nat) (M' : sk_M) : Prop := sk_Met g l y cy ny ret d av M (sk_QS g i M')
theorem sk_start {g : sk_G} {l : Launch} {y : MethodName} {cy : ByteArray} {ny : Nat} {ret : Option FieldType} {d : Nat} {av : List Value} {M : sk_M} {Qc : Array Value → State → Outcome → State → Prop}
    (hy : plainName y.cls = true) (hn : (lg_sl av).length ≤ ny)
    (body : ∀ (p : Program) (e : Env) (s : State) (m : MethodId) (below : List Frame) (meth : Method) (c : Code), sk_C g p s m av.toArray meth c cy ny y.cls ret → ∀ ls : Array Slot, lv_has ls ny (lv_args 0 av) → sk_P g M s.heap → va_S (sk_A g) s.heap s.heap [] →
      W p l e (sk_rm d) s m av.toArray below meth c s.heap [] 0 0 (MQ below Qc av.toArray s 0 0 (sk_A g)) (F0 m 0 ls [])) : sk_Met g l y cy ny ret d av M Qc := by
  refine Met.ofW (cc := cy) (maxL := ny) (ret := ret) hy rfl ?_
  intro p e s m args below meth c s₁ B hml hv
  obtain ⟨rfl, hP, hK, hE⟩ := hv
  have hts := atoms_spec (ws := Cond.code y cy ny ret :: sk_W) B.pre
  have hl := lv_entry av (n := ny) hn
  rw [lg_entry_eq]
  exact body p e s m below meth c ⟨B.exec, B.bytes, hml, findClass_of_methodNamed B.named, fun w hw => hts w (List.mem_cons_of_mem _ hw), hK, hE, B.returns, B.notSynchronized⟩ _ hl hP va_S.rf
theorem sk_blind {g : sk_G} {M : sk_M} {av : List Value} : FrameBlind (va_Pc av (sk_Pc g M)) := by
  intro a U fr mk q
  obtain ⟨q0, qP, qK, qE⟩ := q
  exact ⟨q0, qP, sk_K.moved (u := U) (U := U.calling fr mk a) (Vm.Alike.refl U.vm) qK, sk_E.same (u := U) (U := U.calling fr mk a) rfl rfl qE⟩
-- checks, names, binds
def sk_in (i : Int32) (n : Nat) : Bool := !(decide (i < 0)) && decide (i.toNatClampNeg < n)
theorem sk_in_vp {i : Int32} {n : Nat} (h : sk_in i n = true) : vp_in i n := by
  simp only [sk_in, Bool.and_eq_true, Bool.not_eq_true', decide_eq_false_iff_not, decide_eq_true_eq] at h
  intro q
  rcases q with q | q
  · exact h.1 q
  · omega
theorem sk_in_lt {i : Int32} {n : Nat} (h : sk_in i n = true) : i.toNatClampNeg < n := by
  simp only [sk_in, Bool.and_eq_true, decide_eq_true_eq] at h
  exact h.2
def sk_chk {α : Type} (b : Bool) (x : Option α) : Option α := if b = true then x else none
theorem sk_chkE {α : Type} {b : Bool} {x : Option α} {r : α} (h : sk_chk b x = some r) : b = true ∧ x = some r := by
  unfold sk_chk at h
  by_cases q : b = true
  · rw [if_pos q] at h
    exact ⟨q, h⟩
  · rw [if_neg q] at h
    cases h
def sk_let {α β : Type} (x : α) (f : α → β) : β := f x
theorem sk_letU {α β : Type} {x y : α} {f : α → β} {r : β} (h : sk_let x f = r) (e : y = x) : f y = r := by rw [e]; exact h
theorem sk_pos {α : Type} {c : Prop} [Decidable c] {a b r : α} (h : (if c then a else b) = r) (hc : c) : a = r := by rw [if_pos hc] at h; exact h
theorem sk_neg {α : Type} {c : Prop} [Decidable c] {a b r : α} (h : (if c then a else b) = r) (hc : ¬ c) : b = r := by rw [if_neg hc] at h; exact h
def sk_b1 {α β : Type} (x : Option α) (f : α → Option β) : Option β := x.bind f
def sk_b2 {α α2 β : Type} (x : Option (α × α2)) (f : α → α2 → Option β) : Option β := x.bind (fun u => f u.1 u.2)
def sk_b3 {α α2 α3 β : Type} (x : Option (α × α2 × α3)) (f : α → α2 → α3 → Option β) : Option β := x.bind (fun u => f u.1 u.2.1 u.2.2)
def sk_b4 {α α2 α3 α4 β : Type} (x : Option (α × α2 × α3 × α4)) (f : α → α2 → α3 → α4 → Option β) : Option β := x.bind (fun u => f u.1 u.2.1 u.2.2.1 u.2.2.2)
def sk_b5 {α α2 α3 α4 α5 β : Type} (x : Option (α × α2 × α3 × α4 × α5)) (f : α → α2 → α3 → α4 → α5 → Option β) : Option β := x.bind (fun u => f u.1 u.2.1 u.2.2.1 u.2.2.2.1 u.2.2.2.2)
theorem sk_b1E {α β : Type} {x : Option α} {f : α → Option β} {r : β} (h : sk_b1 x f = some r) : ∃ a, x = some a ∧ f a = some r := by
  cases x with
  | none => cases h
  | some a => exact ⟨a, rfl, h⟩
theorem sk_b2E {α α2 β : Type} {x : Option (α × α2)} {f : α → α2 → Option β} {r : β} (h : sk_b2 x f = some r) : ∃ a b, x = some (a, b) ∧ f a b = some r := by
  cases x with
  | none => cases h
  | some a => exact ⟨a.1, a.2, rfl, h⟩
theorem sk_b3E {α α2 α3 β : Type} {x : Option (α × α2 × α3)} {f : α → α2 → α3 → Option β} {r : β} (h : sk_b3 x f = some r) : ∃ a b c, x = some (a, b, c) ∧ f a b c = some r := by
  cases x with
  | none => cases h
  | some a => exact ⟨a.1, a.2.1, a.2.2, rfl, h⟩
theorem sk_b4E {α α2 α3 α4 β : Type} {x : Option (α × α2 × α3 × α4)} {f : α → α2 → α3 → α4 → Option β} {r : β} (h : sk_b4 x f = some r) : ∃ a b c d, x = some (a, b, c, d) ∧ f a b c d = some r := by
  cases x with
  | none => cases h
  | some a => exact ⟨a.1, a.2.1, a.2.2.1, a.2.2.2, rfl, h⟩
theorem sk_b5E {α α2 α3 α4 α5 β : Type} {x : Option (α × α2 × α3 × α4 × α5)} {f : α → α2 → α3 → α4 → α5 → Option β} {r : β} (h : sk_b5 x f = some r) : ∃ a b c d e, x = some (a, b, c, d, e) ∧ f a b c d e = some r := by
  cases x with
  | none => cases h
  | some a => exact ⟨a.1, a.2.1, a.2.2.1, a.2.2.2.1, a.2.2.2.2, rfl, h⟩
/-- a loop's end: its method has returned, or it goes on behind the loop -/
def sk_s {ρ α : Type} (x : Option (ρ ⊕ α)) (f : α → Option ρ) : Option ρ := match x with
  | none => none
  | some (.inl r) => some r
  | some (.inr a) => f a
theorem sk_sE {ρ α : Type} {x : Option (ρ ⊕ α)} {f : α → Option ρ} {r : ρ} (h : sk_s x f = some r) : x = some (.inl r) ∨ ∃ a, x = some (.inr a) ∧ f a = some r := by
  cases x with
  | none => cases h
  | some u =>
    cases u with
    | inl q => exact Or.inl (by rw [Option.some.inj (show some q = some r from h)])
    | inr a => exact Or.inr ⟨a, rfl, h⟩
def sk_FU : Nat := 4000
end
section
section SKR
variable {p : Program} {l : Launch} {e : Env} {R : Room} {s : State} {m : MethodId} {args : Array Value} {below : List Frame} {meth : Method} {c : Code} {H : Heap} {locs : List Loc} {Q : State → Prop}
variable {g : sk_G} {cc : ByteArray} {nL : Nat} {own : String} {ret : Option FieldType} {pc : Nat} {ls : Array Slot} {rest : List Value} {M : sk_M} {cells slots : Nat}
theorem sk_iald (C : sk_C g p s m args meth c cc nL own ret) (hM : sk_P g M H) {o n : Nat} (ho : sk_kd o = (0, n)) {i : Int32} (hin : sk_in i n = true) (hdg : decode cc pc = .ok (.iaload, 1))
    (kk : W p l e R s m args below meth c H locs cells slots Q (F0 m (pc + 1) ls (.int (M o i.toNatClampNeg) :: rest))) : W p l e R s m args below meth c H locs cells slots Q (F0 m pc ls (.int i :: .ref (sk_ad g o) :: rest)) := by
  obtain ⟨hx, hb, hml, hown, hts, hK, hE, hr, hlocks⟩ := C
  exact va_iald (D := sk_D g) (cl := sk_cl) (tys := sk_ty g) (f := M o) (cA := sk_ac g 0) hx hb hK.1 hM o 0 (by rw [sk_ws_at g M (sk_lt ho (by decide)), sk_en_i ho]) rfl (sk_in_vp hin) hdg kk
theorem sk_alen (C : sk_C g p s m args meth c cc nL own ret) (hM : sk_P g M H) {o n : Nat} (ho : sk_kd o = (0, n)) {v : Int32} (hv : Int32.ofNat n = v) (hdg : decode cc pc = .ok (.arraylength, 1))
    (kk : W p l e R s m args below meth c H locs cells slots Q (F0 m (pc + 1) ls (.int v :: rest))) : W p l e R s m args below meth c H locs cells slots Q (F0 m pc ls (.ref (sk_ad g o) :: rest)) := by
  obtain ⟨hx, hb, hml, hown, hts, hK, hE, hr, hlocks⟩ := C
  exact va_alen (D := sk_D g) (cl := sk_cl) (tys := sk_ty g) (x := (n, .inl (M o))) (cA := sk_ac g 0) (ty := .int) hx hb hK.1 hM o 0 (by rw [sk_ws_at g M (sk_lt ho (by decide)), sk_en_i ho]) rfl hv hdg kk
theorem sk_iast (C : sk_C g p s m args meth c cc nL own ret) (hM : sk_P g M H) (hS : va_S (sk_A g) s.heap H locs) {o n : Nat} (ho : sk_kd o = (0, n)) {i x : Int32} (hin : sk_in i n = true) (hdg : decode cc pc = .ok (.iastore, 1))
    (kk : ∀ (M1 : sk_M), M1 = sk_u M o i.toNatClampNeg x → ∀ (H1 : Heap) (locs1 : List Loc), sk_P g M1 H1 → va_S (sk_A g) s.heap H1 locs1 → W p l e R s m args below meth c H1 locs1 cells slots Q (F0 m (pc + 1) ls rest)) : W p l e R s m args below meth c H locs cells slots Q (F0 m pc ls (.int x :: .int i :: .ref (sk_ad g o) :: rest)) := by
  obtain ⟨hx, hb, hml, hown, hts, hK, hE, hr, hlocks⟩ := C
  have hlt := sk_lt ho (by decide)
  refine va_iast (D := sk_D g) (cl := sk_cl) (tys := sk_ty g) (f := M o) (cA := sk_ac g 0) hx hb hK.1 hM (sk_Dd hK M) hS o 0 (by rw [sk_ws_at g M hlt, sk_en_i ho]) rfl (sk_in_vp hin) hdg (fun H1 locs1 hP1 _ hS1 => ?_)
  refine kk _ rfl H1 locs1 ?_ hS1
  rw [← sk_en_i (g := g) ho, sk_ws_set g M hlt] at hP1
  exact hP1
theorem sk_aald (C : sk_C g p s m args meth c cc nL own ret) (hM : sk_P g M H) {o k n t : Nat} (ho : sk_kd o = (k + 1, n)) (hk : k < 3) {i : Int32} (hin : sk_in i n = true) (ht : sk_rf o i.toNatClampNeg = t) (hdg : decode cc pc = .ok (.aaload, 1))
    (kk : W p l e R s m args below meth c H locs cells slots Q (F0 m (pc + 1) ls (.ref (sk_ad g t) :: rest))) : W p l e R s m args below meth c H locs cells slots Q (F0 m pc ls (.int i :: .ref (sk_ad g o) :: rest)) := by
  obtain ⟨hx, hb, hml, hown, hts, hK, hE, hr, hlocks⟩ := C
  subst ht
  have hlt := sk_in_lt hin
  have ha : (sk_ws g M)[o]? = some (sk_ad g o, .inl (sk_ac g (k + 1), n, .inr (.inr (.inr (.inr (fun i => some (sk_ad g (sk_rf o i)))))))) := by rw [sk_ws_at g M (sk_lt ho (by omega)), sk_en_q ho (by omega)]
  obtain ⟨ty, hty, hisr⟩ : ∃ ty : FieldType, (sk_ty g)[k + 1]? = some (sk_ac g (k + 1), ty) ∧ ty.isReference = true := by
    match k, hk with
    | 0, _ => exact ⟨_, rfl, rfl⟩
    | 1, _ => exact ⟨_, rfl, rfl⟩
    | 2, _ => exact ⟨_, rfl, rfl⟩
  have hcell := hM o _ ha
  refine W.aald (v := .ref (sk_ad g (sk_rf o i.toNatClampNeg))) (ty := ty) hx hb hcell ((hK.1.2 (k + 1) _ hty).1 n (fun j => va_rf (some (sk_ad g (sk_rf o j))))) hisr (fun q => by cases q) ?_ ?_ rfl rfl hdg kk
  · show ¬ (i < 0 ∨ (arrV _ _ _).slots.size ≤ _)
    rw [arrV_size]
    exact sk_in_vp hin
  · show (arrV _ _ _).slots[_]? = _
    rw [arrV_read _ _ hlt]
    rfl
theorem sk_hin (ci : Nat) (q : vw_C) (h : sk_cl[ci]? = some q) : ∀ w ∈ u_ws q.1 q.2.1 q.2.2, w ∈ sk_W := by
  match ci, h with
  | 0, h => cases h; decide +kernel
  | 1, h => cases h; decide +kernel
  | 2, h => cases h; decide +kernel
  | 3, h => cases h; decide +kernel
  | 4, h => cases h; decide +kernel
  | 5, h => cases h; decide +kernel
  | 6, h => cases h; decide +kernel
  | 7, h => cases h; decide +kernel
  | k + 8, h => simp [sk_cl] at h
theorem sk_fs_at {o ci n j : Nat} {r : Nat → Int32} (hj : j < n) : ((List.range n).map (sk_fv g o ci r))[j]? = some (sk_fv g o ci r j) := by simp [hj]
theorem sk_getI (C : sk_C g p s m args meth c cc nL own ret) (hM : sk_P g M H) {o ci n j idx : Nat} {cn : String} {T : u_T} (ho : sk_kd o = (10 + ci, n)) (hc : sk_cl[ci]? = some (cn, T, n)) (hj : j < n) (hi : sk_isR ci j = false)
    (hlk : Cond.fieldLink own idx (T j).1 (T j).2.1 (T j).2.2.1 ∈ sk_W) (hdg : decode cc pc = .ok (.getfield idx, 3))
    (kk : W p l e R s m args below meth c H locs cells slots Q (F0 m (pc + 3) ls (.int (M o j) :: rest))) : W p l e R s m args below meth c H locs cells slots Q (F0 m pc ls (.ref (sk_ad g o) :: rest)) := by
  obtain ⟨hx, hb, hml, hown, hts, hK, hE, hr, hlocks⟩ := C
  have hlt : o < 109 := sk_lt ho (by omega)
  refine va_get (D := sk_D g) (cl := sk_cl) (tys := sk_ty g) (ci := ci) (v := .int (M o j)) (C := cn) (T := T) (N := n) hx hb hts (sk_hin ci _ hc) hown hK.1 hM o (by rw [sk_ws_at g M hlt, sk_en_o ho]) hc j hj (hts _ hlk) (fun _ h9 => h9) ?_ hdg kk
  rw [sk_fs_at hj, sk_fv, if_neg (by rw [hi]; decide)]
theorem sk_getR (C : sk_C g p s m args meth c cc nL own ret) (hM : sk_P g M H) {o ci n j idx t : Nat} {cn : String} {T : u_T} (ho : sk_kd o = (10 + ci, n)) (hc : sk_cl[ci]? = some (cn, T, n)) (hj : j < n) (hi : sk_isR ci j = true)
    (ht : sk_rf o j = t) (hlk : Cond.fieldLink own idx (T j).1 (T j).2.1 (T j).2.2.1 ∈ sk_W) (hdg : decode cc pc = .ok (.getfield idx, 3))
    (kk : W p l e R s m args below meth c H locs cells slots Q (F0 m (pc + 3) ls (.ref (sk_ad g t) :: rest))) : W p l e R s m args below meth c H locs cells slots Q (F0 m pc ls (.ref (sk_ad g o) :: rest)) := by
  obtain ⟨hx, hb, hml, hown, hts, hK, hE, hr, hlocks⟩ := C
  subst ht
  have hlt : o < 109 := sk_lt ho (by omega)
  refine va_get (D := sk_D g) (cl := sk_cl) (tys := sk_ty g) (ci := ci) (v := .ref (sk_ad g (sk_rf o j))) (C := cn) (T := T) (N := n) hx hb hts (sk_hin ci _ hc) hown hK.1 hM o (by rw [sk_ws_at g M hlt, sk_en_o ho]) hc j hj (hts _ hlk) (fun _ h9 => h9) ?_ hdg kk
  rw [sk_fs_at hj, sk_fv, if_pos hi]
theorem sk_fs_set {o ci n j : Nat} {r : Nat → Int32} (hj : j < n) (hi : sk_isR ci j = false) (v : Int32) : ((List.range n).map (sk_fv g o ci r)).set j (.int v) = (List.range n).map (sk_fv g o ci (upd r j v)) := by
  apply List.ext_getElem?
  intro k
  by_cases hk : k < n
  · by_cases e : k = j
    · subst e
      rw [List.getElem?_set_self (by simpa using hk), sk_fs_at hk, sk_fv, if_neg (by rw [hi]; decide), upd, if_pos rfl]
    · rw [List.getElem?_set_ne (Ne.symm e), sk_fs_at hk, sk_fs_at hk]
      simp only [sk_fv, upd, if_neg e]
  · rw [List.getElem?_eq_none (by simpa using hk), List.getElem?_eq_none (by simpa using hk)]
theorem sk_tyok (ci : Nat) (q : vw_C) (h : sk_cl[ci]? = some q) : (∃ ty0 : Nat → FieldType, ∀ k, k < q.2.2 → parseFieldDescriptor (q.2.1 k).2.2.1 = some (ty0 k)) ∧ (∀ a, a < q.2.2 → ∀ b, b < q.2.2 → a ≠ b → (q.2.1 a).2.1 ≠ (q.2.1 b).2.1) := by
  match ci, h with
  | 0, h => cases h; exact ⟨⟨_, tyX0_ok⟩, nmX0⟩
  | 1, h => cases h; exact ⟨⟨_, tyX1_ok⟩, nmX1⟩
  | 2, h => cases h; exact ⟨⟨_, tyX2_ok⟩, nmX2⟩
  | 3, h => cases h; exact ⟨⟨_, tyX3_ok⟩, nmX3⟩
  | 4, h => cases h; exact ⟨⟨_, tyX4_ok⟩, nmX4⟩
  | 5, h => cases h; exact ⟨⟨_, tyX5_ok⟩, nmX5⟩
  | 6, h => cases h; exact ⟨⟨_, tyX6_ok⟩, nmX6⟩
  | 7, h => cases h; exact ⟨⟨_, tyX7_ok⟩, nmX7⟩
  | k + 8, h => simp [sk_cl] at h
theorem sk_put (C : sk_C g p s m args meth c cc nL own ret) (hM : sk_P g M H) (hS : va_S (sk_A g) s.heap H locs) {o ci n j idx : Nat} {cn : String} {T : u_T} {x : Int32} (ho : sk_kd o = (10 + ci, n)) (hc : sk_cl[ci]? = some (cn, T, n)) (hj : j < n) (hi : sk_isR ci j = false) (hf : (T j).2.2.2 = false)
    {ty : FieldType} (hty : parseFieldDescriptor (T j).2.2.1 = some ty) (hnx : narrow ty (.int x) = .int x) (hfx : fits ty (.int x) = true)
    (hlk : Cond.fieldLink own idx (T j).1 (T j).2.1 (T j).2.2.1 ∈ sk_W) (hdg : decode cc pc = .ok (.putfield idx, 3))
    (kk : ∀ (M1 : sk_M), M1 = sk_u M o j x → ∀ (H1 : Heap) (locs1 : List Loc), sk_P g M1 H1 → va_S (sk_A g) s.heap H1 locs1 → W p l e R s m args below meth c H1 locs1 cells slots Q (F0 m (pc + 3) ls rest)) : W p l e R s m args below meth c H locs cells slots Q (F0 m pc ls (.int x :: .ref (sk_ad g o) :: rest)) := by
  obtain ⟨hx, hb, hml, hown, hts, hK, hE, hr, hlocks⟩ := C
  have hlt : o < 109 := sk_lt ho (by omega)
  obtain ⟨⟨ty0, hty0⟩, hnm⟩ := sk_tyok ci _ hc
  refine va_put (D := sk_D g) (cl := sk_cl) (tys := sk_ty g) (ci := ci) (v := .int x) (ty := ty) (C := cn) (T := T) (N := n) hx hb hts (sk_hin ci _ hc) ty0 hty0 hnm hown hK.1 hM (sk_Dd hK M) hS o (by rw [sk_ws_at g M hlt, sk_en_o ho]) hc j hj (hts _ hlk) (fun _ h9 => h9) hf hty hnx hfx (by simpa using hj) hdg (fun H1 locs1 hP1 _ hS1 => ?_)
  refine kk _ rfl H1 locs1 ?_ hS1
  rw [sk_fs_set hj hi, ← sk_en_o (g := g) ho, sk_ws_set g M hlt] at hP1
  exact hP1
theorem sk_putI (C : sk_C g p s m args meth c cc nL own ret) (hM : sk_P g M H) (hS : va_S (sk_A g) s.heap H locs) {o ci n j idx : Nat} {cn : String} {T : u_T} {x : Int32} (ho : sk_kd o = (10 + ci, n)) (hc : sk_cl[ci]? = some (cn, T, n)) (hj : j < n) (hi : sk_isR ci j = false) (hf : (T j).2.2.2 = false) (hty : parseFieldDescriptor (T j).2.2.1 = some .int)
    (hlk : Cond.fieldLink own idx (T j).1 (T j).2.1 (T j).2.2.1 ∈ sk_W) (hdg : decode cc pc = .ok (.putfield idx, 3))
    (kk : ∀ (M1 : sk_M), M1 = sk_u M o j x → ∀ (H1 : Heap) (locs1 : List Loc), sk_P g M1 H1 → va_S (sk_A g) s.heap H1 locs1 → W p l e R s m args below meth c H1 locs1 cells slots Q (F0 m (pc + 3) ls rest)) : W p l e R s m args below meth c H locs cells slots Q (F0 m pc ls (.int x :: .ref (sk_ad g o) :: rest)) :=
  sk_put C hM hS ho hc hj hi hf hty rfl rfl hlk hdg kk
-- returns
theorem sk_iret {d : Nat} {rr : Int32} {MM : sk_M} (C : sk_C g p s m args meth c cc nL own (some .int)) (hM : sk_P g M H) (hS : va_S (sk_A g) s.heap H locs) {v : Int32} (hv : v = rr ∧ M = MM) (hdg : decode cc pc = .ok (.ireturn, 1)) :
    W p l e (sk_rm d) s m args below meth c H locs 0 0 (MQ below (sk_QI g rr MM) args s 0 0 (sk_A g)) (F0 m pc ls [.int v]) := by
  obtain ⟨hx, hb, hml, hown, hts, hK, hE, hr, hlocks⟩ := C
  exact W.iret (v := v) hx hb hr (fun t ht hW => ⟨⟨v, M, rfl, hv, by show sk_P g M t.heap; rw [ht]; exact hM⟩, hS.F ht⟩) hS.2.2 hdg
theorem sk_zret {d : Nat} {rr : Int32} {MM : sk_M} {ty : FieldType} (C : sk_C g p s m args meth c cc nL own (some ty)) (hM : sk_P g M H) (hS : va_S (sk_A g) s.heap H locs) {v : Int32} (hn : narrow ty (.int v) = .int v) (hv : v = rr ∧ M = MM) (hdg : decode cc pc = .ok (.ireturn, 1)) :
    W p l e (sk_rm d) s m args below meth c H locs 0 0 (MQ below (sk_QI g rr MM) args s 0 0 (sk_A g)) (F0 m pc ls [.int v]) := by
  obtain ⟨hx, hb, hml, hown, hts, hK, hE, hr, hlocks⟩ := C
  exact W.zret (v := v) hx hb hr hn (fun t ht hW => ⟨⟨v, M, rfl, hv, by show sk_P g M t.heap; rw [ht]; exact hM⟩, hS.F ht⟩) hS.2.2 hdg
theorem sk_vret {d : Nat} {MM : sk_M} (C : sk_C g p s m args meth c cc nL own none) (hM : sk_P g M H) (hS : va_S (sk_A g) s.heap H locs) (hv : M = MM) (hdg : decode cc pc = .ok (.return_, 1)) :
    W p l e (sk_rm d) s m args below meth c H locs 0 0 (MQ below (sk_QV g MM) args s 0 0 (sk_A g)) (F0 m pc ls []) := by
  obtain ⟨hx, hb, hml, hown, hts, hK, hE, hr, hlocks⟩ := C
  exact W.vret hx hb hr (fun t ht hW => ⟨⟨M, rfl, hv, by show sk_P g M t.heap; rw [ht]; exact hM⟩, hS.F ht⟩) hS.2.2 hdg
theorem sk_sret {d : Nat} {i ii : Nat} {MM : sk_M} {cn : String} (C : sk_C g p s m args meth c cc nL own (some (.object cn))) (hM : sk_P g M H) (hS : va_S (sk_A g) s.heap H locs) (hv : i = ii ∧ M = MM) (hdg : decode cc pc = .ok (.areturn, 1)) :
    W p l e (sk_rm d) s m args below meth c H locs 0 0 (MQ below (sk_QS g ii MM) args s 0 0 (sk_A g)) (F0 m pc ls [.ref (sk_aK g i)]) := by
  obtain ⟨hx, hb, hml, hown, hts, hK, hE, hr, hlocks⟩ := C
  exact W.aret (v := .ref (sk_aK g i)) hx hb hr (Or.inl ⟨_, rfl⟩) (Or.inr ⟨_, rfl⟩) (fun t ht hW => ⟨⟨M, sk_aK g i, rfl, hv.2, by rw [hv.1], by show sk_P g M t.heap; rw [ht]; exact hM⟩, hS.F ht⟩) hS.2.2 hdg
-- calls
theorem sk_pre (C : sk_C g p s m args meth c cc nL own ret) (hM : sk_P g M H) (hS : va_S (sk_A g) s.heap H locs) (av : List Value) : ∀ U : State, U.heap = H → s.WarmedH U.vm → va_Pc av (sk_Pc g M) av.toArray U := by
  obtain ⟨hx, hb, hml, hown, hts, hK, hE, hr, hlocks⟩ := C
  exact fun U hU hW => ⟨rfl, by rw [hU]; exact hM, sk_K.moved hW.alike hK, sk_E.next hE hS hU hW⟩
def sk_yV (y : MethodName) (cy : ByteArray) (ny : Nat) (ry : Option FieldType) (n : Nat) : Prop := (y.cls ≠ "java/lang/invoke/MethodHandle" ∧ y.cls ≠ "java/lang/invoke/VarHandle" ∧ (parseMethodDescriptor y.desc).map (fun d => d.parameters.length) = some n) ∧ ny ≤ 21 ∧ Cond.code y cy ny ry ∈ sk_W ∧ Cond.instanceMethod y ∈ sk_W ∧ Cond.selects y.cls y y ∈ sk_W ∧ Cond.initialized y.cls ∈ sk_W
def sk_yS (y : MethodName) (cy : ByteArray) (ny : Nat) (ry : Option FieldType) (n : Nat) : Prop := (y.cls ≠ "java/lang/invoke/MethodHandle" ∧ y.cls ≠ "java/lang/invoke/VarHandle" ∧ (parseMethodDescriptor y.desc).map (fun d => d.parameters.length) = some n) ∧ ny ≤ 21 ∧ Cond.code y cy ny ry ∈ sk_W ∧ Cond.static y ∈ sk_W ∧ Cond.initialized y.cls ∈ sk_W
theorem sk_roomV {d dy ny : Nat} (hd : dy < d) (hn : ny ≤ 21) : (sk_rm dy).frames + 1 ≤ (sk_rm d).frames ∧ 8 + (ny + 11) + (sk_rm dy).locals ≤ (sk_rm d).locals := ⟨hd, by show 8 + (ny + 11) + 40 * dy ≤ 40 * d; omega⟩
/-- any virtual call: what it runs -/
theorem sk_runV {y : MethodName} {cy : ByteArray} {ny n dy d idx b : Nat} {ry : Option FieldType} {As : List Value} {st : List Value} {Qc : Array Value → State → Outcome → State → Prop} (C : sk_C g p s m args meth c cc nL own ret) (hc : sk_Met g l y cy ny ry dy (.ref b :: As) M Qc) (hy : sk_yV y cy ny ry n) (hlk : Cond.methodLink own idx y ∈ sk_W)
    (hrc : ∃ cell : Cell, H[b]? = some cell ∧ cell.vm.isStatics = false ∧ s.vm.findClass y.cls = some cell.cls) (hd : dy < d) (hM : sk_P g M H) (hS : va_S (sk_A g) s.heap H locs) (hsz : ls.size = nL) (hn : As.length = n) (hst : st = As.reverse ++ .ref b :: rest) (hr8 : (rest.map fun v => v.category).sum ≤ 8) (hdg : decode cc pc = .ok (.invokevirtual idx, 3)) :
    va_Run p l e (sk_rm d) s m args below meth c H locs 0 0 0 0 (F0 m pc ls st) rest (Qc (Value.ref b :: As).toArray) (sk_A g) := by
  have hp := sk_pre C hM hS (.ref b :: As)
  obtain ⟨hx, hb, hml, hown, hts, hK, hE, hr, hlocks⟩ := C
  obtain ⟨hd9, hny, hcd, him, hse, hini⟩ := hy
  have hG : GoodIn sk_W (wsV own idx y.cls y (Cond.code y cy ny ry :: sk_W)) := by
    have key : ∀ w ∈ sk_W, w ∈ sk_W ∧ ((w.onTables && w.keeps) = true ∨ ∃ ty, w = .arrayClass ty) := fun w hw => ⟨hw, good_of_word (List.mem_filter.mp hw).2⟩
    intro w hw
    rcases List.mem_append.mp hw with h | h
    · simp only [List.mem_cons, List.not_mem_nil, or_false] at h
      rcases h with rfl | rfl | rfl | rfl
      · exact key _ hlk
      · exact key _ him
      · exact key _ hse
      · exact key _ hini
    · exact sk_good hcd w h
  exact va_runV (As := As) (rest := rest) ⟨hx, hb, hml, hown, hts⟩ hc (cwV n hts hG rfl rfl rfl ⟨rfl, hd9⟩ (sk_roomV hd hny)) ⟨sk_blind, hrc, hp⟩ rfl hn hsz hst (lv_room hr8) hdg ⟨Nat.le_refl _, Nat.le_refl _⟩
theorem sk_runS {y : MethodName} {cy : ByteArray} {ny n dy d idx : Nat} {ry : Option FieldType} {As : List Value} {st : List Value} {Qc : Array Value → State → Outcome → State → Prop} (C : sk_C g p s m args meth c cc nL own ret) (hc : sk_Met g l y cy ny ry dy As M Qc) (hy : sk_yS y cy ny ry n) (hlk : Cond.methodLink own idx y ∈ sk_W)
    (hd : dy < d) (hM : sk_P g M H) (hS : va_S (sk_A g) s.heap H locs) (hsz : ls.size = nL) (hn : As.length = n) (hst : st = As.reverse ++ rest) (hr8 : (rest.map fun v => v.category).sum ≤ 8) (hdg : decode cc pc = .ok (.invokestatic idx, 3)) :
    va_Run p l e (sk_rm d) s m args below meth c H locs 0 0 0 0 (F0 m pc ls st) rest (Qc As.toArray) (sk_A g) := by
  have hp := sk_pre C hM hS As
  obtain ⟨hx, hb, hml, hown, hts, hK, hE, hr, hlocks⟩ := C
  obtain ⟨hd9, hny, hcd, hst2, hini⟩ := hy
  have hG : GoodIn sk_W (va_wsS own idx y (Cond.code y cy ny ry :: sk_W)) := by
    have key : ∀ w ∈ sk_W, w ∈ sk_W ∧ ((w.onTables && w.keeps) = true ∨ ∃ ty, w = .arrayClass ty) := fun w hw => ⟨hw, good_of_word (List.mem_filter.mp hw).2⟩
    intro w hw
    rcases List.mem_append.mp hw with h | h
    · simp only [List.mem_cons, List.not_mem_nil, or_false] at h
      rcases h with rfl | rfl | rfl
      · exact key _ hlk
      · exact key _ hst2
      · exact key _ hini
    · exact sk_good hcd w h
  exact va_runS (As := As) (rest := rest) ⟨hx, hb, hml, hown, hts⟩ hc (va_cwS n hts hG rfl rfl rfl hd9 (sk_roomV hd hny)) ⟨sk_blind, hp⟩ rfl hn hsz hst (lv_room hr8) hdg ⟨Nat.le_refl _, Nat.le_refl _⟩
theorem sk_recv {o ci n : Nat} {cn : String} {T : u_T} (C : sk_C g p s m args meth c cc nL own ret) (hM : sk_P g M H) (ho : sk_kd o = (10 + ci, n)) (hc : sk_cl[ci]? = some (cn, T, n)) : ∃ cell : Cell, H[sk_ad g o]? = some cell ∧ cell.vm.isStatics = false ∧ s.vm.findClass cn = some cell.cls := by
  obtain ⟨hx, hb, hml, hown, hts, hK, hE, hr, hlocks⟩ := C
  exact va_recv (q0 := o) (ci := ci) (q := (cn, T, n)) hK.1 hM hc (by rw [sk_ws_at g M (sk_lt ho (by omega)), sk_en_o ho])
theorem sk_contI {d : Nat} {r : Int32} {M' : sk_M} {st : List Value} {av : Array Value} (hr : va_Run p l e (sk_rm d) s m args below meth c H locs 0 0 0 0 (F0 m pc ls st) rest (sk_QI g r M' av) (sk_A g)) (hS : va_S (sk_A g) s.heap H locs)
    (kk : ∀ (H1 : Heap) (locs1 : List Loc), sk_P g M' H1 → va_S (sk_A g) s.heap H1 locs1 → W p l e (sk_rm d) s m args below meth c H1 locs1 0 0 Q (F0 m (pc + 3) ls (.int r :: rest))) : W p l e (sk_rm d) s m args below meth c H locs 0 0 Q (F0 m pc ls st) := by
  refine va_calli hr hS (fun q _ h => h) (fun q h => h) (fun r' u t H1 locs1 ht hvm hw hB hz hk hS1 => ?_)
  obtain ⟨rfl, rfl⟩ := hw
  rw [ht] at hB
  exact kk H1 locs1 hB hS1
theorem sk_contV {d : Nat} {M' : sk_M} {st : List Value} {av : Array Value} (hr : va_Run p l e (sk_rm d) s m args below meth c H locs 0 0 0 0 (F0 m pc ls st) rest (sk_QV g M' av) (sk_A g)) (hS : va_S (sk_A g) s.heap H locs)
    (kk : ∀ (H1 : Heap) (locs1 : List Loc), sk_P g M' H1 → va_S (sk_A g) s.heap H1 locs1 → W p l e (sk_rm d) s m args below meth c H1 locs1 0 0 Q (F0 m (pc + 3) ls rest)) : W p l e (sk_rm d) s m args below meth c H locs 0 0 Q (F0 m pc ls st) := by
  refine va_callv hr hS (fun q _ h => h) (fun q h => h) (fun u t H1 locs1 ht hvm hw hB hz hk hS1 => ?_)
  subst hw
  rw [ht] at hB
  exact kk H1 locs1 hB hS1
theorem sk_contS {d i : Nat} {M' : sk_M} {st : List Value} {av : Array Value} (hr : va_Run p l e (sk_rm d) s m args below meth c H locs 0 0 0 0 (F0 m pc ls st) rest (sk_QS g i M' av) (sk_A g)) (hS : va_S (sk_A g) s.heap H locs)
    (kk : ∀ (H1 : Heap) (locs1 : List Loc), sk_P g M' H1 → va_S (sk_A g) s.heap H1 locs1 → W p l e (sk_rm d) s m args below meth c H1 locs1 0 0 Q (F0 m (pc + 3) ls (.ref (sk_aK g i) :: rest))) : W p l e (sk_rm d) s m args below meth c H locs 0 0 Q (F0 m pc ls st) := by
  refine va_callr hr hS (fun q _ h => h) (fun q h => h) (fun u ra t H1 locs1 ht hvm hw hB hz hk hS1 => ?_)
  subst hw
  obtain ⟨rfl, hB⟩ := hB
  rw [ht] at hB
  exact kk H1 locs1 hB hS1
-- Math, arraycopy
theorem sk_mmax {d idx : Nat} {x y : Int32} (C : sk_C g p s m args meth c cc nL own ret) (hsz : ls.size = nL) (hw : Cond.static Lib.Math.max.name ∈ sk_W ∧ Cond.initialized "java/lang/Math" ∈ sk_W ∧ Cond.code Lib.Math.max.name Lib.Math.max.code 2 (some .int) ∈ sk_W) (hlk : Cond.methodLink own idx Lib.Math.max.name ∈ sk_W) (hd : 0 < d) (hr8 : (rest.map fun v => v.category).sum ≤ 8) (hdg : decode cc pc = .ok (.invokestatic idx, 3))
    (kk : W p l e (sk_rm d) s m args below meth c H locs 0 0 Q (F0 m (pc + 3) ls (.int (if x < y then y else x) :: rest))) : W p l e (sk_rm d) s m args below meth c H locs 0 0 Q (F0 m pc ls (.int y :: .int x :: rest)) := by
  obtain ⟨hx, hb, hml, hown, hts, hK, hE, hr, hlocks⟩ := C
  exact va_mmax (R := sk_rm d) hx hb (hml.trans hsz.symm) hown (hts _ hlk) (hts _ hw.1) (hts _ hw.2.1) (hts _ hw.2.2) hd (by show _ + 13 ≤ 40 * d; omega) (Nat.le_refl _) (Nat.le_refl _) hdg kk
theorem sk_mmin {d idx : Nat} {x y : Int32} (C : sk_C g p s m args meth c cc nL own ret) (hsz : ls.size = nL) (hw : Cond.static Lib.Math.min.name ∈ sk_W ∧ Cond.initialized "java/lang/Math" ∈ sk_W ∧ Cond.code Lib.Math.min.name Lib.Math.min.code 2 (some .int) ∈ sk_W) (hlk : Cond.methodLink own idx Lib.Math.min.name ∈ sk_W) (hd : 0 < d) (hr8 : (rest.map fun v => v.category).sum ≤ 8) (hdg : decode cc pc = .ok (.invokestatic idx, 3))
    (kk : W p l e (sk_rm d) s m args below meth c H locs 0 0 Q (F0 m (pc + 3) ls (.int (if y < x then y else x) :: rest))) : W p l e (sk_rm d) s m args below meth c H locs 0 0 Q (F0 m pc ls (.int y :: .int x :: rest)) := by
  obtain ⟨hx, hb, hml, hown, hts, hK, hE, hr, hlocks⟩ := C
  exact va_mmin (R := sk_rm d) hx hb (hml.trans hsz.symm) hown (hts _ hlk) (hts _ hw.1) (hts _ hw.2.1) (hts _ hw.2.2) hd (by show _ + 13 ≤ 40 * d; omega) (Nat.le_refl _) (Nat.le_refl _) hdg kk
theorem sk_mabs {d idx : Nat} {x : Int32} (C : sk_C g p s m args meth c cc nL own ret) (hsz : ls.size = nL) (hw : Cond.static Lib.Math.abs.name ∈ sk_W ∧ Cond.initialized "java/lang/Math" ∈ sk_W ∧ Cond.code Lib.Math.abs.name Lib.Math.abs.code 1 (some .int) ∈ sk_W) (hlk : Cond.methodLink own idx Lib.Math.abs.name ∈ sk_W) (hd : 0 < d) (hr8 : (rest.map fun v => v.category).sum ≤ 8) (hdg : decode cc pc = .ok (.invokestatic idx, 3))
    (kk : W p l e (sk_rm d) s m args below meth c H locs 0 0 Q (F0 m (pc + 3) ls (.int (if 0 ≤ x then x else 0 - x) :: rest))) : W p l e (sk_rm d) s m args below meth c H locs 0 0 Q (F0 m pc ls (.int x :: rest)) := by
  obtain ⟨hx, hb, hml, hown, hts, hK, hE, hr, hlocks⟩ := C
  exact va_mabs (R := sk_rm d) hx hb (hml.trans hsz.symm) hown (hts _ hlk) (hts _ hw.1) (hts _ hw.2.1) (hts _ hw.2.2) hd (by show _ + 13 ≤ 40 * d; omega) (Nat.le_refl _) (Nat.le_refl _) hdg kk
def sk_cin (sp n : Int32) (k : Nat) : Bool := !(decide (sp < 0)) && !(decide (n < 0)) && decide (sp.toNatClampNeg + n.toNatClampNeg ≤ k)
theorem sk_copy {d idx o0 o1 n0 n1 : Nat} {sp dp n : Int32} (C : sk_C g p s m args meth c cc nL own ret) (hsz : ls.size = nL) (hw : Cond.native arraycopyName ∈ sk_W ∧ Cond.static arraycopyName ∈ sk_W ∧ Cond.initialized "java/lang/System" ∈ sk_W) (hlk : Cond.methodLink own idx arraycopyName ∈ sk_W) (hd : 0 < d) (hr8 : (rest.map fun v => v.category).sum ≤ 8) (hM : sk_P g M H) (hS : va_S (sk_A g) s.heap H locs)
    (h0 : sk_kd o0 = (0, n0)) (h1 : sk_kd o1 = (0, n1)) (hc0 : sk_cin sp n n0 = true) (hc1 : sk_cin dp n n1 = true) (hdg : decode cc pc = .ok (.invokestatic idx, 3))
    (kk : ∀ (M1 : sk_M), M1 = sk_uA M o1 (va_cpy (M o0) (M o1) sp.toNatClampNeg dp.toNatClampNeg n.toNatClampNeg) → ∀ (H1 : Heap) (locs1 : List Loc), sk_P g M1 H1 → va_S (sk_A g) s.heap H1 locs1 → W p l e (sk_rm d) s m args below meth c H1 locs1 0 0 Q (F0 m (pc + 3) ls rest)) : W p l e (sk_rm d) s m args below meth c H locs 0 0 Q (F0 m pc ls (.int n :: .int dp :: .ref (sk_ad g o1) :: .int sp :: .ref (sk_ad g o0) :: rest)) := by
  obtain ⟨hx, hb, hml, hown, hts, hK, hE, hr, hlocks⟩ := C
  simp only [sk_cin, Bool.and_eq_true, Bool.not_eq_true', decide_eq_false_iff_not, decide_eq_true_eq] at hc0 hc1
  have hl0 := sk_lt h0 (by decide)
  have hl1 := sk_lt h1 (by decide)
  refine va_copyi (D := sk_D g) (cl := sk_cl) (tys := sk_ty g) (ty := .int) (f := M o0) (g := M o1) hx hb (hml.trans hsz.symm) hown (hts _ hlk) (hts _ hw.1) (hts _ hw.2.1) (hts _ hw.2.2) hK.1 hM (sk_Dd hK M) hS o0 o1 0 0 (by rw [sk_ws_at g M hl0, sk_en_i h0]) (by rw [sk_ws_at g M hl1, sk_en_i h1]) rfl rfl rfl hc0.1.1 hc1.1.1 hc0.1.2 hc0.2 hc1.2 (fun _ _ => rfl) hd ?_ hdg (fun H1 locs1 hP1 _ hS1 => ?_)
  · have : nativeFrameWords "java/lang/System" "arraycopy" 5 + 11 ≤ 32 := by decide +kernel
    show _ ≤ 40 * d
    omega
  · refine kk _ rfl H1 locs1 ?_ hS1
    rw [← sk_en_i (g := g) h1, sk_ws_set g M hl1] at hP1
    exact hP1
end SKR
end
section
def sk_isW (o : Nat) : Prop := o = 10 ∨ o = 26
theorem sk_isW_kd {o : Nat} (h : sk_isW o) : sk_kd o = (10 + 5, 16) := by rcases h with rfl | rfl <;> rfl
theorem sk_isW_r0 {o : Nat} (h : sk_isW o) : sk_rf o 0 = 42 := by rcases h with rfl | rfl <;> rfl
theorem sk_isW_r {o : Nat} (h : sk_isW o) (j : Nat) (h0 : 0 < j) (_ : j < 10) : sk_rf o j = o + j := by
  have : j ≠ 0 := by omega
  rcases h with rfl | rfl <;> simp [sk_rf, this]
theorem sk_isW_k1 {o : Nat} (h : sk_isW o) : sk_kd (o + 1) = (0, 9) := by rcases h with rfl | rfl <;> rfl
theorem sk_isW_k2 {o : Nat} (h : sk_isW o) : sk_kd (o + 2) = (0, 9) := by rcases h with rfl | rfl <;> rfl
theorem sk_isW_k3 {o : Nat} (h : sk_isW o) : sk_kd (o + 3) = (0, 9) := by rcases h with rfl | rfl <;> rfl
theorem sk_isW_k4 {o : Nat} (h : sk_isW o) : sk_kd (o + 4) = (0, 4) := by rcases h with rfl | rfl <;> rfl
theorem sk_isW_k5 {o : Nat} (h : sk_isW o) : sk_kd (o + 5) = (0, 12) := by rcases h with rfl | rfl <;> rfl
theorem sk_isW_k6 {o : Nat} (h : sk_isW o) : sk_kd (o + 6) = (0, 6) := by rcases h with rfl | rfl <;> rfl
theorem sk_isW_k7 {o : Nat} (h : sk_isW o) : sk_kd (o + 7) = (0 + 1, 6) := by rcases h with rfl | rfl <;> rfl
theorem sk_isW_k8 {o : Nat} (h : sk_isW o) : sk_kd (o + 8) = (0, 3) := by rcases h with rfl | rfl <;> rfl
theorem sk_isW_k9 {o : Nat} (h : sk_isW o) : sk_kd (o + 9) = (0, 1000) := by rcases h with rfl | rfl <;> rfl
theorem sk_isW_s {o : Nat} (h : sk_isW o) (i : Nat) : sk_rf (o + 7) i = o + 10 + i := by rcases h with rfl | rfl <;> simp [sk_rf]
theorem sk_isW_sk {o i : Nat} (h : sk_isW o) (hi : i < 6) : sk_kd (o + 10 + i) = (0, 9) := by
  match i, hi with
  | 0, _ => rcases h with rfl | rfl <;> rfl
  | 1, _ => rcases h with rfl | rfl <;> rfl
  | 2, _ => rcases h with rfl | rfl <;> rfl
  | 3, _ => rcases h with rfl | rfl <;> rfl
  | 4, _ => rcases h with rfl | rfl <;> rfl
  | 5, _ => rcases h with rfl | rfl <;> rfl
theorem sk_kd_s20 {i : Nat} (hi : i < 6) : sk_kd (20 + i) = (0, 9) := sk_isW_sk (Or.inl rfl) hi
theorem sk_kd_s36 {i : Nat} (hi : i < 6) : sk_kd (36 + i) = (0, 9) := sk_isW_sk (Or.inr rfl) hi
theorem sk_kd_t {i : Nat} (hi : i < 14) : sk_kd (48 + i) = (0, 96) := by
  match i, hi with
  | 0, _ => rfl
  | 1, _ => rfl
  | 2, _ => rfl
  | 3, _ => rfl
  | 4, _ => rfl
  | 5, _ => rfl
  | 6, _ => rfl
  | 7, _ => rfl
  | 8, _ => rfl
  | 9, _ => rfl
  | 10, _ => rfl
  | 11, _ => rfl
  | 12, _ => rfl
  | 13, _ => rfl
def sk_isT (o : Nat) : Prop := o = 6 ∨ o = 8
def sk_tw (o : Nat) : Nat := if o = 6 then 10 else 26
theorem sk_isT_w {o : Nat} (h : sk_isT o) : sk_isW (sk_tw o) := by rcases h with rfl | rfl <;> simp [sk_tw, sk_isW]
theorem sk_isT_r0 {o : Nat} (h : sk_isT o) : sk_rf o 0 = sk_tw o := by rcases h with rfl | rfl <;> rfl
theorem sk_isT_r1 {o : Nat} (h : sk_isT o) : sk_rf o 1 = o + 1 := by rcases h with rfl | rfl <;> rfl
theorem sk_isT_k1 {o : Nat} (h : sk_isT o) : sk_kd (o + 1) = (0, 9) := by rcases h with rfl | rfl <;> rfl
theorem sk_isT_kd {o : Nat} (h : sk_isT o) : sk_kd o = (10 + 4, 4) := by rcases h with rfl | rfl <;> rfl
def sk_isH (o : Nat) : Prop := sk_kd o = (10 + 1, 3) ∧ sk_kd (o + 1) = (0, 24) ∧ sk_rf o 0 = o + 1
theorem sk_isH_kd {o : Nat} (h : sk_isH o) : sk_kd o = (10 + 1, 3) := h.1
theorem sk_isH_k1 {o : Nat} (h : sk_isH o) : sk_kd (o + 1) = (0, 24) := h.2.1
theorem sk_isH_r0 {o : Nat} (h : sk_isH o) : sk_rf o 0 = o + 1 := h.2.2
theorem sk_isH_a {i : Nat} (hi : i < 4) : sk_isH (65 + 2 * i) := by
  match i, hi with
  | 0, _ => exact ⟨rfl, rfl, rfl⟩
  | 1, _ => exact ⟨rfl, rfl, rfl⟩
  | 2, _ => exact ⟨rfl, rfl, rfl⟩
  | 3, _ => exact ⟨rfl, rfl, rfl⟩
def sk_isL (o : Nat) : Prop := sk_kd o = (10 + 2, 5) ∧ sk_isH (o + 1) ∧ sk_rf o 0 = o + 1
theorem sk_isL_kd {o : Nat} (h : sk_isL o) : sk_kd o = (10 + 2, 5) := h.1
theorem sk_isL_h {o : Nat} (h : sk_isL o) : sk_isH (o + 1) := h.2.1
theorem sk_isL_r0 {o : Nat} (h : sk_isL o) : sk_rf o 0 = o + 1 := h.2.2
theorem sk_isL_a {i : Nat} (hi : i < 5) : sk_isL (73 + 3 * i) := by
  match i, hi with
  | 0, _ => exact ⟨rfl, ⟨rfl, rfl, rfl⟩, rfl⟩
  | 1, _ => exact ⟨rfl, ⟨rfl, rfl, rfl⟩, rfl⟩
  | 2, _ => exact ⟨rfl, ⟨rfl, rfl, rfl⟩, rfl⟩
  | 3, _ => exact ⟨rfl, ⟨rfl, rfl, rfl⟩, rfl⟩
  | 4, _ => exact ⟨rfl, ⟨rfl, rfl, rfl⟩, rfl⟩
-- numbers
def sk_ushr (x y : Int32) : Int32 := (x.toUInt32 >>> (y.toUInt32 &&& Int32.toUInt32 31)).toInt32
def sk_i2c (x : Int32) : Int32 := (x.toUInt32 % 65536).toInt32
def sk_i2s (x : Int32) : Int32 := x.toInt16.toInt32
def sk_i2b (x : Int32) : Int32 := x.toInt8.toInt32
theorem sk_nz {v : Int32} (h : v = 0 ∨ v = 1) : narrow .boolean (.int v) = .int v := by rcases h with rfl | rfl <;> rfl
theorem sk_zi {c : Prop} [Decidable c] {a b : Int32} (ha : a = 0 ∨ a = 1) (hb : b = 0 ∨ b = 1) : (if c then a else b) = 0 ∨ (if c then a else b) = 1 := by
  by_cases h : c
  · rw [if_pos h]
    exact ha
  · rw [if_neg h]
    exact hb
theorem sk_tn {x k : Int32} (h : ¬ x = k) {z : Int} (e : k.toInt = z) : x.toInt ≠ z := fun q => h (Int32.toInt_inj.mp (q.trans e.symm))
theorem sk_look {ps : List (Int × Int)} {d z : Int} (h : ∀ q ∈ ps, z ≠ q.1) : Op.lookupswitch.offset ps d z = d := by
  have : ps.find? (fun q => q.1 == z) = none := by
    rw [List.find?_eq_none]
    intro q hq
    simp only [beq_iff_eq]
    exact fun e => h q hq e.symm
  exact Op.lookupswitch.offset_none this
-- binds
def sk_b0 {β : Type} (x : Option Unit) (f : Unit → Option β) : Option β := x.bind f
theorem sk_b0E {β : Type} {x : Option Unit} {f : Unit → Option β} {r : β} (h : sk_b0 x f = some r) : x = some () ∧ f () = some r := by
  cases x with
  | none => cases h
  | some a => exact ⟨rfl, h⟩
theorem sk_e2 {α α2 : Type} {a c : α} {b d : α2} (h : some (a, b) = some (c, d)) : a = c ∧ b = d := by cases h; exact ⟨rfl, rfl⟩
theorem sk_e3 {α α2 α3 : Type} {a a' : α} {b b' : α2} {c c' : α3} (h : some (a, b, c) = some (a', b', c')) : a = a' ∧ b = b' ∧ c = c' := by cases h; exact ⟨rfl, rfl, rfl⟩
theorem sk_e4 {α α2 α3 α4 : Type} {a a' : α} {b b' : α2} {c c' : α3} {d d' : α4} (h : some (a, b, c, d) = some (a', b', c', d')) : a = a' ∧ b = b' ∧ c = c' ∧ d = d' := by cases h; exact ⟨rfl, rfl, rfl, rfl⟩
def sk_s0 {ρ : Type} (x : Option (ρ ⊕ Unit)) (f : Unit → Option ρ) : Option ρ := sk_s x f
def sk_s1 {ρ α : Type} (x : Option (ρ ⊕ α)) (f : α → Option ρ) : Option ρ := sk_s x f
def sk_s2 {ρ α α2 : Type} (x : Option (ρ ⊕ (α × α2))) (f : α → α2 → Option ρ) : Option ρ := sk_s x (fun u => f u.1 u.2)
def sk_s3 {ρ α α2 α3 : Type} (x : Option (ρ ⊕ (α × α2 × α3))) (f : α → α2 → α3 → Option ρ) : Option ρ := sk_s x (fun u => f u.1 u.2.1 u.2.2)
theorem sk_sX {ρ α : Type} {x : Option (ρ ⊕ α)} {f : α → Option ρ} {r : ρ} (h : sk_s x f = some r) : ∃ out, x = some out ∧ (∀ q, out = Sum.inl q → some q = some r) ∧ (∀ a, out = Sum.inr a → f a = some r) := by
  cases x with
  | none => cases h
  | some u =>
    refine ⟨u, rfl, fun q e => ?_, fun a e => ?_⟩
    · subst e; exact h
    · subst e; exact h
theorem sk_s0E {ρ : Type} {x : Option (ρ ⊕ Unit)} {f : Unit → Option ρ} {r : ρ} (h : sk_s0 x f = some r) : ∃ out, x = some out ∧ (∀ q, out = Sum.inl q → some q = some r) ∧ (out = Sum.inr () → f () = some r) := by
  obtain ⟨o, h1, h2, h3⟩ := sk_sX h
  exact ⟨o, h1, h2, h3 ()⟩
theorem sk_s1E {ρ α : Type} {x : Option (ρ ⊕ α)} {f : α → Option ρ} {r : ρ} (h : sk_s1 x f = some r) : ∃ out, x = some out ∧ (∀ q, out = Sum.inl q → some q = some r) ∧ (∀ a, out = Sum.inr a → f a = some r) := sk_sX h
theorem sk_s2E {ρ α α2 : Type} {x : Option (ρ ⊕ (α × α2))} {f : α → α2 → Option ρ} {r : ρ} (h : sk_s2 x f = some r) : ∃ out, x = some out ∧ (∀ q, out = Sum.inl q → some q = some r) ∧ (∀ a b, out = Sum.inr (a, b) → f a b = some r) := by
  obtain ⟨o, h1, h2, h3⟩ := sk_sX h
  exact ⟨o, h1, h2, fun a b e => h3 (a, b) e⟩
theorem sk_s3E {ρ α α2 α3 : Type} {x : Option (ρ ⊕ (α × α2 × α3))} {f : α → α2 → α3 → Option ρ} {r : ρ} (h : sk_s3 x f = some r) : ∃ out, x = some out ∧ (∀ q, out = Sum.inl q → some q = some r) ∧ (∀ a b c, out = Sum.inr (a, b, c) → f a b c = some r) := by
  obtain ⟨o, h1, h2, h3⟩ := sk_sX h
  exact ⟨o, h1, h2, fun a b c e => h3 (a, b, c) e⟩
def sk_RD : Nat := 120
/-- a contract's start, its arguments' array without a name -/
theorem sk_go {g : sk_G} {l : Launch} {y : MethodName} {cy : ByteArray} {ny : Nat} {ret : Option FieldType} {d : Nat} {av : List Value} {M : sk_M} {Qc : Array Value → State → Outcome → State → Prop} (L : List (Nat × Value))
    (hy : plainName y.cls = true) (hn : (lg_sl av).length ≤ ny) (hL : lv_args 0 av = L)
    (body : ∀ (p : Program) (e : Env) (s : State) (m : MethodId) (av : Array Value) (below : List Frame) (meth : Method) (c : Code), sk_C g p s m av meth c cy ny y.cls ret → ∀ ls : Array Slot, lv_has ls ny L → sk_P g M s.heap → va_S (sk_A g) s.heap s.heap [] →
      W p l e (sk_rm d) s m av below meth c s.heap [] 0 0 (MQ below Qc av s 0 0 (sk_A g)) (F0 m 0 ls [])) : sk_Met g l y cy ny ret d av M Qc := by
  subst hL
  exact sk_start hy hn (fun p e s m below meth c C ls hl hM hS => body p e s m _ below meth c C ls hl hM hS)
end
section
theorem kw_0 : Cond.selects RX6 yX6_isScent yX6_isScent ∈ sk_W := sk_m (i := 0) (by decide +kernel) (by decide +kernel)
theorem kw_1 : Cond.selects RX6 yX6_isWord yX6_isWord ∈ sk_W := sk_m (i := 1) (by decide +kernel) (by decide +kernel)
theorem kw_2 : Cond.selects RX6 yX6_isSpot yX6_isSpot ∈ sk_W := sk_m (i := 2) (by decide +kernel) (by decide +kernel)
theorem kw_3 : Cond.selects RX6 yX6_isCloth yX6_isCloth ∈ sk_W := sk_m (i := 3) (by decide +kernel) (by decide +kernel)
theorem kw_4 : Cond.selects RX6 yX6_followCourse yX6_followCourse ∈ sk_W := sk_m (i := 4) (by decide +kernel) (by decide +kernel)
theorem kw_5 : Cond.selects RX6 yX6_differences yX6_differences ∈ sk_W := sk_m (i := 5) (by decide +kernel) (by decide +kernel)
theorem kw_6 : Cond.selects RX0 yX0_moveOn yX0_moveOn ∈ sk_W := sk_m (i := 6) (by decide +kernel) (by decide +kernel)
theorem kw_7 : Cond.selects RX0 yX0_fail yX0_fail ∈ sk_W := sk_m (i := 7) (by decide +kernel) (by decide +kernel)
theorem kw_8 : Cond.selects RX0 yX0_keyHere yX0_keyHere ∈ sk_W := sk_m (i := 8) (by decide +kernel) (by decide +kernel)
theorem kw_9 : Cond.selects RX0 yX0_isHere yX0_isHere ∈ sk_W := sk_m (i := 9) (by decide +kernel) (by decide +kernel)
theorem kw_10 : Cond.selects RX0 yX0_readLevel yX0_readLevel ∈ sk_W := sk_m (i := 10) (by decide +kernel) (by decide +kernel)
theorem kw_11 : Cond.selects RX0 yX0_readPiece yX0_readPiece ∈ sk_W := sk_m (i := 11) (by decide +kernel) (by decide +kernel)
theorem kw_12 : Cond.selects RX0 yX0_isSignOf yX0_isSignOf ∈ sk_W := sk_m (i := 12) (by decide +kernel) (by decide +kernel)
theorem kw_13 : Cond.selects RX0 yX0_put yX0_put ∈ sk_W := sk_m (i := 13) (by decide +kernel) (by decide +kernel)
theorem kw_14 : Cond.selects RX0 yX0_readLeaf yX0_readLeaf ∈ sk_W := sk_m (i := 14) (by decide +kernel) (by decide +kernel)
theorem kw_15 : Cond.selects RX0 yX0_leafCode yX0_leafCode ∈ sk_W := sk_m (i := 15) (by decide +kernel) (by decide +kernel)
theorem kw_16 : Cond.selects RX0 yX0_numberHere yX0_numberHere ∈ sk_W := sk_m (i := 16) (by decide +kernel) (by decide +kernel)
theorem kw_17 : Cond.selects RX0 yX0_names yX0_names ∈ sk_W := sk_m (i := 17) (by decide +kernel) (by decide +kernel)
theorem kw_18 : Cond.selects RX6 yX6_rightAhead yX6_rightAhead ∈ sk_W := sk_m (i := 18) (by decide +kernel) (by decide +kernel)
theorem kw_19 : Cond.selects RX7 yX7_comes yX7_comes ∈ sk_W := sk_m (i := 19) (by decide +kernel) (by decide +kernel)
theorem kw_20 : Cond.selects RX7 yX7_isScent yX7_isScent ∈ sk_W := sk_m (i := 20) (by decide +kernel) (by decide +kernel)
theorem kw_21 : Cond.selects RX7 yX7_of yX7_of ∈ sk_W := sk_m (i := 21) (by decide +kernel) (by decide +kernel)
theorem kw_22 : Cond.selects RX7 yX7_worth yX7_worth ∈ sk_W := sk_m (i := 22) (by decide +kernel) (by decide +kernel)
theorem kw_23 : Cond.selects RX7 yX7_becomes yX7_becomes ∈ sk_W := sk_m (i := 23) (by decide +kernel) (by decide +kernel)
theorem kw_24 : Cond.selects RX7 yX7_isSaid yX7_isSaid ∈ sk_W := sk_m (i := 24) (by decide +kernel) (by decide +kernel)
theorem kw_25 : Cond.selects RX7 yX7_drawn yX7_drawn ∈ sk_W := sk_m (i := 25) (by decide +kernel) (by decide +kernel)
theorem kw_26 : Cond.selects RX7 yX7_isCloth yX7_isCloth ∈ sk_W := sk_m (i := 26) (by decide +kernel) (by decide +kernel)
theorem kw_27 : Cond.selects RX7 yX7_on yX7_on ∈ sk_W := sk_m (i := 27) (by decide +kernel) (by decide +kernel)
theorem kw_28 : Cond.selects RX7 yX7_losesOn yX7_losesOn ∈ sk_W := sk_m (i := 28) (by decide +kernel) (by decide +kernel)
theorem kw_29 : Cond.selects RX7 yX7_losesBy yX7_losesBy ∈ sk_W := sk_m (i := 29) (by decide +kernel) (by decide +kernel)
theorem kw_30 : Cond.selects RX7 yX7_counts yX7_counts ∈ sk_W := sk_m (i := 30) (by decide +kernel) (by decide +kernel)
theorem kw_31 : Cond.selects RX7 yX7_textAt yX7_textAt ∈ sk_W := sk_m (i := 31) (by decide +kernel) (by decide +kernel)
theorem kw_32 : Cond.selects RX7 yX7_worked yX7_worked ∈ sk_W := sk_m (i := 32) (by decide +kernel) (by decide +kernel)
theorem kw_33 : Cond.selects RX7 yX7_goesOn yX7_goesOn ∈ sk_W := sk_m (i := 33) (by decide +kernel) (by decide +kernel)
theorem kw_34 : Cond.selects RX7 yX7_smeltOn yX7_smeltOn ∈ sk_W := sk_m (i := 34) (by decide +kernel) (by decide +kernel)
theorem kw_35 : Cond.selects RX7 yX7_saidBy yX7_saidBy ∈ sk_W := sk_m (i := 35) (by decide +kernel) (by decide +kernel)
theorem kw_36 : Cond.selects RX7 yX7_laysBy yX7_laysBy ∈ sk_W := sk_m (i := 36) (by decide +kernel) (by decide +kernel)
theorem kw_37 : Cond.selects RX7 yX7_goesOnMany yX7_goesOnMany ∈ sk_W := sk_m (i := 37) (by decide +kernel) (by decide +kernel)
theorem kw_38 : Cond.selects RX7 yX7_laysBack yX7_laysBack ∈ sk_W := sk_m (i := 38) (by decide +kernel) (by decide +kernel)
theorem kw_39 : Cond.selects RX7 yX7_leastOf yX7_leastOf ∈ sk_W := sk_m (i := 39) (by decide +kernel) (by decide +kernel)
theorem kw_40 : Cond.selects RX7 yX7_leftOf yX7_leftOf ∈ sk_W := sk_m (i := 40) (by decide +kernel) (by decide +kernel)
theorem kw_41 : Cond.selects RX7 yX7_allOn yX7_allOn ∈ sk_W := sk_m (i := 41) (by decide +kernel) (by decide +kernel)
theorem kw_42 : Cond.selects RX7 yX7_saidOr yX7_saidOr ∈ sk_W := sk_m (i := 42) (by decide +kernel) (by decide +kernel)
theorem kw_43 : Cond.selects RX7 yX7_parse yX7_parse ∈ sk_W := sk_m (i := 43) (by decide +kernel) (by decide +kernel)
theorem kw_44 : Cond.selects RX7 yX7_nextToken yX7_nextToken ∈ sk_W := sk_m (i := 44) (by decide +kernel) (by decide +kernel)
theorem kw_45 : Cond.selects RX7 yX7_isLetter yX7_isLetter ∈ sk_W := sk_m (i := 45) (by decide +kernel) (by decide +kernel)
theorem kw_46 : Cond.selects RX7 yX7_isDigit yX7_isDigit ∈ sk_W := sk_m (i := 46) (by decide +kernel) (by decide +kernel)
theorem kw_47 : Cond.selects RX7 yX7_key yX7_key ∈ sk_W := sk_m (i := 47) (by decide +kernel) (by decide +kernel)
theorem kw_48 : Cond.selects RX7 yX7_isWordAt yX7_isWordAt ∈ sk_W := sk_m (i := 48) (by decide +kernel) (by decide +kernel)
theorem kw_49 : Cond.selects RX7 yX7_isLong yX7_isLong ∈ sk_W := sk_m (i := 49) (by decide +kernel) (by decide +kernel)
theorem kw_50 : Cond.selects RX7 yX7_either yX7_either ∈ sk_W := sk_m (i := 50) (by decide +kernel) (by decide +kernel)
theorem kw_51 : Cond.selects RX7 yX7_both yX7_both ∈ sk_W := sk_m (i := 51) (by decide +kernel) (by decide +kernel)
theorem kw_52 : Cond.selects RX7 yX7_test yX7_test ∈ sk_W := sk_m (i := 52) (by decide +kernel) (by decide +kernel)
theorem kw_53 : Cond.selects RX7 yX7_sum yX7_sum ∈ sk_W := sk_m (i := 53) (by decide +kernel) (by decide +kernel)
theorem kw_54 : Cond.selects RX7 yX7_term yX7_term ∈ sk_W := sk_m (i := 54) (by decide +kernel) (by decide +kernel)
theorem kw_55 : Cond.selects RX7 yX7_part0 yX7_part0 ∈ sk_W := sk_m (i := 55) (by decide +kernel) (by decide +kernel)
theorem kw_56 : Cond.selects RX7 yX7_step yX7_step ∈ sk_W := sk_m (i := 56) (by decide +kernel) (by decide +kernel)
theorem kw_57 : Cond.selects RX7 yX7_isSign yX7_isSign ∈ sk_W := sk_m (i := 57) (by decide +kernel) (by decide +kernel)
theorem kw_58 : Cond.selects RX7 yX7_isText yX7_isText ∈ sk_W := sk_m (i := 58) (by decide +kernel) (by decide +kernel)
theorem kw_59 : Cond.selects RX7 yX7_setAside yX7_setAside ∈ sk_W := sk_m (i := 59) (by decide +kernel) (by decide +kernel)
theorem kw_60 : Cond.selects RX7 yX7_allStrengths yX7_allStrengths ∈ sk_W := sk_m (i := 60) (by decide +kernel) (by decide +kernel)
theorem kw_62 : Cond.initialized RX6 ∈ sk_W := sk_m (i := 62) (by decide +kernel) (by decide +kernel)
theorem kw_63 : Cond.initialized RX3 ∈ sk_W := sk_m (i := 63) (by decide +kernel) (by decide +kernel)
theorem kw_64 : Cond.initialized RX0 ∈ sk_W := sk_m (i := 64) (by decide +kernel) (by decide +kernel)
theorem kw_65 : Cond.initialized RX5 ∈ sk_W := sk_m (i := 65) (by decide +kernel) (by decide +kernel)
theorem kw_66 : Cond.initialized RJ7 ∈ sk_W := sk_m (i := 66) (by decide +kernel) (by decide +kernel)
theorem kw_67 : Cond.initialized RX4 ∈ sk_W := sk_m (i := 67) (by decide +kernel) (by decide +kernel)
theorem kw_68 : Cond.initialized RX1 ∈ sk_W := sk_m (i := 68) (by decide +kernel) (by decide +kernel)
theorem kw_70 : Cond.initialized RX7 ∈ sk_W := sk_m (i := 70) (by decide +kernel) (by decide +kernel)
theorem kw_71 : Cond.initialized "java/lang/Math" ∈ sk_W := sk_m (i := 71) (by decide +kernel) (by decide +kernel)
theorem kw_72 : Cond.initialized "java/lang/System" ∈ sk_W := sk_m (i := 72) (by decide +kernel) (by decide +kernel)
theorem kw_73 : Cond.initialized RJ6 ∈ sk_W := sk_m (i := 73) (by decide +kernel) (by decide +kernel)
theorem kw_74 : Cond.initialized RJ0 ∈ sk_W := sk_m (i := 74) (by decide +kernel) (by decide +kernel)
theorem kw_75 : Cond.initialized RJ1 ∈ sk_W := sk_m (i := 75) (by decide +kernel) (by decide +kernel)
theorem kw_76 : Cond.initialized RJ3 ∈ sk_W := sk_m (i := 76) (by decide +kernel) (by decide +kernel)
theorem kw_95 : Cond.fieldLink RX3 11 "ScentCloth$Texts" "codes" "[[I" ∈ sk_W := sk_m (i := 95) (by decide +kernel) (by decide +kernel)
theorem kw_96 : Cond.fieldLink RX3 16 "ScentCloth$Texts" "sizes" "[I" ∈ sk_W := sk_m (i := 96) (by decide +kernel) (by decide +kernel)
theorem kw_97 : Cond.fieldLink RX3 20 "ScentCloth$Texts" "keys" "[I" ∈ sk_W := sk_m (i := 97) (by decide +kernel) (by decide +kernel)
theorem kw_98 : Cond.fieldLink RX6 257 "ScentCloth$Texts" "keys" "[I" ∈ sk_W := sk_m (i := 98) (by decide +kernel) (by decide +kernel)
theorem kw_99 : Cond.fieldLink RX3 23 "ScentCloth$Texts" "leaves" "[I" ∈ sk_W := sk_m (i := 99) (by decide +kernel) (by decide +kernel)
theorem kw_100 : Cond.fieldLink RX6 260 "ScentCloth$Texts" "leaves" "[I" ∈ sk_W := sk_m (i := 100) (by decide +kernel) (by decide +kernel)
theorem kw_101 : Cond.fieldLink RX3 26 "ScentCloth$Texts" "stack" "[I" ∈ sk_W := sk_m (i := 101) (by decide +kernel) (by decide +kernel)
theorem kw_120 : Cond.fieldLink RX0 9 "ScentCloth$Reader" "tape" "[I" ∈ sk_W := sk_m (i := 120) (by decide +kernel) (by decide +kernel)
theorem kw_121 : Cond.fieldLink RX0 15 "ScentCloth$Reader" "codes" "[I" ∈ sk_W := sk_m (i := 121) (by decide +kernel) (by decide +kernel)
theorem kw_122 : Cond.fieldLink RX3 29 "ScentCloth$Reader" "codes" "[I" ∈ sk_W := sk_m (i := 122) (by decide +kernel) (by decide +kernel)
theorem kw_123 : Cond.fieldLink RX0 18 "ScentCloth$Reader" "length" "I" ∈ sk_W := sk_m (i := 123) (by decide +kernel) (by decide +kernel)
theorem kw_124 : Cond.fieldLink RX6 238 "ScentCloth$Reader" "length" "I" ∈ sk_W := sk_m (i := 124) (by decide +kernel) (by decide +kernel)
theorem kw_125 : Cond.fieldLink RX0 51 "ScentCloth$Reader" "at" "I" ∈ sk_W := sk_m (i := 125) (by decide +kernel) (by decide +kernel)
theorem kw_126 : Cond.fieldLink RX0 25 "ScentCloth$Reader" "end" "I" ∈ sk_W := sk_m (i := 126) (by decide +kernel) (by decide +kernel)
theorem kw_127 : Cond.fieldLink RX0 22 "ScentCloth$Reader" "fault" "I" ∈ sk_W := sk_m (i := 127) (by decide +kernel) (by decide +kernel)
theorem kw_128 : Cond.fieldLink RX3 43 "ScentCloth$Reader" "key" "I" ∈ sk_W := sk_m (i := 128) (by decide +kernel) (by decide +kernel)
theorem kw_129 : Cond.fieldLink RX0 41 "ScentCloth$Reader" "key" "I" ∈ sk_W := sk_m (i := 129) (by decide +kernel) (by decide +kernel)
theorem kw_130 : Cond.fieldLink RX6 254 "ScentCloth$Reader" "key" "I" ∈ sk_W := sk_m (i := 130) (by decide +kernel) (by decide +kernel)
theorem kw_131 : Cond.fieldLink RX3 33 "ScentCloth$Reader" "size" "I" ∈ sk_W := sk_m (i := 131) (by decide +kernel) (by decide +kernel)
theorem kw_132 : Cond.fieldLink RX0 28 "ScentCloth$Reader" "size" "I" ∈ sk_W := sk_m (i := 132) (by decide +kernel) (by decide +kernel)
theorem kw_133 : Cond.fieldLink RX3 46 "ScentCloth$Reader" "leaves" "I" ∈ sk_W := sk_m (i := 133) (by decide +kernel) (by decide +kernel)
theorem kw_134 : Cond.fieldLink RX0 31 "ScentCloth$Reader" "leaves" "I" ∈ sk_W := sk_m (i := 134) (by decide +kernel) (by decide +kernel)
theorem kw_162 : Cond.static yJ7_fill_53178 ∈ sk_W := sk_m (i := 162) (by decide +kernel) (by decide +kernel)
theorem kw_163 : Cond.code yJ7_fill_53178 cJ7_fill_53178 4 none ∈ sk_W := sk_m (i := 163) (by decide +kernel) (by decide +kernel)
theorem kw_164 : Cond.constant RX5 51 (-1000000005) ∈ sk_W := sk_m (i := 164) (by decide +kernel) (by decide +kernel)
theorem kw_165 : Cond.fieldLink RX5 41 "ScentCloth$World" "library" "LScentCloth$Texts;" ∈ sk_W := sk_m (i := 165) (by decide +kernel) (by decide +kernel)
theorem kw_166 : Cond.fieldLink RX5 9 "ScentCloth$World" "kinds" "[I" ∈ sk_W := sk_m (i := 166) (by decide +kernel) (by decide +kernel)
theorem kw_167 : Cond.fieldLink RX6 87 "ScentCloth$World" "kinds" "[I" ∈ sk_W := sk_m (i := 167) (by decide +kernel) (by decide +kernel)
theorem kw_168 : Cond.fieldLink RX5 15 "ScentCloth$World" "paces" "[I" ∈ sk_W := sk_m (i := 168) (by decide +kernel) (by decide +kernel)
theorem kw_169 : Cond.fieldLink RX6 90 "ScentCloth$World" "paces" "[I" ∈ sk_W := sk_m (i := 169) (by decide +kernel) (by decide +kernel)
theorem kw_170 : Cond.fieldLink RX5 18 "ScentCloth$World" "hides" "[I" ∈ sk_W := sk_m (i := 170) (by decide +kernel) (by decide +kernel)
theorem kw_171 : Cond.fieldLink RX6 96 "ScentCloth$World" "hides" "[I" ∈ sk_W := sk_m (i := 171) (by decide +kernel) (by decide +kernel)
theorem kw_172 : Cond.fieldLink RX5 21 "ScentCloth$World" "fines" "[I" ∈ sk_W := sk_m (i := 172) (by decide +kernel) (by decide +kernel)
theorem kw_173 : Cond.fieldLink RX6 107 "ScentCloth$World" "fines" "[I" ∈ sk_W := sk_m (i := 173) (by decide +kernel) (by decide +kernel)
theorem kw_174 : Cond.fieldLink RX5 24 "ScentCloth$World" "sets" "[I" ∈ sk_W := sk_m (i := 174) (by decide +kernel) (by decide +kernel)
theorem kw_175 : Cond.fieldLink RX6 118 "ScentCloth$World" "sets" "[I" ∈ sk_W := sk_m (i := 175) (by decide +kernel) (by decide +kernel)
theorem kw_176 : Cond.fieldLink RX5 27 "ScentCloth$World" "warms" "[I" ∈ sk_W := sk_m (i := 176) (by decide +kernel) (by decide +kernel)
theorem kw_177 : Cond.fieldLink RX4 31 "ScentCloth$World" "warms" "[I" ∈ sk_W := sk_m (i := 177) (by decide +kernel) (by decide +kernel)
theorem kw_178 : Cond.fieldLink RX6 146 "ScentCloth$World" "warms" "[I" ∈ sk_W := sk_m (i := 178) (by decide +kernel) (by decide +kernel)
theorem kw_179 : Cond.fieldLink RX5 32 "ScentCloth$World" "spots" "[[I" ∈ sk_W := sk_m (i := 179) (by decide +kernel) (by decide +kernel)
theorem kw_180 : Cond.fieldLink RX4 19 "ScentCloth$World" "spots" "[[I" ∈ sk_W := sk_m (i := 180) (by decide +kernel) (by decide +kernel)
theorem kw_181 : Cond.fieldLink RX6 142 "ScentCloth$World" "spots" "[[I" ∈ sk_W := sk_m (i := 181) (by decide +kernel) (by decide +kernel)
theorem kw_182 : Cond.fieldLink RX5 35 "ScentCloth$World" "counting" "[I" ∈ sk_W := sk_m (i := 182) (by decide +kernel) (by decide +kernel)
theorem kw_183 : Cond.fieldLink RX6 226 "ScentCloth$World" "counting" "[I" ∈ sk_W := sk_m (i := 183) (by decide +kernel) (by decide +kernel)
theorem kw_184 : Cond.fieldLink RX5 38 "ScentCloth$World" "stays" "[I" ∈ sk_W := sk_m (i := 184) (by decide +kernel) (by decide +kernel)
theorem kw_185 : Cond.fieldLink RX5 62 "ScentCloth$World" "scents" "I" ∈ sk_W := sk_m (i := 185) (by decide +kernel) (by decide +kernel)
theorem kw_186 : Cond.fieldLink RX6 110 "ScentCloth$World" "scents" "I" ∈ sk_W := sk_m (i := 186) (by decide +kernel) (by decide +kernel)
theorem kw_187 : Cond.fieldLink RX5 65 "ScentCloth$World" "words" "I" ∈ sk_W := sk_m (i := 187) (by decide +kernel) (by decide +kernel)
theorem kw_188 : Cond.fieldLink RX6 114 "ScentCloth$World" "words" "I" ∈ sk_W := sk_m (i := 188) (by decide +kernel) (by decide +kernel)
theorem kw_189 : Cond.fieldLink RX5 68 "ScentCloth$World" "cloths" "I" ∈ sk_W := sk_m (i := 189) (by decide +kernel) (by decide +kernel)
theorem kw_190 : Cond.fieldLink RX6 136 "ScentCloth$World" "cloths" "I" ∈ sk_W := sk_m (i := 190) (by decide +kernel) (by decide +kernel)
theorem kw_191 : Cond.fieldLink RX5 71 "ScentCloth$World" "texts" "I" ∈ sk_W := sk_m (i := 191) (by decide +kernel) (by decide +kernel)
theorem kw_192 : Cond.fieldLink RX6 247 "ScentCloth$World" "texts" "I" ∈ sk_W := sk_m (i := 192) (by decide +kernel) (by decide +kernel)
theorem kw_193 : Cond.fieldLink RX4 38 "ScentCloth$World" "today" "I" ∈ sk_W := sk_m (i := 193) (by decide +kernel) (by decide +kernel)
theorem kw_194 : Cond.fieldLink RX5 74 "ScentCloth$World" "today" "I" ∈ sk_W := sk_m (i := 194) (by decide +kernel) (by decide +kernel)
theorem kw_195 : Cond.fieldLink RX6 149 "ScentCloth$World" "today" "I" ∈ sk_W := sk_m (i := 195) (by decide +kernel) (by decide +kernel)
theorem kw_196 : Cond.fieldLink RX5 52 "ScentCloth$World" "z" "I" ∈ sk_W := sk_m (i := 196) (by decide +kernel) (by decide +kernel)
theorem kw_197 : Cond.fieldLink RX6 133 "ScentCloth$World" "z" "I" ∈ sk_W := sk_m (i := 197) (by decide +kernel) (by decide +kernel)
theorem kw_237 : Cond.fieldLink RX4 15 "ScentCloth$Thought" "world" "LScentCloth$World;" ∈ sk_W := sk_m (i := 237) (by decide +kernel) (by decide +kernel)
theorem kw_238 : Cond.fieldLink RX4 9 "ScentCloth$Thought" "row" "[I" ∈ sk_W := sk_m (i := 238) (by decide +kernel) (by decide +kernel)
theorem kw_239 : Cond.fieldLink RX4 34 "ScentCloth$Thought" "warm" "I" ∈ sk_W := sk_m (i := 239) (by decide +kernel) (by decide +kernel)
theorem kw_240 : Cond.fieldLink RX4 41 "ScentCloth$Thought" "day" "I" ∈ sk_W := sk_m (i := 240) (by decide +kernel) (by decide +kernel)
theorem kw_257 : Cond.fieldLink RX1 9 "ScentCloth$Sheet" "places" "[I" ∈ sk_W := sk_m (i := 257) (by decide +kernel) (by decide +kernel)
theorem kw_258 : Cond.fieldLink RX6 271 "ScentCloth$Sheet" "places" "[I" ∈ sk_W := sk_m (i := 258) (by decide +kernel) (by decide +kernel)
theorem kw_259 : Cond.fieldLink RX1 15 "ScentCloth$Sheet" "sort" "I" ∈ sk_W := sk_m (i := 259) (by decide +kernel) (by decide +kernel)
theorem kw_260 : Cond.fieldLink RX6 210 "ScentCloth$Sheet" "sort" "I" ∈ sk_W := sk_m (i := 260) (by decide +kernel) (by decide +kernel)
theorem kw_261 : Cond.fieldLink RX1 19 "ScentCloth$Sheet" "size" "I" ∈ sk_W := sk_m (i := 261) (by decide +kernel) (by decide +kernel)
theorem kw_262 : Cond.fieldLink RX6 267 "ScentCloth$Sheet" "size" "I" ∈ sk_W := sk_m (i := 262) (by decide +kernel) (by decide +kernel)
theorem kw_280 : Cond.fieldLink RX6 291 "ScentCloth$Slot" "row" "LScentCloth$Sheet;" ∈ sk_W := sk_m (i := 280) (by decide +kernel) (by decide +kernel)
theorem kw_282 : Cond.fieldLink RX6 282 "ScentCloth$Slot" "thing" "I" ∈ sk_W := sk_m (i := 282) (by decide +kernel) (by decide +kernel)
theorem kw_283 : Cond.fieldLink RX6 285 "ScentCloth$Slot" "kind" "I" ∈ sk_W := sk_m (i := 283) (by decide +kernel) (by decide +kernel)
theorem kw_284 : Cond.fieldLink RX6 288 "ScentCloth$Slot" "pace" "I" ∈ sk_W := sk_m (i := 284) (by decide +kernel) (by decide +kernel)
theorem kw_285 : Cond.fieldLink RX6 299 "ScentCloth$Slot" "number" "I" ∈ sk_W := sk_m (i := 285) (by decide +kernel) (by decide +kernel)
theorem kw_297 : Cond.fieldLink RX6 28 "ScentCloth" "now" "LScentCloth$World;" ∈ sk_W := sk_m (i := 297) (by decide +kernel) (by decide +kernel)
theorem kw_298 : Cond.fieldLink RX6 32 "ScentCloth" "image" "LScentCloth$World;" ∈ sk_W := sk_m (i := 298) (by decide +kernel) (by decide +kernel)
theorem kw_299 : Cond.fieldLink RX6 40 "ScentCloth" "ahead" "LScentCloth$Thought;" ∈ sk_W := sk_m (i := 299) (by decide +kernel) (by decide +kernel)
theorem kw_300 : Cond.fieldLink RX6 44 "ScentCloth" "recalled" "LScentCloth$Thought;" ∈ sk_W := sk_m (i := 300) (by decide +kernel) (by decide +kernel)
theorem kw_301 : Cond.fieldLink RX6 10 "ScentCloth" "library" "LScentCloth$Texts;" ∈ sk_W := sk_m (i := 301) (by decide +kernel) (by decide +kernel)
theorem kw_302 : Cond.fieldLink RX6 19 "ScentCloth" "reader" "LScentCloth$Reader;" ∈ sk_W := sk_m (i := 302) (by decide +kernel) (by decide +kernel)
theorem kw_303 : Cond.fieldLink RX6 49 "ScentCloth" "sheets" "[LScentCloth$Sheet;" ∈ sk_W := sk_m (i := 303) (by decide +kernel) (by decide +kernel)
theorem kw_304 : Cond.fieldLink RX6 56 "ScentCloth" "slots" "[LScentCloth$Slot;" ∈ sk_W := sk_m (i := 304) (by decide +kernel) (by decide +kernel)
theorem kw_305 : Cond.fieldLink RX6 61 "ScentCloth" "waiting" "[I" ∈ sk_W := sk_m (i := 305) (by decide +kernel) (by decide +kernel)
theorem kw_306 : Cond.fieldLink RX6 65 "ScentCloth" "fresh" "[I" ∈ sk_W := sk_m (i := 306) (by decide +kernel) (by decide +kernel)
theorem kw_307 : Cond.fieldLink RX6 68 "ScentCloth" "course" "[I" ∈ sk_W := sk_m (i := 307) (by decide +kernel) (by decide +kernel)
theorem kw_308 : Cond.fieldLink RX6 302 "ScentCloth" "waits" "I" ∈ sk_W := sk_m (i := 308) (by decide +kernel) (by decide +kernel)
theorem kw_309 : Cond.fieldLink RX6 305 "ScentCloth" "imageKept" "Z" ∈ sk_W := sk_m (i := 309) (by decide +kernel) (by decide +kernel)
theorem kw_341 : Cond.methodLink RX6 71 yX6_isKind ∈ sk_W := sk_m (i := 341) (by decide +kernel) (by decide +kernel)
theorem kw_342 : Cond.static yX6_isKind ∈ sk_W := sk_m (i := 342) (by decide +kernel) (by decide +kernel)
theorem kw_343 : Cond.code yX6_isKind cX6_isKind 1 (some .boolean) ∈ sk_W := sk_m (i := 343) (by decide +kernel) (by decide +kernel)
theorem kw_344 : Cond.methodLink RX6 75 yX6_within ∈ sk_W := sk_m (i := 344) (by decide +kernel) (by decide +kernel)
theorem kw_345 : Cond.static yX6_within ∈ sk_W := sk_m (i := 345) (by decide +kernel) (by decide +kernel)
theorem kw_346 : Cond.code yX6_within cX6_within 3 (some .boolean) ∈ sk_W := sk_m (i := 346) (by decide +kernel) (by decide +kernel)
theorem kw_347 : Cond.constant RX6 79 (-1000000001) ∈ sk_W := sk_m (i := 347) (by decide +kernel) (by decide +kernel)
theorem kw_348 : Cond.methodLink RX6 80 yX5_addScent ∈ sk_W := sk_m (i := 348) (by decide +kernel) (by decide +kernel)
theorem kw_349 : Cond.instanceMethod yX5_addScent ∈ sk_W := sk_m (i := 349) (by decide +kernel) (by decide +kernel)
theorem kw_350 : Cond.selects RX5 yX5_addScent yX5_addScent ∈ sk_W := sk_m (i := 350) (by decide +kernel) (by decide +kernel)
theorem kw_351 : Cond.code yX5_addScent cX5_addScent 3 (some .int) ∈ sk_W := sk_m (i := 351) (by decide +kernel) (by decide +kernel)
theorem kw_352 : Cond.constant RX5 77 (-1000000003) ∈ sk_W := sk_m (i := 352) (by decide +kernel) (by decide +kernel)
theorem kw_357 : Cond.methodLink RX6 84 yX6_isScent ∈ sk_W := sk_m (i := 357) (by decide +kernel) (by decide +kernel)
theorem kw_359 : Cond.instanceMethod yX6_isScent ∈ sk_W := sk_m (i := 359) (by decide +kernel) (by decide +kernel)
theorem kw_360 : Cond.code yX6_isScent cX6_isScent 2 (some .boolean) ∈ sk_W := sk_m (i := 360) (by decide +kernel) (by decide +kernel)
theorem kw_361 : Cond.methodLink RX6 93 yX6_worth ∈ sk_W := sk_m (i := 361) (by decide +kernel) (by decide +kernel)
theorem kw_362 : Cond.static yX6_worth ∈ sk_W := sk_m (i := 362) (by decide +kernel) (by decide +kernel)
theorem kw_363 : Cond.code yX6_worth cX6_worth 2 (some .int) ∈ sk_W := sk_m (i := 363) (by decide +kernel) (by decide +kernel)
theorem kw_368 : Cond.methodLink RX6 99 yX6_isUnder ∈ sk_W := sk_m (i := 368) (by decide +kernel) (by decide +kernel)
theorem kw_369 : Cond.static yX6_isUnder ∈ sk_W := sk_m (i := 369) (by decide +kernel) (by decide +kernel)
theorem kw_370 : Cond.code yX6_isUnder cX6_isUnder 4 (some .boolean) ∈ sk_W := sk_m (i := 370) (by decide +kernel) (by decide +kernel)
theorem kw_371 : Cond.fieldLink RX6 320 "ScentCloth" "KIND_ABOVE" "[I" ∈ sk_W := sk_m (i := 371) (by decide +kernel) (by decide +kernel)
theorem kw_373 : Cond.constant RX6 103 (-1000000012) ∈ sk_W := sk_m (i := 373) (by decide +kernel) (by decide +kernel)
theorem kw_390 : Cond.methodLink RX6 104 yX6_isNose ∈ sk_W := sk_m (i := 390) (by decide +kernel) (by decide +kernel)
theorem kw_391 : Cond.static yX6_isNose ∈ sk_W := sk_m (i := 391) (by decide +kernel) (by decide +kernel)
theorem kw_392 : Cond.code yX6_isNose cX6_isNose 1 (some .boolean) ∈ sk_W := sk_m (i := 392) (by decide +kernel) (by decide +kernel)
theorem kw_397 : Cond.constant RX6 117 (-1000000003) ∈ sk_W := sk_m (i := 397) (by decide +kernel) (by decide +kernel)
theorem kw_402 : Cond.methodLink RX6 121 yX6_isWord ∈ sk_W := sk_m (i := 402) (by decide +kernel) (by decide +kernel)
theorem kw_404 : Cond.instanceMethod yX6_isWord ∈ sk_W := sk_m (i := 404) (by decide +kernel) (by decide +kernel)
theorem kw_405 : Cond.code yX6_isWord cX6_isWord 2 (some .boolean) ∈ sk_W := sk_m (i := 405) (by decide +kernel) (by decide +kernel)
theorem kw_410 : Cond.methodLink RX6 124 Lib.Math.min.name ∈ sk_W := sk_m (i := 410) (by decide +kernel) (by decide +kernel)
theorem kw_411 : Cond.static Lib.Math.min.name ∈ sk_W := sk_m (i := 411) (by decide +kernel) (by decide +kernel)
theorem kw_412 : Cond.code Lib.Math.min.name Lib.Math.min.code 2 (some .int) ∈ sk_W := sk_m (i := 412) (by decide +kernel) (by decide +kernel)
theorem kw_413 : Cond.methodLink RX6 129 yX5_draw ∈ sk_W := sk_m (i := 413) (by decide +kernel) (by decide +kernel)
theorem kw_414 : Cond.instanceMethod yX5_draw ∈ sk_W := sk_m (i := 414) (by decide +kernel) (by decide +kernel)
theorem kw_415 : Cond.selects RX5 yX5_draw yX5_draw ∈ sk_W := sk_m (i := 415) (by decide +kernel) (by decide +kernel)
theorem kw_416 : Cond.code yX5_draw cX5_draw 1 (some .int) ∈ sk_W := sk_m (i := 416) (by decide +kernel) (by decide +kernel)
theorem kw_417 : Cond.constant RX5 78 (1103515245) ∈ sk_W := sk_m (i := 417) (by decide +kernel) (by decide +kernel)
theorem kw_430 : Cond.methodLink RX6 139 yX6_isSpot ∈ sk_W := sk_m (i := 430) (by decide +kernel) (by decide +kernel)
theorem kw_432 : Cond.instanceMethod yX6_isSpot ∈ sk_W := sk_m (i := 432) (by decide +kernel) (by decide +kernel)
theorem kw_433 : Cond.code yX6_isSpot cX6_isSpot 3 (some .boolean) ∈ sk_W := sk_m (i := 433) (by decide +kernel) (by decide +kernel)
theorem kw_434 : Cond.methodLink RX6 160 yX6_isCloth ∈ sk_W := sk_m (i := 434) (by decide +kernel) (by decide +kernel)
theorem kw_436 : Cond.instanceMethod yX6_isCloth ∈ sk_W := sk_m (i := 436) (by decide +kernel) (by decide +kernel)
theorem kw_437 : Cond.code yX6_isCloth cX6_isCloth 2 (some .boolean) ∈ sk_W := sk_m (i := 437) (by decide +kernel) (by decide +kernel)
theorem kw_442 : Cond.methodLink RX6 152 yX5_loss ∈ sk_W := sk_m (i := 442) (by decide +kernel) (by decide +kernel)
theorem kw_443 : Cond.instanceMethod yX5_loss ∈ sk_W := sk_m (i := 443) (by decide +kernel) (by decide +kernel)
theorem kw_444 : Cond.selects RX5 yX5_loss yX5_loss ∈ sk_W := sk_m (i := 444) (by decide +kernel) (by decide +kernel)
theorem kw_445 : Cond.code yX5_loss cX5_loss 10 (some .int) ∈ sk_W := sk_m (i := 445) (by decide +kernel) (by decide +kernel)
theorem kw_446 : Cond.methodLink RX5 79 yX3_give ∈ sk_W := sk_m (i := 446) (by decide +kernel) (by decide +kernel)
theorem kw_447 : Cond.instanceMethod yX3_give ∈ sk_W := sk_m (i := 447) (by decide +kernel) (by decide +kernel)
theorem kw_448 : Cond.selects RX3 yX3_give yX3_give ∈ sk_W := sk_m (i := 448) (by decide +kernel) (by decide +kernel)
theorem kw_449 : Cond.code yX3_give cX3_give 8 (some .int) ∈ sk_W := sk_m (i := 449) (by decide +kernel) (by decide +kernel)
theorem kw_450 : Cond.methodLink RX3 48 yX3_named ∈ sk_W := sk_m (i := 450) (by decide +kernel) (by decide +kernel)
theorem kw_451 : Cond.static yX3_named ∈ sk_W := sk_m (i := 451) (by decide +kernel) (by decide +kernel)
theorem kw_452 : Cond.code yX3_named cX3_named 5 (some .int) ∈ sk_W := sk_m (i := 452) (by decide +kernel) (by decide +kernel)
theorem kw_453 : Cond.methodLink RX3 52 yX3_join ∈ sk_W := sk_m (i := 453) (by decide +kernel) (by decide +kernel)
theorem kw_454 : Cond.static yX3_join ∈ sk_W := sk_m (i := 454) (by decide +kernel) (by decide +kernel)
theorem kw_455 : Cond.code yX3_join cX3_join 3 (some .int) ∈ sk_W := sk_m (i := 455) (by decide +kernel) (by decide +kernel)
theorem kw_456 : Cond.methodLink RX5 85 Lib.Math.min.name ∈ sk_W := sk_m (i := 456) (by decide +kernel) (by decide +kernel)
theorem kw_457 : Cond.methodLink RX5 91 Lib.Math.max.name ∈ sk_W := sk_m (i := 457) (by decide +kernel) (by decide +kernel)
theorem kw_458 : Cond.static Lib.Math.max.name ∈ sk_W := sk_m (i := 458) (by decide +kernel) (by decide +kernel)
theorem kw_459 : Cond.code Lib.Math.max.name Lib.Math.max.code 2 (some .int) ∈ sk_W := sk_m (i := 459) (by decide +kernel) (by decide +kernel)
theorem kw_464 : Cond.methodLink RX6 156 yX6_held ∈ sk_W := sk_m (i := 464) (by decide +kernel) (by decide +kernel)
theorem kw_465 : Cond.static yX6_held ∈ sk_W := sk_m (i := 465) (by decide +kernel) (by decide +kernel)
theorem kw_466 : Cond.code yX6_held cX6_held 1 (some .int) ∈ sk_W := sk_m (i := 466) (by decide +kernel) (by decide +kernel)
theorem kw_467 : Cond.methodLink RX6 317 Lib.Math.max.name ∈ sk_W := sk_m (i := 467) (by decide +kernel) (by decide +kernel)
theorem kw_476 : Cond.methodLink RX6 163 yX5_putSpot ∈ sk_W := sk_m (i := 476) (by decide +kernel) (by decide +kernel)
theorem kw_477 : Cond.instanceMethod yX5_putSpot ∈ sk_W := sk_m (i := 477) (by decide +kernel) (by decide +kernel)
theorem kw_478 : Cond.selects RX5 yX5_putSpot yX5_putSpot ∈ sk_W := sk_m (i := 478) (by decide +kernel) (by decide +kernel)
theorem kw_479 : Cond.code yX5_putSpot cX5_putSpot 5 (some .int) ∈ sk_W := sk_m (i := 479) (by decide +kernel) (by decide +kernel)
theorem kw_484 : Cond.methodLink RX6 167 yX5_passDay ∈ sk_W := sk_m (i := 484) (by decide +kernel) (by decide +kernel)
theorem kw_485 : Cond.instanceMethod yX5_passDay ∈ sk_W := sk_m (i := 485) (by decide +kernel) (by decide +kernel)
theorem kw_486 : Cond.selects RX5 yX5_passDay yX5_passDay ∈ sk_W := sk_m (i := 486) (by decide +kernel) (by decide +kernel)
theorem kw_487 : Cond.code yX5_passDay cX5_passDay 2 none ∈ sk_W := sk_m (i := 487) (by decide +kernel) (by decide +kernel)
theorem kw_488 : Cond.methodLink RX5 97 yX5_fadeRow ∈ sk_W := sk_m (i := 488) (by decide +kernel) (by decide +kernel)
theorem kw_489 : Cond.instanceMethod yX5_fadeRow ∈ sk_W := sk_m (i := 489) (by decide +kernel) (by decide +kernel)
theorem kw_490 : Cond.selects RX5 yX5_fadeRow yX5_fadeRow ∈ sk_W := sk_m (i := 490) (by decide +kernel) (by decide +kernel)
theorem kw_491 : Cond.code yX5_fadeRow cX5_fadeRow 5 none ∈ sk_W := sk_m (i := 491) (by decide +kernel) (by decide +kernel)
theorem kw_492 : Cond.methodLink RX5 94 yX5_loss ∈ sk_W := sk_m (i := 492) (by decide +kernel) (by decide +kernel)
theorem kw_497 : Cond.methodLink RX6 170 yX5_smelled ∈ sk_W := sk_m (i := 497) (by decide +kernel) (by decide +kernel)
theorem kw_498 : Cond.instanceMethod yX5_smelled ∈ sk_W := sk_m (i := 498) (by decide +kernel) (by decide +kernel)
theorem kw_499 : Cond.selects RX5 yX5_smelled yX5_smelled ∈ sk_W := sk_m (i := 499) (by decide +kernel) (by decide +kernel)
theorem kw_500 : Cond.code yX5_smelled cX5_smelled 5 (some .int) ∈ sk_W := sk_m (i := 500) (by decide +kernel) (by decide +kernel)
theorem kw_501 : Cond.methodLink RX5 101 yX5_isHidden ∈ sk_W := sk_m (i := 501) (by decide +kernel) (by decide +kernel)
theorem kw_502 : Cond.instanceMethod yX5_isHidden ∈ sk_W := sk_m (i := 502) (by decide +kernel) (by decide +kernel)
theorem kw_503 : Cond.selects RX5 yX5_isHidden yX5_isHidden ∈ sk_W := sk_m (i := 503) (by decide +kernel) (by decide +kernel)
theorem kw_504 : Cond.code yX5_isHidden cX5_isHidden 4 (some .boolean) ∈ sk_W := sk_m (i := 504) (by decide +kernel) (by decide +kernel)
theorem kw_509 : Cond.methodLink RX6 174 yX5_said ∈ sk_W := sk_m (i := 509) (by decide +kernel) (by decide +kernel)
theorem kw_510 : Cond.instanceMethod yX5_said ∈ sk_W := sk_m (i := 510) (by decide +kernel) (by decide +kernel)
theorem kw_511 : Cond.selects RX5 yX5_said yX5_said ∈ sk_W := sk_m (i := 511) (by decide +kernel) (by decide +kernel)
theorem kw_512 : Cond.code yX5_said cX5_said 5 (some .int) ∈ sk_W := sk_m (i := 512) (by decide +kernel) (by decide +kernel)
theorem kw_513 : Cond.methodLink RX5 105 yX5_smelled ∈ sk_W := sk_m (i := 513) (by decide +kernel) (by decide +kernel)
theorem kw_518 : Cond.methodLink RX6 177 yX4_begin ∈ sk_W := sk_m (i := 518) (by decide +kernel) (by decide +kernel)
theorem kw_519 : Cond.instanceMethod yX4_begin ∈ sk_W := sk_m (i := 519) (by decide +kernel) (by decide +kernel)
theorem kw_520 : Cond.selects RX4 yX4_begin yX4_begin ∈ sk_W := sk_m (i := 520) (by decide +kernel) (by decide +kernel)
theorem kw_521 : Cond.code yX4_begin cX4_begin 2 none ∈ sk_W := sk_m (i := 521) (by decide +kernel) (by decide +kernel)
theorem kw_522 : Cond.methodLink RX4 25 arraycopyName ∈ sk_W := sk_m (i := 522) (by decide +kernel) (by decide +kernel)
theorem kw_523 : Cond.static arraycopyName ∈ sk_W := sk_m (i := 523) (by decide +kernel) (by decide +kernel)
theorem kw_524 : Cond.native arraycopyName ∈ sk_W := sk_m (i := 524) (by decide +kernel) (by decide +kernel)
theorem kw_525 : Cond.methodLink RX6 181 yX4_passDays ∈ sk_W := sk_m (i := 525) (by decide +kernel) (by decide +kernel)
theorem kw_526 : Cond.instanceMethod yX4_passDays ∈ sk_W := sk_m (i := 526) (by decide +kernel) (by decide +kernel)
theorem kw_527 : Cond.selects RX4 yX4_passDays yX4_passDays ∈ sk_W := sk_m (i := 527) (by decide +kernel) (by decide +kernel)
theorem kw_528 : Cond.code yX4_passDays cX4_passDays 3 none ∈ sk_W := sk_m (i := 528) (by decide +kernel) (by decide +kernel)
theorem kw_529 : Cond.methodLink RX4 48 yX4_passDay ∈ sk_W := sk_m (i := 529) (by decide +kernel) (by decide +kernel)
theorem kw_530 : Cond.instanceMethod yX4_passDay ∈ sk_W := sk_m (i := 530) (by decide +kernel) (by decide +kernel)
theorem kw_531 : Cond.selects RX4 yX4_passDay yX4_passDay ∈ sk_W := sk_m (i := 531) (by decide +kernel) (by decide +kernel)
theorem kw_532 : Cond.code yX4_passDay cX4_passDay 1 none ∈ sk_W := sk_m (i := 532) (by decide +kernel) (by decide +kernel)
theorem kw_533 : Cond.methodLink RX4 44 yX5_fadeRow ∈ sk_W := sk_m (i := 533) (by decide +kernel) (by decide +kernel)
theorem kw_534 : Cond.methodLink RX6 184 yX4_saidTo ∈ sk_W := sk_m (i := 534) (by decide +kernel) (by decide +kernel)
theorem kw_535 : Cond.instanceMethod yX4_saidTo ∈ sk_W := sk_m (i := 535) (by decide +kernel) (by decide +kernel)
theorem kw_536 : Cond.selects RX4 yX4_saidTo yX4_saidTo ∈ sk_W := sk_m (i := 536) (by decide +kernel) (by decide +kernel)
theorem kw_537 : Cond.code yX4_saidTo cX4_saidTo 2 (some .int) ∈ sk_W := sk_m (i := 537) (by decide +kernel) (by decide +kernel)
theorem kw_538 : Cond.methodLink RX4 55 yX5_said ∈ sk_W := sk_m (i := 538) (by decide +kernel) (by decide +kernel)
theorem kw_543 : Cond.methodLink RX6 187 yX4_passDay ∈ sk_W := sk_m (i := 543) (by decide +kernel) (by decide +kernel)
theorem kw_544 : Cond.constant RX6 188 (-1000000005) ∈ sk_W := sk_m (i := 544) (by decide +kernel) (by decide +kernel)
theorem kw_553 : Cond.methodLink RX6 189 yJ6_bitCount_0f7a4 ∈ sk_W := sk_m (i := 553) (by decide +kernel) (by decide +kernel)
theorem kw_554 : Cond.static yJ6_bitCount_0f7a4 ∈ sk_W := sk_m (i := 554) (by decide +kernel) (by decide +kernel)
theorem kw_555 : Cond.code yJ6_bitCount_0f7a4 cJ6_bitCount_0f7a4 1 (some .int) ∈ sk_W := sk_m (i := 555) (by decide +kernel) (by decide +kernel)
theorem kw_556 : Cond.constant RJ6 265 (1431655765) ∈ sk_W := sk_m (i := 556) (by decide +kernel) (by decide +kernel)
theorem kw_557 : Cond.constant RJ6 266 (858993459) ∈ sk_W := sk_m (i := 557) (by decide +kernel) (by decide +kernel)
theorem kw_558 : Cond.constant RJ6 267 (252645135) ∈ sk_W := sk_m (i := 558) (by decide +kernel) (by decide +kernel)
theorem kw_563 : Cond.methodLink RX6 194 yX4_smelledBy ∈ sk_W := sk_m (i := 563) (by decide +kernel) (by decide +kernel)
theorem kw_564 : Cond.instanceMethod yX4_smelledBy ∈ sk_W := sk_m (i := 564) (by decide +kernel) (by decide +kernel)
theorem kw_565 : Cond.selects RX4 yX4_smelledBy yX4_smelledBy ∈ sk_W := sk_m (i := 565) (by decide +kernel) (by decide +kernel)
theorem kw_566 : Cond.code yX4_smelledBy cX4_smelledBy 2 (some .int) ∈ sk_W := sk_m (i := 566) (by decide +kernel) (by decide +kernel)
theorem kw_567 : Cond.methodLink RX4 51 yX5_smelled ∈ sk_W := sk_m (i := 567) (by decide +kernel) (by decide +kernel)
theorem kw_576 : Cond.methodLink RX6 197 yX5_leastLeft ∈ sk_W := sk_m (i := 576) (by decide +kernel) (by decide +kernel)
theorem kw_577 : Cond.instanceMethod yX5_leastLeft ∈ sk_W := sk_m (i := 577) (by decide +kernel) (by decide +kernel)
theorem kw_578 : Cond.selects RX5 yX5_leastLeft yX5_leastLeft ∈ sk_W := sk_m (i := 578) (by decide +kernel) (by decide +kernel)
theorem kw_579 : Cond.code yX5_leastLeft cX5_leastLeft 10 (some .int) ∈ sk_W := sk_m (i := 579) (by decide +kernel) (by decide +kernel)
theorem kw_580 : Cond.methodLink RX5 113 yX5_fadings ∈ sk_W := sk_m (i := 580) (by decide +kernel) (by decide +kernel)
theorem kw_581 : Cond.instanceMethod yX5_fadings ∈ sk_W := sk_m (i := 581) (by decide +kernel) (by decide +kernel)
theorem kw_582 : Cond.selects RX5 yX5_fadings yX5_fadings ∈ sk_W := sk_m (i := 582) (by decide +kernel) (by decide +kernel)
theorem kw_583 : Cond.code yX5_fadings cX5_fadings 3 (some .int) ∈ sk_W := sk_m (i := 583) (by decide +kernel) (by decide +kernel)
theorem kw_588 : Cond.constant RX6 200 (-1000000002) ∈ sk_W := sk_m (i := 588) (by decide +kernel) (by decide +kernel)
theorem kw_589 : Cond.methodLink RX6 201 arraycopyName ∈ sk_W := sk_m (i := 589) (by decide +kernel) (by decide +kernel)
theorem kw_594 : Cond.methodLink RX6 207 yX6_isSheet ∈ sk_W := sk_m (i := 594) (by decide +kernel) (by decide +kernel)
theorem kw_595 : Cond.static yX6_isSheet ∈ sk_W := sk_m (i := 595) (by decide +kernel) (by decide +kernel)
theorem kw_596 : Cond.code yX6_isSheet cX6_isSheet 1 (some .boolean) ∈ sk_W := sk_m (i := 596) (by decide +kernel) (by decide +kernel)
theorem kw_597 : Cond.constant RX6 213 (-1000000011) ∈ sk_W := sk_m (i := 597) (by decide +kernel) (by decide +kernel)
theorem kw_598 : Cond.methodLink RX6 214 yX6_followCourse ∈ sk_W := sk_m (i := 598) (by decide +kernel) (by decide +kernel)
theorem kw_600 : Cond.instanceMethod yX6_followCourse ∈ sk_W := sk_m (i := 600) (by decide +kernel) (by decide +kernel)
theorem kw_601 : Cond.code yX6_followCourse cX6_followCourse 5 none ∈ sk_W := sk_m (i := 601) (by decide +kernel) (by decide +kernel)
theorem kw_602 : Cond.methodLink RX6 218 yX6_differences ∈ sk_W := sk_m (i := 602) (by decide +kernel) (by decide +kernel)
theorem kw_604 : Cond.instanceMethod yX6_differences ∈ sk_W := sk_m (i := 604) (by decide +kernel) (by decide +kernel)
theorem kw_605 : Cond.code yX6_differences cX6_differences 5 (some .int) ∈ sk_W := sk_m (i := 605) (by decide +kernel) (by decide +kernel)
theorem kw_606 : Cond.methodLink RX6 323 Lib.Math.abs.name ∈ sk_W := sk_m (i := 606) (by decide +kernel) (by decide +kernel)
theorem kw_607 : Cond.static Lib.Math.abs.name ∈ sk_W := sk_m (i := 607) (by decide +kernel) (by decide +kernel)
theorem kw_608 : Cond.code Lib.Math.abs.name Lib.Math.abs.code 1 (some .int) ∈ sk_W := sk_m (i := 608) (by decide +kernel) (by decide +kernel)
theorem kw_613 : Cond.methodLink RX6 222 yX5_sumOf ∈ sk_W := sk_m (i := 613) (by decide +kernel) (by decide +kernel)
theorem kw_614 : Cond.instanceMethod yX5_sumOf ∈ sk_W := sk_m (i := 614) (by decide +kernel) (by decide +kernel)
theorem kw_615 : Cond.selects RX5 yX5_sumOf yX5_sumOf ∈ sk_W := sk_m (i := 615) (by decide +kernel) (by decide +kernel)
theorem kw_616 : Cond.code yX5_sumOf cX5_sumOf 4 (some .int) ∈ sk_W := sk_m (i := 616) (by decide +kernel) (by decide +kernel)
theorem kw_617 : Cond.methodLink RX6 229 yX5_present ∈ sk_W := sk_m (i := 617) (by decide +kernel) (by decide +kernel)
theorem kw_618 : Cond.instanceMethod yX5_present ∈ sk_W := sk_m (i := 618) (by decide +kernel) (by decide +kernel)
theorem kw_619 : Cond.selects RX5 yX5_present yX5_present ∈ sk_W := sk_m (i := 619) (by decide +kernel) (by decide +kernel)
theorem kw_620 : Cond.code yX5_present cX5_present 4 (some .int) ∈ sk_W := sk_m (i := 620) (by decide +kernel) (by decide +kernel)
theorem kw_621 : Cond.methodLink RX6 232 yX3_give ∈ sk_W := sk_m (i := 621) (by decide +kernel) (by decide +kernel)
theorem kw_626 : Cond.methodLink RX6 235 yX6_wordOr99 ∈ sk_W := sk_m (i := 626) (by decide +kernel) (by decide +kernel)
theorem kw_627 : Cond.static yX6_wordOr99 ∈ sk_W := sk_m (i := 627) (by decide +kernel) (by decide +kernel)
theorem kw_628 : Cond.code yX6_wordOr99 cX6_wordOr99 1 (some .int) ∈ sk_W := sk_m (i := 628) (by decide +kernel) (by decide +kernel)
theorem kw_633 : Cond.methodLink RX6 241 yX0_takeBytes ∈ sk_W := sk_m (i := 633) (by decide +kernel) (by decide +kernel)
theorem kw_634 : Cond.instanceMethod yX0_takeBytes ∈ sk_W := sk_m (i := 634) (by decide +kernel) (by decide +kernel)
theorem kw_635 : Cond.selects RX0 yX0_takeBytes yX0_takeBytes ∈ sk_W := sk_m (i := 635) (by decide +kernel) (by decide +kernel)
theorem kw_636 : Cond.code yX0_takeBytes cX0_takeBytes 3 none ∈ sk_W := sk_m (i := 636) (by decide +kernel) (by decide +kernel)
theorem kw_645 : Cond.methodLink RX6 244 yX0_readTape ∈ sk_W := sk_m (i := 645) (by decide +kernel) (by decide +kernel)
theorem kw_646 : Cond.instanceMethod yX0_readTape ∈ sk_W := sk_m (i := 646) (by decide +kernel) (by decide +kernel)
theorem kw_647 : Cond.selects RX0 yX0_readTape yX0_readTape ∈ sk_W := sk_m (i := 647) (by decide +kernel) (by decide +kernel)
theorem kw_648 : Cond.code yX0_readTape cX0_readTape 1 (some .int) ∈ sk_W := sk_m (i := 648) (by decide +kernel) (by decide +kernel)
theorem kw_649 : Cond.methodLink RX0 34 yX0_moveOn ∈ sk_W := sk_m (i := 649) (by decide +kernel) (by decide +kernel)
theorem kw_651 : Cond.instanceMethod yX0_moveOn ∈ sk_W := sk_m (i := 651) (by decide +kernel) (by decide +kernel)
theorem kw_652 : Cond.code yX0_moveOn cX0_moveOn 1 none ∈ sk_W := sk_m (i := 652) (by decide +kernel) (by decide +kernel)
theorem kw_653 : Cond.methodLink RX0 54 yX0_isLetter ∈ sk_W := sk_m (i := 653) (by decide +kernel) (by decide +kernel)
theorem kw_654 : Cond.static yX0_isLetter ∈ sk_W := sk_m (i := 654) (by decide +kernel) (by decide +kernel)
theorem kw_655 : Cond.code yX0_isLetter cX0_isLetter 1 (some .boolean) ∈ sk_W := sk_m (i := 655) (by decide +kernel) (by decide +kernel)
theorem kw_656 : Cond.methodLink RX0 58 yX0_isDigit ∈ sk_W := sk_m (i := 656) (by decide +kernel) (by decide +kernel)
theorem kw_657 : Cond.static yX0_isDigit ∈ sk_W := sk_m (i := 657) (by decide +kernel) (by decide +kernel)
theorem kw_658 : Cond.code yX0_isDigit cX0_isDigit 1 (some .boolean) ∈ sk_W := sk_m (i := 658) (by decide +kernel) (by decide +kernel)
theorem kw_659 : Cond.methodLink RX0 44 yX0_fail ∈ sk_W := sk_m (i := 659) (by decide +kernel) (by decide +kernel)
theorem kw_661 : Cond.instanceMethod yX0_fail ∈ sk_W := sk_m (i := 661) (by decide +kernel) (by decide +kernel)
theorem kw_662 : Cond.code yX0_fail cX0_fail 1 none ∈ sk_W := sk_m (i := 662) (by decide +kernel) (by decide +kernel)
theorem kw_663 : Cond.methodLink RX0 37 yX0_keyHere ∈ sk_W := sk_m (i := 663) (by decide +kernel) (by decide +kernel)
theorem kw_665 : Cond.instanceMethod yX0_keyHere ∈ sk_W := sk_m (i := 665) (by decide +kernel) (by decide +kernel)
theorem kw_666 : Cond.code yX0_keyHere cX0_keyHere 1 (some .int) ∈ sk_W := sk_m (i := 666) (by decide +kernel) (by decide +kernel)
theorem kw_668 : Cond.methodLink RX0 63 yX0_isHere ∈ sk_W := sk_m (i := 668) (by decide +kernel) (by decide +kernel)
theorem kw_670 : Cond.instanceMethod yX0_isHere ∈ sk_W := sk_m (i := 670) (by decide +kernel) (by decide +kernel)
theorem kw_671 : Cond.code yX0_isHere cX0_isHere 3 (some .boolean) ∈ sk_W := sk_m (i := 671) (by decide +kernel) (by decide +kernel)
theorem kw_672 : Cond.methodLink RX0 71 yJ0_length_8abf5 ∈ sk_W := sk_m (i := 672) (by decide +kernel) (by decide +kernel)
theorem kw_673 : Cond.instanceMethod yJ0_length_8abf5 ∈ sk_W := sk_m (i := 673) (by decide +kernel) (by decide +kernel)
theorem kw_674 : Cond.selects RJ0 yJ0_length_8abf5 yJ0_length_8abf5 ∈ sk_W := sk_m (i := 674) (by decide +kernel) (by decide +kernel)
theorem kw_675 : Cond.code yJ0_length_8abf5 cJ0_length_8abf5 1 (some .int) ∈ sk_W := sk_m (i := 675) (by decide +kernel) (by decide +kernel)
theorem kw_676 : Cond.methodLink RJ0 335 yJ0_coder_7d493 ∈ sk_W := sk_m (i := 676) (by decide +kernel) (by decide +kernel)
theorem kw_677 : Cond.instanceMethod yJ0_coder_7d493 ∈ sk_W := sk_m (i := 677) (by decide +kernel) (by decide +kernel)
theorem kw_678 : Cond.selects RJ0 yJ0_coder_7d493 yJ0_coder_7d493 ∈ sk_W := sk_m (i := 678) (by decide +kernel) (by decide +kernel)
theorem kw_679 : Cond.code yJ0_coder_7d493 cJ0_coder_7d493 1 (some .byte) ∈ sk_W := sk_m (i := 679) (by decide +kernel) (by decide +kernel)
theorem kw_680 : Cond.fieldLink RJ0 38 "java/lang/String" "COMPACT_STRINGS" "Z" ∈ sk_W := sk_m (i := 680) (by decide +kernel) (by decide +kernel)
theorem kw_682 : Cond.methodLink RX0 75 yJ0_charAt_5068e ∈ sk_W := sk_m (i := 682) (by decide +kernel) (by decide +kernel)
theorem kw_683 : Cond.instanceMethod yJ0_charAt_5068e ∈ sk_W := sk_m (i := 683) (by decide +kernel) (by decide +kernel)
theorem kw_684 : Cond.selects RJ0 yJ0_charAt_5068e yJ0_charAt_5068e ∈ sk_W := sk_m (i := 684) (by decide +kernel) (by decide +kernel)
theorem kw_685 : Cond.code yJ0_charAt_5068e cJ0_charAt_5068e 2 (some .char) ∈ sk_W := sk_m (i := 685) (by decide +kernel) (by decide +kernel)
theorem kw_686 : Cond.methodLink RJ0 492 yJ0_isLatin1_aae02 ∈ sk_W := sk_m (i := 686) (by decide +kernel) (by decide +kernel)
theorem kw_687 : Cond.instanceMethod yJ0_isLatin1_aae02 ∈ sk_W := sk_m (i := 687) (by decide +kernel) (by decide +kernel)
theorem kw_688 : Cond.selects RJ0 yJ0_isLatin1_aae02 yJ0_isLatin1_aae02 ∈ sk_W := sk_m (i := 688) (by decide +kernel) (by decide +kernel)
theorem kw_689 : Cond.code yJ0_isLatin1_aae02 cJ0_isLatin1_aae02 1 (some .boolean) ∈ sk_W := sk_m (i := 689) (by decide +kernel) (by decide +kernel)
theorem kw_690 : Cond.methodLink RJ0 495 yJ1_charAt_3b067 ∈ sk_W := sk_m (i := 690) (by decide +kernel) (by decide +kernel)
theorem kw_691 : Cond.static yJ1_charAt_3b067 ∈ sk_W := sk_m (i := 691) (by decide +kernel) (by decide +kernel)
theorem kw_692 : Cond.code yJ1_charAt_3b067 cJ1_charAt_3b067 2 (some .char) ∈ sk_W := sk_m (i := 692) (by decide +kernel) (by decide +kernel)
theorem kw_693 : Cond.methodLink RJ1 9 yJ0_checkIndex_df160 ∈ sk_W := sk_m (i := 693) (by decide +kernel) (by decide +kernel)
theorem kw_694 : Cond.static yJ0_checkIndex_df160 ∈ sk_W := sk_m (i := 694) (by decide +kernel) (by decide +kernel)
theorem kw_695 : Cond.code yJ0_checkIndex_df160 cJ0_checkIndex_df160 2 none ∈ sk_W := sk_m (i := 695) (by decide +kernel) (by decide +kernel)
theorem kw_696 : Cond.fieldLink RJ0 1053 "jdk/internal/util/Preconditions" "SIOOBE_FORMATTER" "Ljava/util/function/BiFunction;" ∈ sk_W := sk_m (i := 696) (by decide +kernel) (by decide +kernel)
theorem kw_698 : Cond.methodLink RJ0 1059 yJ3_checkIndex_8e157 ∈ sk_W := sk_m (i := 698) (by decide +kernel) (by decide +kernel)
theorem kw_699 : Cond.static yJ3_checkIndex_8e157 ∈ sk_W := sk_m (i := 699) (by decide +kernel) (by decide +kernel)
theorem kw_700 : Cond.code yJ3_checkIndex_8e157 cJ3_checkIndex_8e157 3 (some .int) ∈ sk_W := sk_m (i := 700) (by decide +kernel) (by decide +kernel)
theorem kw_722 : Cond.methodLink RX0 47 yX0_readLevel ∈ sk_W := sk_m (i := 722) (by decide +kernel) (by decide +kernel)
theorem kw_724 : Cond.instanceMethod yX0_readLevel ∈ sk_W := sk_m (i := 724) (by decide +kernel) (by decide +kernel)
theorem kw_725 : Cond.code yX0_readLevel cX0_readLevel 7 none ∈ sk_W := sk_m (i := 725) (by decide +kernel) (by decide +kernel)
theorem kw_726 : Cond.methodLink RX0 93 yX0_readPiece ∈ sk_W := sk_m (i := 726) (by decide +kernel) (by decide +kernel)
theorem kw_728 : Cond.instanceMethod yX0_readPiece ∈ sk_W := sk_m (i := 728) (by decide +kernel) (by decide +kernel)
theorem kw_729 : Cond.code yX0_readPiece cX0_readPiece 3 none ∈ sk_W := sk_m (i := 729) (by decide +kernel) (by decide +kernel)
theorem kw_731 : Cond.methodLink RX0 101 yX0_isSignOf ∈ sk_W := sk_m (i := 731) (by decide +kernel) (by decide +kernel)
theorem kw_733 : Cond.instanceMethod yX0_isSignOf ∈ sk_W := sk_m (i := 733) (by decide +kernel) (by decide +kernel)
theorem kw_734 : Cond.code yX0_isSignOf cX0_isSignOf 2 (some .boolean) ∈ sk_W := sk_m (i := 734) (by decide +kernel) (by decide +kernel)
theorem kw_735 : Cond.methodLink RX0 79 yJ0_indexOf_0f7a4 ∈ sk_W := sk_m (i := 735) (by decide +kernel) (by decide +kernel)
theorem kw_736 : Cond.instanceMethod yJ0_indexOf_0f7a4 ∈ sk_W := sk_m (i := 736) (by decide +kernel) (by decide +kernel)
theorem kw_737 : Cond.selects RJ0 yJ0_indexOf_0f7a4 yJ0_indexOf_0f7a4 ∈ sk_W := sk_m (i := 737) (by decide +kernel) (by decide +kernel)
theorem kw_738 : Cond.code yJ0_indexOf_0f7a4 cJ0_indexOf_0f7a4 2 (some .int) ∈ sk_W := sk_m (i := 738) (by decide +kernel) (by decide +kernel)
theorem kw_739 : Cond.methodLink RJ0 633 yJ0_indexOf_7cf53 ∈ sk_W := sk_m (i := 739) (by decide +kernel) (by decide +kernel)
theorem kw_740 : Cond.instanceMethod yJ0_indexOf_7cf53 ∈ sk_W := sk_m (i := 740) (by decide +kernel) (by decide +kernel)
theorem kw_741 : Cond.selects RJ0 yJ0_indexOf_7cf53 yJ0_indexOf_7cf53 ∈ sk_W := sk_m (i := 741) (by decide +kernel) (by decide +kernel)
theorem kw_742 : Cond.code yJ0_indexOf_7cf53 cJ0_indexOf_7cf53 3 (some .int) ∈ sk_W := sk_m (i := 742) (by decide +kernel) (by decide +kernel)
theorem kw_743 : Cond.methodLink RJ0 505 yJ0_length_8abf5 ∈ sk_W := sk_m (i := 743) (by decide +kernel) (by decide +kernel)
theorem kw_744 : Cond.methodLink RJ0 637 yJ1_indexOf_4cfef ∈ sk_W := sk_m (i := 744) (by decide +kernel) (by decide +kernel)
theorem kw_745 : Cond.static yJ1_indexOf_4cfef ∈ sk_W := sk_m (i := 745) (by decide +kernel) (by decide +kernel)
theorem kw_746 : Cond.code yJ1_indexOf_4cfef cJ1_indexOf_4cfef 4 (some .int) ∈ sk_W := sk_m (i := 746) (by decide +kernel) (by decide +kernel)
theorem kw_747 : Cond.methodLink RJ1 88 yJ1_canEncode_9a6ad ∈ sk_W := sk_m (i := 747) (by decide +kernel) (by decide +kernel)
theorem kw_748 : Cond.static yJ1_canEncode_9a6ad ∈ sk_W := sk_m (i := 748) (by decide +kernel) (by decide +kernel)
theorem kw_749 : Cond.code yJ1_canEncode_9a6ad cJ1_canEncode_9a6ad 1 (some .boolean) ∈ sk_W := sk_m (i := 749) (by decide +kernel) (by decide +kernel)
theorem kw_750 : Cond.methodLink RJ1 92 Lib.Math.max.name ∈ sk_W := sk_m (i := 750) (by decide +kernel) (by decide +kernel)
theorem kw_751 : Cond.methodLink RJ1 38 Lib.Math.min.name ∈ sk_W := sk_m (i := 751) (by decide +kernel) (by decide +kernel)
theorem kw_752 : Cond.methodLink RJ1 95 yJ1_indexOfChar_4cfef ∈ sk_W := sk_m (i := 752) (by decide +kernel) (by decide +kernel)
theorem kw_753 : Cond.static yJ1_indexOfChar_4cfef ∈ sk_W := sk_m (i := 753) (by decide +kernel) (by decide +kernel)
theorem kw_754 : Cond.code yJ1_indexOfChar_4cfef cJ1_indexOfChar_4cfef 6 (some .int) ∈ sk_W := sk_m (i := 754) (by decide +kernel) (by decide +kernel)
theorem kw_790 : Cond.methodLink RX0 104 yX0_put ∈ sk_W := sk_m (i := 790) (by decide +kernel) (by decide +kernel)
theorem kw_792 : Cond.instanceMethod yX0_put ∈ sk_W := sk_m (i := 792) (by decide +kernel) (by decide +kernel)
theorem kw_793 : Cond.code yX0_put cX0_put 2 none ∈ sk_W := sk_m (i := 793) (by decide +kernel) (by decide +kernel)
theorem kw_796 : Cond.methodLink RX0 114 yX0_readLeaf ∈ sk_W := sk_m (i := 796) (by decide +kernel) (by decide +kernel)
theorem kw_798 : Cond.instanceMethod yX0_readLeaf ∈ sk_W := sk_m (i := 798) (by decide +kernel) (by decide +kernel)
theorem kw_799 : Cond.code yX0_readLeaf cX0_readLeaf 2 none ∈ sk_W := sk_m (i := 799) (by decide +kernel) (by decide +kernel)
theorem kw_800 : Cond.methodLink RX0 117 yX0_leafCode ∈ sk_W := sk_m (i := 800) (by decide +kernel) (by decide +kernel)
theorem kw_802 : Cond.instanceMethod yX0_leafCode ∈ sk_W := sk_m (i := 802) (by decide +kernel) (by decide +kernel)
theorem kw_803 : Cond.code yX0_leafCode cX0_leafCode 3 (some .int) ∈ sk_W := sk_m (i := 803) (by decide +kernel) (by decide +kernel)
theorem kw_804 : Cond.methodLink RX0 120 yX0_numberHere ∈ sk_W := sk_m (i := 804) (by decide +kernel) (by decide +kernel)
theorem kw_806 : Cond.instanceMethod yX0_numberHere ∈ sk_W := sk_m (i := 806) (by decide +kernel) (by decide +kernel)
theorem kw_807 : Cond.code yX0_numberHere cX0_numberHere 3 (some .int) ∈ sk_W := sk_m (i := 807) (by decide +kernel) (by decide +kernel)
theorem kw_808 : Cond.methodLink RX0 123 yX0_names ∈ sk_W := sk_m (i := 808) (by decide +kernel) (by decide +kernel)
theorem kw_810 : Cond.instanceMethod yX0_names ∈ sk_W := sk_m (i := 810) (by decide +kernel) (by decide +kernel)
theorem kw_811 : Cond.code yX0_names cX0_names 1 (some (.object "java/lang/String")) ∈ sk_W := sk_m (i := 811) (by decide +kernel) (by decide +kernel)
theorem kw_815 : Cond.methodLink RX0 97 yX0_signsOf ∈ sk_W := sk_m (i := 815) (by decide +kernel) (by decide +kernel)
theorem kw_816 : Cond.static yX0_signsOf ∈ sk_W := sk_m (i := 816) (by decide +kernel) (by decide +kernel)
theorem kw_817 : Cond.code yX0_signsOf cX0_signsOf 1 (some (.object "java/lang/String")) ∈ sk_W := sk_m (i := 817) (by decide +kernel) (by decide +kernel)
theorem kw_823 : Cond.methodLink RX6 250 yX3_store ∈ sk_W := sk_m (i := 823) (by decide +kernel) (by decide +kernel)
theorem kw_824 : Cond.instanceMethod yX3_store ∈ sk_W := sk_m (i := 824) (by decide +kernel) (by decide +kernel)
theorem kw_825 : Cond.selects RX3 yX3_store yX3_store ∈ sk_W := sk_m (i := 825) (by decide +kernel) (by decide +kernel)
theorem kw_826 : Cond.code yX3_store cX3_store 3 none ∈ sk_W := sk_m (i := 826) (by decide +kernel) (by decide +kernel)
theorem kw_827 : Cond.methodLink RX3 37 arraycopyName ∈ sk_W := sk_m (i := 827) (by decide +kernel) (by decide +kernel)
theorem kw_841 : Cond.methodLink RX6 263 yX1_becomeRow ∈ sk_W := sk_m (i := 841) (by decide +kernel) (by decide +kernel)
theorem kw_842 : Cond.instanceMethod yX1_becomeRow ∈ sk_W := sk_m (i := 842) (by decide +kernel) (by decide +kernel)
theorem kw_843 : Cond.selects RX1 yX1_becomeRow yX1_becomeRow ∈ sk_W := sk_m (i := 843) (by decide +kernel) (by decide +kernel)
theorem kw_844 : Cond.code yX1_becomeRow cX1_becomeRow 3 none ∈ sk_W := sk_m (i := 844) (by decide +kernel) (by decide +kernel)
theorem kw_845 : Cond.methodLink RX1 22 yJ7_fill_53178 ∈ sk_W := sk_m (i := 845) (by decide +kernel) (by decide +kernel)
theorem kw_846 : Cond.constant RX6 266 (-1000000014) ∈ sk_W := sk_m (i := 846) (by decide +kernel) (by decide +kernel)
theorem kw_851 : Cond.constant RX6 270 (-1000000013) ∈ sk_W := sk_m (i := 851) (by decide +kernel) (by decide +kernel)
theorem kw_852 : Cond.constant RX6 274 (-99999) ∈ sk_W := sk_m (i := 852) (by decide +kernel) (by decide +kernel)
theorem kw_853 : Cond.constant RX6 275 (99999) ∈ sk_W := sk_m (i := 853) (by decide +kernel) (by decide +kernel)
theorem kw_862 : Cond.methodLink RX6 276 yX1_hasPlaces ∈ sk_W := sk_m (i := 862) (by decide +kernel) (by decide +kernel)
theorem kw_863 : Cond.instanceMethod yX1_hasPlaces ∈ sk_W := sk_m (i := 863) (by decide +kernel) (by decide +kernel)
theorem kw_864 : Cond.selects RX1 yX1_hasPlaces yX1_hasPlaces ∈ sk_W := sk_m (i := 864) (by decide +kernel) (by decide +kernel)
theorem kw_865 : Cond.code yX1_hasPlaces cX1_hasPlaces 3 (some .boolean) ∈ sk_W := sk_m (i := 865) (by decide +kernel) (by decide +kernel)
theorem kw_870 : Cond.methodLink RX6 279 yX6_isSlot ∈ sk_W := sk_m (i := 870) (by decide +kernel) (by decide +kernel)
theorem kw_871 : Cond.static yX6_isSlot ∈ sk_W := sk_m (i := 871) (by decide +kernel) (by decide +kernel)
theorem kw_872 : Cond.code yX6_isSlot cX6_isSlot 1 (some .boolean) ∈ sk_W := sk_m (i := 872) (by decide +kernel) (by decide +kernel)
theorem kw_873 : Cond.methodLink RX6 295 yX1_becomeLike ∈ sk_W := sk_m (i := 873) (by decide +kernel) (by decide +kernel)
theorem kw_874 : Cond.instanceMethod yX1_becomeLike ∈ sk_W := sk_m (i := 874) (by decide +kernel) (by decide +kernel)
theorem kw_875 : Cond.selects RX1 yX1_becomeLike yX1_becomeLike ∈ sk_W := sk_m (i := 875) (by decide +kernel) (by decide +kernel)
theorem kw_876 : Cond.code yX1_becomeLike cX1_becomeLike 2 none ∈ sk_W := sk_m (i := 876) (by decide +kernel) (by decide +kernel)
theorem kw_877 : Cond.methodLink RX1 28 arraycopyName ∈ sk_W := sk_m (i := 877) (by decide +kernel) (by decide +kernel)
theorem kw_898 : Cond.methodLink RX6 309 yX6_rightAhead ∈ sk_W := sk_m (i := 898) (by decide +kernel) (by decide +kernel)
theorem kw_900 : Cond.instanceMethod yX6_rightAhead ∈ sk_W := sk_m (i := 900) (by decide +kernel) (by decide +kernel)
theorem kw_901 : Cond.code yX6_rightAhead cX6_rightAhead 5 (some .int) ∈ sk_W := sk_m (i := 901) (by decide +kernel) (by decide +kernel)
theorem kw_902 : Cond.methodLink RX6 326 yX4_sum ∈ sk_W := sk_m (i := 902) (by decide +kernel) (by decide +kernel)
theorem kw_903 : Cond.instanceMethod yX4_sum ∈ sk_W := sk_m (i := 903) (by decide +kernel) (by decide +kernel)
theorem kw_904 : Cond.selects RX4 yX4_sum yX4_sum ∈ sk_W := sk_m (i := 904) (by decide +kernel) (by decide +kernel)
theorem kw_905 : Cond.code yX4_sum cX4_sum 1 (some .int) ∈ sk_W := sk_m (i := 905) (by decide +kernel) (by decide +kernel)
theorem kw_906 : Cond.methodLink RX4 58 yX5_sumOf ∈ sk_W := sk_m (i := 906) (by decide +kernel) (by decide +kernel)
theorem kw_911 : Cond.methodLink RX6 312 yX5_becomeLike ∈ sk_W := sk_m (i := 911) (by decide +kernel) (by decide +kernel)
theorem kw_912 : Cond.instanceMethod yX5_becomeLike ∈ sk_W := sk_m (i := 912) (by decide +kernel) (by decide +kernel)
theorem kw_913 : Cond.selects RX5 yX5_becomeLike yX5_becomeLike ∈ sk_W := sk_m (i := 913) (by decide +kernel) (by decide +kernel)
theorem kw_914 : Cond.code yX5_becomeLike cX5_becomeLike 3 none ∈ sk_W := sk_m (i := 914) (by decide +kernel) (by decide +kernel)
theorem kw_915 : Cond.methodLink RX5 56 arraycopyName ∈ sk_W := sk_m (i := 915) (by decide +kernel) (by decide +kernel)
theorem kw_924 : Cond.methodLink RX6 314 yX5_sumOfAll ∈ sk_W := sk_m (i := 924) (by decide +kernel) (by decide +kernel)
theorem kw_925 : Cond.instanceMethod yX5_sumOfAll ∈ sk_W := sk_m (i := 925) (by decide +kernel) (by decide +kernel)
theorem kw_926 : Cond.selects RX5 yX5_sumOfAll yX5_sumOfAll ∈ sk_W := sk_m (i := 926) (by decide +kernel) (by decide +kernel)
theorem kw_927 : Cond.code yX5_sumOfAll cX5_sumOfAll 3 (some .int) ∈ sk_W := sk_m (i := 927) (by decide +kernel) (by decide +kernel)
theorem kw_928 : Cond.methodLink RX5 109 yX5_sumOf ∈ sk_W := sk_m (i := 928) (by decide +kernel) (by decide +kernel)
theorem kw_935 : Cond.fieldLink RX7 7 "ScentClothModel" "s" "[I" ∈ sk_W := sk_m (i := 935) (by decide +kernel) (by decide +kernel)
theorem kw_936 : Cond.fieldLink RX7 13 "ScentClothModel" "image" "[I" ∈ sk_W := sk_m (i := 936) (by decide +kernel) (by decide +kernel)
theorem kw_937 : Cond.fieldLink RX7 16 "ScentClothModel" "aside" "[I" ∈ sk_W := sk_m (i := 937) (by decide +kernel) (by decide +kernel)
theorem kw_938 : Cond.fieldLink RX7 318 "ScentClothModel" "hasImage" "Z" ∈ sk_W := sk_m (i := 938) (by decide +kernel) (by decide +kernel)
theorem kw_939 : Cond.fieldLink RX7 19 "ScentClothModel" "tSort" "[I" ∈ sk_W := sk_m (i := 939) (by decide +kernel) (by decide +kernel)
theorem kw_940 : Cond.fieldLink RX7 22 "ScentClothModel" "tSize" "[I" ∈ sk_W := sk_m (i := 940) (by decide +kernel) (by decide +kernel)
theorem kw_941 : Cond.fieldLink RX7 25 "ScentClothModel" "tNumber" "[I" ∈ sk_W := sk_m (i := 941) (by decide +kernel) (by decide +kernel)
theorem kw_942 : Cond.fieldLink RX7 28 "ScentClothModel" "held" "[I" ∈ sk_W := sk_m (i := 942) (by decide +kernel) (by decide +kernel)
theorem kw_943 : Cond.fieldLink RX7 31 "ScentClothModel" "heldNumber" "[I" ∈ sk_W := sk_m (i := 943) (by decide +kernel) (by decide +kernel)
theorem kw_944 : Cond.fieldLink RX7 34 "ScentClothModel" "heldWorth" "[I" ∈ sk_W := sk_m (i := 944) (by decide +kernel) (by decide +kernel)
theorem kw_945 : Cond.fieldLink RX7 37 "ScentClothModel" "heldSize" "[I" ∈ sk_W := sk_m (i := 945) (by decide +kernel) (by decide +kernel)
theorem kw_946 : Cond.fieldLink RX7 40 "ScentClothModel" "heldRow" "[I" ∈ sk_W := sk_m (i := 946) (by decide +kernel) (by decide +kernel)
theorem kw_947 : Cond.fieldLink RX7 43 "ScentClothModel" "close" "[I" ∈ sk_W := sk_m (i := 947) (by decide +kernel) (by decide +kernel)
theorem kw_948 : Cond.fieldLink RX7 46 "ScentClothModel" "written" "[I" ∈ sk_W := sk_m (i := 948) (by decide +kernel) (by decide +kernel)
theorem kw_949 : Cond.fieldLink RX7 49 "ScentClothModel" "tape" "[I" ∈ sk_W := sk_m (i := 949) (by decide +kernel) (by decide +kernel)
theorem kw_950 : Cond.fieldLink RX7 192 "ScentClothModel" "taped" "I" ∈ sk_W := sk_m (i := 950) (by decide +kernel) (by decide +kernel)
theorem kw_951 : Cond.fieldLink RX7 210 "ScentClothModel" "begin" "I" ∈ sk_W := sk_m (i := 951) (by decide +kernel) (by decide +kernel)
theorem kw_952 : Cond.fieldLink RX7 204 "ScentClothModel" "behind" "I" ∈ sk_W := sk_m (i := 952) (by decide +kernel) (by decide +kernel)
theorem kw_953 : Cond.fieldLink RX7 207 "ScentClothModel" "token" "I" ∈ sk_W := sk_m (i := 953) (by decide +kernel) (by decide +kernel)
theorem kw_954 : Cond.fieldLink RX7 222 "ScentClothModel" "number" "I" ∈ sk_W := sk_m (i := 954) (by decide +kernel) (by decide +kernel)
theorem kw_955 : Cond.fieldLink RX7 216 "ScentClothModel" "letter" "I" ∈ sk_W := sk_m (i := 955) (by decide +kernel) (by decide +kernel)
theorem kw_956 : Cond.fieldLink RX7 272 "ScentClothModel" "deep" "I" ∈ sk_W := sk_m (i := 956) (by decide +kernel) (by decide +kernel)
theorem kw_957 : Cond.fieldLink RX7 269 "ScentClothModel" "turned" "I" ∈ sk_W := sk_m (i := 957) (by decide +kernel) (by decide +kernel)
theorem kw_958 : Cond.fieldLink RX7 236 "ScentClothModel" "laid" "I" ∈ sk_W := sk_m (i := 958) (by decide +kernel) (by decide +kernel)
theorem kw_959 : Cond.fieldLink RX7 233 "ScentClothModel" "laidAt" "I" ∈ sk_W := sk_m (i := 959) (by decide +kernel) (by decide +kernel)
theorem kw_960 : Cond.fieldLink RX7 263 "ScentClothModel" "said" "I" ∈ sk_W := sk_m (i := 960) (by decide +kernel) (by decide +kernel)
theorem kw_961 : Cond.fieldLink RX7 52 "ScentClothModel" "named" "[I" ∈ sk_W := sk_m (i := 961) (by decide +kernel) (by decide +kernel)
theorem kw_962 : Cond.fieldLink RX7 55 "ScentClothModel" "pile" "[I" ∈ sk_W := sk_m (i := 962) (by decide +kernel) (by decide +kernel)
theorem kw_963 : Cond.fieldLink RX7 58 "ScentClothModel" "byDay" "[I" ∈ sk_W := sk_m (i := 963) (by decide +kernel) (by decide +kernel)
theorem kw_964 : Cond.fieldLink RX7 61 "ScentClothModel" "carried" "[I" ∈ sk_W := sk_m (i := 964) (by decide +kernel) (by decide +kernel)
theorem kw_965 : Cond.fieldLink RX7 64 "ScentClothModel" "waits" "[I" ∈ sk_W := sk_m (i := 965) (by decide +kernel) (by decide +kernel)
theorem kw_966 : Cond.fieldLink RX7 313 "ScentClothModel" "waiting" "I" ∈ sk_W := sk_m (i := 966) (by decide +kernel) (by decide +kernel)
theorem kw_967 : Cond.fieldLink RX7 67 "ScentClothModel" "rowDue" "[I" ∈ sk_W := sk_m (i := 967) (by decide +kernel) (by decide +kernel)
theorem kw_1039 : Cond.constantLong RX7 76 (5) ∈ sk_W := sk_m (i := 1039) (by decide +kernel) (by decide +kernel)
theorem kw_1040 : Cond.methodLink RX7 71 yX7_isIn ∈ sk_W := sk_m (i := 1040) (by decide +kernel) (by decide +kernel)
theorem kw_1041 : Cond.static yX7_isIn ∈ sk_W := sk_m (i := 1041) (by decide +kernel) (by decide +kernel)
theorem kw_1042 : Cond.code yX7_isIn cX7_isIn 6 (some .boolean) ∈ sk_W := sk_m (i := 1042) (by decide +kernel) (by decide +kernel)
theorem kw_1043 : Cond.constantLong RX7 78 (50) ∈ sk_W := sk_m (i := 1043) (by decide +kernel) (by decide +kernel)
theorem kw_1044 : Cond.constant RX7 80 (-1000000001) ∈ sk_W := sk_m (i := 1044) (by decide +kernel) (by decide +kernel)
theorem kw_1045 : Cond.constant RX7 81 (-1000000003) ∈ sk_W := sk_m (i := 1045) (by decide +kernel) (by decide +kernel)
theorem kw_1046 : Cond.methodLink RX7 82 yX7_comes ∈ sk_W := sk_m (i := 1046) (by decide +kernel) (by decide +kernel)
theorem kw_1048 : Cond.instanceMethod yX7_comes ∈ sk_W := sk_m (i := 1048) (by decide +kernel) (by decide +kernel)
theorem kw_1049 : Cond.code yX7_comes cX7_comes 6 none ∈ sk_W := sk_m (i := 1049) (by decide +kernel) (by decide +kernel)
theorem kw_1054 : Cond.methodLink RX7 107 yX7_isScent ∈ sk_W := sk_m (i := 1054) (by decide +kernel) (by decide +kernel)
theorem kw_1056 : Cond.instanceMethod yX7_isScent ∈ sk_W := sk_m (i := 1056) (by decide +kernel) (by decide +kernel)
theorem kw_1057 : Cond.code yX7_isScent cX7_isScent 2 (some .boolean) ∈ sk_W := sk_m (i := 1057) (by decide +kernel) (by decide +kernel)
theorem kw_1058 : Cond.constantLong RX7 111 (3) ∈ sk_W := sk_m (i := 1058) (by decide +kernel) (by decide +kernel)
theorem kw_1059 : Cond.methodLink RX7 86 yX7_of ∈ sk_W := sk_m (i := 1059) (by decide +kernel) (by decide +kernel)
theorem kw_1061 : Cond.instanceMethod yX7_of ∈ sk_W := sk_m (i := 1061) (by decide +kernel) (by decide +kernel)
theorem kw_1062 : Cond.code yX7_of cX7_of 3 (some .int) ∈ sk_W := sk_m (i := 1062) (by decide +kernel) (by decide +kernel)
theorem kw_1063 : Cond.methodLink RX7 113 yX7_worth ∈ sk_W := sk_m (i := 1063) (by decide +kernel) (by decide +kernel)
theorem kw_1065 : Cond.instanceMethod yX7_worth ∈ sk_W := sk_m (i := 1065) (by decide +kernel) (by decide +kernel)
theorem kw_1066 : Cond.code yX7_worth cX7_worth 3 (some .int) ∈ sk_W := sk_m (i := 1066) (by decide +kernel) (by decide +kernel)
theorem kw_1071 : Cond.methodLink RX7 116 yX7_isOf ∈ sk_W := sk_m (i := 1071) (by decide +kernel) (by decide +kernel)
theorem kw_1072 : Cond.static yX7_isOf ∈ sk_W := sk_m (i := 1072) (by decide +kernel) (by decide +kernel)
theorem kw_1073 : Cond.code yX7_isOf cX7_isOf 2 (some .boolean) ∈ sk_W := sk_m (i := 1073) (by decide +kernel) (by decide +kernel)
theorem kw_1074 : Cond.constant RX7 120 (-1000000012) ∈ sk_W := sk_m (i := 1074) (by decide +kernel) (by decide +kernel)
theorem kw_1079 : Cond.methodLink RX7 121 yX7_becomes ∈ sk_W := sk_m (i := 1079) (by decide +kernel) (by decide +kernel)
theorem kw_1081 : Cond.instanceMethod yX7_becomes ∈ sk_W := sk_m (i := 1081) (by decide +kernel) (by decide +kernel)
theorem kw_1082 : Cond.code yX7_becomes cX7_becomes 4 (some .int) ∈ sk_W := sk_m (i := 1082) (by decide +kernel) (by decide +kernel)
theorem kw_1095 : Cond.methodLink RX7 124 yX7_isNose ∈ sk_W := sk_m (i := 1095) (by decide +kernel) (by decide +kernel)
theorem kw_1096 : Cond.static yX7_isNose ∈ sk_W := sk_m (i := 1096) (by decide +kernel) (by decide +kernel)
theorem kw_1097 : Cond.code yX7_isNose cX7_isNose 1 (some .boolean) ∈ sk_W := sk_m (i := 1097) (by decide +kernel) (by decide +kernel)
theorem kw_1098 : Cond.constantLong RX7 127 (999) ∈ sk_W := sk_m (i := 1098) (by decide +kernel) (by decide +kernel)
theorem kw_1107 : Cond.methodLink RX7 129 yX7_isSaid ∈ sk_W := sk_m (i := 1107) (by decide +kernel) (by decide +kernel)
theorem kw_1109 : Cond.instanceMethod yX7_isSaid ∈ sk_W := sk_m (i := 1109) (by decide +kernel) (by decide +kernel)
theorem kw_1110 : Cond.code yX7_isSaid cX7_isSaid 2 (some .boolean) ∈ sk_W := sk_m (i := 1110) (by decide +kernel) (by decide +kernel)
theorem kw_1115 : Cond.constantLong RX7 132 (9) ∈ sk_W := sk_m (i := 1115) (by decide +kernel) (by decide +kernel)
theorem kw_1116 : Cond.methodLink RX7 134 yX7_drawn ∈ sk_W := sk_m (i := 1116) (by decide +kernel) (by decide +kernel)
theorem kw_1118 : Cond.instanceMethod yX7_drawn ∈ sk_W := sk_m (i := 1118) (by decide +kernel) (by decide +kernel)
theorem kw_1119 : Cond.code yX7_drawn cX7_drawn 1 (some .int) ∈ sk_W := sk_m (i := 1119) (by decide +kernel) (by decide +kernel)
theorem kw_1120 : Cond.constant RX7 75 (1103515245) ∈ sk_W := sk_m (i := 1120) (by decide +kernel) (by decide +kernel)
theorem kw_1133 : Cond.methodLink RX7 138 yX7_isCloth ∈ sk_W := sk_m (i := 1133) (by decide +kernel) (by decide +kernel)
theorem kw_1135 : Cond.instanceMethod yX7_isCloth ∈ sk_W := sk_m (i := 1135) (by decide +kernel) (by decide +kernel)
theorem kw_1136 : Cond.code yX7_isCloth cX7_isCloth 2 (some .boolean) ∈ sk_W := sk_m (i := 1136) (by decide +kernel) (by decide +kernel)
theorem kw_1137 : Cond.methodLink RX7 100 yX7_on ∈ sk_W := sk_m (i := 1137) (by decide +kernel) (by decide +kernel)
theorem kw_1139 : Cond.instanceMethod yX7_on ∈ sk_W := sk_m (i := 1139) (by decide +kernel) (by decide +kernel)
theorem kw_1140 : Cond.code yX7_on cX7_on 3 (some .int) ∈ sk_W := sk_m (i := 1140) (by decide +kernel) (by decide +kernel)
theorem kw_1145 : Cond.methodLink RX7 141 yX7_losesOn ∈ sk_W := sk_m (i := 1145) (by decide +kernel) (by decide +kernel)
theorem kw_1147 : Cond.instanceMethod yX7_losesOn ∈ sk_W := sk_m (i := 1147) (by decide +kernel) (by decide +kernel)
theorem kw_1148 : Cond.code yX7_losesOn cX7_losesOn 3 (some .int) ∈ sk_W := sk_m (i := 1148) (by decide +kernel) (by decide +kernel)
theorem kw_1149 : Cond.methodLink RX7 103 yX7_losesBy ∈ sk_W := sk_m (i := 1149) (by decide +kernel) (by decide +kernel)
theorem kw_1151 : Cond.instanceMethod yX7_losesBy ∈ sk_W := sk_m (i := 1151) (by decide +kernel) (by decide +kernel)
theorem kw_1152 : Cond.code yX7_losesBy cX7_losesBy 7 (some .int) ∈ sk_W := sk_m (i := 1152) (by decide +kernel) (by decide +kernel)
theorem kw_1153 : Cond.methodLink RX7 90 yX7_counts ∈ sk_W := sk_m (i := 1153) (by decide +kernel) (by decide +kernel)
theorem kw_1155 : Cond.instanceMethod yX7_counts ∈ sk_W := sk_m (i := 1155) (by decide +kernel) (by decide +kernel)
theorem kw_1156 : Cond.code yX7_counts cX7_counts 4 (some .int) ∈ sk_W := sk_m (i := 1156) (by decide +kernel) (by decide +kernel)
theorem kw_1157 : Cond.methodLink RX7 278 yX7_textAt ∈ sk_W := sk_m (i := 1157) (by decide +kernel) (by decide +kernel)
theorem kw_1159 : Cond.instanceMethod yX7_textAt ∈ sk_W := sk_m (i := 1159) (by decide +kernel) (by decide +kernel)
theorem kw_1160 : Cond.code yX7_textAt cX7_textAt 2 (some .int) ∈ sk_W := sk_m (i := 1160) (by decide +kernel) (by decide +kernel)
theorem kw_1161 : Cond.methodLink RX7 94 yX7_worked ∈ sk_W := sk_m (i := 1161) (by decide +kernel) (by decide +kernel)
theorem kw_1163 : Cond.instanceMethod yX7_worked ∈ sk_W := sk_m (i := 1163) (by decide +kernel) (by decide +kernel)
theorem kw_1164 : Cond.code yX7_worked cX7_worked 6 (some .int) ∈ sk_W := sk_m (i := 1164) (by decide +kernel) (by decide +kernel)
theorem kw_1165 : Cond.methodLink RX7 292 yX7_joined ∈ sk_W := sk_m (i := 1165) (by decide +kernel) (by decide +kernel)
theorem kw_1166 : Cond.static yX7_joined ∈ sk_W := sk_m (i := 1166) (by decide +kernel) (by decide +kernel)
theorem kw_1167 : Cond.code yX7_joined cX7_joined 3 (some .int) ∈ sk_W := sk_m (i := 1167) (by decide +kernel) (by decide +kernel)
theorem kw_1168 : Cond.methodLink RX7 97 yX7_within ∈ sk_W := sk_m (i := 1168) (by decide +kernel) (by decide +kernel)
theorem kw_1169 : Cond.static yX7_within ∈ sk_W := sk_m (i := 1169) (by decide +kernel) (by decide +kernel)
theorem kw_1170 : Cond.code yX7_within cX7_within 2 (some .int) ∈ sk_W := sk_m (i := 1170) (by decide +kernel) (by decide +kernel)
theorem kw_1175 : Cond.constantLong RX7 144 (-999) ∈ sk_W := sk_m (i := 1175) (by decide +kernel) (by decide +kernel)
theorem kw_1188 : Cond.constantLong RX7 146 (60) ∈ sk_W := sk_m (i := 1188) (by decide +kernel) (by decide +kernel)
theorem kw_1189 : Cond.methodLink RX7 148 yX7_goesOn ∈ sk_W := sk_m (i := 1189) (by decide +kernel) (by decide +kernel)
theorem kw_1191 : Cond.instanceMethod yX7_goesOn ∈ sk_W := sk_m (i := 1191) (by decide +kernel) (by decide +kernel)
theorem kw_1192 : Cond.code yX7_goesOn cX7_goesOn 3 none ∈ sk_W := sk_m (i := 1192) (by decide +kernel) (by decide +kernel)
theorem kw_1197 : Cond.methodLink RX7 151 yX7_smeltOn ∈ sk_W := sk_m (i := 1197) (by decide +kernel) (by decide +kernel)
theorem kw_1199 : Cond.instanceMethod yX7_smeltOn ∈ sk_W := sk_m (i := 1199) (by decide +kernel) (by decide +kernel)
theorem kw_1200 : Cond.code yX7_smeltOn cX7_smeltOn 7 (some .int) ∈ sk_W := sk_m (i := 1200) (by decide +kernel) (by decide +kernel)
theorem kw_1205 : Cond.methodLink RX7 154 yX7_saidBy ∈ sk_W := sk_m (i := 1205) (by decide +kernel) (by decide +kernel)
theorem kw_1207 : Cond.instanceMethod yX7_saidBy ∈ sk_W := sk_m (i := 1207) (by decide +kernel) (by decide +kernel)
theorem kw_1208 : Cond.code yX7_saidBy cX7_saidBy 5 (some .int) ∈ sk_W := sk_m (i := 1208) (by decide +kernel) (by decide +kernel)
theorem kw_1209 : Cond.methodLink RX7 157 yX7_orNone ∈ sk_W := sk_m (i := 1209) (by decide +kernel) (by decide +kernel)
theorem kw_1210 : Cond.static yX7_orNone ∈ sk_W := sk_m (i := 1210) (by decide +kernel) (by decide +kernel)
theorem kw_1211 : Cond.code yX7_orNone cX7_orNone 1 (some .int) ∈ sk_W := sk_m (i := 1211) (by decide +kernel) (by decide +kernel)
theorem kw_1212 : Cond.constant RX7 70 (-1000000005) ∈ sk_W := sk_m (i := 1212) (by decide +kernel) (by decide +kernel)
theorem kw_1217 : Cond.constantLong RX7 160 (300) ∈ sk_W := sk_m (i := 1217) (by decide +kernel) (by decide +kernel)
theorem kw_1218 : Cond.methodLink RX7 162 yX7_laysBy ∈ sk_W := sk_m (i := 1218) (by decide +kernel) (by decide +kernel)
theorem kw_1220 : Cond.instanceMethod yX7_laysBy ∈ sk_W := sk_m (i := 1220) (by decide +kernel) (by decide +kernel)
theorem kw_1221 : Cond.code yX7_laysBy cX7_laysBy 2 none ∈ sk_W := sk_m (i := 1221) (by decide +kernel) (by decide +kernel)
theorem kw_1222 : Cond.methodLink RX7 165 yX7_goesOnMany ∈ sk_W := sk_m (i := 1222) (by decide +kernel) (by decide +kernel)
theorem kw_1224 : Cond.instanceMethod yX7_goesOnMany ∈ sk_W := sk_m (i := 1224) (by decide +kernel) (by decide +kernel)
theorem kw_1225 : Cond.code yX7_goesOnMany cX7_goesOnMany 3 none ∈ sk_W := sk_m (i := 1225) (by decide +kernel) (by decide +kernel)
theorem kw_1226 : Cond.methodLink RX7 169 yX7_laysBack ∈ sk_W := sk_m (i := 1226) (by decide +kernel) (by decide +kernel)
theorem kw_1228 : Cond.instanceMethod yX7_laysBack ∈ sk_W := sk_m (i := 1228) (by decide +kernel) (by decide +kernel)
theorem kw_1229 : Cond.code yX7_laysBack cX7_laysBack 2 none ∈ sk_W := sk_m (i := 1229) (by decide +kernel) (by decide +kernel)
theorem kw_1238 : Cond.constantLong RX7 172 (200) ∈ sk_W := sk_m (i := 1238) (by decide +kernel) (by decide +kernel)
theorem kw_1243 : Cond.methodLink RX7 174 yX7_ones ∈ sk_W := sk_m (i := 1243) (by decide +kernel) (by decide +kernel)
theorem kw_1244 : Cond.static yX7_ones ∈ sk_W := sk_m (i := 1244) (by decide +kernel) (by decide +kernel)
theorem kw_1245 : Cond.code yX7_ones cX7_ones 3 (some .int) ∈ sk_W := sk_m (i := 1245) (by decide +kernel) (by decide +kernel)
theorem kw_1258 : Cond.constantLong RX7 180 (100) ∈ sk_W := sk_m (i := 1258) (by decide +kernel) (by decide +kernel)
theorem kw_1259 : Cond.methodLink RX7 182 yX7_leastOf ∈ sk_W := sk_m (i := 1259) (by decide +kernel) (by decide +kernel)
theorem kw_1261 : Cond.instanceMethod yX7_leastOf ∈ sk_W := sk_m (i := 1261) (by decide +kernel) (by decide +kernel)
theorem kw_1262 : Cond.code yX7_leastOf cX7_leastOf 6 (some .int) ∈ sk_W := sk_m (i := 1262) (by decide +kernel) (by decide +kernel)
theorem kw_1263 : Cond.methodLink RX7 177 yX7_leftOf ∈ sk_W := sk_m (i := 1263) (by decide +kernel) (by decide +kernel)
theorem kw_1265 : Cond.instanceMethod yX7_leftOf ∈ sk_W := sk_m (i := 1265) (by decide +kernel) (by decide +kernel)
theorem kw_1266 : Cond.code yX7_leftOf cX7_leftOf 7 (some .int) ∈ sk_W := sk_m (i := 1266) (by decide +kernel) (by decide +kernel)
theorem kw_1271 : Cond.constant RX7 185 (-1000000002) ∈ sk_W := sk_m (i := 1271) (by decide +kernel) (by decide +kernel)
theorem kw_1276 : Cond.methodLink RX7 186 yX7_allOn ∈ sk_W := sk_m (i := 1276) (by decide +kernel) (by decide +kernel)
theorem kw_1278 : Cond.instanceMethod yX7_allOn ∈ sk_W := sk_m (i := 1278) (by decide +kernel) (by decide +kernel)
theorem kw_1279 : Cond.code yX7_allOn cX7_allOn 4 (some .int) ∈ sk_W := sk_m (i := 1279) (by decide +kernel) (by decide +kernel)
theorem kw_1284 : Cond.methodLink RX7 189 yX7_saidOr ∈ sk_W := sk_m (i := 1284) (by decide +kernel) (by decide +kernel)
theorem kw_1286 : Cond.instanceMethod yX7_saidOr ∈ sk_W := sk_m (i := 1286) (by decide +kernel) (by decide +kernel)
theorem kw_1287 : Cond.code yX7_saidOr cX7_saidOr 3 (some .int) ∈ sk_W := sk_m (i := 1287) (by decide +kernel) (by decide +kernel)
theorem kw_1300 : Cond.methodLink RX7 284 yX7_parse ∈ sk_W := sk_m (i := 1300) (by decide +kernel) (by decide +kernel)
theorem kw_1302 : Cond.instanceMethod yX7_parse ∈ sk_W := sk_m (i := 1302) (by decide +kernel) (by decide +kernel)
theorem kw_1303 : Cond.code yX7_parse cX7_parse 3 (some .int) ∈ sk_W := sk_m (i := 1303) (by decide +kernel) (by decide +kernel)
theorem kw_1304 : Cond.methodLink RX7 245 yX7_nextToken ∈ sk_W := sk_m (i := 1304) (by decide +kernel) (by decide +kernel)
theorem kw_1306 : Cond.instanceMethod yX7_nextToken ∈ sk_W := sk_m (i := 1306) (by decide +kernel) (by decide +kernel)
theorem kw_1307 : Cond.code yX7_nextToken cX7_nextToken 3 none ∈ sk_W := sk_m (i := 1307) (by decide +kernel) (by decide +kernel)
theorem kw_1308 : Cond.methodLink RX7 213 yX7_isLetter ∈ sk_W := sk_m (i := 1308) (by decide +kernel) (by decide +kernel)
theorem kw_1310 : Cond.instanceMethod yX7_isLetter ∈ sk_W := sk_m (i := 1310) (by decide +kernel) (by decide +kernel)
theorem kw_1311 : Cond.code yX7_isLetter cX7_isLetter 2 (some .boolean) ∈ sk_W := sk_m (i := 1311) (by decide +kernel) (by decide +kernel)
theorem kw_1312 : Cond.constantLong RX7 196 (97) ∈ sk_W := sk_m (i := 1312) (by decide +kernel) (by decide +kernel)
theorem kw_1313 : Cond.constantLong RX7 198 (122) ∈ sk_W := sk_m (i := 1313) (by decide +kernel) (by decide +kernel)
theorem kw_1314 : Cond.methodLink RX7 219 yX7_isDigit ∈ sk_W := sk_m (i := 1314) (by decide +kernel) (by decide +kernel)
theorem kw_1316 : Cond.instanceMethod yX7_isDigit ∈ sk_W := sk_m (i := 1316) (by decide +kernel) (by decide +kernel)
theorem kw_1317 : Cond.code yX7_isDigit cX7_isDigit 2 (some .boolean) ∈ sk_W := sk_m (i := 1317) (by decide +kernel) (by decide +kernel)
theorem kw_1318 : Cond.constantLong RX7 200 (48) ∈ sk_W := sk_m (i := 1318) (by decide +kernel) (by decide +kernel)
theorem kw_1319 : Cond.constantLong RX7 202 (57) ∈ sk_W := sk_m (i := 1319) (by decide +kernel) (by decide +kernel)
theorem kw_1320 : Cond.methodLink RX7 281 yX7_key ∈ sk_W := sk_m (i := 1320) (by decide +kernel) (by decide +kernel)
theorem kw_1322 : Cond.instanceMethod yX7_key ∈ sk_W := sk_m (i := 1322) (by decide +kernel) (by decide +kernel)
theorem kw_1323 : Cond.code yX7_key cX7_key 1 (some .int) ∈ sk_W := sk_m (i := 1323) (by decide +kernel) (by decide +kernel)
theorem kw_1324 : Cond.methodLink RX7 225 yX7_isWordAt ∈ sk_W := sk_m (i := 1324) (by decide +kernel) (by decide +kernel)
theorem kw_1326 : Cond.instanceMethod yX7_isWordAt ∈ sk_W := sk_m (i := 1326) (by decide +kernel) (by decide +kernel)
theorem kw_1327 : Cond.code yX7_isWordAt cX7_isWordAt 6 (some .boolean) ∈ sk_W := sk_m (i := 1327) (by decide +kernel) (by decide +kernel)
theorem kw_1328 : Cond.methodLink RX7 229 yX7_isLong ∈ sk_W := sk_m (i := 1328) (by decide +kernel) (by decide +kernel)
theorem kw_1330 : Cond.instanceMethod yX7_isLong ∈ sk_W := sk_m (i := 1330) (by decide +kernel) (by decide +kernel)
theorem kw_1331 : Cond.code yX7_isLong cX7_isLong 8 (some .boolean) ∈ sk_W := sk_m (i := 1331) (by decide +kernel) (by decide +kernel)
theorem kw_1332 : Cond.methodLink RX7 275 yX7_either ∈ sk_W := sk_m (i := 1332) (by decide +kernel) (by decide +kernel)
theorem kw_1334 : Cond.instanceMethod yX7_either ∈ sk_W := sk_m (i := 1334) (by decide +kernel) (by decide +kernel)
theorem kw_1335 : Cond.code yX7_either cX7_either 2 (some .boolean) ∈ sk_W := sk_m (i := 1335) (by decide +kernel) (by decide +kernel)
theorem kw_1336 : Cond.methodLink RX7 239 yX7_both ∈ sk_W := sk_m (i := 1336) (by decide +kernel) (by decide +kernel)
theorem kw_1338 : Cond.instanceMethod yX7_both ∈ sk_W := sk_m (i := 1338) (by decide +kernel) (by decide +kernel)
theorem kw_1339 : Cond.code yX7_both cX7_both 2 (some .boolean) ∈ sk_W := sk_m (i := 1339) (by decide +kernel) (by decide +kernel)
theorem kw_1340 : Cond.methodLink RX7 251 yX7_test ∈ sk_W := sk_m (i := 1340) (by decide +kernel) (by decide +kernel)
theorem kw_1342 : Cond.instanceMethod yX7_test ∈ sk_W := sk_m (i := 1342) (by decide +kernel) (by decide +kernel)
theorem kw_1343 : Cond.code yX7_test cX7_test 3 (some .boolean) ∈ sk_W := sk_m (i := 1343) (by decide +kernel) (by decide +kernel)
theorem kw_1344 : Cond.methodLink RX7 254 yX7_sum ∈ sk_W := sk_m (i := 1344) (by decide +kernel) (by decide +kernel)
theorem kw_1346 : Cond.instanceMethod yX7_sum ∈ sk_W := sk_m (i := 1346) (by decide +kernel) (by decide +kernel)
theorem kw_1347 : Cond.code yX7_sum cX7_sum 3 (some .boolean) ∈ sk_W := sk_m (i := 1347) (by decide +kernel) (by decide +kernel)
theorem kw_1348 : Cond.methodLink RX7 257 yX7_term ∈ sk_W := sk_m (i := 1348) (by decide +kernel) (by decide +kernel)
theorem kw_1350 : Cond.instanceMethod yX7_term ∈ sk_W := sk_m (i := 1350) (by decide +kernel) (by decide +kernel)
theorem kw_1351 : Cond.code yX7_term cX7_term 3 (some .boolean) ∈ sk_W := sk_m (i := 1351) (by decide +kernel) (by decide +kernel)
theorem kw_1352 : Cond.methodLink RX7 260 yX7_part0 ∈ sk_W := sk_m (i := 1352) (by decide +kernel) (by decide +kernel)
theorem kw_1354 : Cond.instanceMethod yX7_part0 ∈ sk_W := sk_m (i := 1354) (by decide +kernel) (by decide +kernel)
theorem kw_1355 : Cond.code yX7_part0 cX7_part0 2 (some .boolean) ∈ sk_W := sk_m (i := 1355) (by decide +kernel) (by decide +kernel)
theorem kw_1356 : Cond.methodLink RX7 248 yX7_step ∈ sk_W := sk_m (i := 1356) (by decide +kernel) (by decide +kernel)
theorem kw_1358 : Cond.instanceMethod yX7_step ∈ sk_W := sk_m (i := 1358) (by decide +kernel) (by decide +kernel)
theorem kw_1359 : Cond.code yX7_step cX7_step 3 none ∈ sk_W := sk_m (i := 1359) (by decide +kernel) (by decide +kernel)
theorem kw_1360 : Cond.methodLink RX7 266 yX7_isName ∈ sk_W := sk_m (i := 1360) (by decide +kernel) (by decide +kernel)
theorem kw_1361 : Cond.static yX7_isName ∈ sk_W := sk_m (i := 1361) (by decide +kernel) (by decide +kernel)
theorem kw_1362 : Cond.code yX7_isName cX7_isName 2 (some .boolean) ∈ sk_W := sk_m (i := 1362) (by decide +kernel) (by decide +kernel)
theorem kw_1363 : Cond.methodLink RX7 242 yX7_isSign ∈ sk_W := sk_m (i := 1363) (by decide +kernel) (by decide +kernel)
theorem kw_1365 : Cond.instanceMethod yX7_isSign ∈ sk_W := sk_m (i := 1365) (by decide +kernel) (by decide +kernel)
theorem kw_1366 : Cond.code yX7_isSign cX7_isSign 2 (some .boolean) ∈ sk_W := sk_m (i := 1366) (by decide +kernel) (by decide +kernel)
theorem kw_1371 : Cond.methodLink RX7 287 yX7_isText ∈ sk_W := sk_m (i := 1371) (by decide +kernel) (by decide +kernel)
theorem kw_1373 : Cond.instanceMethod yX7_isText ∈ sk_W := sk_m (i := 1373) (by decide +kernel) (by decide +kernel)
theorem kw_1374 : Cond.code yX7_isText cX7_isText 2 (some .boolean) ∈ sk_W := sk_m (i := 1374) (by decide +kernel) (by decide +kernel)
theorem kw_1379 : Cond.constantLong RX7 290 (2) ∈ sk_W := sk_m (i := 1379) (by decide +kernel) (by decide +kernel)
theorem kw_1384 : Cond.methodLink RX7 296 yX7_isSheet ∈ sk_W := sk_m (i := 1384) (by decide +kernel) (by decide +kernel)
theorem kw_1385 : Cond.static yX7_isSheet ∈ sk_W := sk_m (i := 1385) (by decide +kernel) (by decide +kernel)
theorem kw_1386 : Cond.code yX7_isSheet cX7_isSheet 1 (some .boolean) ∈ sk_W := sk_m (i := 1386) (by decide +kernel) (by decide +kernel)
theorem kw_1387 : Cond.constantLong RX7 299 (-1) ∈ sk_W := sk_m (i := 1387) (by decide +kernel) (by decide +kernel)
theorem kw_1388 : Cond.constant RX7 301 (-1000000014) ∈ sk_W := sk_m (i := 1388) (by decide +kernel) (by decide +kernel)
theorem kw_1393 : Cond.constant RX7 302 (-1000000011) ∈ sk_W := sk_m (i := 1393) (by decide +kernel) (by decide +kernel)
theorem kw_1394 : Cond.constant RX7 303 (-1000000013) ∈ sk_W := sk_m (i := 1394) (by decide +kernel) (by decide +kernel)
theorem kw_1395 : Cond.constantLong RX7 304 (-99999) ∈ sk_W := sk_m (i := 1395) (by decide +kernel) (by decide +kernel)
theorem kw_1396 : Cond.constantLong RX7 306 (99999) ∈ sk_W := sk_m (i := 1396) (by decide +kernel) (by decide +kernel)
theorem kw_1413 : Cond.methodLink RX7 310 yX7_isSlot ∈ sk_W := sk_m (i := 1413) (by decide +kernel) (by decide +kernel)
theorem kw_1414 : Cond.static yX7_isSlot ∈ sk_W := sk_m (i := 1414) (by decide +kernel) (by decide +kernel)
theorem kw_1415 : Cond.code yX7_isSlot cX7_isSlot 1 (some .boolean) ∈ sk_W := sk_m (i := 1415) (by decide +kernel) (by decide +kernel)
theorem kw_1416 : Cond.constantLong RX7 308 (4) ∈ sk_W := sk_m (i := 1416) (by decide +kernel) (by decide +kernel)
theorem kw_1437 : Cond.constantLong RX7 316 (30) ∈ sk_W := sk_m (i := 1437) (by decide +kernel) (by decide +kernel)
theorem kw_1438 : Cond.methodLink RX7 322 yX7_setAside ∈ sk_W := sk_m (i := 1438) (by decide +kernel) (by decide +kernel)
theorem kw_1440 : Cond.instanceMethod yX7_setAside ∈ sk_W := sk_m (i := 1440) (by decide +kernel) (by decide +kernel)
theorem kw_1441 : Cond.code yX7_setAside cX7_setAside 4 none ∈ sk_W := sk_m (i := 1441) (by decide +kernel) (by decide +kernel)
theorem kw_1454 : Cond.methodLink RX7 326 yX7_allStrengths ∈ sk_W := sk_m (i := 1454) (by decide +kernel) (by decide +kernel)
theorem kw_1456 : Cond.instanceMethod yX7_allStrengths ∈ sk_W := sk_m (i := 1456) (by decide +kernel) (by decide +kernel)
theorem kw_1457 : Cond.code yX7_allStrengths cX7_allStrengths 3 (some .int) ∈ sk_W := sk_m (i := 1457) (by decide +kernel) (by decide +kernel)
theorem kw_1458 : Cond.fieldLink RJ0 9 "java/lang/String" "value" "[B" ∈ sk_W := sk_m (i := 1458) (by decide +kernel) (by decide +kernel)
theorem kw_1459 : Cond.fieldLink RJ0 15 "java/lang/String" "coder" "B" ∈ sk_W := sk_m (i := 1459) (by decide +kernel) (by decide +kernel)
theorem yo_J0_charAt_5068e : sk_yV yJ0_charAt_5068e cJ0_charAt_5068e 2 (some .char) 1 := ⟨⟨by decide, by decide, by decide +kernel⟩, by decide, kw_685, kw_683, kw_684, kw_74⟩
theorem yo_J0_checkIndex_df160 : sk_yS yJ0_checkIndex_df160 cJ0_checkIndex_df160 2 none 2 := ⟨⟨by decide, by decide, by decide +kernel⟩, by decide, kw_695, kw_694, kw_74⟩
theorem yo_J0_coder_7d493 : sk_yV yJ0_coder_7d493 cJ0_coder_7d493 1 (some .byte) 0 := ⟨⟨by decide, by decide, by decide +kernel⟩, by decide, kw_679, kw_677, kw_678, kw_74⟩
theorem yo_J0_indexOf_0f7a4 : sk_yV yJ0_indexOf_0f7a4 cJ0_indexOf_0f7a4 2 (some .int) 1 := ⟨⟨by decide, by decide, by decide +kernel⟩, by decide, kw_738, kw_736, kw_737, kw_74⟩
theorem yo_J0_indexOf_7cf53 : sk_yV yJ0_indexOf_7cf53 cJ0_indexOf_7cf53 3 (some .int) 2 := ⟨⟨by decide, by decide, by decide +kernel⟩, by decide, kw_742, kw_740, kw_741, kw_74⟩
theorem yo_J0_isLatin1_aae02 : sk_yV yJ0_isLatin1_aae02 cJ0_isLatin1_aae02 1 (some .boolean) 0 := ⟨⟨by decide, by decide, by decide +kernel⟩, by decide, kw_689, kw_687, kw_688, kw_74⟩
theorem yo_J0_length_8abf5 : sk_yV yJ0_length_8abf5 cJ0_length_8abf5 1 (some .int) 0 := ⟨⟨by decide, by decide, by decide +kernel⟩, by decide, kw_675, kw_673, kw_674, kw_74⟩
theorem yo_J1_canEncode_9a6ad : sk_yS yJ1_canEncode_9a6ad cJ1_canEncode_9a6ad 1 (some .boolean) 1 := ⟨⟨by decide, by decide, by decide +kernel⟩, by decide, kw_749, kw_748, kw_75⟩
theorem yo_J1_charAt_3b067 : sk_yS yJ1_charAt_3b067 cJ1_charAt_3b067 2 (some .char) 2 := ⟨⟨by decide, by decide, by decide +kernel⟩, by decide, kw_692, kw_691, kw_75⟩
theorem yo_J1_indexOfChar_4cfef : sk_yS yJ1_indexOfChar_4cfef cJ1_indexOfChar_4cfef 6 (some .int) 4 := ⟨⟨by decide, by decide, by decide +kernel⟩, by decide, kw_754, kw_753, kw_75⟩
theorem yo_J1_indexOf_4cfef : sk_yS yJ1_indexOf_4cfef cJ1_indexOf_4cfef 4 (some .int) 4 := ⟨⟨by decide, by decide, by decide +kernel⟩, by decide, kw_746, kw_745, kw_75⟩
theorem yo_J3_checkIndex_8e157 : sk_yS yJ3_checkIndex_8e157 cJ3_checkIndex_8e157 3 (some .int) 3 := ⟨⟨by decide, by decide, by decide +kernel⟩, by decide, kw_700, kw_699, kw_76⟩
theorem yo_J6_bitCount_0f7a4 : sk_yS yJ6_bitCount_0f7a4 cJ6_bitCount_0f7a4 1 (some .int) 1 := ⟨⟨by decide, by decide, by decide +kernel⟩, by decide, kw_555, kw_554, kw_73⟩
theorem yo_J7_fill_53178 : sk_yS yJ7_fill_53178 cJ7_fill_53178 4 none 2 := ⟨⟨by decide, by decide, by decide +kernel⟩, by decide, kw_163, kw_162, kw_66⟩
theorem yo_X0_fail : sk_yV yX0_fail cX0_fail 1 none 0 := ⟨⟨by decide, by decide, by decide +kernel⟩, by decide, kw_662, kw_661, kw_7, kw_64⟩
theorem yo_X0_isDigit : sk_yS yX0_isDigit cX0_isDigit 1 (some .boolean) 1 := ⟨⟨by decide, by decide, by decide +kernel⟩, by decide, kw_658, kw_657, kw_64⟩
theorem yo_X0_isHere : sk_yV yX0_isHere cX0_isHere 3 (some .boolean) 1 := ⟨⟨by decide, by decide, by decide +kernel⟩, by decide, kw_671, kw_670, kw_9, kw_64⟩
theorem yo_X0_isLetter : sk_yS yX0_isLetter cX0_isLetter 1 (some .boolean) 1 := ⟨⟨by decide, by decide, by decide +kernel⟩, by decide, kw_655, kw_654, kw_64⟩
theorem yo_X0_isSignOf : sk_yV yX0_isSignOf cX0_isSignOf 2 (some .boolean) 1 := ⟨⟨by decide, by decide, by decide +kernel⟩, by decide, kw_734, kw_733, kw_12, kw_64⟩
theorem yo_X0_keyHere : sk_yV yX0_keyHere cX0_keyHere 1 (some .int) 0 := ⟨⟨by decide, by decide, by decide +kernel⟩, by decide, kw_666, kw_665, kw_8, kw_64⟩
theorem yo_X0_leafCode : sk_yV yX0_leafCode cX0_leafCode 3 (some .int) 0 := ⟨⟨by decide, by decide, by decide +kernel⟩, by decide, kw_803, kw_802, kw_15, kw_64⟩
theorem yo_X0_moveOn : sk_yV yX0_moveOn cX0_moveOn 1 none 0 := ⟨⟨by decide, by decide, by decide +kernel⟩, by decide, kw_652, kw_651, kw_6, kw_64⟩
theorem yo_X0_names : sk_yV yX0_names cX0_names 1 (some (.object "java/lang/String")) 0 := ⟨⟨by decide, by decide, by decide +kernel⟩, by decide, kw_811, kw_810, kw_17, kw_64⟩
theorem yo_X0_numberHere : sk_yV yX0_numberHere cX0_numberHere 3 (some .int) 0 := ⟨⟨by decide, by decide, by decide +kernel⟩, by decide, kw_807, kw_806, kw_16, kw_64⟩
theorem yo_X0_put : sk_yV yX0_put cX0_put 2 none 1 := ⟨⟨by decide, by decide, by decide +kernel⟩, by decide, kw_793, kw_792, kw_13, kw_64⟩
theorem yo_X0_readLeaf : sk_yV yX0_readLeaf cX0_readLeaf 2 none 0 := ⟨⟨by decide, by decide, by decide +kernel⟩, by decide, kw_799, kw_798, kw_14, kw_64⟩
theorem yo_X0_readLevel : sk_yV yX0_readLevel cX0_readLevel 7 none 3 := ⟨⟨by decide, by decide, by decide +kernel⟩, by decide, kw_725, kw_724, kw_10, kw_64⟩
theorem yo_X0_readPiece : sk_yV yX0_readPiece cX0_readPiece 3 none 2 := ⟨⟨by decide, by decide, by decide +kernel⟩, by decide, kw_729, kw_728, kw_11, kw_64⟩
theorem yo_X0_readTape : sk_yV yX0_readTape cX0_readTape 1 (some .int) 0 := ⟨⟨by decide, by decide, by decide +kernel⟩, by decide, kw_648, kw_646, kw_647, kw_64⟩
theorem yo_X0_signsOf : sk_yS yX0_signsOf cX0_signsOf 1 (some (.object "java/lang/String")) 1 := ⟨⟨by decide, by decide, by decide +kernel⟩, by decide, kw_817, kw_816, kw_64⟩
theorem yo_X0_takeBytes : sk_yV yX0_takeBytes cX0_takeBytes 3 none 1 := ⟨⟨by decide, by decide, by decide +kernel⟩, by decide, kw_636, kw_634, kw_635, kw_64⟩
theorem yo_X1_becomeLike : sk_yV yX1_becomeLike cX1_becomeLike 2 none 1 := ⟨⟨by decide, by decide, by decide +kernel⟩, by decide, kw_876, kw_874, kw_875, kw_68⟩
theorem yo_X1_becomeRow : sk_yV yX1_becomeRow cX1_becomeRow 3 none 2 := ⟨⟨by decide, by decide, by decide +kernel⟩, by decide, kw_844, kw_842, kw_843, kw_68⟩
theorem yo_X1_hasPlaces : sk_yV yX1_hasPlaces cX1_hasPlaces 3 (some .boolean) 2 := ⟨⟨by decide, by decide, by decide +kernel⟩, by decide, kw_865, kw_863, kw_864, kw_68⟩
theorem yo_X3_give : sk_yV yX3_give cX3_give 8 (some .int) 4 := ⟨⟨by decide, by decide, by decide +kernel⟩, by decide, kw_449, kw_447, kw_448, kw_63⟩
theorem yo_X3_join : sk_yS yX3_join cX3_join 3 (some .int) 3 := ⟨⟨by decide, by decide, by decide +kernel⟩, by decide, kw_455, kw_454, kw_63⟩
theorem yo_X3_named : sk_yS yX3_named cX3_named 5 (some .int) 4 := ⟨⟨by decide, by decide, by decide +kernel⟩, by decide, kw_452, kw_451, kw_63⟩
theorem yo_X3_store : sk_yV yX3_store cX3_store 3 none 2 := ⟨⟨by decide, by decide, by decide +kernel⟩, by decide, kw_826, kw_824, kw_825, kw_63⟩
theorem yo_X4_begin : sk_yV yX4_begin cX4_begin 2 none 1 := ⟨⟨by decide, by decide, by decide +kernel⟩, by decide, kw_521, kw_519, kw_520, kw_67⟩
theorem yo_X4_passDay : sk_yV yX4_passDay cX4_passDay 1 none 0 := ⟨⟨by decide, by decide, by decide +kernel⟩, by decide, kw_532, kw_530, kw_531, kw_67⟩
theorem yo_X4_passDays : sk_yV yX4_passDays cX4_passDays 3 none 1 := ⟨⟨by decide, by decide, by decide +kernel⟩, by decide, kw_528, kw_526, kw_527, kw_67⟩
theorem yo_X4_saidTo : sk_yV yX4_saidTo cX4_saidTo 2 (some .int) 1 := ⟨⟨by decide, by decide, by decide +kernel⟩, by decide, kw_537, kw_535, kw_536, kw_67⟩
theorem yo_X4_smelledBy : sk_yV yX4_smelledBy cX4_smelledBy 2 (some .int) 1 := ⟨⟨by decide, by decide, by decide +kernel⟩, by decide, kw_566, kw_564, kw_565, kw_67⟩
theorem yo_X4_sum : sk_yV yX4_sum cX4_sum 1 (some .int) 0 := ⟨⟨by decide, by decide, by decide +kernel⟩, by decide, kw_905, kw_903, kw_904, kw_67⟩
theorem yo_X5_addScent : sk_yV yX5_addScent cX5_addScent 3 (some .int) 2 := ⟨⟨by decide, by decide, by decide +kernel⟩, by decide, kw_351, kw_349, kw_350, kw_65⟩
theorem yo_X5_becomeLike : sk_yV yX5_becomeLike cX5_becomeLike 3 none 1 := ⟨⟨by decide, by decide, by decide +kernel⟩, by decide, kw_914, kw_912, kw_913, kw_65⟩
theorem yo_X5_draw : sk_yV yX5_draw cX5_draw 1 (some .int) 0 := ⟨⟨by decide, by decide, by decide +kernel⟩, by decide, kw_416, kw_414, kw_415, kw_65⟩
theorem yo_X5_fadeRow : sk_yV yX5_fadeRow cX5_fadeRow 5 none 3 := ⟨⟨by decide, by decide, by decide +kernel⟩, by decide, kw_491, kw_489, kw_490, kw_65⟩
theorem yo_X5_fadings : sk_yV yX5_fadings cX5_fadings 3 (some .int) 2 := ⟨⟨by decide, by decide, by decide +kernel⟩, by decide, kw_583, kw_581, kw_582, kw_65⟩
theorem yo_X5_isHidden : sk_yV yX5_isHidden cX5_isHidden 4 (some .boolean) 2 := ⟨⟨by decide, by decide, by decide +kernel⟩, by decide, kw_504, kw_502, kw_503, kw_65⟩
theorem yo_X5_leastLeft : sk_yV yX5_leastLeft cX5_leastLeft 10 (some .int) 4 := ⟨⟨by decide, by decide, by decide +kernel⟩, by decide, kw_579, kw_577, kw_578, kw_65⟩
theorem yo_X5_loss : sk_yV yX5_loss cX5_loss 10 (some .int) 4 := ⟨⟨by decide, by decide, by decide +kernel⟩, by decide, kw_445, kw_443, kw_444, kw_65⟩
theorem yo_X5_passDay : sk_yV yX5_passDay cX5_passDay 2 none 0 := ⟨⟨by decide, by decide, by decide +kernel⟩, by decide, kw_487, kw_485, kw_486, kw_65⟩
theorem yo_X5_present : sk_yV yX5_present cX5_present 4 (some .int) 1 := ⟨⟨by decide, by decide, by decide +kernel⟩, by decide, kw_620, kw_618, kw_619, kw_65⟩
theorem yo_X5_putSpot : sk_yV yX5_putSpot cX5_putSpot 5 (some .int) 3 := ⟨⟨by decide, by decide, by decide +kernel⟩, by decide, kw_479, kw_477, kw_478, kw_65⟩
theorem yo_X5_said : sk_yV yX5_said cX5_said 5 (some .int) 2 := ⟨⟨by decide, by decide, by decide +kernel⟩, by decide, kw_512, kw_510, kw_511, kw_65⟩
theorem yo_X5_smelled : sk_yV yX5_smelled cX5_smelled 5 (some .int) 2 := ⟨⟨by decide, by decide, by decide +kernel⟩, by decide, kw_500, kw_498, kw_499, kw_65⟩
theorem yo_X5_sumOf : sk_yV yX5_sumOf cX5_sumOf 4 (some .int) 1 := ⟨⟨by decide, by decide, by decide +kernel⟩, by decide, kw_616, kw_614, kw_615, kw_65⟩
theorem yo_X5_sumOfAll : sk_yV yX5_sumOfAll cX5_sumOfAll 3 (some .int) 0 := ⟨⟨by decide, by decide, by decide +kernel⟩, by decide, kw_927, kw_925, kw_926, kw_65⟩
theorem yo_X6_differences : sk_yV yX6_differences cX6_differences 5 (some .int) 2 := ⟨⟨by decide, by decide, by decide +kernel⟩, by decide, kw_605, kw_604, kw_5, kw_62⟩
theorem yo_X6_followCourse : sk_yV yX6_followCourse cX6_followCourse 5 none 2 := ⟨⟨by decide, by decide, by decide +kernel⟩, by decide, kw_601, kw_600, kw_4, kw_62⟩
theorem yo_X6_held : sk_yS yX6_held cX6_held 1 (some .int) 1 := ⟨⟨by decide, by decide, by decide +kernel⟩, by decide, kw_466, kw_465, kw_62⟩
theorem yo_X6_isCloth : sk_yV yX6_isCloth cX6_isCloth 2 (some .boolean) 1 := ⟨⟨by decide, by decide, by decide +kernel⟩, by decide, kw_437, kw_436, kw_3, kw_62⟩
theorem yo_X6_isKind : sk_yS yX6_isKind cX6_isKind 1 (some .boolean) 1 := ⟨⟨by decide, by decide, by decide +kernel⟩, by decide, kw_343, kw_342, kw_62⟩
theorem yo_X6_isNose : sk_yS yX6_isNose cX6_isNose 1 (some .boolean) 1 := ⟨⟨by decide, by decide, by decide +kernel⟩, by decide, kw_392, kw_391, kw_62⟩
theorem yo_X6_isScent : sk_yV yX6_isScent cX6_isScent 2 (some .boolean) 1 := ⟨⟨by decide, by decide, by decide +kernel⟩, by decide, kw_360, kw_359, kw_0, kw_62⟩
theorem yo_X6_isSheet : sk_yS yX6_isSheet cX6_isSheet 1 (some .boolean) 1 := ⟨⟨by decide, by decide, by decide +kernel⟩, by decide, kw_596, kw_595, kw_62⟩
theorem yo_X6_isSlot : sk_yS yX6_isSlot cX6_isSlot 1 (some .boolean) 1 := ⟨⟨by decide, by decide, by decide +kernel⟩, by decide, kw_872, kw_871, kw_62⟩
theorem yo_X6_isSpot : sk_yV yX6_isSpot cX6_isSpot 3 (some .boolean) 2 := ⟨⟨by decide, by decide, by decide +kernel⟩, by decide, kw_433, kw_432, kw_2, kw_62⟩
theorem yo_X6_isUnder : sk_yS yX6_isUnder cX6_isUnder 4 (some .boolean) 2 := ⟨⟨by decide, by decide, by decide +kernel⟩, by decide, kw_370, kw_369, kw_62⟩
theorem yo_X6_isWord : sk_yV yX6_isWord cX6_isWord 2 (some .boolean) 1 := ⟨⟨by decide, by decide, by decide +kernel⟩, by decide, kw_405, kw_404, kw_1, kw_62⟩
theorem yo_X6_rightAhead : sk_yV yX6_rightAhead cX6_rightAhead 5 (some .int) 2 := ⟨⟨by decide, by decide, by decide +kernel⟩, by decide, kw_901, kw_900, kw_18, kw_62⟩
theorem yo_X6_within : sk_yS yX6_within cX6_within 3 (some .boolean) 3 := ⟨⟨by decide, by decide, by decide +kernel⟩, by decide, kw_346, kw_345, kw_62⟩
theorem yo_X6_wordOr99 : sk_yS yX6_wordOr99 cX6_wordOr99 1 (some .int) 1 := ⟨⟨by decide, by decide, by decide +kernel⟩, by decide, kw_628, kw_627, kw_62⟩
theorem yo_X6_worth : sk_yS yX6_worth cX6_worth 2 (some .int) 2 := ⟨⟨by decide, by decide, by decide +kernel⟩, by decide, kw_363, kw_362, kw_62⟩
theorem yo_X7_allOn : sk_yV yX7_allOn cX7_allOn 4 (some .int) 1 := ⟨⟨by decide, by decide, by decide +kernel⟩, by decide, kw_1279, kw_1278, kw_41, kw_70⟩
theorem yo_X7_allStrengths : sk_yV yX7_allStrengths cX7_allStrengths 3 (some .int) 0 := ⟨⟨by decide, by decide, by decide +kernel⟩, by decide, kw_1457, kw_1456, kw_60, kw_70⟩
theorem yo_X7_becomes : sk_yV yX7_becomes cX7_becomes 4 (some .int) 2 := ⟨⟨by decide, by decide, by decide +kernel⟩, by decide, kw_1082, kw_1081, kw_23, kw_70⟩
theorem yo_X7_both : sk_yV yX7_both cX7_both 2 (some .boolean) 1 := ⟨⟨by decide, by decide, by decide +kernel⟩, by decide, kw_1339, kw_1338, kw_51, kw_70⟩
theorem yo_X7_comes : sk_yV yX7_comes cX7_comes 6 none 2 := ⟨⟨by decide, by decide, by decide +kernel⟩, by decide, kw_1049, kw_1048, kw_19, kw_70⟩
theorem yo_X7_counts : sk_yV yX7_counts cX7_counts 4 (some .int) 1 := ⟨⟨by decide, by decide, by decide +kernel⟩, by decide, kw_1156, kw_1155, kw_30, kw_70⟩
theorem yo_X7_drawn : sk_yV yX7_drawn cX7_drawn 1 (some .int) 0 := ⟨⟨by decide, by decide, by decide +kernel⟩, by decide, kw_1119, kw_1118, kw_25, kw_70⟩
theorem yo_X7_either : sk_yV yX7_either cX7_either 2 (some .boolean) 1 := ⟨⟨by decide, by decide, by decide +kernel⟩, by decide, kw_1335, kw_1334, kw_50, kw_70⟩
theorem yo_X7_goesOn : sk_yV yX7_goesOn cX7_goesOn 3 none 0 := ⟨⟨by decide, by decide, by decide +kernel⟩, by decide, kw_1192, kw_1191, kw_33, kw_70⟩
theorem yo_X7_goesOnMany : sk_yV yX7_goesOnMany cX7_goesOnMany 3 none 1 := ⟨⟨by decide, by decide, by decide +kernel⟩, by decide, kw_1225, kw_1224, kw_37, kw_70⟩
theorem yo_X7_isCloth : sk_yV yX7_isCloth cX7_isCloth 2 (some .boolean) 1 := ⟨⟨by decide, by decide, by decide +kernel⟩, by decide, kw_1136, kw_1135, kw_26, kw_70⟩
theorem yo_X7_isDigit : sk_yV yX7_isDigit cX7_isDigit 2 (some .boolean) 1 := ⟨⟨by decide, by decide, by decide +kernel⟩, by decide, kw_1317, kw_1316, kw_46, kw_70⟩
theorem yo_X7_isIn : sk_yS yX7_isIn cX7_isIn 6 (some .boolean) 3 := ⟨⟨by decide, by decide, by decide +kernel⟩, by decide, kw_1042, kw_1041, kw_70⟩
theorem yo_X7_isLetter : sk_yV yX7_isLetter cX7_isLetter 2 (some .boolean) 1 := ⟨⟨by decide, by decide, by decide +kernel⟩, by decide, kw_1311, kw_1310, kw_45, kw_70⟩
theorem yo_X7_isLong : sk_yV yX7_isLong cX7_isLong 8 (some .boolean) 6 := ⟨⟨by decide, by decide, by decide +kernel⟩, by decide, kw_1331, kw_1330, kw_49, kw_70⟩
theorem yo_X7_isName : sk_yS yX7_isName cX7_isName 2 (some .boolean) 2 := ⟨⟨by decide, by decide, by decide +kernel⟩, by decide, kw_1362, kw_1361, kw_70⟩
theorem yo_X7_isNose : sk_yS yX7_isNose cX7_isNose 1 (some .boolean) 1 := ⟨⟨by decide, by decide, by decide +kernel⟩, by decide, kw_1097, kw_1096, kw_70⟩
theorem yo_X7_isOf : sk_yS yX7_isOf cX7_isOf 2 (some .boolean) 2 := ⟨⟨by decide, by decide, by decide +kernel⟩, by decide, kw_1073, kw_1072, kw_70⟩
theorem yo_X7_isSaid : sk_yV yX7_isSaid cX7_isSaid 2 (some .boolean) 1 := ⟨⟨by decide, by decide, by decide +kernel⟩, by decide, kw_1110, kw_1109, kw_24, kw_70⟩
theorem yo_X7_isScent : sk_yV yX7_isScent cX7_isScent 2 (some .boolean) 1 := ⟨⟨by decide, by decide, by decide +kernel⟩, by decide, kw_1057, kw_1056, kw_20, kw_70⟩
theorem yo_X7_isSheet : sk_yS yX7_isSheet cX7_isSheet 1 (some .boolean) 1 := ⟨⟨by decide, by decide, by decide +kernel⟩, by decide, kw_1386, kw_1385, kw_70⟩
theorem yo_X7_isSign : sk_yV yX7_isSign cX7_isSign 2 (some .boolean) 1 := ⟨⟨by decide, by decide, by decide +kernel⟩, by decide, kw_1366, kw_1365, kw_57, kw_70⟩
theorem yo_X7_isSlot : sk_yS yX7_isSlot cX7_isSlot 1 (some .boolean) 1 := ⟨⟨by decide, by decide, by decide +kernel⟩, by decide, kw_1415, kw_1414, kw_70⟩
theorem yo_X7_isText : sk_yV yX7_isText cX7_isText 2 (some .boolean) 1 := ⟨⟨by decide, by decide, by decide +kernel⟩, by decide, kw_1374, kw_1373, kw_58, kw_70⟩
theorem yo_X7_isWordAt : sk_yV yX7_isWordAt cX7_isWordAt 6 (some .boolean) 4 := ⟨⟨by decide, by decide, by decide +kernel⟩, by decide, kw_1327, kw_1326, kw_48, kw_70⟩
theorem yo_X7_joined : sk_yS yX7_joined cX7_joined 3 (some .int) 3 := ⟨⟨by decide, by decide, by decide +kernel⟩, by decide, kw_1167, kw_1166, kw_70⟩
theorem yo_X7_key : sk_yV yX7_key cX7_key 1 (some .int) 0 := ⟨⟨by decide, by decide, by decide +kernel⟩, by decide, kw_1323, kw_1322, kw_47, kw_70⟩
theorem yo_X7_laysBack : sk_yV yX7_laysBack cX7_laysBack 2 none 0 := ⟨⟨by decide, by decide, by decide +kernel⟩, by decide, kw_1229, kw_1228, kw_38, kw_70⟩
theorem yo_X7_laysBy : sk_yV yX7_laysBy cX7_laysBy 2 none 0 := ⟨⟨by decide, by decide, by decide +kernel⟩, by decide, kw_1221, kw_1220, kw_36, kw_70⟩
theorem yo_X7_leastOf : sk_yV yX7_leastOf cX7_leastOf 6 (some .int) 4 := ⟨⟨by decide, by decide, by decide +kernel⟩, by decide, kw_1262, kw_1261, kw_39, kw_70⟩
theorem yo_X7_leftOf : sk_yV yX7_leftOf cX7_leftOf 7 (some .int) 4 := ⟨⟨by decide, by decide, by decide +kernel⟩, by decide, kw_1266, kw_1265, kw_40, kw_70⟩
theorem yo_X7_losesBy : sk_yV yX7_losesBy cX7_losesBy 7 (some .int) 4 := ⟨⟨by decide, by decide, by decide +kernel⟩, by decide, kw_1152, kw_1151, kw_29, kw_70⟩
theorem yo_X7_losesOn : sk_yV yX7_losesOn cX7_losesOn 3 (some .int) 2 := ⟨⟨by decide, by decide, by decide +kernel⟩, by decide, kw_1148, kw_1147, kw_28, kw_70⟩
theorem yo_X7_nextToken : sk_yV yX7_nextToken cX7_nextToken 3 none 0 := ⟨⟨by decide, by decide, by decide +kernel⟩, by decide, kw_1307, kw_1306, kw_44, kw_70⟩
theorem yo_X7_of : sk_yV yX7_of cX7_of 3 (some .int) 2 := ⟨⟨by decide, by decide, by decide +kernel⟩, by decide, kw_1062, kw_1061, kw_21, kw_70⟩
theorem yo_X7_on : sk_yV yX7_on cX7_on 3 (some .int) 2 := ⟨⟨by decide, by decide, by decide +kernel⟩, by decide, kw_1140, kw_1139, kw_27, kw_70⟩
theorem yo_X7_ones : sk_yS yX7_ones cX7_ones 3 (some .int) 1 := ⟨⟨by decide, by decide, by decide +kernel⟩, by decide, kw_1245, kw_1244, kw_70⟩
theorem yo_X7_orNone : sk_yS yX7_orNone cX7_orNone 1 (some .int) 1 := ⟨⟨by decide, by decide, by decide +kernel⟩, by decide, kw_1211, kw_1210, kw_70⟩
theorem yo_X7_parse : sk_yV yX7_parse cX7_parse 3 (some .int) 0 := ⟨⟨by decide, by decide, by decide +kernel⟩, by decide, kw_1303, kw_1302, kw_43, kw_70⟩
theorem yo_X7_part0 : sk_yV yX7_part0 cX7_part0 2 (some .boolean) 1 := ⟨⟨by decide, by decide, by decide +kernel⟩, by decide, kw_1355, kw_1354, kw_55, kw_70⟩
theorem yo_X7_saidBy : sk_yV yX7_saidBy cX7_saidBy 5 (some .int) 2 := ⟨⟨by decide, by decide, by decide +kernel⟩, by decide, kw_1208, kw_1207, kw_35, kw_70⟩
theorem yo_X7_saidOr : sk_yV yX7_saidOr cX7_saidOr 3 (some .int) 1 := ⟨⟨by decide, by decide, by decide +kernel⟩, by decide, kw_1287, kw_1286, kw_42, kw_70⟩
theorem yo_X7_setAside : sk_yV yX7_setAside cX7_setAside 4 none 2 := ⟨⟨by decide, by decide, by decide +kernel⟩, by decide, kw_1441, kw_1440, kw_59, kw_70⟩
theorem yo_X7_smeltOn : sk_yV yX7_smeltOn cX7_smeltOn 7 (some .int) 2 := ⟨⟨by decide, by decide, by decide +kernel⟩, by decide, kw_1200, kw_1199, kw_34, kw_70⟩
theorem yo_X7_step : sk_yV yX7_step cX7_step 3 none 2 := ⟨⟨by decide, by decide, by decide +kernel⟩, by decide, kw_1359, kw_1358, kw_56, kw_70⟩
theorem yo_X7_sum : sk_yV yX7_sum cX7_sum 3 (some .boolean) 1 := ⟨⟨by decide, by decide, by decide +kernel⟩, by decide, kw_1347, kw_1346, kw_53, kw_70⟩
theorem yo_X7_term : sk_yV yX7_term cX7_term 3 (some .boolean) 1 := ⟨⟨by decide, by decide, by decide +kernel⟩, by decide, kw_1351, kw_1350, kw_54, kw_70⟩
theorem yo_X7_test : sk_yV yX7_test cX7_test 3 (some .boolean) 1 := ⟨⟨by decide, by decide, by decide +kernel⟩, by decide, kw_1343, kw_1342, kw_52, kw_70⟩
theorem yo_X7_textAt : sk_yV yX7_textAt cX7_textAt 2 (some .int) 1 := ⟨⟨by decide, by decide, by decide +kernel⟩, by decide, kw_1160, kw_1159, kw_31, kw_70⟩
theorem yo_X7_within : sk_yS yX7_within cX7_within 2 (some .int) 2 := ⟨⟨by decide, by decide, by decide +kernel⟩, by decide, kw_1170, kw_1169, kw_70⟩
theorem yo_X7_worked : sk_yV yX7_worked cX7_worked 6 (some .int) 1 := ⟨⟨by decide, by decide, by decide +kernel⟩, by decide, kw_1164, kw_1163, kw_32, kw_70⟩
theorem yo_X7_worth : sk_yV yX7_worth cX7_worth 3 (some .int) 1 := ⟨⟨by decide, by decide, by decide +kernel⟩, by decide, kw_1066, kw_1065, kw_22, kw_70⟩
theorem sk_wmax : Cond.static Lib.Math.max.name ∈ sk_W ∧ Cond.initialized "java/lang/Math" ∈ sk_W ∧ Cond.code Lib.Math.max.name Lib.Math.max.code 2 (some .int) ∈ sk_W := ⟨kw_458, kw_71, kw_459⟩
theorem sk_wmin : Cond.static Lib.Math.min.name ∈ sk_W ∧ Cond.initialized "java/lang/Math" ∈ sk_W ∧ Cond.code Lib.Math.min.name Lib.Math.min.code 2 (some .int) ∈ sk_W := ⟨kw_411, kw_71, kw_412⟩
theorem sk_wabs : Cond.static Lib.Math.abs.name ∈ sk_W ∧ Cond.initialized "java/lang/Math" ∈ sk_W ∧ Cond.code Lib.Math.abs.name Lib.Math.abs.code 1 (some .int) ∈ sk_W := ⟨kw_607, kw_71, kw_608⟩
theorem sk_wcopy : Cond.native arraycopyName ∈ sk_W ∧ Cond.static arraycopyName ∈ sk_W ∧ Cond.initialized "java/lang/System" ∈ sk_W := ⟨kw_524, kw_523, kw_72⟩
end
section
-- pure functions out of the bytecode, by program
def f_X0_takeBytes_L3 (a1 : Int32) : Nat → Int32 → sk_M → Option (sk_M)
  | 0, _, _ => none
  | n + 1, a2, M => if a2 < 0 then (some M) else (if 96 ≤ (M 62 2) then (some M) else (sk_chk (sk_in (M 62 2) 96) (sk_let (sk_u M 63 (M 62 2).toNatClampNeg ((sk_ushr a1 a2) &&& 255)) (fun M_2 => sk_let (sk_u M_2 62 2 ((M_2 62 2) + 1)) (fun M_3 => f_X0_takeBytes_L3 a1 n (a2 + (-8)) M_3)))))
def f_X0_takeBytes (a1 : Int32) (M : sk_M) : Option sk_M := sk_b1 (f_X0_takeBytes_L3 a1 sk_FU 24 M) (fun M_4 => some M_4)
def f_X0_isLetter (a0 : Int32) : Int32 := (if a0 < 97 then 0 else (if 122 < a0 then 0 else 1 : Int32) : Int32)
theorem fz_X0_isLetter (a0 : Int32) : f_X0_isLetter a0 = 0 ∨ f_X0_isLetter a0 = 1 := by
  unfold f_X0_isLetter
  repeat' split
  all_goals first | exact Or.inl rfl | exact Or.inr rfl
def f_X0_isDigit (a0 : Int32) : Int32 := (if a0 < 48 then 0 else (if 57 < a0 then 0 else 1 : Int32) : Int32)
theorem fz_X0_isDigit (a0 : Int32) : f_X0_isDigit a0 = 0 ∨ f_X0_isDigit a0 = 1 := by
  unfold f_X0_isDigit
  repeat' split
  all_goals first | exact Or.inl rfl | exact Or.inr rfl
def f_X0_fail (M : sk_M) : Option sk_M := if 0 ≤ (M 62 5) then (some M) else (sk_let (sk_u M 62 5 (M 62 3)) (fun M_1 => some M_1))
def f_X0_moveOn_L8  : Nat → sk_M → Option (sk_M)
  | 0, _ => none
  | n + 1, M => if (M 62 2) ≤ (M 62 3) then (some M) else (sk_chk (sk_in (M 62 3) 96) (if (M 63 (M 62 3).toNatClampNeg) = 32 then (sk_let (sk_u M 62 3 ((M 62 3) + 1)) (fun M_3 => f_X0_moveOn_L8 n M_3)) else (some M)))
def f_X0_moveOn_L54  : Nat → sk_M → Option (sk_M)
  | 0, _ => none
  | n + 1, M => if (M 62 2) ≤ (M 62 4) then (some M) else (sk_chk (sk_in (M 62 3) 96) (if (f_X0_isLetter (M 63 (M 62 3).toNatClampNeg)) = 0 then (some M) else (sk_chk (sk_in (M 62 4) 96) (if (f_X0_isLetter (M 63 (M 62 4).toNatClampNeg)) = 0 then (some M) else (sk_let (sk_u M 62 4 ((M 62 4) + 1)) (fun M_10 => f_X0_moveOn_L54 n M_10))))))
def f_X0_moveOn_L108  : Nat → sk_M → Option (sk_M)
  | 0, _ => none
  | n + 1, M => if (M 62 2) ≤ (M 62 4) then (some M) else (sk_chk (sk_in (M 62 3) 96) (if (f_X0_isDigit (M 63 (M 62 3).toNatClampNeg)) = 0 then (some M) else (sk_chk (sk_in (M 62 4) 96) (if (f_X0_isDigit (M 63 (M 62 4).toNatClampNeg)) = 0 then (some M) else (sk_let (sk_u M 62 4 ((M 62 4) + 1)) (fun M_16 => f_X0_moveOn_L108 n M_16))))))
def f_X0_moveOn (M : sk_M) : Option sk_M := sk_let (sk_u M 62 3 (M 62 4)) (fun M_1 => sk_b1 (f_X0_moveOn_L8 sk_FU M_1) (fun M_4 => sk_let (sk_u M_4 62 4 (M_4 62 3)) (fun M_5 => sk_b1 (f_X0_moveOn_L54 sk_FU M_5) (fun M_11 => sk_b1 (f_X0_moveOn_L108 sk_FU M_11) (fun M_17 => if (M_17 62 4) = (M_17 62 3) then (if (M_17 62 2) ≤ (M_17 62 3) then (if (M_17 62 3) ≤ 0 then (some M_17) else (if (M_17 62 2) ≤ (M_17 62 3) then (some M_17) else (sk_chk (sk_in ((M_17 62 3) - 1) 96) (if (f_X0_isLetter (M_17 63 ((M_17 62 3) - 1).toNatClampNeg)) = 0 then (sk_chk (sk_in ((M_17 62 3) - 1) 96) (if (f_X0_isDigit (M_17 63 ((M_17 62 3) - 1).toNatClampNeg)) = 0 then (some M_17) else (sk_b1 (f_X0_fail M_17) (fun M_32 => some M_32)))) else (sk_b1 (f_X0_fail M_17) (fun M_28 => some M_28)))))) else (sk_let (sk_u M_17 62 4 ((M_17 62 4) + 1)) (fun M_34 => some M_34))) else (if (M_17 62 3) ≤ 0 then (some M_17) else (if (M_17 62 2) ≤ (M_17 62 3) then (some M_17) else (sk_chk (sk_in ((M_17 62 3) - 1) 96) (if (f_X0_isLetter (M_17 63 ((M_17 62 3) - 1).toNatClampNeg)) = 0 then (sk_chk (sk_in ((M_17 62 3) - 1) 96) (if (f_X0_isDigit (M_17 63 ((M_17 62 3) - 1).toNatClampNeg)) = 0 then (some M_17) else (sk_b1 (f_X0_fail M_17) (fun M_24 => some M_24)))) else (sk_b1 (f_X0_fail M_17) (fun M_20 => some M_20)))))))))))
def f_J0_coder_7d493 (o0 : Nat) : Int32 := 0
def f_J0_length_8abf5 (o0 : Nat) : Int32 := ((nI (sk_sl.getD o0 0)) >>> (0 &&& 31))
def f_J0_isLatin1_aae02 (o0 : Nat) : Int32 := 1
theorem fz_J0_isLatin1_aae02 (o0 : Nat) : f_J0_isLatin1_aae02 o0 = 0 ∨ f_J0_isLatin1_aae02 o0 = 1 := by
  unfold f_J0_isLatin1_aae02
  repeat' split
  all_goals first | exact Or.inl rfl | exact Or.inr rfl
def f_J3_checkIndex_8e157 (a0 : Int32) (a1 : Int32) (M : sk_M) : Option Int32 := if a0 < 0 then none else (if a0 < a1 then (some a0) else none)
def f_J0_checkIndex_df160 (a0 : Int32) (a1 : Int32) (M : sk_M) : Option Unit := sk_b1 (f_J3_checkIndex_8e157 a0 a1 M) (fun x_2 => some ())
def f_J1_charAt_3b067 (o0 : Nat) (a1 : Int32) (M : sk_M) : Option Int32 := sk_b1 (f_J0_checkIndex_df160 a1 (nI (sk_sl.getD o0 0)) M) (fun _ => sk_chk (sk_in a1 (sk_sl.getD o0 0)) (some (sk_i2c (((sk_sb.getD o0 []).getD a1.toNatClampNeg 0) &&& 255))))
def f_J0_charAt_5068e (o0 : Nat) (a1 : Int32) (M : sk_M) : Option Int32 := sk_b1 (f_J1_charAt_3b067 o0 a1 M) (fun x_2 => some x_2)
def f_X0_isHere_L20 (o1 : Nat) (M : sk_M) : Nat → Int32 → Option ((Int32) ⊕ (Unit))
  | 0, _ => none
  | n + 1, a2 => if (f_J0_length_8abf5 o1) ≤ a2 then (some (Sum.inr ())) else (sk_chk (sk_in ((M 62 3) + a2) 96) (sk_b1 (f_J0_charAt_5068e o1 a2 M) (fun x_4 => if (M 63 ((M 62 3) + a2).toNatClampNeg) = x_4 then (f_X0_isHere_L20 o1 M n (a2 + 1)) else (some (Sum.inl 0)))))
def f_X0_isHere (o1 : Nat) (M : sk_M) : Option Int32 := if ((M 62 4) - (M 62 3)) = (f_J0_length_8abf5 o1) then (sk_s0 (f_X0_isHere_L20 o1 M sk_FU 0) (fun _ => some 1)) else (some 0)
def f_X0_keyHere (M : sk_M) : Option Int32 := sk_b1 (f_X0_isHere 0 M) (fun x_1 => if x_1 = 0 then (sk_b1 (f_X0_isHere 1 M) (fun x_3 => if x_3 = 0 then (sk_b1 (f_X0_isHere 2 M) (fun x_5 => some (if x_5 = 0 then (-1) else 2 : Int32))) else (some 1))) else (some 0))
def f_X0_signsOf (a0 : Int32) : Nat := if a0 = 0 then 3 else (if a0 = 1 then 4 else (if a0 = 2 then 5 else (if a0 = 3 then 6 else (7))))
theorem fs_X0_signsOf (a0 : Int32) : f_X0_signsOf a0 < 14 := by
  unfold f_X0_signsOf
  repeat' split
  all_goals decide
def f_J1_canEncode_9a6ad (a0 : Int32) : Int32 := (if a0 < 0 then 0 else (if 255 < a0 then 0 else 1 : Int32) : Int32)
theorem fz_J1_canEncode_9a6ad (a0 : Int32) : f_J1_canEncode_9a6ad a0 = 0 ∨ f_J1_canEncode_9a6ad a0 = 1 := by
  unfold f_J1_canEncode_9a6ad
  repeat' split
  all_goals first | exact Or.inl rfl | exact Or.inr rfl
def f_J1_indexOfChar_4cfef_L7 (o0 : Nat) (a3 : Int32) (a4 : Int32) (M : sk_M) : Nat → Int32 → Option ((Int32) ⊕ (Unit))
  | 0, _ => none
  | n + 1, a5 => if a3 ≤ a5 then (some (Sum.inr ())) else (sk_chk (sk_in a5 (sk_sl.getD o0 0)) (if ((sk_sb.getD o0 []).getD a5.toNatClampNeg 0) = a4 then (some (Sum.inl a5)) else (f_J1_indexOfChar_4cfef_L7 o0 a3 a4 M n (a5 + 1))))
def f_J1_indexOfChar_4cfef (o0 : Nat) (a1 : Int32) (a2 : Int32) (a3 : Int32) (M : sk_M) : Option Int32 := sk_let (sk_i2b a1) (fun x_1 => sk_s0 (f_J1_indexOfChar_4cfef_L7 o0 a3 x_1 M sk_FU a2) (fun _ => some (-1)))
def f_J1_indexOf_4cfef (o0 : Nat) (a1 : Int32) (a2 : Int32) (a3 : Int32) (M : sk_M) : Option Int32 := if (f_J1_canEncode_9a6ad a1) = 0 then (some (-1)) else (sk_let (if a2 < 0 then 0 else a2) (fun x_2 => sk_let (if (nI (sk_sl.getD o0 0)) < a3 then (nI (sk_sl.getD o0 0)) else a3) (fun x_3 => if x_2 < x_3 then (sk_b1 (f_J1_indexOfChar_4cfef o0 a1 x_2 x_3 M) (fun x_4 => some x_4)) else (some (-1)))))
def f_J0_indexOf_7cf53 (o0 : Nat) (a1 : Int32) (a2 : Int32) (M : sk_M) : Option Int32 := sk_b1 (f_J1_indexOf_4cfef o0 a1 a2 (f_J0_length_8abf5 o0) M) (fun x_3 => some x_3)
def f_J0_indexOf_0f7a4 (o0 : Nat) (a1 : Int32) (M : sk_M) : Option Int32 := sk_b1 (f_J0_indexOf_7cf53 o0 a1 0 M) (fun x_1 => some x_1)
def f_X0_isSignOf (o1 : Nat) (M : sk_M) : Option Int32 := if 0 ≤ (M 62 5) then (some 0) else (if (M 62 2) ≤ (M 62 3) then (some 0) else (sk_chk (sk_in (M 62 3) 96) (sk_b1 (f_J0_indexOf_0f7a4 o1 (sk_i2c (M 63 (M 62 3).toNatClampNeg)) M) (fun x_2 => some (if x_2 < 0 then 0 else 1 : Int32)))))
def f_X0_put (a1 : Int32) (M : sk_M) : Option sk_M := if 0 ≤ (M 62 5) then (some M) else (if 96 ≤ (M 62 7) then (some M) else (sk_chk (sk_in (M 62 7) 96) (sk_let (sk_u M 64 (M 62 7).toNatClampNeg a1) (fun M_2 => sk_let (sk_u M_2 62 7 ((M_2 62 7) + 1)) (fun M_3 => some M_3)))))
def f_X0_numberHere_L7 (M : sk_M) : Nat → Int32 → Int32 → Option (Int32)
  | 0, _, _ => none
  | n + 1, a1, a2 => if (M 62 4) ≤ a2 then (some a1) else (sk_chk (sk_in a2 96) (sk_let (((a1 * 10) + (M 63 a2.toNatClampNeg)) - 48) (fun x_3 => f_X0_numberHere_L7 M n x_3 (a2 + 1))))
def f_X0_numberHere (M : sk_M) : Option Int32 := sk_let (M 62 3) (fun x_1 => sk_b1 (f_X0_numberHere_L7 M sk_FU 0 x_1) (fun x_4 => some x_4))
def f_X0_names (M : sk_M) : Nat := if (M 62 6) = 0 then 11 else (if (M 62 6) = 1 then 12 else 13)
theorem fs_X0_names (M : sk_M) : f_X0_names M < 14 := by
  unfold f_X0_names
  repeat' split
  all_goals decide
def f_X0_leafCode (M : sk_M) : Option Int32 := if 0 ≤ (M 62 5) then (some (-4)) else (if (M 62 3) < (M 62 2) then (sk_chk (sk_in (M 62 3) 96) (if (f_X0_isDigit (M 63 (M 62 3).toNatClampNeg)) = 0 then (sk_b1 (if ((M 62 4) - (M 62 3)) = 1 then (sk_chk (sk_in (M 62 3) 96) (sk_b1 (f_J0_indexOf_0f7a4 (f_X0_names M) (sk_i2c (M 63 (M 62 3).toNatClampNeg)) M) (fun x_6 => some x_6))) else (some (-1))) (fun x_8 => some (if 0 ≤ x_8 then ((-3) + x_8) else (-4) : Int32))) else (if 4 < ((M 62 4) - (M 62 3)) then (some (-4)) else (sk_b1 (f_X0_numberHere M) (fun x_9 => some x_9))))) else (some (-4)))
def f_X0_readLeaf (M : sk_M) : Option sk_M := sk_b1 (f_X0_leafCode M) (fun x_1 => if (-3) ≤ x_1 then (sk_b1 (f_X0_put x_1 M) (fun M_3 => sk_let (sk_u M_3 62 8 ((M_3 62 8) + 1)) (fun M_5 => sk_b1 (f_X0_moveOn M_5) (fun M_6 => some M_6)))) else (sk_b1 (f_X0_fail M) (fun M_8 => some M_8)))
def f_X0_readLevel_L37 (self : Nat → Int32 → Int32 → Int32 → sk_M → Option sk_M) (a1 : Int32) (a2 : Int32) (a3 : Int32) (a4 : Int32) : Nat → Int32 → sk_M → Option (sk_M)
  | 0, _, _ => none
  | n + 1, a5, M => if a4 ≤ a5 then (some M) else (sk_b1 (f_X0_isSignOf (f_X0_signsOf a1) M) (fun x_5 => if x_5 = 0 then (some M) else (sk_chk (sk_in (M 62 3) 96) (sk_let (M 63 (M 62 3).toNatClampNeg) (fun x_8 => sk_b1 (f_X0_moveOn M) (fun M_9 => sk_b1 (self 0 (a1 + 1) a2 a3 M_9) (fun M_11 => sk_b1 (f_X0_put (-x_8) M_11) (fun M_13 => f_X0_readLevel_L37 self a1 a2 a3 a4 n (a5 + 1) M_13))))))))
def f_X0_readLevel (self : Nat → Int32 → Int32 → Int32 → sk_M → Option sk_M) (a1 : Int32) (a2 : Int32) (a3 : Int32) (M : sk_M) : Option sk_M := if a1 < 5 then (sk_b1 (self 0 (a1 + 1) a2 a3 M) (fun M_1 => sk_let (if a1 = 2 then 1 else 96 : Int32) (fun x_3 => sk_b1 (f_X0_readLevel_L37 self a1 a2 a3 x_3 sk_FU 0 M_1) (fun M_15 => some M_15)))) else (sk_b1 (self 1 a2 a3 0 M) (fun M_18 => some M_18))
def f_X0_readPiece (self : Nat → Int32 → Int32 → Int32 → sk_M → Option sk_M) (a1 : Int32) (a2 : Int32) (M : sk_M) : Option sk_M := sk_b1 (f_X0_isSignOf 8 M) (fun x_1 => if x_1 = 0 then (sk_b1 (f_X0_isSignOf 9 M) (fun x_3 => if x_3 = 0 then (sk_b1 (f_X0_readLeaf M) (fun M_5 => some M_5)) else (if 8 ≤ a1 then (sk_b1 (f_X0_readLeaf M) (fun M_7 => some M_7)) else (sk_b1 (f_X0_moveOn M) (fun M_9 => sk_b1 (self 0 0 (a1 + 1) a2 M_9) (fun M_11 => sk_b1 (f_X0_isSignOf 10 M_11) (fun x_13 => if x_13 = 0 then (sk_b1 (f_X0_fail M_11) (fun M_15 => some M_15)) else (sk_b1 (f_X0_moveOn M_11) (fun M_17 => some M_17))))))))) else (if 8 ≤ a2 then (sk_b1 (f_X0_isSignOf 9 M) (fun x_19 => if x_19 = 0 then (sk_b1 (f_X0_readLeaf M) (fun M_21 => some M_21)) else (if 8 ≤ a1 then (sk_b1 (f_X0_readLeaf M) (fun M_23 => some M_23)) else (sk_b1 (f_X0_moveOn M) (fun M_25 => sk_b1 (self 0 0 (a1 + 1) a2 M_25) (fun M_27 => sk_b1 (f_X0_isSignOf 10 M_27) (fun x_29 => if x_29 = 0 then (sk_b1 (f_X0_fail M_27) (fun M_31 => some M_31)) else (sk_b1 (f_X0_moveOn M_27) (fun M_33 => some M_33))))))))) else (sk_b1 (f_X0_moveOn M) (fun M_35 => sk_b1 (self 1 a1 (a2 + 1) 0 M_35) (fun M_37 => sk_b1 (f_X0_put (-33) M_37) (fun M_39 => some M_39))))))
def f_G0 : Nat → Nat → Int32 → Int32 → Int32 → sk_M → Option sk_M
  | 0, _, _, _, _, _ => none
  | n + 1, k, a, b, c, M => if k = 0 then f_X0_readLevel (f_G0 n) a b c M else f_X0_readPiece (f_G0 n) a b M
def f_X0_readTape (M : sk_M) : Option (Int32 × sk_M) := sk_let (sk_u M 62 5 (-1)) (fun M_1 => sk_let (sk_u M_1 62 4 0) (fun M_2 => sk_let (sk_u M_2 62 7 0) (fun M_3 => sk_let (sk_u M_3 62 8 0) (fun M_4 => sk_b1 (f_X0_moveOn M_4) (fun M_5 => sk_b1 (f_X0_keyHere M_5) (fun x_7 => sk_let (sk_u M_5 62 6 x_7) (fun M_9 => if 0 ≤ (M_9 62 6) then (sk_b1 (f_X0_moveOn M_9) (fun M_10 => sk_b1 (f_G0 sk_RD 0 0 0 0 M_10) (fun M_12 => if (M_12 62 2) ≤ (M_12 62 3) then (some ((M_12 62 5), M_12)) else (sk_b1 (f_X0_fail M_12) (fun M_14 => some ((M_14 62 5), M_14)))))) else (sk_b1 (f_X0_fail M_9) (fun M_16 => some ((M_16 62 5), M_16))))))))))
def f_J7_fill_53178_L5 (o0 n0 : Nat) (a1 : Int32) (a3 : Int32) : Nat → Int32 → sk_M → Option (sk_M)
  | 0, _, _ => none
  | n + 1, a2, M => if a3 ≤ a2 then (some M) else (sk_chk (sk_in a2 n0) (sk_let (sk_u M o0 a2.toNatClampNeg a1) (fun M_3 => f_J7_fill_53178_L5 o0 n0 a1 a3 n (a2 + 1) M_3)))
def f_J7_fill_53178 (o0 n0 : Nat) (a1 : Int32) (M : sk_M) : Option sk_M := sk_let (nI n0) (fun x_1 => sk_b1 (f_J7_fill_53178_L5 o0 n0 a1 x_1 sk_FU 0 M) (fun M_4 => some M_4))
def f_X1_becomeRow (o0 : Nat) (a1 : Int32) (a2 : Int32) (M : sk_M) : Option sk_M := sk_let (sk_u M o0 1 a1) (fun M_1 => sk_let (sk_u M_1 o0 2 a2) (fun M_2 => sk_b1 (f_J7_fill_53178 (o0 + 1) 24 0 M_2) (fun M_3 => some M_3)))
def f_X1_becomeLike (o0 : Nat) (o1 : Nat) (M : sk_M) : Option sk_M := sk_let (sk_u M o0 1 (M o1 1)) (fun M_1 => sk_let (sk_u M_1 o0 2 (M_1 o1 2)) (fun M_2 => sk_let (sk_uA M_2 (o0 + 1) (va_cpy (M_2 (o1 + 1)) (M_2 (o0 + 1)) (0 : Int32).toNatClampNeg (0 : Int32).toNatClampNeg (24 : Int32).toNatClampNeg)) (fun M_3 => some M_3)))
def f_X1_hasPlaces (o0 : Nat) (a1 : Int32) (a2 : Int32) (M : sk_M) : Int32 := (if a1 < 0 then 0 else (if a2 < 0 then 0 else (if (M o0 2) < a1 then 0 else (if ((M o0 2) - a1) < a2 then 0 else 1 : Int32) : Int32) : Int32) : Int32)
theorem fz_X1_hasPlaces (o0 : Nat) (a1 : Int32) (a2 : Int32) (M : sk_M) : f_X1_hasPlaces o0 a1 a2 M = 0 ∨ f_X1_hasPlaces o0 a1 a2 M = 1 := by
  unfold f_X1_hasPlaces
  repeat' split
  all_goals first | exact Or.inl rfl | exact Or.inr rfl
def f_X3_store (a1 : Int32) (M : sk_M) : Option sk_M := sk_chk (sk_in a1 14) (sk_chk (sk_cin 0 (M 62 7) 96) (sk_chk (sk_cin 0 (M 62 7) 96) (sk_let (sk_uA M (48 + a1.toNatClampNeg) (va_cpy (M 64) (M (48 + a1.toNatClampNeg)) (0 : Int32).toNatClampNeg (0 : Int32).toNatClampNeg (M 62 7).toNatClampNeg)) (fun M_4 => sk_chk (sk_in a1 14) (sk_let (sk_u M_4 44 a1.toNatClampNeg (M_4 62 7)) (fun M_6 => sk_chk (sk_in a1 14) (sk_let (sk_u M_6 45 a1.toNatClampNeg (M_6 62 6)) (fun M_8 => sk_chk (sk_in a1 14) (sk_let (sk_u M_8 46 a1.toNatClampNeg (M_8 62 8)) (fun M_10 => some M_10))))))))))
def f_X3_named (a0 : Int32) (a1 : Int32) (a2 : Int32) (a3 : Int32) : Int32 := sk_let (a0 - (-3)) (fun x_1 => if x_1 = 0 then a1 else ((if x_1 = 1 then a2 else a3 : Int32)))
def f_X3_join (a0 : Int32) (a1 : Int32) (a2 : Int32) (M : sk_M) : Option Int32 := if a0 = 38 then (some (if a1 = 0 then 0 else (if a2 = 0 then 0 else 1 : Int32) : Int32)) else (if a0 = 42 then (some (a1 * a2)) else (if a0 = 43 then (some (a1 + a2)) else (if a0 = 45 then (some (a1 - a2)) else (if a0 = 60 then (some (if a2 ≤ a1 then 0 else 1 : Int32)) else (if a0 = 61 then (some (if a1 = a2 then 1 else 0 : Int32)) else (if a0 = 62 then (some (if a1 ≤ a2 then 0 else 1 : Int32)) else (if a0 = 124 then (if a1 = 0 then (some (if a2 = 0 then 0 else 1 : Int32)) else (some 1)) else (if a2 = 0 then (some 0) else (sk_chk (decide (¬ a2 = 0)) (some (a1 / a2)))))))))))
def f_X3_give_L6 (a1 : Int32) (a2 : Int32) (a3 : Int32) (a4 : Int32) : Nat → Int32 → Int32 → sk_M → Option (sk_M)
  | 0, _, _, _ => none
  | n + 1, a5, a6, M => sk_chk (sk_in a1 14) (if (M 44 a1.toNatClampNeg) ≤ a6 then (some M) else (sk_chk (sk_in a1 14) (sk_chk (sk_in a6 96) (sk_let (M (48 + a1.toNatClampNeg) a6.toNatClampNeg) (fun x_4 => if x_4 < (-3) then (if x_4 = (-33) then (if a5 < 1 then (if a5 < 2 then (f_X3_give_L6 a1 a2 a3 a4 n a5 (a6 + 1) M) else (sk_chk (sk_in ((a5 + (-1)) - 1) 96) (sk_chk (sk_in (a5 + (-1)) 96) (sk_b1 (f_X3_join (-x_4) (M 47 ((a5 + (-1)) - 1).toNatClampNeg) (M 47 (a5 + (-1)).toNatClampNeg) M) (fun x_13 => sk_chk (sk_in ((a5 + (-1)) - 1) 96) (sk_let (sk_u M 47 ((a5 + (-1)) - 1).toNatClampNeg x_13) (fun M_16 => f_X3_give_L6 a1 a2 a3 a4 n (a5 + (-1)) (a6 + 1) M_16))))))) else (sk_chk (sk_in (a5 - 1) 96) (sk_chk (sk_in (a5 - 1) 96) (sk_let (sk_u M 47 (a5 - 1).toNatClampNeg (if (M 47 (a5 - 1).toNatClampNeg) = 0 then 1 else 0 : Int32)) (fun M_19 => f_X3_give_L6 a1 a2 a3 a4 n a5 (a6 + 1) M_19))))) else (if a5 < 2 then (f_X3_give_L6 a1 a2 a3 a4 n a5 (a6 + 1) M) else (sk_chk (sk_in ((a5 + (-1)) - 1) 96) (sk_chk (sk_in (a5 + (-1)) 96) (sk_b1 (f_X3_join (-x_4) (M 47 ((a5 + (-1)) - 1).toNatClampNeg) (M 47 (a5 + (-1)).toNatClampNeg) M) (fun x_7 => sk_chk (sk_in ((a5 + (-1)) - 1) 96) (sk_let (sk_u M 47 ((a5 + (-1)) - 1).toNatClampNeg x_7) (fun M_10 => f_X3_give_L6 a1 a2 a3 a4 n (a5 + (-1)) (a6 + 1) M_10)))))))) else (sk_chk (sk_in a5 96) (sk_let (sk_u M 47 a5.toNatClampNeg (if x_4 < 0 then (f_X3_named x_4 a2 a3 a4) else x_4 : Int32)) (fun M_22 => f_X3_give_L6 a1 a2 a3 a4 n (a5 + 1) (a6 + 1) M_22))))))))
def f_X3_give (a1 : Int32) (a2 : Int32) (a3 : Int32) (a4 : Int32) (M : sk_M) : Option (Int32 × sk_M) := sk_b1 (f_X3_give_L6 a1 a2 a3 a4 sk_FU 0 0 M) (fun M_23 => some ((M_23 47 0), M_23))
def f_X4_begin (o0 : Nat) (a1 : Int32) (M : sk_M) : Option sk_M := sk_chk (sk_in a1 6) (sk_let (sk_uA M (o0 + 1) (va_cpy (M ((sk_tw o0) + 10 + a1.toNatClampNeg)) (M (o0 + 1)) (0 : Int32).toNatClampNeg (0 : Int32).toNatClampNeg (9 : Int32).toNatClampNeg)) (fun M_2 => sk_chk (sk_in a1 6) (sk_let (sk_u M_2 o0 2 (M_2 ((sk_tw o0) + 6) a1.toNatClampNeg)) (fun M_4 => sk_let (sk_u M_4 o0 3 (M_4 (sk_tw o0) 14)) (fun M_5 => some M_5)))))
def f_X5_loss (o0 : Nat) (a1 : Int32) (a2 : Int32) (a3 : Int32) (a4 : Int32) (M : sk_M) : Option (Int32 × sk_M) := sk_chk (sk_in a1 9) (sk_let (M (o0 + 2) a1.toNatClampNeg) (fun x_2 => sk_let (M (o0 + 8) 0) (fun x_3 => sk_b2 (if x_3 = (-1000000005) then (some ((((a2 * (x_2 + a3)) / 100) + 1), M)) else (sk_b2 (f_X3_give x_3 a2 x_2 a3 M) (fun x_5 M_6 => some (x_5, M_6)))) (fun x_8 M_9 => sk_let (if 0 < (if x_8 < a2 then x_8 else a2) then (if x_8 < a2 then x_8 else a2) else 0) (fun x_10 => sk_let (if (x_10 + x_2) < a2 then (x_10 + x_2) else a2) (fun x_11 => sk_chk (sk_in a1 9) (if (M_9 (o0 + 1) a1.toNatClampNeg) = 1 then (some ((x_10 / 2), M_9)) else (if (M_9 (o0 + 1) a1.toNatClampNeg) = 2 then (some (x_11, M_9)) else (if (M_9 (o0 + 1) a1.toNatClampNeg) = 3 then (sk_let (if 0 < ((x_10 / 2) - 1) then ((x_10 / 2) - 1) else 0) (fun x_15 => some (x_15, M_9))) else (if (M_9 (o0 + 1) a1.toNatClampNeg) = 4 then (sk_let (if (2 * x_11) < a2 then (2 * x_11) else a2) (fun x_17 => some (x_17, M_9))) else (if (M_9 (o0 + 1) a1.toNatClampNeg) = 5 then (some ((if (a4 - a4 / 2 * 2) = 1 then x_10 else 0 : Int32), M_9)) else (some (x_10, M_9)))))))))))))
def f_X5_fadeRow_L3 (o0 : Nat) (o1 : Nat) (a2 : Int32) (a3 : Int32) : Nat → Int32 → sk_M → Option (sk_M)
  | 0, _, _ => none
  | n + 1, a4, M => if (M o0 10) ≤ a4 then (some M) else (sk_chk (sk_in a4 9) (sk_chk (sk_in a4 9) (sk_b2 (f_X5_loss o0 a4 (M o1 a4.toNatClampNeg) a2 a3 M) (fun x_3 M_4 => sk_chk (sk_in a4 9) (sk_let (sk_u M_4 o1 a4.toNatClampNeg ((M o1 a4.toNatClampNeg) - x_3)) (fun M_7 => f_X5_fadeRow_L3 o0 o1 a2 a3 n (a4 + 1) M_7))))))
def f_X5_fadeRow (o0 : Nat) (o1 : Nat) (a2 : Int32) (a3 : Int32) (M : sk_M) : Option sk_M := sk_b1 (f_X5_fadeRow_L3 o0 o1 a2 a3 sk_FU 0 M) (fun M_8 => some M_8)
def f_X4_passDay (o0 : Nat) (M : sk_M) : Option sk_M := sk_b1 (f_X5_fadeRow (sk_tw o0) (o0 + 1) (M o0 2) (M o0 3) M) (fun M_1 => sk_let (sk_u M_1 o0 3 ((M_1 o0 3) + 1)) (fun M_3 => some M_3))
def f_X4_passDays_L2 (o0 : Nat) (a1 : Int32) : Nat → Int32 → sk_M → Option (sk_M)
  | 0, _, _ => none
  | n + 1, a2, M => if a1 ≤ a2 then (some M) else (sk_b1 (f_X4_passDay o0 M) (fun M_1 => f_X4_passDays_L2 o0 a1 n (a2 + 1) M_1))
def f_X4_passDays (o0 : Nat) (a1 : Int32) (M : sk_M) : Option sk_M := sk_b1 (f_X4_passDays_L2 o0 a1 sk_FU 0 M) (fun M_3 => some M_3)
def f_X5_isHidden_L2 (o0 : Nat) (o1 : Nat) (a2 : Int32) (M : sk_M) : Nat → Int32 → Option ((Int32) ⊕ (Unit))
  | 0, _ => none
  | n + 1, a3 => if (M o0 10) ≤ a3 then (some (Sum.inr ())) else (sk_chk (sk_in a3 9) (if (((M (o0 + 3) a3.toNatClampNeg) >>> (a2 &&& 31)) &&& 1) = 1 then (sk_chk (sk_in a3 9) (sk_chk (sk_in a2 9) (if (M o1 a3.toNatClampNeg) < (2 * (M o1 a2.toNatClampNeg)) then (f_X5_isHidden_L2 o0 o1 a2 M n (a3 + 1)) else (some (Sum.inl 1))))) else (f_X5_isHidden_L2 o0 o1 a2 M n (a3 + 1))))
def f_X5_isHidden (o0 : Nat) (o1 : Nat) (a2 : Int32) (M : sk_M) : Option Int32 := sk_s0 (f_X5_isHidden_L2 o0 o1 a2 M sk_FU 0) (fun _ => some 0)
def f_X5_smelled_L5 (o0 : Nat) (o1 : Nat) (a2 : Int32) (M : sk_M) : Nat → Int32 → Int32 → Option (Int32)
  | 0, _, _ => none
  | n + 1, a3, a4 => if (M o0 10) ≤ a4 then (some a3) else (sk_chk (sk_in a4 9) (sk_chk (sk_in a2 4) (if (M o1 a4.toNatClampNeg) < (M (o0 + 4) a2.toNatClampNeg) then (f_X5_smelled_L5 o0 o1 a2 M n a3 (a4 + 1)) else (sk_b1 (f_X5_isHidden o0 o1 a4 M) (fun x_3 => if x_3 = 0 then (sk_let (a3 ||| (1 <<< (a4 &&& 31))) (fun x_5 => f_X5_smelled_L5 o0 o1 a2 M n x_5 (a4 + 1))) else (f_X5_smelled_L5 o0 o1 a2 M n a3 (a4 + 1)))))))
def f_X5_smelled (o0 : Nat) (o1 : Nat) (a2 : Int32) (M : sk_M) : Option Int32 := sk_b1 (f_X5_smelled_L5 o0 o1 a2 M sk_FU 0 0) (fun x_6 => some x_6)
def f_X4_smelledBy (o0 : Nat) (a1 : Int32) (M : sk_M) : Option Int32 := sk_b1 (f_X5_smelled (sk_tw o0) (o0 + 1) a1 M) (fun x_1 => some x_1)
def f_X5_said_L10 (o0 : Nat) (o1 : Nat) (a3 : Int32) (M : sk_M) : Nat → Int32 → Option ((Int32) ⊕ (Unit))
  | 0, _ => none
  | n + 1, a4 => if (M o0 11) ≤ a4 then (some (Sum.inr ())) else (sk_chk (sk_in a4 12) (if (M (o0 + 5) a4.toNatClampNeg) = a3 then (some (Sum.inl a4)) else (f_X5_said_L10 o0 o1 a3 M n (a4 + 1))))
def f_X5_said (o0 : Nat) (o1 : Nat) (a2 : Int32) (M : sk_M) : Option Int32 := sk_b1 (f_X5_smelled o0 o1 a2 M) (fun x_1 => sk_s0 (f_X5_said_L10 o0 o1 x_1 M sk_FU 0) (fun _ => some (-1000000005)))
def f_X4_saidTo (o0 : Nat) (a1 : Int32) (M : sk_M) : Option Int32 := sk_b1 (f_X5_said (sk_tw o0) (o0 + 1) a1 M) (fun x_1 => some x_1)
def f_X5_sumOf_L4 (o0 : Nat) (o1 : Nat) (M : sk_M) : Nat → Int32 → Int32 → Option (Int32)
  | 0, _, _ => none
  | n + 1, a2, a3 => if (M o0 10) ≤ a3 then (some a2) else (sk_chk (sk_in a3 9) (sk_let (a2 + (M o1 a3.toNatClampNeg)) (fun x_2 => f_X5_sumOf_L4 o0 o1 M n x_2 (a3 + 1))))
def f_X5_sumOf (o0 : Nat) (o1 : Nat) (M : sk_M) : Option Int32 := sk_b1 (f_X5_sumOf_L4 o0 o1 M sk_FU 0 0) (fun x_3 => some x_3)
def f_X4_sum (o0 : Nat) (M : sk_M) : Option Int32 := sk_b1 (f_X5_sumOf (sk_tw o0) (o0 + 1) M) (fun x_1 => some x_1)
def f_X5_becomeLike_L105 (o0 : Nat) (o1 : Nat) : Nat → Int32 → sk_M → Option (sk_M)
  | 0, _, _ => none
  | n + 1, a2, M => if 6 ≤ a2 then (some M) else (sk_chk (sk_in a2 6) (sk_chk (sk_in a2 6) (sk_let (sk_uA M (o0 + 10 + a2.toNatClampNeg) (va_cpy (M (o1 + 10 + a2.toNatClampNeg)) (M (o0 + 10 + a2.toNatClampNeg)) (0 : Int32).toNatClampNeg (0 : Int32).toNatClampNeg (9 : Int32).toNatClampNeg)) (fun M_10 => f_X5_becomeLike_L105 o0 o1 n (a2 + 1) M_10))))
def f_X5_becomeLike (o0 : Nat) (o1 : Nat) (M : sk_M) : Option sk_M := sk_let (sk_uA M (o0 + 1) (va_cpy (M (o1 + 1)) (M (o0 + 1)) (0 : Int32).toNatClampNeg (0 : Int32).toNatClampNeg (9 : Int32).toNatClampNeg)) (fun M_1 => sk_let (sk_uA M_1 (o0 + 2) (va_cpy (M_1 (o1 + 2)) (M_1 (o0 + 2)) (0 : Int32).toNatClampNeg (0 : Int32).toNatClampNeg (9 : Int32).toNatClampNeg)) (fun M_2 => sk_let (sk_uA M_2 (o0 + 3) (va_cpy (M_2 (o1 + 3)) (M_2 (o0 + 3)) (0 : Int32).toNatClampNeg (0 : Int32).toNatClampNeg (9 : Int32).toNatClampNeg)) (fun M_3 => sk_let (sk_uA M_3 (o0 + 4) (va_cpy (M_3 (o1 + 4)) (M_3 (o0 + 4)) (0 : Int32).toNatClampNeg (0 : Int32).toNatClampNeg (4 : Int32).toNatClampNeg)) (fun M_4 => sk_let (sk_uA M_4 (o0 + 5) (va_cpy (M_4 (o1 + 5)) (M_4 (o0 + 5)) (0 : Int32).toNatClampNeg (0 : Int32).toNatClampNeg (12 : Int32).toNatClampNeg)) (fun M_5 => sk_let (sk_uA M_5 (o0 + 6) (va_cpy (M_5 (o1 + 6)) (M_5 (o0 + 6)) (0 : Int32).toNatClampNeg (0 : Int32).toNatClampNeg (6 : Int32).toNatClampNeg)) (fun M_6 => sk_let (sk_uA M_6 (o0 + 8) (va_cpy (M_6 (o1 + 8)) (M_6 (o0 + 8)) (0 : Int32).toNatClampNeg (0 : Int32).toNatClampNeg (3 : Int32).toNatClampNeg)) (fun M_7 => sk_b1 (f_X5_becomeLike_L105 o0 o1 sk_FU 0 M_7) (fun M_11 => sk_let (sk_u M_11 o0 10 (M_11 o1 10)) (fun M_12 => sk_let (sk_u M_12 o0 11 (M_12 o1 11)) (fun M_13 => sk_let (sk_u M_13 o0 12 (M_13 o1 12)) (fun M_14 => sk_let (sk_u M_14 o0 13 (M_14 o1 13)) (fun M_15 => sk_let (sk_u M_15 o0 14 (M_15 o1 14)) (fun M_16 => sk_let (sk_u M_16 o0 15 (M_16 o1 15)) (fun M_17 => some M_17))))))))))))))
def f_X5_addScent (o0 : Nat) (a1 : Int32) (a2 : Int32) (M : sk_M) : Option (Int32 × sk_M) := if (M o0 10) < 9 then (sk_chk (sk_in (M o0 10) 9) (sk_let (sk_u M (o0 + 1) (M o0 10).toNatClampNeg a1) (fun M_2 => sk_chk (sk_in (M_2 o0 10) 9) (sk_let (sk_u M_2 (o0 + 2) (M_2 o0 10).toNatClampNeg a2) (fun M_4 => sk_let (sk_u M_4 o0 10 ((M_4 o0 10) + 1)) (fun M_5 => some (((M_5 o0 10) - 1), M_5))))))) else (some ((-1000000003), M))
def f_X5_draw (o0 : Nat) (M : sk_M) : Option (Int32 × sk_M) := sk_let (sk_u M o0 15 (((M o0 15) * 1103515245) + 12345)) (fun M_1 => some ((sk_ushr (M_1 o0 15) 8), M_1))
def f_X5_putSpot (o0 : Nat) (a1 : Int32) (a2 : Int32) (a3 : Int32) (M : sk_M) : Option (Int32 × sk_M) := sk_chk (sk_in a1 6) (sk_chk (sk_in a2 9) (sk_let (M (o0 + 10 + a1.toNatClampNeg) a2.toNatClampNeg) (fun x_3 => sk_chk (sk_in a1 6) (sk_chk (sk_in a2 9) (sk_let (sk_u M (o0 + 10 + a1.toNatClampNeg) a2.toNatClampNeg a3) (fun M_6 => some ((if x_3 = a3 then 0 else 1 : Int32), M_6)))))))
def f_X5_passDay_L2 (o0 : Nat) : Nat → Int32 → sk_M → Option (sk_M)
  | 0, _, _ => none
  | n + 1, a1, M => if (M o0 12) ≤ a1 then (some M) else (sk_chk (sk_in a1 6) (sk_chk (sk_in a1 6) (sk_b1 (f_X5_fadeRow o0 (o0 + 10 + a1.toNatClampNeg) (M (o0 + 6) a1.toNatClampNeg) (M o0 14) M) (fun M_3 => f_X5_passDay_L2 o0 n (a1 + 1) M_3))))
def f_X5_passDay (o0 : Nat) (M : sk_M) : Option sk_M := sk_b1 (f_X5_passDay_L2 o0 sk_FU 0 M) (fun M_5 => sk_let (sk_u M_5 o0 14 ((M_5 o0 14) + 1)) (fun M_6 => some M_6))
def f_X5_present_L4 (o0 : Nat) (o1 : Nat) (M : sk_M) : Nat → Int32 → Int32 → Option (Int32)
  | 0, _, _ => none
  | n + 1, a2, a3 => if (M o0 10) ≤ a3 then (some a2) else (sk_chk (sk_in a3 9) (if (M o1 a3.toNatClampNeg) = 0 then (f_X5_present_L4 o0 o1 M n a2 (a3 + 1)) else (f_X5_present_L4 o0 o1 M n (a2 + 1) (a3 + 1))))
def f_X5_present (o0 : Nat) (o1 : Nat) (M : sk_M) : Option Int32 := sk_b1 (f_X5_present_L4 o0 o1 M sk_FU 0 0) (fun x_2 => some x_2)
def f_X5_sumOfAll_L4 (o0 : Nat) (M : sk_M) : Nat → Int32 → Int32 → Option (Int32)
  | 0, _, _ => none
  | n + 1, a1, a2 => if (M o0 12) ≤ a2 then (some a1) else (sk_chk (sk_in a2 6) (sk_b1 (f_X5_sumOf o0 (o0 + 10 + a2.toNatClampNeg) M) (fun x_2 => sk_let (a1 + x_2) (fun x_4 => f_X5_sumOfAll_L4 o0 M n x_4 (a2 + 1)))))
def f_X5_sumOfAll (o0 : Nat) (M : sk_M) : Option Int32 := sk_b1 (f_X5_sumOfAll_L4 o0 M sk_FU 0 0) (fun x_5 => some x_5)
def f_X5_fadings (o0 : Nat) (a1 : Int32) (a2 : Int32) (M : sk_M) : Option Int32 := sk_chk (sk_in a1 9) (some (if (M (o0 + 1) a1.toNatClampNeg) = 5 then ((((M o0 14) + a2) / 2) - ((M o0 14) / 2)) else a2 : Int32))
def f_X5_leastLeft_L19 (o0 : Nat) (a1 : Int32) (a2 : Int32) (a3 : Int32) (a5 : Int32) (a6 : Int32) (a7 : Int32) : Nat → Int32 → sk_M → Option ((Int32 × sk_M) ⊕ (sk_M))
  | 0, _, _ => none
  | n + 1, a8, M => if 999 < a8 then (some (Sum.inr M)) else (sk_b2 (f_X5_loss o0 a1 a8 a2 a6 M) (fun x_3 M_4 => sk_let (a8 - x_3) (fun x_6 => sk_b1 (if x_6 = a8 then (sk_chk (sk_in a8 1000) (sk_let (sk_u M_4 (o0 + 9) a8.toNatClampNeg a5) (fun M_14 => some M_14))) else (if a3 ≤ x_6 then (sk_chk (sk_in x_6 1000) (sk_chk (sk_in a8 1000) (sk_let (sk_u M_4 (o0 + 9) a8.toNatClampNeg ((M_4 (o0 + 9) x_6.toNatClampNeg) + 1)) (fun M_10 => some M_10)))) else (sk_chk (sk_in a8 1000) (sk_let (sk_u M_4 (o0 + 9) a8.toNatClampNeg 0) (fun M_12 => some M_12))))) (fun M_15 => sk_chk (sk_in a8 1000) (if (M_15 (o0 + 9) a8.toNatClampNeg) < a7 then (f_X5_leastLeft_L19 o0 a1 a2 a3 a5 a6 a7 n (a8 + 1) M_15) else (some (Sum.inl (a8, M_15))))))))
def f_X5_leastLeft (o0 : Nat) (a1 : Int32) (a2 : Int32) (a3 : Int32) (a4 : Int32) (M : sk_M) : Option (Int32 × sk_M) := sk_b1 (f_X5_fadings o0 a1 a4 M) (fun x_1 => sk_s1 (f_X5_leastLeft_L19 o0 a1 a2 a3 100 1 x_1 sk_FU a3 M) (fun M_17 => some ((-1000000005), M_17)))
def f_X6_within (a0 : Int32) (a1 : Int32) (a2 : Int32) : Int32 := (if a0 < a1 then 0 else (if a2 < a0 then 0 else 1 : Int32) : Int32)
theorem fz_X6_within (a0 : Int32) (a1 : Int32) (a2 : Int32) : f_X6_within a0 a1 a2 = 0 ∨ f_X6_within a0 a1 a2 = 1 := by
  unfold f_X6_within
  repeat' split
  all_goals first | exact Or.inl rfl | exact Or.inr rfl
def f_X6_isKind (a0 : Int32) : Int32 := (f_X6_within a0 0 5)
theorem fz_X6_isKind (a0 : Int32) : f_X6_isKind a0 = 0 ∨ f_X6_isKind a0 = 1 := by
  unfold f_X6_isKind
  repeat' split
  all_goals first | exact Or.inl rfl | exact Or.inr rfl | exact fz_X6_within _ _ _
def f_X6_scent (a1 : Int32) (a2 : Int32) (M : sk_M) : Option (Int32 × sk_M) := if (f_X6_isKind a1) = 0 then (some ((-1000000001), M)) else (if (f_X6_within a2 0 50) = 0 then (some ((-1000000001), M)) else (sk_b2 (f_X5_addScent 10 a1 a2 M) (fun x_3 M_4 => some (x_3, M_4))))
def f_X6_isScent (a1 : Int32) (M : sk_M) : Int32 := (f_X6_within a1 0 ((M 10 10) - 1))
theorem fz_X6_isScent (a1 : Int32) (M : sk_M) : f_X6_isScent a1 M = 0 ∨ f_X6_isScent a1 M = 1 := by
  unfold f_X6_isScent
  repeat' split
  all_goals first | exact Or.inl rfl | exact Or.inr rfl | exact fz_X6_within _ _ _
def f_X6_worth (a0 : Int32) (a1 : Int32) : Int32 := if a0 = 1 then ((60 - a1)) else (if a0 = 2 then ((a1 + 5)) else (if a0 = 3 then ((2 * (60 - a1))) else (if a0 = 4 then (((a1 + 5) - 7)) else (if a0 = 5 then 99 else (a1)))))
def f_X6_told (a1 : Int32) (a2 : Int32) (M : sk_M) : Option Int32 := if (f_X6_isScent a1 M) = 0 then (some (-1000000001)) else (if a2 = 0 then (sk_chk (sk_in a1 9) (some (M 11 a1.toNatClampNeg))) else (if a2 = 1 then (sk_chk (sk_in a1 9) (some (M 12 a1.toNatClampNeg))) else (if a2 = 2 then (sk_chk (sk_in a1 9) (sk_chk (sk_in a1 9) (some (f_X6_worth (M 11 a1.toNatClampNeg) (M 12 a1.toNatClampNeg))))) else (if a2 = 3 then (sk_chk (sk_in a1 9) (some (M 13 a1.toNatClampNeg))) else (some (-1000000001))))))
def f_X6_isUnder_L4 (a1 : Int32) (M : sk_M) : Nat → Int32 → Int32 → Option ((Int32) ⊕ (Unit))
  | 0, _, _ => none
  | n + 1, a2, a3 => if 6 ≤ a3 then (some (Sum.inr ())) else (if (f_X6_isKind a2) = 0 then (some (Sum.inr ())) else (if a2 = a1 then (some (Sum.inl 1)) else (sk_chk (sk_in a2 6) (sk_let (sk_ab.getD a2.toNatClampNeg 0) (fun x_3 => f_X6_isUnder_L4 a1 M n x_3 (a3 + 1))))))
def f_X6_isUnder (a0 : Int32) (a1 : Int32) (M : sk_M) : Option Int32 := sk_s0 (f_X6_isUnder_L4 a1 M sk_FU a0 0) (fun _ => some 0)
def f_X6_as (a1 : Int32) (a2 : Int32) (M : sk_M) : Option Int32 := if (f_X6_isScent a1 M) = 0 then (some (-1000000001)) else (if (f_X6_isKind a2) = 0 then (some (-1000000001)) else (sk_chk (sk_in a1 9) (sk_b1 (f_X6_isUnder (M 11 a1.toNatClampNeg) a2 M) (fun x_4 => if x_4 = 0 then (some (-1000000012)) else (sk_chk (sk_in a1 9) (some (M 12 a1.toNatClampNeg)))))))
def f_X6_turns (a1 : Int32) (a2 : Int32) (M : sk_M) : Option (Int32 × sk_M) := if (f_X6_isScent a1 M) = 0 then (some ((-1000000001), M)) else (if (f_X6_isKind a2) = 0 then (some ((-1000000001), M)) else (sk_chk (sk_in a1 9) (sk_let (M 11 a1.toNatClampNeg) (fun x_4 => sk_chk (sk_in a1 9) (sk_let (sk_u M 11 a1.toNatClampNeg a2) (fun M_6 => some (x_4, M_6)))))))
def f_X6_pace (a1 : Int32) (a2 : Int32) (M : sk_M) : Option (Int32 × sk_M) := if (f_X6_isScent a1 M) = 0 then (some ((-1000000001), M)) else (if (f_X6_within a2 0 50) = 0 then (some ((-1000000001), M)) else (sk_chk (sk_in a1 9) (sk_let (M 12 a1.toNatClampNeg) (fun x_4 => sk_chk (sk_in a1 9) (sk_let (sk_u M 12 a1.toNatClampNeg a2) (fun M_6 => some (x_4, M_6)))))))
def f_X6_hide (a1 : Int32) (a2 : Int32) (a3 : Int32) (M : sk_M) : Option (Int32 × sk_M) := if (f_X6_isScent a1 M) = 0 then (some ((-1000000001), M)) else (if (f_X6_isScent a2 M) = 0 then (some ((-1000000001), M)) else (if a1 = a2 then (some ((-1000000001), M)) else (if (f_X6_within a3 0 1) = 0 then (some ((-1000000001), M)) else (sk_chk (sk_in a1 9) (sk_let (((M 13 a1.toNatClampNeg) >>> (a2 &&& 31)) &&& 1) (fun x_5 => sk_chk (sk_in a1 9) (sk_chk (sk_in a1 9) (sk_let (sk_u M 13 a1.toNatClampNeg (((M 13 a1.toNatClampNeg) &&& ((1 <<< (a2 &&& 31)) ^^^ (-1))) ||| (a3 <<< (a2 &&& 31)))) (fun M_8 => some (x_5, M_8))))))))))
def f_X6_isNose (a0 : Int32) : Int32 := (f_X6_within a0 0 3)
theorem fz_X6_isNose (a0 : Int32) : f_X6_isNose a0 = 0 ∨ f_X6_isNose a0 = 1 := by
  unfold f_X6_isNose
  repeat' split
  all_goals first | exact Or.inl rfl | exact Or.inr rfl | exact fz_X6_within _ _ _
def f_X6_nose (a1 : Int32) (a2 : Int32) (M : sk_M) : Option (Int32 × sk_M) := if (f_X6_isNose a1) = 0 then (some ((-1000000001), M)) else (if (f_X6_within a2 1 999) = 0 then (some ((-1000000001), M)) else (sk_chk (sk_in a1 4) (sk_let (M 14 a1.toNatClampNeg) (fun x_4 => sk_chk (sk_in a1 4) (sk_let (sk_u M 14 a1.toNatClampNeg a2) (fun M_6 => some (x_4, M_6)))))))
def f_X6_word (a1 : Int32) (M : sk_M) : Option (Int32 × sk_M) := sk_let ((1 <<< ((M 10 10) &&& 31)) - 1) (fun x_1 => if a1 = 0 then (some ((-1000000001), M)) else (if (a1 &&& (x_1 ^^^ (-1))) = 0 then (if (M 10 11) < 12 then (sk_chk (sk_in (M 10 11) 12) (sk_let (sk_u M 15 (M 10 11).toNatClampNeg a1) (fun M_3 => sk_let (sk_u M_3 10 11 ((M_3 10 11) + 1)) (fun M_4 => some (((M_4 10 11) - 1), M_4))))) else (some ((-1000000003), M))) else (some ((-1000000001), M))))
def f_X6_isWord (a1 : Int32) (M : sk_M) : Int32 := (f_X6_within a1 0 ((M 10 11) - 1))
theorem fz_X6_isWord (a1 : Int32) (M : sk_M) : f_X6_isWord a1 M = 0 ∨ f_X6_isWord a1 M = 1 := by
  unfold f_X6_isWord
  repeat' split
  all_goals first | exact Or.inl rfl | exact Or.inr rfl | exact fz_X6_within _ _ _
def f_X6_wordOf (a1 : Int32) (M : sk_M) : Option Int32 := if (f_X6_isWord a1 M) = 0 then (some (-1000000001)) else (sk_chk (sk_in a1 12) (some (M 15 a1.toNatClampNeg)))
def f_X6_deal_L30 (a2 : Int32) : Nat → Int32 → sk_M → Option (sk_M)
  | 0, _, _ => none
  | n + 1, a3, M => if a2 ≤ a3 then (some M) else (sk_b2 (f_X5_draw 10 M) (fun x_3 M_4 => sk_let (x_3 - x_3 / 6 * 6) (fun x_6 => sk_b2 (f_X5_draw 10 M_4) (fun x_7 M_8 => sk_let (x_7 - x_7 / 51 * 51) (fun x_10 => sk_b2 (f_X5_addScent 10 x_6 x_10 M_8) (fun x_11 M_12 => f_X6_deal_L30 a2 n (a3 + 1) M_12))))))
def f_X6_deal (a1 : Int32) (M : sk_M) : Option (Int32 × sk_M) := if (f_X6_within a1 1 9) = 0 then (some ((-1000000001), M)) else (sk_let (if (9 - (M 10 10)) < a1 then (9 - (M 10 10)) else a1) (fun x_2 => sk_b1 (f_X6_deal_L30 x_2 sk_FU 0 M) (fun M_14 => some (x_2, M_14))))
def f_X6_seed (a1 : Int32) (M : sk_M) : Option (Int32 × sk_M) := sk_let (M 10 15) (fun x_1 => sk_let (sk_u M 10 15 a1) (fun M_2 => some (x_1, M_2)))
def f_X6_cloth (M : sk_M) : Option (Int32 × sk_M) := if (M 10 12) < 6 then (sk_let (sk_u M 10 12 ((M 10 12) + 1)) (fun M_1 => some (((M_1 10 12) - 1), M_1))) else (some ((-1000000003), M))
def f_X6_isCloth (a1 : Int32) (M : sk_M) : Int32 := (f_X6_within a1 0 ((M 10 12) - 1))
theorem fz_X6_isCloth (a1 : Int32) (M : sk_M) : f_X6_isCloth a1 M = 0 ∨ f_X6_isCloth a1 M = 1 := by
  unfold f_X6_isCloth
  repeat' split
  all_goals first | exact Or.inl rfl | exact Or.inr rfl | exact fz_X6_within _ _ _
def f_X6_isSpot (a1 : Int32) (a2 : Int32) (M : sk_M) : Int32 := (if (f_X6_isCloth a1 M) = 0 then 0 else (if (f_X6_isScent a2 M) = 0 then 0 else 1 : Int32) : Int32)
theorem fz_X6_isSpot (a1 : Int32) (a2 : Int32) (M : sk_M) : f_X6_isSpot a1 a2 M = 0 ∨ f_X6_isSpot a1 a2 M = 1 := by
  unfold f_X6_isSpot
  repeat' split
  all_goals first | exact Or.inl rfl | exact Or.inr rfl | exact fz_X6_isCloth _ _ | exact fz_X6_isScent _ _
def f_X6_strength (a1 : Int32) (a2 : Int32) (M : sk_M) : Option Int32 := if (f_X6_isSpot a1 a2 M) = 0 then (some (-1000000001)) else (sk_chk (sk_in a1 6) (sk_chk (sk_in a2 9) (some (M (20 + a1.toNatClampNeg) a2.toNatClampNeg))))
def f_X6_loses (a1 : Int32) (a2 : Int32) (M : sk_M) : Option (Int32 × sk_M) := if (f_X6_isSpot a1 a2 M) = 0 then (some ((-1000000001), M)) else (sk_chk (sk_in a1 6) (sk_chk (sk_in a2 9) (sk_chk (sk_in a1 6) (sk_b2 (f_X5_loss 10 a2 (M (20 + a1.toNatClampNeg) a2.toNatClampNeg) (M 16 a1.toNatClampNeg) (M 10 14) M) (fun x_5 M_6 => some (x_5, M_6))))))
def f_X6_held (a0 : Int32) : Int32 := sk_let (if 0 < (if a0 < 999 then a0 else 999) then (if a0 < 999 then a0 else 999) else 0) (fun x_1 => x_1)
def f_X6_dab (a1 : Int32) (a2 : Int32) (a3 : Int32) (M : sk_M) : Option (Int32 × sk_M) := if (f_X6_isSpot a1 a2 M) = 0 then (some ((-1000000001), M)) else (if (f_X6_within a3 (-999) 999) = 0 then (some ((-1000000001), M)) else (sk_chk (sk_in a1 6) (sk_chk (sk_in a1 6) (sk_chk (sk_in a2 9) (sk_chk (sk_in a2 9) (sk_let (sk_u M (20 + a1.toNatClampNeg) a2.toNatClampNeg (f_X6_held ((M (20 + a1.toNatClampNeg) a2.toNatClampNeg) + a3))) (fun M_8 => sk_chk (sk_in a1 6) (sk_chk (sk_in a2 9) (some ((M_8 (20 + a1.toNatClampNeg) a2.toNatClampNeg), M_8))))))))))
def f_X6_warm (a1 : Int32) (a2 : Int32) (M : sk_M) : Option (Int32 × sk_M) := if (f_X6_isCloth a1 M) = 0 then (some ((-1000000001), M)) else (if (f_X6_within a2 0 50) = 0 then (some ((-1000000001), M)) else (sk_chk (sk_in a1 6) (sk_let (M 16 a1.toNatClampNeg) (fun x_4 => sk_chk (sk_in a1 6) (sk_let (sk_u M 16 a1.toNatClampNeg a2) (fun M_6 => some (x_4, M_6)))))))
def f_X6_touch_L29 (a1 : Int32) (a2 : Int32) : Nat → Int32 → Int32 → sk_M → Option (Int32 × sk_M)
  | 0, _, _, _ => none
  | n + 1, a3, a4, M => if (M 10 10) ≤ a4 then (some (a3, M)) else (sk_chk (sk_in a1 6) (sk_chk (sk_in a4 9) (sk_chk (sk_in a2 6) (sk_chk (sk_in a4 9) (sk_let (((M (20 + a1.toNatClampNeg) a4.toNatClampNeg) + (M (20 + a2.toNatClampNeg) a4.toNatClampNeg)) / 2) (fun x_7 => sk_b2 (f_X5_putSpot 10 a1 a4 x_7 M) (fun x_8 M_9 => sk_b2 (f_X5_putSpot 10 a2 a4 x_7 M_9) (fun x_11 M_12 => sk_let (a3 + (x_8 + x_11)) (fun x_14 => f_X6_touch_L29 a1 a2 n x_14 (a4 + 1) M_12)))))))))
def f_X6_touch (a1 : Int32) (a2 : Int32) (M : sk_M) : Option (Int32 × sk_M) := if (f_X6_isCloth a1 M) = 0 then (some ((-1000000001), M)) else (if (f_X6_isCloth a2 M) = 0 then (some ((-1000000001), M)) else (if a1 = a2 then (some ((-1000000001), M)) else (sk_b2 (f_X6_touch_L29 a1 a2 sk_FU 0 0 M) (fun x_15 M_16 => some (x_15, M_16)))))
def f_X6_days_L15 (a1 : Int32) : Nat → Int32 → sk_M → Option (sk_M)
  | 0, _, _ => none
  | n + 1, a2, M => if a1 ≤ a2 then (some M) else (if 9999 ≤ (M 10 14) then (some M) else (sk_b1 (f_X5_passDay 10 M) (fun M_2 => f_X6_days_L15 a1 n (a2 + 1) M_2)))
def f_X6_days (a1 : Int32) (M : sk_M) : Option (Int32 × sk_M) := if (f_X6_within a1 1 60) = 0 then (some ((-1000000001), M)) else (sk_b1 (f_X6_days_L15 a1 sk_FU 0 M) (fun M_4 => some ((M_4 10 14), M_4)))
def f_X6_smells (a1 : Int32) (a2 : Int32) (M : sk_M) : Option Int32 := if (f_X6_isCloth a1 M) = 0 then (some (-1000000001)) else (if (f_X6_isNose a2) = 0 then (some (-1000000001)) else (sk_chk (sk_in a1 6) (sk_b1 (f_X5_smelled 10 (20 + a1.toNatClampNeg) a2 M) (fun x_4 => some x_4))))
def f_X6_says (a1 : Int32) (a2 : Int32) (M : sk_M) : Option Int32 := if (f_X6_isCloth a1 M) = 0 then (some (-1000000001)) else (if (f_X6_isNose a2) = 0 then (some (-1000000001)) else (sk_chk (sk_in a1 6) (sk_b1 (f_X5_said 10 (20 + a1.toNatClampNeg) a2 M) (fun x_4 => some x_4))))
def f_X6_behind (a1 : Int32) (a2 : Int32) (a3 : Int32) (M : sk_M) : Option (Int32 × sk_M) := if (f_X6_isCloth a1 M) = 0 then (some ((-1000000001), M)) else (if (f_X6_isNose a2) = 0 then (some ((-1000000001), M)) else (if (f_X6_within a3 0 300) = 0 then (some ((-1000000001), M)) else (sk_b1 (f_X4_begin 6 a1 M) (fun M_4 => sk_b1 (f_X4_passDays 6 a3 M_4) (fun M_6 => sk_b1 (f_X4_saidTo 6 a2 M_6) (fun x_8 => some (x_8, M_6)))))))
def f_X6_first_L37 (a2 : Int32) (a3 : Int32) : Nat → Int32 → sk_M → Option ((Int32 × sk_M) ⊕ (sk_M))
  | 0, _, _ => none
  | n + 1, a4, M => if 200 < a4 then (some (Sum.inr M)) else (sk_b1 (f_X4_saidTo 6 a2 M) (fun x_6 => if x_6 = a3 then (some (Sum.inl (a4, M))) else (sk_b1 (f_X4_passDay 6 M) (fun M_8 => f_X6_first_L37 a2 a3 n (a4 + 1) M_8))))
def f_X6_first (a1 : Int32) (a2 : Int32) (a3 : Int32) (M : sk_M) : Option (Int32 × sk_M) := if (f_X6_isCloth a1 M) = 0 then (some ((-1000000001), M)) else (if (f_X6_isNose a2) = 0 then (some ((-1000000001), M)) else (if (f_X6_isWord a3 M) = 0 then (some ((-1000000001), M)) else (sk_b1 (f_X4_begin 6 a1 M) (fun M_4 => sk_s1 (f_X6_first_L37 a2 a3 sk_FU 0 M_4) (fun M_10 => some ((-1000000005), M_10))))))
def f_X6_lasts_L52 (a2 : Int32) (a3 : Int32) (a4 : Int32) : Nat → Int32 → Int32 → sk_M → Option (Int32 × sk_M)
  | 0, _, _, _ => none
  | n + 1, a5, a6, M => if a4 < a6 then (some (a5, M)) else (sk_b1 (f_X4_saidTo 6 a2 M) (fun x_7 => if x_7 = a3 then (sk_b1 (f_X4_passDay 6 M) (fun M_11 => f_X6_lasts_L52 a2 a3 a4 n (a5 + 1) (a6 + 1) M_11)) else (sk_b1 (f_X4_passDay 6 M) (fun M_9 => f_X6_lasts_L52 a2 a3 a4 n a5 (a6 + 1) M_9))))
def f_X6_lasts (a1 : Int32) (a2 : Int32) (a3 : Int32) (a4 : Int32) (M : sk_M) : Option (Int32 × sk_M) := if (f_X6_isCloth a1 M) = 0 then (some ((-1000000001), M)) else (if (f_X6_isNose a2) = 0 then (some ((-1000000001), M)) else (if (f_X6_isWord a3 M) = 0 then (some ((-1000000001), M)) else (if (f_X6_within a4 0 200) = 0 then (some ((-1000000001), M)) else (sk_b1 (f_X4_begin 6 a1 M) (fun M_5 => sk_b2 (f_X6_lasts_L52 a2 a3 a4 sk_FU 0 0 M_5) (fun x_13 M_14 => some (x_13, M_14)))))))
def f_J6_bitCount_0f7a4 (a0 : Int32) : Int32 := sk_let (a0 - ((sk_ushr a0 1) &&& 1431655765)) (fun x_1 => sk_let ((x_1 &&& 858993459) + ((sk_ushr x_1 2) &&& 858993459)) (fun x_2 => sk_let ((x_2 + (sk_ushr x_2 4)) &&& 252645135) (fun x_3 => sk_let (x_3 + (sk_ushr x_3 8)) (fun x_4 => sk_let (x_4 + (sk_ushr x_4 16)) (fun x_5 => (x_5 &&& 63))))))
def f_X6_whispers_L43 (a2 : Int32) (a3 : Int32) : Nat → Int32 → Int32 → sk_M → Option (Int32 × sk_M)
  | 0, _, _, _ => none
  | n + 1, a4, a5, M => if a3 < a5 then (some (a4, M)) else (sk_b1 (f_X4_saidTo 6 a2 M) (fun x_6 => if x_6 = (-1000000005) then (sk_b1 (f_X4_passDay 6 M) (fun M_8 => f_X6_whispers_L43 a2 a3 n a4 (a5 + 1) M_8)) else (sk_let (a4 ||| (1 <<< (x_6 &&& 31))) (fun x_10 => sk_b1 (f_X4_passDay 6 M) (fun M_11 => f_X6_whispers_L43 a2 a3 n x_10 (a5 + 1) M_11)))))
def f_X6_whispers (a1 : Int32) (a2 : Int32) (a3 : Int32) (M : sk_M) : Option (Int32 × sk_M) := if (f_X6_isCloth a1 M) = 0 then (some ((-1000000001), M)) else (if (f_X6_isNose a2) = 0 then (some ((-1000000001), M)) else (if (f_X6_within a3 0 200) = 0 then (some ((-1000000001), M)) else (sk_b1 (f_X4_begin 6 a1 M) (fun M_4 => sk_b2 (f_X6_whispers_L43 a2 a3 sk_FU 0 0 M_4) (fun x_13 M_14 => some ((f_J6_bitCount_0f7a4 x_13), M_14))))))
def f_X6_dumb_L28 (a2 : Int32) : Nat → Int32 → sk_M → Option ((Int32 × sk_M) ⊕ (sk_M))
  | 0, _, _ => none
  | n + 1, a3, M => if 300 < a3 then (some (Sum.inr M)) else (sk_b1 (f_X4_smelledBy 6 a2 M) (fun x_5 => if x_5 = 0 then (some (Sum.inl (a3, M))) else (sk_b1 (f_X4_passDay 6 M) (fun M_7 => f_X6_dumb_L28 a2 n (a3 + 1) M_7))))
def f_X6_dumb (a1 : Int32) (a2 : Int32) (M : sk_M) : Option (Int32 × sk_M) := if (f_X6_isCloth a1 M) = 0 then (some ((-1000000001), M)) else (if (f_X6_isNose a2) = 0 then (some ((-1000000001), M)) else (sk_b1 (f_X4_begin 6 a1 M) (fun M_3 => sk_s1 (f_X6_dumb_L28 a2 sk_FU 0 M_3) (fun M_9 => some ((-1000000005), M_9)))))
def f_X6_secret_L43 (M : sk_M) : Nat → Int32 → Int32 → Option (Int32)
  | 0, _, _ => none
  | n + 1, a3, a4 => if 4 ≤ a4 then (some a3) else (sk_b1 (f_X4_saidTo 6 a4 M) (fun x_7 => if x_7 = (-1000000005) then (sk_let (a3 ||| (1 <<< (a4 &&& 31))) (fun x_9 => f_X6_secret_L43 M n x_9 (a4 + 1))) else (f_X6_secret_L43 M n a3 (a4 + 1))))
def f_X6_secret (a1 : Int32) (a2 : Int32) (M : sk_M) : Option (Int32 × sk_M) := if (f_X6_isCloth a1 M) = 0 then (some ((-1000000001), M)) else (if (f_X6_within a2 0 300) = 0 then (some ((-1000000001), M)) else (sk_b1 (f_X4_begin 6 a1 M) (fun M_3 => sk_b1 (f_X4_passDays 6 a2 M_3) (fun M_5 => sk_b1 (f_X6_secret_L43 M_5 sk_FU 0 0) (fun x_10 => some (x_10, M_5))))))
def f_X6_least (a1 : Int32) (a2 : Int32) (a3 : Int32) (a4 : Int32) (M : sk_M) : Option (Int32 × sk_M) := if (f_X6_isSpot a1 a2 M) = 0 then (some ((-1000000001), M)) else (if (f_X6_isNose a3) = 0 then (some ((-1000000001), M)) else (if (f_X6_within a4 0 100) = 0 then (some ((-1000000001), M)) else (sk_chk (sk_in a1 6) (sk_chk (sk_in a3 4) (sk_b2 (f_X5_leastLeft 10 a2 (M 16 a1.toNatClampNeg) (M 14 a3.toNatClampNeg) a4 M) (fun x_6 M_7 => some (x_6, M_7)))))))
def f_X6_letter_L43 (a1 : Int32) (a2 : Int32) (a3 : Int32) (a4 : Int32) : Nat → Int32 → Int32 → sk_M → Option ((Int32 × sk_M) ⊕ (Int32 × sk_M))
  | 0, _, _, _ => none
  | n + 1, a5, a6, M => if (M 10 10) ≤ a6 then (some (Sum.inr (a5, M))) else (sk_chk (sk_in a2 12) (sk_let (if (((M 15 a2.toNatClampNeg) >>> (a6 &&& 31)) &&& 1) = 1 then 1 else 0 : Int32) (fun x_6 => sk_b2 (if x_6 = 0 then (some (0, M)) else (sk_chk (sk_in a1 6) (sk_chk (sk_in a3 4) (sk_b2 (f_X5_leastLeft 10 a6 (M 16 a1.toNatClampNeg) (M 14 a3.toNatClampNeg) a4 M) (fun x_10 M_11 => some (x_10, M_11)))))) (fun x_13 M_14 => sk_chk (sk_in a6 9) (sk_let (sk_u M_14 4 a6.toNatClampNeg x_13) (fun M_16 => sk_chk (sk_in a6 9) (if (M_16 4 a6.toNatClampNeg) = (-1000000005) then (some (Sum.inl ((-1000000002), M_16))) else (sk_chk (sk_in a6 9) (sk_let (a5 + (M_16 4 a6.toNatClampNeg)) (fun x_19 => f_X6_letter_L43 a1 a2 a3 a4 n x_19 (a6 + 1) M_16))))))))))
def f_X6_letter (a1 : Int32) (a2 : Int32) (a3 : Int32) (a4 : Int32) (M : sk_M) : Option (Int32 × sk_M) := if (f_X6_isCloth a1 M) = 0 then (some ((-1000000001), M)) else (if (f_X6_isWord a2 M) = 0 then (some ((-1000000001), M)) else (if (f_X6_isNose a3) = 0 then (some ((-1000000001), M)) else (if (f_X6_within a4 0 100) = 0 then (some ((-1000000001), M)) else (sk_s2 (f_X6_letter_L43 a1 a2 a3 a4 sk_FU 0 0 M) (fun x_20 M_21 => sk_chk (sk_in a1 6) (sk_chk (sk_cin 0 (M_21 10 10) 9) (sk_chk (sk_cin 0 (M_21 10 10) 9) (sk_let (sk_uA M_21 (20 + a1.toNatClampNeg) (va_cpy (M_21 4) (M_21 (20 + a1.toNatClampNeg)) (0 : Int32).toNatClampNeg (0 : Int32).toNatClampNeg (M_21 10 10).toNatClampNeg)) (fun M_25 => some (x_20, M_25))))))))))
def f_X6_isSheet (a0 : Int32) : Int32 := (f_X6_within a0 0 3)
theorem fz_X6_isSheet (a0 : Int32) : f_X6_isSheet a0 = 0 ∨ f_X6_isSheet a0 = 1 := by
  unfold f_X6_isSheet
  repeat' split
  all_goals first | exact Or.inl rfl | exact Or.inr rfl | exact fz_X6_within _ _ _
def f_X6_followCourse_L15 (a1 : Int32) (a2 : Int32) : Nat → Int32 → Int32 → sk_M → Option (sk_M)
  | 0, _, _, _ => none
  | n + 1, a3, a4, M => if 125 ≤ a4 then (some M) else (sk_chk (sk_in a4 125) (sk_let (sk_u M 5 a4.toNatClampNeg a3) (fun M_5 => sk_chk (sk_in a1 6) (sk_b2 (f_X5_loss 10 a2 a3 (M_5 16 a1.toNatClampNeg) ((M_5 10 14) + a4) M_5) (fun x_7 M_8 => sk_let (a3 - x_7) (fun x_10 => f_X6_followCourse_L15 a1 a2 n x_10 (a4 + 1) M_8))))))
def f_X6_followCourse (a1 : Int32) (a2 : Int32) (M : sk_M) : Option sk_M := sk_chk (sk_in a1 6) (sk_chk (sk_in a2 9) (sk_let (M (20 + a1.toNatClampNeg) a2.toNatClampNeg) (fun x_3 => sk_b1 (f_X6_followCourse_L15 a1 a2 sk_FU x_3 0 M) (fun M_11 => some M_11))))
def f_X6_differences_L5 (o1 : Nat) (a2 : Int32) (M : sk_M) : Nat → Int32 → Int32 → Option (Int32)
  | 0, _, _ => none
  | n + 1, a3, a4 => if (M o1 2) ≤ a4 then (some a3) else (if 125 ≤ (a2 + a4) then (some a3) else (sk_chk (sk_in a4 24) (if (M (o1 + 1) a4.toNatClampNeg) = (-1000000005) then (f_X6_differences_L5 o1 a2 M n a3 (a4 + 1)) else (sk_chk (sk_in (a2 + a4) 125) (sk_chk (sk_in a4 24) (sk_let (if 0 ≤ ((M 5 (a2 + a4).toNatClampNeg) - (M (o1 + 1) a4.toNatClampNeg)) then ((M 5 (a2 + a4).toNatClampNeg) - (M (o1 + 1) a4.toNatClampNeg)) else 0 - ((M 5 (a2 + a4).toNatClampNeg) - (M (o1 + 1) a4.toNatClampNeg))) (fun x_4 => sk_let (a3 + x_4) (fun x_5 => f_X6_differences_L5 o1 a2 M n x_5 (a4 + 1)))))))))
def f_X6_differences (o1 : Nat) (a2 : Int32) (M : sk_M) : Option Int32 := sk_b1 (f_X6_differences_L5 o1 a2 M sk_FU 0 0) (fun x_6 => some x_6)
def f_X6_dated_L70 (a1 : Int32) (a4 : Int32) (M : sk_M) : Nat → Int32 → Int32 → Int32 → Option (Int32 × Int32)
  | 0, _, _, _ => none
  | n + 1, a5, a6, a7 => if 100 < a7 then (some (a5, a6)) else (sk_chk (sk_in a1 4) (sk_b1 (f_X6_differences (65 + 2 * a1.toNatClampNeg) a7 M) (fun x_11 => if a6 ≤ x_11 then (f_X6_dated_L70 a1 a4 M n a5 a6 (a7 + 1)) else (f_X6_dated_L70 a1 a4 M n a7 x_11 (a7 + 1)))))
def f_X6_dated (a1 : Int32) (a2 : Int32) (a3 : Int32) (a4 : Int32) (M : sk_M) : Option (Int32 × sk_M) := if (f_X6_isSheet a1) = 0 then (some ((-1000000001), M)) else (if (f_X6_isSpot a2 a3 M) = 0 then (some ((-1000000001), M)) else (if (f_X6_within a4 0 1) = 0 then (some ((-1000000001), M)) else (sk_chk (sk_in a1 4) (if (M (65 + 2 * a1.toNatClampNeg) 1) = (-1) then (some ((-1000000011), M)) else (sk_b1 (f_X6_followCourse a2 a3 M) (fun M_5 => sk_chk (sk_in a1 4) (sk_b1 (f_X6_differences (65 + 2 * a1.toNatClampNeg) 0 M_5) (fun x_8 => sk_b2 (f_X6_dated_L70 a1 a4 M_5 sk_FU 0 x_8 1) (fun x_13 x_14 => some ((if a4 = 0 then x_13 else x_14 : Int32), M_5))))))))))
def f_X6_price (a1 : Int32) (M : sk_M) : Option (Int32 × sk_M) := if (f_X6_isCloth a1 M) = 0 then (some ((-1000000001), M)) else (sk_chk (sk_in a1 6) (sk_b1 (f_X5_sumOf 10 (20 + a1.toNatClampNeg) M) (fun x_3 => sk_let (M 18 1) (fun x_5 => if x_5 = (-1000000005) then (some (x_3, M)) else (sk_chk (sk_in a1 6) (sk_b1 (f_X5_present 10 (20 + a1.toNatClampNeg) M) (fun x_7 => sk_b2 (f_X3_give x_5 x_3 x_7 0 M) (fun x_9 M_10 => some (x_9, M_10)))))))))
def f_X6_wordOr99 (a0 : Int32) : Int32 := (if a0 = (-1000000005) then 99 else a0 : Int32)
def f_X6_lie (a1 : Int32) (M : sk_M) : Option (Int32 × sk_M) := if (f_X6_isCloth a1 M) = 0 then (some ((-1000000001), M)) else (sk_let (M 18 2) (fun x_2 => if x_2 = (-1000000005) then (some (0, M)) else (sk_chk (sk_in a1 6) (sk_b1 (f_X5_said 10 (20 + a1.toNatClampNeg) 0 M) (fun x_4 => sk_b2 (f_X3_give x_2 (M 10 14) (f_X6_wordOr99 x_4) 0 M) (fun x_7 M_8 => some (x_7, M_8)))))))
def f_X6_feed (a1 : Int32) (a2 : Int32) (a3 : Int32) (M : sk_M) : Option (Int32 × sk_M) := if ((M 62 2) + 12) ≤ 96 then (sk_b1 (f_X0_takeBytes a1 M) (fun M_1 => sk_b1 (f_X0_takeBytes a2 M_1) (fun M_3 => sk_b1 (f_X0_takeBytes a3 M_3) (fun M_5 => some ((M_5 62 2), M_5))))) else (some ((-1000000003), M))
def f_X6_trim (a1 : Int32) (M : sk_M) : Option (Int32 × sk_M) := if (f_X6_within a1 0 (M 62 2)) = 0 then (some ((-1000000001), M)) else (sk_let (sk_u M 62 2 a1) (fun M_2 => some (a1, M_2)))
def f_X6_text (M : sk_M) : Option (Int32 × sk_M) := sk_b2 (f_X0_readTape M) (fun x_1 M_2 => sk_let (sk_u M_2 62 2 0) (fun M_4 => if x_1 < 0 then (sk_let (M_4 10 13) (fun x_5 => if x_5 < 14 then (sk_b1 (f_X3_store x_5 M_4) (fun M_6 => sk_chk (sk_in (M_6 62 6) 3) (sk_let (sk_u M_6 18 (M_6 62 6).toNatClampNeg x_5) (fun M_9 => sk_let (sk_u M_9 10 13 ((M_9 10 13) + 1)) (fun M_10 => some (x_5, M_10)))))) else (some ((-1000000003), M_4)))) else (some (((-100) - x_1), M_4))))
def f_X6_textTold (a1 : Int32) (a2 : Int32) (M : sk_M) : Option Int32 := if (f_X6_within a1 0 ((M 10 13) - 1)) = 0 then (some (-1000000001)) else (if (f_X6_within a2 0 1) = 0 then (some (-1000000001)) else (if a2 = 0 then (sk_chk (sk_in a1 14) (some (M 45 a1.toNatClampNeg))) else (sk_chk (sk_in a1 14) (some (M 46 a1.toNatClampNeg)))))
def f_X6_why (a1 : Int32) (M : sk_M) : Option Int32 := if (f_X6_within a1 0 2) = 0 then (some (-1000000001)) else (sk_chk (sk_in a1 3) (some (M 18 a1.toNatClampNeg)))
def f_X6_sheet (a1 : Int32) (a2 : Int32) (a3 : Int32) (M : sk_M) : Option (Int32 × sk_M) := if (f_X6_isSheet a1) = 0 then (some ((-1000000001), M)) else (if (f_X6_within a2 (-1) 1) = 0 then (some ((-1000000001), M)) else (if a2 = (-1) then (sk_chk (sk_in a1 4) (sk_b1 (f_X1_becomeRow (65 + 2 * a1.toNatClampNeg) (-1) 0 M) (fun M_7 => some (0, M_7)))) else (if a3 ≤ 24 then (if 0 ≤ a3 then (sk_chk (sk_in a1 4) (sk_b1 (f_X1_becomeRow (65 + 2 * a1.toNatClampNeg) a2 a3 M) (fun M_4 => some (a3, M_4)))) else (some ((-1000000014), M))) else (some ((-1000000001), M)))))
def f_X6_mark (a1 : Int32) (a2 : Int32) (a3 : Int32) (M : sk_M) : Option (Int32 × sk_M) := if (f_X6_isSheet a1) = 0 then (some ((-1000000001), M)) else (sk_chk (sk_in a1 4) (if (M (65 + 2 * a1.toNatClampNeg) 1) = (-1) then (some ((-1000000011), M)) else (if (f_X6_within a2 0 ((M (65 + 2 * a1.toNatClampNeg) 2) - 1)) = 0 then (some ((-1000000013), M)) else (if (M (65 + 2 * a1.toNatClampNeg) 1) = 0 then (if a3 = (-1000000005) then (some ((-1000000012), M)) else (sk_chk (sk_in a2 24) (sk_let (sk_u M ((65 + 2 * a1.toNatClampNeg) + 1) a2.toNatClampNeg (sk_i2s a3)) (fun M_10 => some (1, M_10))))) else (if a3 = (-1000000005) then (sk_chk (sk_in a2 24) (sk_let (sk_u M ((65 + 2 * a1.toNatClampNeg) + 1) a2.toNatClampNeg a3) (fun M_5 => some (1, M_5)))) else (if (f_X6_within a3 (-99999) 99999) = 0 then (some ((-1000000001), M)) else (sk_chk (sk_in a2 24) (sk_let (sk_u M ((65 + 2 * a1.toNatClampNeg) + 1) a2.toNatClampNeg a3) (fun M_8 => some (1, M_8))))))))))
def f_X6_pour_L58 (o3 : Nat) (a1 : Int32) (a5 : Int32) : Nat → Int32 → Int32 → sk_M → Option (Int32 × sk_M)
  | 0, _, _, _ => none
  | n + 1, a4, a6, M => if a5 ≤ a6 then (some (a4, M)) else (sk_chk (sk_in a6 24) (if (M (o3 + 1) a6.toNatClampNeg) = (-1000000005) then (f_X6_pour_L58 o3 a1 a5 n a4 (a6 + 1) M) else (sk_chk (sk_in a6 24) (sk_b2 (f_X5_putSpot 10 a1 a6 (f_X6_held (M (o3 + 1) a6.toNatClampNeg)) M) (fun x_8 M_9 => sk_let (a4 + x_8) (fun x_11 => f_X6_pour_L58 o3 a1 a5 n x_11 (a6 + 1) M_9))))))
def f_X6_pour (a1 : Int32) (a2 : Int32) (M : sk_M) : Option (Int32 × sk_M) := if (f_X6_isCloth a1 M) = 0 then (some ((-1000000001), M)) else (if (f_X6_isSheet a2) = 0 then (some ((-1000000001), M)) else (sk_chk (sk_in a2 4) (if (M (65 + 2 * a2.toNatClampNeg) 1) = (-1) then (some ((-1000000011), M)) else (sk_let (if (M (65 + 2 * a2.toNatClampNeg) 2) < (M 10 10) then (M (65 + 2 * a2.toNatClampNeg) 2) else (M 10 10)) (fun x_4 => sk_b2 (f_X6_pour_L58 (65 + 2 * a2.toNatClampNeg) a1 x_4 sk_FU 0 0 M) (fun x_12 M_13 => some (x_12, M_13)))))))
def f_X6_copy (a1 : Int32) (a2 : Int32) (a3 : Int32) (a4 : Int32) (a5 : Int32) (M : sk_M) : Option (Int32 × sk_M) := if (f_X6_isSheet a1) = 0 then (some ((-1000000001), M)) else (if (f_X6_isSheet a3) = 0 then (some ((-1000000001), M)) else (sk_chk (sk_in a1 4) (sk_chk (sk_in a3 4) (if (M (65 + 2 * a1.toNatClampNeg) 1) = (-1) then (some ((-1000000011), M)) else (if (M (65 + 2 * a3.toNatClampNeg) 1) = (-1) then (some ((-1000000011), M)) else (if (M (65 + 2 * a1.toNatClampNeg) 1) = (M (65 + 2 * a3.toNatClampNeg) 1) then (if (f_X1_hasPlaces (65 + 2 * a1.toNatClampNeg) a2 a5 M) = 0 then (some ((-1000000013), M)) else (if (f_X1_hasPlaces (65 + 2 * a3.toNatClampNeg) a4 a5 M) = 0 then (some ((-1000000013), M)) else (sk_chk (sk_cin a2 a5 24) (sk_chk (sk_cin a4 a5 24) (sk_let (sk_uA M ((65 + 2 * a3.toNatClampNeg) + 1) (va_cpy (M ((65 + 2 * a1.toNatClampNeg) + 1)) (M ((65 + 2 * a3.toNatClampNeg) + 1)) a2.toNatClampNeg a4.toNatClampNeg a5.toNatClampNeg)) (fun M_9 => some (a5, M_9))))))) else (some ((-1000000012), M))))))))
def f_X6_isSlot (a0 : Int32) : Int32 := (f_X6_within a0 0 4)
theorem fz_X6_isSlot (a0 : Int32) : f_X6_isSlot a0 = 0 ∨ f_X6_isSlot a0 = 1 := by
  unfold f_X6_isSlot
  repeat' split
  all_goals first | exact Or.inl rfl | exact Or.inr rfl | exact fz_X6_within _ _ _
def f_X6_lay (a1 : Int32) (a2 : Int32) (a3 : Int32) (M : sk_M) : Option (Int32 × sk_M) := if (f_X6_isSlot a1) = 0 then (some ((-1000000001), M)) else (if (f_X6_within a2 0 3) = 0 then (some ((-1000000001), M)) else (sk_s0 (if a2 = 1 then (if (f_X6_isScent a3 M) = 0 then (some (Sum.inl ((-1000000001), M))) else (some (Sum.inr ()))) else (some (Sum.inr ()))) (fun _ => sk_s0 (if a2 = 2 then (if (f_X6_isSheet a3) = 0 then (some (Sum.inl ((-1000000001), M))) else (some (Sum.inr ()))) else (some (Sum.inr ()))) (fun _ => sk_s0 (if a2 = 2 then (sk_chk (sk_in a3 4) (if (M (65 + 2 * a3.toNatClampNeg) 1) = (-1) then (some (Sum.inl ((-1000000011), M))) else (some (Sum.inr ())))) else (some (Sum.inr ()))) (fun _ => sk_chk (sk_in a1 5) (sk_let (M (73 + 3 * a1.toNatClampNeg) 1) (fun x_10 => sk_let (sk_u M (73 + 3 * a1.toNatClampNeg) 1 a2) (fun M_11 => if a2 = 1 then (sk_chk (sk_in a3 9) (sk_let (sk_u M_11 (73 + 3 * a1.toNatClampNeg) 2 (M_11 11 a3.toNatClampNeg)) (fun M_17 => sk_chk (sk_in a3 9) (sk_let (sk_u M_17 (73 + 3 * a1.toNatClampNeg) 3 (M_17 12 a3.toNatClampNeg)) (fun M_19 => some (x_10, M_19)))))) else (if a2 = 2 then (sk_chk (sk_in a3 4) (sk_b1 (f_X1_becomeLike ((73 + 3 * a1.toNatClampNeg) + 1) (65 + 2 * a3.toNatClampNeg) M_11) (fun M_14 => some (x_10, M_14)))) else (sk_let (sk_u M_11 (73 + 3 * a1.toNatClampNeg) 4 a3) (fun M_12 => some (x_10, M_12))))))))))))
def f_X6_ask (a1 : Int32) (a2 : Int32) (M : sk_M) : Option Int32 := if (f_X6_isSlot a1) = 0 then (some (-1000000001)) else (if (f_X6_isKind a2) = 0 then (some (-1000000001)) else (sk_chk (sk_in a1 5) (if (M (73 + 3 * a1.toNatClampNeg) 1) = 0 then (some (-1000000011)) else (if (M (73 + 3 * a1.toNatClampNeg) 1) = 1 then (sk_b1 (f_X6_isUnder (M (73 + 3 * a1.toNatClampNeg) 2) a2 M) (fun x_4 => if x_4 = 0 then (some (-1000000012)) else (some (f_X6_worth (M (73 + 3 * a1.toNatClampNeg) 2) (M (73 + 3 * a1.toNatClampNeg) 3))))) else (some (-1000000012))))))
def f_X6_item (a1 : Int32) (a2 : Int32) (M : sk_M) : Option Int32 := if (f_X6_isSlot a1) = 0 then (some (-1000000001)) else (sk_chk (sk_in a1 5) (if (M (73 + 3 * a1.toNatClampNeg) 1) = 0 then (some (-1000000011)) else (if (M (73 + 3 * a1.toNatClampNeg) 1) = 2 then (if (f_X6_within a2 0 ((M ((73 + 3 * a1.toNatClampNeg) + 1) 2) - 1)) = 0 then (some (-1000000013)) else (sk_chk (sk_in a2 24) (sk_let (M (((73 + 3 * a1.toNatClampNeg) + 1) + 1) a2.toNatClampNeg) (fun x_5 => some (if x_5 = (-1000000005) then (-1000000012) else x_5 : Int32))))) else (some (-1000000012)))))
def f_X6_rest (a1 : Int32) (a2 : Int32) (M : sk_M) : Option Int32 := if (f_X6_isSlot a1) = 0 then (some (-1000000001)) else (sk_chk (sk_in a1 5) (if (M (73 + 3 * a1.toNatClampNeg) 1) = 0 then (some (-1000000011)) else (if (M (73 + 3 * a1.toNatClampNeg) 1) = 3 then (if a2 = 0 then (some (-1000000002)) else (sk_chk (decide (¬ a2 = 0)) (some ((M (73 + 3 * a1.toNatClampNeg) 4) - (M (73 + 3 * a1.toNatClampNeg) 4) / a2 * a2)))) else (some (-1000000012)))))
def f_X6_tell (a1 : Int32) (M : sk_M) : Option (Int32 × sk_M) := if (M 0 11) < 60 then (sk_chk (sk_in (M 0 11) 60) (sk_let (sk_u M 3 (M 0 11).toNatClampNeg a1) (fun M_2 => sk_let (sk_u M_2 0 11 ((M_2 0 11) + 1)) (fun M_3 => some ((M_3 0 11), M_3))))) else (some ((-1000000003), M))
def f_X6_rightAhead_L10 (a2 : Int32) : Nat → Int32 → sk_M → Option ((Int32 × sk_M) ⊕ (sk_M))
  | 0, _, _ => none
  | n + 1, a3, M => if a2 ≤ a3 then (some (Sum.inr M)) else (sk_b1 (if (a3 - a3 / 2 * 2) = 0 then (sk_b1 (f_X4_passDay 8 M) (fun M_4 => some M_4)) else (some M)) (fun M_6 => sk_b1 (if (a3 - a3 / 2 * 2) = 0 then (sk_b1 (f_X4_saidTo 8 0 M_6) (fun x_10 => some (f_X6_wordOr99 x_10))) else (sk_b1 (f_X4_sum 8 M_6) (fun x_8 => some x_8))) (fun x_13 => sk_chk (sk_in a3 60) (if (M_6 3 a3.toNatClampNeg) = x_13 then (f_X6_rightAhead_L10 a2 n (a3 + 1) M_6) else (some (Sum.inl (a3, M_6)))))))
def f_X6_rightAhead (a1 : Int32) (a2 : Int32) (M : sk_M) : Option (Int32 × sk_M) := sk_b1 (f_X4_begin 8 a1 M) (fun M_1 => sk_s1 (f_X6_rightAhead_L10 a2 sk_FU 0 M_1) (fun M_15 => some (a2, M_15)))
def f_X6_check (a1 : Int32) (a2 : Int32) (M : sk_M) : Option (Int32 × sk_M) := sk_let (M 0 11) (fun x_1 => sk_let (sk_u M 0 11 0) (fun M_2 => if (f_X6_within a2 1 30) = 0 then (some ((-1000000001), M_2)) else (if (f_X6_within a1 0 5) = 0 then (some ((-1000000001), M_2)) else (if (M_2 0 12) = 0 then (some ((-1000000002), M_2)) else (if a1 < (M_2 26 12) then (sk_let (if (9999 - (M_2 26 14)) < a2 then (9999 - (M_2 26 14)) else a2) (fun x_5 => sk_let (2 * x_5) (fun x_6 => sk_b2 (f_X6_rightAhead a1 (if x_6 < x_1 then x_6 else x_1) M_2) (fun x_7 M_8 => some ((if x_7 = x_6 then (if x_1 = x_6 then 0 else (1 + x_7) : Int32) else (1 + x_7) : Int32), M_8))))) else (some ((-1000000002), M_2)))))))
def f_X6_keep (M : sk_M) : Option (Int32 × sk_M) := sk_b1 (f_X5_becomeLike 26 10 M) (fun M_1 => sk_let (sk_u M_1 0 12 1) (fun M_3 => some ((M_3 10 12), M_3)))
def f_X6_back (M : sk_M) : Option (Int32 × sk_M) := if (M 0 12) = 0 then (some ((-1000000002), M)) else (sk_b1 (f_X5_becomeLike 10 26 M) (fun M_1 => some ((M_1 10 12), M_1)))
def f_X6_count (a1 : Int32) (M : sk_M) : Option Int32 := if a1 = 0 then (some (M 10 10)) else (if a1 = 1 then (some (M 10 12)) else (if a1 = 2 then (some (M 10 11)) else (if a1 = 3 then (some (M 10 14)) else (if a1 = 4 then (sk_b1 (f_X5_sumOfAll 10 M) (fun x_5 => some x_5)) else (if a1 = 5 then (some (M 10 13)) else (if a1 = 6 then (some (M 0 11)) else (if a1 = 7 then (some (M 62 2)) else (if a1 = 8 then (some (M 10 15)) else (some (-1000000001))))))))))
def f_X7_isIn (a0 : Int64) (a2 : Int64) (a4 : Int64) : Int32 := (if (lg_cmp a0 a2) < 0 then 0 else (if 0 < (lg_cmp a0 a4) then 0 else 1 : Int32) : Int32)
theorem fz_X7_isIn (a0 : Int64) (a2 : Int64) (a4 : Int64) : f_X7_isIn a0 a2 a4 = 0 ∨ f_X7_isIn a0 a2 a4 = 1 := by
  unfold f_X7_isIn
  repeat' split
  all_goals first | exact Or.inl rfl | exact Or.inr rfl
def f_X7_orNone (a0 : Int32) : Int32 := (if 0 ≤ a0 then a0 else (-1000000005) : Int32)
def f_X7_within (a0 : Int32) (a1 : Int32) : Int32 := (if 0 ≤ a0 then (if a0 ≤ a1 then a0 else a1 : Int32) else 0 : Int32)
def f_X7_becomes (a1 : Int32) (a2 : Int32) (M : sk_M) : Option (Int32 × sk_M) := sk_chk (sk_in a1 3109) (sk_let (M 89 a1.toNatClampNeg) (fun x_2 => sk_chk (sk_in a1 3109) (sk_let (sk_u M 89 a1.toNatClampNeg a2) (fun M_4 => some (x_2, M_4)))))
def f_X7_textAt (a1 : Int32) : Int32 := (109 + (200 * a1))
def f_X7_of (a1 : Int32) (a2 : Int32) (M : sk_M) : Option Int32 := sk_chk (sk_in ((10 + (3 * a1)) + a2) 3109) (some (M 89 ((10 + (3 * a1)) + a2).toNatClampNeg))
def f_X7_on (a1 : Int32) (a2 : Int32) (M : sk_M) : Option Int32 := sk_chk (sk_in ((43 + (9 * a1)) + a2) 3109) (some (M 89 ((43 + (9 * a1)) + a2).toNatClampNeg))
def f_X7_isScent (a1 : Int32) (M : sk_M) : Int32 := (f_X7_isIn (a1.toInt64) 0 ((((M 89 0) - 1)).toInt64))
theorem fz_X7_isScent (a1 : Int32) (M : sk_M) : f_X7_isScent a1 M = 0 ∨ f_X7_isScent a1 M = 1 := by
  unfold f_X7_isScent
  repeat' split
  all_goals first | exact Or.inl rfl | exact Or.inr rfl | exact fz_X7_isIn _ _ _
def f_X7_isCloth (a1 : Int32) (M : sk_M) : Int32 := (f_X7_isIn (a1.toInt64) 0 ((((M 89 1) - 1)).toInt64))
theorem fz_X7_isCloth (a1 : Int32) (M : sk_M) : f_X7_isCloth a1 M = 0 ∨ f_X7_isCloth a1 M = 1 := by
  unfold f_X7_isCloth
  repeat' split
  all_goals first | exact Or.inl rfl | exact Or.inr rfl | exact fz_X7_isIn _ _ _
def f_X7_isNose (a0 : Int32) : Int32 := (if a0 < 0 then 0 else (if 4 ≤ a0 then 0 else 1 : Int32) : Int32)
theorem fz_X7_isNose (a0 : Int32) : f_X7_isNose a0 = 0 ∨ f_X7_isNose a0 = 1 := by
  unfold f_X7_isNose
  repeat' split
  all_goals first | exact Or.inl rfl | exact Or.inr rfl
def f_X7_isSaid (a1 : Int32) (M : sk_M) : Int32 := (f_X7_isIn (a1.toInt64) 0 ((((M 89 2) - 1)).toInt64))
theorem fz_X7_isSaid (a1 : Int32) (M : sk_M) : f_X7_isSaid a1 M = 0 ∨ f_X7_isSaid a1 M = 1 := by
  unfold f_X7_isSaid
  repeat' split
  all_goals first | exact Or.inl rfl | exact Or.inr rfl | exact fz_X7_isIn _ _ _
def f_X7_isText (a1 : Int32) (M : sk_M) : Int32 := (f_X7_isIn (a1.toInt64) 0 ((((M 89 3) - 1)).toInt64))
theorem fz_X7_isText (a1 : Int32) (M : sk_M) : f_X7_isText a1 M = 0 ∨ f_X7_isText a1 M = 1 := by
  unfold f_X7_isText
  repeat' split
  all_goals first | exact Or.inl rfl | exact Or.inr rfl | exact fz_X7_isIn _ _ _
def f_X7_drawn (M : sk_M) : Option (Int32 × sk_M) := sk_let (sk_u M 89 5 (((M 89 5) * 1103515245) + 12345)) (fun M_1 => some ((sk_ushr (M_1 89 5) 8), M_1))
def f_X7_comes_L46 (a3 : Int32) : Nat → Int32 → sk_M → Option (sk_M)
  | 0, _, _ => none
  | n + 1, a5, M => if 6 ≤ a5 then (some M) else (sk_chk (sk_in ((43 + (9 * a5)) + a3) 3109) (sk_let (sk_u M 89 ((43 + (9 * a5)) + a3).toNatClampNeg 0) (fun M_10 => f_X7_comes_L46 a3 n (a5 + 1) M_10)))
def f_X7_comes (a1 : Int32) (a2 : Int32) (M : sk_M) : Option sk_M := sk_let (M 89 0) (fun x_1 => sk_let (10 + (3 * x_1)) (fun x_2 => sk_chk (sk_in x_2 3109) (sk_let (sk_u M 89 x_2.toNatClampNeg a1) (fun M_4 => sk_chk (sk_in (x_2 + 1) 3109) (sk_let (sk_u M_4 89 (x_2 + 1).toNatClampNeg a2) (fun M_6 => sk_chk (sk_in (x_2 + 2) 3109) (sk_let (sk_u M_6 89 (x_2 + 2).toNatClampNeg 0) (fun M_8 => sk_b1 (f_X7_comes_L46 x_1 sk_FU 0 M_8) (fun M_11 => sk_let (sk_u M_11 89 0 ((M_11 89 0) + 1)) (fun M_12 => some M_12))))))))))
def f_X7_scent (a1 : Int32) (a2 : Int32) (M : sk_M) : Option (Int32 × sk_M) := if (f_X7_isIn (a1.toInt64) 0 5) = 0 then (some ((-1000000001), M)) else (if (f_X7_isIn (a2.toInt64) 0 50) = 0 then (some ((-1000000001), M)) else (if (M 89 0) = 9 then (some ((-1000000003), M)) else (sk_b1 (f_X7_comes a1 a2 M) (fun M_3 => some (((M_3 89 0) - 1), M_3)))))
def f_X7_counts_L4 (a1 : Int32) (M : sk_M) : Nat → Int32 → Int32 → Option (Int32)
  | 0, _, _ => none
  | n + 1, a2, a3 => if (M 89 3) ≤ a3 then (some a2) else (sk_chk (sk_in (f_X7_textAt a3) 3109) (sk_let (if (M 89 (f_X7_textAt a3).toNatClampNeg) = a1 then a3 else a2 : Int32) (fun x_3 => f_X7_counts_L4 a1 M n x_3 (a3 + 1))))
def f_X7_counts (a1 : Int32) (M : sk_M) : Option Int32 := sk_b1 (f_X7_counts_L4 a1 M sk_FU (-1) 0) (fun x_4 => some x_4)
def f_X7_joined (a0 : Int32) (a1 : Int32) (a2 : Int32) (M : sk_M) : Option Int32 := if a0 = 38 then (some (if a1 = 0 then 0 else (if a2 = 0 then 0 else 1 : Int32) : Int32)) else (if a0 = 39 then (if a1 = 0 then (some (if a2 = 0 then 0 else 1 : Int32)) else (some 1)) else (if a0 = 40 then (if a1 = 0 then (some (if a2 = 0 then 0 else 1 : Int32)) else (some 1)) else (if a0 = 41 then (if a1 = 0 then (some (if a2 = 0 then 0 else 1 : Int32)) else (some 1)) else (if a0 = 42 then (some (a1 * a2)) else (if a0 = 43 then (some (a1 + a2)) else (if a0 = 44 then (if a1 = 0 then (some (if a2 = 0 then 0 else 1 : Int32)) else (some 1)) else (if a0 = 45 then (some (a1 - a2)) else (if a0 = 46 then (if a1 = 0 then (some (if a2 = 0 then 0 else 1 : Int32)) else (some 1)) else (if a0 = 47 then (if a2 = 0 then (some 0) else (if a2 = (-1) then (some (-a1)) else (sk_chk (decide (¬ a2 = 0)) (some (a1 / a2))))) else (if a0 = 48 then (if a1 = 0 then (some (if a2 = 0 then 0 else 1 : Int32)) else (some 1)) else (if a0 = 49 then (if a1 = 0 then (some (if a2 = 0 then 0 else 1 : Int32)) else (some 1)) else (if a0 = 50 then (if a1 = 0 then (some (if a2 = 0 then 0 else 1 : Int32)) else (some 1)) else (if a0 = 51 then (if a1 = 0 then (some (if a2 = 0 then 0 else 1 : Int32)) else (some 1)) else (if a0 = 52 then (if a1 = 0 then (some (if a2 = 0 then 0 else 1 : Int32)) else (some 1)) else (if a0 = 53 then (if a1 = 0 then (some (if a2 = 0 then 0 else 1 : Int32)) else (some 1)) else (if a0 = 54 then (if a1 = 0 then (some (if a2 = 0 then 0 else 1 : Int32)) else (some 1)) else (if a0 = 55 then (if a1 = 0 then (some (if a2 = 0 then 0 else 1 : Int32)) else (some 1)) else (if a0 = 56 then (if a1 = 0 then (some (if a2 = 0 then 0 else 1 : Int32)) else (some 1)) else (if a0 = 57 then (if a1 = 0 then (some (if a2 = 0 then 0 else 1 : Int32)) else (some 1)) else (if a0 = 58 then (if a1 = 0 then (some (if a2 = 0 then 0 else 1 : Int32)) else (some 1)) else (if a0 = 59 then (if a1 = 0 then (some (if a2 = 0 then 0 else 1 : Int32)) else (some 1)) else (if a0 = 60 then (some (if a2 ≤ a1 then 0 else 1 : Int32)) else (if a0 = 61 then (some (if a1 = a2 then 1 else 0 : Int32)) else (if a0 = 62 then (some (if a1 ≤ a2 then 0 else 1 : Int32)) else (if a1 = 0 then (some (if a2 = 0 then 0 else 1 : Int32)) else (some 1))))))))))))))))))))))))))
def f_X7_worked_L4 (a1 : Int32) : Nat → Int32 → Int32 → sk_M → Option (sk_M)
  | 0, _, _, _ => none
  | n + 1, a2, a3, M => sk_chk (sk_in ((f_X7_textAt a1) + 2) 3109) (if (M 89 ((f_X7_textAt a1) + 2).toNatClampNeg) ≤ a3 then (some M) else (sk_chk (sk_in (((f_X7_textAt a1) + 4) + (2 * a3)) 3109) (sk_let (M 89 (((f_X7_textAt a1) + 4) + (2 * a3)).toNatClampNeg) (fun x_5 => sk_chk (sk_in ((((f_X7_textAt a1) + 4) + (2 * a3)) + 1) 3109) (sk_let (M 89 ((((f_X7_textAt a1) + 4) + (2 * a3)) + 1).toNatClampNeg) (fun x_8 => if x_5 = 2 then (if x_8 = 33 then (sk_chk (sk_in (a2 - 1) 100) (sk_chk (sk_in (a2 - 1) 100) (sk_let (sk_u M 104 (a2 - 1).toNatClampNeg (if (M 104 (a2 - 1).toNatClampNeg) = 0 then 1 else 0 : Int32)) (fun M_17 => f_X7_worked_L4 a1 n a2 (a3 + 1) M_17)))) else (sk_chk (sk_in ((a2 + (-1)) - 1) 100) (sk_chk (sk_in (a2 + (-1)) 100) (sk_b1 (f_X7_joined x_8 (M 104 ((a2 + (-1)) - 1).toNatClampNeg) (M 104 (a2 + (-1)).toNatClampNeg) M) (fun x_11 => sk_chk (sk_in ((a2 + (-1)) - 1) 100) (sk_let (sk_u M 104 ((a2 + (-1)) - 1).toNatClampNeg x_11) (fun M_14 => f_X7_worked_L4 a1 n (a2 + (-1)) (a3 + 1) M_14))))))) else (if x_5 = 0 then (sk_chk (sk_in a2 100) (sk_let (sk_u M 104 a2.toNatClampNeg x_8) (fun M_22 => f_X7_worked_L4 a1 n (a2 + 1) (a3 + 1) M_22))) else (sk_chk (sk_in x_8 128) (sk_chk (sk_in a2 100) (sk_let (sk_u M 104 a2.toNatClampNeg (M 103 x_8.toNatClampNeg)) (fun M_20 => f_X7_worked_L4 a1 n (a2 + 1) (a3 + 1) M_20)))))))))))
def f_X7_worked (a1 : Int32) (M : sk_M) : Option (Int32 × sk_M) := sk_b1 (f_X7_worked_L4 a1 sk_FU 0 0 M) (fun M_23 => some ((M_23 104 0), M_23))
def f_X7_losesBy (a1 : Int32) (a2 : Int32) (a3 : Int32) (a4 : Int32) (M : sk_M) : Option (Int32 × sk_M) := sk_b1 (f_X7_of a1 1 M) (fun x_1 => sk_let (((a2 * (x_1 + a3)) / 100) + 1) (fun x_3 => sk_b1 (f_X7_counts 0 M) (fun x_4 => sk_b2 (if x_4 < 0 then (some (x_3, M)) else (sk_let (sk_u M 103 115 a2) (fun M_7 => sk_b1 (f_X7_of a1 1 M_7) (fun x_8 => sk_let (sk_u M_7 103 112 x_8) (fun M_10 => sk_let (sk_u M_10 103 119 a3) (fun M_11 => sk_b2 (f_X7_worked x_4 M_11) (fun x_12 M_13 => some (x_12, M_13)))))))) (fun x_15 M_16 => sk_let (f_X7_within x_15 a2) (fun x_18 => sk_b1 (f_X7_of a1 0 M_16) (fun x_19 => if x_19 = 1 then (some ((x_18 / 2), M_16)) else (if x_19 = 2 then (sk_b1 (f_X7_of a1 1 M_16) (fun x_22 => some ((f_X7_within (x_18 + x_22) a2), M_16))) else (if x_19 = 3 then (some ((f_X7_within ((x_18 / 2) - 1) a2), M_16)) else (if x_19 = 4 then (sk_b1 (f_X7_of a1 1 M_16) (fun x_28 => some ((f_X7_within (2 * (f_X7_within (x_18 + x_28) a2)) a2), M_16))) else (if x_19 = 5 then (some ((if (a4 - a4 / 2 * 2) = 1 then x_18 else 0 : Int32), M_16)) else (some (x_18, M_16))))))))))))
def f_X7_losesOn (a1 : Int32) (a2 : Int32) (M : sk_M) : Option (Int32 × sk_M) := sk_b1 (f_X7_on a1 a2 M) (fun x_1 => sk_chk (sk_in (37 + a1) 3109) (sk_b2 (f_X7_losesBy a2 x_1 (M 89 (37 + a1).toNatClampNeg) (M 89 4) M) (fun x_4 M_5 => some (x_4, M_5))))
def f_X7_worth (a1 : Int32) (M : sk_M) : Option Int32 := sk_b1 (f_X7_of a1 1 M) (fun x_1 => sk_b1 (f_X7_of a1 0 M) (fun x_3 => if x_3 = 1 then (some (60 - x_1)) else (if x_3 = 2 then (some (x_1 + 5)) else (if x_3 = 3 then (some (2 * (60 - x_1))) else (if x_3 = 4 then (some (x_1 - 2)) else (if x_3 = 5 then (some 99) else (some x_1)))))))
def f_X7_told (a1 : Int32) (a2 : Int32) (M : sk_M) : Option Int32 := if (f_X7_isScent a1 M) = 0 then (some (-1000000001)) else (if (f_X7_isIn (a2.toInt64) 0 3) = 0 then (some (-1000000001)) else (if 2 ≤ a2 then (if a2 = 2 then (sk_b1 (f_X7_worth a1 M) (fun x_5 => some x_5)) else (sk_b1 (f_X7_of a1 2 M) (fun x_3 => some x_3))) else (sk_b1 (f_X7_of a1 a2 M) (fun x_7 => some x_7))))
def f_X7_isOf (a0 : Int32) (a1 : Int32) : Int32 := if a0 = a1 then 1 else (if a1 = 0 then 1 else (if a1 = 1 then (if a0 = 3 then 1 else ((if a1 = 2 then (if a0 = 4 then 1 else 0 : Int32) else 0 : Int32))) else ((if a1 = 2 then (if a0 = 4 then 1 else 0 : Int32) else 0 : Int32))))
theorem fz_X7_isOf (a0 : Int32) (a1 : Int32) : f_X7_isOf a0 a1 = 0 ∨ f_X7_isOf a0 a1 = 1 := by
  unfold f_X7_isOf
  repeat' split
  all_goals first | exact Or.inl rfl | exact Or.inr rfl
def f_X7_as (a1 : Int32) (a2 : Int32) (M : sk_M) : Option Int32 := if (f_X7_isScent a1 M) = 0 then (some (-1000000001)) else (if (f_X7_isIn (a2.toInt64) 0 5) = 0 then (some (-1000000001)) else (sk_b1 (f_X7_of a1 0 M) (fun x_3 => if (f_X7_isOf x_3 a2) = 0 then (some (-1000000012)) else (sk_b1 (f_X7_of a1 1 M) (fun x_6 => some x_6)))))
def f_X7_turns (a1 : Int32) (a2 : Int32) (M : sk_M) : Option (Int32 × sk_M) := if (f_X7_isScent a1 M) = 0 then (some ((-1000000001), M)) else (if (f_X7_isIn (a2.toInt64) 0 5) = 0 then (some ((-1000000001), M)) else (sk_b2 (f_X7_becomes (10 + (3 * a1)) a2 M) (fun x_3 M_4 => some (x_3, M_4))))
def f_X7_pace (a1 : Int32) (a2 : Int32) (M : sk_M) : Option (Int32 × sk_M) := if (f_X7_isScent a1 M) = 0 then (some ((-1000000001), M)) else (if (f_X7_isIn (a2.toInt64) 0 50) = 0 then (some ((-1000000001), M)) else (sk_b2 (f_X7_becomes ((10 + (3 * a1)) + 1) a2 M) (fun x_3 M_4 => some (x_3, M_4))))
def f_X7_hide (a1 : Int32) (a2 : Int32) (a3 : Int32) (M : sk_M) : Option (Int32 × sk_M) := if (f_X7_isScent a1 M) = 0 then (some ((-1000000001), M)) else (if (f_X7_isScent a2 M) = 0 then (some ((-1000000001), M)) else (if a1 = a2 then (some ((-1000000001), M)) else (if (f_X7_isIn (a3.toInt64) 0 1) = 0 then (some ((-1000000001), M)) else (sk_let ((10 + (3 * a1)) + 2) (fun x_4 => sk_chk (sk_in x_4 3109) (sk_let (((M 89 x_4.toNatClampNeg) >>> (a2 &&& 31)) &&& 1) (fun x_6 => sk_chk (sk_in x_4 3109) (sk_chk (sk_in x_4 3109) (sk_let (sk_u M 89 x_4.toNatClampNeg (((M 89 x_4.toNatClampNeg) &&& ((1 <<< (a2 &&& 31)) ^^^ (-1))) ||| (a3 <<< (a2 &&& 31)))) (fun M_9 => some (x_6, M_9)))))))))))
def f_X7_nose (a1 : Int32) (a2 : Int32) (M : sk_M) : Option (Int32 × sk_M) := if (f_X7_isNose a1) = 0 then (some ((-1000000001), M)) else (if (f_X7_isIn (a2.toInt64) 1 999) = 0 then (some ((-1000000001), M)) else (sk_b2 (f_X7_becomes (6 + a1) a2 M) (fun x_3 M_4 => some (x_3, M_4))))
def f_X7_word (a1 : Int32) (M : sk_M) : Option (Int32 × sk_M) := if (f_X7_isIn (a1.toInt64) 1 ((((1 <<< ((M 89 0) &&& 31)) - 1)).toInt64)) = 0 then (some ((-1000000001), M)) else (if (M 89 2) = 12 then (some ((-1000000003), M)) else (sk_chk (sk_in (97 + (M 89 2)) 3109) (sk_let (sk_u M 89 (97 + (M 89 2)).toNatClampNeg a1) (fun M_3 => sk_let (sk_u M_3 89 2 ((M_3 89 2) + 1)) (fun M_4 => some (((M_4 89 2) - 1), M_4))))))
def f_X7_wordOf (a1 : Int32) (M : sk_M) : Option Int32 := if (f_X7_isSaid a1 M) = 0 then (some (-1000000001)) else (sk_chk (sk_in (97 + a1) 3109) (some (M 89 (97 + a1).toNatClampNeg)))
def f_X7_deal_L17 (a1 : Int32) : Nat → Int32 → sk_M → Option (Int32 × sk_M)
  | 0, _, _ => none
  | n + 1, a2, M => if a1 ≤ a2 then (some (a2, M)) else (if 9 ≤ (M 89 0) then (some (a2, M)) else (sk_b2 (f_X7_drawn M) (fun x_2 M_3 => sk_let (x_2 - x_2 / 6 * 6) (fun x_5 => sk_b2 (f_X7_drawn M_3) (fun x_6 M_7 => sk_b1 (f_X7_comes x_5 (x_6 - x_6 / 51 * 51) M_7) (fun M_9 => f_X7_deal_L17 a1 n (a2 + 1) M_9))))))
def f_X7_deal (a1 : Int32) (M : sk_M) : Option (Int32 × sk_M) := if (f_X7_isIn (a1.toInt64) 1 9) = 0 then (some ((-1000000001), M)) else (sk_b2 (f_X7_deal_L17 a1 sk_FU 0 M) (fun x_11 M_12 => some (x_11, M_12)))
def f_X7_seed (a1 : Int32) (M : sk_M) : Option (Int32 × sk_M) := sk_b2 (f_X7_becomes 5 a1 M) (fun x_1 M_2 => some (x_1, M_2))
def f_X7_cloth_L33 (a1 : Int32) : Nat → Int32 → sk_M → Option (sk_M)
  | 0, _, _ => none
  | n + 1, a2, M => if 9 ≤ a2 then (some M) else (sk_chk (sk_in ((43 + (9 * a1)) + a2) 3109) (sk_let (sk_u M 89 ((43 + (9 * a1)) + a2).toNatClampNeg 0) (fun M_5 => f_X7_cloth_L33 a1 n (a2 + 1) M_5)))
def f_X7_cloth (M : sk_M) : Option (Int32 × sk_M) := if (M 89 1) = 6 then (some ((-1000000003), M)) else (sk_let (M 89 1) (fun x_1 => sk_chk (sk_in (37 + x_1) 3109) (sk_let (sk_u M 89 (37 + x_1).toNatClampNeg 0) (fun M_3 => sk_b1 (f_X7_cloth_L33 x_1 sk_FU 0 M_3) (fun M_6 => sk_let (sk_u M_6 89 1 ((M_6 89 1) + 1)) (fun M_7 => some (x_1, M_7)))))))
def f_X7_strength (a1 : Int32) (a2 : Int32) (M : sk_M) : Option Int32 := if (f_X7_isCloth a1 M) = 0 then (some (-1000000001)) else (if (f_X7_isScent a2 M) = 0 then (some (-1000000001)) else (sk_b1 (f_X7_on a1 a2 M) (fun x_3 => some x_3)))
def f_X7_loses (a1 : Int32) (a2 : Int32) (M : sk_M) : Option (Int32 × sk_M) := if (f_X7_isCloth a1 M) = 0 then (some ((-1000000001), M)) else (if (f_X7_isScent a2 M) = 0 then (some ((-1000000001), M)) else (sk_b2 (f_X7_losesOn a1 a2 M) (fun x_3 M_4 => some (x_3, M_4))))
def f_X7_dab (a1 : Int32) (a2 : Int32) (a3 : Int32) (M : sk_M) : Option (Int32 × sk_M) := if (f_X7_isCloth a1 M) = 0 then (some ((-1000000001), M)) else (if (f_X7_isScent a2 M) = 0 then (some ((-1000000001), M)) else (if (f_X7_isIn (a3.toInt64) (-999) 999) = 0 then (some ((-1000000001), M)) else (sk_b1 (f_X7_on a1 a2 M) (fun x_4 => sk_let (f_X7_within (x_4 + a3) 999) (fun x_7 => sk_chk (sk_in ((43 + (9 * a1)) + a2) 3109) (sk_let (sk_u M 89 ((43 + (9 * a1)) + a2).toNatClampNeg x_7) (fun M_9 => some (x_7, M_9))))))))
def f_X7_warm (a1 : Int32) (a2 : Int32) (M : sk_M) : Option (Int32 × sk_M) := if (f_X7_isCloth a1 M) = 0 then (some ((-1000000001), M)) else (if (f_X7_isIn (a2.toInt64) 0 50) = 0 then (some ((-1000000001), M)) else (sk_b2 (f_X7_becomes (37 + a1) a2 M) (fun x_3 M_4 => some (x_3, M_4))))
def f_X7_touch_L29 (a1 : Int32) (a2 : Int32) : Nat → Int32 → Int32 → sk_M → Option (Int32 × sk_M)
  | 0, _, _, _ => none
  | n + 1, a3, a4, M => if (M 89 0) ≤ a4 then (some (a3, M)) else (sk_b1 (f_X7_on a1 a4 M) (fun x_3 => sk_b1 (f_X7_on a2 a4 M) (fun x_5 => sk_let ((x_3 + x_5) / 2) (fun x_7 => sk_b2 (f_X7_becomes ((43 + (9 * a1)) + a4) x_7 M) (fun x_8 M_9 => sk_let (a3 + (if x_8 = x_7 then 0 else 1 : Int32)) (fun x_11 => sk_b2 (f_X7_becomes ((43 + (9 * a2)) + a4) x_7 M_9) (fun x_12 M_13 => sk_let (x_11 + (if x_12 = x_7 then 0 else 1 : Int32)) (fun x_15 => f_X7_touch_L29 a1 a2 n x_15 (a4 + 1) M_13))))))))
def f_X7_touch (a1 : Int32) (a2 : Int32) (M : sk_M) : Option (Int32 × sk_M) := if (f_X7_isCloth a1 M) = 0 then (some ((-1000000001), M)) else (if (f_X7_isCloth a2 M) = 0 then (some ((-1000000001), M)) else (if a1 = a2 then (some ((-1000000001), M)) else (sk_b2 (f_X7_touch_L29 a1 a2 sk_FU 0 0 M) (fun x_16 M_17 => some (x_16, M_17)))))
def f_X7_goesOn_L14 (a1 : Int32) : Nat → Int32 → sk_M → Option (sk_M)
  | 0, _, _ => none
  | n + 1, a2, M => if (M 89 0) ≤ a2 then (some M) else (sk_chk (sk_in ((43 + (9 * a1)) + a2) 3109) (sk_b2 (f_X7_losesOn a1 a2 M) (fun x_2 M_3 => sk_chk (sk_in ((43 + (9 * a1)) + a2) 3109) (sk_let (sk_u M_3 89 ((43 + (9 * a1)) + a2).toNatClampNeg ((M 89 ((43 + (9 * a1)) + a2).toNatClampNeg) - x_2)) (fun M_6 => f_X7_goesOn_L14 a1 n (a2 + 1) M_6)))))
def f_X7_goesOn_L2  : Nat → Int32 → sk_M → Option (sk_M)
  | 0, _, _ => none
  | n + 1, a1, M => if (M 89 1) ≤ a1 then (some M) else (sk_b1 (f_X7_goesOn_L14 a1 sk_FU 0 M) (fun M_7 => f_X7_goesOn_L2 n (a1 + 1) M_7))
def f_X7_goesOn (M : sk_M) : Option sk_M := sk_b1 (f_X7_goesOn_L2 sk_FU 0 M) (fun M_10 => sk_let (sk_u M_10 89 4 ((M_10 89 4) + 1)) (fun M_11 => some M_11))
def f_X7_days_L17 (a1 : Int32) : Nat → Int32 → sk_M → Option (sk_M)
  | 0, _, _ => none
  | n + 1, a2, M => if a1 ≤ a2 then (some M) else (if 9999 ≤ (M 89 4) then (some M) else (sk_b1 (f_X7_goesOn M) (fun M_2 => f_X7_days_L17 a1 n (a2 + 1) M_2)))
def f_X7_days (a1 : Int32) (M : sk_M) : Option (Int32 × sk_M) := if (f_X7_isIn (a1.toInt64) 1 60) = 0 then (some ((-1000000001), M)) else (sk_b1 (f_X7_days_L17 a1 sk_FU 0 M) (fun M_4 => some ((M_4 89 4), M_4)))
def f_X7_smeltOn_L45 (a1 : Int32) (a2 : Int32) (a3 : Int32) (a4 : Int32) (M : sk_M) : Nat → Int32 → Int32 → Option (Int32)
  | 0, _, _ => none
  | n + 1, a5, a6 => if (M 89 0) ≤ a6 then (some a5) else (if a5 = 0 then (f_X7_smeltOn_L45 a1 a2 a3 a4 M n 0 (a6 + 1)) else (sk_b1 (f_X7_of a6 2 M) (fun x_5 => if ((x_5 >>> (a4 &&& 31)) &&& 1) = 0 then (f_X7_smeltOn_L45 a1 a2 a3 a4 M n 1 (a6 + 1)) else (sk_b1 (f_X7_on a1 a6 M) (fun x_7 => sk_b1 (f_X7_on a1 a4 M) (fun x_9 => sk_let (if (2 * x_9) ≤ x_7 then 0 else 1 : Int32) (fun x_11 => f_X7_smeltOn_L45 a1 a2 a3 a4 M n x_11 (a6 + 1))))))))
def f_X7_smeltOn_L5 (a1 : Int32) (a2 : Int32) (M : sk_M) : Nat → Int32 → Int32 → Option (Int32)
  | 0, _, _ => none
  | n + 1, a3, a4 => if (M 89 0) ≤ a4 then (some a3) else (sk_b1 (f_X7_on a1 a4 M) (fun x_1 => sk_chk (sk_in (6 + a2) 3109) (sk_let (if x_1 < (M 89 (6 + a2).toNatClampNeg) then 0 else 1 : Int32) (fun x_4 => sk_b1 (f_X7_smeltOn_L45 a1 a2 a3 a4 M sk_FU x_4 0) (fun x_12 => sk_let (a3 ||| (if x_12 = 0 then 0 else (1 <<< (a4 &&& 31)) : Int32)) (fun x_13 => f_X7_smeltOn_L5 a1 a2 M n x_13 (a4 + 1)))))))
def f_X7_smeltOn (a1 : Int32) (a2 : Int32) (M : sk_M) : Option Int32 := sk_b1 (f_X7_smeltOn_L5 a1 a2 M sk_FU 0 0) (fun x_16 => some x_16)
def f_X7_saidBy_L10 (a3 : Int32) (M : sk_M) : Nat → Int32 → Option ((Int32) ⊕ (Unit))
  | 0, _ => none
  | n + 1, a4 => if (M 89 2) ≤ a4 then (some (Sum.inr ())) else (sk_chk (sk_in (97 + a4) 3109) (if (M 89 (97 + a4).toNatClampNeg) = a3 then (some (Sum.inl a4)) else (f_X7_saidBy_L10 a3 M n (a4 + 1))))
def f_X7_saidBy (a1 : Int32) (a2 : Int32) (M : sk_M) : Option Int32 := sk_b1 (f_X7_smeltOn a1 a2 M) (fun x_1 => sk_s0 (f_X7_saidBy_L10 x_1 M sk_FU 0) (fun _ => some (-1)))
def f_X7_smells (a1 : Int32) (a2 : Int32) (M : sk_M) : Option Int32 := if (f_X7_isCloth a1 M) = 0 then (some (-1000000001)) else (if (f_X7_isNose a2) = 0 then (some (-1000000001)) else (sk_b1 (f_X7_smeltOn a1 a2 M) (fun x_3 => some x_3)))
def f_X7_says (a1 : Int32) (a2 : Int32) (M : sk_M) : Option Int32 := if (f_X7_isCloth a1 M) = 0 then (some (-1000000001)) else (if (f_X7_isNose a2) = 0 then (some (-1000000001)) else (sk_b1 (f_X7_saidBy a1 a2 M) (fun x_3 => some (f_X7_orNone x_3))))
def f_X7_laysBy_L2  : Nat → Int32 → sk_M → Option (sk_M)
  | 0, _, _ => none
  | n + 1, a1, M => if 109 ≤ a1 then (some M) else (sk_chk (sk_in a1 3109) (sk_chk (sk_in a1 109) (sk_let (sk_u M 100 a1.toNatClampNeg (M 89 a1.toNatClampNeg)) (fun M_3 => f_X7_laysBy_L2 n (a1 + 1) M_3))))
def f_X7_laysBy (M : sk_M) : Option sk_M := sk_b1 (f_X7_laysBy_L2 sk_FU 0 M) (fun M_4 => some M_4)
def f_X7_laysBack_L2  : Nat → Int32 → sk_M → Option (sk_M)
  | 0, _, _ => none
  | n + 1, a1, M => if 109 ≤ a1 then (some M) else (sk_chk (sk_in a1 109) (sk_chk (sk_in a1 3109) (sk_let (sk_u M 89 a1.toNatClampNeg (M 100 a1.toNatClampNeg)) (fun M_3 => f_X7_laysBack_L2 n (a1 + 1) M_3))))
def f_X7_laysBack (M : sk_M) : Option sk_M := sk_b1 (f_X7_laysBack_L2 sk_FU 0 M) (fun M_4 => some M_4)
def f_X7_goesOnMany_L2 (a1 : Int32) : Nat → Int32 → sk_M → Option (sk_M)
  | 0, _, _ => none
  | n + 1, a2, M => if a1 ≤ a2 then (some M) else (sk_b1 (f_X7_goesOn M) (fun M_1 => f_X7_goesOnMany_L2 a1 n (a2 + 1) M_1))
def f_X7_goesOnMany (a1 : Int32) (M : sk_M) : Option sk_M := sk_b1 (f_X7_goesOnMany_L2 a1 sk_FU 0 M) (fun M_3 => some M_3)
def f_X7_behind (a1 : Int32) (a2 : Int32) (a3 : Int32) (M : sk_M) : Option (Int32 × sk_M) := if (f_X7_isCloth a1 M) = 0 then (some ((-1000000001), M)) else (if (f_X7_isNose a2) = 0 then (some ((-1000000001), M)) else (if (f_X7_isIn (a3.toInt64) 0 300) = 0 then (some ((-1000000001), M)) else (sk_b1 (f_X7_laysBy M) (fun M_4 => sk_b1 (f_X7_goesOnMany a3 M_4) (fun M_6 => sk_b1 (f_X7_saidBy a1 a2 M_6) (fun x_8 => sk_b1 (f_X7_laysBack M_6) (fun M_10 => some ((f_X7_orNone x_8), M_10))))))))
def f_X7_first_L36 (a1 : Int32) (a2 : Int32) (a3 : Int32) : Nat → Int32 → Int32 → sk_M → Option (Int32 × sk_M)
  | 0, _, _, _ => none
  | n + 1, a4, a5, M => if 200 < a5 then (some (a4, M)) else (if 0 ≤ a4 then (some (a4, M)) else (sk_b1 (f_X7_saidBy a1 a2 M) (fun x_6 => sk_let (if x_6 = a3 then a5 else (-1) : Int32) (fun x_8 => sk_b1 (f_X7_goesOn M) (fun M_9 => f_X7_first_L36 a1 a2 a3 n x_8 (a5 + 1) M_9)))))
def f_X7_first (a1 : Int32) (a2 : Int32) (a3 : Int32) (M : sk_M) : Option (Int32 × sk_M) := if (f_X7_isCloth a1 M) = 0 then (some ((-1000000001), M)) else (if (f_X7_isNose a2) = 0 then (some ((-1000000001), M)) else (if (f_X7_isSaid a3 M) = 0 then (some ((-1000000001), M)) else (sk_b1 (f_X7_laysBy M) (fun M_4 => sk_b2 (f_X7_first_L36 a1 a2 a3 sk_FU (-1) 0 M_4) (fun x_11 M_12 => sk_b1 (f_X7_laysBack M_12) (fun M_13 => some ((f_X7_orNone x_11), M_13)))))))
def f_X7_lasts_L49 (a1 : Int32) (a2 : Int32) (a3 : Int32) (a4 : Int32) : Nat → Int32 → Int32 → sk_M → Option (Int32 × sk_M)
  | 0, _, _, _ => none
  | n + 1, a5, a6, M => if a4 < a6 then (some (a5, M)) else (sk_b1 (f_X7_saidBy a1 a2 M) (fun x_7 => sk_let (a5 + (if x_7 = a3 then 1 else 0 : Int32)) (fun x_9 => sk_b1 (f_X7_goesOn M) (fun M_10 => f_X7_lasts_L49 a1 a2 a3 a4 n x_9 (a6 + 1) M_10))))
def f_X7_lasts (a1 : Int32) (a2 : Int32) (a3 : Int32) (a4 : Int32) (M : sk_M) : Option (Int32 × sk_M) := if (f_X7_isCloth a1 M) = 0 then (some ((-1000000001), M)) else (if (f_X7_isNose a2) = 0 then (some ((-1000000001), M)) else (if (f_X7_isSaid a3 M) = 0 then (some ((-1000000001), M)) else (if (f_X7_isIn (a4.toInt64) 0 200) = 0 then (some ((-1000000001), M)) else (sk_b1 (f_X7_laysBy M) (fun M_5 => sk_b2 (f_X7_lasts_L49 a1 a2 a3 a4 sk_FU 0 0 M_5) (fun x_12 M_13 => sk_b1 (f_X7_laysBack M_13) (fun M_14 => some (x_12, M_14))))))))
def f_X7_ones_L4 (a0 : Int32) (M : sk_M) : Nat → Int32 → Int32 → Option (Int32)
  | 0, _, _ => none
  | n + 1, a1, a2 => if 12 ≤ a2 then (some a1) else (sk_let (a1 + ((a0 >>> (a2 &&& 31)) &&& 1)) (fun x_1 => f_X7_ones_L4 a0 M n x_1 (a2 + 1)))
def f_X7_ones (a0 : Int32) (M : sk_M) : Option Int32 := sk_b1 (f_X7_ones_L4 a0 M sk_FU 0 0) (fun x_2 => some x_2)
def f_X7_whispers_L40 (a1 : Int32) (a2 : Int32) (a3 : Int32) : Nat → Int32 → Int32 → sk_M → Option (Int32 × sk_M)
  | 0, _, _, _ => none
  | n + 1, a4, a5, M => if a3 < a5 then (some (a4, M)) else (sk_b1 (f_X7_saidBy a1 a2 M) (fun x_6 => sk_let (a4 ||| (if 0 ≤ x_6 then (1 <<< (x_6 &&& 31)) else 0 : Int32)) (fun x_8 => sk_b1 (f_X7_goesOn M) (fun M_9 => f_X7_whispers_L40 a1 a2 a3 n x_8 (a5 + 1) M_9))))
def f_X7_whispers (a1 : Int32) (a2 : Int32) (a3 : Int32) (M : sk_M) : Option (Int32 × sk_M) := if (f_X7_isCloth a1 M) = 0 then (some ((-1000000001), M)) else (if (f_X7_isNose a2) = 0 then (some ((-1000000001), M)) else (if (f_X7_isIn (a3.toInt64) 0 200) = 0 then (some ((-1000000001), M)) else (sk_b1 (f_X7_laysBy M) (fun M_4 => sk_b2 (f_X7_whispers_L40 a1 a2 a3 sk_FU 0 0 M_4) (fun x_11 M_12 => sk_b1 (f_X7_laysBack M_12) (fun M_13 => sk_b1 (f_X7_ones x_11 M_13) (fun x_15 => some (x_15, M_13))))))))
def f_X7_dumb_L27 (a1 : Int32) (a2 : Int32) : Nat → Int32 → Int32 → sk_M → Option (Int32 × sk_M)
  | 0, _, _, _ => none
  | n + 1, a3, a4, M => if 300 < a4 then (some (a3, M)) else (if 0 ≤ a3 then (some (a3, M)) else (sk_b1 (f_X7_smeltOn a1 a2 M) (fun x_5 => sk_let (if x_5 = 0 then a4 else (-1) : Int32) (fun x_7 => sk_b1 (f_X7_goesOn M) (fun M_8 => f_X7_dumb_L27 a1 a2 n x_7 (a4 + 1) M_8)))))
def f_X7_dumb (a1 : Int32) (a2 : Int32) (M : sk_M) : Option (Int32 × sk_M) := if (f_X7_isCloth a1 M) = 0 then (some ((-1000000001), M)) else (if (f_X7_isNose a2) = 0 then (some ((-1000000001), M)) else (sk_b1 (f_X7_laysBy M) (fun M_3 => sk_b2 (f_X7_dumb_L27 a1 a2 sk_FU (-1) 0 M_3) (fun x_10 M_11 => sk_b1 (f_X7_laysBack M_11) (fun M_12 => some ((f_X7_orNone x_10), M_12))))))
def f_X7_secret_L37 (a1 : Int32) (M : sk_M) : Nat → Int32 → Int32 → Option (Int32)
  | 0, _, _ => none
  | n + 1, a3, a4 => if 4 ≤ a4 then (some a3) else (sk_b1 (f_X7_saidBy a1 a4 M) (fun x_7 => sk_let (a3 ||| (if 0 ≤ x_7 then 0 else (1 <<< (a4 &&& 31)) : Int32)) (fun x_9 => f_X7_secret_L37 a1 M n x_9 (a4 + 1))))
def f_X7_secret (a1 : Int32) (a2 : Int32) (M : sk_M) : Option (Int32 × sk_M) := if (f_X7_isCloth a1 M) = 0 then (some ((-1000000001), M)) else (if (f_X7_isIn (a2.toInt64) 0 300) = 0 then (some ((-1000000001), M)) else (sk_b1 (f_X7_laysBy M) (fun M_3 => sk_b1 (f_X7_goesOnMany a2 M_3) (fun M_5 => sk_b1 (f_X7_secret_L37 a1 M_5 sk_FU 0 0) (fun x_10 => sk_b1 (f_X7_laysBack M_5) (fun M_11 => some (x_10, M_11)))))))
def f_X7_leftOf_L6 (a1 : Int32) (a2 : Int32) (a4 : Int32) : Nat → Int32 → Int32 → sk_M → Option (Int32 × sk_M)
  | 0, _, _, _ => none
  | n + 1, a5, a6, M => if a4 ≤ a6 then (some (a5, M)) else (sk_chk (sk_in (37 + a1) 3109) (sk_b2 (f_X7_losesBy a2 a5 (M 89 (37 + a1).toNatClampNeg) ((M 89 4) + a6) M) (fun x_2 M_3 => sk_let (a5 - x_2) (fun x_5 => f_X7_leftOf_L6 a1 a2 a4 n x_5 (a6 + 1) M_3))))
def f_X7_leftOf (a1 : Int32) (a2 : Int32) (a3 : Int32) (a4 : Int32) (M : sk_M) : Option (Int32 × sk_M) := sk_b2 (f_X7_leftOf_L6 a1 a2 a4 sk_FU a3 0 M) (fun x_6 M_7 => some (x_6, M_7))
def f_X7_leastOf_L3 (a1 : Int32) (a2 : Int32) (a3 : Int32) (a4 : Int32) : Nat → Int32 → sk_M → Option ((Int32 × sk_M) ⊕ (sk_M))
  | 0, _, _ => none
  | n + 1, a5, M => if 999 < a5 then (some (Sum.inr M)) else (sk_b2 (f_X7_leftOf a1 a2 a5 a4 M) (fun x_1 M_2 => sk_chk (sk_in (6 + a3) 3109) (if x_1 < (M_2 89 (6 + a3).toNatClampNeg) then (f_X7_leastOf_L3 a1 a2 a3 a4 n (a5 + 1) M_2) else (some (Sum.inl (a5, M_2))))))
def f_X7_leastOf (a1 : Int32) (a2 : Int32) (a3 : Int32) (a4 : Int32) (M : sk_M) : Option (Int32 × sk_M) := sk_s1 (f_X7_leastOf_L3 a1 a2 a3 a4 sk_FU 0 M) (fun M_5 => some ((-1), M_5))
def f_X7_least (a1 : Int32) (a2 : Int32) (a3 : Int32) (a4 : Int32) (M : sk_M) : Option (Int32 × sk_M) := if (f_X7_isCloth a1 M) = 0 then (some ((-1000000001), M)) else (if (f_X7_isScent a2 M) = 0 then (some ((-1000000001), M)) else (if (f_X7_isNose a3) = 0 then (some ((-1000000001), M)) else (if (f_X7_isIn (a4.toInt64) 0 100) = 0 then (some ((-1000000001), M)) else (sk_b2 (f_X7_leastOf a1 a2 a3 a4 M) (fun x_5 M_6 => some ((f_X7_orNone x_5), M_6))))))
def f_X7_letter_L45 (a1 : Int32) (a2 : Int32) (a3 : Int32) (a4 : Int32) : Nat → Int32 → Int32 → sk_M → Option ((Int32 × sk_M) ⊕ (Int32 × sk_M))
  | 0, _, _, _ => none
  | n + 1, a5, a6, M => if (M 89 0) ≤ a6 then (some (Sum.inr (a5, M))) else (sk_chk (sk_in (97 + a2) 3109) (sk_b2 (if (((M 89 (97 + a2).toNatClampNeg) >>> (a6 &&& 31)) &&& 1) = 1 then (sk_b2 (f_X7_leastOf a1 a6 a3 a4 M) (fun x_7 M_8 => some (x_7, M_8))) else (some (0, M))) (fun x_10 M_11 => sk_chk (sk_in a6 9) (sk_let (sk_u M_11 101 a6.toNatClampNeg x_10) (fun M_13 => sk_chk (sk_in a6 9) (if 0 ≤ (M_13 101 a6.toNatClampNeg) then (sk_chk (sk_in a6 9) (sk_let (a5 + (M_13 101 a6.toNatClampNeg)) (fun x_16 => f_X7_letter_L45 a1 a2 a3 a4 n x_16 (a6 + 1) M_13))) else (some (Sum.inl ((-1000000002), M_13)))))))))
def f_X7_letter_L129 (a1 : Int32) (a5 : Int32) : Nat → Int32 → sk_M → Option (sk_M)
  | 0, _, _ => none
  | n + 1, a6, M => if (M 89 0) ≤ a6 then (some M) else (sk_chk (sk_in a6 9) (sk_chk (sk_in ((43 + (9 * a1)) + a6) 3109) (sk_let (sk_u M 89 ((43 + (9 * a1)) + a6).toNatClampNeg (M 101 a6.toNatClampNeg)) (fun M_21 => f_X7_letter_L129 a1 a5 n (a6 + 1) M_21))))
def f_X7_letter (a1 : Int32) (a2 : Int32) (a3 : Int32) (a4 : Int32) (M : sk_M) : Option (Int32 × sk_M) := if (f_X7_isCloth a1 M) = 0 then (some ((-1000000001), M)) else (if (f_X7_isSaid a2 M) = 0 then (some ((-1000000001), M)) else (if (f_X7_isNose a3) = 0 then (some ((-1000000001), M)) else (if (f_X7_isIn (a4.toInt64) 0 100) = 0 then (some ((-1000000001), M)) else (sk_s2 (f_X7_letter_L45 a1 a2 a3 a4 sk_FU 0 0 M) (fun x_17 M_18 => sk_b1 (f_X7_letter_L129 a1 x_17 sk_FU 0 M_18) (fun M_22 => some (x_17, M_22)))))))
def f_X7_allOn_L4 (a1 : Int32) (M : sk_M) : Nat → Int32 → Int32 → Option (Int32)
  | 0, _, _ => none
  | n + 1, a2, a3 => if (M 89 0) ≤ a3 then (some a2) else (sk_b1 (f_X7_on a1 a3 M) (fun x_1 => sk_let (a2 + x_1) (fun x_3 => f_X7_allOn_L4 a1 M n x_3 (a3 + 1))))
def f_X7_allOn (a1 : Int32) (M : sk_M) : Option Int32 := sk_b1 (f_X7_allOn_L4 a1 M sk_FU 0 0) (fun x_4 => some x_4)
def f_X7_price_L32 (a1 : Int32) (a2 : Int32) (M : sk_M) : Nat → Int32 → Int32 → Option (Int32)
  | 0, _, _ => none
  | n + 1, a3, a4 => if (M 89 0) ≤ a4 then (some a3) else (sk_b1 (f_X7_on a1 a4 M) (fun x_4 => sk_let (a3 + (if x_4 = 0 then 0 else 1 : Int32)) (fun x_6 => f_X7_price_L32 a1 a2 M n x_6 (a4 + 1))))
def f_X7_price (a1 : Int32) (M : sk_M) : Option (Int32 × sk_M) := if (f_X7_isCloth a1 M) = 0 then (some ((-1000000001), M)) else (sk_b1 (f_X7_counts 1 M) (fun x_2 => if 0 ≤ x_2 then (sk_b1 (f_X7_price_L32 a1 x_2 M sk_FU 0 0) (fun x_7 => sk_b1 (f_X7_allOn a1 M) (fun x_8 => sk_let (sk_u M 103 116 x_8) (fun M_10 => sk_let (sk_u M_10 103 110 x_7) (fun M_11 => sk_b2 (f_X7_worked x_2 M_11) (fun x_12 M_13 => some (x_12, M_13))))))) else (sk_b1 (f_X7_allOn a1 M) (fun x_17 => some (x_17, M)))))
def f_X7_saidOr (a1 : Int32) (M : sk_M) : Option Int32 := sk_b1 (f_X7_saidBy a1 0 M) (fun x_1 => some (if 0 ≤ x_1 then x_1 else 99 : Int32))
def f_X7_lie (a1 : Int32) (M : sk_M) : Option (Int32 × sk_M) := if (f_X7_isCloth a1 M) = 0 then (some ((-1000000001), M)) else (sk_b1 (f_X7_counts 2 M) (fun x_2 => if 0 ≤ x_2 then (sk_let (sk_u M 103 100 (M 89 4)) (fun M_4 => sk_b1 (f_X7_saidOr a1 M_4) (fun x_5 => sk_let (sk_u M_4 103 110 x_5) (fun M_7 => sk_b2 (f_X7_worked x_2 M_7) (fun x_8 M_9 => some (x_8, M_9)))))) else (some (0, M))))
def f_X7_feed_L18 (a1 : Int32) (a2 : Int32) (a3 : Int32) : Nat → Int32 → sk_M → Option (sk_M)
  | 0, _, _ => none
  | n + 1, a4, M => if 12 ≤ a4 then (some M) else (sk_let (if 4 ≤ a4 then (if 8 ≤ a4 then a3 else a2 : Int32) else a1 : Int32) (fun x_1 => sk_chk (sk_in (M 88 15) 96) (sk_let (sk_u M 102 (M 88 15).toNatClampNeg ((x_1 >>> ((24 - (8 * (a4 - a4 / 4 * 4))) &&& 31)) &&& 255)) (fun M_3 => sk_let (sk_u M_3 88 15 ((M_3 88 15) + 1)) (fun M_4 => f_X7_feed_L18 a1 a2 a3 n (a4 + 1) M_4)))))
def f_X7_feed (a1 : Int32) (a2 : Int32) (a3 : Int32) (M : sk_M) : Option (Int32 × sk_M) := if ((M 88 15) + 12) ≤ 96 then (sk_b1 (f_X7_feed_L18 a1 a2 a3 sk_FU 0 M) (fun M_5 => some ((M_5 88 15), M_5))) else (some ((-1000000003), M))
def f_X7_trim (a1 : Int32) (M : sk_M) : Option (Int32 × sk_M) := if (f_X7_isIn (a1.toInt64) 0 (((M 88 15)).toInt64)) = 0 then (some ((-1000000001), M)) else (sk_let (sk_u M 88 15 a1) (fun M_2 => some (a1, M_2)))
def f_X7_isLetter (a1 : Int32) (M : sk_M) : Option Int32 := if (M 88 15) ≤ a1 then (some 0) else (sk_chk (sk_in a1 96) (some (if (f_X7_isIn (((M 102 a1.toNatClampNeg)).toInt64) 97 122) = 0 then 0 else 1 : Int32)))
def f_X7_isDigit (a1 : Int32) (M : sk_M) : Option Int32 := if (M 88 15) ≤ a1 then (some 0) else (sk_chk (sk_in a1 96) (some (if (f_X7_isIn (((M 102 a1.toNatClampNeg)).toInt64) 48 57) = 0 then 0 else 1 : Int32)))
def f_X7_nextToken_L34 (a1 : Int32) (a2 : Int32) : Nat → sk_M → Option (sk_M)
  | 0, _ => none
  | n + 1, M => if (M 88 15) ≤ (M 88 17) then (some M) else (sk_chk (sk_in (M 88 17) 96) (if (M 102 (M 88 17).toNatClampNeg) = 32 then (sk_let (sk_u M 88 17 ((M 88 17) + 1)) (fun M_4 => f_X7_nextToken_L34 a1 a2 n M_4)) else (some M)))
def f_X7_nextToken_L214 (a1 : Int32) : Nat → sk_M → Option (sk_M)
  | 0, _ => none
  | n + 1, M => sk_b1 (f_X7_isDigit (M 88 17) M) (fun x_17 => if x_17 = 0 then (some M) else (if 4 ≤ ((M 88 17) - (M 88 16)) then (sk_let (sk_u M 88 19 (M 88 19)) (fun M_19 => sk_let (sk_u M_19 88 17 ((M_19 88 17) + 1)) (fun M_20 => f_X7_nextToken_L214 a1 n M_20))) else (sk_chk (sk_in (M 88 17) 96) (sk_let (sk_u M 88 19 (((10 * (M 88 19)) + (M 102 (M 88 17).toNatClampNeg)) - 48)) (fun M_22 => sk_let (sk_u M_22 88 17 ((M_22 88 17) + 1)) (fun M_23 => f_X7_nextToken_L214 a1 n M_23))))))
def f_X7_nextToken_L128 (a1 : Int32) : Nat → sk_M → Option (sk_M)
  | 0, _ => none
  | n + 1, M => sk_b1 (f_X7_isLetter (M 88 17) M) (fun x_28 => if x_28 = 0 then (some M) else (sk_let (sk_u M 88 17 ((M 88 17) + 1)) (fun M_30 => f_X7_nextToken_L128 a1 n M_30)))
def f_X7_nextToken (M : sk_M) : Option sk_M := sk_let (if (M 88 17) ≤ 0 then 0 else (if (M 88 18) = 1 then 1 else (if (M 88 18) = 2 then 1 else 0 : Int32) : Int32) : Int32) (fun x_1 => sk_let (M 88 17) (fun x_2 => sk_b1 (f_X7_nextToken_L34 x_1 x_2 sk_FU M) (fun M_5 => sk_let (if x_1 = 0 then 0 else (if x_2 = (M_5 88 17) then 1 else 0 : Int32) : Int32) (fun x_6 => sk_let (sk_u M_5 88 16 (M_5 88 17)) (fun M_7 => if (M_7 88 16) = (M_7 88 15) then (sk_let (sk_u M_7 88 18 0) (fun M_38 => some M_38)) else (sk_b1 (f_X7_isLetter (M_7 88 16) M_7) (fun x_8 => if x_8 = 0 then (sk_b1 (f_X7_isDigit (M_7 88 16) M_7) (fun x_10 => if x_10 = 0 then (sk_let (sk_u M_7 88 18 3) (fun M_12 => sk_chk (sk_in (M_12 88 16) 96) (sk_let (sk_u M_12 88 20 (M_12 102 (M_12 88 16).toNatClampNeg)) (fun M_14 => sk_let (sk_u M_14 88 17 ((M_14 88 17) + 1)) (fun M_15 => some M_15))))) else (sk_let (sk_u M_7 88 19 0) (fun M_16 => sk_b1 (f_X7_nextToken_L214 x_6 sk_FU M_16) (fun M_24 => sk_let (sk_u M_24 88 18 (if x_6 = 0 then (if ((M_24 88 17) - (M_24 88 16)) ≤ 4 then 2 else 4 : Int32) else 4 : Int32)) (fun M_25 => some M_25)))))) else (sk_b1 (f_X7_nextToken_L128 x_6 sk_FU M_7) (fun M_31 => sk_let (sk_u M_31 88 18 (if x_6 = 0 then 1 else 4 : Int32)) (fun M_32 => if ((M_32 88 17) - (M_32 88 16)) = 1 then (sk_chk (sk_in (M_32 88 16) 96) (sk_let (sk_u M_32 88 20 (M_32 102 (M_32 88 16).toNatClampNeg)) (fun M_35 => some M_35))) else (sk_let (sk_u M_32 88 20 0) (fun M_33 => some M_33))))))))))))
def f_X7_isSign (a1 : Int32) (M : sk_M) : Int32 := (if (M 88 18) = 3 then (if (M 88 20) = a1 then 1 else 0 : Int32) else 0 : Int32)
theorem fz_X7_isSign (a1 : Int32) (M : sk_M) : f_X7_isSign a1 M = 0 ∨ f_X7_isSign a1 M = 1 := by
  unfold f_X7_isSign
  repeat' split
  all_goals first | exact Or.inl rfl | exact Or.inr rfl
def f_X7_isWordAt (a1 : Int32) (a2 : Int32) (a3 : Int32) (a4 : Int32) (M : sk_M) : Option Int32 := sk_let (if a4 = 0 then 3 else 4 : Int32) (fun x_1 => if (M 88 18) = 1 then (if ((M 88 17) - (M 88 16)) = x_1 then (sk_chk (sk_in (M 88 16) 96) (if (M 102 (M 88 16).toNatClampNeg) = a1 then (sk_chk (sk_in ((M 88 16) + 1) 96) (if (M 102 ((M 88 16) + 1).toNatClampNeg) = a2 then (sk_chk (sk_in ((M 88 16) + 2) 96) (if (M 102 ((M 88 16) + 2).toNatClampNeg) = a3 then (if a4 = 0 then (some 1) else (sk_chk (sk_in ((M 88 16) + 3) 96) (some (if (M 102 ((M 88 16) + 3).toNatClampNeg) = a4 then 1 else 0 : Int32)))) else (some 0))) else (some 0))) else (some 0))) else (some 0)) else (some 0))
def f_X7_isLong (a1 : Int32) (a2 : Int32) (a3 : Int32) (a4 : Int32) (a5 : Int32) (a6 : Int32) (M : sk_M) : Option Int32 := sk_let (if a6 = 0 then 5 else 6 : Int32) (fun x_1 => if (M 88 18) = 1 then (if ((M 88 17) - (M 88 16)) = x_1 then (sk_chk (sk_in (M 88 16) 96) (if (M 102 (M 88 16).toNatClampNeg) = a1 then (sk_chk (sk_in ((M 88 16) + 1) 96) (if (M 102 ((M 88 16) + 1).toNatClampNeg) = a2 then (sk_chk (sk_in ((M 88 16) + 2) 96) (if (M 102 ((M 88 16) + 2).toNatClampNeg) = a3 then (sk_chk (sk_in ((M 88 16) + 3) 96) (if (M 102 ((M 88 16) + 3).toNatClampNeg) = a4 then (sk_chk (sk_in ((M 88 16) + 4) 96) (if (M 102 ((M 88 16) + 4).toNatClampNeg) = a5 then (if a6 = 0 then (some 1) else (sk_chk (sk_in ((M 88 16) + 5) 96) (some (if (M 102 ((M 88 16) + 5).toNatClampNeg) = a6 then 1 else 0 : Int32)))) else (some 0))) else (some 0))) else (some 0))) else (some 0))) else (some 0))) else (some 0)) else (some 0))
def f_X7_key (M : sk_M) : Option Int32 := sk_b1 (f_X7_isWordAt 102 97 100 101 M) (fun x_1 => if x_1 = 0 then (sk_b1 (f_X7_isLong 112 114 105 99 101 0 M) (fun x_3 => if x_3 = 0 then (sk_b1 (f_X7_isWordAt 108 105 101 0 M) (fun x_5 => some (if x_5 = 0 then (-1) else 2 : Int32))) else (some 1))) else (some 0))
def f_X7_isName (a0 : Int32) (a1 : Int32) : Int32 := if a0 = 0 then (if a1 = 115 then 1 else (if a1 = 112 then 1 else ((if a1 = 119 then 1 else 0 : Int32)))) else (if a0 = 1 then (if a1 = 116 then 1 else ((if a1 = 110 then 1 else 0 : Int32))) else (if a1 = 100 then 1 else ((if a1 = 110 then 1 else 0 : Int32))))
theorem fz_X7_isName (a0 : Int32) (a1 : Int32) : f_X7_isName a0 a1 = 0 ∨ f_X7_isName a0 a1 = 1 := by
  unfold f_X7_isName
  repeat' split
  all_goals first | exact Or.inl rfl | exact Or.inr rfl
def f_X7_step (a1 : Int32) (a2 : Int32) (M : sk_M) : Option sk_M := sk_chk (sk_in ((M 88 24) + (2 * (M 88 23))) 3109) (sk_let (sk_u M 89 ((M 88 24) + (2 * (M 88 23))).toNatClampNeg a1) (fun M_2 => sk_chk (sk_in (((M_2 88 24) + (2 * (M_2 88 23))) + 1) 3109) (sk_let (sk_u M_2 89 (((M_2 88 24) + (2 * (M_2 88 23))) + 1).toNatClampNeg a2) (fun M_4 => sk_let (sk_u M_4 88 23 ((M_4 88 23) + 1)) (fun M_5 => some M_5)))))
def f_X7_either_L10 (self : Nat → Int32 → sk_M → Option (Int32 × sk_M)) (a1 : Int32) : Nat → sk_M → Option ((Int32 × sk_M) ⊕ (sk_M))
  | 0, _ => none
  | n + 1, M => if (f_X7_isSign 124 M) = 0 then (some (Sum.inr M)) else (sk_b1 (f_X7_nextToken M) (fun M_5 => sk_b2 (self 1 a1 M_5) (fun x_7 M_8 => if x_7 = 0 then (some (Sum.inl (0, M_8))) else (sk_b1 (f_X7_step 2 124 M_8) (fun M_10 => f_X7_either_L10 self a1 n M_10)))))
def f_X7_either (self : Nat → Int32 → sk_M → Option (Int32 × sk_M)) (a1 : Int32) (M : sk_M) : Option (Int32 × sk_M) := sk_b2 (self 1 a1 M) (fun x_1 M_2 => if x_1 = 0 then (some (0, M_2)) else (sk_s1 (f_X7_either_L10 self a1 sk_FU M_2) (fun M_12 => some (1, M_12))))
def f_X7_both_L10 (self : Nat → Int32 → sk_M → Option (Int32 × sk_M)) (a1 : Int32) : Nat → sk_M → Option ((Int32 × sk_M) ⊕ (sk_M))
  | 0, _ => none
  | n + 1, M => if (f_X7_isSign 38 M) = 0 then (some (Sum.inr M)) else (sk_b1 (f_X7_nextToken M) (fun M_5 => sk_b2 (self 2 a1 M_5) (fun x_7 M_8 => if x_7 = 0 then (some (Sum.inl (0, M_8))) else (sk_b1 (f_X7_step 2 38 M_8) (fun M_10 => f_X7_both_L10 self a1 n M_10)))))
def f_X7_both (self : Nat → Int32 → sk_M → Option (Int32 × sk_M)) (a1 : Int32) (M : sk_M) : Option (Int32 × sk_M) := sk_b2 (self 2 a1 M) (fun x_1 M_2 => if x_1 = 0 then (some (0, M_2)) else (sk_s1 (f_X7_both_L10 self a1 sk_FU M_2) (fun M_12 => some (1, M_12))))
def f_X7_test (self : Nat → Int32 → sk_M → Option (Int32 × sk_M)) (a1 : Int32) (M : sk_M) : Option (Int32 × sk_M) := sk_b2 (self 3 a1 M) (fun x_1 M_2 => if x_1 = 0 then (some (0, M_2)) else (sk_s0 (if (f_X7_isSign 60 M_2) = 0 then (if (f_X7_isSign 61 M_2) = 0 then (if (f_X7_isSign 62 M_2) = 0 then (some (Sum.inl (1, M_2))) else (some (Sum.inr ()))) else (some (Sum.inr ()))) else (some (Sum.inr ()))) (fun _ => sk_let (M_2 88 20) (fun x_8 => sk_b1 (f_X7_nextToken M_2) (fun M_9 => sk_b2 (self 3 a1 M_9) (fun x_11 M_12 => if x_11 = 0 then (some (0, M_12)) else (sk_b1 (f_X7_step 2 x_8 M_12) (fun M_14 => some (1, M_14)))))))))
def f_X7_sum_L10 (self : Nat → Int32 → sk_M → Option (Int32 × sk_M)) (a1 : Int32) : Nat → sk_M → Option ((Int32 × sk_M) ⊕ (sk_M))
  | 0, _ => none
  | n + 1, M => if (f_X7_isSign 43 M) = 0 then (if (f_X7_isSign 45 M) = 0 then (some (Sum.inr M)) else (sk_let (M 88 20) (fun x_14 => sk_b1 (f_X7_nextToken M) (fun M_15 => sk_b2 (self 4 a1 M_15) (fun x_17 M_18 => if x_17 = 0 then (some (Sum.inl (0, M_18))) else (sk_b1 (f_X7_step 2 x_14 M_18) (fun M_20 => f_X7_sum_L10 self a1 n M_20))))))) else (sk_let (M 88 20) (fun x_5 => sk_b1 (f_X7_nextToken M) (fun M_6 => sk_b2 (self 4 a1 M_6) (fun x_8 M_9 => if x_8 = 0 then (some (Sum.inl (0, M_9))) else (sk_b1 (f_X7_step 2 x_5 M_9) (fun M_11 => f_X7_sum_L10 self a1 n M_11))))))
def f_X7_sum (self : Nat → Int32 → sk_M → Option (Int32 × sk_M)) (a1 : Int32) (M : sk_M) : Option (Int32 × sk_M) := sk_b2 (self 4 a1 M) (fun x_1 M_2 => if x_1 = 0 then (some (0, M_2)) else (sk_s1 (f_X7_sum_L10 self a1 sk_FU M_2) (fun M_22 => some (1, M_22))))
def f_X7_term_L10 (self : Nat → Int32 → sk_M → Option (Int32 × sk_M)) (a1 : Int32) : Nat → sk_M → Option ((Int32 × sk_M) ⊕ (sk_M))
  | 0, _ => none
  | n + 1, M => if (f_X7_isSign 42 M) = 0 then (if (f_X7_isSign 47 M) = 0 then (some (Sum.inr M)) else (sk_let (M 88 20) (fun x_14 => sk_b1 (f_X7_nextToken M) (fun M_15 => sk_b2 (self 5 a1 M_15) (fun x_17 M_18 => if x_17 = 0 then (some (Sum.inl (0, M_18))) else (sk_b1 (f_X7_step 2 x_14 M_18) (fun M_20 => f_X7_term_L10 self a1 n M_20))))))) else (sk_let (M 88 20) (fun x_5 => sk_b1 (f_X7_nextToken M) (fun M_6 => sk_b2 (self 5 a1 M_6) (fun x_8 M_9 => if x_8 = 0 then (some (Sum.inl (0, M_9))) else (sk_b1 (f_X7_step 2 x_5 M_9) (fun M_11 => f_X7_term_L10 self a1 n M_11))))))
def f_X7_term (self : Nat → Int32 → sk_M → Option (Int32 × sk_M)) (a1 : Int32) (M : sk_M) : Option (Int32 × sk_M) := sk_b2 (self 5 a1 M) (fun x_1 M_2 => if x_1 = 0 then (some (0, M_2)) else (sk_s1 (f_X7_term_L10 self a1 sk_FU M_2) (fun M_22 => some (1, M_22))))
def f_X7_part0 (self : Nat → Int32 → sk_M → Option (Int32 × sk_M)) (a1 : Int32) (M : sk_M) : Option (Int32 × sk_M) := if (M 88 18) = 2 then (sk_b1 (f_X7_step 0 (M 88 19) M) (fun M_103 => sk_let (sk_u M_103 88 25 ((M_103 88 25) + 1)) (fun M_105 => sk_b1 (f_X7_nextToken M_105) (fun M_106 => some (1, M_106))))) else (if (M 88 18) = 1 then (if (M 88 20) = 0 then (if (f_X7_isSign 33 M) = 0 then (if (f_X7_isSign 40 M) = 0 then (some (0, M)) else (if (M 88 21) = 8 then (some (0, M)) else (sk_let (sk_u M 88 21 ((M 88 21) + 1)) (fun M_35 => sk_b1 (f_X7_nextToken M_35) (fun M_36 => sk_b2 (self 0 a1 M_36) (fun x_38 M_39 => if x_38 = 0 then (some (0, M_39)) else (if (f_X7_isSign 41 M_39) = 0 then (some (0, M_39)) else (sk_let (sk_u M_39 88 21 ((M_39 88 21) - 1)) (fun M_42 => sk_b1 (f_X7_nextToken M_42) (fun M_43 => some (1, M_43))))))))))) else (if 8 ≤ (M 88 22) then (if (f_X7_isSign 40 M) = 0 then (some (0, M)) else (if (M 88 21) = 8 then (some (0, M)) else (sk_let (sk_u M 88 21 ((M 88 21) + 1)) (fun M_46 => sk_b1 (f_X7_nextToken M_46) (fun M_47 => sk_b2 (self 0 a1 M_47) (fun x_49 M_50 => if x_49 = 0 then (some (0, M_50)) else (if (f_X7_isSign 41 M_50) = 0 then (some (0, M_50)) else (sk_let (sk_u M_50 88 21 ((M_50 88 21) - 1)) (fun M_53 => sk_b1 (f_X7_nextToken M_53) (fun M_54 => some (1, M_54))))))))))) else (sk_let (sk_u M 88 22 ((M 88 22) + 1)) (fun M_56 => sk_b1 (f_X7_nextToken M_56) (fun M_57 => sk_b2 (self 5 a1 M_57) (fun x_59 M_60 => if x_59 = 0 then (some (0, M_60)) else (sk_let (sk_u M_60 88 22 ((M_60 88 22) - 1)) (fun M_62 => sk_b1 (f_X7_step 2 33 M_62) (fun M_63 => some (1, M_63)))))))))) else (if (f_X7_isName a1 (M 88 20)) = 0 then (if (f_X7_isSign 33 M) = 0 then (if (f_X7_isSign 40 M) = 0 then (some (0, M)) else (if (M 88 21) = 8 then (some (0, M)) else (sk_let (sk_u M 88 21 ((M 88 21) + 1)) (fun M_68 => sk_b1 (f_X7_nextToken M_68) (fun M_69 => sk_b2 (self 0 a1 M_69) (fun x_71 M_72 => if x_71 = 0 then (some (0, M_72)) else (if (f_X7_isSign 41 M_72) = 0 then (some (0, M_72)) else (sk_let (sk_u M_72 88 21 ((M_72 88 21) - 1)) (fun M_75 => sk_b1 (f_X7_nextToken M_75) (fun M_76 => some (1, M_76))))))))))) else (if 8 ≤ (M 88 22) then (if (f_X7_isSign 40 M) = 0 then (some (0, M)) else (if (M 88 21) = 8 then (some (0, M)) else (sk_let (sk_u M 88 21 ((M 88 21) + 1)) (fun M_79 => sk_b1 (f_X7_nextToken M_79) (fun M_80 => sk_b2 (self 0 a1 M_80) (fun x_82 M_83 => if x_82 = 0 then (some (0, M_83)) else (if (f_X7_isSign 41 M_83) = 0 then (some (0, M_83)) else (sk_let (sk_u M_83 88 21 ((M_83 88 21) - 1)) (fun M_86 => sk_b1 (f_X7_nextToken M_86) (fun M_87 => some (1, M_87))))))))))) else (sk_let (sk_u M 88 22 ((M 88 22) + 1)) (fun M_89 => sk_b1 (f_X7_nextToken M_89) (fun M_90 => sk_b2 (self 5 a1 M_90) (fun x_92 M_93 => if x_92 = 0 then (some (0, M_93)) else (sk_let (sk_u M_93 88 22 ((M_93 88 22) - 1)) (fun M_95 => sk_b1 (f_X7_step 2 33 M_95) (fun M_96 => some (1, M_96)))))))))) else (sk_b1 (f_X7_step 1 (M 88 20) M) (fun M_98 => sk_let (sk_u M_98 88 25 ((M_98 88 25) + 1)) (fun M_100 => sk_b1 (f_X7_nextToken M_100) (fun M_101 => some (1, M_101))))))) else (if (f_X7_isSign 33 M) = 0 then (if (f_X7_isSign 40 M) = 0 then (some (0, M)) else (if (M 88 21) = 8 then (some (0, M)) else (sk_let (sk_u M 88 21 ((M 88 21) + 1)) (fun M_3 => sk_b1 (f_X7_nextToken M_3) (fun M_4 => sk_b2 (self 0 a1 M_4) (fun x_6 M_7 => if x_6 = 0 then (some (0, M_7)) else (if (f_X7_isSign 41 M_7) = 0 then (some (0, M_7)) else (sk_let (sk_u M_7 88 21 ((M_7 88 21) - 1)) (fun M_10 => sk_b1 (f_X7_nextToken M_10) (fun M_11 => some (1, M_11))))))))))) else (if 8 ≤ (M 88 22) then (if (f_X7_isSign 40 M) = 0 then (some (0, M)) else (if (M 88 21) = 8 then (some (0, M)) else (sk_let (sk_u M 88 21 ((M 88 21) + 1)) (fun M_14 => sk_b1 (f_X7_nextToken M_14) (fun M_15 => sk_b2 (self 0 a1 M_15) (fun x_17 M_18 => if x_17 = 0 then (some (0, M_18)) else (if (f_X7_isSign 41 M_18) = 0 then (some (0, M_18)) else (sk_let (sk_u M_18 88 21 ((M_18 88 21) - 1)) (fun M_21 => sk_b1 (f_X7_nextToken M_21) (fun M_22 => some (1, M_22))))))))))) else (sk_let (sk_u M 88 22 ((M 88 22) + 1)) (fun M_24 => sk_b1 (f_X7_nextToken M_24) (fun M_25 => sk_b2 (self 5 a1 M_25) (fun x_27 M_28 => if x_27 = 0 then (some (0, M_28)) else (sk_let (sk_u M_28 88 22 ((M_28 88 22) - 1)) (fun M_30 => sk_b1 (f_X7_step 2 33 M_30) (fun M_31 => some (1, M_31)))))))))))
def f_G7 : Nat → Nat → Int32 → sk_M → Option (Int32 × sk_M)
  | 0, _, _, _ => none
  | n + 1, k, a, M => if k = 0 then f_X7_either (f_G7 n) a M else if k = 1 then f_X7_both (f_G7 n) a M else if k = 2 then f_X7_test (f_G7 n) a M else if k = 3 then f_X7_sum (f_G7 n) a M else if k = 4 then f_X7_term (f_G7 n) a M else f_X7_part0 (f_G7 n) a M
def f_X7_parse (M : sk_M) : Option (Int32 × sk_M) := sk_let (sk_u M 88 17 0) (fun M_1 => sk_let (sk_u M_1 88 18 3) (fun M_2 => sk_let (sk_u M_2 88 21 0) (fun M_3 => sk_let (sk_u M_3 88 22 0) (fun M_4 => sk_let (sk_u M_4 88 23 0) (fun M_5 => sk_let (sk_u M_5 88 25 0) (fun M_6 => sk_let (sk_u M_6 88 24 (if 14 ≤ (M_6 89 3) then 2909 else ((f_X7_textAt (M_6 89 3)) + 4) : Int32)) (fun M_8 => sk_b1 (f_X7_nextToken M_8) (fun M_9 => sk_b1 (f_X7_key M_9) (fun x_11 => sk_let (if x_11 < 0 then 0 else 1 : Int32) (fun x_13 => sk_b2 (if x_13 = 0 then (some (x_13, M_9)) else (sk_b1 (f_X7_nextToken M_9) (fun M_15 => sk_b2 (f_G7 sk_RD 0 x_11 M_15) (fun x_17 M_18 => sk_let (if x_17 = 0 then 0 else (if (M_18 88 18) = 0 then 1 else 0 : Int32) : Int32) (fun x_20 => some (x_20, M_18)))))) (fun x_21 M_22 => sk_let (sk_u M_22 88 15 0) (fun M_23 => some ((if x_21 = 0 then (-1) else x_11 : Int32), M_23)))))))))))))
def f_X7_text (M : sk_M) : Option (Int32 × sk_M) := sk_b2 (f_X7_parse M) (fun x_1 M_2 => if 0 ≤ x_1 then (if (M_2 89 3) = 14 then (some ((-1000000003), M_2)) else (sk_let (f_X7_textAt (M_2 89 3)) (fun x_5 => sk_chk (sk_in (x_5 + 0) 3109) (sk_let (sk_u M_2 89 (x_5 + 0).toNatClampNeg x_1) (fun M_7 => sk_chk (sk_in (x_5 + 1) 3109) (sk_let (sk_u M_7 89 (x_5 + 1).toNatClampNeg (M_7 88 25)) (fun M_9 => sk_chk (sk_in (x_5 + 2) 3109) (sk_let (sk_u M_9 89 (x_5 + 2).toNatClampNeg (M_9 88 23)) (fun M_11 => sk_let (sk_u M_11 89 3 ((M_11 89 3) + 1)) (fun M_12 => some (((M_12 89 3) - 1), M_12))))))))))) else (some (((-100) - (M_2 88 16)), M_2)))
def f_X7_textTold (a1 : Int32) (a2 : Int32) (M : sk_M) : Option Int32 := if (f_X7_isText a1 M) = 0 then (some (-1000000001)) else (if (f_X7_isIn (a2.toInt64) 0 1) = 0 then (some (-1000000001)) else (sk_chk (sk_in ((f_X7_textAt a1) + a2) 3109) (some (M 89 ((f_X7_textAt a1) + a2).toNatClampNeg))))
def f_X7_why (a1 : Int32) (M : sk_M) : Option Int32 := if (f_X7_isIn (a1.toInt64) 0 2) = 0 then (some (-1000000001)) else (sk_b1 (f_X7_counts a1 M) (fun x_2 => some (f_X7_orNone x_2)))
def f_X7_isSheet (a0 : Int32) : Int32 := (f_X7_isIn (a0.toInt64) 0 3)
theorem fz_X7_isSheet (a0 : Int32) : f_X7_isSheet a0 = 0 ∨ f_X7_isSheet a0 = 1 := by
  unfold f_X7_isSheet
  repeat' split
  all_goals first | exact Or.inl rfl | exact Or.inr rfl | exact fz_X7_isIn _ _ _
def f_X7_sheet_L69 (a1 : Int32) : Nat → Int32 → sk_M → Option (sk_M)
  | 0, _, _ => none
  | n + 1, a4, M => if 24 ≤ a4 then (some M) else (sk_chk (sk_in ((24 * a1) + a4) 96) (sk_let (sk_u M 94 ((24 * a1) + a4).toNatClampNeg 0) (fun M_10 => f_X7_sheet_L69 a1 n (a4 + 1) M_10)))
def f_X7_sheet (a1 : Int32) (a2 : Int32) (a3 : Int32) (M : sk_M) : Option (Int32 × sk_M) := if (f_X7_isSheet a1) = 0 then (some ((-1000000001), M)) else (if (f_X7_isIn (a2.toInt64) (-1) 1) = 0 then (some ((-1000000001), M)) else (sk_s0 (if a2 < 0 then (some (Sum.inr ())) else (if a3 ≤ 24 then (some (Sum.inr ())) else (some (Sum.inl ((-1000000001), M))))) (fun _ => sk_s0 (if a2 < 0 then (some (Sum.inr ())) else (if 0 ≤ a3 then (some (Sum.inr ())) else (some (Sum.inl ((-1000000014), M))))) (fun _ => sk_chk (sk_in a1 4) (sk_let (sk_u M 92 a1.toNatClampNeg a2) (fun M_6 => sk_chk (sk_in a1 4) (sk_let (sk_u M_6 93 a1.toNatClampNeg (if 0 ≤ a2 then a3 else 0 : Int32)) (fun M_8 => sk_b1 (f_X7_sheet_L69 a1 sk_FU 0 M_8) (fun M_11 => sk_chk (sk_in a1 4) (some ((M_11 93 a1.toNatClampNeg), M_11)))))))))))
def f_X7_mark (a1 : Int32) (a2 : Int32) (a3 : Int32) (M : sk_M) : Option (Int32 × sk_M) := if (f_X7_isSheet a1) = 0 then (some ((-1000000001), M)) else (sk_chk (sk_in a1 4) (if 0 ≤ (M 92 a1.toNatClampNeg) then (sk_chk (sk_in a1 4) (if (f_X7_isIn (a2.toInt64) 0 ((((M 93 a1.toNatClampNeg) - 1)).toInt64)) = 0 then (some ((-1000000013), M)) else (sk_chk (sk_in a1 4) (sk_s0 (if (M 92 a1.toNatClampNeg) = 0 then (if a3 = (-1000000005) then (some (Sum.inl ((-1000000012), M))) else (some (Sum.inr ()))) else (some (Sum.inr ()))) (fun _ => sk_chk (sk_in a1 4) (sk_s0 (if (M 92 a1.toNatClampNeg) = 1 then (if a3 = (-1000000005) then (some (Sum.inr ())) else (if (f_X7_isIn (a3.toInt64) (-99999) 99999) = 0 then (some (Sum.inl ((-1000000001), M))) else (some (Sum.inr ())))) else (some (Sum.inr ()))) (fun _ => sk_chk (sk_in a1 4) (sk_chk (sk_in ((24 * a1) + a2) 96) (sk_let (sk_u M 94 ((24 * a1) + a2).toNatClampNeg (if (M 92 a1.toNatClampNeg) = 0 then ((a3 <<< (16 &&& 31)) >>> (16 &&& 31)) else a3 : Int32)) (fun M_12 => some (1, M_12))))))))))) else (some ((-1000000011), M))))
def f_X7_pour_L36 (a1 : Int32) (a2 : Int32) : Nat → Int32 → Int32 → sk_M → Option (Int32 × sk_M)
  | 0, _, _, _ => none
  | n + 1, a3, a4, M => sk_chk (sk_in a2 4) (if (M 93 a2.toNatClampNeg) ≤ a4 then (some (a3, M)) else (if (M 89 0) ≤ a4 then (some (a3, M)) else (sk_chk (sk_in ((24 * a2) + a4) 96) (sk_let (M 94 ((24 * a2) + a4).toNatClampNeg) (fun x_6 => sk_b1 (if x_6 = (-1000000005) then (sk_b1 (f_X7_on a1 a4 M) (fun x_9 => some x_9)) else (some (f_X7_within x_6 999))) (fun x_11 => sk_b2 (f_X7_becomes ((43 + (9 * a1)) + a4) x_11 M) (fun x_12 M_13 => sk_let (a3 + (if x_11 = x_12 then 0 else 1 : Int32)) (fun x_15 => f_X7_pour_L36 a1 a2 n x_15 (a4 + 1) M_13))))))))
def f_X7_pour (a1 : Int32) (a2 : Int32) (M : sk_M) : Option (Int32 × sk_M) := if (f_X7_isCloth a1 M) = 0 then (some ((-1000000001), M)) else (if (f_X7_isSheet a2) = 0 then (some ((-1000000001), M)) else (sk_chk (sk_in a2 4) (if 0 ≤ (M 92 a2.toNatClampNeg) then (sk_b2 (f_X7_pour_L36 a1 a2 sk_FU 0 0 M) (fun x_16 M_17 => some (x_16, M_17))) else (some ((-1000000011), M)))))
def f_X7_dated_L61 (a1 : Int32) (a2 : Int32) (a3 : Int32) (a4 : Int32) : Nat → Int32 → Int32 → sk_M → Option (sk_M)
  | 0, _, _, _ => none
  | n + 1, a5, a6, M => if 130 ≤ a6 then (some M) else (sk_chk (sk_in a6 130) (sk_let (sk_u M 105 a6.toNatClampNeg a5) (fun M_9 => sk_chk (sk_in (37 + a2) 3109) (sk_b2 (f_X7_losesBy a3 a5 (M_9 89 (37 + a2).toNatClampNeg) ((M_9 89 4) + a6) M_9) (fun x_11 M_12 => sk_let (a5 - x_11) (fun x_14 => f_X7_dated_L61 a1 a2 a3 a4 n x_14 (a6 + 1) M_12))))))
def f_X7_dated_L136 (a1 : Int32) (a4 : Int32) (a6 : Int32) (a7 : Int32) (a8 : Int32) (M : sk_M) : Nat → Int32 → Int32 → Option (Int32)
  | 0, _, _ => none
  | n + 1, a9, a10 => sk_chk (sk_in a1 4) (if (M 93 a1.toNatClampNeg) ≤ a10 then (some a9) else (sk_chk (sk_in ((24 * a1) + a10) 96) (sk_let (M 94 ((24 * a1) + a10).toNatClampNeg) (fun x_18 => sk_b1 (if x_18 = (-1000000005) then (some 0) else (sk_chk (sk_in (a8 + a10) 130) (some (x_18 - (M 105 (a8 + a10).toNatClampNeg))))) (fun x_21 => sk_let (a9 + (if 0 ≤ x_21 then x_21 else (-x_21) : Int32)) (fun x_22 => f_X7_dated_L136 a1 a4 a6 a7 a8 M n x_22 (a10 + 1)))))))
def f_X7_dated_L123 (a1 : Int32) (a4 : Int32) (M : sk_M) : Nat → Int32 → Int32 → Int32 → Option (Int32 × Int32)
  | 0, _, _, _ => none
  | n + 1, a6, a7, a8 => if 100 < a8 then (some (a6, a7)) else (sk_b1 (f_X7_dated_L136 a1 a4 a6 a7 a8 M sk_FU 0 0) (fun x_23 => if a6 < 0 then (f_X7_dated_L123 a1 a4 M n a8 x_23 (a8 + 1)) else (if a7 ≤ x_23 then (f_X7_dated_L123 a1 a4 M n a6 a7 (a8 + 1)) else (f_X7_dated_L123 a1 a4 M n a8 x_23 (a8 + 1)))))
def f_X7_dated (a1 : Int32) (a2 : Int32) (a3 : Int32) (a4 : Int32) (M : sk_M) : Option (Int32 × sk_M) := if (f_X7_isSheet a1) = 0 then (some ((-1000000001), M)) else (if (f_X7_isCloth a2 M) = 0 then (some ((-1000000001), M)) else (if (f_X7_isScent a3 M) = 0 then (some ((-1000000001), M)) else (if (f_X7_isIn (a4.toInt64) 0 1) = 0 then (some ((-1000000001), M)) else (sk_chk (sk_in a1 4) (if 0 ≤ (M 92 a1.toNatClampNeg) then (sk_b1 (f_X7_on a2 a3 M) (fun x_6 => sk_b1 (f_X7_dated_L61 a1 a2 a3 a4 sk_FU x_6 0 M) (fun M_15 => sk_b2 (f_X7_dated_L123 a1 a4 M_15 sk_FU (-1) 0 0) (fun x_26 x_27 => some ((if a4 = 0 then x_26 else x_27 : Int32), M_15))))) else (some ((-1000000011), M)))))))
def f_X7_copy_L113 (a1 : Int32) (a2 : Int32) (a3 : Int32) (a4 : Int32) (a5 : Int32) : Nat → Int32 → sk_M → Option (sk_M)
  | 0, _, _ => none
  | n + 1, a6, M => if a5 ≤ a6 then (some M) else (sk_chk (sk_in (((24 * a1) + a2) + a6) 96) (sk_chk (sk_in a6 24) (sk_let (sk_u M 106 a6.toNatClampNeg (M 94 (((24 * a1) + a2) + a6).toNatClampNeg)) (fun M_11 => f_X7_copy_L113 a1 a2 a3 a4 a5 n (a6 + 1) M_11))))
def f_X7_copy_L150 (a3 : Int32) (a4 : Int32) (a5 : Int32) : Nat → Int32 → sk_M → Option (sk_M)
  | 0, _, _ => none
  | n + 1, a6, M => if a5 ≤ a6 then (some M) else (sk_chk (sk_in a6 24) (sk_chk (sk_in (((24 * a3) + a4) + a6) 96) (sk_let (sk_u M 94 (((24 * a3) + a4) + a6).toNatClampNeg (M 106 a6.toNatClampNeg)) (fun M_15 => f_X7_copy_L150 a3 a4 a5 n (a6 + 1) M_15))))
def f_X7_copy (a1 : Int32) (a2 : Int32) (a3 : Int32) (a4 : Int32) (a5 : Int32) (M : sk_M) : Option (Int32 × sk_M) := if (f_X7_isSheet a1) = 0 then (some ((-1000000001), M)) else (if (f_X7_isSheet a3) = 0 then (some ((-1000000001), M)) else (sk_chk (sk_in a1 4) (if (M 92 a1.toNatClampNeg) < 0 then (some ((-1000000011), M)) else (sk_chk (sk_in a3 4) (if 0 ≤ (M 92 a3.toNatClampNeg) then (sk_chk (sk_in a1 4) (sk_chk (sk_in a3 4) (if (M 92 a1.toNatClampNeg) = (M 92 a3.toNatClampNeg) then (if a2 < 0 then (some ((-1000000013), M)) else (if a4 < 0 then (some ((-1000000013), M)) else (if a5 < 0 then (some ((-1000000013), M)) else (sk_chk (sk_in a1 4) (if 0 < (lg_cmp ((a2.toInt64) + (a5.toInt64)) (((M 93 a1.toNatClampNeg)).toInt64)) then (some ((-1000000013), M)) else (sk_chk (sk_in a3 4) (if (lg_cmp ((a4.toInt64) + (a5.toInt64)) (((M 93 a3.toNatClampNeg)).toInt64)) ≤ 0 then (sk_b1 (f_X7_copy_L113 a1 a2 a3 a4 a5 sk_FU 0 M) (fun M_12 => sk_b1 (f_X7_copy_L150 a3 a4 a5 sk_FU 0 M_12) (fun M_16 => some (a5, M_16)))) else (some ((-1000000013), M))))))))) else (some ((-1000000012), M))))) else (some ((-1000000011), M)))))))
def f_X7_isSlot (a0 : Int32) : Int32 := (f_X7_isIn (a0.toInt64) 0 4)
theorem fz_X7_isSlot (a0 : Int32) : f_X7_isSlot a0 = 0 ∨ f_X7_isSlot a0 = 1 := by
  unfold f_X7_isSlot
  repeat' split
  all_goals first | exact Or.inl rfl | exact Or.inr rfl | exact fz_X7_isIn _ _ _
def f_X7_lay_L150 (a1 : Int32) (a3 : Int32) (a5 : Int32) : Nat → Int32 → sk_M → Option (sk_M)
  | 0, _, _ => none
  | n + 1, a6, M => if 24 ≤ a6 then (some M) else (sk_chk (sk_in ((24 * a3) + a6) 96) (sk_chk (sk_in ((24 * a1) + a6) 120) (sk_let (sk_u M 99 ((24 * a1) + a6).toNatClampNeg (M 94 ((24 * a3) + a6).toNatClampNeg)) (fun M_29 => f_X7_lay_L150 a1 a3 a5 n (a6 + 1) M_29))))
def f_X7_lay (a1 : Int32) (a2 : Int32) (a3 : Int32) (M : sk_M) : Option (Int32 × sk_M) := sk_let (if a2 = 0 then 1 else (if a2 = 3 then 1 else (if a2 = 1 then (if (f_X7_isScent a3 M) = 0 then (if a2 = 2 then (if (f_X7_isSheet a3) = 0 then 0 else 1 : Int32) else 0 : Int32) else 1 : Int32) else (if a2 = 2 then (if (f_X7_isSheet a3) = 0 then 0 else 1 : Int32) else 0 : Int32) : Int32) : Int32) : Int32) (fun x_4 => if (f_X7_isSlot a1) = 0 then (some ((-1000000001), M)) else (if x_4 = 0 then (some ((-1000000001), M)) else (sk_s0 (if a2 = 2 then (sk_chk (sk_in a3 4) (if 0 ≤ (M 92 a3.toNatClampNeg) then (some (Sum.inr ())) else (some (Sum.inl ((-1000000011), M))))) else (some (Sum.inr ()))) (fun _ => sk_chk (sk_in a1 5) (sk_let (M 95 a1.toNatClampNeg) (fun x_9 => sk_chk (sk_in a1 5) (sk_let (sk_u M 95 a1.toNatClampNeg a2) (fun M_11 => sk_b1 (if a2 = 1 then (sk_b1 (f_X7_of a3 0 M_11) (fun x_13 => some x_13)) else (some a3)) (fun x_15 => sk_chk (sk_in a1 5) (sk_let (sk_u M_11 96 a1.toNatClampNeg x_15) (fun M_17 => sk_b1 (if a2 = 1 then (sk_b1 (f_X7_worth a3 M_17) (fun x_19 => some x_19)) else (some 0)) (fun x_21 => sk_chk (sk_in a1 5) (sk_let (sk_u M_17 97 a1.toNatClampNeg x_21) (fun M_23 => if a2 = 2 then (sk_chk (sk_in a3 4) (sk_chk (sk_in a1 5) (sk_let (sk_u M_23 98 a1.toNatClampNeg (M_23 93 a3.toNatClampNeg)) (fun M_26 => sk_b1 (f_X7_lay_L150 a1 a3 x_9 sk_FU 0 M_26) (fun M_30 => some (x_9, M_30)))))) else (some (x_9, M_23))))))))))))))))
def f_X7_ask (a1 : Int32) (a2 : Int32) (M : sk_M) : Option Int32 := if (f_X7_isSlot a1) = 0 then (some (-1000000001)) else (if (f_X7_isIn (a2.toInt64) 0 5) = 0 then (some (-1000000001)) else (sk_chk (sk_in a1 5) (if (M 95 a1.toNatClampNeg) = 0 then (some (-1000000011)) else (sk_chk (sk_in a1 5) (if (M 95 a1.toNatClampNeg) = 1 then (sk_chk (sk_in a1 5) (if (f_X7_isOf (M 96 a1.toNatClampNeg) a2) = 0 then (some (-1000000012)) else (sk_chk (sk_in a1 5) (some (M 97 a1.toNatClampNeg))))) else (some (-1000000012)))))))
def f_X7_item (a1 : Int32) (a2 : Int32) (M : sk_M) : Option Int32 := if (f_X7_isSlot a1) = 0 then (some (-1000000001)) else (sk_chk (sk_in a1 5) (if (M 95 a1.toNatClampNeg) = 2 then (sk_chk (sk_in a1 5) (if (f_X7_isIn (a2.toInt64) 0 ((((M 98 a1.toNatClampNeg) - 1)).toInt64)) = 0 then (some (-1000000013)) else (sk_chk (sk_in ((24 * a1) + a2) 120) (sk_let (M 99 ((24 * a1) + a2).toNatClampNeg) (fun x_6 => some (if x_6 = (-1000000005) then (-1000000012) else x_6 : Int32)))))) else (sk_chk (sk_in a1 5) (some (if (M 95 a1.toNatClampNeg) = 0 then (-1000000011) else (-1000000012) : Int32)))))
def f_X7_rest (a1 : Int32) (a2 : Int32) (M : sk_M) : Option Int32 := if (f_X7_isSlot a1) = 0 then (some (-1000000001)) else (sk_chk (sk_in a1 5) (if (M 95 a1.toNatClampNeg) = 3 then (if a2 = 0 then (some (-1000000002)) else (sk_chk (sk_in a1 5) (sk_chk (decide (¬ a2 = 0)) (some ((M 96 a1.toNatClampNeg) - (M 96 a1.toNatClampNeg) / a2 * a2))))) else (sk_chk (sk_in a1 5) (some (if (M 95 a1.toNatClampNeg) = 0 then (-1000000011) else (-1000000012) : Int32)))))
def f_X7_tell (a1 : Int32) (M : sk_M) : Option (Int32 × sk_M) := if (M 88 31) = 60 then (some ((-1000000003), M)) else (sk_chk (sk_in (M 88 31) 60) (sk_let (sk_u M 107 (M 88 31).toNatClampNeg a1) (fun M_2 => sk_let (sk_u M_2 88 31 ((M_2 88 31) + 1)) (fun M_3 => some ((M_3 88 31), M_3)))))
def f_X7_setAside_L2 (o1 : Nat) (o2 : Nat) : Nat → Int32 → sk_M → Option (sk_M)
  | 0, _, _ => none
  | n + 1, a3, M => if 2909 ≤ a3 then (some M) else (sk_chk (sk_in a3 3109) (sk_chk (sk_in a3 3109) (sk_let (sk_u M o2 a3.toNatClampNeg (M o1 a3.toNatClampNeg)) (fun M_3 => f_X7_setAside_L2 o1 o2 n (a3 + 1) M_3))))
def f_X7_setAside (o1 : Nat) (o2 : Nat) (M : sk_M) : Option sk_M := sk_b1 (f_X7_setAside_L2 o1 o2 sk_FU 0 M) (fun M_4 => some M_4)
def f_X7_check_L87 (a1 : Int32) (a2 : Int32) (a3 : Int32) : Nat → Int32 → Int32 → sk_M → Option (Int32 × sk_M)
  | 0, _, _, _ => none
  | n + 1, a4, a5, M => if a2 ≤ a5 then (some (a4, M)) else (if 9999 ≤ (M 89 4) then (some (a4, M)) else (sk_b1 (f_X7_goesOn M) (fun M_9 => sk_b1 (f_X7_saidOr a1 M_9) (fun x_11 => sk_chk (sk_in a4 60) (sk_let (sk_u M_9 108 a4.toNatClampNeg x_11) (fun M_14 => sk_b1 (f_X7_allOn a1 M_14) (fun x_15 => sk_chk (sk_in (a4 + 1) 60) (sk_let (sk_u M_14 108 (a4 + 1).toNatClampNeg x_15) (fun M_18 => f_X7_check_L87 a1 a2 a3 n (a4 + 2) (a5 + 1) M_18)))))))))
def f_X7_check_L159 (a3 : Int32) (a4 : Int32) (M : sk_M) : Nat → Int32 → Option (Int32)
  | 0, _ => none
  | n + 1, a5 => if a3 ≤ a5 then (some a5) else (if a4 ≤ a5 then (some a5) else (sk_chk (sk_in a5 60) (sk_chk (sk_in a5 60) (if (M 107 a5.toNatClampNeg) = (M 108 a5.toNatClampNeg) then (f_X7_check_L159 a3 a4 M n (a5 + 1)) else (some a5)))))
def f_X7_check (a1 : Int32) (a2 : Int32) (M : sk_M) : Option (Int32 × sk_M) := sk_let (M 88 31) (fun x_1 => sk_let (sk_u M 88 31 0) (fun M_2 => if (f_X7_isIn (a2.toInt64) 1 30) = 0 then (some ((-1000000001), M_2)) else (if (f_X7_isIn (a1.toInt64) 0 5) = 0 then (some ((-1000000001), M_2)) else (if (M_2 88 3) = 0 then (some ((-1000000002), M_2)) else (if a1 < (M_2 90 1) then (sk_b1 (f_X7_setAside 89 91 M_2) (fun M_5 => sk_b1 (f_X7_setAside 90 89 M_5) (fun M_7 => sk_b2 (f_X7_check_L87 a1 a2 x_1 sk_FU 0 0 M_7) (fun x_19 M_20 => sk_b1 (f_X7_setAside 91 89 M_20) (fun M_21 => sk_b1 (f_X7_check_L159 x_1 x_19 M_21 sk_FU 0) (fun x_25 => some ((if x_25 = x_1 then (if x_25 = x_19 then 0 else (1 + x_25) : Int32) else (1 + x_25) : Int32), M_21))))))) else (some ((-1000000002), M_2)))))))
def f_X7_keep (M : sk_M) : Option (Int32 × sk_M) := sk_let (sk_u M 88 3 1) (fun M_1 => sk_b1 (f_X7_setAside 89 90 M_1) (fun M_2 => some ((M_2 89 1), M_2)))
def f_X7_back (M : sk_M) : Option (Int32 × sk_M) := if (M 88 3) = 0 then (some ((-1000000002), M)) else (sk_b1 (f_X7_setAside 90 89 M) (fun M_1 => some ((M_1 89 1), M_1)))
def f_X7_allStrengths_L4 (M : sk_M) : Nat → Int32 → Int32 → Option (Int32)
  | 0, _, _ => none
  | n + 1, a1, a2 => if (M 89 1) ≤ a2 then (some a1) else (sk_b1 (f_X7_allOn a2 M) (fun x_1 => sk_let (a1 + x_1) (fun x_3 => f_X7_allStrengths_L4 M n x_3 (a2 + 1))))
def f_X7_allStrengths (M : sk_M) : Option Int32 := sk_b1 (f_X7_allStrengths_L4 M sk_FU 0 0) (fun x_4 => some x_4)
def f_X7_count (a1 : Int32) (M : sk_M) : Option Int32 := if a1 = 0 then (some (M 89 0)) else (if a1 = 1 then (some (M 89 1)) else (if a1 = 2 then (some (M 89 2)) else (if a1 = 3 then (some (M 89 4)) else (if a1 = 4 then (sk_b1 (f_X7_allStrengths M) (fun x_5 => some x_5)) else (if a1 = 5 then (some (M 89 3)) else (if a1 = 6 then (some (M 88 31)) else (if a1 = 7 then (some (M 88 15)) else (if a1 = 8 then (some (M 89 5)) else (some (-1000000001))))))))))
end
section
theorem dX0_takeBytes_0 : decode cX0_takeBytes 0 = .ok (.bipush 24, 2) := by decide +kernel
theorem dX0_takeBytes_2 : decode cX0_takeBytes 2 = .ok (.istore_n 2, 1) := by decide +kernel
theorem dX0_takeBytes_3 : decode cX0_takeBytes 3 = .ok (.iload_n 2, 1) := by decide +kernel
theorem dX0_takeBytes_4 : decode cX0_takeBytes 4 = .ok (.ifCond .lt 44, 3) := by decide +kernel
theorem dX0_takeBytes_7 : decode cX0_takeBytes 7 = .ok (.aload_n 0, 1) := by decide +kernel
theorem dX0_takeBytes_8 : decode cX0_takeBytes 8 = .ok (.getfield 18, 3) := by decide +kernel
theorem dX0_takeBytes_11 : decode cX0_takeBytes 11 = .ok (.bipush 96, 2) := by decide +kernel
theorem dX0_takeBytes_13 : decode cX0_takeBytes 13 = .ok (.if_icmp .ge 35, 3) := by decide +kernel
theorem dX0_takeBytes_16 : decode cX0_takeBytes 16 = .ok (.aload_n 0, 1) := by decide +kernel
theorem dX0_takeBytes_17 : decode cX0_takeBytes 17 = .ok (.getfield 9, 3) := by decide +kernel
theorem dX0_takeBytes_20 : decode cX0_takeBytes 20 = .ok (.aload_n 0, 1) := by decide +kernel
theorem dX0_takeBytes_21 : decode cX0_takeBytes 21 = .ok (.getfield 18, 3) := by decide +kernel
theorem dX0_takeBytes_24 : decode cX0_takeBytes 24 = .ok (.iload_n 1, 1) := by decide +kernel
theorem dX0_takeBytes_25 : decode cX0_takeBytes 25 = .ok (.iload_n 2, 1) := by decide +kernel
theorem dX0_takeBytes_26 : decode cX0_takeBytes 26 = .ok (.iushr, 1) := by decide +kernel
theorem dX0_takeBytes_27 : decode cX0_takeBytes 27 = .ok (.sipush 255, 3) := by decide +kernel
theorem dX0_takeBytes_30 : decode cX0_takeBytes 30 = .ok (.iand, 1) := by decide +kernel
theorem dX0_takeBytes_31 : decode cX0_takeBytes 31 = .ok (.iastore, 1) := by decide +kernel
theorem dX0_takeBytes_32 : decode cX0_takeBytes 32 = .ok (.aload_n 0, 1) := by decide +kernel
theorem dX0_takeBytes_33 : decode cX0_takeBytes 33 = .ok (.dup, 1) := by decide +kernel
theorem dX0_takeBytes_34 : decode cX0_takeBytes 34 = .ok (.getfield 18, 3) := by decide +kernel
theorem dX0_takeBytes_37 : decode cX0_takeBytes 37 = .ok (.iconst 1, 1) := by decide +kernel
theorem dX0_takeBytes_38 : decode cX0_takeBytes 38 = .ok (.iadd, 1) := by decide +kernel
theorem dX0_takeBytes_39 : decode cX0_takeBytes 39 = .ok (.putfield 18, 3) := by decide +kernel
theorem dX0_takeBytes_42 : decode cX0_takeBytes 42 = .ok (.iinc 2 (-8), 3) := by decide +kernel
theorem dX0_takeBytes_45 : decode cX0_takeBytes 45 = .ok (.goto (-42), 3) := by decide +kernel
theorem dX0_takeBytes_48 : decode cX0_takeBytes 48 = .ok (.return_, 1) := by decide +kernel
set_option maxHeartbeats 4000000 in
set_option maxRecDepth 100000 in
theorem w_X0_takeBytes_L3 {g : sk_G} {l : Launch} {p : Program} {e : Env} {s : State} {m : MethodId} {av : Array Value} {below : List Frame} {meth : Method} {c : Code} (C : sk_C g p s m av meth c cX0_takeBytes 3 RX0 none) (a1 : Int32) {MM : sk_M} :
    ∀ (n : Nat) (a2 : Int32) (M : sk_M) (H : Heap) (locs : List Loc) (ls : Array Slot), lv_has ls 3 [(0, .ref (sk_ad g 62)), (1, .int a1), (2, .int a2)] → sk_P g M H → va_S (sk_A g) s.heap H locs → ∀ {out : sk_M}, f_X0_takeBytes_L3 a1 n a2 M = some out → (∀ (M1 : sk_M) (H : Heap) (locs : List Loc) (ls : Array Slot), some M1 = some out → lv_has ls 3 [] → sk_P g M1 H → va_S (sk_A g) s.heap H locs → W p l e (sk_rm 1) s m av below meth c H locs 0 0 (MQ below (sk_QV g MM) av s 0 0 (sk_A g)) (F0 m 48 ls [])) → W p l e (sk_rm 1) s m av below meth c H locs 0 0 (MQ below (sk_QV g MM) av s 0 0 (sk_A g)) (F0 m 3 ls []) := by
  obtain ⟨hx, hb, hml, hown, hts, hK, hE, hr, hlocks⟩ := id C
  intro n
  induction n with
  | zero =>
    intro a2 M H locs ls hl hM hS out h
    cases h
  | succ n ih =>
    intro a2 M H locs ls hl hM hS out h kx
    rw [f_X0_takeBytes_L3] at h
    refine lv_iload_n hx hb dX0_takeBytes_3 rfl (lv_at hl 2 rfl) ?_
    refine lv_if_lt hx hb dX0_takeBytes_4 rfl (fun hc => ?_) (fun hc => ?_)
    · have h := sk_pos h hc
      exact kx _ _ _ _ h (lv_sub hl [] rfl) hM hS
    · have h := sk_neg h hc
      refine lv_aload_n hx hb dX0_takeBytes_7 rfl (lv_at hl 0 rfl) ?_
      refine sk_getI (o := 62) (ci := 0) (j := 2) C hM rfl rfl (by decide) rfl kw_123 dX0_takeBytes_8 ?_
      refine lv_bipush (v := 96) hx hb dX0_takeBytes_11 (by decide) ?_
      refine lv_icmp_ge hx hb dX0_takeBytes_13 rfl (fun hc => ?_) (fun hc => ?_)
      · have h := sk_pos h hc
        exact kx _ _ _ _ h (lv_sub hl [] rfl) hM hS
      · have h := sk_neg h hc
        refine lv_aload_n hx hb dX0_takeBytes_16 rfl (lv_at hl 0 rfl) ?_
        refine sk_getR (o := 62) (ci := 0) (j := 0) (t := 63) C hM rfl rfl (by decide) rfl rfl kw_120 dX0_takeBytes_17 ?_
        refine lv_aload_n hx hb dX0_takeBytes_20 rfl (lv_at hl 0 rfl) ?_
        refine sk_getI (o := 62) (ci := 0) (j := 2) C hM rfl rfl (by decide) rfl kw_123 dX0_takeBytes_21 ?_
        refine lv_iload_n hx hb dX0_takeBytes_24 rfl (lv_at hl 1 rfl) ?_
        refine lv_iload_n hx hb dX0_takeBytes_25 rfl (lv_at hl 2 rfl) ?_
        refine lv_iushr (v := (sk_ushr a1 a2)) hx hb dX0_takeBytes_26 rfl ?_
        refine lv_sipush (v := 255) hx hb dX0_takeBytes_27 (by decide) ?_
        refine lv_iand hx hb dX0_takeBytes_30 ?_
        obtain ⟨i_1, h⟩ := sk_chkE h
        refine sk_iast (o := 63) C hM hS rfl i_1 dX0_takeBytes_31 (fun M_2 eM_2 H locs hM hS => ?_)
        have h := sk_letU h eM_2
        refine lv_aload_n hx hb dX0_takeBytes_32 rfl (lv_at hl 0 rfl) ?_
        refine lv_dup hx hb dX0_takeBytes_33 rfl ?_
        refine sk_getI (o := 62) (ci := 0) (j := 2) C hM rfl rfl (by decide) rfl kw_123 dX0_takeBytes_34 ?_
        refine lv_iconst (v := 1) hx hb dX0_takeBytes_37 (by decide) ?_
        refine lv_iadd hx hb dX0_takeBytes_38 ?_
        refine sk_putI (o := 62) (ci := 0) (j := 2) C hM hS rfl rfl (by decide) rfl rfl (tyX0_ok 2 (by decide)) kw_123 dX0_takeBytes_39 (fun M_3 eM_3 H locs hM hS => ?_)
        have h := sk_letU h eM_3
        refine lv_iinc (v := (a2 + (-8))) (lv' := [(2, .int (a2 + (-8))), (0, .ref (sk_ad g 62)), (1, .int a1)]) hx hb dX0_takeBytes_42 hl (k := 2) rfl rfl (by decide) rfl (fun ls hl => ?_)
        refine lv_goto hx hb dX0_takeBytes_45 rfl ?_
        exact ih (a2 + (-8)) M_3 _ _ _ (lv_sub hl [1, 2, 0] rfl) hM hS h kx
set_option maxHeartbeats 4000000 in
set_option maxRecDepth 100000 in
theorem c_X0_takeBytes (g : sk_G) (l : Launch) (a1 : Int32) (M : sk_M) {MM : sk_M} (h : f_X0_takeBytes a1 M = some MM) : sk_MV g l yX0_takeBytes cX0_takeBytes 3 none 1 [.ref (sk_ad g 62), .int a1] M MM := by
  refine sk_go [(0, .ref (sk_ad g 62)), (1, .int a1)] (by decide) (Nat.le_of_ble_eq_true rfl) rfl ?_
  intro p e s m av below meth c C ls hl hM hS
  obtain ⟨hx, hb, hml, hown, hts, hK, hE, hr, hlocks⟩ := id C
  rw [f_X0_takeBytes] at h
  refine lv_bipush (v := 24) hx hb dX0_takeBytes_0 (by decide) ?_
  refine lv_istore_n (lv' := [(2, .int 24), (0, .ref (sk_ad g 62)), (1, .int a1)]) hx hb dX0_takeBytes_2 rfl hl (by decide) rfl (fun ls hl => ?_)
  obtain ⟨M_4, h_5, h⟩ := sk_b1E h
  refine w_X0_takeBytes_L3 C a1 sk_FU 24 M _ _ _ (lv_sub hl [1, 2, 0] rfl) hM hS h_5 (fun y_6 H locs ls he hl hM hS => ?_)
  obtain rfl := Option.some.inj he
  exact sk_vret C hM hS (Option.some.inj h) dX0_takeBytes_48
theorem dX0_isLetter_0 : decode cX0_isLetter 0 = .ok (.iload_n 0, 1) := by decide +kernel
theorem dX0_isLetter_1 : decode cX0_isLetter 1 = .ok (.bipush 97, 2) := by decide +kernel
theorem dX0_isLetter_3 : decode cX0_isLetter 3 = .ok (.if_icmp .lt 13, 3) := by decide +kernel
theorem dX0_isLetter_6 : decode cX0_isLetter 6 = .ok (.iload_n 0, 1) := by decide +kernel
theorem dX0_isLetter_7 : decode cX0_isLetter 7 = .ok (.bipush 122, 2) := by decide +kernel
theorem dX0_isLetter_9 : decode cX0_isLetter 9 = .ok (.if_icmp .gt 7, 3) := by decide +kernel
theorem dX0_isLetter_12 : decode cX0_isLetter 12 = .ok (.iconst 1, 1) := by decide +kernel
theorem dX0_isLetter_13 : decode cX0_isLetter 13 = .ok (.goto 4, 3) := by decide +kernel
theorem dX0_isLetter_16 : decode cX0_isLetter 16 = .ok (.iconst 0, 1) := by decide +kernel
theorem dX0_isLetter_17 : decode cX0_isLetter 17 = .ok (.ireturn, 1) := by decide +kernel
set_option maxHeartbeats 4000000 in
set_option maxRecDepth 100000 in
theorem c_X0_isLetter (g : sk_G) (l : Launch) (a0 : Int32) (M : sk_M) {rr : Int32} (h : f_X0_isLetter a0 = rr) : sk_MI g l yX0_isLetter cX0_isLetter 1 (some .boolean) 1 [.int a0] M rr M := by
  refine sk_go [(0, .int a0)] (by decide) (Nat.le_of_ble_eq_true rfl) rfl ?_
  intro p e s m av below meth c C ls hl hM hS
  obtain ⟨hx, hb, hml, hown, hts, hK, hE, hr, hlocks⟩ := id C
  rw [f_X0_isLetter] at h
  refine lv_iload_n hx hb dX0_isLetter_0 rfl (lv_at hl 0 rfl) ?_
  refine lv_bipush (v := 97) hx hb dX0_isLetter_1 (by decide) ?_
  have J : ∀ (vv : Int32) (H : Heap) (locs : List Loc), (if a0 < 97 then 0 else (if 122 < a0 then 0 else 1 : Int32) : Int32) = vv → sk_P g M H → va_S (sk_A g) s.heap H locs → W p l e (sk_rm 1) s m av below meth c H locs 0 0 (MQ below (sk_QI g rr M) av s 0 0 (sk_A g)) (F0 m 17 ls [.int vv]) := by
    intro vv H locs hvv hM hS
    subst hvv
    exact sk_zret C hM hS (sk_nz (sk_zi (Or.inl rfl) (sk_zi (Or.inl rfl) (Or.inr rfl)))) ⟨h, rfl⟩ dX0_isLetter_17
  refine lv_icmp_lt hx hb dX0_isLetter_3 rfl (fun hc => ?_) (fun hc => ?_)
  · have J := fun vv H locs q => J vv H locs ((if_pos hc).trans q)
    refine lv_iconst (v := 0) hx hb dX0_isLetter_16 (by decide) ?_
    exact J _ _ _ rfl hM hS
  · have J := fun vv H locs q => J vv H locs ((if_neg hc).trans q)
    refine lv_iload_n hx hb dX0_isLetter_6 rfl (lv_at hl 0 rfl) ?_
    refine lv_bipush (v := 122) hx hb dX0_isLetter_7 (by decide) ?_
    refine lv_icmp_gt hx hb dX0_isLetter_9 rfl (fun hc => ?_) (fun hc => ?_)
    · have J := fun vv H locs q => J vv H locs ((if_pos hc).trans q)
      refine lv_iconst (v := 0) hx hb dX0_isLetter_16 (by decide) ?_
      exact J _ _ _ rfl hM hS
    · have J := fun vv H locs q => J vv H locs ((if_neg hc).trans q)
      refine lv_iconst (v := 1) hx hb dX0_isLetter_12 (by decide) ?_
      refine lv_goto hx hb dX0_isLetter_13 rfl ?_
      exact J _ _ _ rfl hM hS
theorem dX0_isDigit_0 : decode cX0_isDigit 0 = .ok (.iload_n 0, 1) := by decide +kernel
theorem dX0_isDigit_1 : decode cX0_isDigit 1 = .ok (.bipush 48, 2) := by decide +kernel
theorem dX0_isDigit_3 : decode cX0_isDigit 3 = .ok (.if_icmp .lt 13, 3) := by decide +kernel
theorem dX0_isDigit_6 : decode cX0_isDigit 6 = .ok (.iload_n 0, 1) := by decide +kernel
theorem dX0_isDigit_7 : decode cX0_isDigit 7 = .ok (.bipush 57, 2) := by decide +kernel
theorem dX0_isDigit_9 : decode cX0_isDigit 9 = .ok (.if_icmp .gt 7, 3) := by decide +kernel
theorem dX0_isDigit_12 : decode cX0_isDigit 12 = .ok (.iconst 1, 1) := by decide +kernel
theorem dX0_isDigit_13 : decode cX0_isDigit 13 = .ok (.goto 4, 3) := by decide +kernel
theorem dX0_isDigit_16 : decode cX0_isDigit 16 = .ok (.iconst 0, 1) := by decide +kernel
theorem dX0_isDigit_17 : decode cX0_isDigit 17 = .ok (.ireturn, 1) := by decide +kernel
set_option maxHeartbeats 4000000 in
set_option maxRecDepth 100000 in
theorem c_X0_isDigit (g : sk_G) (l : Launch) (a0 : Int32) (M : sk_M) {rr : Int32} (h : f_X0_isDigit a0 = rr) : sk_MI g l yX0_isDigit cX0_isDigit 1 (some .boolean) 1 [.int a0] M rr M := by
  refine sk_go [(0, .int a0)] (by decide) (Nat.le_of_ble_eq_true rfl) rfl ?_
  intro p e s m av below meth c C ls hl hM hS
  obtain ⟨hx, hb, hml, hown, hts, hK, hE, hr, hlocks⟩ := id C
  rw [f_X0_isDigit] at h
  refine lv_iload_n hx hb dX0_isDigit_0 rfl (lv_at hl 0 rfl) ?_
  refine lv_bipush (v := 48) hx hb dX0_isDigit_1 (by decide) ?_
  have J : ∀ (vv : Int32) (H : Heap) (locs : List Loc), (if a0 < 48 then 0 else (if 57 < a0 then 0 else 1 : Int32) : Int32) = vv → sk_P g M H → va_S (sk_A g) s.heap H locs → W p l e (sk_rm 1) s m av below meth c H locs 0 0 (MQ below (sk_QI g rr M) av s 0 0 (sk_A g)) (F0 m 17 ls [.int vv]) := by
    intro vv H locs hvv hM hS
    subst hvv
    exact sk_zret C hM hS (sk_nz (sk_zi (Or.inl rfl) (sk_zi (Or.inl rfl) (Or.inr rfl)))) ⟨h, rfl⟩ dX0_isDigit_17
  refine lv_icmp_lt hx hb dX0_isDigit_3 rfl (fun hc => ?_) (fun hc => ?_)
  · have J := fun vv H locs q => J vv H locs ((if_pos hc).trans q)
    refine lv_iconst (v := 0) hx hb dX0_isDigit_16 (by decide) ?_
    exact J _ _ _ rfl hM hS
  · have J := fun vv H locs q => J vv H locs ((if_neg hc).trans q)
    refine lv_iload_n hx hb dX0_isDigit_6 rfl (lv_at hl 0 rfl) ?_
    refine lv_bipush (v := 57) hx hb dX0_isDigit_7 (by decide) ?_
    refine lv_icmp_gt hx hb dX0_isDigit_9 rfl (fun hc => ?_) (fun hc => ?_)
    · have J := fun vv H locs q => J vv H locs ((if_pos hc).trans q)
      refine lv_iconst (v := 0) hx hb dX0_isDigit_16 (by decide) ?_
      exact J _ _ _ rfl hM hS
    · have J := fun vv H locs q => J vv H locs ((if_neg hc).trans q)
      refine lv_iconst (v := 1) hx hb dX0_isDigit_12 (by decide) ?_
      refine lv_goto hx hb dX0_isDigit_13 rfl ?_
      exact J _ _ _ rfl hM hS
theorem dX0_fail_0 : decode cX0_fail 0 = .ok (.aload_n 0, 1) := by decide +kernel
theorem dX0_fail_1 : decode cX0_fail 1 = .ok (.getfield 22, 3) := by decide +kernel
theorem dX0_fail_4 : decode cX0_fail 4 = .ok (.ifCond .ge 11, 3) := by decide +kernel
theorem dX0_fail_7 : decode cX0_fail 7 = .ok (.aload_n 0, 1) := by decide +kernel
theorem dX0_fail_8 : decode cX0_fail 8 = .ok (.aload_n 0, 1) := by decide +kernel
theorem dX0_fail_9 : decode cX0_fail 9 = .ok (.getfield 51, 3) := by decide +kernel
theorem dX0_fail_12 : decode cX0_fail 12 = .ok (.putfield 22, 3) := by decide +kernel
theorem dX0_fail_15 : decode cX0_fail 15 = .ok (.return_, 1) := by decide +kernel
set_option maxHeartbeats 4000000 in
set_option maxRecDepth 100000 in
theorem c_X0_fail (g : sk_G) (l : Launch)  (M : sk_M) {MM : sk_M} (h : f_X0_fail M = some MM) : sk_MV g l yX0_fail cX0_fail 1 none 1 [.ref (sk_ad g 62)] M MM := by
  refine sk_go [(0, .ref (sk_ad g 62))] (by decide) (Nat.le_of_ble_eq_true rfl) rfl ?_
  intro p e s m av below meth c C ls hl hM hS
  obtain ⟨hx, hb, hml, hown, hts, hK, hE, hr, hlocks⟩ := id C
  rw [f_X0_fail] at h
  refine lv_aload_n hx hb dX0_fail_0 rfl (lv_at hl 0 rfl) ?_
  refine sk_getI (o := 62) (ci := 0) (j := 5) C hM rfl rfl (by decide) rfl kw_127 dX0_fail_1 ?_
  refine lv_if_ge hx hb dX0_fail_4 rfl (fun hc => ?_) (fun hc => ?_)
  · have h := sk_pos h hc
    exact sk_vret C hM hS (Option.some.inj h) dX0_fail_15
  · have h := sk_neg h hc
    refine lv_aload_n hx hb dX0_fail_7 rfl (lv_at hl 0 rfl) ?_
    refine lv_aload_n hx hb dX0_fail_8 rfl (lv_at hl 0 rfl) ?_
    refine sk_getI (o := 62) (ci := 0) (j := 3) C hM rfl rfl (by decide) rfl kw_125 dX0_fail_9 ?_
    refine sk_putI (o := 62) (ci := 0) (j := 5) C hM hS rfl rfl (by decide) rfl rfl (tyX0_ok 5 (by decide)) kw_127 dX0_fail_12 (fun M_1 eM_1 H locs hM hS => ?_)
    have h := sk_letU h eM_1
    exact sk_vret C hM hS (Option.some.inj h) dX0_fail_15
theorem dX0_moveOn_0 : decode cX0_moveOn 0 = .ok (.aload_n 0, 1) := by decide +kernel
theorem dX0_moveOn_1 : decode cX0_moveOn 1 = .ok (.aload_n 0, 1) := by decide +kernel
theorem dX0_moveOn_2 : decode cX0_moveOn 2 = .ok (.getfield 25, 3) := by decide +kernel
theorem dX0_moveOn_5 : decode cX0_moveOn 5 = .ok (.putfield 51, 3) := by decide +kernel
theorem dX0_moveOn_8 : decode cX0_moveOn 8 = .ok (.aload_n 0, 1) := by decide +kernel
theorem dX0_moveOn_9 : decode cX0_moveOn 9 = .ok (.getfield 51, 3) := by decide +kernel
theorem dX0_moveOn_12 : decode cX0_moveOn 12 = .ok (.aload_n 0, 1) := by decide +kernel
theorem dX0_moveOn_13 : decode cX0_moveOn 13 = .ok (.getfield 18, 3) := by decide +kernel
theorem dX0_moveOn_16 : decode cX0_moveOn 16 = .ok (.if_icmp .ge 30, 3) := by decide +kernel
theorem dX0_moveOn_19 : decode cX0_moveOn 19 = .ok (.aload_n 0, 1) := by decide +kernel
theorem dX0_moveOn_20 : decode cX0_moveOn 20 = .ok (.getfield 9, 3) := by decide +kernel
theorem dX0_moveOn_23 : decode cX0_moveOn 23 = .ok (.aload_n 0, 1) := by decide +kernel
theorem dX0_moveOn_24 : decode cX0_moveOn 24 = .ok (.getfield 51, 3) := by decide +kernel
theorem dX0_moveOn_27 : decode cX0_moveOn 27 = .ok (.iaload, 1) := by decide +kernel
theorem dX0_moveOn_28 : decode cX0_moveOn 28 = .ok (.bipush 32, 2) := by decide +kernel
theorem dX0_moveOn_30 : decode cX0_moveOn 30 = .ok (.if_icmp .ne 16, 3) := by decide +kernel
theorem dX0_moveOn_33 : decode cX0_moveOn 33 = .ok (.aload_n 0, 1) := by decide +kernel
theorem dX0_moveOn_34 : decode cX0_moveOn 34 = .ok (.dup, 1) := by decide +kernel
theorem dX0_moveOn_35 : decode cX0_moveOn 35 = .ok (.getfield 51, 3) := by decide +kernel
theorem dX0_moveOn_38 : decode cX0_moveOn 38 = .ok (.iconst 1, 1) := by decide +kernel
theorem dX0_moveOn_39 : decode cX0_moveOn 39 = .ok (.iadd, 1) := by decide +kernel
theorem dX0_moveOn_40 : decode cX0_moveOn 40 = .ok (.putfield 51, 3) := by decide +kernel
theorem dX0_moveOn_43 : decode cX0_moveOn 43 = .ok (.goto (-35), 3) := by decide +kernel
theorem dX0_moveOn_46 : decode cX0_moveOn 46 = .ok (.aload_n 0, 1) := by decide +kernel
theorem dX0_moveOn_47 : decode cX0_moveOn 47 = .ok (.aload_n 0, 1) := by decide +kernel
theorem dX0_moveOn_48 : decode cX0_moveOn 48 = .ok (.getfield 51, 3) := by decide +kernel
theorem dX0_moveOn_51 : decode cX0_moveOn 51 = .ok (.putfield 25, 3) := by decide +kernel
theorem dX0_moveOn_54 : decode cX0_moveOn 54 = .ok (.aload_n 0, 1) := by decide +kernel
theorem dX0_moveOn_55 : decode cX0_moveOn 55 = .ok (.getfield 25, 3) := by decide +kernel
theorem dX0_moveOn_58 : decode cX0_moveOn 58 = .ok (.aload_n 0, 1) := by decide +kernel
theorem dX0_moveOn_59 : decode cX0_moveOn 59 = .ok (.getfield 18, 3) := by decide +kernel
theorem dX0_moveOn_62 : decode cX0_moveOn 62 = .ok (.if_icmp .ge 46, 3) := by decide +kernel
theorem dX0_moveOn_65 : decode cX0_moveOn 65 = .ok (.aload_n 0, 1) := by decide +kernel
theorem dX0_moveOn_66 : decode cX0_moveOn 66 = .ok (.getfield 9, 3) := by decide +kernel
theorem dX0_moveOn_69 : decode cX0_moveOn 69 = .ok (.aload_n 0, 1) := by decide +kernel
theorem dX0_moveOn_70 : decode cX0_moveOn 70 = .ok (.getfield 51, 3) := by decide +kernel
theorem dX0_moveOn_73 : decode cX0_moveOn 73 = .ok (.iaload, 1) := by decide +kernel
theorem dX0_moveOn_74 : decode cX0_moveOn 74 = .ok (.invokestatic 54, 3) := by decide +kernel
theorem dX0_moveOn_77 : decode cX0_moveOn 77 = .ok (.ifCond .eq 31, 3) := by decide +kernel
theorem dX0_moveOn_80 : decode cX0_moveOn 80 = .ok (.aload_n 0, 1) := by decide +kernel
theorem dX0_moveOn_81 : decode cX0_moveOn 81 = .ok (.getfield 9, 3) := by decide +kernel
theorem dX0_moveOn_84 : decode cX0_moveOn 84 = .ok (.aload_n 0, 1) := by decide +kernel
theorem dX0_moveOn_85 : decode cX0_moveOn 85 = .ok (.getfield 25, 3) := by decide +kernel
theorem dX0_moveOn_88 : decode cX0_moveOn 88 = .ok (.iaload, 1) := by decide +kernel
theorem dX0_moveOn_89 : decode cX0_moveOn 89 = .ok (.invokestatic 54, 3) := by decide +kernel
theorem dX0_moveOn_92 : decode cX0_moveOn 92 = .ok (.ifCond .eq 16, 3) := by decide +kernel
theorem dX0_moveOn_95 : decode cX0_moveOn 95 = .ok (.aload_n 0, 1) := by decide +kernel
theorem dX0_moveOn_96 : decode cX0_moveOn 96 = .ok (.dup, 1) := by decide +kernel
theorem dX0_moveOn_97 : decode cX0_moveOn 97 = .ok (.getfield 25, 3) := by decide +kernel
theorem dX0_moveOn_100 : decode cX0_moveOn 100 = .ok (.iconst 1, 1) := by decide +kernel
theorem dX0_moveOn_101 : decode cX0_moveOn 101 = .ok (.iadd, 1) := by decide +kernel
theorem dX0_moveOn_102 : decode cX0_moveOn 102 = .ok (.putfield 25, 3) := by decide +kernel
theorem dX0_moveOn_105 : decode cX0_moveOn 105 = .ok (.goto (-51), 3) := by decide +kernel
theorem dX0_moveOn_108 : decode cX0_moveOn 108 = .ok (.aload_n 0, 1) := by decide +kernel
theorem dX0_moveOn_109 : decode cX0_moveOn 109 = .ok (.getfield 25, 3) := by decide +kernel
theorem dX0_moveOn_112 : decode cX0_moveOn 112 = .ok (.aload_n 0, 1) := by decide +kernel
theorem dX0_moveOn_113 : decode cX0_moveOn 113 = .ok (.getfield 18, 3) := by decide +kernel
theorem dX0_moveOn_116 : decode cX0_moveOn 116 = .ok (.if_icmp .ge 46, 3) := by decide +kernel
theorem dX0_moveOn_119 : decode cX0_moveOn 119 = .ok (.aload_n 0, 1) := by decide +kernel
theorem dX0_moveOn_120 : decode cX0_moveOn 120 = .ok (.getfield 9, 3) := by decide +kernel
theorem dX0_moveOn_123 : decode cX0_moveOn 123 = .ok (.aload_n 0, 1) := by decide +kernel
theorem dX0_moveOn_124 : decode cX0_moveOn 124 = .ok (.getfield 51, 3) := by decide +kernel
theorem dX0_moveOn_127 : decode cX0_moveOn 127 = .ok (.iaload, 1) := by decide +kernel
theorem dX0_moveOn_128 : decode cX0_moveOn 128 = .ok (.invokestatic 58, 3) := by decide +kernel
theorem dX0_moveOn_131 : decode cX0_moveOn 131 = .ok (.ifCond .eq 31, 3) := by decide +kernel
theorem dX0_moveOn_134 : decode cX0_moveOn 134 = .ok (.aload_n 0, 1) := by decide +kernel
theorem dX0_moveOn_135 : decode cX0_moveOn 135 = .ok (.getfield 9, 3) := by decide +kernel
theorem dX0_moveOn_138 : decode cX0_moveOn 138 = .ok (.aload_n 0, 1) := by decide +kernel
theorem dX0_moveOn_139 : decode cX0_moveOn 139 = .ok (.getfield 25, 3) := by decide +kernel
theorem dX0_moveOn_142 : decode cX0_moveOn 142 = .ok (.iaload, 1) := by decide +kernel
theorem dX0_moveOn_143 : decode cX0_moveOn 143 = .ok (.invokestatic 58, 3) := by decide +kernel
theorem dX0_moveOn_146 : decode cX0_moveOn 146 = .ok (.ifCond .eq 16, 3) := by decide +kernel
theorem dX0_moveOn_149 : decode cX0_moveOn 149 = .ok (.aload_n 0, 1) := by decide +kernel
theorem dX0_moveOn_150 : decode cX0_moveOn 150 = .ok (.dup, 1) := by decide +kernel
theorem dX0_moveOn_151 : decode cX0_moveOn 151 = .ok (.getfield 25, 3) := by decide +kernel
theorem dX0_moveOn_154 : decode cX0_moveOn 154 = .ok (.iconst 1, 1) := by decide +kernel
theorem dX0_moveOn_155 : decode cX0_moveOn 155 = .ok (.iadd, 1) := by decide +kernel
theorem dX0_moveOn_156 : decode cX0_moveOn 156 = .ok (.putfield 25, 3) := by decide +kernel
theorem dX0_moveOn_159 : decode cX0_moveOn 159 = .ok (.goto (-51), 3) := by decide +kernel
theorem dX0_moveOn_162 : decode cX0_moveOn 162 = .ok (.aload_n 0, 1) := by decide +kernel
theorem dX0_moveOn_163 : decode cX0_moveOn 163 = .ok (.getfield 25, 3) := by decide +kernel
theorem dX0_moveOn_166 : decode cX0_moveOn 166 = .ok (.aload_n 0, 1) := by decide +kernel
theorem dX0_moveOn_167 : decode cX0_moveOn 167 = .ok (.getfield 51, 3) := by decide +kernel
theorem dX0_moveOn_170 : decode cX0_moveOn 170 = .ok (.if_icmp .ne 27, 3) := by decide +kernel
theorem dX0_moveOn_173 : decode cX0_moveOn 173 = .ok (.aload_n 0, 1) := by decide +kernel
theorem dX0_moveOn_174 : decode cX0_moveOn 174 = .ok (.getfield 51, 3) := by decide +kernel
theorem dX0_moveOn_177 : decode cX0_moveOn 177 = .ok (.aload_n 0, 1) := by decide +kernel
theorem dX0_moveOn_178 : decode cX0_moveOn 178 = .ok (.getfield 18, 3) := by decide +kernel
theorem dX0_moveOn_181 : decode cX0_moveOn 181 = .ok (.if_icmp .ge 16, 3) := by decide +kernel
theorem dX0_moveOn_184 : decode cX0_moveOn 184 = .ok (.aload_n 0, 1) := by decide +kernel
theorem dX0_moveOn_185 : decode cX0_moveOn 185 = .ok (.dup, 1) := by decide +kernel
theorem dX0_moveOn_186 : decode cX0_moveOn 186 = .ok (.getfield 25, 3) := by decide +kernel
theorem dX0_moveOn_189 : decode cX0_moveOn 189 = .ok (.iconst 1, 1) := by decide +kernel
theorem dX0_moveOn_190 : decode cX0_moveOn 190 = .ok (.iadd, 1) := by decide +kernel
theorem dX0_moveOn_191 : decode cX0_moveOn 191 = .ok (.putfield 25, 3) := by decide +kernel
theorem dX0_moveOn_194 : decode cX0_moveOn 194 = .ok (.goto 59, 3) := by decide +kernel
theorem dX0_moveOn_197 : decode cX0_moveOn 197 = .ok (.aload_n 0, 1) := by decide +kernel
theorem dX0_moveOn_198 : decode cX0_moveOn 198 = .ok (.getfield 51, 3) := by decide +kernel
theorem dX0_moveOn_201 : decode cX0_moveOn 201 = .ok (.ifCond .le 52, 3) := by decide +kernel
theorem dX0_moveOn_204 : decode cX0_moveOn 204 = .ok (.aload_n 0, 1) := by decide +kernel
theorem dX0_moveOn_205 : decode cX0_moveOn 205 = .ok (.getfield 51, 3) := by decide +kernel
theorem dX0_moveOn_208 : decode cX0_moveOn 208 = .ok (.aload_n 0, 1) := by decide +kernel
theorem dX0_moveOn_209 : decode cX0_moveOn 209 = .ok (.getfield 18, 3) := by decide +kernel
theorem dX0_moveOn_212 : decode cX0_moveOn 212 = .ok (.if_icmp .ge 41, 3) := by decide +kernel
theorem dX0_moveOn_215 : decode cX0_moveOn 215 = .ok (.aload_n 0, 1) := by decide +kernel
theorem dX0_moveOn_216 : decode cX0_moveOn 216 = .ok (.getfield 9, 3) := by decide +kernel
theorem dX0_moveOn_219 : decode cX0_moveOn 219 = .ok (.aload_n 0, 1) := by decide +kernel
theorem dX0_moveOn_220 : decode cX0_moveOn 220 = .ok (.getfield 51, 3) := by decide +kernel
theorem dX0_moveOn_223 : decode cX0_moveOn 223 = .ok (.iconst 1, 1) := by decide +kernel
theorem dX0_moveOn_224 : decode cX0_moveOn 224 = .ok (.isub, 1) := by decide +kernel
theorem dX0_moveOn_225 : decode cX0_moveOn 225 = .ok (.iaload, 1) := by decide +kernel
theorem dX0_moveOn_226 : decode cX0_moveOn 226 = .ok (.invokestatic 54, 3) := by decide +kernel
theorem dX0_moveOn_229 : decode cX0_moveOn 229 = .ok (.ifCond .ne 20, 3) := by decide +kernel
theorem dX0_moveOn_232 : decode cX0_moveOn 232 = .ok (.aload_n 0, 1) := by decide +kernel
theorem dX0_moveOn_233 : decode cX0_moveOn 233 = .ok (.getfield 9, 3) := by decide +kernel
theorem dX0_moveOn_236 : decode cX0_moveOn 236 = .ok (.aload_n 0, 1) := by decide +kernel
theorem dX0_moveOn_237 : decode cX0_moveOn 237 = .ok (.getfield 51, 3) := by decide +kernel
theorem dX0_moveOn_240 : decode cX0_moveOn 240 = .ok (.iconst 1, 1) := by decide +kernel
theorem dX0_moveOn_241 : decode cX0_moveOn 241 = .ok (.isub, 1) := by decide +kernel
theorem dX0_moveOn_242 : decode cX0_moveOn 242 = .ok (.iaload, 1) := by decide +kernel
theorem dX0_moveOn_243 : decode cX0_moveOn 243 = .ok (.invokestatic 58, 3) := by decide +kernel
theorem dX0_moveOn_246 : decode cX0_moveOn 246 = .ok (.ifCond .eq 7, 3) := by decide +kernel
theorem dX0_moveOn_249 : decode cX0_moveOn 249 = .ok (.aload_n 0, 1) := by decide +kernel
theorem dX0_moveOn_250 : decode cX0_moveOn 250 = .ok (.invokevirtual 44, 3) := by decide +kernel
theorem dX0_moveOn_253 : decode cX0_moveOn 253 = .ok (.return_, 1) := by decide +kernel
set_option maxHeartbeats 4000000 in
set_option maxRecDepth 100000 in
theorem w_X0_moveOn_L8 {g : sk_G} {l : Launch} {p : Program} {e : Env} {s : State} {m : MethodId} {av : Array Value} {below : List Frame} {meth : Method} {c : Code} (C : sk_C g p s m av meth c cX0_moveOn 1 RX0 none)  {MM : sk_M} :
    ∀ (n : Nat) (M : sk_M) (H : Heap) (locs : List Loc) (ls : Array Slot), lv_has ls 1 [(0, .ref (sk_ad g 62))] → sk_P g M H → va_S (sk_A g) s.heap H locs → ∀ {out : sk_M}, f_X0_moveOn_L8 n M = some out → (∀ (M1 : sk_M) (H : Heap) (locs : List Loc) (ls : Array Slot), some M1 = some out → lv_has ls 1 [(0, .ref (sk_ad g 62))] → sk_P g M1 H → va_S (sk_A g) s.heap H locs → W p l e (sk_rm 2) s m av below meth c H locs 0 0 (MQ below (sk_QV g MM) av s 0 0 (sk_A g)) (F0 m 46 ls [])) → W p l e (sk_rm 2) s m av below meth c H locs 0 0 (MQ below (sk_QV g MM) av s 0 0 (sk_A g)) (F0 m 8 ls []) := by
  obtain ⟨hx, hb, hml, hown, hts, hK, hE, hr, hlocks⟩ := id C
  intro n
  induction n with
  | zero =>
    intro M H locs ls hl hM hS out h
    cases h
  | succ n ih =>
    intro M H locs ls hl hM hS out h kx
    rw [f_X0_moveOn_L8] at h
    refine lv_aload_n hx hb dX0_moveOn_8 rfl (lv_at hl 0 rfl) ?_
    refine sk_getI (o := 62) (ci := 0) (j := 3) C hM rfl rfl (by decide) rfl kw_125 dX0_moveOn_9 ?_
    refine lv_aload_n hx hb dX0_moveOn_12 rfl (lv_at hl 0 rfl) ?_
    refine sk_getI (o := 62) (ci := 0) (j := 2) C hM rfl rfl (by decide) rfl kw_123 dX0_moveOn_13 ?_
    refine lv_icmp_ge hx hb dX0_moveOn_16 rfl (fun hc => ?_) (fun hc => ?_)
    · have h := sk_pos h hc
      exact kx _ _ _ _ h (lv_sub hl [0] rfl) hM hS
    · have h := sk_neg h hc
      refine lv_aload_n hx hb dX0_moveOn_19 rfl (lv_at hl 0 rfl) ?_
      refine sk_getR (o := 62) (ci := 0) (j := 0) (t := 63) C hM rfl rfl (by decide) rfl rfl kw_120 dX0_moveOn_20 ?_
      refine lv_aload_n hx hb dX0_moveOn_23 rfl (lv_at hl 0 rfl) ?_
      refine sk_getI (o := 62) (ci := 0) (j := 3) C hM rfl rfl (by decide) rfl kw_125 dX0_moveOn_24 ?_
      obtain ⟨i_2, h⟩ := sk_chkE h
      refine sk_iald (o := 63) C hM rfl i_2 dX0_moveOn_27 ?_
      refine lv_bipush (v := 32) hx hb dX0_moveOn_28 (by decide) ?_
      refine lv_icmp_ne hx hb dX0_moveOn_30 rfl (fun hc => ?_) (fun hc => ?_)
      · have h := sk_neg h hc
        exact kx _ _ _ _ h (lv_sub hl [0] rfl) hM hS
      · have h := sk_pos h hc
        refine lv_aload_n hx hb dX0_moveOn_33 rfl (lv_at hl 0 rfl) ?_
        refine lv_dup hx hb dX0_moveOn_34 rfl ?_
        refine sk_getI (o := 62) (ci := 0) (j := 3) C hM rfl rfl (by decide) rfl kw_125 dX0_moveOn_35 ?_
        refine lv_iconst (v := 1) hx hb dX0_moveOn_38 (by decide) ?_
        refine lv_iadd hx hb dX0_moveOn_39 ?_
        refine sk_putI (o := 62) (ci := 0) (j := 3) C hM hS rfl rfl (by decide) rfl rfl (tyX0_ok 3 (by decide)) kw_125 dX0_moveOn_40 (fun M_3 eM_3 H locs hM hS => ?_)
        have h := sk_letU h eM_3
        refine lv_goto hx hb dX0_moveOn_43 rfl ?_
        exact ih  M_3 _ _ _ (lv_sub hl [0] rfl) hM hS h kx
set_option maxHeartbeats 4000000 in
set_option maxRecDepth 100000 in
theorem w_X0_moveOn_L54 {g : sk_G} {l : Launch} {p : Program} {e : Env} {s : State} {m : MethodId} {av : Array Value} {below : List Frame} {meth : Method} {c : Code} (C : sk_C g p s m av meth c cX0_moveOn 1 RX0 none)  {MM : sk_M} :
    ∀ (n : Nat) (M : sk_M) (H : Heap) (locs : List Loc) (ls : Array Slot), lv_has ls 1 [(0, .ref (sk_ad g 62))] → sk_P g M H → va_S (sk_A g) s.heap H locs → ∀ {out : sk_M}, f_X0_moveOn_L54 n M = some out → (∀ (M1 : sk_M) (H : Heap) (locs : List Loc) (ls : Array Slot), some M1 = some out → lv_has ls 1 [(0, .ref (sk_ad g 62))] → sk_P g M1 H → va_S (sk_A g) s.heap H locs → W p l e (sk_rm 2) s m av below meth c H locs 0 0 (MQ below (sk_QV g MM) av s 0 0 (sk_A g)) (F0 m 108 ls [])) → W p l e (sk_rm 2) s m av below meth c H locs 0 0 (MQ below (sk_QV g MM) av s 0 0 (sk_A g)) (F0 m 54 ls []) := by
  obtain ⟨hx, hb, hml, hown, hts, hK, hE, hr, hlocks⟩ := id C
  intro n
  induction n with
  | zero =>
    intro M H locs ls hl hM hS out h
    cases h
  | succ n ih =>
    intro M H locs ls hl hM hS out h kx
    rw [f_X0_moveOn_L54] at h
    refine lv_aload_n hx hb dX0_moveOn_54 rfl (lv_at hl 0 rfl) ?_
    refine sk_getI (o := 62) (ci := 0) (j := 4) C hM rfl rfl (by decide) rfl kw_126 dX0_moveOn_55 ?_
    refine lv_aload_n hx hb dX0_moveOn_58 rfl (lv_at hl 0 rfl) ?_
    refine sk_getI (o := 62) (ci := 0) (j := 2) C hM rfl rfl (by decide) rfl kw_123 dX0_moveOn_59 ?_
    refine lv_icmp_ge hx hb dX0_moveOn_62 rfl (fun hc => ?_) (fun hc => ?_)
    · have h := sk_pos h hc
      exact kx _ _ _ _ h (lv_sub hl [0] rfl) hM hS
    · have h := sk_neg h hc
      refine lv_aload_n hx hb dX0_moveOn_65 rfl (lv_at hl 0 rfl) ?_
      refine sk_getR (o := 62) (ci := 0) (j := 0) (t := 63) C hM rfl rfl (by decide) rfl rfl kw_120 dX0_moveOn_66 ?_
      refine lv_aload_n hx hb dX0_moveOn_69 rfl (lv_at hl 0 rfl) ?_
      refine sk_getI (o := 62) (ci := 0) (j := 3) C hM rfl rfl (by decide) rfl kw_125 dX0_moveOn_70 ?_
      obtain ⟨i_6, h⟩ := sk_chkE h
      refine sk_iald (o := 63) C hM rfl i_6 dX0_moveOn_73 ?_
      refine sk_contI (sk_runS (As := [.int (M 63 (M 62 3).toNatClampNeg)]) (rest := []) C (c_X0_isLetter g l (M 63 (M 62 3).toNatClampNeg) M rfl) yo_X0_isLetter kw_653 (by decide) hM hS hl.1 rfl rfl (Nat.le_of_ble_eq_true rfl) dX0_moveOn_74) hS (fun H locs hM hS => ?_)
      refine lv_if_eq hx hb dX0_moveOn_77 rfl (fun hc => ?_) (fun hc => ?_)
      · have h := sk_pos h hc
        exact kx _ _ _ _ h (lv_sub hl [0] rfl) hM hS
      · have h := sk_neg h hc
        refine lv_aload_n hx hb dX0_moveOn_80 rfl (lv_at hl 0 rfl) ?_
        refine sk_getR (o := 62) (ci := 0) (j := 0) (t := 63) C hM rfl rfl (by decide) rfl rfl kw_120 dX0_moveOn_81 ?_
        refine lv_aload_n hx hb dX0_moveOn_84 rfl (lv_at hl 0 rfl) ?_
        refine sk_getI (o := 62) (ci := 0) (j := 4) C hM rfl rfl (by decide) rfl kw_126 dX0_moveOn_85 ?_
        obtain ⟨i_8, h⟩ := sk_chkE h
        refine sk_iald (o := 63) C hM rfl i_8 dX0_moveOn_88 ?_
        refine sk_contI (sk_runS (As := [.int (M 63 (M 62 4).toNatClampNeg)]) (rest := []) C (c_X0_isLetter g l (M 63 (M 62 4).toNatClampNeg) M rfl) yo_X0_isLetter kw_653 (by decide) hM hS hl.1 rfl rfl (Nat.le_of_ble_eq_true rfl) dX0_moveOn_89) hS (fun H locs hM hS => ?_)
        refine lv_if_eq hx hb dX0_moveOn_92 rfl (fun hc => ?_) (fun hc => ?_)
        · have h := sk_pos h hc
          exact kx _ _ _ _ h (lv_sub hl [0] rfl) hM hS
        · have h := sk_neg h hc
          refine lv_aload_n hx hb dX0_moveOn_95 rfl (lv_at hl 0 rfl) ?_
          refine lv_dup hx hb dX0_moveOn_96 rfl ?_
          refine sk_getI (o := 62) (ci := 0) (j := 4) C hM rfl rfl (by decide) rfl kw_126 dX0_moveOn_97 ?_
          refine lv_iconst (v := 1) hx hb dX0_moveOn_100 (by decide) ?_
          refine lv_iadd hx hb dX0_moveOn_101 ?_
          refine sk_putI (o := 62) (ci := 0) (j := 4) C hM hS rfl rfl (by decide) rfl rfl (tyX0_ok 4 (by decide)) kw_126 dX0_moveOn_102 (fun M_10 eM_10 H locs hM hS => ?_)
          have h := sk_letU h eM_10
          refine lv_goto hx hb dX0_moveOn_105 rfl ?_
          exact ih  M_10 _ _ _ (lv_sub hl [0] rfl) hM hS h kx
set_option maxHeartbeats 4000000 in
set_option maxRecDepth 100000 in
theorem w_X0_moveOn_L108 {g : sk_G} {l : Launch} {p : Program} {e : Env} {s : State} {m : MethodId} {av : Array Value} {below : List Frame} {meth : Method} {c : Code} (C : sk_C g p s m av meth c cX0_moveOn 1 RX0 none)  {MM : sk_M} :
    ∀ (n : Nat) (M : sk_M) (H : Heap) (locs : List Loc) (ls : Array Slot), lv_has ls 1 [(0, .ref (sk_ad g 62))] → sk_P g M H → va_S (sk_A g) s.heap H locs → ∀ {out : sk_M}, f_X0_moveOn_L108 n M = some out → (∀ (M1 : sk_M) (H : Heap) (locs : List Loc) (ls : Array Slot), some M1 = some out → lv_has ls 1 [(0, .ref (sk_ad g 62))] → sk_P g M1 H → va_S (sk_A g) s.heap H locs → W p l e (sk_rm 2) s m av below meth c H locs 0 0 (MQ below (sk_QV g MM) av s 0 0 (sk_A g)) (F0 m 162 ls [])) → W p l e (sk_rm 2) s m av below meth c H locs 0 0 (MQ below (sk_QV g MM) av s 0 0 (sk_A g)) (F0 m 108 ls []) := by
  obtain ⟨hx, hb, hml, hown, hts, hK, hE, hr, hlocks⟩ := id C
  intro n
  induction n with
  | zero =>
    intro M H locs ls hl hM hS out h
    cases h
  | succ n ih =>
    intro M H locs ls hl hM hS out h kx
    rw [f_X0_moveOn_L108] at h
    refine lv_aload_n hx hb dX0_moveOn_108 rfl (lv_at hl 0 rfl) ?_
    refine sk_getI (o := 62) (ci := 0) (j := 4) C hM rfl rfl (by decide) rfl kw_126 dX0_moveOn_109 ?_
    refine lv_aload_n hx hb dX0_moveOn_112 rfl (lv_at hl 0 rfl) ?_
    refine sk_getI (o := 62) (ci := 0) (j := 2) C hM rfl rfl (by decide) rfl kw_123 dX0_moveOn_113 ?_
    refine lv_icmp_ge hx hb dX0_moveOn_116 rfl (fun hc => ?_) (fun hc => ?_)
    · have h := sk_pos h hc
      exact kx _ _ _ _ h (lv_sub hl [0] rfl) hM hS
    · have h := sk_neg h hc
      refine lv_aload_n hx hb dX0_moveOn_119 rfl (lv_at hl 0 rfl) ?_
      refine sk_getR (o := 62) (ci := 0) (j := 0) (t := 63) C hM rfl rfl (by decide) rfl rfl kw_120 dX0_moveOn_120 ?_
      refine lv_aload_n hx hb dX0_moveOn_123 rfl (lv_at hl 0 rfl) ?_
      refine sk_getI (o := 62) (ci := 0) (j := 3) C hM rfl rfl (by decide) rfl kw_125 dX0_moveOn_124 ?_
      obtain ⟨i_12, h⟩ := sk_chkE h
      refine sk_iald (o := 63) C hM rfl i_12 dX0_moveOn_127 ?_
      refine sk_contI (sk_runS (As := [.int (M 63 (M 62 3).toNatClampNeg)]) (rest := []) C (c_X0_isDigit g l (M 63 (M 62 3).toNatClampNeg) M rfl) yo_X0_isDigit kw_656 (by decide) hM hS hl.1 rfl rfl (Nat.le_of_ble_eq_true rfl) dX0_moveOn_128) hS (fun H locs hM hS => ?_)
      refine lv_if_eq hx hb dX0_moveOn_131 rfl (fun hc => ?_) (fun hc => ?_)
      · have h := sk_pos h hc
        exact kx _ _ _ _ h (lv_sub hl [0] rfl) hM hS
      · have h := sk_neg h hc
        refine lv_aload_n hx hb dX0_moveOn_134 rfl (lv_at hl 0 rfl) ?_
        refine sk_getR (o := 62) (ci := 0) (j := 0) (t := 63) C hM rfl rfl (by decide) rfl rfl kw_120 dX0_moveOn_135 ?_
        refine lv_aload_n hx hb dX0_moveOn_138 rfl (lv_at hl 0 rfl) ?_
        refine sk_getI (o := 62) (ci := 0) (j := 4) C hM rfl rfl (by decide) rfl kw_126 dX0_moveOn_139 ?_
        obtain ⟨i_14, h⟩ := sk_chkE h
        refine sk_iald (o := 63) C hM rfl i_14 dX0_moveOn_142 ?_
        refine sk_contI (sk_runS (As := [.int (M 63 (M 62 4).toNatClampNeg)]) (rest := []) C (c_X0_isDigit g l (M 63 (M 62 4).toNatClampNeg) M rfl) yo_X0_isDigit kw_656 (by decide) hM hS hl.1 rfl rfl (Nat.le_of_ble_eq_true rfl) dX0_moveOn_143) hS (fun H locs hM hS => ?_)
        refine lv_if_eq hx hb dX0_moveOn_146 rfl (fun hc => ?_) (fun hc => ?_)
        · have h := sk_pos h hc
          exact kx _ _ _ _ h (lv_sub hl [0] rfl) hM hS
        · have h := sk_neg h hc
          refine lv_aload_n hx hb dX0_moveOn_149 rfl (lv_at hl 0 rfl) ?_
          refine lv_dup hx hb dX0_moveOn_150 rfl ?_
          refine sk_getI (o := 62) (ci := 0) (j := 4) C hM rfl rfl (by decide) rfl kw_126 dX0_moveOn_151 ?_
          refine lv_iconst (v := 1) hx hb dX0_moveOn_154 (by decide) ?_
          refine lv_iadd hx hb dX0_moveOn_155 ?_
          refine sk_putI (o := 62) (ci := 0) (j := 4) C hM hS rfl rfl (by decide) rfl rfl (tyX0_ok 4 (by decide)) kw_126 dX0_moveOn_156 (fun M_16 eM_16 H locs hM hS => ?_)
          have h := sk_letU h eM_16
          refine lv_goto hx hb dX0_moveOn_159 rfl ?_
          exact ih  M_16 _ _ _ (lv_sub hl [0] rfl) hM hS h kx
set_option maxHeartbeats 4000000 in
set_option maxRecDepth 100000 in
theorem c_X0_moveOn (g : sk_G) (l : Launch)  (M : sk_M) {MM : sk_M} (h : f_X0_moveOn M = some MM) : sk_MV g l yX0_moveOn cX0_moveOn 1 none 2 [.ref (sk_ad g 62)] M MM := by
  refine sk_go [(0, .ref (sk_ad g 62))] (by decide) (Nat.le_of_ble_eq_true rfl) rfl ?_
  intro p e s m av below meth c C ls hl hM hS
  obtain ⟨hx, hb, hml, hown, hts, hK, hE, hr, hlocks⟩ := id C
  rw [f_X0_moveOn] at h
  refine lv_aload_n hx hb dX0_moveOn_0 rfl (lv_at hl 0 rfl) ?_
  refine lv_aload_n hx hb dX0_moveOn_1 rfl (lv_at hl 0 rfl) ?_
  refine sk_getI (o := 62) (ci := 0) (j := 4) C hM rfl rfl (by decide) rfl kw_126 dX0_moveOn_2 ?_
  refine sk_putI (o := 62) (ci := 0) (j := 3) C hM hS rfl rfl (by decide) rfl rfl (tyX0_ok 3 (by decide)) kw_125 dX0_moveOn_5 (fun M_1 eM_1 H locs hM hS => ?_)
  have h := sk_letU h eM_1
  obtain ⟨M_4, h_39, h⟩ := sk_b1E h
  refine w_X0_moveOn_L8 C sk_FU M_1 _ _ _ (lv_sub hl [0] rfl) hM hS h_39 (fun y_40 H locs ls he hl hM hS => ?_)
  obtain rfl := Option.some.inj he
  refine lv_aload_n hx hb dX0_moveOn_46 rfl (lv_at hl 0 rfl) ?_
  refine lv_aload_n hx hb dX0_moveOn_47 rfl (lv_at hl 0 rfl) ?_
  refine sk_getI (o := 62) (ci := 0) (j := 3) C hM rfl rfl (by decide) rfl kw_125 dX0_moveOn_48 ?_
  refine sk_putI (o := 62) (ci := 0) (j := 4) C hM hS rfl rfl (by decide) rfl rfl (tyX0_ok 4 (by decide)) kw_126 dX0_moveOn_51 (fun M_5 eM_5 H locs hM hS => ?_)
  have h := sk_letU h eM_5
  obtain ⟨M_11, h_37, h⟩ := sk_b1E h
  refine w_X0_moveOn_L54 C sk_FU M_5 _ _ _ (lv_sub hl [0] rfl) hM hS h_37 (fun y_38 H locs ls he hl hM hS => ?_)
  obtain rfl := Option.some.inj he
  obtain ⟨M_17, h_35, h⟩ := sk_b1E h
  refine w_X0_moveOn_L108 C sk_FU y_38 _ _ _ (lv_sub hl [0] rfl) hM hS h_35 (fun y_36 H locs ls he hl hM hS => ?_)
  obtain rfl := Option.some.inj he
  refine lv_aload_n hx hb dX0_moveOn_162 rfl (lv_at hl 0 rfl) ?_
  refine sk_getI (o := 62) (ci := 0) (j := 4) C hM rfl rfl (by decide) rfl kw_126 dX0_moveOn_163 ?_
  refine lv_aload_n hx hb dX0_moveOn_166 rfl (lv_at hl 0 rfl) ?_
  refine sk_getI (o := 62) (ci := 0) (j := 3) C hM rfl rfl (by decide) rfl kw_125 dX0_moveOn_167 ?_
  refine lv_icmp_ne hx hb dX0_moveOn_170 rfl (fun hc => ?_) (fun hc => ?_)
  · have h := sk_neg h hc
    refine lv_aload_n hx hb dX0_moveOn_197 rfl (lv_at hl 0 rfl) ?_
    refine sk_getI (o := 62) (ci := 0) (j := 3) C hM rfl rfl (by decide) rfl kw_125 dX0_moveOn_198 ?_
    refine lv_if_le hx hb dX0_moveOn_201 rfl (fun hc => ?_) (fun hc => ?_)
    · have h := sk_pos h hc
      exact sk_vret C hM hS (Option.some.inj h) dX0_moveOn_253
    · have h := sk_neg h hc
      refine lv_aload_n hx hb dX0_moveOn_204 rfl (lv_at hl 0 rfl) ?_
      refine sk_getI (o := 62) (ci := 0) (j := 3) C hM rfl rfl (by decide) rfl kw_125 dX0_moveOn_205 ?_
      refine lv_aload_n hx hb dX0_moveOn_208 rfl (lv_at hl 0 rfl) ?_
      refine sk_getI (o := 62) (ci := 0) (j := 2) C hM rfl rfl (by decide) rfl kw_123 dX0_moveOn_209 ?_
      refine lv_icmp_ge hx hb dX0_moveOn_212 rfl (fun hc => ?_) (fun hc => ?_)
      · have h := sk_pos h hc
        exact sk_vret C hM hS (Option.some.inj h) dX0_moveOn_253
      · have h := sk_neg h hc
        refine lv_aload_n hx hb dX0_moveOn_215 rfl (lv_at hl 0 rfl) ?_
        refine sk_getR (o := 62) (ci := 0) (j := 0) (t := 63) C hM rfl rfl (by decide) rfl rfl kw_120 dX0_moveOn_216 ?_
        refine lv_aload_n hx hb dX0_moveOn_219 rfl (lv_at hl 0 rfl) ?_
        refine sk_getI (o := 62) (ci := 0) (j := 3) C hM rfl rfl (by decide) rfl kw_125 dX0_moveOn_220 ?_
        refine lv_iconst (v := 1) hx hb dX0_moveOn_223 (by decide) ?_
        refine lv_isub hx hb dX0_moveOn_224 ?_
        obtain ⟨i_18, h⟩ := sk_chkE h
        refine sk_iald (o := 63) C hM rfl i_18 dX0_moveOn_225 ?_
        refine sk_contI (sk_runS (As := [.int (y_36 63 ((y_36 62 3) - 1).toNatClampNeg)]) (rest := []) C (c_X0_isLetter g l (y_36 63 ((y_36 62 3) - 1).toNatClampNeg) y_36 rfl) yo_X0_isLetter kw_653 (by decide) hM hS hl.1 rfl rfl (Nat.le_of_ble_eq_true rfl) dX0_moveOn_226) hS (fun H locs hM hS => ?_)
        refine lv_if_ne hx hb dX0_moveOn_229 rfl (fun hc => ?_) (fun hc => ?_)
        · have h := sk_neg h hc
          refine lv_aload_n hx hb dX0_moveOn_249 rfl (lv_at hl 0 rfl) ?_
          obtain ⟨M_20, h_21, h⟩ := sk_b1E h
          refine sk_contV (sk_runV (As := []) (rest := []) C (c_X0_fail g l  y_36 h_21) yo_X0_fail kw_659 (sk_recv (ci := 0) C hM rfl rfl) (by decide) hM hS hl.1 rfl rfl (Nat.le_of_ble_eq_true rfl) dX0_moveOn_250) hS (fun H locs hM hS => ?_)
          exact sk_vret C hM hS (Option.some.inj h) dX0_moveOn_253
        · have h := sk_pos h hc
          refine lv_aload_n hx hb dX0_moveOn_232 rfl (lv_at hl 0 rfl) ?_
          refine sk_getR (o := 62) (ci := 0) (j := 0) (t := 63) C hM rfl rfl (by decide) rfl rfl kw_120 dX0_moveOn_233 ?_
          refine lv_aload_n hx hb dX0_moveOn_236 rfl (lv_at hl 0 rfl) ?_
          refine sk_getI (o := 62) (ci := 0) (j := 3) C hM rfl rfl (by decide) rfl kw_125 dX0_moveOn_237 ?_
          refine lv_iconst (v := 1) hx hb dX0_moveOn_240 (by decide) ?_
          refine lv_isub hx hb dX0_moveOn_241 ?_
          obtain ⟨i_22, h⟩ := sk_chkE h
          refine sk_iald (o := 63) C hM rfl i_22 dX0_moveOn_242 ?_
          refine sk_contI (sk_runS (As := [.int (y_36 63 ((y_36 62 3) - 1).toNatClampNeg)]) (rest := []) C (c_X0_isDigit g l (y_36 63 ((y_36 62 3) - 1).toNatClampNeg) y_36 rfl) yo_X0_isDigit kw_656 (by decide) hM hS hl.1 rfl rfl (Nat.le_of_ble_eq_true rfl) dX0_moveOn_243) hS (fun H locs hM hS => ?_)
          refine lv_if_eq hx hb dX0_moveOn_246 rfl (fun hc => ?_) (fun hc => ?_)
          · have h := sk_pos h hc
            exact sk_vret C hM hS (Option.some.inj h) dX0_moveOn_253
          · have h := sk_neg h hc
            refine lv_aload_n hx hb dX0_moveOn_249 rfl (lv_at hl 0 rfl) ?_
            obtain ⟨M_24, h_25, h⟩ := sk_b1E h
            refine sk_contV (sk_runV (As := []) (rest := []) C (c_X0_fail g l  y_36 h_25) yo_X0_fail kw_659 (sk_recv (ci := 0) C hM rfl rfl) (by decide) hM hS hl.1 rfl rfl (Nat.le_of_ble_eq_true rfl) dX0_moveOn_250) hS (fun H locs hM hS => ?_)
            exact sk_vret C hM hS (Option.some.inj h) dX0_moveOn_253
  · have h := sk_pos h hc
    refine lv_aload_n hx hb dX0_moveOn_173 rfl (lv_at hl 0 rfl) ?_
    refine sk_getI (o := 62) (ci := 0) (j := 3) C hM rfl rfl (by decide) rfl kw_125 dX0_moveOn_174 ?_
    refine lv_aload_n hx hb dX0_moveOn_177 rfl (lv_at hl 0 rfl) ?_
    refine sk_getI (o := 62) (ci := 0) (j := 2) C hM rfl rfl (by decide) rfl kw_123 dX0_moveOn_178 ?_
    refine lv_icmp_ge hx hb dX0_moveOn_181 rfl (fun hc => ?_) (fun hc => ?_)
    · have h := sk_pos h hc
      refine lv_aload_n hx hb dX0_moveOn_197 rfl (lv_at hl 0 rfl) ?_
      refine sk_getI (o := 62) (ci := 0) (j := 3) C hM rfl rfl (by decide) rfl kw_125 dX0_moveOn_198 ?_
      refine lv_if_le hx hb dX0_moveOn_201 rfl (fun hc => ?_) (fun hc => ?_)
      · have h := sk_pos h hc
        exact sk_vret C hM hS (Option.some.inj h) dX0_moveOn_253
      · have h := sk_neg h hc
        refine lv_aload_n hx hb dX0_moveOn_204 rfl (lv_at hl 0 rfl) ?_
        refine sk_getI (o := 62) (ci := 0) (j := 3) C hM rfl rfl (by decide) rfl kw_125 dX0_moveOn_205 ?_
        refine lv_aload_n hx hb dX0_moveOn_208 rfl (lv_at hl 0 rfl) ?_
        refine sk_getI (o := 62) (ci := 0) (j := 2) C hM rfl rfl (by decide) rfl kw_123 dX0_moveOn_209 ?_
        refine lv_icmp_ge hx hb dX0_moveOn_212 rfl (fun hc => ?_) (fun hc => ?_)
        · have h := sk_pos h hc
          exact sk_vret C hM hS (Option.some.inj h) dX0_moveOn_253
        · have h := sk_neg h hc
          refine lv_aload_n hx hb dX0_moveOn_215 rfl (lv_at hl 0 rfl) ?_
          refine sk_getR (o := 62) (ci := 0) (j := 0) (t := 63) C hM rfl rfl (by decide) rfl rfl kw_120 dX0_moveOn_216 ?_
          refine lv_aload_n hx hb dX0_moveOn_219 rfl (lv_at hl 0 rfl) ?_
          refine sk_getI (o := 62) (ci := 0) (j := 3) C hM rfl rfl (by decide) rfl kw_125 dX0_moveOn_220 ?_
          refine lv_iconst (v := 1) hx hb dX0_moveOn_223 (by decide) ?_
          refine lv_isub hx hb dX0_moveOn_224 ?_
          obtain ⟨i_26, h⟩ := sk_chkE h
          refine sk_iald (o := 63) C hM rfl i_26 dX0_moveOn_225 ?_
          refine sk_contI (sk_runS (As := [.int (y_36 63 ((y_36 62 3) - 1).toNatClampNeg)]) (rest := []) C (c_X0_isLetter g l (y_36 63 ((y_36 62 3) - 1).toNatClampNeg) y_36 rfl) yo_X0_isLetter kw_653 (by decide) hM hS hl.1 rfl rfl (Nat.le_of_ble_eq_true rfl) dX0_moveOn_226) hS (fun H locs hM hS => ?_)
          refine lv_if_ne hx hb dX0_moveOn_229 rfl (fun hc => ?_) (fun hc => ?_)
          · have h := sk_neg h hc
            refine lv_aload_n hx hb dX0_moveOn_249 rfl (lv_at hl 0 rfl) ?_
            obtain ⟨M_28, h_29, h⟩ := sk_b1E h
            refine sk_contV (sk_runV (As := []) (rest := []) C (c_X0_fail g l  y_36 h_29) yo_X0_fail kw_659 (sk_recv (ci := 0) C hM rfl rfl) (by decide) hM hS hl.1 rfl rfl (Nat.le_of_ble_eq_true rfl) dX0_moveOn_250) hS (fun H locs hM hS => ?_)
            exact sk_vret C hM hS (Option.some.inj h) dX0_moveOn_253
          · have h := sk_pos h hc
            refine lv_aload_n hx hb dX0_moveOn_232 rfl (lv_at hl 0 rfl) ?_
            refine sk_getR (o := 62) (ci := 0) (j := 0) (t := 63) C hM rfl rfl (by decide) rfl rfl kw_120 dX0_moveOn_233 ?_
            refine lv_aload_n hx hb dX0_moveOn_236 rfl (lv_at hl 0 rfl) ?_
            refine sk_getI (o := 62) (ci := 0) (j := 3) C hM rfl rfl (by decide) rfl kw_125 dX0_moveOn_237 ?_
            refine lv_iconst (v := 1) hx hb dX0_moveOn_240 (by decide) ?_
            refine lv_isub hx hb dX0_moveOn_241 ?_
            obtain ⟨i_30, h⟩ := sk_chkE h
            refine sk_iald (o := 63) C hM rfl i_30 dX0_moveOn_242 ?_
            refine sk_contI (sk_runS (As := [.int (y_36 63 ((y_36 62 3) - 1).toNatClampNeg)]) (rest := []) C (c_X0_isDigit g l (y_36 63 ((y_36 62 3) - 1).toNatClampNeg) y_36 rfl) yo_X0_isDigit kw_656 (by decide) hM hS hl.1 rfl rfl (Nat.le_of_ble_eq_true rfl) dX0_moveOn_243) hS (fun H locs hM hS => ?_)
            refine lv_if_eq hx hb dX0_moveOn_246 rfl (fun hc => ?_) (fun hc => ?_)
            · have h := sk_pos h hc
              exact sk_vret C hM hS (Option.some.inj h) dX0_moveOn_253
            · have h := sk_neg h hc
              refine lv_aload_n hx hb dX0_moveOn_249 rfl (lv_at hl 0 rfl) ?_
              obtain ⟨M_32, h_33, h⟩ := sk_b1E h
              refine sk_contV (sk_runV (As := []) (rest := []) C (c_X0_fail g l  y_36 h_33) yo_X0_fail kw_659 (sk_recv (ci := 0) C hM rfl rfl) (by decide) hM hS hl.1 rfl rfl (Nat.le_of_ble_eq_true rfl) dX0_moveOn_250) hS (fun H locs hM hS => ?_)
              exact sk_vret C hM hS (Option.some.inj h) dX0_moveOn_253
    · have h := sk_neg h hc
      refine lv_aload_n hx hb dX0_moveOn_184 rfl (lv_at hl 0 rfl) ?_
      refine lv_dup hx hb dX0_moveOn_185 rfl ?_
      refine sk_getI (o := 62) (ci := 0) (j := 4) C hM rfl rfl (by decide) rfl kw_126 dX0_moveOn_186 ?_
      refine lv_iconst (v := 1) hx hb dX0_moveOn_189 (by decide) ?_
      refine lv_iadd hx hb dX0_moveOn_190 ?_
      refine sk_putI (o := 62) (ci := 0) (j := 4) C hM hS rfl rfl (by decide) rfl rfl (tyX0_ok 4 (by decide)) kw_126 dX0_moveOn_191 (fun M_34 eM_34 H locs hM hS => ?_)
      have h := sk_letU h eM_34
      refine lv_goto hx hb dX0_moveOn_194 rfl ?_
      exact sk_vret C hM hS (Option.some.inj h) dX0_moveOn_253
theorem dJ0_coder_7d493_0 : decode cJ0_coder_7d493 0 = .ok (.getstatic 38, 3) := by decide +kernel
theorem dJ0_coder_7d493_3 : decode cJ0_coder_7d493 3 = .ok (.ifCond .eq 10, 3) := by decide +kernel
theorem dJ0_coder_7d493_6 : decode cJ0_coder_7d493 6 = .ok (.aload_n 0, 1) := by decide +kernel
theorem dJ0_coder_7d493_7 : decode cJ0_coder_7d493 7 = .ok (.getfield 15, 3) := by decide +kernel
theorem dJ0_coder_7d493_10 : decode cJ0_coder_7d493 10 = .ok (.goto 4, 3) := by decide +kernel
theorem dJ0_coder_7d493_13 : decode cJ0_coder_7d493 13 = .ok (.iconst 1, 1) := by decide +kernel
theorem dJ0_coder_7d493_14 : decode cJ0_coder_7d493 14 = .ok (.ireturn, 1) := by decide +kernel
set_option maxHeartbeats 4000000 in
set_option maxRecDepth 100000 in
theorem c_J0_coder_7d493 (g : sk_G) (l : Launch) (o0 : Nat) (q0 : o0 < 14) (M : sk_M) {rr : Int32} (h : f_J0_coder_7d493 o0 = rr) : sk_MI g l yJ0_coder_7d493 cJ0_coder_7d493 1 (some .byte) 1 [.ref (sk_aK g o0)] M rr M := by
  refine sk_go [(0, .ref (sk_aK g o0))] (by decide) (Nat.le_of_ble_eq_true rfl) rfl ?_
  intro p e s m av below meth c C ls hl hM hS
  obtain ⟨hx, hb, hml, hown, hts, hK, hE, hr, hlocks⟩ := id C
  rw [f_J0_coder_7d493] at h
  refine va_gets hx hb hE.2.2.1 hS hown (hts _ kw_680) (fun _ h9 => h9) dJ0_coder_7d493_0 ?_
  refine lv_if_eq hx hb dJ0_coder_7d493_3 rfl (fun hc => absurd hc (by decide)) (fun hc => ?_)
  refine lv_aload_n hx hb dJ0_coder_7d493_6 rfl (lv_at hl 0 rfl) ?_
  refine vk_getf hx hb (hE.2.2.2.2.1.1 o0 q0).2.1 hS hown (hts _ kw_1459) (fun _ h9 => h9) dJ0_coder_7d493_7 ?_
  refine lv_goto hx hb dJ0_coder_7d493_10 rfl ?_
  exact sk_zret C hM hS rfl ⟨h, rfl⟩ dJ0_coder_7d493_14
theorem dJ0_length_8abf5_0 : decode cJ0_length_8abf5 0 = .ok (.aload_n 0, 1) := by decide +kernel
theorem dJ0_length_8abf5_1 : decode cJ0_length_8abf5 1 = .ok (.getfield 9, 3) := by decide +kernel
theorem dJ0_length_8abf5_4 : decode cJ0_length_8abf5 4 = .ok (.arraylength, 1) := by decide +kernel
theorem dJ0_length_8abf5_5 : decode cJ0_length_8abf5 5 = .ok (.aload_n 0, 1) := by decide +kernel
theorem dJ0_length_8abf5_6 : decode cJ0_length_8abf5 6 = .ok (.invokevirtual 335, 3) := by decide +kernel
theorem dJ0_length_8abf5_9 : decode cJ0_length_8abf5 9 = .ok (.ishr, 1) := by decide +kernel
theorem dJ0_length_8abf5_10 : decode cJ0_length_8abf5 10 = .ok (.ireturn, 1) := by decide +kernel
set_option maxHeartbeats 4000000 in
set_option maxRecDepth 100000 in
theorem c_J0_length_8abf5 (g : sk_G) (l : Launch) (o0 : Nat) (q0 : o0 < 14) (M : sk_M) {rr : Int32} (h : f_J0_length_8abf5 o0 = rr) : sk_MI g l yJ0_length_8abf5 cJ0_length_8abf5 1 (some .int) 2 [.ref (sk_aK g o0)] M rr M := by
  refine sk_go [(0, .ref (sk_aK g o0))] (by decide) (Nat.le_of_ble_eq_true rfl) rfl ?_
  intro p e s m av below meth c C ls hl hM hS
  obtain ⟨hx, hb, hml, hown, hts, hK, hE, hr, hlocks⟩ := id C
  rw [f_J0_length_8abf5] at h
  refine lv_aload_n hx hb dJ0_length_8abf5_0 rfl (lv_at hl 0 rfl) ?_
  refine vk_getf hx hb (hE.2.2.2.2.1.1 o0 q0).2.2.1 hS hown (hts _ kw_1458) (fun _ h9 => h9) dJ0_length_8abf5_1 ?_
  refine va_tlen hx hb (hE.2.2.2.2.1.1 o0 q0).2.2.2 hS (v := (nI (sk_sl.getD o0 0))) rfl dJ0_length_8abf5_4 ?_
  refine lv_aload_n hx hb dJ0_length_8abf5_5 rfl (lv_at hl 0 rfl) ?_
  refine sk_contI (sk_runV (As := []) (rest := [.int (nI (sk_sl.getD o0 0))]) C (c_J0_coder_7d493 g l o0 q0 M rfl) yo_J0_coder_7d493 kw_676 (vk_recv hE.2.2.2.2.1 q0 hS) (by decide) hM hS hl.1 rfl rfl (Nat.le_of_ble_eq_true rfl) dJ0_length_8abf5_6) hS (fun H locs hM hS => ?_)
  refine W.eq (g2 := F0 m 9 ls [.int 0, .int (nI (sk_sl.getD o0 0))]) rfl ?_
  refine lv_ishr hx hb dJ0_length_8abf5_9 ?_
  exact sk_iret C hM hS ⟨h, rfl⟩ dJ0_length_8abf5_10
theorem dJ0_isLatin1_aae02_0 : decode cJ0_isLatin1_aae02 0 = .ok (.getstatic 38, 3) := by decide +kernel
theorem dJ0_isLatin1_aae02_3 : decode cJ0_isLatin1_aae02 3 = .ok (.ifCond .eq 14, 3) := by decide +kernel
theorem dJ0_isLatin1_aae02_6 : decode cJ0_isLatin1_aae02 6 = .ok (.aload_n 0, 1) := by decide +kernel
theorem dJ0_isLatin1_aae02_7 : decode cJ0_isLatin1_aae02 7 = .ok (.getfield 15, 3) := by decide +kernel
theorem dJ0_isLatin1_aae02_10 : decode cJ0_isLatin1_aae02 10 = .ok (.ifCond .ne 7, 3) := by decide +kernel
theorem dJ0_isLatin1_aae02_13 : decode cJ0_isLatin1_aae02 13 = .ok (.iconst 1, 1) := by decide +kernel
theorem dJ0_isLatin1_aae02_14 : decode cJ0_isLatin1_aae02 14 = .ok (.goto 4, 3) := by decide +kernel
theorem dJ0_isLatin1_aae02_17 : decode cJ0_isLatin1_aae02 17 = .ok (.iconst 0, 1) := by decide +kernel
theorem dJ0_isLatin1_aae02_18 : decode cJ0_isLatin1_aae02 18 = .ok (.ireturn, 1) := by decide +kernel
set_option maxHeartbeats 4000000 in
set_option maxRecDepth 100000 in
theorem c_J0_isLatin1_aae02 (g : sk_G) (l : Launch) (o0 : Nat) (q0 : o0 < 14) (M : sk_M) {rr : Int32} (h : f_J0_isLatin1_aae02 o0 = rr) : sk_MI g l yJ0_isLatin1_aae02 cJ0_isLatin1_aae02 1 (some .boolean) 1 [.ref (sk_aK g o0)] M rr M := by
  refine sk_go [(0, .ref (sk_aK g o0))] (by decide) (Nat.le_of_ble_eq_true rfl) rfl ?_
  intro p e s m av below meth c C ls hl hM hS
  obtain ⟨hx, hb, hml, hown, hts, hK, hE, hr, hlocks⟩ := id C
  rw [f_J0_isLatin1_aae02] at h
  refine va_gets hx hb hE.2.2.1 hS hown (hts _ kw_680) (fun _ h9 => h9) dJ0_isLatin1_aae02_0 ?_
  refine lv_if_eq hx hb dJ0_isLatin1_aae02_3 rfl (fun hc => absurd hc (by decide)) (fun hc => ?_)
  refine lv_aload_n hx hb dJ0_isLatin1_aae02_6 rfl (lv_at hl 0 rfl) ?_
  refine vk_getf hx hb (hE.2.2.2.2.1.1 o0 q0).2.1 hS hown (hts _ kw_1459) (fun _ h9 => h9) dJ0_isLatin1_aae02_7 ?_
  refine lv_if_ne hx hb dJ0_isLatin1_aae02_10 rfl (fun hc => absurd (by decide) hc) (fun hc => ?_)
  refine lv_iconst (v := 1) hx hb dJ0_isLatin1_aae02_13 (by decide) ?_
  refine lv_goto hx hb dJ0_isLatin1_aae02_14 rfl ?_
  exact sk_zret C hM hS (sk_nz (Or.inr rfl)) ⟨h, rfl⟩ dJ0_isLatin1_aae02_18
theorem dJ3_checkIndex_8e157_0 : decode cJ3_checkIndex_8e157 0 = .ok (.iload_n 0, 1) := by decide +kernel
theorem dJ3_checkIndex_8e157_1 : decode cJ3_checkIndex_8e157 1 = .ok (.ifCond .lt 8, 3) := by decide +kernel
theorem dJ3_checkIndex_8e157_4 : decode cJ3_checkIndex_8e157 4 = .ok (.iload_n 0, 1) := by decide +kernel
theorem dJ3_checkIndex_8e157_5 : decode cJ3_checkIndex_8e157 5 = .ok (.iload_n 1, 1) := by decide +kernel
theorem dJ3_checkIndex_8e157_6 : decode cJ3_checkIndex_8e157 6 = .ok (.if_icmp .lt 10, 3) := by decide +kernel
theorem dJ3_checkIndex_8e157_9 : decode cJ3_checkIndex_8e157 9 = .ok (.aload_n 2, 1) := by decide +kernel
theorem dJ3_checkIndex_8e157_10 : decode cJ3_checkIndex_8e157 10 = .ok (.iload_n 0, 1) := by decide +kernel
theorem dJ3_checkIndex_8e157_11 : decode cJ3_checkIndex_8e157 11 = .ok (.iload_n 1, 1) := by decide +kernel
theorem dJ3_checkIndex_8e157_12 : decode cJ3_checkIndex_8e157 12 = .ok (.invokestatic 95, 3) := by decide +kernel
theorem dJ3_checkIndex_8e157_15 : decode cJ3_checkIndex_8e157 15 = .ok (.athrow, 1) := by decide +kernel
theorem dJ3_checkIndex_8e157_16 : decode cJ3_checkIndex_8e157 16 = .ok (.iload_n 0, 1) := by decide +kernel
theorem dJ3_checkIndex_8e157_17 : decode cJ3_checkIndex_8e157 17 = .ok (.ireturn, 1) := by decide +kernel
set_option maxHeartbeats 4000000 in
set_option maxRecDepth 100000 in
theorem c_J3_checkIndex_8e157 (g : sk_G) (l : Launch) (a0 : Int32) (a1 : Int32) (u2 : Option Nat) (M : sk_M) {rr : Int32} (h : f_J3_checkIndex_8e157 a0 a1 M = some rr) : sk_MI g l yJ3_checkIndex_8e157 cJ3_checkIndex_8e157 3 (some .int) 1 [.int a0, .int a1, (va_rf u2)] M rr M := by
  cases u2 with
  | none =>
    refine sk_go [(0, .int a0), (1, .int a1), (2, (va_rf none))] (by decide) (Nat.le_of_ble_eq_true rfl) rfl ?_
    intro p e s m av below meth c C ls hl hM hS
    obtain ⟨hx, hb, hml, hown, hts, hK, hE, hr, hlocks⟩ := id C
    rw [f_J3_checkIndex_8e157] at h
    refine lv_iload_n hx hb dJ3_checkIndex_8e157_0 rfl (lv_at hl 0 rfl) ?_
    refine lv_if_lt hx hb dJ3_checkIndex_8e157_1 rfl (fun hc => ?_) (fun hc => ?_)
    · have h := sk_pos h hc
      cases h
    · have h := sk_neg h hc
      refine lv_iload_n hx hb dJ3_checkIndex_8e157_4 rfl (lv_at hl 0 rfl) ?_
      refine lv_iload_n hx hb dJ3_checkIndex_8e157_5 rfl (lv_at hl 1 rfl) ?_
      refine lv_icmp_lt hx hb dJ3_checkIndex_8e157_6 rfl (fun hc => ?_) (fun hc => ?_)
      · have h := sk_pos h hc
        refine lv_iload_n hx hb dJ3_checkIndex_8e157_16 rfl (lv_at hl 0 rfl) ?_
        exact sk_iret C hM hS ⟨Option.some.inj h, rfl⟩ dJ3_checkIndex_8e157_17
      · have h := sk_neg h hc
        cases h
  | some u2 =>
    refine sk_go [(0, .int a0), (1, .int a1), (2, (va_rf (some u2)))] (by decide) (Nat.le_of_ble_eq_true rfl) rfl ?_
    intro p e s m av below meth c C ls hl hM hS
    obtain ⟨hx, hb, hml, hown, hts, hK, hE, hr, hlocks⟩ := id C
    rw [f_J3_checkIndex_8e157] at h
    refine lv_iload_n hx hb dJ3_checkIndex_8e157_0 rfl (lv_at hl 0 rfl) ?_
    refine lv_if_lt hx hb dJ3_checkIndex_8e157_1 rfl (fun hc => ?_) (fun hc => ?_)
    · have h := sk_pos h hc
      cases h
    · have h := sk_neg h hc
      refine lv_iload_n hx hb dJ3_checkIndex_8e157_4 rfl (lv_at hl 0 rfl) ?_
      refine lv_iload_n hx hb dJ3_checkIndex_8e157_5 rfl (lv_at hl 1 rfl) ?_
      refine lv_icmp_lt hx hb dJ3_checkIndex_8e157_6 rfl (fun hc => ?_) (fun hc => ?_)
      · have h := sk_pos h hc
        refine lv_iload_n hx hb dJ3_checkIndex_8e157_16 rfl (lv_at hl 0 rfl) ?_
        exact sk_iret C hM hS ⟨Option.some.inj h, rfl⟩ dJ3_checkIndex_8e157_17
      · have h := sk_neg h hc
        cases h
theorem dJ0_checkIndex_df160_0 : decode cJ0_checkIndex_df160 0 = .ok (.iload_n 0, 1) := by decide +kernel
theorem dJ0_checkIndex_df160_1 : decode cJ0_checkIndex_df160 1 = .ok (.iload_n 1, 1) := by decide +kernel
theorem dJ0_checkIndex_df160_2 : decode cJ0_checkIndex_df160 2 = .ok (.getstatic 1053, 3) := by decide +kernel
theorem dJ0_checkIndex_df160_5 : decode cJ0_checkIndex_df160 5 = .ok (.invokestatic 1059, 3) := by decide +kernel
theorem dJ0_checkIndex_df160_8 : decode cJ0_checkIndex_df160 8 = .ok (.pop, 1) := by decide +kernel
theorem dJ0_checkIndex_df160_9 : decode cJ0_checkIndex_df160 9 = .ok (.return_, 1) := by decide +kernel
set_option maxHeartbeats 4000000 in
set_option maxRecDepth 100000 in
theorem c_J0_checkIndex_df160 (g : sk_G) (l : Launch) (a0 : Int32) (a1 : Int32) (M : sk_M)  (h : f_J0_checkIndex_df160 a0 a1 M = some ()) : sk_MV g l yJ0_checkIndex_df160 cJ0_checkIndex_df160 2 none 2 [.int a0, .int a1] M M := by
  refine sk_go [(0, .int a0), (1, .int a1)] (by decide) (Nat.le_of_ble_eq_true rfl) rfl ?_
  intro p e s m av below meth c C ls hl hM hS
  obtain ⟨hx, hb, hml, hown, hts, hK, hE, hr, hlocks⟩ := id C
  rw [f_J0_checkIndex_df160] at h
  refine lv_iload_n hx hb dJ0_checkIndex_df160_0 rfl (lv_at hl 0 rfl) ?_
  refine lv_iload_n hx hb dJ0_checkIndex_df160_1 rfl (lv_at hl 1 rfl) ?_
  obtain ⟨u_1, hu_1⟩ : ∃ v : Option Nat, va_Z "jdk/internal/util/Preconditions" "SIOOBE_FORMATTER" "Ljava/util/function/BiFunction;" (va_rf v) (sk_A g) s s.heap := hE.2.2.2.1.elim (fun q => ⟨none, q⟩) (fun ⟨t, q⟩ => ⟨some t, q⟩)
  refine va_gets hx hb hu_1 hS hown (hts _ kw_696) (fun _ h9 => h9) dJ0_checkIndex_df160_2 ?_
  obtain ⟨x_2, h_3, h⟩ := sk_b1E h
  refine sk_contI (sk_runS (As := [.int a0, .int a1, (va_rf u_1)]) (rest := []) C (c_J3_checkIndex_8e157 g l a0 a1 u_1 M h_3) yo_J3_checkIndex_8e157 kw_698 (by decide) hM hS hl.1 rfl rfl (Nat.le_of_ble_eq_true rfl) dJ0_checkIndex_df160_5) hS (fun H locs hM hS => ?_)
  refine lv_pop hx hb dJ0_checkIndex_df160_8 rfl ?_
  exact sk_vret C hM hS rfl dJ0_checkIndex_df160_9
theorem dJ1_charAt_3b067_0 : decode cJ1_charAt_3b067 0 = .ok (.iload_n 1, 1) := by decide +kernel
theorem dJ1_charAt_3b067_1 : decode cJ1_charAt_3b067 1 = .ok (.aload_n 0, 1) := by decide +kernel
theorem dJ1_charAt_3b067_2 : decode cJ1_charAt_3b067 2 = .ok (.arraylength, 1) := by decide +kernel
theorem dJ1_charAt_3b067_3 : decode cJ1_charAt_3b067 3 = .ok (.invokestatic 9, 3) := by decide +kernel
theorem dJ1_charAt_3b067_6 : decode cJ1_charAt_3b067 6 = .ok (.aload_n 0, 1) := by decide +kernel
theorem dJ1_charAt_3b067_7 : decode cJ1_charAt_3b067 7 = .ok (.iload_n 1, 1) := by decide +kernel
theorem dJ1_charAt_3b067_8 : decode cJ1_charAt_3b067 8 = .ok (.baload, 1) := by decide +kernel
theorem dJ1_charAt_3b067_9 : decode cJ1_charAt_3b067 9 = .ok (.sipush 255, 3) := by decide +kernel
theorem dJ1_charAt_3b067_12 : decode cJ1_charAt_3b067 12 = .ok (.iand, 1) := by decide +kernel
theorem dJ1_charAt_3b067_13 : decode cJ1_charAt_3b067 13 = .ok (.i2c, 1) := by decide +kernel
theorem dJ1_charAt_3b067_14 : decode cJ1_charAt_3b067 14 = .ok (.ireturn, 1) := by decide +kernel
theorem sk_i2c_n (x : Int32) : narrow .char (.int (sk_i2c x)) = .int (sk_i2c x) := by
  show Value.int _ = Value.int _
  unfold sk_i2c
  congr 1
  rw [show ((x.toUInt32 % 65536).toInt32).toUInt32 = x.toUInt32 % 65536 from rfl]
  congr 1
  apply UInt32.toNat_inj.mp
  simp [UInt32.toNat_mod]
set_option maxHeartbeats 4000000 in
set_option maxRecDepth 100000 in
theorem c_J1_charAt_3b067 (g : sk_G) (l : Launch) (o0 : Nat) (q0 : o0 < 14) (a1 : Int32) (M : sk_M) {rr : Int32} (h : f_J1_charAt_3b067 o0 a1 M = some rr) : sk_MI g l yJ1_charAt_3b067 cJ1_charAt_3b067 2 (some .char) 3 [.ref (sk_aV g o0), .int a1] M rr M := by
  refine sk_go [(0, .ref (sk_aV g o0)), (1, .int a1)] (by decide) (Nat.le_of_ble_eq_true rfl) rfl ?_
  intro p e s m av below meth c C ls hl hM hS
  obtain ⟨hx, hb, hml, hown, hts, hK, hE, hr, hlocks⟩ := id C
  rw [f_J1_charAt_3b067] at h
  refine lv_iload_n hx hb dJ1_charAt_3b067_0 rfl (lv_at hl 1 rfl) ?_
  refine lv_aload_n hx hb dJ1_charAt_3b067_1 rfl (lv_at hl 0 rfl) ?_
  refine va_tlen hx hb (hE.2.2.2.2.1.1 o0 q0).2.2.2 hS (v := (nI (sk_sl.getD o0 0))) rfl dJ1_charAt_3b067_2 ?_
  obtain ⟨_, h_1, h⟩ := sk_b1E h
  refine sk_contV (sk_runS (As := [.int a1, .int (nI (sk_sl.getD o0 0))]) (rest := []) C (c_J0_checkIndex_df160 g l a1 (nI (sk_sl.getD o0 0)) M h_1) yo_J0_checkIndex_df160 kw_693 (by decide) hM hS hl.1 rfl rfl (Nat.le_of_ble_eq_true rfl) dJ1_charAt_3b067_3) hS (fun H locs hM hS => ?_)
  refine lv_aload_n hx hb dJ1_charAt_3b067_6 rfl (lv_at hl 0 rfl) ?_
  refine lv_iload_n hx hb dJ1_charAt_3b067_7 rfl (lv_at hl 1 rfl) ?_
  obtain ⟨i_2, h⟩ := sk_chkE h
  refine va_tb hx hb (hE.2.2.2.2.1.1 o0 q0).2.2.2 hS (sk_in_vp i_2) rfl dJ1_charAt_3b067_8 ?_
  refine lv_sipush (v := 255) hx hb dJ1_charAt_3b067_9 (by decide) ?_
  refine lv_iand hx hb dJ1_charAt_3b067_12 ?_
  refine lv_i2c (v := (sk_i2c (((sk_sb.getD o0 []).getD a1.toNatClampNeg 0) &&& 255))) hx hb dJ1_charAt_3b067_13 rfl ?_
  exact sk_zret C hM hS (sk_i2c_n _) ⟨Option.some.inj h, rfl⟩ dJ1_charAt_3b067_14
theorem dJ0_charAt_5068e_0 : decode cJ0_charAt_5068e 0 = .ok (.aload_n 0, 1) := by decide +kernel
theorem dJ0_charAt_5068e_1 : decode cJ0_charAt_5068e 1 = .ok (.invokevirtual 492, 3) := by decide +kernel
theorem dJ0_charAt_5068e_4 : decode cJ0_charAt_5068e 4 = .ok (.ifCond .eq 12, 3) := by decide +kernel
theorem dJ0_charAt_5068e_7 : decode cJ0_charAt_5068e 7 = .ok (.aload_n 0, 1) := by decide +kernel
theorem dJ0_charAt_5068e_8 : decode cJ0_charAt_5068e 8 = .ok (.getfield 9, 3) := by decide +kernel
theorem dJ0_charAt_5068e_11 : decode cJ0_charAt_5068e 11 = .ok (.iload_n 1, 1) := by decide +kernel
theorem dJ0_charAt_5068e_12 : decode cJ0_charAt_5068e 12 = .ok (.invokestatic 495, 3) := by decide +kernel
theorem dJ0_charAt_5068e_15 : decode cJ0_charAt_5068e 15 = .ok (.ireturn, 1) := by decide +kernel
theorem dJ0_charAt_5068e_16 : decode cJ0_charAt_5068e 16 = .ok (.aload_n 0, 1) := by decide +kernel
theorem dJ0_charAt_5068e_17 : decode cJ0_charAt_5068e 17 = .ok (.getfield 9, 3) := by decide +kernel
theorem dJ0_charAt_5068e_20 : decode cJ0_charAt_5068e 20 = .ok (.iload_n 1, 1) := by decide +kernel
theorem dJ0_charAt_5068e_21 : decode cJ0_charAt_5068e 21 = .ok (.invokestatic 498, 3) := by decide +kernel
theorem dJ0_charAt_5068e_24 : decode cJ0_charAt_5068e 24 = .ok (.ireturn, 1) := by decide +kernel
theorem fn_J1_charAt_3b067 {o : Nat} {i x : Int32} {M : sk_M} (h : f_J1_charAt_3b067 o i M = some x) : narrow .char (.int x) = .int x := by
  rw [f_J1_charAt_3b067] at h
  obtain ⟨_, _, h⟩ := sk_b1E h
  obtain ⟨_, h⟩ := sk_chkE h
  cases h
  exact sk_i2c_n _
set_option maxHeartbeats 4000000 in
set_option maxRecDepth 100000 in
theorem c_J0_charAt_5068e (g : sk_G) (l : Launch) (o0 : Nat) (q0 : o0 < 14) (a1 : Int32) (M : sk_M) {rr : Int32} (h : f_J0_charAt_5068e o0 a1 M = some rr) : sk_MI g l yJ0_charAt_5068e cJ0_charAt_5068e 2 (some .char) 4 [.ref (sk_aK g o0), .int a1] M rr M := by
  refine sk_go [(0, .ref (sk_aK g o0)), (1, .int a1)] (by decide) (Nat.le_of_ble_eq_true rfl) rfl ?_
  intro p e s m av below meth c C ls hl hM hS
  obtain ⟨hx, hb, hml, hown, hts, hK, hE, hr, hlocks⟩ := id C
  rw [f_J0_charAt_5068e] at h
  refine lv_aload_n hx hb dJ0_charAt_5068e_0 rfl (lv_at hl 0 rfl) ?_
  refine sk_contI (sk_runV (As := []) (rest := []) C (c_J0_isLatin1_aae02 g l o0 q0 M rfl) yo_J0_isLatin1_aae02 kw_686 (vk_recv hE.2.2.2.2.1 q0 hS) (by decide) hM hS hl.1 rfl rfl (Nat.le_of_ble_eq_true rfl) dJ0_charAt_5068e_1) hS (fun H locs hM hS => ?_)
  refine W.eq (g2 := F0 m 4 ls [.int 1]) rfl ?_
  refine lv_if_eq hx hb dJ0_charAt_5068e_4 rfl (fun hc => absurd hc (by decide)) (fun hc => ?_)
  refine lv_aload_n hx hb dJ0_charAt_5068e_7 rfl (lv_at hl 0 rfl) ?_
  refine vk_getf hx hb (hE.2.2.2.2.1.1 o0 q0).2.2.1 hS hown (hts _ kw_1458) (fun _ h9 => h9) dJ0_charAt_5068e_8 ?_
  refine lv_iload_n hx hb dJ0_charAt_5068e_11 rfl (lv_at hl 1 rfl) ?_
  obtain ⟨x_2, h_3, h⟩ := sk_b1E h
  refine sk_contI (sk_runS (As := [.ref (sk_aV g o0), .int a1]) (rest := []) C (c_J1_charAt_3b067 g l o0 q0 a1 M h_3) yo_J1_charAt_3b067 kw_690 (by decide) hM hS hl.1 rfl rfl (Nat.le_of_ble_eq_true rfl) dJ0_charAt_5068e_12) hS (fun H locs hM hS => ?_)
  exact sk_zret C hM hS (fn_J1_charAt_3b067 h_3) ⟨Option.some.inj h, rfl⟩ dJ0_charAt_5068e_15
theorem dX0_isHere_0 : decode cX0_isHere 0 = .ok (.aload_n 0, 1) := by decide +kernel
theorem dX0_isHere_1 : decode cX0_isHere 1 = .ok (.getfield 25, 3) := by decide +kernel
theorem dX0_isHere_4 : decode cX0_isHere 4 = .ok (.aload_n 0, 1) := by decide +kernel
theorem dX0_isHere_5 : decode cX0_isHere 5 = .ok (.getfield 51, 3) := by decide +kernel
theorem dX0_isHere_8 : decode cX0_isHere 8 = .ok (.isub, 1) := by decide +kernel
theorem dX0_isHere_9 : decode cX0_isHere 9 = .ok (.aload_n 1, 1) := by decide +kernel
theorem dX0_isHere_10 : decode cX0_isHere 10 = .ok (.invokevirtual 71, 3) := by decide +kernel
theorem dX0_isHere_13 : decode cX0_isHere 13 = .ok (.if_icmp .eq 5, 3) := by decide +kernel
theorem dX0_isHere_16 : decode cX0_isHere 16 = .ok (.iconst 0, 1) := by decide +kernel
theorem dX0_isHere_17 : decode cX0_isHere 17 = .ok (.ireturn, 1) := by decide +kernel
theorem dX0_isHere_18 : decode cX0_isHere 18 = .ok (.iconst 0, 1) := by decide +kernel
theorem dX0_isHere_19 : decode cX0_isHere 19 = .ok (.istore_n 2, 1) := by decide +kernel
theorem dX0_isHere_20 : decode cX0_isHere 20 = .ok (.iload_n 2, 1) := by decide +kernel
theorem dX0_isHere_21 : decode cX0_isHere 21 = .ok (.aload_n 1, 1) := by decide +kernel
theorem dX0_isHere_22 : decode cX0_isHere 22 = .ok (.invokevirtual 71, 3) := by decide +kernel
theorem dX0_isHere_25 : decode cX0_isHere 25 = .ok (.if_icmp .ge 30, 3) := by decide +kernel
theorem dX0_isHere_28 : decode cX0_isHere 28 = .ok (.aload_n 0, 1) := by decide +kernel
theorem dX0_isHere_29 : decode cX0_isHere 29 = .ok (.getfield 9, 3) := by decide +kernel
theorem dX0_isHere_32 : decode cX0_isHere 32 = .ok (.aload_n 0, 1) := by decide +kernel
theorem dX0_isHere_33 : decode cX0_isHere 33 = .ok (.getfield 51, 3) := by decide +kernel
theorem dX0_isHere_36 : decode cX0_isHere 36 = .ok (.iload_n 2, 1) := by decide +kernel
theorem dX0_isHere_37 : decode cX0_isHere 37 = .ok (.iadd, 1) := by decide +kernel
theorem dX0_isHere_38 : decode cX0_isHere 38 = .ok (.iaload, 1) := by decide +kernel
theorem dX0_isHere_39 : decode cX0_isHere 39 = .ok (.aload_n 1, 1) := by decide +kernel
theorem dX0_isHere_40 : decode cX0_isHere 40 = .ok (.iload_n 2, 1) := by decide +kernel
theorem dX0_isHere_41 : decode cX0_isHere 41 = .ok (.invokevirtual 75, 3) := by decide +kernel
theorem dX0_isHere_44 : decode cX0_isHere 44 = .ok (.if_icmp .eq 5, 3) := by decide +kernel
theorem dX0_isHere_47 : decode cX0_isHere 47 = .ok (.iconst 0, 1) := by decide +kernel
theorem dX0_isHere_48 : decode cX0_isHere 48 = .ok (.ireturn, 1) := by decide +kernel
theorem dX0_isHere_49 : decode cX0_isHere 49 = .ok (.iinc 2 1, 3) := by decide +kernel
theorem dX0_isHere_52 : decode cX0_isHere 52 = .ok (.goto (-32), 3) := by decide +kernel
theorem dX0_isHere_55 : decode cX0_isHere 55 = .ok (.iconst 1, 1) := by decide +kernel
theorem dX0_isHere_56 : decode cX0_isHere 56 = .ok (.ireturn, 1) := by decide +kernel
set_option maxHeartbeats 4000000 in
set_option maxRecDepth 100000 in
theorem w_X0_isHere_L20 {g : sk_G} {l : Launch} {p : Program} {e : Env} {s : State} {m : MethodId} {av : Array Value} {below : List Frame} {meth : Method} {c : Code} (C : sk_C g p s m av meth c cX0_isHere 3 RX0 (some .boolean)) (o1 : Nat) (q1 : o1 < 14) (M : sk_M) {rr : Int32} :
    ∀ (n : Nat) (a2 : Int32) (H : Heap) (locs : List Loc) (ls : Array Slot), lv_has ls 3 [(0, .ref (sk_ad g 62)), (1, .ref (sk_aK g o1)), (2, .int a2)] → sk_P g M H → va_S (sk_A g) s.heap H locs → ∀ {out : (Int32) ⊕ (Unit)}, f_X0_isHere_L20 o1 M n a2 = some out → (∀ r, out = Sum.inl r → some r = some rr) → (∀  (H : Heap) (locs : List Loc) (ls : Array Slot), some (Sum.inr ()) = some out → lv_has ls 3 [] → sk_P g M H → va_S (sk_A g) s.heap H locs → W p l e (sk_rm 5) s m av below meth c H locs 0 0 (MQ below (sk_QI g rr M) av s 0 0 (sk_A g)) (F0 m 55 ls [])) → W p l e (sk_rm 5) s m av below meth c H locs 0 0 (MQ below (sk_QI g rr M) av s 0 0 (sk_A g)) (F0 m 20 ls []) := by
  obtain ⟨hx, hb, hml, hown, hts, hK, hE, hr, hlocks⟩ := id C
  intro n
  induction n with
  | zero =>
    intro a2 H locs ls hl hM hS out h
    cases h
  | succ n ih =>
    intro a2 H locs ls hl hM hS out h kr kx
    rw [f_X0_isHere_L20] at h
    refine lv_iload_n hx hb dX0_isHere_20 rfl (lv_at hl 2 rfl) ?_
    refine lv_aload_n hx hb dX0_isHere_21 rfl (lv_at hl 1 rfl) ?_
    refine sk_contI (sk_runV (As := []) (rest := [.int a2]) C (c_J0_length_8abf5 g l o1 q1 M rfl) yo_J0_length_8abf5 kw_672 (vk_recv hE.2.2.2.2.1 q1 hS) (by decide) hM hS hl.1 rfl rfl (Nat.le_of_ble_eq_true rfl) dX0_isHere_22) hS (fun H locs hM hS => ?_)
    refine lv_icmp_ge hx hb dX0_isHere_25 rfl (fun hc => ?_) (fun hc => ?_)
    · have h := sk_pos h hc
      exact kx  _ _ _ h (lv_sub hl [] rfl) hM hS
    · have h := sk_neg h hc
      refine lv_aload_n hx hb dX0_isHere_28 rfl (lv_at hl 0 rfl) ?_
      refine sk_getR (o := 62) (ci := 0) (j := 0) (t := 63) C hM rfl rfl (by decide) rfl rfl kw_120 dX0_isHere_29 ?_
      refine lv_aload_n hx hb dX0_isHere_32 rfl (lv_at hl 0 rfl) ?_
      refine sk_getI (o := 62) (ci := 0) (j := 3) C hM rfl rfl (by decide) rfl kw_125 dX0_isHere_33 ?_
      refine lv_iload_n hx hb dX0_isHere_36 rfl (lv_at hl 2 rfl) ?_
      refine lv_iadd hx hb dX0_isHere_37 ?_
      obtain ⟨i_3, h⟩ := sk_chkE h
      refine sk_iald (o := 63) C hM rfl i_3 dX0_isHere_38 ?_
      refine lv_aload_n hx hb dX0_isHere_39 rfl (lv_at hl 1 rfl) ?_
      refine lv_iload_n hx hb dX0_isHere_40 rfl (lv_at hl 2 rfl) ?_
      obtain ⟨x_4, h_5, h⟩ := sk_b1E h
      refine sk_contI (sk_runV (As := [.int a2]) (rest := [.int (M 63 ((M 62 3) + a2).toNatClampNeg)]) C (c_J0_charAt_5068e g l o1 q1 a2 M h_5) yo_J0_charAt_5068e kw_682 (vk_recv hE.2.2.2.2.1 q1 hS) (by decide) hM hS hl.1 rfl rfl (Nat.le_of_ble_eq_true rfl) dX0_isHere_41) hS (fun H locs hM hS => ?_)
      refine lv_icmp_eq hx hb dX0_isHere_44 rfl (fun hc => ?_) (fun hc => ?_)
      · have h := sk_pos h hc
        refine lv_iinc (v := (a2 + 1)) (lv' := [(2, .int (a2 + 1)), (0, .ref (sk_ad g 62)), (1, .ref (sk_aK g o1))]) hx hb dX0_isHere_49 hl (k := 2) rfl rfl (by decide) rfl (fun ls hl => ?_)
        refine lv_goto hx hb dX0_isHere_52 rfl ?_
        exact ih (a2 + 1) _ _ _ (lv_sub hl [1, 2, 0] rfl) hM hS h kr kx
      · have h := sk_neg h hc
        refine lv_iconst (v := 0) hx hb dX0_isHere_47 (by decide) ?_
        have h := kr _ (Option.some.inj h).symm
        exact sk_zret C hM hS (sk_nz (Or.inl rfl)) ⟨Option.some.inj h, rfl⟩ dX0_isHere_48
set_option maxHeartbeats 4000000 in
set_option maxRecDepth 100000 in
theorem c_X0_isHere (g : sk_G) (l : Launch) (o1 : Nat) (q1 : o1 < 14) (M : sk_M) {rr : Int32} (h : f_X0_isHere o1 M = some rr) : sk_MI g l yX0_isHere cX0_isHere 3 (some .boolean) 5 [.ref (sk_ad g 62), .ref (sk_aK g o1)] M rr M := by
  refine sk_go [(0, .ref (sk_ad g 62)), (1, .ref (sk_aK g o1))] (by decide) (Nat.le_of_ble_eq_true rfl) rfl ?_
  intro p e s m av below meth c C ls hl hM hS
  obtain ⟨hx, hb, hml, hown, hts, hK, hE, hr, hlocks⟩ := id C
  rw [f_X0_isHere] at h
  refine lv_aload_n hx hb dX0_isHere_0 rfl (lv_at hl 0 rfl) ?_
  refine sk_getI (o := 62) (ci := 0) (j := 4) C hM rfl rfl (by decide) rfl kw_126 dX0_isHere_1 ?_
  refine lv_aload_n hx hb dX0_isHere_4 rfl (lv_at hl 0 rfl) ?_
  refine sk_getI (o := 62) (ci := 0) (j := 3) C hM rfl rfl (by decide) rfl kw_125 dX0_isHere_5 ?_
  refine lv_isub hx hb dX0_isHere_8 ?_
  refine lv_aload_n hx hb dX0_isHere_9 rfl (lv_at hl 1 rfl) ?_
  refine sk_contI (sk_runV (As := []) (rest := [.int ((M 62 4) - (M 62 3))]) C (c_J0_length_8abf5 g l o1 q1 M rfl) yo_J0_length_8abf5 kw_672 (vk_recv hE.2.2.2.2.1 q1 hS) (by decide) hM hS hl.1 rfl rfl (Nat.le_of_ble_eq_true rfl) dX0_isHere_10) hS (fun H locs hM hS => ?_)
  refine lv_icmp_eq hx hb dX0_isHere_13 rfl (fun hc => ?_) (fun hc => ?_)
  · have h := sk_pos h hc
    refine lv_iconst (v := 0) hx hb dX0_isHere_18 (by decide) ?_
    refine lv_istore_n (lv' := [(2, .int 0), (0, .ref (sk_ad g 62)), (1, .ref (sk_aK g o1))]) hx hb dX0_isHere_19 rfl hl (by decide) rfl (fun ls hl => ?_)
    obtain ⟨out_7, h_6, kf_8, kg_9⟩ := sk_s0E h
    refine w_X0_isHere_L20 C o1 q1 M sk_FU 0 _ _ _ (lv_sub hl [1, 2, 0] rfl) hM hS h_6 kf_8 (fun  H locs ls he hl hM hS => ?_)
    have h := kg_9  (Option.some.inj he).symm
    refine lv_iconst (v := 1) hx hb dX0_isHere_55 (by decide) ?_
    exact sk_zret C hM hS (sk_nz (Or.inr rfl)) ⟨Option.some.inj h, rfl⟩ dX0_isHere_56
  · have h := sk_neg h hc
    refine lv_iconst (v := 0) hx hb dX0_isHere_16 (by decide) ?_
    exact sk_zret C hM hS (sk_nz (Or.inl rfl)) ⟨Option.some.inj h, rfl⟩ dX0_isHere_17
theorem dX0_keyHere_0 : decode cX0_keyHere 0 = .ok (.aload_n 0, 1) := by decide +kernel
theorem dX0_keyHere_1 : decode cX0_keyHere 1 = .ok (.ldc 61, 2) := by decide +kernel
theorem dX0_keyHere_3 : decode cX0_keyHere 3 = .ok (.invokevirtual 63, 3) := by decide +kernel
theorem dX0_keyHere_6 : decode cX0_keyHere 6 = .ok (.ifCond .eq 5, 3) := by decide +kernel
theorem dX0_keyHere_9 : decode cX0_keyHere 9 = .ok (.iconst 0, 1) := by decide +kernel
theorem dX0_keyHere_10 : decode cX0_keyHere 10 = .ok (.ireturn, 1) := by decide +kernel
theorem dX0_keyHere_11 : decode cX0_keyHere 11 = .ok (.aload_n 0, 1) := by decide +kernel
theorem dX0_keyHere_12 : decode cX0_keyHere 12 = .ok (.ldc 67, 2) := by decide +kernel
theorem dX0_keyHere_14 : decode cX0_keyHere 14 = .ok (.invokevirtual 63, 3) := by decide +kernel
theorem dX0_keyHere_17 : decode cX0_keyHere 17 = .ok (.ifCond .eq 5, 3) := by decide +kernel
theorem dX0_keyHere_20 : decode cX0_keyHere 20 = .ok (.iconst 1, 1) := by decide +kernel
theorem dX0_keyHere_21 : decode cX0_keyHere 21 = .ok (.ireturn, 1) := by decide +kernel
theorem dX0_keyHere_22 : decode cX0_keyHere 22 = .ok (.aload_n 0, 1) := by decide +kernel
theorem dX0_keyHere_23 : decode cX0_keyHere 23 = .ok (.ldc 69, 2) := by decide +kernel
theorem dX0_keyHere_25 : decode cX0_keyHere 25 = .ok (.invokevirtual 63, 3) := by decide +kernel
theorem dX0_keyHere_28 : decode cX0_keyHere 28 = .ok (.ifCond .eq 7, 3) := by decide +kernel
theorem dX0_keyHere_31 : decode cX0_keyHere 31 = .ok (.iconst 2, 1) := by decide +kernel
theorem dX0_keyHere_32 : decode cX0_keyHere 32 = .ok (.goto 4, 3) := by decide +kernel
theorem dX0_keyHere_35 : decode cX0_keyHere 35 = .ok (.iconst (-1), 1) := by decide +kernel
theorem dX0_keyHere_36 : decode cX0_keyHere 36 = .ok (.ireturn, 1) := by decide +kernel
set_option maxHeartbeats 4000000 in
set_option maxRecDepth 100000 in
theorem c_X0_keyHere (g : sk_G) (l : Launch)  (M : sk_M) {rr : Int32} (h : f_X0_keyHere M = some rr) : sk_MI g l yX0_keyHere cX0_keyHere 1 (some .int) 6 [.ref (sk_ad g 62)] M rr M := by
  refine sk_go [(0, .ref (sk_ad g 62))] (by decide) (Nat.le_of_ble_eq_true rfl) rfl ?_
  intro p e s m av below meth c C ls hl hM hS
  obtain ⟨hx, hb, hml, hown, hts, hK, hE, hr, hlocks⟩ := id C
  rw [f_X0_keyHere] at h
  refine lv_aload_n hx hb dX0_keyHere_0 rfl (lv_at hl 0 rfl) ?_
  refine va_ldcS (q := sk_aK g 0) hx hb hown (hE.2.2.2.2.2 0 (by decide)) dX0_keyHere_1 ?_
  obtain ⟨x_1, h_2, h⟩ := sk_b1E h
  refine sk_contI (sk_runV (As := [.ref (sk_aK g 0)]) (rest := []) C (c_X0_isHere g l 0 (by decide) M h_2) yo_X0_isHere kw_668 (sk_recv (ci := 0) C hM rfl rfl) (by decide) hM hS hl.1 rfl rfl (Nat.le_of_ble_eq_true rfl) dX0_keyHere_3) hS (fun H locs hM hS => ?_)
  refine lv_if_eq hx hb dX0_keyHere_6 rfl (fun hc => ?_) (fun hc => ?_)
  · have h := sk_pos h hc
    refine lv_aload_n hx hb dX0_keyHere_11 rfl (lv_at hl 0 rfl) ?_
    refine va_ldcS (q := sk_aK g 1) hx hb hown (hE.2.2.2.2.2 1 (by decide)) dX0_keyHere_12 ?_
    obtain ⟨x_3, h_4, h⟩ := sk_b1E h
    refine sk_contI (sk_runV (As := [.ref (sk_aK g 1)]) (rest := []) C (c_X0_isHere g l 1 (by decide) M h_4) yo_X0_isHere kw_668 (sk_recv (ci := 0) C hM rfl rfl) (by decide) hM hS hl.1 rfl rfl (Nat.le_of_ble_eq_true rfl) dX0_keyHere_14) hS (fun H locs hM hS => ?_)
    refine lv_if_eq hx hb dX0_keyHere_17 rfl (fun hc => ?_) (fun hc => ?_)
    · have h := sk_pos h hc
      refine lv_aload_n hx hb dX0_keyHere_22 rfl (lv_at hl 0 rfl) ?_
      refine va_ldcS (q := sk_aK g 2) hx hb hown (hE.2.2.2.2.2 2 (by decide)) dX0_keyHere_23 ?_
      obtain ⟨x_5, h_6, h⟩ := sk_b1E h
      refine sk_contI (sk_runV (As := [.ref (sk_aK g 2)]) (rest := []) C (c_X0_isHere g l 2 (by decide) M h_6) yo_X0_isHere kw_668 (sk_recv (ci := 0) C hM rfl rfl) (by decide) hM hS hl.1 rfl rfl (Nat.le_of_ble_eq_true rfl) dX0_keyHere_25) hS (fun H locs hM hS => ?_)
      have J : ∀ (vv : Int32) (H : Heap) (locs : List Loc), (if x_5 = 0 then (-1) else 2 : Int32) = vv → sk_P g M H → va_S (sk_A g) s.heap H locs → W p l e (sk_rm 6) s m av below meth c H locs 0 0 (MQ below (sk_QI g rr M) av s 0 0 (sk_A g)) (F0 m 36 ls [.int vv]) := by
        intro vv H locs hvv hM hS
        subst hvv
        exact sk_iret C hM hS ⟨Option.some.inj h, rfl⟩ dX0_keyHere_36
      refine lv_if_eq hx hb dX0_keyHere_28 rfl (fun hc => ?_) (fun hc => ?_)
      · have J := fun vv H locs q => J vv H locs ((if_pos hc).trans q)
        refine lv_iconst (v := (-1)) hx hb dX0_keyHere_35 (by decide) ?_
        exact J _ _ _ rfl hM hS
      · have J := fun vv H locs q => J vv H locs ((if_neg hc).trans q)
        refine lv_iconst (v := 2) hx hb dX0_keyHere_31 (by decide) ?_
        refine lv_goto hx hb dX0_keyHere_32 rfl ?_
        exact J _ _ _ rfl hM hS
    · have h := sk_neg h hc
      refine lv_iconst (v := 1) hx hb dX0_keyHere_20 (by decide) ?_
      exact sk_iret C hM hS ⟨Option.some.inj h, rfl⟩ dX0_keyHere_21
  · have h := sk_neg h hc
    refine lv_iconst (v := 0) hx hb dX0_keyHere_9 (by decide) ?_
    exact sk_iret C hM hS ⟨Option.some.inj h, rfl⟩ dX0_keyHere_10
theorem dX0_signsOf_0 : decode cX0_signsOf 0 = .ok (.iload_n 0, 1) := by decide +kernel
theorem dX0_signsOf_1 : decode cX0_signsOf 1 = .ok (.tableswitch 43 0 3 #[31, 34, 37, 40], 31) := by decide +kernel
theorem dX0_signsOf_32 : decode cX0_signsOf 32 = .ok (.ldc 83, 2) := by decide +kernel
theorem dX0_signsOf_34 : decode cX0_signsOf 34 = .ok (.areturn, 1) := by decide +kernel
theorem dX0_signsOf_35 : decode cX0_signsOf 35 = .ok (.ldc 85, 2) := by decide +kernel
theorem dX0_signsOf_37 : decode cX0_signsOf 37 = .ok (.areturn, 1) := by decide +kernel
theorem dX0_signsOf_38 : decode cX0_signsOf 38 = .ok (.ldc 87, 2) := by decide +kernel
theorem dX0_signsOf_40 : decode cX0_signsOf 40 = .ok (.areturn, 1) := by decide +kernel
theorem dX0_signsOf_41 : decode cX0_signsOf 41 = .ok (.ldc 89, 2) := by decide +kernel
theorem dX0_signsOf_43 : decode cX0_signsOf 43 = .ok (.areturn, 1) := by decide +kernel
theorem dX0_signsOf_44 : decode cX0_signsOf 44 = .ok (.ldc 91, 2) := by decide +kernel
theorem dX0_signsOf_46 : decode cX0_signsOf 46 = .ok (.areturn, 1) := by decide +kernel
set_option maxHeartbeats 4000000 in
set_option maxRecDepth 100000 in
theorem c_X0_signsOf (g : sk_G) (l : Launch) (a0 : Int32) (M : sk_M) {rr : Nat} (h : f_X0_signsOf a0 = rr) : sk_MS g l yX0_signsOf cX0_signsOf 1 (some (.object "java/lang/String")) 1 [.int a0] M rr M := by
  refine sk_go [(0, .int a0)] (by decide) (Nat.le_of_ble_eq_true rfl) rfl ?_
  intro p e s m av below meth c C ls hl hM hS
  obtain ⟨hx, hb, hml, hown, hts, hK, hE, hr, hlocks⟩ := id C
  rw [f_X0_signsOf] at h
  refine lv_iload_n hx hb dX0_signsOf_0 rfl (lv_at hl 0 rfl) ?_
  by_cases hk_1 : a0 = 0
  · refine lv_tableIn (off := 31) hx hb dX0_signsOf_1 (by rw [hk_1]; decide) (by rw [hk_1]; decide) (by rw [hk_1]; rfl) rfl ?_
    have h := sk_pos h hk_1
    refine va_ldcS (q := sk_aK g 3) hx hb hown (hE.2.2.2.2.2 3 (by decide)) dX0_signsOf_32 ?_
    exact sk_sret C hM hS ⟨h, rfl⟩ dX0_signsOf_34
  have h := sk_neg h hk_1
  by_cases hk_2 : a0 = 1
  · refine lv_tableIn (off := 34) hx hb dX0_signsOf_1 (by rw [hk_2]; decide) (by rw [hk_2]; decide) (by rw [hk_2]; rfl) rfl ?_
    have h := sk_pos h hk_2
    refine va_ldcS (q := sk_aK g 4) hx hb hown (hE.2.2.2.2.2 4 (by decide)) dX0_signsOf_35 ?_
    exact sk_sret C hM hS ⟨h, rfl⟩ dX0_signsOf_37
  have h := sk_neg h hk_2
  by_cases hk_3 : a0 = 2
  · refine lv_tableIn (off := 37) hx hb dX0_signsOf_1 (by rw [hk_3]; decide) (by rw [hk_3]; decide) (by rw [hk_3]; rfl) rfl ?_
    have h := sk_pos h hk_3
    refine va_ldcS (q := sk_aK g 5) hx hb hown (hE.2.2.2.2.2 5 (by decide)) dX0_signsOf_38 ?_
    exact sk_sret C hM hS ⟨h, rfl⟩ dX0_signsOf_40
  have h := sk_neg h hk_3
  by_cases hk_4 : a0 = 3
  · refine lv_tableIn (off := 40) hx hb dX0_signsOf_1 (by rw [hk_4]; decide) (by rw [hk_4]; decide) (by rw [hk_4]; rfl) rfl ?_
    have h := sk_pos h hk_4
    refine va_ldcS (q := sk_aK g 6) hx hb hown (hE.2.2.2.2.2 6 (by decide)) dX0_signsOf_41 ?_
    exact sk_sret C hM hS ⟨h, rfl⟩ dX0_signsOf_43
  have h := sk_neg h hk_4
  refine lv_tableOut hx hb dX0_signsOf_1 (by have zhk_1 := sk_tn hk_1 (z := 0) rfl; have zhk_2 := sk_tn hk_2 (z := 1) rfl; have zhk_3 := sk_tn hk_3 (z := 2) rfl; have zhk_4 := sk_tn hk_4 (z := 3) rfl; omega) rfl ?_
  refine va_ldcS (q := sk_aK g 7) hx hb hown (hE.2.2.2.2.2 7 (by decide)) dX0_signsOf_44 ?_
  exact sk_sret C hM hS ⟨h, rfl⟩ dX0_signsOf_46
theorem dJ1_canEncode_9a6ad_0 : decode cJ1_canEncode_9a6ad 0 = .ok (.iload_n 0, 1) := by decide +kernel
theorem dJ1_canEncode_9a6ad_1 : decode cJ1_canEncode_9a6ad 1 = .ok (.ifCond .lt 14, 3) := by decide +kernel
theorem dJ1_canEncode_9a6ad_4 : decode cJ1_canEncode_9a6ad 4 = .ok (.iload_n 0, 1) := by decide +kernel
theorem dJ1_canEncode_9a6ad_5 : decode cJ1_canEncode_9a6ad 5 = .ok (.sipush 255, 3) := by decide +kernel
theorem dJ1_canEncode_9a6ad_8 : decode cJ1_canEncode_9a6ad 8 = .ok (.if_icmp .gt 7, 3) := by decide +kernel
theorem dJ1_canEncode_9a6ad_11 : decode cJ1_canEncode_9a6ad 11 = .ok (.iconst 1, 1) := by decide +kernel
theorem dJ1_canEncode_9a6ad_12 : decode cJ1_canEncode_9a6ad 12 = .ok (.goto 4, 3) := by decide +kernel
theorem dJ1_canEncode_9a6ad_15 : decode cJ1_canEncode_9a6ad 15 = .ok (.iconst 0, 1) := by decide +kernel
theorem dJ1_canEncode_9a6ad_16 : decode cJ1_canEncode_9a6ad 16 = .ok (.ireturn, 1) := by decide +kernel
set_option maxHeartbeats 4000000 in
set_option maxRecDepth 100000 in
theorem c_J1_canEncode_9a6ad (g : sk_G) (l : Launch) (a0 : Int32) (M : sk_M) {rr : Int32} (h : f_J1_canEncode_9a6ad a0 = rr) : sk_MI g l yJ1_canEncode_9a6ad cJ1_canEncode_9a6ad 1 (some .boolean) 1 [.int a0] M rr M := by
  refine sk_go [(0, .int a0)] (by decide) (Nat.le_of_ble_eq_true rfl) rfl ?_
  intro p e s m av below meth c C ls hl hM hS
  obtain ⟨hx, hb, hml, hown, hts, hK, hE, hr, hlocks⟩ := id C
  rw [f_J1_canEncode_9a6ad] at h
  refine lv_iload_n hx hb dJ1_canEncode_9a6ad_0 rfl (lv_at hl 0 rfl) ?_
  have J : ∀ (vv : Int32) (H : Heap) (locs : List Loc), (if a0 < 0 then 0 else (if 255 < a0 then 0 else 1 : Int32) : Int32) = vv → sk_P g M H → va_S (sk_A g) s.heap H locs → W p l e (sk_rm 1) s m av below meth c H locs 0 0 (MQ below (sk_QI g rr M) av s 0 0 (sk_A g)) (F0 m 16 ls [.int vv]) := by
    intro vv H locs hvv hM hS
    subst hvv
    exact sk_zret C hM hS (sk_nz (sk_zi (Or.inl rfl) (sk_zi (Or.inl rfl) (Or.inr rfl)))) ⟨h, rfl⟩ dJ1_canEncode_9a6ad_16
  refine lv_if_lt hx hb dJ1_canEncode_9a6ad_1 rfl (fun hc => ?_) (fun hc => ?_)
  · have J := fun vv H locs q => J vv H locs ((if_pos hc).trans q)
    refine lv_iconst (v := 0) hx hb dJ1_canEncode_9a6ad_15 (by decide) ?_
    exact J _ _ _ rfl hM hS
  · have J := fun vv H locs q => J vv H locs ((if_neg hc).trans q)
    refine lv_iload_n hx hb dJ1_canEncode_9a6ad_4 rfl (lv_at hl 0 rfl) ?_
    refine lv_sipush (v := 255) hx hb dJ1_canEncode_9a6ad_5 (by decide) ?_
    refine lv_icmp_gt hx hb dJ1_canEncode_9a6ad_8 rfl (fun hc => ?_) (fun hc => ?_)
    · have J := fun vv H locs q => J vv H locs ((if_pos hc).trans q)
      refine lv_iconst (v := 0) hx hb dJ1_canEncode_9a6ad_15 (by decide) ?_
      exact J _ _ _ rfl hM hS
    · have J := fun vv H locs q => J vv H locs ((if_neg hc).trans q)
      refine lv_iconst (v := 1) hx hb dJ1_canEncode_9a6ad_11 (by decide) ?_
      refine lv_goto hx hb dJ1_canEncode_9a6ad_12 rfl ?_
      exact J _ _ _ rfl hM hS
theorem dJ1_indexOfChar_4cfef_0 : decode cJ1_indexOfChar_4cfef 0 = .ok (.iload_n 1, 1) := by decide +kernel
theorem dJ1_indexOfChar_4cfef_1 : decode cJ1_indexOfChar_4cfef 1 = .ok (.i2b, 1) := by decide +kernel
theorem dJ1_indexOfChar_4cfef_2 : decode cJ1_indexOfChar_4cfef 2 = .ok (.istore 4, 2) := by decide +kernel
theorem dJ1_indexOfChar_4cfef_4 : decode cJ1_indexOfChar_4cfef 4 = .ok (.iload_n 2, 1) := by decide +kernel
theorem dJ1_indexOfChar_4cfef_5 : decode cJ1_indexOfChar_4cfef 5 = .ok (.istore 5, 2) := by decide +kernel
theorem dJ1_indexOfChar_4cfef_7 : decode cJ1_indexOfChar_4cfef 7 = .ok (.iload 5, 2) := by decide +kernel
theorem dJ1_indexOfChar_4cfef_9 : decode cJ1_indexOfChar_4cfef 9 = .ok (.iload_n 3, 1) := by decide +kernel
theorem dJ1_indexOfChar_4cfef_10 : decode cJ1_indexOfChar_4cfef 10 = .ok (.if_icmp .ge 21, 3) := by decide +kernel
theorem dJ1_indexOfChar_4cfef_13 : decode cJ1_indexOfChar_4cfef 13 = .ok (.aload_n 0, 1) := by decide +kernel
theorem dJ1_indexOfChar_4cfef_14 : decode cJ1_indexOfChar_4cfef 14 = .ok (.iload 5, 2) := by decide +kernel
theorem dJ1_indexOfChar_4cfef_16 : decode cJ1_indexOfChar_4cfef 16 = .ok (.baload, 1) := by decide +kernel
theorem dJ1_indexOfChar_4cfef_17 : decode cJ1_indexOfChar_4cfef 17 = .ok (.iload 4, 2) := by decide +kernel
theorem dJ1_indexOfChar_4cfef_19 : decode cJ1_indexOfChar_4cfef 19 = .ok (.if_icmp .ne 6, 3) := by decide +kernel
theorem dJ1_indexOfChar_4cfef_22 : decode cJ1_indexOfChar_4cfef 22 = .ok (.iload 5, 2) := by decide +kernel
theorem dJ1_indexOfChar_4cfef_24 : decode cJ1_indexOfChar_4cfef 24 = .ok (.ireturn, 1) := by decide +kernel
theorem dJ1_indexOfChar_4cfef_25 : decode cJ1_indexOfChar_4cfef 25 = .ok (.iinc 5 1, 3) := by decide +kernel
theorem dJ1_indexOfChar_4cfef_28 : decode cJ1_indexOfChar_4cfef 28 = .ok (.goto (-21), 3) := by decide +kernel
theorem dJ1_indexOfChar_4cfef_31 : decode cJ1_indexOfChar_4cfef 31 = .ok (.iconst (-1), 1) := by decide +kernel
theorem dJ1_indexOfChar_4cfef_32 : decode cJ1_indexOfChar_4cfef 32 = .ok (.ireturn, 1) := by decide +kernel
set_option maxHeartbeats 4000000 in
set_option maxRecDepth 100000 in
theorem w_J1_indexOfChar_4cfef_L7 {g : sk_G} {l : Launch} {p : Program} {e : Env} {s : State} {m : MethodId} {av : Array Value} {below : List Frame} {meth : Method} {c : Code} (C : sk_C g p s m av meth c cJ1_indexOfChar_4cfef 6 RJ1 (some .int)) (o0 : Nat) (q0 : o0 < 14) (a3 : Int32) (a4 : Int32) (M : sk_M) {rr : Int32} :
    ∀ (n : Nat) (a5 : Int32) (H : Heap) (locs : List Loc) (ls : Array Slot), lv_has ls 6 [(0, .ref (sk_aV g o0)), (3, .int a3), (4, .int a4), (5, .int a5)] → sk_P g M H → va_S (sk_A g) s.heap H locs → ∀ {out : (Int32) ⊕ (Unit)}, f_J1_indexOfChar_4cfef_L7 o0 a3 a4 M n a5 = some out → (∀ r, out = Sum.inl r → some r = some rr) → (∀  (H : Heap) (locs : List Loc) (ls : Array Slot), some (Sum.inr ()) = some out → lv_has ls 6 [] → sk_P g M H → va_S (sk_A g) s.heap H locs → W p l e (sk_rm 1) s m av below meth c H locs 0 0 (MQ below (sk_QI g rr M) av s 0 0 (sk_A g)) (F0 m 31 ls [])) → W p l e (sk_rm 1) s m av below meth c H locs 0 0 (MQ below (sk_QI g rr M) av s 0 0 (sk_A g)) (F0 m 7 ls []) := by
  obtain ⟨hx, hb, hml, hown, hts, hK, hE, hr, hlocks⟩ := id C
  intro n
  induction n with
  | zero =>
    intro a5 H locs ls hl hM hS out h
    cases h
  | succ n ih =>
    intro a5 H locs ls hl hM hS out h kr kx
    rw [f_J1_indexOfChar_4cfef_L7] at h
    refine lv_iload hx hb dJ1_indexOfChar_4cfef_7 (lv_at hl 3 rfl) ?_
    refine lv_iload_n hx hb dJ1_indexOfChar_4cfef_9 rfl (lv_at hl 1 rfl) ?_
    refine lv_icmp_ge hx hb dJ1_indexOfChar_4cfef_10 rfl (fun hc => ?_) (fun hc => ?_)
    · have h := sk_pos h hc
      exact kx  _ _ _ h (lv_sub hl [] rfl) hM hS
    · have h := sk_neg h hc
      refine lv_aload_n hx hb dJ1_indexOfChar_4cfef_13 rfl (lv_at hl 0 rfl) ?_
      refine lv_iload hx hb dJ1_indexOfChar_4cfef_14 (lv_at hl 3 rfl) ?_
      obtain ⟨i_2, h⟩ := sk_chkE h
      refine va_tb hx hb (hE.2.2.2.2.1.1 o0 q0).2.2.2 hS (sk_in_vp i_2) rfl dJ1_indexOfChar_4cfef_16 ?_
      refine lv_iload hx hb dJ1_indexOfChar_4cfef_17 (lv_at hl 2 rfl) ?_
      refine lv_icmp_ne hx hb dJ1_indexOfChar_4cfef_19 rfl (fun hc => ?_) (fun hc => ?_)
      · have h := sk_neg h hc
        refine lv_iinc (v := (a5 + 1)) (lv' := [(5, .int (a5 + 1)), (0, .ref (sk_aV g o0)), (3, .int a3), (4, .int a4)]) hx hb dJ1_indexOfChar_4cfef_25 hl (k := 3) rfl rfl (by decide) rfl (fun ls hl => ?_)
        refine lv_goto hx hb dJ1_indexOfChar_4cfef_28 rfl ?_
        exact ih (a5 + 1) _ _ _ (lv_sub hl [1, 2, 3, 0] rfl) hM hS h kr kx
      · have h := sk_pos h hc
        refine lv_iload hx hb dJ1_indexOfChar_4cfef_22 (lv_at hl 3 rfl) ?_
        have h := kr _ (Option.some.inj h).symm
        exact sk_iret C hM hS ⟨Option.some.inj h, rfl⟩ dJ1_indexOfChar_4cfef_24
set_option maxHeartbeats 4000000 in
set_option maxRecDepth 100000 in
theorem c_J1_indexOfChar_4cfef (g : sk_G) (l : Launch) (o0 : Nat) (q0 : o0 < 14) (a1 : Int32) (a2 : Int32) (a3 : Int32) (M : sk_M) {rr : Int32} (h : f_J1_indexOfChar_4cfef o0 a1 a2 a3 M = some rr) : sk_MI g l yJ1_indexOfChar_4cfef cJ1_indexOfChar_4cfef 6 (some .int) 1 [.ref (sk_aV g o0), .int a1, .int a2, .int a3] M rr M := by
  refine sk_go [(0, .ref (sk_aV g o0)), (1, .int a1), (2, .int a2), (3, .int a3)] (by decide) (Nat.le_of_ble_eq_true rfl) rfl ?_
  intro p e s m av below meth c C ls hl hM hS
  obtain ⟨hx, hb, hml, hown, hts, hK, hE, hr, hlocks⟩ := id C
  rw [f_J1_indexOfChar_4cfef] at h
  refine lv_iload_n hx hb dJ1_indexOfChar_4cfef_0 rfl (lv_at hl 1 rfl) ?_
  refine lv_i2b (v := (sk_i2b a1)) hx hb dJ1_indexOfChar_4cfef_1 rfl ?_
  refine lv_topi (fun x_1 ex_1 => ?_)
  have h := sk_letU h ex_1
  refine lv_istore (lv' := [(4, .int x_1), (0, .ref (sk_aV g o0)), (1, .int a1), (2, .int a2), (3, .int a3)]) hx hb dJ1_indexOfChar_4cfef_2 hl (by decide) rfl (fun ls hl => ?_)
  refine lv_iload_n hx hb dJ1_indexOfChar_4cfef_4 rfl (lv_at hl 3 rfl) ?_
  refine lv_istore (lv' := [(5, .int a2), (4, .int x_1), (0, .ref (sk_aV g o0)), (1, .int a1), (2, .int a2), (3, .int a3)]) hx hb dJ1_indexOfChar_4cfef_5 hl (by decide) rfl (fun ls hl => ?_)
  obtain ⟨out_4, h_3, kf_5, kg_6⟩ := sk_s0E h
  refine w_J1_indexOfChar_4cfef_L7 C o0 q0 a3 x_1 M sk_FU a2 _ _ _ (lv_sub hl [2, 5, 1, 0] rfl) hM hS h_3 kf_5 (fun  H locs ls he hl hM hS => ?_)
  have h := kg_6  (Option.some.inj he).symm
  refine lv_iconst (v := (-1)) hx hb dJ1_indexOfChar_4cfef_31 (by decide) ?_
  exact sk_iret C hM hS ⟨Option.some.inj h, rfl⟩ dJ1_indexOfChar_4cfef_32
theorem dJ1_indexOf_4cfef_0 : decode cJ1_indexOf_4cfef 0 = .ok (.iload_n 1, 1) := by decide +kernel
theorem dJ1_indexOf_4cfef_1 : decode cJ1_indexOf_4cfef 1 = .ok (.invokestatic 88, 3) := by decide +kernel
theorem dJ1_indexOf_4cfef_4 : decode cJ1_indexOf_4cfef 4 = .ok (.ifCond .ne 5, 3) := by decide +kernel
theorem dJ1_indexOf_4cfef_7 : decode cJ1_indexOf_4cfef 7 = .ok (.iconst (-1), 1) := by decide +kernel
theorem dJ1_indexOf_4cfef_8 : decode cJ1_indexOf_4cfef 8 = .ok (.ireturn, 1) := by decide +kernel
theorem dJ1_indexOf_4cfef_9 : decode cJ1_indexOf_4cfef 9 = .ok (.iload_n 2, 1) := by decide +kernel
theorem dJ1_indexOf_4cfef_10 : decode cJ1_indexOf_4cfef 10 = .ok (.iconst 0, 1) := by decide +kernel
theorem dJ1_indexOf_4cfef_11 : decode cJ1_indexOf_4cfef 11 = .ok (.invokestatic 92, 3) := by decide +kernel
theorem dJ1_indexOf_4cfef_14 : decode cJ1_indexOf_4cfef 14 = .ok (.istore_n 2, 1) := by decide +kernel
theorem dJ1_indexOf_4cfef_15 : decode cJ1_indexOf_4cfef 15 = .ok (.iload_n 3, 1) := by decide +kernel
theorem dJ1_indexOf_4cfef_16 : decode cJ1_indexOf_4cfef 16 = .ok (.aload_n 0, 1) := by decide +kernel
theorem dJ1_indexOf_4cfef_17 : decode cJ1_indexOf_4cfef 17 = .ok (.arraylength, 1) := by decide +kernel
theorem dJ1_indexOf_4cfef_18 : decode cJ1_indexOf_4cfef 18 = .ok (.invokestatic 38, 3) := by decide +kernel
theorem dJ1_indexOf_4cfef_21 : decode cJ1_indexOf_4cfef 21 = .ok (.istore_n 3, 1) := by decide +kernel
theorem dJ1_indexOf_4cfef_22 : decode cJ1_indexOf_4cfef 22 = .ok (.iload_n 2, 1) := by decide +kernel
theorem dJ1_indexOf_4cfef_23 : decode cJ1_indexOf_4cfef 23 = .ok (.iload_n 3, 1) := by decide +kernel
theorem dJ1_indexOf_4cfef_24 : decode cJ1_indexOf_4cfef 24 = .ok (.if_icmp .lt 5, 3) := by decide +kernel
theorem dJ1_indexOf_4cfef_27 : decode cJ1_indexOf_4cfef 27 = .ok (.iconst (-1), 1) := by decide +kernel
theorem dJ1_indexOf_4cfef_28 : decode cJ1_indexOf_4cfef 28 = .ok (.ireturn, 1) := by decide +kernel
theorem dJ1_indexOf_4cfef_29 : decode cJ1_indexOf_4cfef 29 = .ok (.aload_n 0, 1) := by decide +kernel
theorem dJ1_indexOf_4cfef_30 : decode cJ1_indexOf_4cfef 30 = .ok (.iload_n 1, 1) := by decide +kernel
theorem dJ1_indexOf_4cfef_31 : decode cJ1_indexOf_4cfef 31 = .ok (.iload_n 2, 1) := by decide +kernel
theorem dJ1_indexOf_4cfef_32 : decode cJ1_indexOf_4cfef 32 = .ok (.iload_n 3, 1) := by decide +kernel
theorem dJ1_indexOf_4cfef_33 : decode cJ1_indexOf_4cfef 33 = .ok (.invokestatic 95, 3) := by decide +kernel
theorem dJ1_indexOf_4cfef_36 : decode cJ1_indexOf_4cfef 36 = .ok (.ireturn, 1) := by decide +kernel
set_option maxHeartbeats 4000000 in
set_option maxRecDepth 100000 in
theorem c_J1_indexOf_4cfef (g : sk_G) (l : Launch) (o0 : Nat) (q0 : o0 < 14) (a1 : Int32) (a2 : Int32) (a3 : Int32) (M : sk_M) {rr : Int32} (h : f_J1_indexOf_4cfef o0 a1 a2 a3 M = some rr) : sk_MI g l yJ1_indexOf_4cfef cJ1_indexOf_4cfef 4 (some .int) 2 [.ref (sk_aV g o0), .int a1, .int a2, .int a3] M rr M := by
  refine sk_go [(0, .ref (sk_aV g o0)), (1, .int a1), (2, .int a2), (3, .int a3)] (by decide) (Nat.le_of_ble_eq_true rfl) rfl ?_
  intro p e s m av below meth c C ls hl hM hS
  obtain ⟨hx, hb, hml, hown, hts, hK, hE, hr, hlocks⟩ := id C
  rw [f_J1_indexOf_4cfef] at h
  refine lv_iload_n hx hb dJ1_indexOf_4cfef_0 rfl (lv_at hl 1 rfl) ?_
  refine sk_contI (sk_runS (As := [.int a1]) (rest := []) C (c_J1_canEncode_9a6ad g l a1 M rfl) yo_J1_canEncode_9a6ad kw_747 (by decide) hM hS hl.1 rfl rfl (Nat.le_of_ble_eq_true rfl) dJ1_indexOf_4cfef_1) hS (fun H locs hM hS => ?_)
  refine lv_if_ne hx hb dJ1_indexOf_4cfef_4 rfl (fun hc => ?_) (fun hc => ?_)
  · have h := sk_neg h hc
    refine lv_iload_n hx hb dJ1_indexOf_4cfef_9 rfl (lv_at hl 2 rfl) ?_
    refine lv_iconst (v := 0) hx hb dJ1_indexOf_4cfef_10 (by decide) ?_
    refine sk_mmax (d := 2) C hl.1 sk_wmax kw_750 (by decide) (Nat.le_of_ble_eq_true rfl) dJ1_indexOf_4cfef_11 ?_
    refine lv_topi (fun x_2 ex_2 => ?_)
    have h := sk_letU h ex_2
    refine lv_istore_n (lv' := [(2, .int x_2), (0, .ref (sk_aV g o0)), (1, .int a1), (3, .int a3)]) hx hb dJ1_indexOf_4cfef_14 rfl hl (by decide) rfl (fun ls hl => ?_)
    refine lv_iload_n hx hb dJ1_indexOf_4cfef_15 rfl (lv_at hl 3 rfl) ?_
    refine lv_aload_n hx hb dJ1_indexOf_4cfef_16 rfl (lv_at hl 1 rfl) ?_
    refine va_tlen hx hb (hE.2.2.2.2.1.1 o0 q0).2.2.2 hS (v := (nI (sk_sl.getD o0 0))) rfl dJ1_indexOf_4cfef_17 ?_
    refine sk_mmin (d := 2) C hl.1 sk_wmin kw_751 (by decide) (Nat.le_of_ble_eq_true rfl) dJ1_indexOf_4cfef_18 ?_
    refine lv_topi (fun x_3 ex_3 => ?_)
    have h := sk_letU h ex_3
    refine lv_istore_n (lv' := [(3, .int x_3), (2, .int x_2), (0, .ref (sk_aV g o0)), (1, .int a1)]) hx hb dJ1_indexOf_4cfef_21 rfl hl (by decide) rfl (fun ls hl => ?_)
    refine lv_iload_n hx hb dJ1_indexOf_4cfef_22 rfl (lv_at hl 1 rfl) ?_
    refine lv_iload_n hx hb dJ1_indexOf_4cfef_23 rfl (lv_at hl 0 rfl) ?_
    refine lv_icmp_lt hx hb dJ1_indexOf_4cfef_24 rfl (fun hc => ?_) (fun hc => ?_)
    · have h := sk_pos h hc
      refine lv_aload_n hx hb dJ1_indexOf_4cfef_29 rfl (lv_at hl 2 rfl) ?_
      refine lv_iload_n hx hb dJ1_indexOf_4cfef_30 rfl (lv_at hl 3 rfl) ?_
      refine lv_iload_n hx hb dJ1_indexOf_4cfef_31 rfl (lv_at hl 1 rfl) ?_
      refine lv_iload_n hx hb dJ1_indexOf_4cfef_32 rfl (lv_at hl 0 rfl) ?_
      obtain ⟨x_4, h_5, h⟩ := sk_b1E h
      refine sk_contI (sk_runS (As := [.ref (sk_aV g o0), .int a1, .int x_2, .int x_3]) (rest := []) C (c_J1_indexOfChar_4cfef g l o0 q0 a1 x_2 x_3 M h_5) yo_J1_indexOfChar_4cfef kw_752 (by decide) hM hS hl.1 rfl rfl (Nat.le_of_ble_eq_true rfl) dJ1_indexOf_4cfef_33) hS (fun H locs hM hS => ?_)
      exact sk_iret C hM hS ⟨Option.some.inj h, rfl⟩ dJ1_indexOf_4cfef_36
    · have h := sk_neg h hc
      refine lv_iconst (v := (-1)) hx hb dJ1_indexOf_4cfef_27 (by decide) ?_
      exact sk_iret C hM hS ⟨Option.some.inj h, rfl⟩ dJ1_indexOf_4cfef_28
  · have h := sk_pos h hc
    refine lv_iconst (v := (-1)) hx hb dJ1_indexOf_4cfef_7 (by decide) ?_
    exact sk_iret C hM hS ⟨Option.some.inj h, rfl⟩ dJ1_indexOf_4cfef_8
theorem dJ0_indexOf_7cf53_0 : decode cJ0_indexOf_7cf53 0 = .ok (.aload_n 0, 1) := by decide +kernel
theorem dJ0_indexOf_7cf53_1 : decode cJ0_indexOf_7cf53 1 = .ok (.invokevirtual 492, 3) := by decide +kernel
theorem dJ0_indexOf_7cf53_4 : decode cJ0_indexOf_7cf53 4 = .ok (.ifCond .eq 19, 3) := by decide +kernel
theorem dJ0_indexOf_7cf53_7 : decode cJ0_indexOf_7cf53 7 = .ok (.aload_n 0, 1) := by decide +kernel
theorem dJ0_indexOf_7cf53_8 : decode cJ0_indexOf_7cf53 8 = .ok (.getfield 9, 3) := by decide +kernel
theorem dJ0_indexOf_7cf53_11 : decode cJ0_indexOf_7cf53 11 = .ok (.iload_n 1, 1) := by decide +kernel
theorem dJ0_indexOf_7cf53_12 : decode cJ0_indexOf_7cf53 12 = .ok (.iload_n 2, 1) := by decide +kernel
theorem dJ0_indexOf_7cf53_13 : decode cJ0_indexOf_7cf53 13 = .ok (.aload_n 0, 1) := by decide +kernel
theorem dJ0_indexOf_7cf53_14 : decode cJ0_indexOf_7cf53 14 = .ok (.invokevirtual 505, 3) := by decide +kernel
theorem dJ0_indexOf_7cf53_17 : decode cJ0_indexOf_7cf53 17 = .ok (.invokestatic 637, 3) := by decide +kernel
theorem dJ0_indexOf_7cf53_20 : decode cJ0_indexOf_7cf53 20 = .ok (.goto 16, 3) := by decide +kernel
theorem dJ0_indexOf_7cf53_23 : decode cJ0_indexOf_7cf53 23 = .ok (.aload_n 0, 1) := by decide +kernel
theorem dJ0_indexOf_7cf53_24 : decode cJ0_indexOf_7cf53 24 = .ok (.getfield 9, 3) := by decide +kernel
theorem dJ0_indexOf_7cf53_27 : decode cJ0_indexOf_7cf53 27 = .ok (.iload_n 1, 1) := by decide +kernel
theorem dJ0_indexOf_7cf53_28 : decode cJ0_indexOf_7cf53 28 = .ok (.iload_n 2, 1) := by decide +kernel
theorem dJ0_indexOf_7cf53_29 : decode cJ0_indexOf_7cf53 29 = .ok (.aload_n 0, 1) := by decide +kernel
theorem dJ0_indexOf_7cf53_30 : decode cJ0_indexOf_7cf53 30 = .ok (.invokevirtual 505, 3) := by decide +kernel
theorem dJ0_indexOf_7cf53_33 : decode cJ0_indexOf_7cf53 33 = .ok (.invokestatic 640, 3) := by decide +kernel
theorem dJ0_indexOf_7cf53_36 : decode cJ0_indexOf_7cf53 36 = .ok (.ireturn, 1) := by decide +kernel
set_option maxHeartbeats 4000000 in
set_option maxRecDepth 100000 in
theorem c_J0_indexOf_7cf53 (g : sk_G) (l : Launch) (o0 : Nat) (q0 : o0 < 14) (a1 : Int32) (a2 : Int32) (M : sk_M) {rr : Int32} (h : f_J0_indexOf_7cf53 o0 a1 a2 M = some rr) : sk_MI g l yJ0_indexOf_7cf53 cJ0_indexOf_7cf53 3 (some .int) 3 [.ref (sk_aK g o0), .int a1, .int a2] M rr M := by
  refine sk_go [(0, .ref (sk_aK g o0)), (1, .int a1), (2, .int a2)] (by decide) (Nat.le_of_ble_eq_true rfl) rfl ?_
  intro p e s m av below meth c C ls hl hM hS
  obtain ⟨hx, hb, hml, hown, hts, hK, hE, hr, hlocks⟩ := id C
  rw [f_J0_indexOf_7cf53] at h
  refine lv_aload_n hx hb dJ0_indexOf_7cf53_0 rfl (lv_at hl 0 rfl) ?_
  refine sk_contI (sk_runV (As := []) (rest := []) C (c_J0_isLatin1_aae02 g l o0 q0 M rfl) yo_J0_isLatin1_aae02 kw_686 (vk_recv hE.2.2.2.2.1 q0 hS) (by decide) hM hS hl.1 rfl rfl (Nat.le_of_ble_eq_true rfl) dJ0_indexOf_7cf53_1) hS (fun H locs hM hS => ?_)
  refine W.eq (g2 := F0 m 4 ls [.int 1]) rfl ?_
  refine lv_if_eq hx hb dJ0_indexOf_7cf53_4 rfl (fun hc => absurd hc (by decide)) (fun hc => ?_)
  refine lv_aload_n hx hb dJ0_indexOf_7cf53_7 rfl (lv_at hl 0 rfl) ?_
  refine vk_getf hx hb (hE.2.2.2.2.1.1 o0 q0).2.2.1 hS hown (hts _ kw_1458) (fun _ h9 => h9) dJ0_indexOf_7cf53_8 ?_
  refine lv_iload_n hx hb dJ0_indexOf_7cf53_11 rfl (lv_at hl 1 rfl) ?_
  refine lv_iload_n hx hb dJ0_indexOf_7cf53_12 rfl (lv_at hl 2 rfl) ?_
  refine lv_aload_n hx hb dJ0_indexOf_7cf53_13 rfl (lv_at hl 0 rfl) ?_
  refine sk_contI (sk_runV (As := []) (rest := [.int a2, .int a1, .ref (sk_aV g o0)]) C (c_J0_length_8abf5 g l o0 q0 M rfl) yo_J0_length_8abf5 kw_743 (vk_recv hE.2.2.2.2.1 q0 hS) (by decide) hM hS hl.1 rfl rfl (Nat.le_of_ble_eq_true rfl) dJ0_indexOf_7cf53_14) hS (fun H locs hM hS => ?_)
  obtain ⟨x_3, h_4, h⟩ := sk_b1E h
  refine sk_contI (sk_runS (As := [.ref (sk_aV g o0), .int a1, .int a2, .int (f_J0_length_8abf5 o0)]) (rest := []) C (c_J1_indexOf_4cfef g l o0 q0 a1 a2 (f_J0_length_8abf5 o0) M h_4) yo_J1_indexOf_4cfef kw_744 (by decide) hM hS hl.1 rfl rfl (Nat.le_of_ble_eq_true rfl) dJ0_indexOf_7cf53_17) hS (fun H locs hM hS => ?_)
  refine lv_goto hx hb dJ0_indexOf_7cf53_20 rfl ?_
  exact sk_iret C hM hS ⟨Option.some.inj h, rfl⟩ dJ0_indexOf_7cf53_36
theorem dJ0_indexOf_0f7a4_0 : decode cJ0_indexOf_0f7a4 0 = .ok (.aload_n 0, 1) := by decide +kernel
theorem dJ0_indexOf_0f7a4_1 : decode cJ0_indexOf_0f7a4 1 = .ok (.iload_n 1, 1) := by decide +kernel
theorem dJ0_indexOf_0f7a4_2 : decode cJ0_indexOf_0f7a4 2 = .ok (.iconst 0, 1) := by decide +kernel
theorem dJ0_indexOf_0f7a4_3 : decode cJ0_indexOf_0f7a4 3 = .ok (.invokevirtual 633, 3) := by decide +kernel
theorem dJ0_indexOf_0f7a4_6 : decode cJ0_indexOf_0f7a4 6 = .ok (.ireturn, 1) := by decide +kernel
set_option maxHeartbeats 4000000 in
set_option maxRecDepth 100000 in
theorem c_J0_indexOf_0f7a4 (g : sk_G) (l : Launch) (o0 : Nat) (q0 : o0 < 14) (a1 : Int32) (M : sk_M) {rr : Int32} (h : f_J0_indexOf_0f7a4 o0 a1 M = some rr) : sk_MI g l yJ0_indexOf_0f7a4 cJ0_indexOf_0f7a4 2 (some .int) 4 [.ref (sk_aK g o0), .int a1] M rr M := by
  refine sk_go [(0, .ref (sk_aK g o0)), (1, .int a1)] (by decide) (Nat.le_of_ble_eq_true rfl) rfl ?_
  intro p e s m av below meth c C ls hl hM hS
  obtain ⟨hx, hb, hml, hown, hts, hK, hE, hr, hlocks⟩ := id C
  rw [f_J0_indexOf_0f7a4] at h
  refine lv_aload_n hx hb dJ0_indexOf_0f7a4_0 rfl (lv_at hl 0 rfl) ?_
  refine lv_iload_n hx hb dJ0_indexOf_0f7a4_1 rfl (lv_at hl 1 rfl) ?_
  refine lv_iconst (v := 0) hx hb dJ0_indexOf_0f7a4_2 (by decide) ?_
  obtain ⟨x_1, h_2, h⟩ := sk_b1E h
  refine sk_contI (sk_runV (As := [.int a1, .int 0]) (rest := []) C (c_J0_indexOf_7cf53 g l o0 q0 a1 0 M h_2) yo_J0_indexOf_7cf53 kw_739 (vk_recv hE.2.2.2.2.1 q0 hS) (by decide) hM hS hl.1 rfl rfl (Nat.le_of_ble_eq_true rfl) dJ0_indexOf_0f7a4_3) hS (fun H locs hM hS => ?_)
  exact sk_iret C hM hS ⟨Option.some.inj h, rfl⟩ dJ0_indexOf_0f7a4_6
theorem dX0_isSignOf_0 : decode cX0_isSignOf 0 = .ok (.aload_n 0, 1) := by decide +kernel
theorem dX0_isSignOf_1 : decode cX0_isSignOf 1 = .ok (.getfield 22, 3) := by decide +kernel
theorem dX0_isSignOf_4 : decode cX0_isSignOf 4 = .ok (.ifCond .ge 35, 3) := by decide +kernel
theorem dX0_isSignOf_7 : decode cX0_isSignOf 7 = .ok (.aload_n 0, 1) := by decide +kernel
theorem dX0_isSignOf_8 : decode cX0_isSignOf 8 = .ok (.getfield 51, 3) := by decide +kernel
theorem dX0_isSignOf_11 : decode cX0_isSignOf 11 = .ok (.aload_n 0, 1) := by decide +kernel
theorem dX0_isSignOf_12 : decode cX0_isSignOf 12 = .ok (.getfield 18, 3) := by decide +kernel
theorem dX0_isSignOf_15 : decode cX0_isSignOf 15 = .ok (.if_icmp .ge 24, 3) := by decide +kernel
theorem dX0_isSignOf_18 : decode cX0_isSignOf 18 = .ok (.aload_n 1, 1) := by decide +kernel
theorem dX0_isSignOf_19 : decode cX0_isSignOf 19 = .ok (.aload_n 0, 1) := by decide +kernel
theorem dX0_isSignOf_20 : decode cX0_isSignOf 20 = .ok (.getfield 9, 3) := by decide +kernel
theorem dX0_isSignOf_23 : decode cX0_isSignOf 23 = .ok (.aload_n 0, 1) := by decide +kernel
theorem dX0_isSignOf_24 : decode cX0_isSignOf 24 = .ok (.getfield 51, 3) := by decide +kernel
theorem dX0_isSignOf_27 : decode cX0_isSignOf 27 = .ok (.iaload, 1) := by decide +kernel
theorem dX0_isSignOf_28 : decode cX0_isSignOf 28 = .ok (.i2c, 1) := by decide +kernel
theorem dX0_isSignOf_29 : decode cX0_isSignOf 29 = .ok (.invokevirtual 79, 3) := by decide +kernel
theorem dX0_isSignOf_32 : decode cX0_isSignOf 32 = .ok (.ifCond .lt 7, 3) := by decide +kernel
theorem dX0_isSignOf_35 : decode cX0_isSignOf 35 = .ok (.iconst 1, 1) := by decide +kernel
theorem dX0_isSignOf_36 : decode cX0_isSignOf 36 = .ok (.goto 4, 3) := by decide +kernel
theorem dX0_isSignOf_39 : decode cX0_isSignOf 39 = .ok (.iconst 0, 1) := by decide +kernel
theorem dX0_isSignOf_40 : decode cX0_isSignOf 40 = .ok (.ireturn, 1) := by decide +kernel
set_option maxHeartbeats 4000000 in
set_option maxRecDepth 100000 in
theorem c_X0_isSignOf (g : sk_G) (l : Launch) (o1 : Nat) (q1 : o1 < 14) (M : sk_M) {rr : Int32} (h : f_X0_isSignOf o1 M = some rr) : sk_MI g l yX0_isSignOf cX0_isSignOf 2 (some .boolean) 5 [.ref (sk_ad g 62), .ref (sk_aK g o1)] M rr M := by
  refine sk_go [(0, .ref (sk_ad g 62)), (1, .ref (sk_aK g o1))] (by decide) (Nat.le_of_ble_eq_true rfl) rfl ?_
  intro p e s m av below meth c C ls hl hM hS
  obtain ⟨hx, hb, hml, hown, hts, hK, hE, hr, hlocks⟩ := id C
  rw [f_X0_isSignOf] at h
  refine lv_aload_n hx hb dX0_isSignOf_0 rfl (lv_at hl 0 rfl) ?_
  refine sk_getI (o := 62) (ci := 0) (j := 5) C hM rfl rfl (by decide) rfl kw_127 dX0_isSignOf_1 ?_
  refine lv_if_ge hx hb dX0_isSignOf_4 rfl (fun hc => ?_) (fun hc => ?_)
  · have h := sk_pos h hc
    refine lv_iconst (v := 0) hx hb dX0_isSignOf_39 (by decide) ?_
    exact sk_zret C hM hS (sk_nz (Or.inl rfl)) ⟨Option.some.inj h, rfl⟩ dX0_isSignOf_40
  · have h := sk_neg h hc
    refine lv_aload_n hx hb dX0_isSignOf_7 rfl (lv_at hl 0 rfl) ?_
    refine sk_getI (o := 62) (ci := 0) (j := 3) C hM rfl rfl (by decide) rfl kw_125 dX0_isSignOf_8 ?_
    refine lv_aload_n hx hb dX0_isSignOf_11 rfl (lv_at hl 0 rfl) ?_
    refine sk_getI (o := 62) (ci := 0) (j := 2) C hM rfl rfl (by decide) rfl kw_123 dX0_isSignOf_12 ?_
    refine lv_icmp_ge hx hb dX0_isSignOf_15 rfl (fun hc => ?_) (fun hc => ?_)
    · have h := sk_pos h hc
      refine lv_iconst (v := 0) hx hb dX0_isSignOf_39 (by decide) ?_
      exact sk_zret C hM hS (sk_nz (Or.inl rfl)) ⟨Option.some.inj h, rfl⟩ dX0_isSignOf_40
    · have h := sk_neg h hc
      refine lv_aload_n hx hb dX0_isSignOf_18 rfl (lv_at hl 1 rfl) ?_
      refine lv_aload_n hx hb dX0_isSignOf_19 rfl (lv_at hl 0 rfl) ?_
      refine sk_getR (o := 62) (ci := 0) (j := 0) (t := 63) C hM rfl rfl (by decide) rfl rfl kw_120 dX0_isSignOf_20 ?_
      refine lv_aload_n hx hb dX0_isSignOf_23 rfl (lv_at hl 0 rfl) ?_
      refine sk_getI (o := 62) (ci := 0) (j := 3) C hM rfl rfl (by decide) rfl kw_125 dX0_isSignOf_24 ?_
      obtain ⟨i_1, h⟩ := sk_chkE h
      refine sk_iald (o := 63) C hM rfl i_1 dX0_isSignOf_27 ?_
      refine lv_i2c (v := (sk_i2c (M 63 (M 62 3).toNatClampNeg))) hx hb dX0_isSignOf_28 rfl ?_
      obtain ⟨x_2, h_3, h⟩ := sk_b1E h
      refine sk_contI (sk_runV (As := [.int (sk_i2c (M 63 (M 62 3).toNatClampNeg))]) (rest := []) C (c_J0_indexOf_0f7a4 g l o1 q1 (sk_i2c (M 63 (M 62 3).toNatClampNeg)) M h_3) yo_J0_indexOf_0f7a4 kw_735 (vk_recv hE.2.2.2.2.1 q1 hS) (by decide) hM hS hl.1 rfl rfl (Nat.le_of_ble_eq_true rfl) dX0_isSignOf_29) hS (fun H locs hM hS => ?_)
      have J : ∀ (vv : Int32) (H : Heap) (locs : List Loc), (if x_2 < 0 then 0 else 1 : Int32) = vv → sk_P g M H → va_S (sk_A g) s.heap H locs → W p l e (sk_rm 5) s m av below meth c H locs 0 0 (MQ below (sk_QI g rr M) av s 0 0 (sk_A g)) (F0 m 40 ls [.int vv]) := by
        intro vv H locs hvv hM hS
        subst hvv
        exact sk_zret C hM hS (sk_nz (sk_zi (Or.inl rfl) (Or.inr rfl))) ⟨Option.some.inj h, rfl⟩ dX0_isSignOf_40
      refine lv_if_lt hx hb dX0_isSignOf_32 rfl (fun hc => ?_) (fun hc => ?_)
      · have J := fun vv H locs q => J vv H locs ((if_pos hc).trans q)
        refine lv_iconst (v := 0) hx hb dX0_isSignOf_39 (by decide) ?_
        exact J _ _ _ rfl hM hS
      · have J := fun vv H locs q => J vv H locs ((if_neg hc).trans q)
        refine lv_iconst (v := 1) hx hb dX0_isSignOf_35 (by decide) ?_
        refine lv_goto hx hb dX0_isSignOf_36 rfl ?_
        exact J _ _ _ rfl hM hS
theorem dX0_put_0 : decode cX0_put 0 = .ok (.aload_n 0, 1) := by decide +kernel
theorem dX0_put_1 : decode cX0_put 1 = .ok (.getfield 22, 3) := by decide +kernel
theorem dX0_put_4 : decode cX0_put 4 = .ok (.ifCond .ge 35, 3) := by decide +kernel
theorem dX0_put_7 : decode cX0_put 7 = .ok (.aload_n 0, 1) := by decide +kernel
theorem dX0_put_8 : decode cX0_put 8 = .ok (.getfield 28, 3) := by decide +kernel
theorem dX0_put_11 : decode cX0_put 11 = .ok (.aload_n 0, 1) := by decide +kernel
theorem dX0_put_12 : decode cX0_put 12 = .ok (.getfield 15, 3) := by decide +kernel
theorem dX0_put_15 : decode cX0_put 15 = .ok (.arraylength, 1) := by decide +kernel
theorem dX0_put_16 : decode cX0_put 16 = .ok (.if_icmp .ge 23, 3) := by decide +kernel
theorem dX0_put_19 : decode cX0_put 19 = .ok (.aload_n 0, 1) := by decide +kernel
theorem dX0_put_20 : decode cX0_put 20 = .ok (.getfield 15, 3) := by decide +kernel
theorem dX0_put_23 : decode cX0_put 23 = .ok (.aload_n 0, 1) := by decide +kernel
theorem dX0_put_24 : decode cX0_put 24 = .ok (.getfield 28, 3) := by decide +kernel
theorem dX0_put_27 : decode cX0_put 27 = .ok (.iload_n 1, 1) := by decide +kernel
theorem dX0_put_28 : decode cX0_put 28 = .ok (.iastore, 1) := by decide +kernel
theorem dX0_put_29 : decode cX0_put 29 = .ok (.aload_n 0, 1) := by decide +kernel
theorem dX0_put_30 : decode cX0_put 30 = .ok (.dup, 1) := by decide +kernel
theorem dX0_put_31 : decode cX0_put 31 = .ok (.getfield 28, 3) := by decide +kernel
theorem dX0_put_34 : decode cX0_put 34 = .ok (.iconst 1, 1) := by decide +kernel
theorem dX0_put_35 : decode cX0_put 35 = .ok (.iadd, 1) := by decide +kernel
theorem dX0_put_36 : decode cX0_put 36 = .ok (.putfield 28, 3) := by decide +kernel
theorem dX0_put_39 : decode cX0_put 39 = .ok (.return_, 1) := by decide +kernel
set_option maxHeartbeats 4000000 in
set_option maxRecDepth 100000 in
theorem c_X0_put (g : sk_G) (l : Launch) (a1 : Int32) (M : sk_M) {MM : sk_M} (h : f_X0_put a1 M = some MM) : sk_MV g l yX0_put cX0_put 2 none 1 [.ref (sk_ad g 62), .int a1] M MM := by
  refine sk_go [(0, .ref (sk_ad g 62)), (1, .int a1)] (by decide) (Nat.le_of_ble_eq_true rfl) rfl ?_
  intro p e s m av below meth c C ls hl hM hS
  obtain ⟨hx, hb, hml, hown, hts, hK, hE, hr, hlocks⟩ := id C
  rw [f_X0_put] at h
  refine lv_aload_n hx hb dX0_put_0 rfl (lv_at hl 0 rfl) ?_
  refine sk_getI (o := 62) (ci := 0) (j := 5) C hM rfl rfl (by decide) rfl kw_127 dX0_put_1 ?_
  refine lv_if_ge hx hb dX0_put_4 rfl (fun hc => ?_) (fun hc => ?_)
  · have h := sk_pos h hc
    exact sk_vret C hM hS (Option.some.inj h) dX0_put_39
  · have h := sk_neg h hc
    refine lv_aload_n hx hb dX0_put_7 rfl (lv_at hl 0 rfl) ?_
    refine sk_getI (o := 62) (ci := 0) (j := 7) C hM rfl rfl (by decide) rfl kw_132 dX0_put_8 ?_
    refine lv_aload_n hx hb dX0_put_11 rfl (lv_at hl 0 rfl) ?_
    refine sk_getR (o := 62) (ci := 0) (j := 1) (t := 64) C hM rfl rfl (by decide) rfl rfl kw_121 dX0_put_12 ?_
    refine sk_alen (o := 64) (v := 96) C hM rfl (by decide) dX0_put_15 ?_
    refine lv_icmp_ge hx hb dX0_put_16 rfl (fun hc => ?_) (fun hc => ?_)
    · have h := sk_pos h hc
      exact sk_vret C hM hS (Option.some.inj h) dX0_put_39
    · have h := sk_neg h hc
      refine lv_aload_n hx hb dX0_put_19 rfl (lv_at hl 0 rfl) ?_
      refine sk_getR (o := 62) (ci := 0) (j := 1) (t := 64) C hM rfl rfl (by decide) rfl rfl kw_121 dX0_put_20 ?_
      refine lv_aload_n hx hb dX0_put_23 rfl (lv_at hl 0 rfl) ?_
      refine sk_getI (o := 62) (ci := 0) (j := 7) C hM rfl rfl (by decide) rfl kw_132 dX0_put_24 ?_
      refine lv_iload_n hx hb dX0_put_27 rfl (lv_at hl 1 rfl) ?_
      obtain ⟨i_1, h⟩ := sk_chkE h
      refine sk_iast (o := 64) C hM hS rfl i_1 dX0_put_28 (fun M_2 eM_2 H locs hM hS => ?_)
      have h := sk_letU h eM_2
      refine lv_aload_n hx hb dX0_put_29 rfl (lv_at hl 0 rfl) ?_
      refine lv_dup hx hb dX0_put_30 rfl ?_
      refine sk_getI (o := 62) (ci := 0) (j := 7) C hM rfl rfl (by decide) rfl kw_132 dX0_put_31 ?_
      refine lv_iconst (v := 1) hx hb dX0_put_34 (by decide) ?_
      refine lv_iadd hx hb dX0_put_35 ?_
      refine sk_putI (o := 62) (ci := 0) (j := 7) C hM hS rfl rfl (by decide) rfl rfl (tyX0_ok 7 (by decide)) kw_132 dX0_put_36 (fun M_3 eM_3 H locs hM hS => ?_)
      have h := sk_letU h eM_3
      exact sk_vret C hM hS (Option.some.inj h) dX0_put_39
theorem dX0_numberHere_0 : decode cX0_numberHere 0 = .ok (.iconst 0, 1) := by decide +kernel
theorem dX0_numberHere_1 : decode cX0_numberHere 1 = .ok (.istore_n 1, 1) := by decide +kernel
theorem dX0_numberHere_2 : decode cX0_numberHere 2 = .ok (.aload_n 0, 1) := by decide +kernel
theorem dX0_numberHere_3 : decode cX0_numberHere 3 = .ok (.getfield 51, 3) := by decide +kernel
theorem dX0_numberHere_6 : decode cX0_numberHere 6 = .ok (.istore_n 2, 1) := by decide +kernel
theorem dX0_numberHere_7 : decode cX0_numberHere 7 = .ok (.iload_n 2, 1) := by decide +kernel
theorem dX0_numberHere_8 : decode cX0_numberHere 8 = .ok (.aload_n 0, 1) := by decide +kernel
theorem dX0_numberHere_9 : decode cX0_numberHere 9 = .ok (.getfield 25, 3) := by decide +kernel
theorem dX0_numberHere_12 : decode cX0_numberHere 12 = .ok (.if_icmp .ge 24, 3) := by decide +kernel
theorem dX0_numberHere_15 : decode cX0_numberHere 15 = .ok (.iload_n 1, 1) := by decide +kernel
theorem dX0_numberHere_16 : decode cX0_numberHere 16 = .ok (.bipush 10, 2) := by decide +kernel
theorem dX0_numberHere_18 : decode cX0_numberHere 18 = .ok (.imul, 1) := by decide +kernel
theorem dX0_numberHere_19 : decode cX0_numberHere 19 = .ok (.aload_n 0, 1) := by decide +kernel
theorem dX0_numberHere_20 : decode cX0_numberHere 20 = .ok (.getfield 9, 3) := by decide +kernel
theorem dX0_numberHere_23 : decode cX0_numberHere 23 = .ok (.iload_n 2, 1) := by decide +kernel
theorem dX0_numberHere_24 : decode cX0_numberHere 24 = .ok (.iaload, 1) := by decide +kernel
theorem dX0_numberHere_25 : decode cX0_numberHere 25 = .ok (.iadd, 1) := by decide +kernel
theorem dX0_numberHere_26 : decode cX0_numberHere 26 = .ok (.bipush 48, 2) := by decide +kernel
theorem dX0_numberHere_28 : decode cX0_numberHere 28 = .ok (.isub, 1) := by decide +kernel
theorem dX0_numberHere_29 : decode cX0_numberHere 29 = .ok (.istore_n 1, 1) := by decide +kernel
theorem dX0_numberHere_30 : decode cX0_numberHere 30 = .ok (.iinc 2 1, 3) := by decide +kernel
theorem dX0_numberHere_33 : decode cX0_numberHere 33 = .ok (.goto (-26), 3) := by decide +kernel
theorem dX0_numberHere_36 : decode cX0_numberHere 36 = .ok (.iload_n 1, 1) := by decide +kernel
theorem dX0_numberHere_37 : decode cX0_numberHere 37 = .ok (.ireturn, 1) := by decide +kernel
set_option maxHeartbeats 4000000 in
set_option maxRecDepth 100000 in
theorem w_X0_numberHere_L7 {g : sk_G} {l : Launch} {p : Program} {e : Env} {s : State} {m : MethodId} {av : Array Value} {below : List Frame} {meth : Method} {c : Code} (C : sk_C g p s m av meth c cX0_numberHere 3 RX0 (some .int)) (M : sk_M) {rr : Int32} :
    ∀ (n : Nat) (a1 : Int32) (a2 : Int32) (H : Heap) (locs : List Loc) (ls : Array Slot), lv_has ls 3 [(0, .ref (sk_ad g 62)), (1, .int a1), (2, .int a2)] → sk_P g M H → va_S (sk_A g) s.heap H locs → ∀ {out : Int32}, f_X0_numberHere_L7 M n a1 a2 = some out → (∀ (x1 : Int32) (H : Heap) (locs : List Loc) (ls : Array Slot), some x1 = some out → lv_has ls 3 [(1, .int x1)] → sk_P g M H → va_S (sk_A g) s.heap H locs → W p l e (sk_rm 1) s m av below meth c H locs 0 0 (MQ below (sk_QI g rr M) av s 0 0 (sk_A g)) (F0 m 36 ls [])) → W p l e (sk_rm 1) s m av below meth c H locs 0 0 (MQ below (sk_QI g rr M) av s 0 0 (sk_A g)) (F0 m 7 ls []) := by
  obtain ⟨hx, hb, hml, hown, hts, hK, hE, hr, hlocks⟩ := id C
  intro n
  induction n with
  | zero =>
    intro a1 a2 H locs ls hl hM hS out h
    cases h
  | succ n ih =>
    intro a1 a2 H locs ls hl hM hS out h kx
    rw [f_X0_numberHere_L7] at h
    refine lv_iload_n hx hb dX0_numberHere_7 rfl (lv_at hl 2 rfl) ?_
    refine lv_aload_n hx hb dX0_numberHere_8 rfl (lv_at hl 0 rfl) ?_
    refine sk_getI (o := 62) (ci := 0) (j := 4) C hM rfl rfl (by decide) rfl kw_126 dX0_numberHere_9 ?_
    refine lv_icmp_ge hx hb dX0_numberHere_12 rfl (fun hc => ?_) (fun hc => ?_)
    · have h := sk_pos h hc
      exact kx _ _ _ _ h (lv_sub hl [1] rfl) hM hS
    · have h := sk_neg h hc
      refine lv_iload_n hx hb dX0_numberHere_15 rfl (lv_at hl 1 rfl) ?_
      refine lv_bipush (v := 10) hx hb dX0_numberHere_16 (by decide) ?_
      refine lv_imul hx hb dX0_numberHere_18 ?_
      refine lv_aload_n hx hb dX0_numberHere_19 rfl (lv_at hl 0 rfl) ?_
      refine sk_getR (o := 62) (ci := 0) (j := 0) (t := 63) C hM rfl rfl (by decide) rfl rfl kw_120 dX0_numberHere_20 ?_
      refine lv_iload_n hx hb dX0_numberHere_23 rfl (lv_at hl 2 rfl) ?_
      obtain ⟨i_2, h⟩ := sk_chkE h
      refine sk_iald (o := 63) C hM rfl i_2 dX0_numberHere_24 ?_
      refine lv_iadd hx hb dX0_numberHere_25 ?_
      refine lv_bipush (v := 48) hx hb dX0_numberHere_26 (by decide) ?_
      refine lv_isub hx hb dX0_numberHere_28 ?_
      refine lv_topi (fun x_3 ex_3 => ?_)
      have h := sk_letU h ex_3
      refine lv_istore_n (lv' := [(1, .int x_3), (0, .ref (sk_ad g 62)), (2, .int a2)]) hx hb dX0_numberHere_29 rfl hl (by decide) rfl (fun ls hl => ?_)
      refine lv_iinc (v := (a2 + 1)) (lv' := [(2, .int (a2 + 1)), (1, .int x_3), (0, .ref (sk_ad g 62))]) hx hb dX0_numberHere_30 hl (k := 2) rfl rfl (by decide) rfl (fun ls hl => ?_)
      refine lv_goto hx hb dX0_numberHere_33 rfl ?_
      exact ih x_3 (a2 + 1) _ _ _ (lv_sub hl [2, 1, 0] rfl) hM hS h kx
set_option maxHeartbeats 4000000 in
set_option maxRecDepth 100000 in
theorem c_X0_numberHere (g : sk_G) (l : Launch)  (M : sk_M) {rr : Int32} (h : f_X0_numberHere M = some rr) : sk_MI g l yX0_numberHere cX0_numberHere 3 (some .int) 1 [.ref (sk_ad g 62)] M rr M := by
  refine sk_go [(0, .ref (sk_ad g 62))] (by decide) (Nat.le_of_ble_eq_true rfl) rfl ?_
  intro p e s m av below meth c C ls hl hM hS
  obtain ⟨hx, hb, hml, hown, hts, hK, hE, hr, hlocks⟩ := id C
  rw [f_X0_numberHere] at h
  refine lv_iconst (v := 0) hx hb dX0_numberHere_0 (by decide) ?_
  refine lv_istore_n (lv' := [(1, .int 0), (0, .ref (sk_ad g 62))]) hx hb dX0_numberHere_1 rfl hl (by decide) rfl (fun ls hl => ?_)
  refine lv_aload_n hx hb dX0_numberHere_2 rfl (lv_at hl 1 rfl) ?_
  refine sk_getI (o := 62) (ci := 0) (j := 3) C hM rfl rfl (by decide) rfl kw_125 dX0_numberHere_3 ?_
  refine lv_topi (fun x_1 ex_1 => ?_)
  have h := sk_letU h ex_1
  refine lv_istore_n (lv' := [(2, .int x_1), (1, .int 0), (0, .ref (sk_ad g 62))]) hx hb dX0_numberHere_6 rfl hl (by decide) rfl (fun ls hl => ?_)
  obtain ⟨x_4, h_5, h⟩ := sk_b1E h
  refine w_X0_numberHere_L7 C M sk_FU 0 x_1 _ _ _ (lv_sub hl [2, 1, 0] rfl) hM hS h_5 (fun y_6 H locs ls he hl hM hS => ?_)
  obtain rfl := Option.some.inj he
  refine lv_iload_n hx hb dX0_numberHere_36 rfl (lv_at hl 0 rfl) ?_
  exact sk_iret C hM hS ⟨Option.some.inj h, rfl⟩ dX0_numberHere_37
theorem dX0_names_0 : decode cX0_names 0 = .ok (.aload_n 0, 1) := by decide +kernel
theorem dX0_names_1 : decode cX0_names 1 = .ok (.getfield 41, 3) := by decide +kernel
theorem dX0_names_4 : decode cX0_names 4 = .ok (.ifCond .ne 6, 3) := by decide +kernel
theorem dX0_names_7 : decode cX0_names 7 = .ok (.ldc 127, 2) := by decide +kernel
theorem dX0_names_9 : decode cX0_names 9 = .ok (.areturn, 1) := by decide +kernel
theorem dX0_names_10 : decode cX0_names 10 = .ok (.aload_n 0, 1) := by decide +kernel
theorem dX0_names_11 : decode cX0_names 11 = .ok (.getfield 41, 3) := by decide +kernel
theorem dX0_names_14 : decode cX0_names 14 = .ok (.iconst 1, 1) := by decide +kernel
theorem dX0_names_15 : decode cX0_names 15 = .ok (.if_icmp .ne 8, 3) := by decide +kernel
theorem dX0_names_18 : decode cX0_names 18 = .ok (.ldc 129, 2) := by decide +kernel
theorem dX0_names_20 : decode cX0_names 20 = .ok (.goto 5, 3) := by decide +kernel
theorem dX0_names_23 : decode cX0_names 23 = .ok (.ldc 131, 2) := by decide +kernel
theorem dX0_names_25 : decode cX0_names 25 = .ok (.areturn, 1) := by decide +kernel
set_option maxHeartbeats 4000000 in
set_option maxRecDepth 100000 in
theorem c_X0_names (g : sk_G) (l : Launch)  (M : sk_M) {rr : Nat} (h : f_X0_names M = rr) : sk_MS g l yX0_names cX0_names 1 (some (.object "java/lang/String")) 1 [.ref (sk_ad g 62)] M rr M := by
  refine sk_go [(0, .ref (sk_ad g 62))] (by decide) (Nat.le_of_ble_eq_true rfl) rfl ?_
  intro p e s m av below meth c C ls hl hM hS
  obtain ⟨hx, hb, hml, hown, hts, hK, hE, hr, hlocks⟩ := id C
  rw [f_X0_names] at h
  refine lv_aload_n hx hb dX0_names_0 rfl (lv_at hl 0 rfl) ?_
  refine sk_getI (o := 62) (ci := 0) (j := 6) C hM rfl rfl (by decide) rfl kw_129 dX0_names_1 ?_
  refine lv_if_ne hx hb dX0_names_4 rfl (fun hc => ?_) (fun hc => ?_)
  · have h := sk_neg h hc
    refine lv_aload_n hx hb dX0_names_10 rfl (lv_at hl 0 rfl) ?_
    refine sk_getI (o := 62) (ci := 0) (j := 6) C hM rfl rfl (by decide) rfl kw_129 dX0_names_11 ?_
    refine lv_iconst (v := 1) hx hb dX0_names_14 (by decide) ?_
    refine lv_icmp_ne hx hb dX0_names_15 rfl (fun hc => ?_) (fun hc => ?_)
    · have h := sk_neg h hc
      refine va_ldcS (q := sk_aK g 13) hx hb hown (hE.2.2.2.2.2 13 (by decide)) dX0_names_23 ?_
      exact sk_sret C hM hS ⟨h, rfl⟩ dX0_names_25
    · have h := sk_pos h hc
      refine va_ldcS (q := sk_aK g 12) hx hb hown (hE.2.2.2.2.2 12 (by decide)) dX0_names_18 ?_
      refine lv_goto hx hb dX0_names_20 rfl ?_
      exact sk_sret C hM hS ⟨h, rfl⟩ dX0_names_25
  · have h := sk_pos h hc
    refine va_ldcS (q := sk_aK g 11) hx hb hown (hE.2.2.2.2.2 11 (by decide)) dX0_names_7 ?_
    exact sk_sret C hM hS ⟨h, rfl⟩ dX0_names_9
theorem dX0_leafCode_0 : decode cX0_leafCode 0 = .ok (.bipush (-4), 2) := by decide +kernel
theorem dX0_leafCode_2 : decode cX0_leafCode 2 = .ok (.istore_n 1, 1) := by decide +kernel
theorem dX0_leafCode_3 : decode cX0_leafCode 3 = .ok (.aload_n 0, 1) := by decide +kernel
theorem dX0_leafCode_4 : decode cX0_leafCode 4 = .ok (.getfield 22, 3) := by decide +kernel
theorem dX0_leafCode_7 : decode cX0_leafCode 7 = .ok (.ifCond .ge 14, 3) := by decide +kernel
theorem dX0_leafCode_10 : decode cX0_leafCode 10 = .ok (.aload_n 0, 1) := by decide +kernel
theorem dX0_leafCode_11 : decode cX0_leafCode 11 = .ok (.getfield 51, 3) := by decide +kernel
theorem dX0_leafCode_14 : decode cX0_leafCode 14 = .ok (.aload_n 0, 1) := by decide +kernel
theorem dX0_leafCode_15 : decode cX0_leafCode 15 = .ok (.getfield 18, 3) := by decide +kernel
theorem dX0_leafCode_18 : decode cX0_leafCode 18 = .ok (.if_icmp .lt 5, 3) := by decide +kernel
theorem dX0_leafCode_21 : decode cX0_leafCode 21 = .ok (.iload_n 1, 1) := by decide +kernel
theorem dX0_leafCode_22 : decode cX0_leafCode 22 = .ok (.ireturn, 1) := by decide +kernel
theorem dX0_leafCode_23 : decode cX0_leafCode 23 = .ok (.aload_n 0, 1) := by decide +kernel
theorem dX0_leafCode_24 : decode cX0_leafCode 24 = .ok (.getfield 9, 3) := by decide +kernel
theorem dX0_leafCode_27 : decode cX0_leafCode 27 = .ok (.aload_n 0, 1) := by decide +kernel
theorem dX0_leafCode_28 : decode cX0_leafCode 28 = .ok (.getfield 51, 3) := by decide +kernel
theorem dX0_leafCode_31 : decode cX0_leafCode 31 = .ok (.iaload, 1) := by decide +kernel
theorem dX0_leafCode_32 : decode cX0_leafCode 32 = .ok (.invokestatic 58, 3) := by decide +kernel
theorem dX0_leafCode_35 : decode cX0_leafCode 35 = .ok (.ifCond .eq 25, 3) := by decide +kernel
theorem dX0_leafCode_38 : decode cX0_leafCode 38 = .ok (.aload_n 0, 1) := by decide +kernel
theorem dX0_leafCode_39 : decode cX0_leafCode 39 = .ok (.getfield 25, 3) := by decide +kernel
theorem dX0_leafCode_42 : decode cX0_leafCode 42 = .ok (.aload_n 0, 1) := by decide +kernel
theorem dX0_leafCode_43 : decode cX0_leafCode 43 = .ok (.getfield 51, 3) := by decide +kernel
theorem dX0_leafCode_46 : decode cX0_leafCode 46 = .ok (.isub, 1) := by decide +kernel
theorem dX0_leafCode_47 : decode cX0_leafCode 47 = .ok (.iconst 4, 1) := by decide +kernel
theorem dX0_leafCode_48 : decode cX0_leafCode 48 = .ok (.if_icmp .gt 10, 3) := by decide +kernel
theorem dX0_leafCode_51 : decode cX0_leafCode 51 = .ok (.aload_n 0, 1) := by decide +kernel
theorem dX0_leafCode_52 : decode cX0_leafCode 52 = .ok (.invokevirtual 120, 3) := by decide +kernel
theorem dX0_leafCode_55 : decode cX0_leafCode 55 = .ok (.goto 4, 3) := by decide +kernel
theorem dX0_leafCode_58 : decode cX0_leafCode 58 = .ok (.iload_n 1, 1) := by decide +kernel
theorem dX0_leafCode_59 : decode cX0_leafCode 59 = .ok (.ireturn, 1) := by decide +kernel
theorem dX0_leafCode_60 : decode cX0_leafCode 60 = .ok (.aload_n 0, 1) := by decide +kernel
theorem dX0_leafCode_61 : decode cX0_leafCode 61 = .ok (.getfield 25, 3) := by decide +kernel
theorem dX0_leafCode_64 : decode cX0_leafCode 64 = .ok (.aload_n 0, 1) := by decide +kernel
theorem dX0_leafCode_65 : decode cX0_leafCode 65 = .ok (.getfield 51, 3) := by decide +kernel
theorem dX0_leafCode_68 : decode cX0_leafCode 68 = .ok (.isub, 1) := by decide +kernel
theorem dX0_leafCode_69 : decode cX0_leafCode 69 = .ok (.iconst 1, 1) := by decide +kernel
theorem dX0_leafCode_70 : decode cX0_leafCode 70 = .ok (.if_icmp .ne 23, 3) := by decide +kernel
theorem dX0_leafCode_73 : decode cX0_leafCode 73 = .ok (.aload_n 0, 1) := by decide +kernel
theorem dX0_leafCode_74 : decode cX0_leafCode 74 = .ok (.invokevirtual 123, 3) := by decide +kernel
theorem dX0_leafCode_77 : decode cX0_leafCode 77 = .ok (.aload_n 0, 1) := by decide +kernel
theorem dX0_leafCode_78 : decode cX0_leafCode 78 = .ok (.getfield 9, 3) := by decide +kernel
theorem dX0_leafCode_81 : decode cX0_leafCode 81 = .ok (.aload_n 0, 1) := by decide +kernel
theorem dX0_leafCode_82 : decode cX0_leafCode 82 = .ok (.getfield 51, 3) := by decide +kernel
theorem dX0_leafCode_85 : decode cX0_leafCode 85 = .ok (.iaload, 1) := by decide +kernel
theorem dX0_leafCode_86 : decode cX0_leafCode 86 = .ok (.i2c, 1) := by decide +kernel
theorem dX0_leafCode_87 : decode cX0_leafCode 87 = .ok (.invokevirtual 79, 3) := by decide +kernel
theorem dX0_leafCode_90 : decode cX0_leafCode 90 = .ok (.goto 4, 3) := by decide +kernel
theorem dX0_leafCode_93 : decode cX0_leafCode 93 = .ok (.iconst (-1), 1) := by decide +kernel
theorem dX0_leafCode_94 : decode cX0_leafCode 94 = .ok (.istore_n 2, 1) := by decide +kernel
theorem dX0_leafCode_95 : decode cX0_leafCode 95 = .ok (.iload_n 2, 1) := by decide +kernel
theorem dX0_leafCode_96 : decode cX0_leafCode 96 = .ok (.ifCond .ge 7, 3) := by decide +kernel
theorem dX0_leafCode_99 : decode cX0_leafCode 99 = .ok (.iload_n 1, 1) := by decide +kernel
theorem dX0_leafCode_100 : decode cX0_leafCode 100 = .ok (.goto 7, 3) := by decide +kernel
theorem dX0_leafCode_103 : decode cX0_leafCode 103 = .ok (.bipush (-3), 2) := by decide +kernel
theorem dX0_leafCode_105 : decode cX0_leafCode 105 = .ok (.iload_n 2, 1) := by decide +kernel
theorem dX0_leafCode_106 : decode cX0_leafCode 106 = .ok (.iadd, 1) := by decide +kernel
theorem dX0_leafCode_107 : decode cX0_leafCode 107 = .ok (.ireturn, 1) := by decide +kernel
set_option maxHeartbeats 4000000 in
set_option maxRecDepth 100000 in
theorem c_X0_leafCode (g : sk_G) (l : Launch)  (M : sk_M) {rr : Int32} (h : f_X0_leafCode M = some rr) : sk_MI g l yX0_leafCode cX0_leafCode 3 (some .int) 5 [.ref (sk_ad g 62)] M rr M := by
  refine sk_go [(0, .ref (sk_ad g 62))] (by decide) (Nat.le_of_ble_eq_true rfl) rfl ?_
  intro p e s m av below meth c C ls hl hM hS
  obtain ⟨hx, hb, hml, hown, hts, hK, hE, hr, hlocks⟩ := id C
  rw [f_X0_leafCode] at h
  refine lv_bipush (v := (-4)) hx hb dX0_leafCode_0 (by decide) ?_
  refine lv_istore_n (lv' := [(1, .int (-4)), (0, .ref (sk_ad g 62))]) hx hb dX0_leafCode_2 rfl hl (by decide) rfl (fun ls hl => ?_)
  refine lv_aload_n hx hb dX0_leafCode_3 rfl (lv_at hl 1 rfl) ?_
  refine sk_getI (o := 62) (ci := 0) (j := 5) C hM rfl rfl (by decide) rfl kw_127 dX0_leafCode_4 ?_
  refine lv_if_ge hx hb dX0_leafCode_7 rfl (fun hc => ?_) (fun hc => ?_)
  · have h := sk_pos h hc
    refine lv_iload_n hx hb dX0_leafCode_21 rfl (lv_at hl 0 rfl) ?_
    exact sk_iret C hM hS ⟨Option.some.inj h, rfl⟩ dX0_leafCode_22
  · have h := sk_neg h hc
    refine lv_aload_n hx hb dX0_leafCode_10 rfl (lv_at hl 1 rfl) ?_
    refine sk_getI (o := 62) (ci := 0) (j := 3) C hM rfl rfl (by decide) rfl kw_125 dX0_leafCode_11 ?_
    refine lv_aload_n hx hb dX0_leafCode_14 rfl (lv_at hl 1 rfl) ?_
    refine sk_getI (o := 62) (ci := 0) (j := 2) C hM rfl rfl (by decide) rfl kw_123 dX0_leafCode_15 ?_
    refine lv_icmp_lt hx hb dX0_leafCode_18 rfl (fun hc => ?_) (fun hc => ?_)
    · have h := sk_pos h hc
      refine lv_aload_n hx hb dX0_leafCode_23 rfl (lv_at hl 1 rfl) ?_
      refine sk_getR (o := 62) (ci := 0) (j := 0) (t := 63) C hM rfl rfl (by decide) rfl rfl kw_120 dX0_leafCode_24 ?_
      refine lv_aload_n hx hb dX0_leafCode_27 rfl (lv_at hl 1 rfl) ?_
      refine sk_getI (o := 62) (ci := 0) (j := 3) C hM rfl rfl (by decide) rfl kw_125 dX0_leafCode_28 ?_
      obtain ⟨i_1, h⟩ := sk_chkE h
      refine sk_iald (o := 63) C hM rfl i_1 dX0_leafCode_31 ?_
      refine sk_contI (sk_runS (As := [.int (M 63 (M 62 3).toNatClampNeg)]) (rest := []) C (c_X0_isDigit g l (M 63 (M 62 3).toNatClampNeg) M rfl) yo_X0_isDigit kw_656 (by decide) hM hS hl.1 rfl rfl (Nat.le_of_ble_eq_true rfl) dX0_leafCode_32) hS (fun H locs hM hS => ?_)
      refine lv_if_eq hx hb dX0_leafCode_35 rfl (fun hc => ?_) (fun hc => ?_)
      · have h := sk_pos h hc
        refine lv_aload_n hx hb dX0_leafCode_60 rfl (lv_at hl 1 rfl) ?_
        refine sk_getI (o := 62) (ci := 0) (j := 4) C hM rfl rfl (by decide) rfl kw_126 dX0_leafCode_61 ?_
        refine lv_aload_n hx hb dX0_leafCode_64 rfl (lv_at hl 1 rfl) ?_
        refine sk_getI (o := 62) (ci := 0) (j := 3) C hM rfl rfl (by decide) rfl kw_125 dX0_leafCode_65 ?_
        refine lv_isub hx hb dX0_leafCode_68 ?_
        refine lv_iconst (v := 1) hx hb dX0_leafCode_69 (by decide) ?_
        obtain ⟨y0_3, h_3, kg_3⟩ := sk_b1E h
        have J_3 : ∀ (x_8 : Int32) (H : Heap) (locs : List Loc) (ls : Array Slot), some x_8 = some y0_3 → lv_has ls 3 [(1, .int (-4))] → sk_P g M H → va_S (sk_A g) s.heap H locs → W p l e (sk_rm 5) s m av below meth c H locs 0 0 (MQ below (sk_QI g rr M) av s 0 0 (sk_A g)) (F0 m 94 ls [.int x_8]) := by
          intro x_8 H locs ls he hl hM hS
          obtain rfl := Option.some.inj he
          have h := kg_3
          refine lv_istore_n (lv' := [(2, .int x_8), (1, .int (-4))]) hx hb dX0_leafCode_94 rfl hl (by decide) rfl (fun ls hl => ?_)
          refine lv_iload_n hx hb dX0_leafCode_95 rfl (lv_at hl 0 rfl) ?_
          have J : ∀ (vv : Int32) (H : Heap) (locs : List Loc), (if 0 ≤ x_8 then ((-3) + x_8) else (-4) : Int32) = vv → sk_P g M H → va_S (sk_A g) s.heap H locs → W p l e (sk_rm 5) s m av below meth c H locs 0 0 (MQ below (sk_QI g rr M) av s 0 0 (sk_A g)) (F0 m 107 ls [.int vv]) := by
            intro vv H locs hvv hM hS
            subst hvv
            exact sk_iret C hM hS ⟨Option.some.inj h, rfl⟩ dX0_leafCode_107
          refine lv_if_ge hx hb dX0_leafCode_96 rfl (fun hc => ?_) (fun hc => ?_)
          · have J := fun vv H locs q => J vv H locs ((if_pos hc).trans q)
            refine lv_bipush (v := (-3)) hx hb dX0_leafCode_103 (by decide) ?_
            refine lv_iload_n hx hb dX0_leafCode_105 rfl (lv_at hl 0 rfl) ?_
            refine lv_iadd hx hb dX0_leafCode_106 ?_
            exact J _ _ _ rfl hM hS
          · have J := fun vv H locs q => J vv H locs ((if_neg hc).trans q)
            refine lv_iload_n hx hb dX0_leafCode_99 rfl (lv_at hl 1 rfl) ?_
            refine lv_goto hx hb dX0_leafCode_100 rfl ?_
            exact J _ _ _ rfl hM hS
        have h := h_3
        refine lv_icmp_ne hx hb dX0_leafCode_70 rfl (fun hc => ?_) (fun hc => ?_)
        · have h := sk_neg h hc
          refine lv_iconst (v := (-1)) hx hb dX0_leafCode_93 (by decide) ?_
          exact J_3 _ _ _ _ h (lv_sub hl [0] rfl) hM hS
        · have h := sk_pos h hc
          refine lv_aload_n hx hb dX0_leafCode_73 rfl (lv_at hl 1 rfl) ?_
          refine sk_contS (sk_runV (As := []) (rest := []) C (c_X0_names g l  M rfl) yo_X0_names kw_808 (sk_recv (ci := 0) C hM rfl rfl) (by decide) hM hS hl.1 rfl rfl (Nat.le_of_ble_eq_true rfl) dX0_leafCode_74) hS (fun H locs hM hS => ?_)
          refine lv_aload_n hx hb dX0_leafCode_77 rfl (lv_at hl 1 rfl) ?_
          refine sk_getR (o := 62) (ci := 0) (j := 0) (t := 63) C hM rfl rfl (by decide) rfl rfl kw_120 dX0_leafCode_78 ?_
          refine lv_aload_n hx hb dX0_leafCode_81 rfl (lv_at hl 1 rfl) ?_
          refine sk_getI (o := 62) (ci := 0) (j := 3) C hM rfl rfl (by decide) rfl kw_125 dX0_leafCode_82 ?_
          obtain ⟨i_5, h⟩ := sk_chkE h
          refine sk_iald (o := 63) C hM rfl i_5 dX0_leafCode_85 ?_
          refine lv_i2c (v := (sk_i2c (M 63 (M 62 3).toNatClampNeg))) hx hb dX0_leafCode_86 rfl ?_
          obtain ⟨x_6, h_7, h⟩ := sk_b1E h
          refine sk_contI (sk_runV (As := [.int (sk_i2c (M 63 (M 62 3).toNatClampNeg))]) (rest := []) C (c_J0_indexOf_0f7a4 g l (f_X0_names M) (fs_X0_names M) (sk_i2c (M 63 (M 62 3).toNatClampNeg)) M h_7) yo_J0_indexOf_0f7a4 kw_735 (vk_recv hE.2.2.2.2.1 (fs_X0_names M) hS) (by decide) hM hS hl.1 rfl rfl (Nat.le_of_ble_eq_true rfl) dX0_leafCode_87) hS (fun H locs hM hS => ?_)
          refine lv_goto hx hb dX0_leafCode_90 rfl ?_
          exact J_3 _ _ _ _ h (lv_sub hl [0] rfl) hM hS
      · have h := sk_neg h hc
        refine lv_aload_n hx hb dX0_leafCode_38 rfl (lv_at hl 1 rfl) ?_
        refine sk_getI (o := 62) (ci := 0) (j := 4) C hM rfl rfl (by decide) rfl kw_126 dX0_leafCode_39 ?_
        refine lv_aload_n hx hb dX0_leafCode_42 rfl (lv_at hl 1 rfl) ?_
        refine sk_getI (o := 62) (ci := 0) (j := 3) C hM rfl rfl (by decide) rfl kw_125 dX0_leafCode_43 ?_
        refine lv_isub hx hb dX0_leafCode_46 ?_
        refine lv_iconst (v := 4) hx hb dX0_leafCode_47 (by decide) ?_
        refine lv_icmp_gt hx hb dX0_leafCode_48 rfl (fun hc => ?_) (fun hc => ?_)
        · have h := sk_pos h hc
          refine lv_iload_n hx hb dX0_leafCode_58 rfl (lv_at hl 0 rfl) ?_
          exact sk_iret C hM hS ⟨Option.some.inj h, rfl⟩ dX0_leafCode_59
        · have h := sk_neg h hc
          refine lv_aload_n hx hb dX0_leafCode_51 rfl (lv_at hl 1 rfl) ?_
          obtain ⟨x_9, h_10, h⟩ := sk_b1E h
          refine sk_contI (sk_runV (As := []) (rest := []) C (c_X0_numberHere g l  M h_10) yo_X0_numberHere kw_804 (sk_recv (ci := 0) C hM rfl rfl) (by decide) hM hS hl.1 rfl rfl (Nat.le_of_ble_eq_true rfl) dX0_leafCode_52) hS (fun H locs hM hS => ?_)
          refine lv_goto hx hb dX0_leafCode_55 rfl ?_
          exact sk_iret C hM hS ⟨Option.some.inj h, rfl⟩ dX0_leafCode_59
    · have h := sk_neg h hc
      refine lv_iload_n hx hb dX0_leafCode_21 rfl (lv_at hl 0 rfl) ?_
      exact sk_iret C hM hS ⟨Option.some.inj h, rfl⟩ dX0_leafCode_22
theorem dX0_readLeaf_0 : decode cX0_readLeaf 0 = .ok (.aload_n 0, 1) := by decide +kernel
theorem dX0_readLeaf_1 : decode cX0_readLeaf 1 = .ok (.invokevirtual 117, 3) := by decide +kernel
theorem dX0_readLeaf_4 : decode cX0_readLeaf 4 = .ok (.istore_n 1, 1) := by decide +kernel
theorem dX0_readLeaf_5 : decode cX0_readLeaf 5 = .ok (.iload_n 1, 1) := by decide +kernel
theorem dX0_readLeaf_6 : decode cX0_readLeaf 6 = .ok (.bipush (-3), 2) := by decide +kernel
theorem dX0_readLeaf_8 : decode cX0_readLeaf 8 = .ok (.if_icmp .ge 8, 3) := by decide +kernel
theorem dX0_readLeaf_11 : decode cX0_readLeaf 11 = .ok (.aload_n 0, 1) := by decide +kernel
theorem dX0_readLeaf_12 : decode cX0_readLeaf 12 = .ok (.invokevirtual 44, 3) := by decide +kernel
theorem dX0_readLeaf_15 : decode cX0_readLeaf 15 = .ok (.return_, 1) := by decide +kernel
theorem dX0_readLeaf_16 : decode cX0_readLeaf 16 = .ok (.aload_n 0, 1) := by decide +kernel
theorem dX0_readLeaf_17 : decode cX0_readLeaf 17 = .ok (.iload_n 1, 1) := by decide +kernel
theorem dX0_readLeaf_18 : decode cX0_readLeaf 18 = .ok (.invokevirtual 104, 3) := by decide +kernel
theorem dX0_readLeaf_21 : decode cX0_readLeaf 21 = .ok (.aload_n 0, 1) := by decide +kernel
theorem dX0_readLeaf_22 : decode cX0_readLeaf 22 = .ok (.dup, 1) := by decide +kernel
theorem dX0_readLeaf_23 : decode cX0_readLeaf 23 = .ok (.getfield 31, 3) := by decide +kernel
theorem dX0_readLeaf_26 : decode cX0_readLeaf 26 = .ok (.iconst 1, 1) := by decide +kernel
theorem dX0_readLeaf_27 : decode cX0_readLeaf 27 = .ok (.iadd, 1) := by decide +kernel
theorem dX0_readLeaf_28 : decode cX0_readLeaf 28 = .ok (.putfield 31, 3) := by decide +kernel
theorem dX0_readLeaf_31 : decode cX0_readLeaf 31 = .ok (.aload_n 0, 1) := by decide +kernel
theorem dX0_readLeaf_32 : decode cX0_readLeaf 32 = .ok (.invokevirtual 34, 3) := by decide +kernel
theorem dX0_readLeaf_35 : decode cX0_readLeaf 35 = .ok (.return_, 1) := by decide +kernel
set_option maxHeartbeats 4000000 in
set_option maxRecDepth 100000 in
theorem c_X0_readLeaf (g : sk_G) (l : Launch)  (M : sk_M) {MM : sk_M} (h : f_X0_readLeaf M = some MM) : sk_MV g l yX0_readLeaf cX0_readLeaf 2 none 6 [.ref (sk_ad g 62)] M MM := by
  refine sk_go [(0, .ref (sk_ad g 62))] (by decide) (Nat.le_of_ble_eq_true rfl) rfl ?_
  intro p e s m av below meth c C ls hl hM hS
  obtain ⟨hx, hb, hml, hown, hts, hK, hE, hr, hlocks⟩ := id C
  rw [f_X0_readLeaf] at h
  refine lv_aload_n hx hb dX0_readLeaf_0 rfl (lv_at hl 0 rfl) ?_
  obtain ⟨x_1, h_2, h⟩ := sk_b1E h
  refine sk_contI (sk_runV (As := []) (rest := []) C (c_X0_leafCode g l  M h_2) yo_X0_leafCode kw_800 (sk_recv (ci := 0) C hM rfl rfl) (by decide) hM hS hl.1 rfl rfl (Nat.le_of_ble_eq_true rfl) dX0_readLeaf_1) hS (fun H locs hM hS => ?_)
  refine lv_istore_n (lv' := [(1, .int x_1), (0, .ref (sk_ad g 62))]) hx hb dX0_readLeaf_4 rfl hl (by decide) rfl (fun ls hl => ?_)
  refine lv_iload_n hx hb dX0_readLeaf_5 rfl (lv_at hl 0 rfl) ?_
  refine lv_bipush (v := (-3)) hx hb dX0_readLeaf_6 (by decide) ?_
  refine lv_icmp_ge hx hb dX0_readLeaf_8 rfl (fun hc => ?_) (fun hc => ?_)
  · have h := sk_pos h hc
    refine lv_aload_n hx hb dX0_readLeaf_16 rfl (lv_at hl 1 rfl) ?_
    refine lv_iload_n hx hb dX0_readLeaf_17 rfl (lv_at hl 0 rfl) ?_
    obtain ⟨M_3, h_4, h⟩ := sk_b1E h
    refine sk_contV (sk_runV (As := [.int x_1]) (rest := []) C (c_X0_put g l x_1 M h_4) yo_X0_put kw_790 (sk_recv (ci := 0) C hM rfl rfl) (by decide) hM hS hl.1 rfl rfl (Nat.le_of_ble_eq_true rfl) dX0_readLeaf_18) hS (fun H locs hM hS => ?_)
    refine lv_aload_n hx hb dX0_readLeaf_21 rfl (lv_at hl 1 rfl) ?_
    refine lv_dup hx hb dX0_readLeaf_22 rfl ?_
    refine sk_getI (o := 62) (ci := 0) (j := 8) C hM rfl rfl (by decide) rfl kw_134 dX0_readLeaf_23 ?_
    refine lv_iconst (v := 1) hx hb dX0_readLeaf_26 (by decide) ?_
    refine lv_iadd hx hb dX0_readLeaf_27 ?_
    refine sk_putI (o := 62) (ci := 0) (j := 8) C hM hS rfl rfl (by decide) rfl rfl (tyX0_ok 8 (by decide)) kw_134 dX0_readLeaf_28 (fun M_5 eM_5 H locs hM hS => ?_)
    have h := sk_letU h eM_5
    refine lv_aload_n hx hb dX0_readLeaf_31 rfl (lv_at hl 1 rfl) ?_
    obtain ⟨M_6, h_7, h⟩ := sk_b1E h
    refine sk_contV (sk_runV (As := []) (rest := []) C (c_X0_moveOn g l  M_5 h_7) yo_X0_moveOn kw_649 (sk_recv (ci := 0) C hM rfl rfl) (by decide) hM hS hl.1 rfl rfl (Nat.le_of_ble_eq_true rfl) dX0_readLeaf_32) hS (fun H locs hM hS => ?_)
    exact sk_vret C hM hS (Option.some.inj h) dX0_readLeaf_35
  · have h := sk_neg h hc
    refine lv_aload_n hx hb dX0_readLeaf_11 rfl (lv_at hl 1 rfl) ?_
    obtain ⟨M_8, h_9, h⟩ := sk_b1E h
    refine sk_contV (sk_runV (As := []) (rest := []) C (c_X0_fail g l  M h_9) yo_X0_fail kw_659 (sk_recv (ci := 0) C hM rfl rfl) (by decide) hM hS hl.1 rfl rfl (Nat.le_of_ble_eq_true rfl) dX0_readLeaf_12) hS (fun H locs hM hS => ?_)
    exact sk_vret C hM hS (Option.some.inj h) dX0_readLeaf_15
theorem dX0_readLevel_0 : decode cX0_readLevel 0 = .ok (.iload_n 1, 1) := by decide +kernel
theorem dX0_readLevel_1 : decode cX0_readLevel 1 = .ok (.iconst 5, 1) := by decide +kernel
theorem dX0_readLevel_2 : decode cX0_readLevel 2 = .ok (.if_icmp .lt 10, 3) := by decide +kernel
theorem dX0_readLevel_5 : decode cX0_readLevel 5 = .ok (.aload_n 0, 1) := by decide +kernel
theorem dX0_readLevel_6 : decode cX0_readLevel 6 = .ok (.iload_n 2, 1) := by decide +kernel
theorem dX0_readLevel_7 : decode cX0_readLevel 7 = .ok (.iload_n 3, 1) := by decide +kernel
theorem dX0_readLevel_8 : decode cX0_readLevel 8 = .ok (.invokevirtual 93, 3) := by decide +kernel
theorem dX0_readLevel_11 : decode cX0_readLevel 11 = .ok (.return_, 1) := by decide +kernel
theorem dX0_readLevel_12 : decode cX0_readLevel 12 = .ok (.aload_n 0, 1) := by decide +kernel
theorem dX0_readLevel_13 : decode cX0_readLevel 13 = .ok (.iload_n 1, 1) := by decide +kernel
theorem dX0_readLevel_14 : decode cX0_readLevel 14 = .ok (.iconst 1, 1) := by decide +kernel
theorem dX0_readLevel_15 : decode cX0_readLevel 15 = .ok (.iadd, 1) := by decide +kernel
theorem dX0_readLevel_16 : decode cX0_readLevel 16 = .ok (.iload_n 2, 1) := by decide +kernel
theorem dX0_readLevel_17 : decode cX0_readLevel 17 = .ok (.iload_n 3, 1) := by decide +kernel
theorem dX0_readLevel_18 : decode cX0_readLevel 18 = .ok (.invokevirtual 47, 3) := by decide +kernel
theorem dX0_readLevel_21 : decode cX0_readLevel 21 = .ok (.iload_n 1, 1) := by decide +kernel
theorem dX0_readLevel_22 : decode cX0_readLevel 22 = .ok (.iconst 2, 1) := by decide +kernel
theorem dX0_readLevel_23 : decode cX0_readLevel 23 = .ok (.if_icmp .ne 7, 3) := by decide +kernel
theorem dX0_readLevel_26 : decode cX0_readLevel 26 = .ok (.iconst 1, 1) := by decide +kernel
theorem dX0_readLevel_27 : decode cX0_readLevel 27 = .ok (.goto 5, 3) := by decide +kernel
theorem dX0_readLevel_30 : decode cX0_readLevel 30 = .ok (.bipush 96, 2) := by decide +kernel
theorem dX0_readLevel_32 : decode cX0_readLevel 32 = .ok (.istore 4, 2) := by decide +kernel
theorem dX0_readLevel_34 : decode cX0_readLevel 34 = .ok (.iconst 0, 1) := by decide +kernel
theorem dX0_readLevel_35 : decode cX0_readLevel 35 = .ok (.istore 5, 2) := by decide +kernel
theorem dX0_readLevel_37 : decode cX0_readLevel 37 = .ok (.iload 5, 2) := by decide +kernel
theorem dX0_readLevel_39 : decode cX0_readLevel 39 = .ok (.iload 4, 2) := by decide +kernel
theorem dX0_readLevel_41 : decode cX0_readLevel 41 = .ok (.if_icmp .ge 51, 3) := by decide +kernel
theorem dX0_readLevel_44 : decode cX0_readLevel 44 = .ok (.aload_n 0, 1) := by decide +kernel
theorem dX0_readLevel_45 : decode cX0_readLevel 45 = .ok (.iload_n 1, 1) := by decide +kernel
theorem dX0_readLevel_46 : decode cX0_readLevel 46 = .ok (.invokestatic 97, 3) := by decide +kernel
theorem dX0_readLevel_49 : decode cX0_readLevel 49 = .ok (.invokevirtual 101, 3) := by decide +kernel
theorem dX0_readLevel_52 : decode cX0_readLevel 52 = .ok (.ifCond .eq 40, 3) := by decide +kernel
theorem dX0_readLevel_55 : decode cX0_readLevel 55 = .ok (.aload_n 0, 1) := by decide +kernel
theorem dX0_readLevel_56 : decode cX0_readLevel 56 = .ok (.getfield 9, 3) := by decide +kernel
theorem dX0_readLevel_59 : decode cX0_readLevel 59 = .ok (.aload_n 0, 1) := by decide +kernel
theorem dX0_readLevel_60 : decode cX0_readLevel 60 = .ok (.getfield 51, 3) := by decide +kernel
theorem dX0_readLevel_63 : decode cX0_readLevel 63 = .ok (.iaload, 1) := by decide +kernel
theorem dX0_readLevel_64 : decode cX0_readLevel 64 = .ok (.istore 6, 2) := by decide +kernel
theorem dX0_readLevel_66 : decode cX0_readLevel 66 = .ok (.aload_n 0, 1) := by decide +kernel
theorem dX0_readLevel_67 : decode cX0_readLevel 67 = .ok (.invokevirtual 34, 3) := by decide +kernel
theorem dX0_readLevel_70 : decode cX0_readLevel 70 = .ok (.aload_n 0, 1) := by decide +kernel
theorem dX0_readLevel_71 : decode cX0_readLevel 71 = .ok (.iload_n 1, 1) := by decide +kernel
theorem dX0_readLevel_72 : decode cX0_readLevel 72 = .ok (.iconst 1, 1) := by decide +kernel
theorem dX0_readLevel_73 : decode cX0_readLevel 73 = .ok (.iadd, 1) := by decide +kernel
theorem dX0_readLevel_74 : decode cX0_readLevel 74 = .ok (.iload_n 2, 1) := by decide +kernel
theorem dX0_readLevel_75 : decode cX0_readLevel 75 = .ok (.iload_n 3, 1) := by decide +kernel
theorem dX0_readLevel_76 : decode cX0_readLevel 76 = .ok (.invokevirtual 47, 3) := by decide +kernel
theorem dX0_readLevel_79 : decode cX0_readLevel 79 = .ok (.aload_n 0, 1) := by decide +kernel
theorem dX0_readLevel_80 : decode cX0_readLevel 80 = .ok (.iload 6, 2) := by decide +kernel
theorem dX0_readLevel_82 : decode cX0_readLevel 82 = .ok (.ineg, 1) := by decide +kernel
theorem dX0_readLevel_83 : decode cX0_readLevel 83 = .ok (.invokevirtual 104, 3) := by decide +kernel
theorem dX0_readLevel_86 : decode cX0_readLevel 86 = .ok (.iinc 5 1, 3) := by decide +kernel
theorem dX0_readLevel_89 : decode cX0_readLevel 89 = .ok (.goto (-52), 3) := by decide +kernel
theorem dX0_readLevel_92 : decode cX0_readLevel 92 = .ok (.return_, 1) := by decide +kernel
theorem dX0_readPiece_0 : decode cX0_readPiece 0 = .ok (.aload_n 0, 1) := by decide +kernel
theorem dX0_readPiece_1 : decode cX0_readPiece 1 = .ok (.ldc 108, 2) := by decide +kernel
theorem dX0_readPiece_3 : decode cX0_readPiece 3 = .ok (.invokevirtual 101, 3) := by decide +kernel
theorem dX0_readPiece_6 : decode cX0_readPiece 6 = .ok (.ifCond .eq 30, 3) := by decide +kernel
theorem dX0_readPiece_9 : decode cX0_readPiece 9 = .ok (.iload_n 2, 1) := by decide +kernel
theorem dX0_readPiece_10 : decode cX0_readPiece 10 = .ok (.bipush 8, 2) := by decide +kernel
theorem dX0_readPiece_12 : decode cX0_readPiece 12 = .ok (.if_icmp .ge 24, 3) := by decide +kernel
theorem dX0_readPiece_15 : decode cX0_readPiece 15 = .ok (.aload_n 0, 1) := by decide +kernel
theorem dX0_readPiece_16 : decode cX0_readPiece 16 = .ok (.invokevirtual 34, 3) := by decide +kernel
theorem dX0_readPiece_19 : decode cX0_readPiece 19 = .ok (.aload_n 0, 1) := by decide +kernel
theorem dX0_readPiece_20 : decode cX0_readPiece 20 = .ok (.iload_n 1, 1) := by decide +kernel
theorem dX0_readPiece_21 : decode cX0_readPiece 21 = .ok (.iload_n 2, 1) := by decide +kernel
theorem dX0_readPiece_22 : decode cX0_readPiece 22 = .ok (.iconst 1, 1) := by decide +kernel
theorem dX0_readPiece_23 : decode cX0_readPiece 23 = .ok (.iadd, 1) := by decide +kernel
theorem dX0_readPiece_24 : decode cX0_readPiece 24 = .ok (.invokevirtual 93, 3) := by decide +kernel
theorem dX0_readPiece_27 : decode cX0_readPiece 27 = .ok (.aload_n 0, 1) := by decide +kernel
theorem dX0_readPiece_28 : decode cX0_readPiece 28 = .ok (.bipush (-33), 2) := by decide +kernel
theorem dX0_readPiece_30 : decode cX0_readPiece 30 = .ok (.invokevirtual 104, 3) := by decide +kernel
theorem dX0_readPiece_33 : decode cX0_readPiece 33 = .ok (.goto 58, 3) := by decide +kernel
theorem dX0_readPiece_36 : decode cX0_readPiece 36 = .ok (.aload_n 0, 1) := by decide +kernel
theorem dX0_readPiece_37 : decode cX0_readPiece 37 = .ok (.ldc 110, 2) := by decide +kernel
theorem dX0_readPiece_39 : decode cX0_readPiece 39 = .ok (.invokevirtual 101, 3) := by decide +kernel
theorem dX0_readPiece_42 : decode cX0_readPiece 42 = .ok (.ifCond .eq 45, 3) := by decide +kernel
theorem dX0_readPiece_45 : decode cX0_readPiece 45 = .ok (.iload_n 1, 1) := by decide +kernel
theorem dX0_readPiece_46 : decode cX0_readPiece 46 = .ok (.bipush 8, 2) := by decide +kernel
theorem dX0_readPiece_48 : decode cX0_readPiece 48 = .ok (.if_icmp .ge 39, 3) := by decide +kernel
theorem dX0_readPiece_51 : decode cX0_readPiece 51 = .ok (.aload_n 0, 1) := by decide +kernel
theorem dX0_readPiece_52 : decode cX0_readPiece 52 = .ok (.invokevirtual 34, 3) := by decide +kernel
theorem dX0_readPiece_55 : decode cX0_readPiece 55 = .ok (.aload_n 0, 1) := by decide +kernel
theorem dX0_readPiece_56 : decode cX0_readPiece 56 = .ok (.iconst 0, 1) := by decide +kernel
theorem dX0_readPiece_57 : decode cX0_readPiece 57 = .ok (.iload_n 1, 1) := by decide +kernel
theorem dX0_readPiece_58 : decode cX0_readPiece 58 = .ok (.iconst 1, 1) := by decide +kernel
theorem dX0_readPiece_59 : decode cX0_readPiece 59 = .ok (.iadd, 1) := by decide +kernel
theorem dX0_readPiece_60 : decode cX0_readPiece 60 = .ok (.iload_n 2, 1) := by decide +kernel
theorem dX0_readPiece_61 : decode cX0_readPiece 61 = .ok (.invokevirtual 47, 3) := by decide +kernel
theorem dX0_readPiece_64 : decode cX0_readPiece 64 = .ok (.aload_n 0, 1) := by decide +kernel
theorem dX0_readPiece_65 : decode cX0_readPiece 65 = .ok (.ldc 112, 2) := by decide +kernel
theorem dX0_readPiece_67 : decode cX0_readPiece 67 = .ok (.invokevirtual 101, 3) := by decide +kernel
theorem dX0_readPiece_70 : decode cX0_readPiece 70 = .ok (.ifCond .eq 10, 3) := by decide +kernel
theorem dX0_readPiece_73 : decode cX0_readPiece 73 = .ok (.aload_n 0, 1) := by decide +kernel
theorem dX0_readPiece_74 : decode cX0_readPiece 74 = .ok (.invokevirtual 34, 3) := by decide +kernel
theorem dX0_readPiece_77 : decode cX0_readPiece 77 = .ok (.goto 14, 3) := by decide +kernel
theorem dX0_readPiece_80 : decode cX0_readPiece 80 = .ok (.aload_n 0, 1) := by decide +kernel
theorem dX0_readPiece_81 : decode cX0_readPiece 81 = .ok (.invokevirtual 44, 3) := by decide +kernel
theorem dX0_readPiece_84 : decode cX0_readPiece 84 = .ok (.goto 7, 3) := by decide +kernel
theorem dX0_readPiece_87 : decode cX0_readPiece 87 = .ok (.aload_n 0, 1) := by decide +kernel
theorem dX0_readPiece_88 : decode cX0_readPiece 88 = .ok (.invokevirtual 114, 3) := by decide +kernel
theorem dX0_readPiece_91 : decode cX0_readPiece 91 = .ok (.return_, 1) := by decide +kernel
set_option maxHeartbeats 4000000 in
set_option maxRecDepth 100000 in
theorem w_X0_readLevel_L37 {g : sk_G} {l : Launch} {p : Program} {e : Env} {s : State} {m : MethodId} {av : Array Value} {below : List Frame} {meth : Method} {c : Code} (C : sk_C g p s m av meth c cX0_readLevel 7 RX0 none) (self : Nat → Int32 → Int32 → Int32 → sk_M → Option sk_M) (a1 : Int32) (a2 : Int32) (a3 : Int32) (a4 : Int32) {dy dd : Nat} (hdd : dy + 1 = dd) (hdB : 6 < dd) (ih0 : ∀ (a b c : Int32) (M M1 : sk_M), self 0 a b c M = some M1 → sk_MV g l yX0_readLevel cX0_readLevel 7 none dy [.ref (sk_ad g 62), .int a, .int b, .int c] M M1) (ih1 : ∀ (a b : Int32) (M M1 : sk_M), self 1 a b 0 M = some M1 → sk_MV g l yX0_readPiece cX0_readPiece 3 none dy [.ref (sk_ad g 62), .int a, .int b] M M1) {MM : sk_M} :
    ∀ (n : Nat) (a5 : Int32) (M : sk_M) (H : Heap) (locs : List Loc) (ls : Array Slot), lv_has ls 7 [(0, .ref (sk_ad g 62)), (1, .int a1), (2, .int a2), (3, .int a3), (4, .int a4), (5, .int a5)] → sk_P g M H → va_S (sk_A g) s.heap H locs → ∀ {out : sk_M}, f_X0_readLevel_L37 self a1 a2 a3 a4 n a5 M = some out → (∀ (M1 : sk_M) (H : Heap) (locs : List Loc) (ls : Array Slot), some M1 = some out → lv_has ls 7 [] → sk_P g M1 H → va_S (sk_A g) s.heap H locs → W p l e (sk_rm dd) s m av below meth c H locs 0 0 (MQ below (sk_QV g MM) av s 0 0 (sk_A g)) (F0 m 92 ls [])) → W p l e (sk_rm dd) s m av below meth c H locs 0 0 (MQ below (sk_QV g MM) av s 0 0 (sk_A g)) (F0 m 37 ls []) := by
  obtain ⟨hx, hb, hml, hown, hts, hK, hE, hr, hlocks⟩ := id C
  intro n
  induction n with
  | zero =>
    intro a5 M H locs ls hl hM hS out h
    cases h
  | succ n ih =>
    intro a5 M H locs ls hl hM hS out h kx
    rw [f_X0_readLevel_L37] at h
    refine lv_iload hx hb dX0_readLevel_37 (lv_at hl 5 rfl) ?_
    refine lv_iload hx hb dX0_readLevel_39 (lv_at hl 4 rfl) ?_
    refine lv_icmp_ge hx hb dX0_readLevel_41 rfl (fun hc => ?_) (fun hc => ?_)
    · have h := sk_pos h hc
      exact kx _ _ _ _ h (lv_sub hl [] rfl) hM hS
    · have h := sk_neg h hc
      refine lv_aload_n hx hb dX0_readLevel_44 rfl (lv_at hl 0 rfl) ?_
      refine lv_iload_n hx hb dX0_readLevel_45 rfl (lv_at hl 1 rfl) ?_
      refine sk_contS (sk_runS (As := [.int a1]) (rest := [.ref (sk_ad g 62)]) C (c_X0_signsOf g l a1 M rfl) yo_X0_signsOf kw_815 (by omega) hM hS hl.1 rfl rfl (Nat.le_of_ble_eq_true rfl) dX0_readLevel_46) hS (fun H locs hM hS => ?_)
      obtain ⟨x_5, h_6, h⟩ := sk_b1E h
      refine sk_contI (sk_runV (As := [.ref (sk_aK g (f_X0_signsOf a1))]) (rest := []) C (c_X0_isSignOf g l (f_X0_signsOf a1) (fs_X0_signsOf a1) M h_6) yo_X0_isSignOf kw_731 (sk_recv (ci := 0) C hM rfl rfl) (by omega) hM hS hl.1 rfl rfl (Nat.le_of_ble_eq_true rfl) dX0_readLevel_49) hS (fun H locs hM hS => ?_)
      refine lv_if_eq hx hb dX0_readLevel_52 rfl (fun hc => ?_) (fun hc => ?_)
      · have h := sk_pos h hc
        exact kx _ _ _ _ h (lv_sub hl [] rfl) hM hS
      · have h := sk_neg h hc
        refine lv_aload_n hx hb dX0_readLevel_55 rfl (lv_at hl 0 rfl) ?_
        refine sk_getR (o := 62) (ci := 0) (j := 0) (t := 63) C hM rfl rfl (by decide) rfl rfl kw_120 dX0_readLevel_56 ?_
        refine lv_aload_n hx hb dX0_readLevel_59 rfl (lv_at hl 0 rfl) ?_
        refine sk_getI (o := 62) (ci := 0) (j := 3) C hM rfl rfl (by decide) rfl kw_125 dX0_readLevel_60 ?_
        obtain ⟨i_7, h⟩ := sk_chkE h
        refine sk_iald (o := 63) C hM rfl i_7 dX0_readLevel_63 ?_
        refine lv_topi (fun x_8 ex_8 => ?_)
        have h := sk_letU h ex_8
        refine lv_istore (lv' := [(6, .int x_8), (0, .ref (sk_ad g 62)), (1, .int a1), (2, .int a2), (3, .int a3), (4, .int a4), (5, .int a5)]) hx hb dX0_readLevel_64 hl (by decide) rfl (fun ls hl => ?_)
        refine lv_aload_n hx hb dX0_readLevel_66 rfl (lv_at hl 1 rfl) ?_
        obtain ⟨M_9, h_10, h⟩ := sk_b1E h
        refine sk_contV (sk_runV (As := []) (rest := []) C (c_X0_moveOn g l  M h_10) yo_X0_moveOn kw_649 (sk_recv (ci := 0) C hM rfl rfl) (by omega) hM hS hl.1 rfl rfl (Nat.le_of_ble_eq_true rfl) dX0_readLevel_67) hS (fun H locs hM hS => ?_)
        refine lv_aload_n hx hb dX0_readLevel_70 rfl (lv_at hl 1 rfl) ?_
        refine lv_iload_n hx hb dX0_readLevel_71 rfl (lv_at hl 2 rfl) ?_
        refine lv_iconst (v := 1) hx hb dX0_readLevel_72 (by decide) ?_
        refine lv_iadd hx hb dX0_readLevel_73 ?_
        refine lv_iload_n hx hb dX0_readLevel_74 rfl (lv_at hl 3 rfl) ?_
        refine lv_iload_n hx hb dX0_readLevel_75 rfl (lv_at hl 4 rfl) ?_
        obtain ⟨M_11, h_12, h⟩ := sk_b1E h
        refine sk_contV (sk_runV (As := [.int (a1 + 1), .int a2, .int a3]) (rest := []) C (ih0 (a1 + 1) a2 a3 _ _ h_12) yo_X0_readLevel kw_722 (sk_recv (ci := 0) C hM rfl rfl) (by omega) hM hS hl.1 rfl rfl (Nat.le_of_ble_eq_true rfl) dX0_readLevel_76) hS (fun H locs hM hS => ?_)
        refine lv_aload_n hx hb dX0_readLevel_79 rfl (lv_at hl 1 rfl) ?_
        refine lv_iload hx hb dX0_readLevel_80 (lv_at hl 0 rfl) ?_
        refine lv_ineg hx hb dX0_readLevel_82 ?_
        obtain ⟨M_13, h_14, h⟩ := sk_b1E h
        refine sk_contV (sk_runV (As := [.int (-x_8)]) (rest := []) C (c_X0_put g l (-x_8) M_11 h_14) yo_X0_put kw_790 (sk_recv (ci := 0) C hM rfl rfl) (by omega) hM hS hl.1 rfl rfl (Nat.le_of_ble_eq_true rfl) dX0_readLevel_83) hS (fun H locs hM hS => ?_)
        refine lv_iinc (v := (a5 + 1)) (lv' := [(5, .int (a5 + 1)), (6, .int x_8), (0, .ref (sk_ad g 62)), (1, .int a1), (2, .int a2), (3, .int a3), (4, .int a4)]) hx hb dX0_readLevel_86 hl (k := 6) rfl rfl (by decide) rfl (fun ls hl => ?_)
        refine lv_goto hx hb dX0_readLevel_89 rfl ?_
        exact ih (a5 + 1) M_13 _ _ _ (lv_sub hl [2, 3, 4, 5, 6, 0] rfl) hM hS h kx
set_option maxHeartbeats 4000000 in
set_option maxRecDepth 100000 in
theorem w_X0_readLevel (g : sk_G) (l : Launch) (self : Nat → Int32 → Int32 → Int32 → sk_M → Option sk_M) (a1 : Int32) (a2 : Int32) (a3 : Int32) {dy dd : Nat} (hdd : dy + 1 = dd) (hdB : 6 < dd) (ih0 : ∀ (a b c : Int32) (M M1 : sk_M), self 0 a b c M = some M1 → sk_MV g l yX0_readLevel cX0_readLevel 7 none dy [.ref (sk_ad g 62), .int a, .int b, .int c] M M1) (ih1 : ∀ (a b : Int32) (M M1 : sk_M), self 1 a b 0 M = some M1 → sk_MV g l yX0_readPiece cX0_readPiece 3 none dy [.ref (sk_ad g 62), .int a, .int b] M M1) (M : sk_M) {MM : sk_M} (h : f_X0_readLevel self a1 a2 a3 M = some MM) : sk_MV g l yX0_readLevel cX0_readLevel 7 none dd [.ref (sk_ad g 62), .int a1, .int a2, .int a3] M MM := by
  refine sk_go [(0, .ref (sk_ad g 62)), (1, .int a1), (2, .int a2), (3, .int a3)] (by decide) (Nat.le_of_ble_eq_true rfl) rfl ?_
  intro p e s m av below meth c C ls hl hM hS
  obtain ⟨hx, hb, hml, hown, hts, hK, hE, hr, hlocks⟩ := id C
  rw [f_X0_readLevel] at h
  refine lv_iload_n hx hb dX0_readLevel_0 rfl (lv_at hl 1 rfl) ?_
  refine lv_iconst (v := 5) hx hb dX0_readLevel_1 (by decide) ?_
  refine lv_icmp_lt hx hb dX0_readLevel_2 rfl (fun hc => ?_) (fun hc => ?_)
  · have h := sk_pos h hc
    refine lv_aload_n hx hb dX0_readLevel_12 rfl (lv_at hl 0 rfl) ?_
    refine lv_iload_n hx hb dX0_readLevel_13 rfl (lv_at hl 1 rfl) ?_
    refine lv_iconst (v := 1) hx hb dX0_readLevel_14 (by decide) ?_
    refine lv_iadd hx hb dX0_readLevel_15 ?_
    refine lv_iload_n hx hb dX0_readLevel_16 rfl (lv_at hl 2 rfl) ?_
    refine lv_iload_n hx hb dX0_readLevel_17 rfl (lv_at hl 3 rfl) ?_
    obtain ⟨M_1, h_2, h⟩ := sk_b1E h
    refine sk_contV (sk_runV (As := [.int (a1 + 1), .int a2, .int a3]) (rest := []) C (ih0 (a1 + 1) a2 a3 _ _ h_2) yo_X0_readLevel kw_722 (sk_recv (ci := 0) C hM rfl rfl) (by omega) hM hS hl.1 rfl rfl (Nat.le_of_ble_eq_true rfl) dX0_readLevel_18) hS (fun H locs hM hS => ?_)
    refine lv_iload_n hx hb dX0_readLevel_21 rfl (lv_at hl 1 rfl) ?_
    refine lv_iconst (v := 2) hx hb dX0_readLevel_22 (by decide) ?_
    have J : ∀ (vv : Int32) (H : Heap) (locs : List Loc), (if a1 = 2 then 1 else 96 : Int32) = vv → sk_P g M_1 H → va_S (sk_A g) s.heap H locs → W p l e (sk_rm dd) s m av below meth c H locs 0 0 (MQ below (sk_QV g MM) av s 0 0 (sk_A g)) (F0 m 32 ls [.int vv]) := by
      intro vv H locs hvv hM hS
      subst hvv
      refine lv_topi (fun x_3 ex_3 => ?_)
      have h := sk_letU h ex_3
      refine lv_istore (lv' := [(4, .int x_3), (0, .ref (sk_ad g 62)), (1, .int a1), (2, .int a2), (3, .int a3)]) hx hb dX0_readLevel_32 hl (by decide) rfl (fun ls hl => ?_)
      refine lv_iconst (v := 0) hx hb dX0_readLevel_34 (by decide) ?_
      refine lv_istore (lv' := [(5, .int 0), (4, .int x_3), (0, .ref (sk_ad g 62)), (1, .int a1), (2, .int a2), (3, .int a3)]) hx hb dX0_readLevel_35 hl (by decide) rfl (fun ls hl => ?_)
      obtain ⟨M_15, h_16, h⟩ := sk_b1E h
      refine w_X0_readLevel_L37 C self a1 a2 a3 x_3 hdd hdB ih0 ih1 sk_FU 0 M_1 _ _ _ (lv_sub hl [2, 3, 4, 5, 1, 0] rfl) hM hS h_16 (fun y_17 H locs ls he hl hM hS => ?_)
      obtain rfl := Option.some.inj he
      exact sk_vret C hM hS (Option.some.inj h) dX0_readLevel_92
    refine lv_icmp_ne hx hb dX0_readLevel_23 rfl (fun hc => ?_) (fun hc => ?_)
    · have J := fun vv H locs q => J vv H locs ((if_neg hc).trans q)
      refine lv_bipush (v := 96) hx hb dX0_readLevel_30 (by decide) ?_
      exact J _ _ _ rfl hM hS
    · have J := fun vv H locs q => J vv H locs ((if_pos hc).trans q)
      refine lv_iconst (v := 1) hx hb dX0_readLevel_26 (by decide) ?_
      refine lv_goto hx hb dX0_readLevel_27 rfl ?_
      exact J _ _ _ rfl hM hS
  · have h := sk_neg h hc
    refine lv_aload_n hx hb dX0_readLevel_5 rfl (lv_at hl 0 rfl) ?_
    refine lv_iload_n hx hb dX0_readLevel_6 rfl (lv_at hl 2 rfl) ?_
    refine lv_iload_n hx hb dX0_readLevel_7 rfl (lv_at hl 3 rfl) ?_
    obtain ⟨M_18, h_19, h⟩ := sk_b1E h
    refine sk_contV (sk_runV (As := [.int a2, .int a3]) (rest := []) C (ih1 a2 a3 _ _ h_19) yo_X0_readPiece kw_726 (sk_recv (ci := 0) C hM rfl rfl) (by omega) hM hS hl.1 rfl rfl (Nat.le_of_ble_eq_true rfl) dX0_readLevel_8) hS (fun H locs hM hS => ?_)
    exact sk_vret C hM hS (Option.some.inj h) dX0_readLevel_11
set_option maxHeartbeats 4000000 in
set_option maxRecDepth 100000 in
theorem w_X0_readPiece (g : sk_G) (l : Launch) (self : Nat → Int32 → Int32 → Int32 → sk_M → Option sk_M) (a1 : Int32) (a2 : Int32) {dy dd : Nat} (hdd : dy + 1 = dd) (hdB : 6 < dd) (ih0 : ∀ (a b c : Int32) (M M1 : sk_M), self 0 a b c M = some M1 → sk_MV g l yX0_readLevel cX0_readLevel 7 none dy [.ref (sk_ad g 62), .int a, .int b, .int c] M M1) (ih1 : ∀ (a b : Int32) (M M1 : sk_M), self 1 a b 0 M = some M1 → sk_MV g l yX0_readPiece cX0_readPiece 3 none dy [.ref (sk_ad g 62), .int a, .int b] M M1) (M : sk_M) {MM : sk_M} (h : f_X0_readPiece self a1 a2 M = some MM) : sk_MV g l yX0_readPiece cX0_readPiece 3 none dd [.ref (sk_ad g 62), .int a1, .int a2] M MM := by
  refine sk_go [(0, .ref (sk_ad g 62)), (1, .int a1), (2, .int a2)] (by decide) (Nat.le_of_ble_eq_true rfl) rfl ?_
  intro p e s m av below meth c C ls hl hM hS
  obtain ⟨hx, hb, hml, hown, hts, hK, hE, hr, hlocks⟩ := id C
  rw [f_X0_readPiece] at h
  refine lv_aload_n hx hb dX0_readPiece_0 rfl (lv_at hl 0 rfl) ?_
  refine va_ldcS (q := sk_aK g 8) hx hb hown (hE.2.2.2.2.2 8 (by decide)) dX0_readPiece_1 ?_
  obtain ⟨x_1, h_2, h⟩ := sk_b1E h
  refine sk_contI (sk_runV (As := [.ref (sk_aK g 8)]) (rest := []) C (c_X0_isSignOf g l 8 (by decide) M h_2) yo_X0_isSignOf kw_731 (sk_recv (ci := 0) C hM rfl rfl) (by omega) hM hS hl.1 rfl rfl (Nat.le_of_ble_eq_true rfl) dX0_readPiece_3) hS (fun H locs hM hS => ?_)
  refine lv_if_eq hx hb dX0_readPiece_6 rfl (fun hc => ?_) (fun hc => ?_)
  · have h := sk_pos h hc
    refine lv_aload_n hx hb dX0_readPiece_36 rfl (lv_at hl 0 rfl) ?_
    refine va_ldcS (q := sk_aK g 9) hx hb hown (hE.2.2.2.2.2 9 (by decide)) dX0_readPiece_37 ?_
    obtain ⟨x_3, h_4, h⟩ := sk_b1E h
    refine sk_contI (sk_runV (As := [.ref (sk_aK g 9)]) (rest := []) C (c_X0_isSignOf g l 9 (by decide) M h_4) yo_X0_isSignOf kw_731 (sk_recv (ci := 0) C hM rfl rfl) (by omega) hM hS hl.1 rfl rfl (Nat.le_of_ble_eq_true rfl) dX0_readPiece_39) hS (fun H locs hM hS => ?_)
    refine lv_if_eq hx hb dX0_readPiece_42 rfl (fun hc => ?_) (fun hc => ?_)
    · have h := sk_pos h hc
      refine lv_aload_n hx hb dX0_readPiece_87 rfl (lv_at hl 0 rfl) ?_
      obtain ⟨M_5, h_6, h⟩ := sk_b1E h
      refine sk_contV (sk_runV (As := []) (rest := []) C (c_X0_readLeaf g l  M h_6) yo_X0_readLeaf kw_796 (sk_recv (ci := 0) C hM rfl rfl) (by omega) hM hS hl.1 rfl rfl (Nat.le_of_ble_eq_true rfl) dX0_readPiece_88) hS (fun H locs hM hS => ?_)
      exact sk_vret C hM hS (Option.some.inj h) dX0_readPiece_91
    · have h := sk_neg h hc
      refine lv_iload_n hx hb dX0_readPiece_45 rfl (lv_at hl 1 rfl) ?_
      refine lv_bipush (v := 8) hx hb dX0_readPiece_46 (by decide) ?_
      refine lv_icmp_ge hx hb dX0_readPiece_48 rfl (fun hc => ?_) (fun hc => ?_)
      · have h := sk_pos h hc
        refine lv_aload_n hx hb dX0_readPiece_87 rfl (lv_at hl 0 rfl) ?_
        obtain ⟨M_7, h_8, h⟩ := sk_b1E h
        refine sk_contV (sk_runV (As := []) (rest := []) C (c_X0_readLeaf g l  M h_8) yo_X0_readLeaf kw_796 (sk_recv (ci := 0) C hM rfl rfl) (by omega) hM hS hl.1 rfl rfl (Nat.le_of_ble_eq_true rfl) dX0_readPiece_88) hS (fun H locs hM hS => ?_)
        exact sk_vret C hM hS (Option.some.inj h) dX0_readPiece_91
      · have h := sk_neg h hc
        refine lv_aload_n hx hb dX0_readPiece_51 rfl (lv_at hl 0 rfl) ?_
        obtain ⟨M_9, h_10, h⟩ := sk_b1E h
        refine sk_contV (sk_runV (As := []) (rest := []) C (c_X0_moveOn g l  M h_10) yo_X0_moveOn kw_649 (sk_recv (ci := 0) C hM rfl rfl) (by omega) hM hS hl.1 rfl rfl (Nat.le_of_ble_eq_true rfl) dX0_readPiece_52) hS (fun H locs hM hS => ?_)
        refine lv_aload_n hx hb dX0_readPiece_55 rfl (lv_at hl 0 rfl) ?_
        refine lv_iconst (v := 0) hx hb dX0_readPiece_56 (by decide) ?_
        refine lv_iload_n hx hb dX0_readPiece_57 rfl (lv_at hl 1 rfl) ?_
        refine lv_iconst (v := 1) hx hb dX0_readPiece_58 (by decide) ?_
        refine lv_iadd hx hb dX0_readPiece_59 ?_
        refine lv_iload_n hx hb dX0_readPiece_60 rfl (lv_at hl 2 rfl) ?_
        obtain ⟨M_11, h_12, h⟩ := sk_b1E h
        refine sk_contV (sk_runV (As := [.int 0, .int (a1 + 1), .int a2]) (rest := []) C (ih0 0 (a1 + 1) a2 _ _ h_12) yo_X0_readLevel kw_722 (sk_recv (ci := 0) C hM rfl rfl) (by omega) hM hS hl.1 rfl rfl (Nat.le_of_ble_eq_true rfl) dX0_readPiece_61) hS (fun H locs hM hS => ?_)
        refine lv_aload_n hx hb dX0_readPiece_64 rfl (lv_at hl 0 rfl) ?_
        refine va_ldcS (q := sk_aK g 10) hx hb hown (hE.2.2.2.2.2 10 (by decide)) dX0_readPiece_65 ?_
        obtain ⟨x_13, h_14, h⟩ := sk_b1E h
        refine sk_contI (sk_runV (As := [.ref (sk_aK g 10)]) (rest := []) C (c_X0_isSignOf g l 10 (by decide) M_11 h_14) yo_X0_isSignOf kw_731 (sk_recv (ci := 0) C hM rfl rfl) (by omega) hM hS hl.1 rfl rfl (Nat.le_of_ble_eq_true rfl) dX0_readPiece_67) hS (fun H locs hM hS => ?_)
        refine lv_if_eq hx hb dX0_readPiece_70 rfl (fun hc => ?_) (fun hc => ?_)
        · have h := sk_pos h hc
          refine lv_aload_n hx hb dX0_readPiece_80 rfl (lv_at hl 0 rfl) ?_
          obtain ⟨M_15, h_16, h⟩ := sk_b1E h
          refine sk_contV (sk_runV (As := []) (rest := []) C (c_X0_fail g l  M_11 h_16) yo_X0_fail kw_659 (sk_recv (ci := 0) C hM rfl rfl) (by omega) hM hS hl.1 rfl rfl (Nat.le_of_ble_eq_true rfl) dX0_readPiece_81) hS (fun H locs hM hS => ?_)
          refine lv_goto hx hb dX0_readPiece_84 rfl ?_
          exact sk_vret C hM hS (Option.some.inj h) dX0_readPiece_91
        · have h := sk_neg h hc
          refine lv_aload_n hx hb dX0_readPiece_73 rfl (lv_at hl 0 rfl) ?_
          obtain ⟨M_17, h_18, h⟩ := sk_b1E h
          refine sk_contV (sk_runV (As := []) (rest := []) C (c_X0_moveOn g l  M_11 h_18) yo_X0_moveOn kw_649 (sk_recv (ci := 0) C hM rfl rfl) (by omega) hM hS hl.1 rfl rfl (Nat.le_of_ble_eq_true rfl) dX0_readPiece_74) hS (fun H locs hM hS => ?_)
          refine lv_goto hx hb dX0_readPiece_77 rfl ?_
          exact sk_vret C hM hS (Option.some.inj h) dX0_readPiece_91
  · have h := sk_neg h hc
    refine lv_iload_n hx hb dX0_readPiece_9 rfl (lv_at hl 2 rfl) ?_
    refine lv_bipush (v := 8) hx hb dX0_readPiece_10 (by decide) ?_
    refine lv_icmp_ge hx hb dX0_readPiece_12 rfl (fun hc => ?_) (fun hc => ?_)
    · have h := sk_pos h hc
      refine lv_aload_n hx hb dX0_readPiece_36 rfl (lv_at hl 0 rfl) ?_
      refine va_ldcS (q := sk_aK g 9) hx hb hown (hE.2.2.2.2.2 9 (by decide)) dX0_readPiece_37 ?_
      obtain ⟨x_19, h_20, h⟩ := sk_b1E h
      refine sk_contI (sk_runV (As := [.ref (sk_aK g 9)]) (rest := []) C (c_X0_isSignOf g l 9 (by decide) M h_20) yo_X0_isSignOf kw_731 (sk_recv (ci := 0) C hM rfl rfl) (by omega) hM hS hl.1 rfl rfl (Nat.le_of_ble_eq_true rfl) dX0_readPiece_39) hS (fun H locs hM hS => ?_)
      refine lv_if_eq hx hb dX0_readPiece_42 rfl (fun hc => ?_) (fun hc => ?_)
      · have h := sk_pos h hc
        refine lv_aload_n hx hb dX0_readPiece_87 rfl (lv_at hl 0 rfl) ?_
        obtain ⟨M_21, h_22, h⟩ := sk_b1E h
        refine sk_contV (sk_runV (As := []) (rest := []) C (c_X0_readLeaf g l  M h_22) yo_X0_readLeaf kw_796 (sk_recv (ci := 0) C hM rfl rfl) (by omega) hM hS hl.1 rfl rfl (Nat.le_of_ble_eq_true rfl) dX0_readPiece_88) hS (fun H locs hM hS => ?_)
        exact sk_vret C hM hS (Option.some.inj h) dX0_readPiece_91
      · have h := sk_neg h hc
        refine lv_iload_n hx hb dX0_readPiece_45 rfl (lv_at hl 1 rfl) ?_
        refine lv_bipush (v := 8) hx hb dX0_readPiece_46 (by decide) ?_
        refine lv_icmp_ge hx hb dX0_readPiece_48 rfl (fun hc => ?_) (fun hc => ?_)
        · have h := sk_pos h hc
          refine lv_aload_n hx hb dX0_readPiece_87 rfl (lv_at hl 0 rfl) ?_
          obtain ⟨M_23, h_24, h⟩ := sk_b1E h
          refine sk_contV (sk_runV (As := []) (rest := []) C (c_X0_readLeaf g l  M h_24) yo_X0_readLeaf kw_796 (sk_recv (ci := 0) C hM rfl rfl) (by omega) hM hS hl.1 rfl rfl (Nat.le_of_ble_eq_true rfl) dX0_readPiece_88) hS (fun H locs hM hS => ?_)
          exact sk_vret C hM hS (Option.some.inj h) dX0_readPiece_91
        · have h := sk_neg h hc
          refine lv_aload_n hx hb dX0_readPiece_51 rfl (lv_at hl 0 rfl) ?_
          obtain ⟨M_25, h_26, h⟩ := sk_b1E h
          refine sk_contV (sk_runV (As := []) (rest := []) C (c_X0_moveOn g l  M h_26) yo_X0_moveOn kw_649 (sk_recv (ci := 0) C hM rfl rfl) (by omega) hM hS hl.1 rfl rfl (Nat.le_of_ble_eq_true rfl) dX0_readPiece_52) hS (fun H locs hM hS => ?_)
          refine lv_aload_n hx hb dX0_readPiece_55 rfl (lv_at hl 0 rfl) ?_
          refine lv_iconst (v := 0) hx hb dX0_readPiece_56 (by decide) ?_
          refine lv_iload_n hx hb dX0_readPiece_57 rfl (lv_at hl 1 rfl) ?_
          refine lv_iconst (v := 1) hx hb dX0_readPiece_58 (by decide) ?_
          refine lv_iadd hx hb dX0_readPiece_59 ?_
          refine lv_iload_n hx hb dX0_readPiece_60 rfl (lv_at hl 2 rfl) ?_
          obtain ⟨M_27, h_28, h⟩ := sk_b1E h
          refine sk_contV (sk_runV (As := [.int 0, .int (a1 + 1), .int a2]) (rest := []) C (ih0 0 (a1 + 1) a2 _ _ h_28) yo_X0_readLevel kw_722 (sk_recv (ci := 0) C hM rfl rfl) (by omega) hM hS hl.1 rfl rfl (Nat.le_of_ble_eq_true rfl) dX0_readPiece_61) hS (fun H locs hM hS => ?_)
          refine lv_aload_n hx hb dX0_readPiece_64 rfl (lv_at hl 0 rfl) ?_
          refine va_ldcS (q := sk_aK g 10) hx hb hown (hE.2.2.2.2.2 10 (by decide)) dX0_readPiece_65 ?_
          obtain ⟨x_29, h_30, h⟩ := sk_b1E h
          refine sk_contI (sk_runV (As := [.ref (sk_aK g 10)]) (rest := []) C (c_X0_isSignOf g l 10 (by decide) M_27 h_30) yo_X0_isSignOf kw_731 (sk_recv (ci := 0) C hM rfl rfl) (by omega) hM hS hl.1 rfl rfl (Nat.le_of_ble_eq_true rfl) dX0_readPiece_67) hS (fun H locs hM hS => ?_)
          refine lv_if_eq hx hb dX0_readPiece_70 rfl (fun hc => ?_) (fun hc => ?_)
          · have h := sk_pos h hc
            refine lv_aload_n hx hb dX0_readPiece_80 rfl (lv_at hl 0 rfl) ?_
            obtain ⟨M_31, h_32, h⟩ := sk_b1E h
            refine sk_contV (sk_runV (As := []) (rest := []) C (c_X0_fail g l  M_27 h_32) yo_X0_fail kw_659 (sk_recv (ci := 0) C hM rfl rfl) (by omega) hM hS hl.1 rfl rfl (Nat.le_of_ble_eq_true rfl) dX0_readPiece_81) hS (fun H locs hM hS => ?_)
            refine lv_goto hx hb dX0_readPiece_84 rfl ?_
            exact sk_vret C hM hS (Option.some.inj h) dX0_readPiece_91
          · have h := sk_neg h hc
            refine lv_aload_n hx hb dX0_readPiece_73 rfl (lv_at hl 0 rfl) ?_
            obtain ⟨M_33, h_34, h⟩ := sk_b1E h
            refine sk_contV (sk_runV (As := []) (rest := []) C (c_X0_moveOn g l  M_27 h_34) yo_X0_moveOn kw_649 (sk_recv (ci := 0) C hM rfl rfl) (by omega) hM hS hl.1 rfl rfl (Nat.le_of_ble_eq_true rfl) dX0_readPiece_74) hS (fun H locs hM hS => ?_)
            refine lv_goto hx hb dX0_readPiece_77 rfl ?_
            exact sk_vret C hM hS (Option.some.inj h) dX0_readPiece_91
    · have h := sk_neg h hc
      refine lv_aload_n hx hb dX0_readPiece_15 rfl (lv_at hl 0 rfl) ?_
      obtain ⟨M_35, h_36, h⟩ := sk_b1E h
      refine sk_contV (sk_runV (As := []) (rest := []) C (c_X0_moveOn g l  M h_36) yo_X0_moveOn kw_649 (sk_recv (ci := 0) C hM rfl rfl) (by omega) hM hS hl.1 rfl rfl (Nat.le_of_ble_eq_true rfl) dX0_readPiece_16) hS (fun H locs hM hS => ?_)
      refine lv_aload_n hx hb dX0_readPiece_19 rfl (lv_at hl 0 rfl) ?_
      refine lv_iload_n hx hb dX0_readPiece_20 rfl (lv_at hl 1 rfl) ?_
      refine lv_iload_n hx hb dX0_readPiece_21 rfl (lv_at hl 2 rfl) ?_
      refine lv_iconst (v := 1) hx hb dX0_readPiece_22 (by decide) ?_
      refine lv_iadd hx hb dX0_readPiece_23 ?_
      obtain ⟨M_37, h_38, h⟩ := sk_b1E h
      refine sk_contV (sk_runV (As := [.int a1, .int (a2 + 1)]) (rest := []) C (ih1 a1 (a2 + 1) _ _ h_38) yo_X0_readPiece kw_726 (sk_recv (ci := 0) C hM rfl rfl) (by omega) hM hS hl.1 rfl rfl (Nat.le_of_ble_eq_true rfl) dX0_readPiece_24) hS (fun H locs hM hS => ?_)
      refine lv_aload_n hx hb dX0_readPiece_27 rfl (lv_at hl 0 rfl) ?_
      refine lv_bipush (v := (-33)) hx hb dX0_readPiece_28 (by decide) ?_
      obtain ⟨M_39, h_40, h⟩ := sk_b1E h
      refine sk_contV (sk_runV (As := [.int (-33)]) (rest := []) C (c_X0_put g l (-33) M_37 h_40) yo_X0_put kw_790 (sk_recv (ci := 0) C hM rfl rfl) (by omega) hM hS hl.1 rfl rfl (Nat.le_of_ble_eq_true rfl) dX0_readPiece_30) hS (fun H locs hM hS => ?_)
      refine lv_goto hx hb dX0_readPiece_33 rfl ?_
      exact sk_vret C hM hS (Option.some.inj h) dX0_readPiece_91
theorem k_G0 (g : sk_G) (l : Launch) : ∀ n : Nat, (∀ (a b c : Int32) (M M1 : sk_M), f_G0 n 0 a b c M = some M1 → sk_MV g l yX0_readLevel cX0_readLevel 7 none (6 + n) [.ref (sk_ad g 62), .int a, .int b, .int c] M M1) ∧ (∀ (a b : Int32) (M M1 : sk_M), f_G0 n 1 a b 0 M = some M1 → sk_MV g l yX0_readPiece cX0_readPiece 3 none (6 + n) [.ref (sk_ad g 62), .int a, .int b] M M1) := by
  intro n
  induction n with
  | zero => exact ⟨fun _ _ _ _ _ h => (by cases h), fun _ _ _ _ h => (by cases h)⟩
  | succ n ih =>
    obtain ⟨ih0, ih1⟩ := ih
    exact ⟨fun a b c M M1 h => w_X0_readLevel g l (f_G0 n) a b c (dy := 6 + n) (dd := 6 + (n + 1)) rfl (by omega) ih0 ih1 M h, fun a b M M1 h => w_X0_readPiece g l (f_G0 n) a b (dy := 6 + n) (dd := 6 + (n + 1)) rfl (by omega) ih0 ih1 M h⟩
theorem k_RD : sk_RD = 120 := rfl
theorem c_X0_readLevel (g : sk_G) (l : Launch) (a1 : Int32) (a2 : Int32) (a3 : Int32) (M : sk_M) {MM : sk_M} (h : f_G0 sk_RD 0 a1 a2 a3 M = some MM) : sk_MV g l yX0_readLevel cX0_readLevel 7 none 126 [.ref (sk_ad g 62), .int a1, .int a2, .int a3] M MM := (k_G0 g l sk_RD).1 a1 a2 a3 M MM h
theorem c_X0_readPiece (g : sk_G) (l : Launch) (a1 : Int32) (a2 : Int32) (M : sk_M) {MM : sk_M} (h : f_G0 sk_RD 1 a1 a2 0 M = some MM) : sk_MV g l yX0_readPiece cX0_readPiece 3 none 126 [.ref (sk_ad g 62), .int a1, .int a2] M MM := (k_G0 g l sk_RD).2 a1 a2 M MM h
theorem dX0_readTape_0 : decode cX0_readTape 0 = .ok (.aload_n 0, 1) := by decide +kernel
theorem dX0_readTape_1 : decode cX0_readTape 1 = .ok (.iconst (-1), 1) := by decide +kernel
theorem dX0_readTape_2 : decode cX0_readTape 2 = .ok (.putfield 22, 3) := by decide +kernel
theorem dX0_readTape_5 : decode cX0_readTape 5 = .ok (.aload_n 0, 1) := by decide +kernel
theorem dX0_readTape_6 : decode cX0_readTape 6 = .ok (.iconst 0, 1) := by decide +kernel
theorem dX0_readTape_7 : decode cX0_readTape 7 = .ok (.putfield 25, 3) := by decide +kernel
theorem dX0_readTape_10 : decode cX0_readTape 10 = .ok (.aload_n 0, 1) := by decide +kernel
theorem dX0_readTape_11 : decode cX0_readTape 11 = .ok (.iconst 0, 1) := by decide +kernel
theorem dX0_readTape_12 : decode cX0_readTape 12 = .ok (.putfield 28, 3) := by decide +kernel
theorem dX0_readTape_15 : decode cX0_readTape 15 = .ok (.aload_n 0, 1) := by decide +kernel
theorem dX0_readTape_16 : decode cX0_readTape 16 = .ok (.iconst 0, 1) := by decide +kernel
theorem dX0_readTape_17 : decode cX0_readTape 17 = .ok (.putfield 31, 3) := by decide +kernel
theorem dX0_readTape_20 : decode cX0_readTape 20 = .ok (.aload_n 0, 1) := by decide +kernel
theorem dX0_readTape_21 : decode cX0_readTape 21 = .ok (.invokevirtual 34, 3) := by decide +kernel
theorem dX0_readTape_24 : decode cX0_readTape 24 = .ok (.aload_n 0, 1) := by decide +kernel
theorem dX0_readTape_25 : decode cX0_readTape 25 = .ok (.aload_n 0, 1) := by decide +kernel
theorem dX0_readTape_26 : decode cX0_readTape 26 = .ok (.invokevirtual 37, 3) := by decide +kernel
theorem dX0_readTape_29 : decode cX0_readTape 29 = .ok (.putfield 41, 3) := by decide +kernel
theorem dX0_readTape_32 : decode cX0_readTape 32 = .ok (.aload_n 0, 1) := by decide +kernel
theorem dX0_readTape_33 : decode cX0_readTape 33 = .ok (.getfield 41, 3) := by decide +kernel
theorem dX0_readTape_36 : decode cX0_readTape 36 = .ok (.ifCond .ge 12, 3) := by decide +kernel
theorem dX0_readTape_39 : decode cX0_readTape 39 = .ok (.aload_n 0, 1) := by decide +kernel
theorem dX0_readTape_40 : decode cX0_readTape 40 = .ok (.invokevirtual 44, 3) := by decide +kernel
theorem dX0_readTape_43 : decode cX0_readTape 43 = .ok (.aload_n 0, 1) := by decide +kernel
theorem dX0_readTape_44 : decode cX0_readTape 44 = .ok (.getfield 22, 3) := by decide +kernel
theorem dX0_readTape_47 : decode cX0_readTape 47 = .ok (.ireturn, 1) := by decide +kernel
theorem dX0_readTape_48 : decode cX0_readTape 48 = .ok (.aload_n 0, 1) := by decide +kernel
theorem dX0_readTape_49 : decode cX0_readTape 49 = .ok (.invokevirtual 34, 3) := by decide +kernel
theorem dX0_readTape_52 : decode cX0_readTape 52 = .ok (.aload_n 0, 1) := by decide +kernel
theorem dX0_readTape_53 : decode cX0_readTape 53 = .ok (.iconst 0, 1) := by decide +kernel
theorem dX0_readTape_54 : decode cX0_readTape 54 = .ok (.iconst 0, 1) := by decide +kernel
theorem dX0_readTape_55 : decode cX0_readTape 55 = .ok (.iconst 0, 1) := by decide +kernel
theorem dX0_readTape_56 : decode cX0_readTape 56 = .ok (.invokevirtual 47, 3) := by decide +kernel
theorem dX0_readTape_59 : decode cX0_readTape 59 = .ok (.aload_n 0, 1) := by decide +kernel
theorem dX0_readTape_60 : decode cX0_readTape 60 = .ok (.getfield 51, 3) := by decide +kernel
theorem dX0_readTape_63 : decode cX0_readTape 63 = .ok (.aload_n 0, 1) := by decide +kernel
theorem dX0_readTape_64 : decode cX0_readTape 64 = .ok (.getfield 18, 3) := by decide +kernel
theorem dX0_readTape_67 : decode cX0_readTape 67 = .ok (.if_icmp .ge 7, 3) := by decide +kernel
theorem dX0_readTape_70 : decode cX0_readTape 70 = .ok (.aload_n 0, 1) := by decide +kernel
theorem dX0_readTape_71 : decode cX0_readTape 71 = .ok (.invokevirtual 44, 3) := by decide +kernel
theorem dX0_readTape_74 : decode cX0_readTape 74 = .ok (.aload_n 0, 1) := by decide +kernel
theorem dX0_readTape_75 : decode cX0_readTape 75 = .ok (.getfield 22, 3) := by decide +kernel
theorem dX0_readTape_78 : decode cX0_readTape 78 = .ok (.ireturn, 1) := by decide +kernel
set_option maxHeartbeats 4000000 in
set_option maxRecDepth 100000 in
theorem c_X0_readTape (g : sk_G) (l : Launch)  (M : sk_M) {rr : Int32} {MM : sk_M} (h : f_X0_readTape M = some (rr, MM)) : sk_MI g l yX0_readTape cX0_readTape 1 (some .int) 127 [.ref (sk_ad g 62)] M rr MM := by
  refine sk_go [(0, .ref (sk_ad g 62))] (by decide) (Nat.le_of_ble_eq_true rfl) rfl ?_
  intro p e s m av below meth c C ls hl hM hS
  obtain ⟨hx, hb, hml, hown, hts, hK, hE, hr, hlocks⟩ := id C
  rw [f_X0_readTape] at h
  refine lv_aload_n hx hb dX0_readTape_0 rfl (lv_at hl 0 rfl) ?_
  refine lv_iconst (v := (-1)) hx hb dX0_readTape_1 (by decide) ?_
  refine sk_putI (o := 62) (ci := 0) (j := 5) C hM hS rfl rfl (by decide) rfl rfl (tyX0_ok 5 (by decide)) kw_127 dX0_readTape_2 (fun M_1 eM_1 H locs hM hS => ?_)
  have h := sk_letU h eM_1
  refine lv_aload_n hx hb dX0_readTape_5 rfl (lv_at hl 0 rfl) ?_
  refine lv_iconst (v := 0) hx hb dX0_readTape_6 (by decide) ?_
  refine sk_putI (o := 62) (ci := 0) (j := 4) C hM hS rfl rfl (by decide) rfl rfl (tyX0_ok 4 (by decide)) kw_126 dX0_readTape_7 (fun M_2 eM_2 H locs hM hS => ?_)
  have h := sk_letU h eM_2
  refine lv_aload_n hx hb dX0_readTape_10 rfl (lv_at hl 0 rfl) ?_
  refine lv_iconst (v := 0) hx hb dX0_readTape_11 (by decide) ?_
  refine sk_putI (o := 62) (ci := 0) (j := 7) C hM hS rfl rfl (by decide) rfl rfl (tyX0_ok 7 (by decide)) kw_132 dX0_readTape_12 (fun M_3 eM_3 H locs hM hS => ?_)
  have h := sk_letU h eM_3
  refine lv_aload_n hx hb dX0_readTape_15 rfl (lv_at hl 0 rfl) ?_
  refine lv_iconst (v := 0) hx hb dX0_readTape_16 (by decide) ?_
  refine sk_putI (o := 62) (ci := 0) (j := 8) C hM hS rfl rfl (by decide) rfl rfl (tyX0_ok 8 (by decide)) kw_134 dX0_readTape_17 (fun M_4 eM_4 H locs hM hS => ?_)
  have h := sk_letU h eM_4
  refine lv_aload_n hx hb dX0_readTape_20 rfl (lv_at hl 0 rfl) ?_
  obtain ⟨M_5, h_6, h⟩ := sk_b1E h
  refine sk_contV (sk_runV (As := []) (rest := []) C (c_X0_moveOn g l  M_4 h_6) yo_X0_moveOn kw_649 (sk_recv (ci := 0) C hM rfl rfl) (by decide) hM hS hl.1 rfl rfl (Nat.le_of_ble_eq_true rfl) dX0_readTape_21) hS (fun H locs hM hS => ?_)
  refine lv_aload_n hx hb dX0_readTape_24 rfl (lv_at hl 0 rfl) ?_
  refine lv_aload_n hx hb dX0_readTape_25 rfl (lv_at hl 0 rfl) ?_
  obtain ⟨x_7, h_8, h⟩ := sk_b1E h
  refine sk_contI (sk_runV (As := []) (rest := [.ref (sk_ad g 62)]) C (c_X0_keyHere g l  M_5 h_8) yo_X0_keyHere kw_663 (sk_recv (ci := 0) C hM rfl rfl) (by decide) hM hS hl.1 rfl rfl (Nat.le_of_ble_eq_true rfl) dX0_readTape_26) hS (fun H locs hM hS => ?_)
  refine sk_putI (o := 62) (ci := 0) (j := 6) C hM hS rfl rfl (by decide) rfl rfl (tyX0_ok 6 (by decide)) kw_129 dX0_readTape_29 (fun M_9 eM_9 H locs hM hS => ?_)
  have h := sk_letU h eM_9
  refine lv_aload_n hx hb dX0_readTape_32 rfl (lv_at hl 0 rfl) ?_
  refine sk_getI (o := 62) (ci := 0) (j := 6) C hM rfl rfl (by decide) rfl kw_129 dX0_readTape_33 ?_
  refine lv_if_ge hx hb dX0_readTape_36 rfl (fun hc => ?_) (fun hc => ?_)
  · have h := sk_pos h hc
    refine lv_aload_n hx hb dX0_readTape_48 rfl (lv_at hl 0 rfl) ?_
    obtain ⟨M_10, h_11, h⟩ := sk_b1E h
    refine sk_contV (sk_runV (As := []) (rest := []) C (c_X0_moveOn g l  M_9 h_11) yo_X0_moveOn kw_649 (sk_recv (ci := 0) C hM rfl rfl) (by decide) hM hS hl.1 rfl rfl (Nat.le_of_ble_eq_true rfl) dX0_readTape_49) hS (fun H locs hM hS => ?_)
    refine lv_aload_n hx hb dX0_readTape_52 rfl (lv_at hl 0 rfl) ?_
    refine lv_iconst (v := 0) hx hb dX0_readTape_53 (by decide) ?_
    refine lv_iconst (v := 0) hx hb dX0_readTape_54 (by decide) ?_
    refine lv_iconst (v := 0) hx hb dX0_readTape_55 (by decide) ?_
    obtain ⟨M_12, h_13, h⟩ := sk_b1E h
    refine sk_contV (sk_runV (As := [.int 0, .int 0, .int 0]) (rest := []) C (c_X0_readLevel g l 0 0 0 M_10 h_13) yo_X0_readLevel kw_722 (sk_recv (ci := 0) C hM rfl rfl) (by decide) hM hS hl.1 rfl rfl (Nat.le_of_ble_eq_true rfl) dX0_readTape_56) hS (fun H locs hM hS => ?_)
    refine lv_aload_n hx hb dX0_readTape_59 rfl (lv_at hl 0 rfl) ?_
    refine sk_getI (o := 62) (ci := 0) (j := 3) C hM rfl rfl (by decide) rfl kw_125 dX0_readTape_60 ?_
    refine lv_aload_n hx hb dX0_readTape_63 rfl (lv_at hl 0 rfl) ?_
    refine sk_getI (o := 62) (ci := 0) (j := 2) C hM rfl rfl (by decide) rfl kw_123 dX0_readTape_64 ?_
    refine lv_icmp_ge hx hb dX0_readTape_67 rfl (fun hc => ?_) (fun hc => ?_)
    · have h := sk_pos h hc
      refine lv_aload_n hx hb dX0_readTape_74 rfl (lv_at hl 0 rfl) ?_
      refine sk_getI (o := 62) (ci := 0) (j := 5) C hM rfl rfl (by decide) rfl kw_127 dX0_readTape_75 ?_
      exact sk_iret C hM hS (sk_e2 h) dX0_readTape_78
    · have h := sk_neg h hc
      refine lv_aload_n hx hb dX0_readTape_70 rfl (lv_at hl 0 rfl) ?_
      obtain ⟨M_14, h_15, h⟩ := sk_b1E h
      refine sk_contV (sk_runV (As := []) (rest := []) C (c_X0_fail g l  M_12 h_15) yo_X0_fail kw_659 (sk_recv (ci := 0) C hM rfl rfl) (by decide) hM hS hl.1 rfl rfl (Nat.le_of_ble_eq_true rfl) dX0_readTape_71) hS (fun H locs hM hS => ?_)
      refine lv_aload_n hx hb dX0_readTape_74 rfl (lv_at hl 0 rfl) ?_
      refine sk_getI (o := 62) (ci := 0) (j := 5) C hM rfl rfl (by decide) rfl kw_127 dX0_readTape_75 ?_
      exact sk_iret C hM hS (sk_e2 h) dX0_readTape_78
  · have h := sk_neg h hc
    refine lv_aload_n hx hb dX0_readTape_39 rfl (lv_at hl 0 rfl) ?_
    obtain ⟨M_16, h_17, h⟩ := sk_b1E h
    refine sk_contV (sk_runV (As := []) (rest := []) C (c_X0_fail g l  M_9 h_17) yo_X0_fail kw_659 (sk_recv (ci := 0) C hM rfl rfl) (by decide) hM hS hl.1 rfl rfl (Nat.le_of_ble_eq_true rfl) dX0_readTape_40) hS (fun H locs hM hS => ?_)
    refine lv_aload_n hx hb dX0_readTape_43 rfl (lv_at hl 0 rfl) ?_
    refine sk_getI (o := 62) (ci := 0) (j := 5) C hM rfl rfl (by decide) rfl kw_127 dX0_readTape_44 ?_
    exact sk_iret C hM hS (sk_e2 h) dX0_readTape_47
theorem dJ7_fill_53178_0 : decode cJ7_fill_53178 0 = .ok (.iconst 0, 1) := by decide +kernel
theorem dJ7_fill_53178_1 : decode cJ7_fill_53178 1 = .ok (.istore_n 2, 1) := by decide +kernel
theorem dJ7_fill_53178_2 : decode cJ7_fill_53178 2 = .ok (.aload_n 0, 1) := by decide +kernel
theorem dJ7_fill_53178_3 : decode cJ7_fill_53178 3 = .ok (.arraylength, 1) := by decide +kernel
theorem dJ7_fill_53178_4 : decode cJ7_fill_53178 4 = .ok (.istore_n 3, 1) := by decide +kernel
theorem dJ7_fill_53178_5 : decode cJ7_fill_53178 5 = .ok (.iload_n 2, 1) := by decide +kernel
theorem dJ7_fill_53178_6 : decode cJ7_fill_53178 6 = .ok (.iload_n 3, 1) := by decide +kernel
theorem dJ7_fill_53178_7 : decode cJ7_fill_53178 7 = .ok (.if_icmp .ge 13, 3) := by decide +kernel
theorem dJ7_fill_53178_10 : decode cJ7_fill_53178 10 = .ok (.aload_n 0, 1) := by decide +kernel
theorem dJ7_fill_53178_11 : decode cJ7_fill_53178 11 = .ok (.iload_n 2, 1) := by decide +kernel
theorem dJ7_fill_53178_12 : decode cJ7_fill_53178 12 = .ok (.iload_n 1, 1) := by decide +kernel
theorem dJ7_fill_53178_13 : decode cJ7_fill_53178 13 = .ok (.iastore, 1) := by decide +kernel
theorem dJ7_fill_53178_14 : decode cJ7_fill_53178 14 = .ok (.iinc 2 1, 3) := by decide +kernel
theorem dJ7_fill_53178_17 : decode cJ7_fill_53178 17 = .ok (.goto (-12), 3) := by decide +kernel
theorem dJ7_fill_53178_20 : decode cJ7_fill_53178 20 = .ok (.return_, 1) := by decide +kernel
set_option maxHeartbeats 4000000 in
set_option maxRecDepth 100000 in
theorem w_J7_fill_53178_L5 {g : sk_G} {l : Launch} {p : Program} {e : Env} {s : State} {m : MethodId} {av : Array Value} {below : List Frame} {meth : Method} {c : Code} (C : sk_C g p s m av meth c cJ7_fill_53178 4 RJ7 none) (o0 n0 : Nat) (q0 : sk_kd o0 = (0, n0)) (a1 : Int32) (a3 : Int32) {MM : sk_M} :
    ∀ (n : Nat) (a2 : Int32) (M : sk_M) (H : Heap) (locs : List Loc) (ls : Array Slot), lv_has ls 4 [(0, .ref (sk_ad g o0)), (1, .int a1), (2, .int a2), (3, .int a3)] → sk_P g M H → va_S (sk_A g) s.heap H locs → ∀ {out : sk_M}, f_J7_fill_53178_L5 o0 n0 a1 a3 n a2 M = some out → (∀ (M1 : sk_M) (H : Heap) (locs : List Loc) (ls : Array Slot), some M1 = some out → lv_has ls 4 [] → sk_P g M1 H → va_S (sk_A g) s.heap H locs → W p l e (sk_rm 1) s m av below meth c H locs 0 0 (MQ below (sk_QV g MM) av s 0 0 (sk_A g)) (F0 m 20 ls [])) → W p l e (sk_rm 1) s m av below meth c H locs 0 0 (MQ below (sk_QV g MM) av s 0 0 (sk_A g)) (F0 m 5 ls []) := by
  obtain ⟨hx, hb, hml, hown, hts, hK, hE, hr, hlocks⟩ := id C
  intro n
  induction n with
  | zero =>
    intro a2 M H locs ls hl hM hS out h
    cases h
  | succ n ih =>
    intro a2 M H locs ls hl hM hS out h kx
    rw [f_J7_fill_53178_L5] at h
    refine lv_iload_n hx hb dJ7_fill_53178_5 rfl (lv_at hl 2 rfl) ?_
    refine lv_iload_n hx hb dJ7_fill_53178_6 rfl (lv_at hl 3 rfl) ?_
    refine lv_icmp_ge hx hb dJ7_fill_53178_7 rfl (fun hc => ?_) (fun hc => ?_)
    · have h := sk_pos h hc
      exact kx _ _ _ _ h (lv_sub hl [] rfl) hM hS
    · have h := sk_neg h hc
      refine lv_aload_n hx hb dJ7_fill_53178_10 rfl (lv_at hl 0 rfl) ?_
      refine lv_iload_n hx hb dJ7_fill_53178_11 rfl (lv_at hl 2 rfl) ?_
      refine lv_iload_n hx hb dJ7_fill_53178_12 rfl (lv_at hl 1 rfl) ?_
      obtain ⟨i_2, h⟩ := sk_chkE h
      refine sk_iast (o := o0) C hM hS q0 i_2 dJ7_fill_53178_13 (fun M_3 eM_3 H locs hM hS => ?_)
      have h := sk_letU h eM_3
      refine lv_iinc (v := (a2 + 1)) (lv' := [(2, .int (a2 + 1)), (0, .ref (sk_ad g o0)), (1, .int a1), (3, .int a3)]) hx hb dJ7_fill_53178_14 hl (k := 2) rfl rfl (by decide) rfl (fun ls hl => ?_)
      refine lv_goto hx hb dJ7_fill_53178_17 rfl ?_
      exact ih (a2 + 1) M_3 _ _ _ (lv_sub hl [1, 2, 0, 3] rfl) hM hS h kx
set_option maxHeartbeats 4000000 in
set_option maxRecDepth 100000 in
theorem c_J7_fill_53178 (g : sk_G) (l : Launch) (o0 n0 : Nat) (q0 : sk_kd o0 = (0, n0)) (a1 : Int32) (M : sk_M) {MM : sk_M} (h : f_J7_fill_53178 o0 n0 a1 M = some MM) : sk_MV g l yJ7_fill_53178 cJ7_fill_53178 4 none 1 [.ref (sk_ad g o0), .int a1] M MM := by
  refine sk_go [(0, .ref (sk_ad g o0)), (1, .int a1)] (by decide) (Nat.le_of_ble_eq_true rfl) rfl ?_
  intro p e s m av below meth c C ls hl hM hS
  obtain ⟨hx, hb, hml, hown, hts, hK, hE, hr, hlocks⟩ := id C
  rw [f_J7_fill_53178] at h
  refine lv_iconst (v := 0) hx hb dJ7_fill_53178_0 (by decide) ?_
  refine lv_istore_n (lv' := [(2, .int 0), (0, .ref (sk_ad g o0)), (1, .int a1)]) hx hb dJ7_fill_53178_1 rfl hl (by decide) rfl (fun ls hl => ?_)
  refine lv_aload_n hx hb dJ7_fill_53178_2 rfl (lv_at hl 1 rfl) ?_
  refine sk_alen (o := o0) (v := (nI n0)) C hM q0 rfl dJ7_fill_53178_3 ?_
  refine lv_topi (fun x_1 ex_1 => ?_)
  have h := sk_letU h ex_1
  refine lv_istore_n (lv' := [(3, .int x_1), (2, .int 0), (0, .ref (sk_ad g o0)), (1, .int a1)]) hx hb dJ7_fill_53178_4 rfl hl (by decide) rfl (fun ls hl => ?_)
  obtain ⟨M_4, h_5, h⟩ := sk_b1E h
  refine w_J7_fill_53178_L5 C o0 n0 q0 a1 x_1 sk_FU 0 M _ _ _ (lv_sub hl [2, 3, 1, 0] rfl) hM hS h_5 (fun y_6 H locs ls he hl hM hS => ?_)
  obtain rfl := Option.some.inj he
  exact sk_vret C hM hS (Option.some.inj h) dJ7_fill_53178_20
theorem dX1_becomeRow_0 : decode cX1_becomeRow 0 = .ok (.aload_n 0, 1) := by decide +kernel
theorem dX1_becomeRow_1 : decode cX1_becomeRow 1 = .ok (.iload_n 1, 1) := by decide +kernel
theorem dX1_becomeRow_2 : decode cX1_becomeRow 2 = .ok (.putfield 15, 3) := by decide +kernel
theorem dX1_becomeRow_5 : decode cX1_becomeRow 5 = .ok (.aload_n 0, 1) := by decide +kernel
theorem dX1_becomeRow_6 : decode cX1_becomeRow 6 = .ok (.iload_n 2, 1) := by decide +kernel
theorem dX1_becomeRow_7 : decode cX1_becomeRow 7 = .ok (.putfield 19, 3) := by decide +kernel
theorem dX1_becomeRow_10 : decode cX1_becomeRow 10 = .ok (.aload_n 0, 1) := by decide +kernel
theorem dX1_becomeRow_11 : decode cX1_becomeRow 11 = .ok (.getfield 9, 3) := by decide +kernel
theorem dX1_becomeRow_14 : decode cX1_becomeRow 14 = .ok (.iconst 0, 1) := by decide +kernel
theorem dX1_becomeRow_15 : decode cX1_becomeRow 15 = .ok (.invokestatic 22, 3) := by decide +kernel
theorem dX1_becomeRow_18 : decode cX1_becomeRow 18 = .ok (.return_, 1) := by decide +kernel
set_option maxHeartbeats 4000000 in
set_option maxRecDepth 100000 in
theorem c_X1_becomeRow (g : sk_G) (l : Launch) (o0 : Nat) (q0 : sk_isH o0) (a1 : Int32) (a2 : Int32) (M : sk_M) {MM : sk_M} (h : f_X1_becomeRow o0 a1 a2 M = some MM) : sk_MV g l yX1_becomeRow cX1_becomeRow 3 none 2 [.ref (sk_ad g o0), .int a1, .int a2] M MM := by
  refine sk_go [(0, .ref (sk_ad g o0)), (1, .int a1), (2, .int a2)] (by decide) (Nat.le_of_ble_eq_true rfl) rfl ?_
  intro p e s m av below meth c C ls hl hM hS
  obtain ⟨hx, hb, hml, hown, hts, hK, hE, hr, hlocks⟩ := id C
  rw [f_X1_becomeRow] at h
  refine lv_aload_n hx hb dX1_becomeRow_0 rfl (lv_at hl 0 rfl) ?_
  refine lv_iload_n hx hb dX1_becomeRow_1 rfl (lv_at hl 1 rfl) ?_
  refine sk_putI (o := o0) (ci := 1) (j := 1) C hM hS (sk_isH_kd q0) rfl (by decide) rfl rfl (tyX1_ok 1 (by decide)) kw_259 dX1_becomeRow_2 (fun M_1 eM_1 H locs hM hS => ?_)
  have h := sk_letU h eM_1
  refine lv_aload_n hx hb dX1_becomeRow_5 rfl (lv_at hl 0 rfl) ?_
  refine lv_iload_n hx hb dX1_becomeRow_6 rfl (lv_at hl 2 rfl) ?_
  refine sk_putI (o := o0) (ci := 1) (j := 2) C hM hS (sk_isH_kd q0) rfl (by decide) rfl rfl (tyX1_ok 2 (by decide)) kw_261 dX1_becomeRow_7 (fun M_2 eM_2 H locs hM hS => ?_)
  have h := sk_letU h eM_2
  refine lv_aload_n hx hb dX1_becomeRow_10 rfl (lv_at hl 0 rfl) ?_
  refine sk_getR (o := o0) (ci := 1) (j := 0) (t := (o0 + 1)) C hM (sk_isH_kd q0) rfl (by decide) rfl (sk_isH_r0 q0) kw_257 dX1_becomeRow_11 ?_
  refine lv_iconst (v := 0) hx hb dX1_becomeRow_14 (by decide) ?_
  obtain ⟨M_3, h_4, h⟩ := sk_b1E h
  refine sk_contV (sk_runS (As := [.ref (sk_ad g (o0 + 1)), .int 0]) (rest := []) C (c_J7_fill_53178 g l (o0 + 1) 24 (sk_isH_k1 q0) 0 M_2 h_4) yo_J7_fill_53178 kw_845 (by decide) hM hS hl.1 rfl rfl (Nat.le_of_ble_eq_true rfl) dX1_becomeRow_15) hS (fun H locs hM hS => ?_)
  exact sk_vret C hM hS (Option.some.inj h) dX1_becomeRow_18
theorem dX1_becomeLike_0 : decode cX1_becomeLike 0 = .ok (.aload_n 0, 1) := by decide +kernel
theorem dX1_becomeLike_1 : decode cX1_becomeLike 1 = .ok (.aload_n 1, 1) := by decide +kernel
theorem dX1_becomeLike_2 : decode cX1_becomeLike 2 = .ok (.getfield 15, 3) := by decide +kernel
theorem dX1_becomeLike_5 : decode cX1_becomeLike 5 = .ok (.putfield 15, 3) := by decide +kernel
theorem dX1_becomeLike_8 : decode cX1_becomeLike 8 = .ok (.aload_n 0, 1) := by decide +kernel
theorem dX1_becomeLike_9 : decode cX1_becomeLike 9 = .ok (.aload_n 1, 1) := by decide +kernel
theorem dX1_becomeLike_10 : decode cX1_becomeLike 10 = .ok (.getfield 19, 3) := by decide +kernel
theorem dX1_becomeLike_13 : decode cX1_becomeLike 13 = .ok (.putfield 19, 3) := by decide +kernel
theorem dX1_becomeLike_16 : decode cX1_becomeLike 16 = .ok (.aload_n 1, 1) := by decide +kernel
theorem dX1_becomeLike_17 : decode cX1_becomeLike 17 = .ok (.getfield 9, 3) := by decide +kernel
theorem dX1_becomeLike_20 : decode cX1_becomeLike 20 = .ok (.iconst 0, 1) := by decide +kernel
theorem dX1_becomeLike_21 : decode cX1_becomeLike 21 = .ok (.aload_n 0, 1) := by decide +kernel
theorem dX1_becomeLike_22 : decode cX1_becomeLike 22 = .ok (.getfield 9, 3) := by decide +kernel
theorem dX1_becomeLike_25 : decode cX1_becomeLike 25 = .ok (.iconst 0, 1) := by decide +kernel
theorem dX1_becomeLike_26 : decode cX1_becomeLike 26 = .ok (.bipush 24, 2) := by decide +kernel
theorem dX1_becomeLike_28 : decode cX1_becomeLike 28 = .ok (.invokestatic 28, 3) := by decide +kernel
theorem dX1_becomeLike_31 : decode cX1_becomeLike 31 = .ok (.return_, 1) := by decide +kernel
set_option maxHeartbeats 4000000 in
set_option maxRecDepth 100000 in
theorem c_X1_becomeLike (g : sk_G) (l : Launch) (o0 : Nat) (q0 : sk_isH o0) (o1 : Nat) (q1 : sk_isH o1) (M : sk_M) {MM : sk_M} (h : f_X1_becomeLike o0 o1 M = some MM) : sk_MV g l yX1_becomeLike cX1_becomeLike 2 none 1 [.ref (sk_ad g o0), .ref (sk_ad g o1)] M MM := by
  refine sk_go [(0, .ref (sk_ad g o0)), (1, .ref (sk_ad g o1))] (by decide) (Nat.le_of_ble_eq_true rfl) rfl ?_
  intro p e s m av below meth c C ls hl hM hS
  obtain ⟨hx, hb, hml, hown, hts, hK, hE, hr, hlocks⟩ := id C
  rw [f_X1_becomeLike] at h
  refine lv_aload_n hx hb dX1_becomeLike_0 rfl (lv_at hl 0 rfl) ?_
  refine lv_aload_n hx hb dX1_becomeLike_1 rfl (lv_at hl 1 rfl) ?_
  refine sk_getI (o := o1) (ci := 1) (j := 1) C hM (sk_isH_kd q1) rfl (by decide) rfl kw_259 dX1_becomeLike_2 ?_
  refine sk_putI (o := o0) (ci := 1) (j := 1) C hM hS (sk_isH_kd q0) rfl (by decide) rfl rfl (tyX1_ok 1 (by decide)) kw_259 dX1_becomeLike_5 (fun M_1 eM_1 H locs hM hS => ?_)
  have h := sk_letU h eM_1
  refine lv_aload_n hx hb dX1_becomeLike_8 rfl (lv_at hl 0 rfl) ?_
  refine lv_aload_n hx hb dX1_becomeLike_9 rfl (lv_at hl 1 rfl) ?_
  refine sk_getI (o := o1) (ci := 1) (j := 2) C hM (sk_isH_kd q1) rfl (by decide) rfl kw_261 dX1_becomeLike_10 ?_
  refine sk_putI (o := o0) (ci := 1) (j := 2) C hM hS (sk_isH_kd q0) rfl (by decide) rfl rfl (tyX1_ok 2 (by decide)) kw_261 dX1_becomeLike_13 (fun M_2 eM_2 H locs hM hS => ?_)
  have h := sk_letU h eM_2
  refine lv_aload_n hx hb dX1_becomeLike_16 rfl (lv_at hl 1 rfl) ?_
  refine sk_getR (o := o1) (ci := 1) (j := 0) (t := (o1 + 1)) C hM (sk_isH_kd q1) rfl (by decide) rfl (sk_isH_r0 q1) kw_257 dX1_becomeLike_17 ?_
  refine lv_iconst (v := 0) hx hb dX1_becomeLike_20 (by decide) ?_
  refine lv_aload_n hx hb dX1_becomeLike_21 rfl (lv_at hl 0 rfl) ?_
  refine sk_getR (o := o0) (ci := 1) (j := 0) (t := (o0 + 1)) C hM (sk_isH_kd q0) rfl (by decide) rfl (sk_isH_r0 q0) kw_257 dX1_becomeLike_22 ?_
  refine lv_iconst (v := 0) hx hb dX1_becomeLike_25 (by decide) ?_
  refine lv_bipush (v := 24) hx hb dX1_becomeLike_26 (by decide) ?_
  refine sk_copy (d := 1) (o0 := (o1 + 1)) (o1 := (o0 + 1)) C hl.1 sk_wcopy kw_877 (by decide) (Nat.le_of_ble_eq_true rfl) hM hS (sk_isH_k1 q1) (sk_isH_k1 q0) (by decide) (by decide) dX1_becomeLike_28 (fun M_3 eM_3 H locs hM hS => ?_)
  have h := sk_letU h eM_3
  exact sk_vret C hM hS (Option.some.inj h) dX1_becomeLike_31
theorem dX1_hasPlaces_0 : decode cX1_hasPlaces 0 = .ok (.iload_n 1, 1) := by decide +kernel
theorem dX1_hasPlaces_1 : decode cX1_hasPlaces 1 = .ok (.ifCond .lt 29, 3) := by decide +kernel
theorem dX1_hasPlaces_4 : decode cX1_hasPlaces 4 = .ok (.iload_n 2, 1) := by decide +kernel
theorem dX1_hasPlaces_5 : decode cX1_hasPlaces 5 = .ok (.ifCond .lt 25, 3) := by decide +kernel
theorem dX1_hasPlaces_8 : decode cX1_hasPlaces 8 = .ok (.iload_n 1, 1) := by decide +kernel
theorem dX1_hasPlaces_9 : decode cX1_hasPlaces 9 = .ok (.aload_n 0, 1) := by decide +kernel
theorem dX1_hasPlaces_10 : decode cX1_hasPlaces 10 = .ok (.getfield 19, 3) := by decide +kernel
theorem dX1_hasPlaces_13 : decode cX1_hasPlaces 13 = .ok (.if_icmp .gt 17, 3) := by decide +kernel
theorem dX1_hasPlaces_16 : decode cX1_hasPlaces 16 = .ok (.iload_n 2, 1) := by decide +kernel
theorem dX1_hasPlaces_17 : decode cX1_hasPlaces 17 = .ok (.aload_n 0, 1) := by decide +kernel
theorem dX1_hasPlaces_18 : decode cX1_hasPlaces 18 = .ok (.getfield 19, 3) := by decide +kernel
theorem dX1_hasPlaces_21 : decode cX1_hasPlaces 21 = .ok (.iload_n 1, 1) := by decide +kernel
theorem dX1_hasPlaces_22 : decode cX1_hasPlaces 22 = .ok (.isub, 1) := by decide +kernel
theorem dX1_hasPlaces_23 : decode cX1_hasPlaces 23 = .ok (.if_icmp .gt 7, 3) := by decide +kernel
theorem dX1_hasPlaces_26 : decode cX1_hasPlaces 26 = .ok (.iconst 1, 1) := by decide +kernel
theorem dX1_hasPlaces_27 : decode cX1_hasPlaces 27 = .ok (.goto 4, 3) := by decide +kernel
theorem dX1_hasPlaces_30 : decode cX1_hasPlaces 30 = .ok (.iconst 0, 1) := by decide +kernel
theorem dX1_hasPlaces_31 : decode cX1_hasPlaces 31 = .ok (.ireturn, 1) := by decide +kernel
set_option maxHeartbeats 4000000 in
set_option maxRecDepth 100000 in
theorem c_X1_hasPlaces (g : sk_G) (l : Launch) (o0 : Nat) (q0 : sk_isH o0) (a1 : Int32) (a2 : Int32) (M : sk_M) {rr : Int32} (h : f_X1_hasPlaces o0 a1 a2 M = rr) : sk_MI g l yX1_hasPlaces cX1_hasPlaces 3 (some .boolean) 1 [.ref (sk_ad g o0), .int a1, .int a2] M rr M := by
  refine sk_go [(0, .ref (sk_ad g o0)), (1, .int a1), (2, .int a2)] (by decide) (Nat.le_of_ble_eq_true rfl) rfl ?_
  intro p e s m av below meth c C ls hl hM hS
  obtain ⟨hx, hb, hml, hown, hts, hK, hE, hr, hlocks⟩ := id C
  rw [f_X1_hasPlaces] at h
  refine lv_iload_n hx hb dX1_hasPlaces_0 rfl (lv_at hl 1 rfl) ?_
  have J : ∀ (vv : Int32) (H : Heap) (locs : List Loc), (if a1 < 0 then 0 else (if a2 < 0 then 0 else (if (M o0 2) < a1 then 0 else (if ((M o0 2) - a1) < a2 then 0 else 1 : Int32) : Int32) : Int32) : Int32) = vv → sk_P g M H → va_S (sk_A g) s.heap H locs → W p l e (sk_rm 1) s m av below meth c H locs 0 0 (MQ below (sk_QI g rr M) av s 0 0 (sk_A g)) (F0 m 31 ls [.int vv]) := by
    intro vv H locs hvv hM hS
    subst hvv
    exact sk_zret C hM hS (sk_nz (sk_zi (Or.inl rfl) (sk_zi (Or.inl rfl) (sk_zi (Or.inl rfl) (sk_zi (Or.inl rfl) (Or.inr rfl)))))) ⟨h, rfl⟩ dX1_hasPlaces_31
  refine lv_if_lt hx hb dX1_hasPlaces_1 rfl (fun hc => ?_) (fun hc => ?_)
  · have J := fun vv H locs q => J vv H locs ((if_pos hc).trans q)
    refine lv_iconst (v := 0) hx hb dX1_hasPlaces_30 (by decide) ?_
    exact J _ _ _ rfl hM hS
  · have J := fun vv H locs q => J vv H locs ((if_neg hc).trans q)
    refine lv_iload_n hx hb dX1_hasPlaces_4 rfl (lv_at hl 2 rfl) ?_
    refine lv_if_lt hx hb dX1_hasPlaces_5 rfl (fun hc => ?_) (fun hc => ?_)
    · have J := fun vv H locs q => J vv H locs ((if_pos hc).trans q)
      refine lv_iconst (v := 0) hx hb dX1_hasPlaces_30 (by decide) ?_
      exact J _ _ _ rfl hM hS
    · have J := fun vv H locs q => J vv H locs ((if_neg hc).trans q)
      refine lv_iload_n hx hb dX1_hasPlaces_8 rfl (lv_at hl 1 rfl) ?_
      refine lv_aload_n hx hb dX1_hasPlaces_9 rfl (lv_at hl 0 rfl) ?_
      refine sk_getI (o := o0) (ci := 1) (j := 2) C hM (sk_isH_kd q0) rfl (by decide) rfl kw_261 dX1_hasPlaces_10 ?_
      refine lv_icmp_gt hx hb dX1_hasPlaces_13 rfl (fun hc => ?_) (fun hc => ?_)
      · have J := fun vv H locs q => J vv H locs ((if_pos hc).trans q)
        refine lv_iconst (v := 0) hx hb dX1_hasPlaces_30 (by decide) ?_
        exact J _ _ _ rfl hM hS
      · have J := fun vv H locs q => J vv H locs ((if_neg hc).trans q)
        refine lv_iload_n hx hb dX1_hasPlaces_16 rfl (lv_at hl 2 rfl) ?_
        refine lv_aload_n hx hb dX1_hasPlaces_17 rfl (lv_at hl 0 rfl) ?_
        refine sk_getI (o := o0) (ci := 1) (j := 2) C hM (sk_isH_kd q0) rfl (by decide) rfl kw_261 dX1_hasPlaces_18 ?_
        refine lv_iload_n hx hb dX1_hasPlaces_21 rfl (lv_at hl 1 rfl) ?_
        refine lv_isub hx hb dX1_hasPlaces_22 ?_
        refine lv_icmp_gt hx hb dX1_hasPlaces_23 rfl (fun hc => ?_) (fun hc => ?_)
        · have J := fun vv H locs q => J vv H locs ((if_pos hc).trans q)
          refine lv_iconst (v := 0) hx hb dX1_hasPlaces_30 (by decide) ?_
          exact J _ _ _ rfl hM hS
        · have J := fun vv H locs q => J vv H locs ((if_neg hc).trans q)
          refine lv_iconst (v := 1) hx hb dX1_hasPlaces_26 (by decide) ?_
          refine lv_goto hx hb dX1_hasPlaces_27 rfl ?_
          exact J _ _ _ rfl hM hS
theorem dX3_store_0 : decode cX3_store 0 = .ok (.aload_n 2, 1) := by decide +kernel
theorem dX3_store_1 : decode cX3_store 1 = .ok (.getfield 29, 3) := by decide +kernel
theorem dX3_store_4 : decode cX3_store 4 = .ok (.iconst 0, 1) := by decide +kernel
theorem dX3_store_5 : decode cX3_store 5 = .ok (.aload_n 0, 1) := by decide +kernel
theorem dX3_store_6 : decode cX3_store 6 = .ok (.getfield 11, 3) := by decide +kernel
theorem dX3_store_9 : decode cX3_store 9 = .ok (.iload_n 1, 1) := by decide +kernel
theorem dX3_store_10 : decode cX3_store 10 = .ok (.aaload, 1) := by decide +kernel
theorem dX3_store_11 : decode cX3_store 11 = .ok (.iconst 0, 1) := by decide +kernel
theorem dX3_store_12 : decode cX3_store 12 = .ok (.aload_n 2, 1) := by decide +kernel
theorem dX3_store_13 : decode cX3_store 13 = .ok (.getfield 33, 3) := by decide +kernel
theorem dX3_store_16 : decode cX3_store 16 = .ok (.invokestatic 37, 3) := by decide +kernel
theorem dX3_store_19 : decode cX3_store 19 = .ok (.aload_n 0, 1) := by decide +kernel
theorem dX3_store_20 : decode cX3_store 20 = .ok (.getfield 16, 3) := by decide +kernel
theorem dX3_store_23 : decode cX3_store 23 = .ok (.iload_n 1, 1) := by decide +kernel
theorem dX3_store_24 : decode cX3_store 24 = .ok (.aload_n 2, 1) := by decide +kernel
theorem dX3_store_25 : decode cX3_store 25 = .ok (.getfield 33, 3) := by decide +kernel
theorem dX3_store_28 : decode cX3_store 28 = .ok (.iastore, 1) := by decide +kernel
theorem dX3_store_29 : decode cX3_store 29 = .ok (.aload_n 0, 1) := by decide +kernel
theorem dX3_store_30 : decode cX3_store 30 = .ok (.getfield 20, 3) := by decide +kernel
theorem dX3_store_33 : decode cX3_store 33 = .ok (.iload_n 1, 1) := by decide +kernel
theorem dX3_store_34 : decode cX3_store 34 = .ok (.aload_n 2, 1) := by decide +kernel
theorem dX3_store_35 : decode cX3_store 35 = .ok (.getfield 43, 3) := by decide +kernel
theorem dX3_store_38 : decode cX3_store 38 = .ok (.iastore, 1) := by decide +kernel
theorem dX3_store_39 : decode cX3_store 39 = .ok (.aload_n 0, 1) := by decide +kernel
theorem dX3_store_40 : decode cX3_store 40 = .ok (.getfield 23, 3) := by decide +kernel
theorem dX3_store_43 : decode cX3_store 43 = .ok (.iload_n 1, 1) := by decide +kernel
theorem dX3_store_44 : decode cX3_store 44 = .ok (.aload_n 2, 1) := by decide +kernel
theorem dX3_store_45 : decode cX3_store 45 = .ok (.getfield 46, 3) := by decide +kernel
theorem dX3_store_48 : decode cX3_store 48 = .ok (.iastore, 1) := by decide +kernel
theorem dX3_store_49 : decode cX3_store 49 = .ok (.return_, 1) := by decide +kernel
set_option maxHeartbeats 4000000 in
set_option maxRecDepth 100000 in
theorem c_X3_store (g : sk_G) (l : Launch) (a1 : Int32) (M : sk_M) {MM : sk_M} (h : f_X3_store a1 M = some MM) : sk_MV g l yX3_store cX3_store 3 none 1 [.ref (sk_ad g 42), .int a1, .ref (sk_ad g 62)] M MM := by
  refine sk_go [(0, .ref (sk_ad g 42)), (1, .int a1), (2, .ref (sk_ad g 62))] (by decide) (Nat.le_of_ble_eq_true rfl) rfl ?_
  intro p e s m av below meth c C ls hl hM hS
  obtain ⟨hx, hb, hml, hown, hts, hK, hE, hr, hlocks⟩ := id C
  rw [f_X3_store] at h
  refine lv_aload_n hx hb dX3_store_0 rfl (lv_at hl 2 rfl) ?_
  refine sk_getR (o := 62) (ci := 0) (j := 1) (t := 64) C hM rfl rfl (by decide) rfl rfl kw_122 dX3_store_1 ?_
  refine lv_iconst (v := 0) hx hb dX3_store_4 (by decide) ?_
  refine lv_aload_n hx hb dX3_store_5 rfl (lv_at hl 0 rfl) ?_
  refine sk_getR (o := 42) (ci := 3) (j := 0) (t := 43) C hM rfl rfl (by decide) rfl rfl kw_95 dX3_store_6 ?_
  refine lv_iload_n hx hb dX3_store_9 rfl (lv_at hl 1 rfl) ?_
  obtain ⟨i_1, h⟩ := sk_chkE h
  refine sk_aald (o := 43) (k := 0) (t := (48 + a1.toNatClampNeg)) C hM rfl (by decide) i_1 rfl dX3_store_10 ?_
  refine lv_iconst (v := 0) hx hb dX3_store_11 (by decide) ?_
  refine lv_aload_n hx hb dX3_store_12 rfl (lv_at hl 2 rfl) ?_
  refine sk_getI (o := 62) (ci := 0) (j := 7) C hM rfl rfl (by decide) rfl kw_131 dX3_store_13 ?_
  obtain ⟨i_2, h⟩ := sk_chkE h
  obtain ⟨i_3, h⟩ := sk_chkE h
  refine sk_copy (d := 1) (o0 := 64) (o1 := (48 + a1.toNatClampNeg)) C hl.1 sk_wcopy kw_827 (by decide) (Nat.le_of_ble_eq_true rfl) hM hS rfl (sk_kd_t (sk_in_lt i_1)) i_2 i_3 dX3_store_16 (fun M_4 eM_4 H locs hM hS => ?_)
  have h := sk_letU h eM_4
  refine lv_aload_n hx hb dX3_store_19 rfl (lv_at hl 0 rfl) ?_
  refine sk_getR (o := 42) (ci := 3) (j := 1) (t := 44) C hM rfl rfl (by decide) rfl rfl kw_96 dX3_store_20 ?_
  refine lv_iload_n hx hb dX3_store_23 rfl (lv_at hl 1 rfl) ?_
  refine lv_aload_n hx hb dX3_store_24 rfl (lv_at hl 2 rfl) ?_
  refine sk_getI (o := 62) (ci := 0) (j := 7) C hM rfl rfl (by decide) rfl kw_131 dX3_store_25 ?_
  obtain ⟨i_5, h⟩ := sk_chkE h
  refine sk_iast (o := 44) C hM hS rfl i_5 dX3_store_28 (fun M_6 eM_6 H locs hM hS => ?_)
  have h := sk_letU h eM_6
  refine lv_aload_n hx hb dX3_store_29 rfl (lv_at hl 0 rfl) ?_
  refine sk_getR (o := 42) (ci := 3) (j := 2) (t := 45) C hM rfl rfl (by decide) rfl rfl kw_97 dX3_store_30 ?_
  refine lv_iload_n hx hb dX3_store_33 rfl (lv_at hl 1 rfl) ?_
  refine lv_aload_n hx hb dX3_store_34 rfl (lv_at hl 2 rfl) ?_
  refine sk_getI (o := 62) (ci := 0) (j := 6) C hM rfl rfl (by decide) rfl kw_128 dX3_store_35 ?_
  obtain ⟨i_7, h⟩ := sk_chkE h
  refine sk_iast (o := 45) C hM hS rfl i_7 dX3_store_38 (fun M_8 eM_8 H locs hM hS => ?_)
  have h := sk_letU h eM_8
  refine lv_aload_n hx hb dX3_store_39 rfl (lv_at hl 0 rfl) ?_
  refine sk_getR (o := 42) (ci := 3) (j := 3) (t := 46) C hM rfl rfl (by decide) rfl rfl kw_99 dX3_store_40 ?_
  refine lv_iload_n hx hb dX3_store_43 rfl (lv_at hl 1 rfl) ?_
  refine lv_aload_n hx hb dX3_store_44 rfl (lv_at hl 2 rfl) ?_
  refine sk_getI (o := 62) (ci := 0) (j := 8) C hM rfl rfl (by decide) rfl kw_133 dX3_store_45 ?_
  obtain ⟨i_9, h⟩ := sk_chkE h
  refine sk_iast (o := 46) C hM hS rfl i_9 dX3_store_48 (fun M_10 eM_10 H locs hM hS => ?_)
  have h := sk_letU h eM_10
  exact sk_vret C hM hS (Option.some.inj h) dX3_store_49
theorem dX3_named_0 : decode cX3_named 0 = .ok (.iload_n 0, 1) := by decide +kernel
theorem dX3_named_1 : decode cX3_named 1 = .ok (.bipush (-3), 2) := by decide +kernel
theorem dX3_named_3 : decode cX3_named 3 = .ok (.isub, 1) := by decide +kernel
theorem dX3_named_4 : decode cX3_named 4 = .ok (.istore 4, 2) := by decide +kernel
theorem dX3_named_6 : decode cX3_named 6 = .ok (.iload 4, 2) := by decide +kernel
theorem dX3_named_8 : decode cX3_named 8 = .ok (.ifCond .ne 5, 3) := by decide +kernel
theorem dX3_named_11 : decode cX3_named 11 = .ok (.iload_n 1, 1) := by decide +kernel
theorem dX3_named_12 : decode cX3_named 12 = .ok (.ireturn, 1) := by decide +kernel
theorem dX3_named_13 : decode cX3_named 13 = .ok (.iload 4, 2) := by decide +kernel
theorem dX3_named_15 : decode cX3_named 15 = .ok (.iconst 1, 1) := by decide +kernel
theorem dX3_named_16 : decode cX3_named 16 = .ok (.if_icmp .ne 7, 3) := by decide +kernel
theorem dX3_named_19 : decode cX3_named 19 = .ok (.iload_n 2, 1) := by decide +kernel
theorem dX3_named_20 : decode cX3_named 20 = .ok (.goto 4, 3) := by decide +kernel
theorem dX3_named_23 : decode cX3_named 23 = .ok (.iload_n 3, 1) := by decide +kernel
theorem dX3_named_24 : decode cX3_named 24 = .ok (.ireturn, 1) := by decide +kernel
set_option maxHeartbeats 4000000 in
set_option maxRecDepth 100000 in
theorem c_X3_named (g : sk_G) (l : Launch) (a0 : Int32) (a1 : Int32) (a2 : Int32) (a3 : Int32) (M : sk_M) {rr : Int32} (h : f_X3_named a0 a1 a2 a3 = rr) : sk_MI g l yX3_named cX3_named 5 (some .int) 1 [.int a0, .int a1, .int a2, .int a3] M rr M := by
  refine sk_go [(0, .int a0), (1, .int a1), (2, .int a2), (3, .int a3)] (by decide) (Nat.le_of_ble_eq_true rfl) rfl ?_
  intro p e s m av below meth c C ls hl hM hS
  obtain ⟨hx, hb, hml, hown, hts, hK, hE, hr, hlocks⟩ := id C
  rw [f_X3_named] at h
  refine lv_iload_n hx hb dX3_named_0 rfl (lv_at hl 0 rfl) ?_
  refine lv_bipush (v := (-3)) hx hb dX3_named_1 (by decide) ?_
  refine lv_isub hx hb dX3_named_3 ?_
  refine lv_topi (fun x_1 ex_1 => ?_)
  have h := sk_letU h ex_1
  refine lv_istore (lv' := [(4, .int x_1), (0, .int a0), (1, .int a1), (2, .int a2), (3, .int a3)]) hx hb dX3_named_4 hl (by decide) rfl (fun ls hl => ?_)
  refine lv_iload hx hb dX3_named_6 (lv_at hl 0 rfl) ?_
  refine lv_if_ne hx hb dX3_named_8 rfl (fun hc => ?_) (fun hc => ?_)
  · have h := sk_neg h hc
    refine lv_iload hx hb dX3_named_13 (lv_at hl 0 rfl) ?_
    refine lv_iconst (v := 1) hx hb dX3_named_15 (by decide) ?_
    have J : ∀ (vv : Int32) (H : Heap) (locs : List Loc), (if x_1 = 1 then a2 else a3 : Int32) = vv → sk_P g M H → va_S (sk_A g) s.heap H locs → W p l e (sk_rm 1) s m av below meth c H locs 0 0 (MQ below (sk_QI g rr M) av s 0 0 (sk_A g)) (F0 m 24 ls [.int vv]) := by
      intro vv H locs hvv hM hS
      subst hvv
      exact sk_iret C hM hS ⟨h, rfl⟩ dX3_named_24
    refine lv_icmp_ne hx hb dX3_named_16 rfl (fun hc => ?_) (fun hc => ?_)
    · have J := fun vv H locs q => J vv H locs ((if_neg hc).trans q)
      refine lv_iload_n hx hb dX3_named_23 rfl (lv_at hl 4 rfl) ?_
      exact J _ _ _ rfl hM hS
    · have J := fun vv H locs q => J vv H locs ((if_pos hc).trans q)
      refine lv_iload_n hx hb dX3_named_19 rfl (lv_at hl 3 rfl) ?_
      refine lv_goto hx hb dX3_named_20 rfl ?_
      exact J _ _ _ rfl hM hS
  · have h := sk_pos h hc
    refine lv_iload_n hx hb dX3_named_11 rfl (lv_at hl 2 rfl) ?_
    exact sk_iret C hM hS ⟨h, rfl⟩ dX3_named_12
theorem dX3_join_0 : decode cX3_join 0 = .ok (.iload_n 0, 1) := by decide +kernel
theorem dX3_join_1 : decode cX3_join 1 = .ok (.lookupswitch 148 #[(38, 89), (42, 144), (43, 136), (45, 140), (60, 103), (61, 114), (62, 125), (124, 75)], 75) := by decide +kernel
theorem dX3_join_76 : decode cX3_join 76 = .ok (.iload_n 1, 1) := by decide +kernel
theorem dX3_join_77 : decode cX3_join 77 = .ok (.ifCond .ne 7, 3) := by decide +kernel
theorem dX3_join_80 : decode cX3_join 80 = .ok (.iload_n 2, 1) := by decide +kernel
theorem dX3_join_81 : decode cX3_join 81 = .ok (.ifCond .eq 7, 3) := by decide +kernel
theorem dX3_join_84 : decode cX3_join 84 = .ok (.iconst 1, 1) := by decide +kernel
theorem dX3_join_85 : decode cX3_join 85 = .ok (.goto 4, 3) := by decide +kernel
theorem dX3_join_88 : decode cX3_join 88 = .ok (.iconst 0, 1) := by decide +kernel
theorem dX3_join_89 : decode cX3_join 89 = .ok (.ireturn, 1) := by decide +kernel
theorem dX3_join_90 : decode cX3_join 90 = .ok (.iload_n 1, 1) := by decide +kernel
theorem dX3_join_91 : decode cX3_join 91 = .ok (.ifCond .eq 11, 3) := by decide +kernel
theorem dX3_join_94 : decode cX3_join 94 = .ok (.iload_n 2, 1) := by decide +kernel
theorem dX3_join_95 : decode cX3_join 95 = .ok (.ifCond .eq 7, 3) := by decide +kernel
theorem dX3_join_98 : decode cX3_join 98 = .ok (.iconst 1, 1) := by decide +kernel
theorem dX3_join_99 : decode cX3_join 99 = .ok (.goto 4, 3) := by decide +kernel
theorem dX3_join_102 : decode cX3_join 102 = .ok (.iconst 0, 1) := by decide +kernel
theorem dX3_join_103 : decode cX3_join 103 = .ok (.ireturn, 1) := by decide +kernel
theorem dX3_join_104 : decode cX3_join 104 = .ok (.iload_n 1, 1) := by decide +kernel
theorem dX3_join_105 : decode cX3_join 105 = .ok (.iload_n 2, 1) := by decide +kernel
theorem dX3_join_106 : decode cX3_join 106 = .ok (.if_icmp .ge 7, 3) := by decide +kernel
theorem dX3_join_109 : decode cX3_join 109 = .ok (.iconst 1, 1) := by decide +kernel
theorem dX3_join_110 : decode cX3_join 110 = .ok (.goto 4, 3) := by decide +kernel
theorem dX3_join_113 : decode cX3_join 113 = .ok (.iconst 0, 1) := by decide +kernel
theorem dX3_join_114 : decode cX3_join 114 = .ok (.ireturn, 1) := by decide +kernel
theorem dX3_join_115 : decode cX3_join 115 = .ok (.iload_n 1, 1) := by decide +kernel
theorem dX3_join_116 : decode cX3_join 116 = .ok (.iload_n 2, 1) := by decide +kernel
theorem dX3_join_117 : decode cX3_join 117 = .ok (.if_icmp .ne 7, 3) := by decide +kernel
theorem dX3_join_120 : decode cX3_join 120 = .ok (.iconst 1, 1) := by decide +kernel
theorem dX3_join_121 : decode cX3_join 121 = .ok (.goto 4, 3) := by decide +kernel
theorem dX3_join_124 : decode cX3_join 124 = .ok (.iconst 0, 1) := by decide +kernel
theorem dX3_join_125 : decode cX3_join 125 = .ok (.ireturn, 1) := by decide +kernel
theorem dX3_join_126 : decode cX3_join 126 = .ok (.iload_n 1, 1) := by decide +kernel
theorem dX3_join_127 : decode cX3_join 127 = .ok (.iload_n 2, 1) := by decide +kernel
theorem dX3_join_128 : decode cX3_join 128 = .ok (.if_icmp .le 7, 3) := by decide +kernel
theorem dX3_join_131 : decode cX3_join 131 = .ok (.iconst 1, 1) := by decide +kernel
theorem dX3_join_132 : decode cX3_join 132 = .ok (.goto 4, 3) := by decide +kernel
theorem dX3_join_135 : decode cX3_join 135 = .ok (.iconst 0, 1) := by decide +kernel
theorem dX3_join_136 : decode cX3_join 136 = .ok (.ireturn, 1) := by decide +kernel
theorem dX3_join_137 : decode cX3_join 137 = .ok (.iload_n 1, 1) := by decide +kernel
theorem dX3_join_138 : decode cX3_join 138 = .ok (.iload_n 2, 1) := by decide +kernel
theorem dX3_join_139 : decode cX3_join 139 = .ok (.iadd, 1) := by decide +kernel
theorem dX3_join_140 : decode cX3_join 140 = .ok (.ireturn, 1) := by decide +kernel
theorem dX3_join_141 : decode cX3_join 141 = .ok (.iload_n 1, 1) := by decide +kernel
theorem dX3_join_142 : decode cX3_join 142 = .ok (.iload_n 2, 1) := by decide +kernel
theorem dX3_join_143 : decode cX3_join 143 = .ok (.isub, 1) := by decide +kernel
theorem dX3_join_144 : decode cX3_join 144 = .ok (.ireturn, 1) := by decide +kernel
theorem dX3_join_145 : decode cX3_join 145 = .ok (.iload_n 1, 1) := by decide +kernel
theorem dX3_join_146 : decode cX3_join 146 = .ok (.iload_n 2, 1) := by decide +kernel
theorem dX3_join_147 : decode cX3_join 147 = .ok (.imul, 1) := by decide +kernel
theorem dX3_join_148 : decode cX3_join 148 = .ok (.ireturn, 1) := by decide +kernel
theorem dX3_join_149 : decode cX3_join 149 = .ok (.iload_n 2, 1) := by decide +kernel
theorem dX3_join_150 : decode cX3_join 150 = .ok (.ifCond .ne 7, 3) := by decide +kernel
theorem dX3_join_153 : decode cX3_join 153 = .ok (.iconst 0, 1) := by decide +kernel
theorem dX3_join_154 : decode cX3_join 154 = .ok (.goto 6, 3) := by decide +kernel
theorem dX3_join_157 : decode cX3_join 157 = .ok (.iload_n 1, 1) := by decide +kernel
theorem dX3_join_158 : decode cX3_join 158 = .ok (.iload_n 2, 1) := by decide +kernel
theorem dX3_join_159 : decode cX3_join 159 = .ok (.idiv, 1) := by decide +kernel
theorem dX3_join_160 : decode cX3_join 160 = .ok (.ireturn, 1) := by decide +kernel
set_option maxHeartbeats 4000000 in
set_option maxRecDepth 100000 in
theorem c_X3_join (g : sk_G) (l : Launch) (a0 : Int32) (a1 : Int32) (a2 : Int32) (M : sk_M) {rr : Int32} (h : f_X3_join a0 a1 a2 M = some rr) : sk_MI g l yX3_join cX3_join 3 (some .int) 1 [.int a0, .int a1, .int a2] M rr M := by
  refine sk_go [(0, .int a0), (1, .int a1), (2, .int a2)] (by decide) (Nat.le_of_ble_eq_true rfl) rfl ?_
  intro p e s m av below meth c C ls hl hM hS
  obtain ⟨hx, hb, hml, hown, hts, hK, hE, hr, hlocks⟩ := id C
  rw [f_X3_join] at h
  refine lv_iload_n hx hb dX3_join_0 rfl (lv_at hl 0 rfl) ?_
  by_cases hk_1 : a0 = 38
  · refine lv_lookup (off := 89) hx hb dX3_join_1 rfl (by rw [hk_1]; rfl) rfl ?_
    have h := sk_pos h hk_1
    refine lv_iload_n hx hb dX3_join_90 rfl (lv_at hl 1 rfl) ?_
    have J : ∀ (vv : Int32) (H : Heap) (locs : List Loc), (if a1 = 0 then 0 else (if a2 = 0 then 0 else 1 : Int32) : Int32) = vv → sk_P g M H → va_S (sk_A g) s.heap H locs → W p l e (sk_rm 1) s m av below meth c H locs 0 0 (MQ below (sk_QI g rr M) av s 0 0 (sk_A g)) (F0 m 103 ls [.int vv]) := by
      intro vv H locs hvv hM hS
      subst hvv
      exact sk_iret C hM hS ⟨Option.some.inj h, rfl⟩ dX3_join_103
    refine lv_if_eq hx hb dX3_join_91 rfl (fun hc => ?_) (fun hc => ?_)
    · have J := fun vv H locs q => J vv H locs ((if_pos hc).trans q)
      refine lv_iconst (v := 0) hx hb dX3_join_102 (by decide) ?_
      exact J _ _ _ rfl hM hS
    · have J := fun vv H locs q => J vv H locs ((if_neg hc).trans q)
      refine lv_iload_n hx hb dX3_join_94 rfl (lv_at hl 2 rfl) ?_
      refine lv_if_eq hx hb dX3_join_95 rfl (fun hc => ?_) (fun hc => ?_)
      · have J := fun vv H locs q => J vv H locs ((if_pos hc).trans q)
        refine lv_iconst (v := 0) hx hb dX3_join_102 (by decide) ?_
        exact J _ _ _ rfl hM hS
      · have J := fun vv H locs q => J vv H locs ((if_neg hc).trans q)
        refine lv_iconst (v := 1) hx hb dX3_join_98 (by decide) ?_
        refine lv_goto hx hb dX3_join_99 rfl ?_
        exact J _ _ _ rfl hM hS
  have h := sk_neg h hk_1
  by_cases hk_2 : a0 = 42
  · refine lv_lookup (off := 144) hx hb dX3_join_1 rfl (by rw [hk_2]; rfl) rfl ?_
    have h := sk_pos h hk_2
    refine lv_iload_n hx hb dX3_join_145 rfl (lv_at hl 1 rfl) ?_
    refine lv_iload_n hx hb dX3_join_146 rfl (lv_at hl 2 rfl) ?_
    refine lv_imul hx hb dX3_join_147 ?_
    exact sk_iret C hM hS ⟨Option.some.inj h, rfl⟩ dX3_join_148
  have h := sk_neg h hk_2
  by_cases hk_3 : a0 = 43
  · refine lv_lookup (off := 136) hx hb dX3_join_1 rfl (by rw [hk_3]; rfl) rfl ?_
    have h := sk_pos h hk_3
    refine lv_iload_n hx hb dX3_join_137 rfl (lv_at hl 1 rfl) ?_
    refine lv_iload_n hx hb dX3_join_138 rfl (lv_at hl 2 rfl) ?_
    refine lv_iadd hx hb dX3_join_139 ?_
    exact sk_iret C hM hS ⟨Option.some.inj h, rfl⟩ dX3_join_140
  have h := sk_neg h hk_3
  by_cases hk_4 : a0 = 45
  · refine lv_lookup (off := 140) hx hb dX3_join_1 rfl (by rw [hk_4]; rfl) rfl ?_
    have h := sk_pos h hk_4
    refine lv_iload_n hx hb dX3_join_141 rfl (lv_at hl 1 rfl) ?_
    refine lv_iload_n hx hb dX3_join_142 rfl (lv_at hl 2 rfl) ?_
    refine lv_isub hx hb dX3_join_143 ?_
    exact sk_iret C hM hS ⟨Option.some.inj h, rfl⟩ dX3_join_144
  have h := sk_neg h hk_4
  by_cases hk_5 : a0 = 60
  · refine lv_lookup (off := 103) hx hb dX3_join_1 rfl (by rw [hk_5]; rfl) rfl ?_
    have h := sk_pos h hk_5
    refine lv_iload_n hx hb dX3_join_104 rfl (lv_at hl 1 rfl) ?_
    refine lv_iload_n hx hb dX3_join_105 rfl (lv_at hl 2 rfl) ?_
    have J : ∀ (vv : Int32) (H : Heap) (locs : List Loc), (if a2 ≤ a1 then 0 else 1 : Int32) = vv → sk_P g M H → va_S (sk_A g) s.heap H locs → W p l e (sk_rm 1) s m av below meth c H locs 0 0 (MQ below (sk_QI g rr M) av s 0 0 (sk_A g)) (F0 m 114 ls [.int vv]) := by
      intro vv H locs hvv hM hS
      subst hvv
      exact sk_iret C hM hS ⟨Option.some.inj h, rfl⟩ dX3_join_114
    refine lv_icmp_ge hx hb dX3_join_106 rfl (fun hc => ?_) (fun hc => ?_)
    · have J := fun vv H locs q => J vv H locs ((if_pos hc).trans q)
      refine lv_iconst (v := 0) hx hb dX3_join_113 (by decide) ?_
      exact J _ _ _ rfl hM hS
    · have J := fun vv H locs q => J vv H locs ((if_neg hc).trans q)
      refine lv_iconst (v := 1) hx hb dX3_join_109 (by decide) ?_
      refine lv_goto hx hb dX3_join_110 rfl ?_
      exact J _ _ _ rfl hM hS
  have h := sk_neg h hk_5
  by_cases hk_6 : a0 = 61
  · refine lv_lookup (off := 114) hx hb dX3_join_1 rfl (by rw [hk_6]; rfl) rfl ?_
    have h := sk_pos h hk_6
    refine lv_iload_n hx hb dX3_join_115 rfl (lv_at hl 1 rfl) ?_
    refine lv_iload_n hx hb dX3_join_116 rfl (lv_at hl 2 rfl) ?_
    have J : ∀ (vv : Int32) (H : Heap) (locs : List Loc), (if a1 = a2 then 1 else 0 : Int32) = vv → sk_P g M H → va_S (sk_A g) s.heap H locs → W p l e (sk_rm 1) s m av below meth c H locs 0 0 (MQ below (sk_QI g rr M) av s 0 0 (sk_A g)) (F0 m 125 ls [.int vv]) := by
      intro vv H locs hvv hM hS
      subst hvv
      exact sk_iret C hM hS ⟨Option.some.inj h, rfl⟩ dX3_join_125
    refine lv_icmp_ne hx hb dX3_join_117 rfl (fun hc => ?_) (fun hc => ?_)
    · have J := fun vv H locs q => J vv H locs ((if_neg hc).trans q)
      refine lv_iconst (v := 0) hx hb dX3_join_124 (by decide) ?_
      exact J _ _ _ rfl hM hS
    · have J := fun vv H locs q => J vv H locs ((if_pos hc).trans q)
      refine lv_iconst (v := 1) hx hb dX3_join_120 (by decide) ?_
      refine lv_goto hx hb dX3_join_121 rfl ?_
      exact J _ _ _ rfl hM hS
  have h := sk_neg h hk_6
  by_cases hk_7 : a0 = 62
  · refine lv_lookup (off := 125) hx hb dX3_join_1 rfl (by rw [hk_7]; rfl) rfl ?_
    have h := sk_pos h hk_7
    refine lv_iload_n hx hb dX3_join_126 rfl (lv_at hl 1 rfl) ?_
    refine lv_iload_n hx hb dX3_join_127 rfl (lv_at hl 2 rfl) ?_
    have J : ∀ (vv : Int32) (H : Heap) (locs : List Loc), (if a1 ≤ a2 then 0 else 1 : Int32) = vv → sk_P g M H → va_S (sk_A g) s.heap H locs → W p l e (sk_rm 1) s m av below meth c H locs 0 0 (MQ below (sk_QI g rr M) av s 0 0 (sk_A g)) (F0 m 136 ls [.int vv]) := by
      intro vv H locs hvv hM hS
      subst hvv
      exact sk_iret C hM hS ⟨Option.some.inj h, rfl⟩ dX3_join_136
    refine lv_icmp_le hx hb dX3_join_128 rfl (fun hc => ?_) (fun hc => ?_)
    · have J := fun vv H locs q => J vv H locs ((if_pos hc).trans q)
      refine lv_iconst (v := 0) hx hb dX3_join_135 (by decide) ?_
      exact J _ _ _ rfl hM hS
    · have J := fun vv H locs q => J vv H locs ((if_neg hc).trans q)
      refine lv_iconst (v := 1) hx hb dX3_join_131 (by decide) ?_
      refine lv_goto hx hb dX3_join_132 rfl ?_
      exact J _ _ _ rfl hM hS
  have h := sk_neg h hk_7
  by_cases hk_8 : a0 = 124
  · refine lv_lookup (off := 75) hx hb dX3_join_1 rfl (by rw [hk_8]; rfl) rfl ?_
    have h := sk_pos h hk_8
    refine lv_iload_n hx hb dX3_join_76 rfl (lv_at hl 1 rfl) ?_
    refine lv_if_ne hx hb dX3_join_77 rfl (fun hc => ?_) (fun hc => ?_)
    · have h := sk_neg h hc
      refine lv_iconst (v := 1) hx hb dX3_join_84 (by decide) ?_
      refine lv_goto hx hb dX3_join_85 rfl ?_
      exact sk_iret C hM hS ⟨Option.some.inj h, rfl⟩ dX3_join_89
    · have h := sk_pos h hc
      refine lv_iload_n hx hb dX3_join_80 rfl (lv_at hl 2 rfl) ?_
      have J : ∀ (vv : Int32) (H : Heap) (locs : List Loc), (if a2 = 0 then 0 else 1 : Int32) = vv → sk_P g M H → va_S (sk_A g) s.heap H locs → W p l e (sk_rm 1) s m av below meth c H locs 0 0 (MQ below (sk_QI g rr M) av s 0 0 (sk_A g)) (F0 m 89 ls [.int vv]) := by
        intro vv H locs hvv hM hS
        subst hvv
        exact sk_iret C hM hS ⟨Option.some.inj h, rfl⟩ dX3_join_89
      refine lv_if_eq hx hb dX3_join_81 rfl (fun hc => ?_) (fun hc => ?_)
      · have J := fun vv H locs q => J vv H locs ((if_pos hc).trans q)
        refine lv_iconst (v := 0) hx hb dX3_join_88 (by decide) ?_
        exact J _ _ _ rfl hM hS
      · have J := fun vv H locs q => J vv H locs ((if_neg hc).trans q)
        refine lv_iconst (v := 1) hx hb dX3_join_84 (by decide) ?_
        refine lv_goto hx hb dX3_join_85 rfl ?_
        exact J _ _ _ rfl hM hS
  have h := sk_neg h hk_8
  refine lv_lookup (off := 148) hx hb dX3_join_1 rfl (sk_look (by intro q hq; simp only [List.mem_cons, List.not_mem_nil, or_false] at hq; rcases hq with rfl | rfl | rfl | rfl | rfl | rfl | rfl | rfl <;> first | exact sk_tn hk_1 rfl | exact sk_tn hk_2 rfl | exact sk_tn hk_3 rfl | exact sk_tn hk_4 rfl | exact sk_tn hk_5 rfl | exact sk_tn hk_6 rfl | exact sk_tn hk_7 rfl | exact sk_tn hk_8 rfl)) rfl ?_
  refine lv_iload_n hx hb dX3_join_149 rfl (lv_at hl 2 rfl) ?_
  refine lv_if_ne hx hb dX3_join_150 rfl (fun hc => ?_) (fun hc => ?_)
  · have h := sk_neg h hc
    refine lv_iload_n hx hb dX3_join_157 rfl (lv_at hl 1 rfl) ?_
    refine lv_iload_n hx hb dX3_join_158 rfl (lv_at hl 2 rfl) ?_
    obtain ⟨i_9, h⟩ := sk_chkE h
    refine lv_idiv hx hb dX3_join_159 (of_decide_eq_true i_9) ?_
    exact sk_iret C hM hS ⟨Option.some.inj h, rfl⟩ dX3_join_160
  · have h := sk_pos h hc
    refine lv_iconst (v := 0) hx hb dX3_join_153 (by decide) ?_
    refine lv_goto hx hb dX3_join_154 rfl ?_
    exact sk_iret C hM hS ⟨Option.some.inj h, rfl⟩ dX3_join_160
theorem dX3_give_0 : decode cX3_give 0 = .ok (.iconst 0, 1) := by decide +kernel
theorem dX3_give_1 : decode cX3_give 1 = .ok (.istore 5, 2) := by decide +kernel
theorem dX3_give_3 : decode cX3_give 3 = .ok (.iconst 0, 1) := by decide +kernel
theorem dX3_give_4 : decode cX3_give 4 = .ok (.istore 6, 2) := by decide +kernel
theorem dX3_give_6 : decode cX3_give 6 = .ok (.iload 6, 2) := by decide +kernel
theorem dX3_give_8 : decode cX3_give 8 = .ok (.aload_n 0, 1) := by decide +kernel
theorem dX3_give_9 : decode cX3_give 9 = .ok (.getfield 16, 3) := by decide +kernel
theorem dX3_give_12 : decode cX3_give 12 = .ok (.iload_n 1, 1) := by decide +kernel
theorem dX3_give_13 : decode cX3_give 13 = .ok (.iaload, 1) := by decide +kernel
theorem dX3_give_14 : decode cX3_give 14 = .ok (.if_icmp .ge 141, 3) := by decide +kernel
theorem dX3_give_17 : decode cX3_give 17 = .ok (.aload_n 0, 1) := by decide +kernel
theorem dX3_give_18 : decode cX3_give 18 = .ok (.getfield 11, 3) := by decide +kernel
theorem dX3_give_21 : decode cX3_give 21 = .ok (.iload_n 1, 1) := by decide +kernel
theorem dX3_give_22 : decode cX3_give 22 = .ok (.aaload, 1) := by decide +kernel
theorem dX3_give_23 : decode cX3_give 23 = .ok (.iload 6, 2) := by decide +kernel
theorem dX3_give_25 : decode cX3_give 25 = .ok (.iaload, 1) := by decide +kernel
theorem dX3_give_26 : decode cX3_give 26 = .ok (.istore 7, 2) := by decide +kernel
theorem dX3_give_28 : decode cX3_give 28 = .ok (.iload 7, 2) := by decide +kernel
theorem dX3_give_30 : decode cX3_give 30 = .ok (.bipush (-3), 2) := by decide +kernel
theorem dX3_give_32 : decode cX3_give 32 = .ok (.if_icmp .lt 35, 3) := by decide +kernel
theorem dX3_give_35 : decode cX3_give 35 = .ok (.aload_n 0, 1) := by decide +kernel
theorem dX3_give_36 : decode cX3_give 36 = .ok (.getfield 26, 3) := by decide +kernel
theorem dX3_give_39 : decode cX3_give 39 = .ok (.iload 5, 2) := by decide +kernel
theorem dX3_give_41 : decode cX3_give 41 = .ok (.iload 7, 2) := by decide +kernel
theorem dX3_give_43 : decode cX3_give 43 = .ok (.ifCond .lt 8, 3) := by decide +kernel
theorem dX3_give_46 : decode cX3_give 46 = .ok (.iload 7, 2) := by decide +kernel
theorem dX3_give_48 : decode cX3_give 48 = .ok (.goto 12, 3) := by decide +kernel
theorem dX3_give_51 : decode cX3_give 51 = .ok (.iload 7, 2) := by decide +kernel
theorem dX3_give_53 : decode cX3_give 53 = .ok (.iload_n 2, 1) := by decide +kernel
theorem dX3_give_54 : decode cX3_give 54 = .ok (.iload_n 3, 1) := by decide +kernel
theorem dX3_give_55 : decode cX3_give 55 = .ok (.iload 4, 2) := by decide +kernel
theorem dX3_give_57 : decode cX3_give 57 = .ok (.invokestatic 48, 3) := by decide +kernel
theorem dX3_give_60 : decode cX3_give 60 = .ok (.iastore, 1) := by decide +kernel
theorem dX3_give_61 : decode cX3_give 61 = .ok (.iinc 5 1, 3) := by decide +kernel
theorem dX3_give_64 : decode cX3_give 64 = .ok (.goto 85, 3) := by decide +kernel
theorem dX3_give_67 : decode cX3_give 67 = .ok (.iload 7, 2) := by decide +kernel
theorem dX3_give_69 : decode cX3_give 69 = .ok (.bipush (-33), 2) := by decide +kernel
theorem dX3_give_71 : decode cX3_give 71 = .ok (.if_icmp .ne 38, 3) := by decide +kernel
theorem dX3_give_74 : decode cX3_give 74 = .ok (.iload 5, 2) := by decide +kernel
theorem dX3_give_76 : decode cX3_give 76 = .ok (.iconst 1, 1) := by decide +kernel
theorem dX3_give_77 : decode cX3_give 77 = .ok (.if_icmp .lt 32, 3) := by decide +kernel
theorem dX3_give_80 : decode cX3_give 80 = .ok (.aload_n 0, 1) := by decide +kernel
theorem dX3_give_81 : decode cX3_give 81 = .ok (.getfield 26, 3) := by decide +kernel
theorem dX3_give_84 : decode cX3_give 84 = .ok (.iload 5, 2) := by decide +kernel
theorem dX3_give_86 : decode cX3_give 86 = .ok (.iconst 1, 1) := by decide +kernel
theorem dX3_give_87 : decode cX3_give 87 = .ok (.isub, 1) := by decide +kernel
theorem dX3_give_88 : decode cX3_give 88 = .ok (.aload_n 0, 1) := by decide +kernel
theorem dX3_give_89 : decode cX3_give 89 = .ok (.getfield 26, 3) := by decide +kernel
theorem dX3_give_92 : decode cX3_give 92 = .ok (.iload 5, 2) := by decide +kernel
theorem dX3_give_94 : decode cX3_give 94 = .ok (.iconst 1, 1) := by decide +kernel
theorem dX3_give_95 : decode cX3_give 95 = .ok (.isub, 1) := by decide +kernel
theorem dX3_give_96 : decode cX3_give 96 = .ok (.iaload, 1) := by decide +kernel
theorem dX3_give_97 : decode cX3_give 97 = .ok (.ifCond .ne 7, 3) := by decide +kernel
theorem dX3_give_100 : decode cX3_give 100 = .ok (.iconst 1, 1) := by decide +kernel
theorem dX3_give_101 : decode cX3_give 101 = .ok (.goto 4, 3) := by decide +kernel
theorem dX3_give_104 : decode cX3_give 104 = .ok (.iconst 0, 1) := by decide +kernel
theorem dX3_give_105 : decode cX3_give 105 = .ok (.iastore, 1) := by decide +kernel
theorem dX3_give_106 : decode cX3_give 106 = .ok (.goto 43, 3) := by decide +kernel
theorem dX3_give_109 : decode cX3_give 109 = .ok (.iload 5, 2) := by decide +kernel
theorem dX3_give_111 : decode cX3_give 111 = .ok (.iconst 2, 1) := by decide +kernel
theorem dX3_give_112 : decode cX3_give 112 = .ok (.if_icmp .lt 37, 3) := by decide +kernel
theorem dX3_give_115 : decode cX3_give 115 = .ok (.iinc 5 (-1), 3) := by decide +kernel
theorem dX3_give_118 : decode cX3_give 118 = .ok (.aload_n 0, 1) := by decide +kernel
theorem dX3_give_119 : decode cX3_give 119 = .ok (.getfield 26, 3) := by decide +kernel
theorem dX3_give_122 : decode cX3_give 122 = .ok (.iload 5, 2) := by decide +kernel
theorem dX3_give_124 : decode cX3_give 124 = .ok (.iconst 1, 1) := by decide +kernel
theorem dX3_give_125 : decode cX3_give 125 = .ok (.isub, 1) := by decide +kernel
theorem dX3_give_126 : decode cX3_give 126 = .ok (.iload 7, 2) := by decide +kernel
theorem dX3_give_128 : decode cX3_give 128 = .ok (.ineg, 1) := by decide +kernel
theorem dX3_give_129 : decode cX3_give 129 = .ok (.aload_n 0, 1) := by decide +kernel
theorem dX3_give_130 : decode cX3_give 130 = .ok (.getfield 26, 3) := by decide +kernel
theorem dX3_give_133 : decode cX3_give 133 = .ok (.iload 5, 2) := by decide +kernel
theorem dX3_give_135 : decode cX3_give 135 = .ok (.iconst 1, 1) := by decide +kernel
theorem dX3_give_136 : decode cX3_give 136 = .ok (.isub, 1) := by decide +kernel
theorem dX3_give_137 : decode cX3_give 137 = .ok (.iaload, 1) := by decide +kernel
theorem dX3_give_138 : decode cX3_give 138 = .ok (.aload_n 0, 1) := by decide +kernel
theorem dX3_give_139 : decode cX3_give 139 = .ok (.getfield 26, 3) := by decide +kernel
theorem dX3_give_142 : decode cX3_give 142 = .ok (.iload 5, 2) := by decide +kernel
theorem dX3_give_144 : decode cX3_give 144 = .ok (.iaload, 1) := by decide +kernel
theorem dX3_give_145 : decode cX3_give 145 = .ok (.invokestatic 52, 3) := by decide +kernel
theorem dX3_give_148 : decode cX3_give 148 = .ok (.iastore, 1) := by decide +kernel
theorem dX3_give_149 : decode cX3_give 149 = .ok (.iinc 6 1, 3) := by decide +kernel
theorem dX3_give_152 : decode cX3_give 152 = .ok (.goto (-146), 3) := by decide +kernel
theorem dX3_give_155 : decode cX3_give 155 = .ok (.aload_n 0, 1) := by decide +kernel
theorem dX3_give_156 : decode cX3_give 156 = .ok (.getfield 26, 3) := by decide +kernel
theorem dX3_give_159 : decode cX3_give 159 = .ok (.iconst 0, 1) := by decide +kernel
theorem dX3_give_160 : decode cX3_give 160 = .ok (.iaload, 1) := by decide +kernel
theorem dX3_give_161 : decode cX3_give 161 = .ok (.ireturn, 1) := by decide +kernel
set_option maxHeartbeats 4000000 in
set_option maxRecDepth 100000 in
theorem w_X3_give_L6 {g : sk_G} {l : Launch} {p : Program} {e : Env} {s : State} {m : MethodId} {av : Array Value} {below : List Frame} {meth : Method} {c : Code} (C : sk_C g p s m av meth c cX3_give 8 RX3 (some .int)) (a1 : Int32) (a2 : Int32) (a3 : Int32) (a4 : Int32) {rr : Int32} {MM : sk_M} :
    ∀ (n : Nat) (a5 : Int32) (a6 : Int32) (M : sk_M) (H : Heap) (locs : List Loc) (ls : Array Slot), lv_has ls 8 [(0, .ref (sk_ad g 42)), (1, .int a1), (2, .int a2), (3, .int a3), (4, .int a4), (5, .int a5), (6, .int a6)] → sk_P g M H → va_S (sk_A g) s.heap H locs → ∀ {out : sk_M}, f_X3_give_L6 a1 a2 a3 a4 n a5 a6 M = some out → (∀ (M1 : sk_M) (H : Heap) (locs : List Loc) (ls : Array Slot), some M1 = some out → lv_has ls 8 [(0, .ref (sk_ad g 42))] → sk_P g M1 H → va_S (sk_A g) s.heap H locs → W p l e (sk_rm 2) s m av below meth c H locs 0 0 (MQ below (sk_QI g rr MM) av s 0 0 (sk_A g)) (F0 m 155 ls [])) → W p l e (sk_rm 2) s m av below meth c H locs 0 0 (MQ below (sk_QI g rr MM) av s 0 0 (sk_A g)) (F0 m 6 ls []) := by
  obtain ⟨hx, hb, hml, hown, hts, hK, hE, hr, hlocks⟩ := id C
  intro n
  induction n with
  | zero =>
    intro a5 a6 M H locs ls hl hM hS out h
    cases h
  | succ n ih =>
    intro a5 a6 M H locs ls hl hM hS out h kx
    rw [f_X3_give_L6] at h
    refine lv_iload hx hb dX3_give_6 (lv_at hl 6 rfl) ?_
    refine lv_aload_n hx hb dX3_give_8 rfl (lv_at hl 0 rfl) ?_
    refine sk_getR (o := 42) (ci := 3) (j := 1) (t := 44) C hM rfl rfl (by decide) rfl rfl kw_96 dX3_give_9 ?_
    refine lv_iload_n hx hb dX3_give_12 rfl (lv_at hl 1 rfl) ?_
    obtain ⟨i_1, h⟩ := sk_chkE h
    refine sk_iald (o := 44) C hM rfl i_1 dX3_give_13 ?_
    refine lv_icmp_ge hx hb dX3_give_14 rfl (fun hc => ?_) (fun hc => ?_)
    · have h := sk_pos h hc
      exact kx _ _ _ _ h (lv_sub hl [0] rfl) hM hS
    · have h := sk_neg h hc
      refine lv_aload_n hx hb dX3_give_17 rfl (lv_at hl 0 rfl) ?_
      refine sk_getR (o := 42) (ci := 3) (j := 0) (t := 43) C hM rfl rfl (by decide) rfl rfl kw_95 dX3_give_18 ?_
      refine lv_iload_n hx hb dX3_give_21 rfl (lv_at hl 1 rfl) ?_
      obtain ⟨i_2, h⟩ := sk_chkE h
      refine sk_aald (o := 43) (k := 0) (t := (48 + a1.toNatClampNeg)) C hM rfl (by decide) i_2 rfl dX3_give_22 ?_
      refine lv_iload hx hb dX3_give_23 (lv_at hl 6 rfl) ?_
      obtain ⟨i_3, h⟩ := sk_chkE h
      refine sk_iald (o := (48 + a1.toNatClampNeg)) C hM (sk_kd_t (sk_in_lt i_2)) i_3 dX3_give_25 ?_
      refine lv_topi (fun x_4 ex_4 => ?_)
      have h := sk_letU h ex_4
      refine lv_istore (lv' := [(7, .int x_4), (0, .ref (sk_ad g 42)), (1, .int a1), (2, .int a2), (3, .int a3), (4, .int a4), (5, .int a5), (6, .int a6)]) hx hb dX3_give_26 hl (by decide) rfl (fun ls hl => ?_)
      refine lv_iload hx hb dX3_give_28 (lv_at hl 0 rfl) ?_
      refine lv_bipush (v := (-3)) hx hb dX3_give_30 (by decide) ?_
      refine lv_icmp_lt hx hb dX3_give_32 rfl (fun hc => ?_) (fun hc => ?_)
      · have h := sk_pos h hc
        refine lv_iload hx hb dX3_give_67 (lv_at hl 0 rfl) ?_
        refine lv_bipush (v := (-33)) hx hb dX3_give_69 (by decide) ?_
        refine lv_icmp_ne hx hb dX3_give_71 rfl (fun hc => ?_) (fun hc => ?_)
        · have h := sk_neg h hc
          refine lv_iload hx hb dX3_give_109 (lv_at hl 6 rfl) ?_
          refine lv_iconst (v := 2) hx hb dX3_give_111 (by decide) ?_
          refine lv_icmp_lt hx hb dX3_give_112 rfl (fun hc => ?_) (fun hc => ?_)
          · have h := sk_pos h hc
            refine lv_iinc (v := (a6 + 1)) (lv' := [(6, .int (a6 + 1)), (7, .int x_4), (0, .ref (sk_ad g 42)), (1, .int a1), (2, .int a2), (3, .int a3), (4, .int a4), (5, .int a5)]) hx hb dX3_give_149 hl (k := 7) rfl rfl (by decide) rfl (fun ls hl => ?_)
            refine lv_goto hx hb dX3_give_152 rfl ?_
            exact ih a5 (a6 + 1) M _ _ _ (lv_sub hl [2, 3, 4, 5, 6, 7, 0] rfl) hM hS h kx
          · have h := sk_neg h hc
            refine lv_iinc (v := (a5 + (-1))) (lv' := [(5, .int (a5 + (-1))), (7, .int x_4), (0, .ref (sk_ad g 42)), (1, .int a1), (2, .int a2), (3, .int a3), (4, .int a4), (6, .int a6)]) hx hb dX3_give_115 hl (k := 6) rfl rfl (by decide) rfl (fun ls hl => ?_)
            refine lv_aload_n hx hb dX3_give_118 rfl (lv_at hl 2 rfl) ?_
            refine sk_getR (o := 42) (ci := 3) (j := 4) (t := 47) C hM rfl rfl (by decide) rfl rfl kw_101 dX3_give_119 ?_
            refine lv_iload hx hb dX3_give_122 (lv_at hl 0 rfl) ?_
            refine lv_iconst (v := 1) hx hb dX3_give_124 (by decide) ?_
            refine lv_isub hx hb dX3_give_125 ?_
            refine lv_iload hx hb dX3_give_126 (lv_at hl 1 rfl) ?_
            refine lv_ineg hx hb dX3_give_128 ?_
            refine lv_aload_n hx hb dX3_give_129 rfl (lv_at hl 2 rfl) ?_
            refine sk_getR (o := 42) (ci := 3) (j := 4) (t := 47) C hM rfl rfl (by decide) rfl rfl kw_101 dX3_give_130 ?_
            refine lv_iload hx hb dX3_give_133 (lv_at hl 0 rfl) ?_
            refine lv_iconst (v := 1) hx hb dX3_give_135 (by decide) ?_
            refine lv_isub hx hb dX3_give_136 ?_
            obtain ⟨i_5, h⟩ := sk_chkE h
            refine sk_iald (o := 47) C hM rfl i_5 dX3_give_137 ?_
            refine lv_aload_n hx hb dX3_give_138 rfl (lv_at hl 2 rfl) ?_
            refine sk_getR (o := 42) (ci := 3) (j := 4) (t := 47) C hM rfl rfl (by decide) rfl rfl kw_101 dX3_give_139 ?_
            refine lv_iload hx hb dX3_give_142 (lv_at hl 0 rfl) ?_
            obtain ⟨i_6, h⟩ := sk_chkE h
            refine sk_iald (o := 47) C hM rfl i_6 dX3_give_144 ?_
            obtain ⟨x_7, h_8, h⟩ := sk_b1E h
            refine sk_contI (sk_runS (As := [.int (-x_4), .int (M 47 ((a5 + (-1)) - 1).toNatClampNeg), .int (M 47 (a5 + (-1)).toNatClampNeg)]) (rest := [.int ((a5 + (-1)) - 1), .ref (sk_ad g 47)]) C (c_X3_join g l (-x_4) (M 47 ((a5 + (-1)) - 1).toNatClampNeg) (M 47 (a5 + (-1)).toNatClampNeg) M h_8) yo_X3_join kw_453 (by decide) hM hS hl.1 rfl rfl (Nat.le_of_ble_eq_true rfl) dX3_give_145) hS (fun H locs hM hS => ?_)
            obtain ⟨i_9, h⟩ := sk_chkE h
            refine sk_iast (o := 47) C hM hS rfl i_9 dX3_give_148 (fun M_10 eM_10 H locs hM hS => ?_)
            have h := sk_letU h eM_10
            refine lv_iinc (v := (a6 + 1)) (lv' := [(6, .int (a6 + 1)), (5, .int (a5 + (-1))), (7, .int x_4), (0, .ref (sk_ad g 42)), (1, .int a1), (2, .int a2), (3, .int a3), (4, .int a4)]) hx hb dX3_give_149 hl (k := 7) rfl rfl (by decide) rfl (fun ls hl => ?_)
            refine lv_goto hx hb dX3_give_152 rfl ?_
            exact ih (a5 + (-1)) (a6 + 1) M_10 _ _ _ (lv_sub hl [3, 4, 5, 6, 7, 1, 0] rfl) hM hS h kx
        · have h := sk_pos h hc
          refine lv_iload hx hb dX3_give_74 (lv_at hl 6 rfl) ?_
          refine lv_iconst (v := 1) hx hb dX3_give_76 (by decide) ?_
          refine lv_icmp_lt hx hb dX3_give_77 rfl (fun hc => ?_) (fun hc => ?_)
          · have h := sk_pos h hc
            refine lv_iload hx hb dX3_give_109 (lv_at hl 6 rfl) ?_
            refine lv_iconst (v := 2) hx hb dX3_give_111 (by decide) ?_
            refine lv_icmp_lt hx hb dX3_give_112 rfl (fun hc => ?_) (fun hc => ?_)
            · have h := sk_pos h hc
              refine lv_iinc (v := (a6 + 1)) (lv' := [(6, .int (a6 + 1)), (7, .int x_4), (0, .ref (sk_ad g 42)), (1, .int a1), (2, .int a2), (3, .int a3), (4, .int a4), (5, .int a5)]) hx hb dX3_give_149 hl (k := 7) rfl rfl (by decide) rfl (fun ls hl => ?_)
              refine lv_goto hx hb dX3_give_152 rfl ?_
              exact ih a5 (a6 + 1) M _ _ _ (lv_sub hl [2, 3, 4, 5, 6, 7, 0] rfl) hM hS h kx
            · have h := sk_neg h hc
              refine lv_iinc (v := (a5 + (-1))) (lv' := [(5, .int (a5 + (-1))), (7, .int x_4), (0, .ref (sk_ad g 42)), (1, .int a1), (2, .int a2), (3, .int a3), (4, .int a4), (6, .int a6)]) hx hb dX3_give_115 hl (k := 6) rfl rfl (by decide) rfl (fun ls hl => ?_)
              refine lv_aload_n hx hb dX3_give_118 rfl (lv_at hl 2 rfl) ?_
              refine sk_getR (o := 42) (ci := 3) (j := 4) (t := 47) C hM rfl rfl (by decide) rfl rfl kw_101 dX3_give_119 ?_
              refine lv_iload hx hb dX3_give_122 (lv_at hl 0 rfl) ?_
              refine lv_iconst (v := 1) hx hb dX3_give_124 (by decide) ?_
              refine lv_isub hx hb dX3_give_125 ?_
              refine lv_iload hx hb dX3_give_126 (lv_at hl 1 rfl) ?_
              refine lv_ineg hx hb dX3_give_128 ?_
              refine lv_aload_n hx hb dX3_give_129 rfl (lv_at hl 2 rfl) ?_
              refine sk_getR (o := 42) (ci := 3) (j := 4) (t := 47) C hM rfl rfl (by decide) rfl rfl kw_101 dX3_give_130 ?_
              refine lv_iload hx hb dX3_give_133 (lv_at hl 0 rfl) ?_
              refine lv_iconst (v := 1) hx hb dX3_give_135 (by decide) ?_
              refine lv_isub hx hb dX3_give_136 ?_
              obtain ⟨i_11, h⟩ := sk_chkE h
              refine sk_iald (o := 47) C hM rfl i_11 dX3_give_137 ?_
              refine lv_aload_n hx hb dX3_give_138 rfl (lv_at hl 2 rfl) ?_
              refine sk_getR (o := 42) (ci := 3) (j := 4) (t := 47) C hM rfl rfl (by decide) rfl rfl kw_101 dX3_give_139 ?_
              refine lv_iload hx hb dX3_give_142 (lv_at hl 0 rfl) ?_
              obtain ⟨i_12, h⟩ := sk_chkE h
              refine sk_iald (o := 47) C hM rfl i_12 dX3_give_144 ?_
              obtain ⟨x_13, h_14, h⟩ := sk_b1E h
              refine sk_contI (sk_runS (As := [.int (-x_4), .int (M 47 ((a5 + (-1)) - 1).toNatClampNeg), .int (M 47 (a5 + (-1)).toNatClampNeg)]) (rest := [.int ((a5 + (-1)) - 1), .ref (sk_ad g 47)]) C (c_X3_join g l (-x_4) (M 47 ((a5 + (-1)) - 1).toNatClampNeg) (M 47 (a5 + (-1)).toNatClampNeg) M h_14) yo_X3_join kw_453 (by decide) hM hS hl.1 rfl rfl (Nat.le_of_ble_eq_true rfl) dX3_give_145) hS (fun H locs hM hS => ?_)
              obtain ⟨i_15, h⟩ := sk_chkE h
              refine sk_iast (o := 47) C hM hS rfl i_15 dX3_give_148 (fun M_16 eM_16 H locs hM hS => ?_)
              have h := sk_letU h eM_16
              refine lv_iinc (v := (a6 + 1)) (lv' := [(6, .int (a6 + 1)), (5, .int (a5 + (-1))), (7, .int x_4), (0, .ref (sk_ad g 42)), (1, .int a1), (2, .int a2), (3, .int a3), (4, .int a4)]) hx hb dX3_give_149 hl (k := 7) rfl rfl (by decide) rfl (fun ls hl => ?_)
              refine lv_goto hx hb dX3_give_152 rfl ?_
              exact ih (a5 + (-1)) (a6 + 1) M_16 _ _ _ (lv_sub hl [3, 4, 5, 6, 7, 1, 0] rfl) hM hS h kx
          · have h := sk_neg h hc
            refine lv_aload_n hx hb dX3_give_80 rfl (lv_at hl 1 rfl) ?_
            refine sk_getR (o := 42) (ci := 3) (j := 4) (t := 47) C hM rfl rfl (by decide) rfl rfl kw_101 dX3_give_81 ?_
            refine lv_iload hx hb dX3_give_84 (lv_at hl 6 rfl) ?_
            refine lv_iconst (v := 1) hx hb dX3_give_86 (by decide) ?_
            refine lv_isub hx hb dX3_give_87 ?_
            refine lv_aload_n hx hb dX3_give_88 rfl (lv_at hl 1 rfl) ?_
            refine sk_getR (o := 42) (ci := 3) (j := 4) (t := 47) C hM rfl rfl (by decide) rfl rfl kw_101 dX3_give_89 ?_
            refine lv_iload hx hb dX3_give_92 (lv_at hl 6 rfl) ?_
            refine lv_iconst (v := 1) hx hb dX3_give_94 (by decide) ?_
            refine lv_isub hx hb dX3_give_95 ?_
            obtain ⟨i_17, h⟩ := sk_chkE h
            refine sk_iald (o := 47) C hM rfl i_17 dX3_give_96 ?_
            have J : ∀ (vv : Int32) (H : Heap) (locs : List Loc), (if (M 47 (a5 - 1).toNatClampNeg) = 0 then 1 else 0 : Int32) = vv → sk_P g M H → va_S (sk_A g) s.heap H locs → W p l e (sk_rm 2) s m av below meth c H locs 0 0 (MQ below (sk_QI g rr MM) av s 0 0 (sk_A g)) (F0 m 105 ls [.int vv, .int (a5 - 1), .ref (sk_ad g 47)]) := by
              intro vv H locs hvv hM hS
              subst hvv
              obtain ⟨i_18, h⟩ := sk_chkE h
              refine sk_iast (o := 47) C hM hS rfl i_18 dX3_give_105 (fun M_19 eM_19 H locs hM hS => ?_)
              have h := sk_letU h eM_19
              refine lv_goto hx hb dX3_give_106 rfl ?_
              refine lv_iinc (v := (a6 + 1)) (lv' := [(6, .int (a6 + 1)), (7, .int x_4), (0, .ref (sk_ad g 42)), (1, .int a1), (2, .int a2), (3, .int a3), (4, .int a4), (5, .int a5)]) hx hb dX3_give_149 hl (k := 7) rfl rfl (by decide) rfl (fun ls hl => ?_)
              refine lv_goto hx hb dX3_give_152 rfl ?_
              exact ih a5 (a6 + 1) M_19 _ _ _ (lv_sub hl [2, 3, 4, 5, 6, 7, 0] rfl) hM hS h kx
            refine lv_if_ne hx hb dX3_give_97 rfl (fun hc => ?_) (fun hc => ?_)
            · have J := fun vv H locs q => J vv H locs ((if_neg hc).trans q)
              refine lv_iconst (v := 0) hx hb dX3_give_104 (by decide) ?_
              exact J _ _ _ rfl hM hS
            · have J := fun vv H locs q => J vv H locs ((if_pos hc).trans q)
              refine lv_iconst (v := 1) hx hb dX3_give_100 (by decide) ?_
              refine lv_goto hx hb dX3_give_101 rfl ?_
              exact J _ _ _ rfl hM hS
      · have h := sk_neg h hc
        refine lv_aload_n hx hb dX3_give_35 rfl (lv_at hl 1 rfl) ?_
        refine sk_getR (o := 42) (ci := 3) (j := 4) (t := 47) C hM rfl rfl (by decide) rfl rfl kw_101 dX3_give_36 ?_
        refine lv_iload hx hb dX3_give_39 (lv_at hl 6 rfl) ?_
        refine lv_iload hx hb dX3_give_41 (lv_at hl 0 rfl) ?_
        have J : ∀ (vv : Int32) (H : Heap) (locs : List Loc), (if x_4 < 0 then (f_X3_named x_4 a2 a3 a4) else x_4 : Int32) = vv → sk_P g M H → va_S (sk_A g) s.heap H locs → W p l e (sk_rm 2) s m av below meth c H locs 0 0 (MQ below (sk_QI g rr MM) av s 0 0 (sk_A g)) (F0 m 60 ls [.int vv, .int a5, .ref (sk_ad g 47)]) := by
          intro vv H locs hvv hM hS
          subst hvv
          obtain ⟨i_21, h⟩ := sk_chkE h
          refine sk_iast (o := 47) C hM hS rfl i_21 dX3_give_60 (fun M_22 eM_22 H locs hM hS => ?_)
          have h := sk_letU h eM_22
          refine lv_iinc (v := (a5 + 1)) (lv' := [(5, .int (a5 + 1)), (7, .int x_4), (0, .ref (sk_ad g 42)), (1, .int a1), (2, .int a2), (3, .int a3), (4, .int a4), (6, .int a6)]) hx hb dX3_give_61 hl (k := 6) rfl rfl (by decide) rfl (fun ls hl => ?_)
          refine lv_goto hx hb dX3_give_64 rfl ?_
          refine lv_iinc (v := (a6 + 1)) (lv' := [(6, .int (a6 + 1)), (5, .int (a5 + 1)), (7, .int x_4), (0, .ref (sk_ad g 42)), (1, .int a1), (2, .int a2), (3, .int a3), (4, .int a4)]) hx hb dX3_give_149 hl (k := 7) rfl rfl (by decide) rfl (fun ls hl => ?_)
          refine lv_goto hx hb dX3_give_152 rfl ?_
          exact ih (a5 + 1) (a6 + 1) M_22 _ _ _ (lv_sub hl [3, 4, 5, 6, 7, 1, 0] rfl) hM hS h kx
        refine lv_if_lt hx hb dX3_give_43 rfl (fun hc => ?_) (fun hc => ?_)
        · have J := fun vv H locs q => J vv H locs ((if_pos hc).trans q)
          refine lv_iload hx hb dX3_give_51 (lv_at hl 0 rfl) ?_
          refine lv_iload_n hx hb dX3_give_53 rfl (lv_at hl 3 rfl) ?_
          refine lv_iload_n hx hb dX3_give_54 rfl (lv_at hl 4 rfl) ?_
          refine lv_iload hx hb dX3_give_55 (lv_at hl 5 rfl) ?_
          refine sk_contI (sk_runS (As := [.int x_4, .int a2, .int a3, .int a4]) (rest := [.int a5, .ref (sk_ad g 47)]) C (c_X3_named g l x_4 a2 a3 a4 M rfl) yo_X3_named kw_450 (by decide) hM hS hl.1 rfl rfl (Nat.le_of_ble_eq_true rfl) dX3_give_57) hS (fun H locs hM hS => ?_)
          exact J _ _ _ rfl hM hS
        · have J := fun vv H locs q => J vv H locs ((if_neg hc).trans q)
          refine lv_iload hx hb dX3_give_46 (lv_at hl 0 rfl) ?_
          refine lv_goto hx hb dX3_give_48 rfl ?_
          exact J _ _ _ rfl hM hS
set_option maxHeartbeats 4000000 in
set_option maxRecDepth 100000 in
theorem c_X3_give (g : sk_G) (l : Launch) (a1 : Int32) (a2 : Int32) (a3 : Int32) (a4 : Int32) (M : sk_M) {rr : Int32} {MM : sk_M} (h : f_X3_give a1 a2 a3 a4 M = some (rr, MM)) : sk_MI g l yX3_give cX3_give 8 (some .int) 2 [.ref (sk_ad g 42), .int a1, .int a2, .int a3, .int a4] M rr MM := by
  refine sk_go [(0, .ref (sk_ad g 42)), (1, .int a1), (2, .int a2), (3, .int a3), (4, .int a4)] (by decide) (Nat.le_of_ble_eq_true rfl) rfl ?_
  intro p e s m av below meth c C ls hl hM hS
  obtain ⟨hx, hb, hml, hown, hts, hK, hE, hr, hlocks⟩ := id C
  rw [f_X3_give] at h
  refine lv_iconst (v := 0) hx hb dX3_give_0 (by decide) ?_
  refine lv_istore (lv' := [(5, .int 0), (0, .ref (sk_ad g 42)), (1, .int a1), (2, .int a2), (3, .int a3), (4, .int a4)]) hx hb dX3_give_1 hl (by decide) rfl (fun ls hl => ?_)
  refine lv_iconst (v := 0) hx hb dX3_give_3 (by decide) ?_
  refine lv_istore (lv' := [(6, .int 0), (5, .int 0), (0, .ref (sk_ad g 42)), (1, .int a1), (2, .int a2), (3, .int a3), (4, .int a4)]) hx hb dX3_give_4 hl (by decide) rfl (fun ls hl => ?_)
  obtain ⟨M_23, h_24, h⟩ := sk_b1E h
  refine w_X3_give_L6 C a1 a2 a3 a4 sk_FU 0 0 M _ _ _ (lv_sub hl [2, 3, 4, 5, 6, 1, 0] rfl) hM hS h_24 (fun y_25 H locs ls he hl hM hS => ?_)
  obtain rfl := Option.some.inj he
  refine lv_aload_n hx hb dX3_give_155 rfl (lv_at hl 0 rfl) ?_
  refine sk_getR (o := 42) (ci := 3) (j := 4) (t := 47) C hM rfl rfl (by decide) rfl rfl kw_101 dX3_give_156 ?_
  refine lv_iconst (v := 0) hx hb dX3_give_159 (by decide) ?_
  refine sk_iald (o := 47) C hM rfl (by decide) dX3_give_160 ?_
  refine W.eq (g2 := F0 m 161 ls [.int (y_25 47 0)]) rfl ?_
  exact sk_iret C hM hS (sk_e2 h) dX3_give_161
theorem dX4_begin_0 : decode cX4_begin 0 = .ok (.aload_n 0, 1) := by decide +kernel
theorem dX4_begin_1 : decode cX4_begin 1 = .ok (.getfield 15, 3) := by decide +kernel
theorem dX4_begin_4 : decode cX4_begin 4 = .ok (.getfield 19, 3) := by decide +kernel
theorem dX4_begin_7 : decode cX4_begin 7 = .ok (.iload_n 1, 1) := by decide +kernel
theorem dX4_begin_8 : decode cX4_begin 8 = .ok (.aaload, 1) := by decide +kernel
theorem dX4_begin_9 : decode cX4_begin 9 = .ok (.iconst 0, 1) := by decide +kernel
theorem dX4_begin_10 : decode cX4_begin 10 = .ok (.aload_n 0, 1) := by decide +kernel
theorem dX4_begin_11 : decode cX4_begin 11 = .ok (.getfield 9, 3) := by decide +kernel
theorem dX4_begin_14 : decode cX4_begin 14 = .ok (.iconst 0, 1) := by decide +kernel
theorem dX4_begin_15 : decode cX4_begin 15 = .ok (.bipush 9, 2) := by decide +kernel
theorem dX4_begin_17 : decode cX4_begin 17 = .ok (.invokestatic 25, 3) := by decide +kernel
theorem dX4_begin_20 : decode cX4_begin 20 = .ok (.aload_n 0, 1) := by decide +kernel
theorem dX4_begin_21 : decode cX4_begin 21 = .ok (.aload_n 0, 1) := by decide +kernel
theorem dX4_begin_22 : decode cX4_begin 22 = .ok (.getfield 15, 3) := by decide +kernel
theorem dX4_begin_25 : decode cX4_begin 25 = .ok (.getfield 31, 3) := by decide +kernel
theorem dX4_begin_28 : decode cX4_begin 28 = .ok (.iload_n 1, 1) := by decide +kernel
theorem dX4_begin_29 : decode cX4_begin 29 = .ok (.iaload, 1) := by decide +kernel
theorem dX4_begin_30 : decode cX4_begin 30 = .ok (.putfield 34, 3) := by decide +kernel
theorem dX4_begin_33 : decode cX4_begin 33 = .ok (.aload_n 0, 1) := by decide +kernel
theorem dX4_begin_34 : decode cX4_begin 34 = .ok (.aload_n 0, 1) := by decide +kernel
theorem dX4_begin_35 : decode cX4_begin 35 = .ok (.getfield 15, 3) := by decide +kernel
theorem dX4_begin_38 : decode cX4_begin 38 = .ok (.getfield 38, 3) := by decide +kernel
theorem dX4_begin_41 : decode cX4_begin 41 = .ok (.putfield 41, 3) := by decide +kernel
theorem dX4_begin_44 : decode cX4_begin 44 = .ok (.return_, 1) := by decide +kernel
set_option maxHeartbeats 4000000 in
set_option maxRecDepth 100000 in
theorem c_X4_begin (g : sk_G) (l : Launch) (o0 : Nat) (q0 : sk_isT o0) (a1 : Int32) (M : sk_M) {MM : sk_M} (h : f_X4_begin o0 a1 M = some MM) : sk_MV g l yX4_begin cX4_begin 2 none 1 [.ref (sk_ad g o0), .int a1] M MM := by
  refine sk_go [(0, .ref (sk_ad g o0)), (1, .int a1)] (by decide) (Nat.le_of_ble_eq_true rfl) rfl ?_
  intro p e s m av below meth c C ls hl hM hS
  obtain ⟨hx, hb, hml, hown, hts, hK, hE, hr, hlocks⟩ := id C
  rw [f_X4_begin] at h
  refine lv_aload_n hx hb dX4_begin_0 rfl (lv_at hl 0 rfl) ?_
  refine sk_getR (o := o0) (ci := 4) (j := 0) (t := (sk_tw o0)) C hM (sk_isT_kd q0) rfl (by decide) rfl (sk_isT_r0 q0) kw_237 dX4_begin_1 ?_
  refine sk_getR (o := (sk_tw o0)) (ci := 5) (j := 7) (t := ((sk_tw o0) + 7)) C hM (sk_isW_kd (sk_isT_w q0)) rfl (by decide) rfl (sk_isW_r (sk_isT_w q0) 7 (by decide) (by decide)) kw_180 dX4_begin_4 ?_
  refine lv_iload_n hx hb dX4_begin_7 rfl (lv_at hl 1 rfl) ?_
  obtain ⟨i_1, h⟩ := sk_chkE h
  refine sk_aald (o := ((sk_tw o0) + 7)) (k := 0) (t := ((sk_tw o0) + 10 + a1.toNatClampNeg)) C hM (sk_isW_k7 (sk_isT_w q0)) (by decide) i_1 (sk_isW_s (sk_isT_w q0) _) dX4_begin_8 ?_
  refine lv_iconst (v := 0) hx hb dX4_begin_9 (by decide) ?_
  refine lv_aload_n hx hb dX4_begin_10 rfl (lv_at hl 0 rfl) ?_
  refine sk_getR (o := o0) (ci := 4) (j := 1) (t := (o0 + 1)) C hM (sk_isT_kd q0) rfl (by decide) rfl (sk_isT_r1 q0) kw_238 dX4_begin_11 ?_
  refine lv_iconst (v := 0) hx hb dX4_begin_14 (by decide) ?_
  refine lv_bipush (v := 9) hx hb dX4_begin_15 (by decide) ?_
  refine sk_copy (d := 1) (o0 := ((sk_tw o0) + 10 + a1.toNatClampNeg)) (o1 := (o0 + 1)) C hl.1 sk_wcopy kw_522 (by decide) (Nat.le_of_ble_eq_true rfl) hM hS (sk_isW_sk (sk_isT_w q0) (sk_in_lt i_1)) (sk_isT_k1 q0) (by decide) (by decide) dX4_begin_17 (fun M_2 eM_2 H locs hM hS => ?_)
  have h := sk_letU h eM_2
  refine lv_aload_n hx hb dX4_begin_20 rfl (lv_at hl 0 rfl) ?_
  refine lv_aload_n hx hb dX4_begin_21 rfl (lv_at hl 0 rfl) ?_
  refine sk_getR (o := o0) (ci := 4) (j := 0) (t := (sk_tw o0)) C hM (sk_isT_kd q0) rfl (by decide) rfl (sk_isT_r0 q0) kw_237 dX4_begin_22 ?_
  refine sk_getR (o := (sk_tw o0)) (ci := 5) (j := 6) (t := ((sk_tw o0) + 6)) C hM (sk_isW_kd (sk_isT_w q0)) rfl (by decide) rfl (sk_isW_r (sk_isT_w q0) 6 (by decide) (by decide)) kw_177 dX4_begin_25 ?_
  refine lv_iload_n hx hb dX4_begin_28 rfl (lv_at hl 1 rfl) ?_
  obtain ⟨i_3, h⟩ := sk_chkE h
  refine sk_iald (o := ((sk_tw o0) + 6)) C hM (sk_isW_k6 (sk_isT_w q0)) i_3 dX4_begin_29 ?_
  refine sk_putI (o := o0) (ci := 4) (j := 2) C hM hS (sk_isT_kd q0) rfl (by decide) rfl rfl (tyX4_ok 2 (by decide)) kw_239 dX4_begin_30 (fun M_4 eM_4 H locs hM hS => ?_)
  have h := sk_letU h eM_4
  refine lv_aload_n hx hb dX4_begin_33 rfl (lv_at hl 0 rfl) ?_
  refine lv_aload_n hx hb dX4_begin_34 rfl (lv_at hl 0 rfl) ?_
  refine sk_getR (o := o0) (ci := 4) (j := 0) (t := (sk_tw o0)) C hM (sk_isT_kd q0) rfl (by decide) rfl (sk_isT_r0 q0) kw_237 dX4_begin_35 ?_
  refine sk_getI (o := (sk_tw o0)) (ci := 5) (j := 14) C hM (sk_isW_kd (sk_isT_w q0)) rfl (by decide) rfl kw_193 dX4_begin_38 ?_
  refine sk_putI (o := o0) (ci := 4) (j := 3) C hM hS (sk_isT_kd q0) rfl (by decide) rfl rfl (tyX4_ok 3 (by decide)) kw_240 dX4_begin_41 (fun M_5 eM_5 H locs hM hS => ?_)
  have h := sk_letU h eM_5
  exact sk_vret C hM hS (Option.some.inj h) dX4_begin_44
theorem dX5_loss_0 : decode cX5_loss 0 = .ok (.aload_n 0, 1) := by decide +kernel
theorem dX5_loss_1 : decode cX5_loss 1 = .ok (.getfield 15, 3) := by decide +kernel
theorem dX5_loss_4 : decode cX5_loss 4 = .ok (.iload_n 1, 1) := by decide +kernel
theorem dX5_loss_5 : decode cX5_loss 5 = .ok (.iaload, 1) := by decide +kernel
theorem dX5_loss_6 : decode cX5_loss 6 = .ok (.istore 5, 2) := by decide +kernel
theorem dX5_loss_8 : decode cX5_loss 8 = .ok (.aload_n 0, 1) := by decide +kernel
theorem dX5_loss_9 : decode cX5_loss 9 = .ok (.getfield 35, 3) := by decide +kernel
theorem dX5_loss_12 : decode cX5_loss 12 = .ok (.iconst 0, 1) := by decide +kernel
theorem dX5_loss_13 : decode cX5_loss 13 = .ok (.iaload, 1) := by decide +kernel
theorem dX5_loss_14 : decode cX5_loss 14 = .ok (.istore 6, 2) := by decide +kernel
theorem dX5_loss_16 : decode cX5_loss 16 = .ok (.iload 6, 2) := by decide +kernel
theorem dX5_loss_18 : decode cX5_loss 18 = .ok (.ldc 51, 2) := by decide +kernel
theorem dX5_loss_20 : decode cX5_loss 20 = .ok (.if_icmp .ne 17, 3) := by decide +kernel
theorem dX5_loss_23 : decode cX5_loss 23 = .ok (.iload_n 2, 1) := by decide +kernel
theorem dX5_loss_24 : decode cX5_loss 24 = .ok (.iload 5, 2) := by decide +kernel
theorem dX5_loss_26 : decode cX5_loss 26 = .ok (.iload_n 3, 1) := by decide +kernel
theorem dX5_loss_27 : decode cX5_loss 27 = .ok (.iadd, 1) := by decide +kernel
theorem dX5_loss_28 : decode cX5_loss 28 = .ok (.imul, 1) := by decide +kernel
theorem dX5_loss_29 : decode cX5_loss 29 = .ok (.bipush 100, 2) := by decide +kernel
theorem dX5_loss_31 : decode cX5_loss 31 = .ok (.idiv, 1) := by decide +kernel
theorem dX5_loss_32 : decode cX5_loss 32 = .ok (.iconst 1, 1) := by decide +kernel
theorem dX5_loss_33 : decode cX5_loss 33 = .ok (.iadd, 1) := by decide +kernel
theorem dX5_loss_34 : decode cX5_loss 34 = .ok (.goto 16, 3) := by decide +kernel
theorem dX5_loss_37 : decode cX5_loss 37 = .ok (.aload_n 0, 1) := by decide +kernel
theorem dX5_loss_38 : decode cX5_loss 38 = .ok (.getfield 41, 3) := by decide +kernel
theorem dX5_loss_41 : decode cX5_loss 41 = .ok (.iload 6, 2) := by decide +kernel
theorem dX5_loss_43 : decode cX5_loss 43 = .ok (.iload_n 2, 1) := by decide +kernel
theorem dX5_loss_44 : decode cX5_loss 44 = .ok (.iload 5, 2) := by decide +kernel
theorem dX5_loss_46 : decode cX5_loss 46 = .ok (.iload_n 3, 1) := by decide +kernel
theorem dX5_loss_47 : decode cX5_loss 47 = .ok (.invokevirtual 79, 3) := by decide +kernel
theorem dX5_loss_50 : decode cX5_loss 50 = .ok (.istore 7, 2) := by decide +kernel
theorem dX5_loss_52 : decode cX5_loss 52 = .ok (.iconst 0, 1) := by decide +kernel
theorem dX5_loss_53 : decode cX5_loss 53 = .ok (.iload_n 2, 1) := by decide +kernel
theorem dX5_loss_54 : decode cX5_loss 54 = .ok (.iload 7, 2) := by decide +kernel
theorem dX5_loss_56 : decode cX5_loss 56 = .ok (.invokestatic 85, 3) := by decide +kernel
theorem dX5_loss_59 : decode cX5_loss 59 = .ok (.invokestatic 91, 3) := by decide +kernel
theorem dX5_loss_62 : decode cX5_loss 62 = .ok (.istore 8, 2) := by decide +kernel
theorem dX5_loss_64 : decode cX5_loss 64 = .ok (.iload_n 2, 1) := by decide +kernel
theorem dX5_loss_65 : decode cX5_loss 65 = .ok (.iload 8, 2) := by decide +kernel
theorem dX5_loss_67 : decode cX5_loss 67 = .ok (.iload 5, 2) := by decide +kernel
theorem dX5_loss_69 : decode cX5_loss 69 = .ok (.iadd, 1) := by decide +kernel
theorem dX5_loss_70 : decode cX5_loss 70 = .ok (.invokestatic 85, 3) := by decide +kernel
theorem dX5_loss_73 : decode cX5_loss 73 = .ok (.istore 9, 2) := by decide +kernel
theorem dX5_loss_75 : decode cX5_loss 75 = .ok (.aload_n 0, 1) := by decide +kernel
theorem dX5_loss_76 : decode cX5_loss 76 = .ok (.getfield 9, 3) := by decide +kernel
theorem dX5_loss_79 : decode cX5_loss 79 = .ok (.iload_n 1, 1) := by decide +kernel
theorem dX5_loss_80 : decode cX5_loss 80 = .ok (.iaload, 1) := by decide +kernel
theorem dX5_loss_81 : decode cX5_loss 81 = .ok (.tableswitch 78 1 5 #[35, 51, 40, 54, 63], 35) := by decide +kernel
theorem dX5_loss_116 : decode cX5_loss 116 = .ok (.iload 8, 2) := by decide +kernel
theorem dX5_loss_118 : decode cX5_loss 118 = .ok (.iconst 2, 1) := by decide +kernel
theorem dX5_loss_119 : decode cX5_loss 119 = .ok (.idiv, 1) := by decide +kernel
theorem dX5_loss_120 : decode cX5_loss 120 = .ok (.ireturn, 1) := by decide +kernel
theorem dX5_loss_121 : decode cX5_loss 121 = .ok (.iconst 0, 1) := by decide +kernel
theorem dX5_loss_122 : decode cX5_loss 122 = .ok (.iload 8, 2) := by decide +kernel
theorem dX5_loss_124 : decode cX5_loss 124 = .ok (.iconst 2, 1) := by decide +kernel
theorem dX5_loss_125 : decode cX5_loss 125 = .ok (.idiv, 1) := by decide +kernel
theorem dX5_loss_126 : decode cX5_loss 126 = .ok (.iconst 1, 1) := by decide +kernel
theorem dX5_loss_127 : decode cX5_loss 127 = .ok (.isub, 1) := by decide +kernel
theorem dX5_loss_128 : decode cX5_loss 128 = .ok (.invokestatic 91, 3) := by decide +kernel
theorem dX5_loss_131 : decode cX5_loss 131 = .ok (.ireturn, 1) := by decide +kernel
theorem dX5_loss_132 : decode cX5_loss 132 = .ok (.iload 9, 2) := by decide +kernel
theorem dX5_loss_134 : decode cX5_loss 134 = .ok (.ireturn, 1) := by decide +kernel
theorem dX5_loss_135 : decode cX5_loss 135 = .ok (.iload_n 2, 1) := by decide +kernel
theorem dX5_loss_136 : decode cX5_loss 136 = .ok (.iconst 2, 1) := by decide +kernel
theorem dX5_loss_137 : decode cX5_loss 137 = .ok (.iload 9, 2) := by decide +kernel
theorem dX5_loss_139 : decode cX5_loss 139 = .ok (.imul, 1) := by decide +kernel
theorem dX5_loss_140 : decode cX5_loss 140 = .ok (.invokestatic 85, 3) := by decide +kernel
theorem dX5_loss_143 : decode cX5_loss 143 = .ok (.ireturn, 1) := by decide +kernel
theorem dX5_loss_144 : decode cX5_loss 144 = .ok (.iload 4, 2) := by decide +kernel
theorem dX5_loss_146 : decode cX5_loss 146 = .ok (.iconst 2, 1) := by decide +kernel
theorem dX5_loss_147 : decode cX5_loss 147 = .ok (.irem, 1) := by decide +kernel
theorem dX5_loss_148 : decode cX5_loss 148 = .ok (.iconst 1, 1) := by decide +kernel
theorem dX5_loss_149 : decode cX5_loss 149 = .ok (.if_icmp .ne 8, 3) := by decide +kernel
theorem dX5_loss_152 : decode cX5_loss 152 = .ok (.iload 8, 2) := by decide +kernel
theorem dX5_loss_154 : decode cX5_loss 154 = .ok (.goto 4, 3) := by decide +kernel
theorem dX5_loss_157 : decode cX5_loss 157 = .ok (.iconst 0, 1) := by decide +kernel
theorem dX5_loss_158 : decode cX5_loss 158 = .ok (.ireturn, 1) := by decide +kernel
theorem dX5_loss_159 : decode cX5_loss 159 = .ok (.iload 8, 2) := by decide +kernel
theorem dX5_loss_161 : decode cX5_loss 161 = .ok (.ireturn, 1) := by decide +kernel
set_option maxHeartbeats 4000000 in
set_option maxRecDepth 100000 in
theorem c_X5_loss (g : sk_G) (l : Launch) (o0 : Nat) (q0 : sk_isW o0) (a1 : Int32) (a2 : Int32) (a3 : Int32) (a4 : Int32) (M : sk_M) {rr : Int32} {MM : sk_M} (h : f_X5_loss o0 a1 a2 a3 a4 M = some (rr, MM)) : sk_MI g l yX5_loss cX5_loss 10 (some .int) 3 [.ref (sk_ad g o0), .int a1, .int a2, .int a3, .int a4] M rr MM := by
  refine sk_go [(0, .ref (sk_ad g o0)), (1, .int a1), (2, .int a2), (3, .int a3), (4, .int a4)] (by decide) (Nat.le_of_ble_eq_true rfl) rfl ?_
  intro p e s m av below meth c C ls hl hM hS
  obtain ⟨hx, hb, hml, hown, hts, hK, hE, hr, hlocks⟩ := id C
  rw [f_X5_loss] at h
  refine lv_aload_n hx hb dX5_loss_0 rfl (lv_at hl 0 rfl) ?_
  refine sk_getR (o := o0) (ci := 5) (j := 2) (t := (o0 + 2)) C hM (sk_isW_kd q0) rfl (by decide) rfl (sk_isW_r q0 2 (by decide) (by decide)) kw_168 dX5_loss_1 ?_
  refine lv_iload_n hx hb dX5_loss_4 rfl (lv_at hl 1 rfl) ?_
  obtain ⟨i_1, h⟩ := sk_chkE h
  refine sk_iald (o := (o0 + 2)) C hM (sk_isW_k2 q0) i_1 dX5_loss_5 ?_
  refine lv_topi (fun x_2 ex_2 => ?_)
  have h := sk_letU h ex_2
  refine lv_istore (lv' := [(5, .int x_2), (0, .ref (sk_ad g o0)), (1, .int a1), (2, .int a2), (3, .int a3), (4, .int a4)]) hx hb dX5_loss_6 hl (by decide) rfl (fun ls hl => ?_)
  refine lv_aload_n hx hb dX5_loss_8 rfl (lv_at hl 1 rfl) ?_
  refine sk_getR (o := o0) (ci := 5) (j := 8) (t := (o0 + 8)) C hM (sk_isW_kd q0) rfl (by decide) rfl (sk_isW_r q0 8 (by decide) (by decide)) kw_182 dX5_loss_9 ?_
  refine lv_iconst (v := 0) hx hb dX5_loss_12 (by decide) ?_
  refine sk_iald (o := (o0 + 8)) C hM (sk_isW_k8 q0) (by decide) dX5_loss_13 ?_
  refine W.eq (g2 := F0 m 14 ls [.int (M (o0 + 8) 0)]) rfl ?_
  refine lv_topi (fun x_3 ex_3 => ?_)
  have h := sk_letU h ex_3
  refine lv_istore (lv' := [(6, .int x_3), (5, .int x_2), (0, .ref (sk_ad g o0)), (1, .int a1), (2, .int a2), (3, .int a3), (4, .int a4)]) hx hb dX5_loss_14 hl (by decide) rfl (fun ls hl => ?_)
  refine lv_iload hx hb dX5_loss_16 (lv_at hl 0 rfl) ?_
  refine lv_ldc (v := (-1000000005)) hx hb hown (hts _ kw_164) dX5_loss_18 ?_
  obtain ⟨y0_4, y1_4, h_4, kg_4⟩ := sk_b2E h
  have J_4 : ∀ (x_8 : Int32) (M_9 : sk_M) (H : Heap) (locs : List Loc) (ls : Array Slot), some (x_8, M_9) = some (y0_4, y1_4) → lv_has ls 10 [(0, .ref (sk_ad g o0)), (1, .int a1), (2, .int a2), (4, .int a4), (5, .int x_2)] → sk_P g M_9 H → va_S (sk_A g) s.heap H locs → W p l e (sk_rm 3) s m av below meth c H locs 0 0 (MQ below (sk_QI g rr MM) av s 0 0 (sk_A g)) (F0 m 50 ls [.int x_8]) := by
    intro x_8 M_9 H locs ls he hl hM hS
    obtain ⟨rfl, rfl⟩ := sk_e2 he
    have h := kg_4
    refine lv_istore (lv' := [(7, .int x_8), (0, .ref (sk_ad g o0)), (1, .int a1), (2, .int a2), (4, .int a4), (5, .int x_2)]) hx hb dX5_loss_50 hl (by decide) rfl (fun ls hl => ?_)
    refine lv_iconst (v := 0) hx hb dX5_loss_52 (by decide) ?_
    refine lv_iload_n hx hb dX5_loss_53 rfl (lv_at hl 3 rfl) ?_
    refine lv_iload hx hb dX5_loss_54 (lv_at hl 0 rfl) ?_
    refine sk_mmin (d := 3) C hl.1 sk_wmin kw_456 (by decide) (Nat.le_of_ble_eq_true rfl) dX5_loss_56 ?_
    refine sk_mmax (d := 3) C hl.1 sk_wmax kw_457 (by decide) (Nat.le_of_ble_eq_true rfl) dX5_loss_59 ?_
    refine lv_topi (fun x_10 ex_10 => ?_)
    have h := sk_letU h ex_10
    refine lv_istore (lv' := [(8, .int x_10), (7, .int x_8), (0, .ref (sk_ad g o0)), (1, .int a1), (2, .int a2), (4, .int a4), (5, .int x_2)]) hx hb dX5_loss_62 hl (by decide) rfl (fun ls hl => ?_)
    refine lv_iload_n hx hb dX5_loss_64 rfl (lv_at hl 4 rfl) ?_
    refine lv_iload hx hb dX5_loss_65 (lv_at hl 0 rfl) ?_
    refine lv_iload hx hb dX5_loss_67 (lv_at hl 6 rfl) ?_
    refine lv_iadd hx hb dX5_loss_69 ?_
    refine sk_mmin (d := 3) C hl.1 sk_wmin kw_456 (by decide) (Nat.le_of_ble_eq_true rfl) dX5_loss_70 ?_
    refine lv_topi (fun x_11 ex_11 => ?_)
    have h := sk_letU h ex_11
    refine lv_istore (lv' := [(9, .int x_11), (8, .int x_10), (7, .int x_8), (0, .ref (sk_ad g o0)), (1, .int a1), (2, .int a2), (4, .int a4), (5, .int x_2)]) hx hb dX5_loss_73 hl (by decide) rfl (fun ls hl => ?_)
    refine lv_aload_n hx hb dX5_loss_75 rfl (lv_at hl 3 rfl) ?_
    refine sk_getR (o := o0) (ci := 5) (j := 1) (t := (o0 + 1)) C hM (sk_isW_kd q0) rfl (by decide) rfl (sk_isW_r q0 1 (by decide) (by decide)) kw_166 dX5_loss_76 ?_
    refine lv_iload_n hx hb dX5_loss_79 rfl (lv_at hl 4 rfl) ?_
    obtain ⟨i_12, h⟩ := sk_chkE h
    refine sk_iald (o := (o0 + 1)) C hM (sk_isW_k1 q0) i_12 dX5_loss_80 ?_
    by_cases hk_13 : (M_9 (o0 + 1) a1.toNatClampNeg) = 1
    · refine lv_tableIn (off := 35) hx hb dX5_loss_81 (by rw [hk_13]; decide) (by rw [hk_13]; decide) (by rw [hk_13]; rfl) rfl ?_
      have h := sk_pos h hk_13
      refine lv_iload hx hb dX5_loss_116 (lv_at hl 1 rfl) ?_
      refine lv_iconst (v := 2) hx hb dX5_loss_118 (by decide) ?_
      refine lv_idiv hx hb dX5_loss_119 (by decide) ?_
      exact sk_iret C hM hS (sk_e2 h) dX5_loss_120
    have h := sk_neg h hk_13
    by_cases hk_14 : (M_9 (o0 + 1) a1.toNatClampNeg) = 2
    · refine lv_tableIn (off := 51) hx hb dX5_loss_81 (by rw [hk_14]; decide) (by rw [hk_14]; decide) (by rw [hk_14]; rfl) rfl ?_
      have h := sk_pos h hk_14
      refine lv_iload hx hb dX5_loss_132 (lv_at hl 0 rfl) ?_
      exact sk_iret C hM hS (sk_e2 h) dX5_loss_134
    have h := sk_neg h hk_14
    by_cases hk_16 : (M_9 (o0 + 1) a1.toNatClampNeg) = 3
    · refine lv_tableIn (off := 40) hx hb dX5_loss_81 (by rw [hk_16]; decide) (by rw [hk_16]; decide) (by rw [hk_16]; rfl) rfl ?_
      have h := sk_pos h hk_16
      refine lv_iconst (v := 0) hx hb dX5_loss_121 (by decide) ?_
      refine lv_iload hx hb dX5_loss_122 (lv_at hl 1 rfl) ?_
      refine lv_iconst (v := 2) hx hb dX5_loss_124 (by decide) ?_
      refine lv_idiv hx hb dX5_loss_125 (by decide) ?_
      refine lv_iconst (v := 1) hx hb dX5_loss_126 (by decide) ?_
      refine lv_isub hx hb dX5_loss_127 ?_
      refine sk_mmax (d := 3) C hl.1 sk_wmax kw_457 (by decide) (Nat.le_of_ble_eq_true rfl) dX5_loss_128 ?_
      refine lv_topi (fun x_15 ex_15 => ?_)
      have h := sk_letU h ex_15
      exact sk_iret C hM hS (sk_e2 h) dX5_loss_131
    have h := sk_neg h hk_16
    by_cases hk_18 : (M_9 (o0 + 1) a1.toNatClampNeg) = 4
    · refine lv_tableIn (off := 54) hx hb dX5_loss_81 (by rw [hk_18]; decide) (by rw [hk_18]; decide) (by rw [hk_18]; rfl) rfl ?_
      have h := sk_pos h hk_18
      refine lv_iload_n hx hb dX5_loss_135 rfl (lv_at hl 5 rfl) ?_
      refine lv_iconst (v := 2) hx hb dX5_loss_136 (by decide) ?_
      refine lv_iload hx hb dX5_loss_137 (lv_at hl 0 rfl) ?_
      refine lv_imul hx hb dX5_loss_139 ?_
      refine sk_mmin (d := 3) C hl.1 sk_wmin kw_456 (by decide) (Nat.le_of_ble_eq_true rfl) dX5_loss_140 ?_
      refine lv_topi (fun x_17 ex_17 => ?_)
      have h := sk_letU h ex_17
      exact sk_iret C hM hS (sk_e2 h) dX5_loss_143
    have h := sk_neg h hk_18
    by_cases hk_19 : (M_9 (o0 + 1) a1.toNatClampNeg) = 5
    · refine lv_tableIn (off := 63) hx hb dX5_loss_81 (by rw [hk_19]; decide) (by rw [hk_19]; decide) (by rw [hk_19]; rfl) rfl ?_
      have h := sk_pos h hk_19
      refine lv_iload hx hb dX5_loss_144 (lv_at hl 6 rfl) ?_
      refine lv_iconst (v := 2) hx hb dX5_loss_146 (by decide) ?_
      refine lv_irem hx hb dX5_loss_147 (by decide) ?_
      refine lv_iconst (v := 1) hx hb dX5_loss_148 (by decide) ?_
      have J : ∀ (vv : Int32) (H : Heap) (locs : List Loc), (if (a4 - a4 / 2 * 2) = 1 then x_10 else 0 : Int32) = vv → sk_P g M_9 H → va_S (sk_A g) s.heap H locs → W p l e (sk_rm 3) s m av below meth c H locs 0 0 (MQ below (sk_QI g rr MM) av s 0 0 (sk_A g)) (F0 m 158 ls [.int vv]) := by
        intro vv H locs hvv hM hS
        subst hvv
        exact sk_iret C hM hS (sk_e2 h) dX5_loss_158
      refine lv_icmp_ne hx hb dX5_loss_149 rfl (fun hc => ?_) (fun hc => ?_)
      · have J := fun vv H locs q => J vv H locs ((if_neg hc).trans q)
        refine lv_iconst (v := 0) hx hb dX5_loss_157 (by decide) ?_
        exact J _ _ _ rfl hM hS
      · have J := fun vv H locs q => J vv H locs ((if_pos hc).trans q)
        refine lv_iload hx hb dX5_loss_152 (lv_at hl 1 rfl) ?_
        refine lv_goto hx hb dX5_loss_154 rfl ?_
        exact J _ _ _ rfl hM hS
    have h := sk_neg h hk_19
    refine lv_tableOut hx hb dX5_loss_81 (by have zhk_13 := sk_tn hk_13 (z := 1) rfl; have zhk_14 := sk_tn hk_14 (z := 2) rfl; have zhk_16 := sk_tn hk_16 (z := 3) rfl; have zhk_18 := sk_tn hk_18 (z := 4) rfl; have zhk_19 := sk_tn hk_19 (z := 5) rfl; omega) rfl ?_
    refine lv_iload hx hb dX5_loss_159 (lv_at hl 1 rfl) ?_
    exact sk_iret C hM hS (sk_e2 h) dX5_loss_161
  have h := h_4
  refine lv_icmp_ne hx hb dX5_loss_20 rfl (fun hc => ?_) (fun hc => ?_)
  · have h := sk_neg h hc
    refine lv_aload_n hx hb dX5_loss_37 rfl (lv_at hl 2 rfl) ?_
    refine sk_getR (o := o0) (ci := 5) (j := 0) (t := 42) C hM (sk_isW_kd q0) rfl (by decide) rfl (sk_isW_r0 q0) kw_165 dX5_loss_38 ?_
    refine lv_iload hx hb dX5_loss_41 (lv_at hl 0 rfl) ?_
    refine lv_iload_n hx hb dX5_loss_43 rfl (lv_at hl 4 rfl) ?_
    refine lv_iload hx hb dX5_loss_44 (lv_at hl 1 rfl) ?_
    refine lv_iload_n hx hb dX5_loss_46 rfl (lv_at hl 5 rfl) ?_
    obtain ⟨x_5, M_6, h_7, h⟩ := sk_b2E h
    refine sk_contI (sk_runV (As := [.int x_3, .int a2, .int x_2, .int a3]) (rest := []) C (c_X3_give g l x_3 a2 x_2 a3 M h_7) yo_X3_give kw_446 (sk_recv (ci := 3) C hM rfl rfl) (by decide) hM hS hl.1 rfl rfl (Nat.le_of_ble_eq_true rfl) dX5_loss_47) hS (fun H locs hM hS => ?_)
    exact J_4 _ _ _ _ _ h (lv_sub hl [2, 3, 4, 6, 1] rfl) hM hS
  · have h := sk_pos h hc
    refine lv_iload_n hx hb dX5_loss_23 rfl (lv_at hl 4 rfl) ?_
    refine lv_iload hx hb dX5_loss_24 (lv_at hl 1 rfl) ?_
    refine lv_iload_n hx hb dX5_loss_26 rfl (lv_at hl 5 rfl) ?_
    refine lv_iadd hx hb dX5_loss_27 ?_
    refine lv_imul hx hb dX5_loss_28 ?_
    refine lv_bipush (v := 100) hx hb dX5_loss_29 (by decide) ?_
    refine lv_idiv hx hb dX5_loss_31 (by decide) ?_
    refine lv_iconst (v := 1) hx hb dX5_loss_32 (by decide) ?_
    refine lv_iadd hx hb dX5_loss_33 ?_
    refine lv_goto hx hb dX5_loss_34 rfl ?_
    exact J_4 _ _ _ _ _ h (lv_sub hl [2, 3, 4, 6, 1] rfl) hM hS
theorem dX5_fadeRow_0 : decode cX5_fadeRow 0 = .ok (.iconst 0, 1) := by decide +kernel
theorem dX5_fadeRow_1 : decode cX5_fadeRow 1 = .ok (.istore 4, 2) := by decide +kernel
theorem dX5_fadeRow_3 : decode cX5_fadeRow 3 = .ok (.iload 4, 2) := by decide +kernel
theorem dX5_fadeRow_5 : decode cX5_fadeRow 5 = .ok (.aload_n 0, 1) := by decide +kernel
theorem dX5_fadeRow_6 : decode cX5_fadeRow 6 = .ok (.getfield 62, 3) := by decide +kernel
theorem dX5_fadeRow_9 : decode cX5_fadeRow 9 = .ok (.if_icmp .ge 28, 3) := by decide +kernel
theorem dX5_fadeRow_12 : decode cX5_fadeRow 12 = .ok (.aload_n 1, 1) := by decide +kernel
theorem dX5_fadeRow_13 : decode cX5_fadeRow 13 = .ok (.iload 4, 2) := by decide +kernel
theorem dX5_fadeRow_15 : decode cX5_fadeRow 15 = .ok (.dup2, 1) := by decide +kernel
theorem dX5_fadeRow_16 : decode cX5_fadeRow 16 = .ok (.iaload, 1) := by decide +kernel
theorem dX5_fadeRow_17 : decode cX5_fadeRow 17 = .ok (.aload_n 0, 1) := by decide +kernel
theorem dX5_fadeRow_18 : decode cX5_fadeRow 18 = .ok (.iload 4, 2) := by decide +kernel
theorem dX5_fadeRow_20 : decode cX5_fadeRow 20 = .ok (.aload_n 1, 1) := by decide +kernel
theorem dX5_fadeRow_21 : decode cX5_fadeRow 21 = .ok (.iload 4, 2) := by decide +kernel
theorem dX5_fadeRow_23 : decode cX5_fadeRow 23 = .ok (.iaload, 1) := by decide +kernel
theorem dX5_fadeRow_24 : decode cX5_fadeRow 24 = .ok (.iload_n 2, 1) := by decide +kernel
theorem dX5_fadeRow_25 : decode cX5_fadeRow 25 = .ok (.iload_n 3, 1) := by decide +kernel
theorem dX5_fadeRow_26 : decode cX5_fadeRow 26 = .ok (.invokevirtual 94, 3) := by decide +kernel
theorem dX5_fadeRow_29 : decode cX5_fadeRow 29 = .ok (.isub, 1) := by decide +kernel
theorem dX5_fadeRow_30 : decode cX5_fadeRow 30 = .ok (.iastore, 1) := by decide +kernel
theorem dX5_fadeRow_31 : decode cX5_fadeRow 31 = .ok (.iinc 4 1, 3) := by decide +kernel
theorem dX5_fadeRow_34 : decode cX5_fadeRow 34 = .ok (.goto (-31), 3) := by decide +kernel
theorem dX5_fadeRow_37 : decode cX5_fadeRow 37 = .ok (.return_, 1) := by decide +kernel
set_option maxHeartbeats 4000000 in
set_option maxRecDepth 100000 in
theorem w_X5_fadeRow_L3 {g : sk_G} {l : Launch} {p : Program} {e : Env} {s : State} {m : MethodId} {av : Array Value} {below : List Frame} {meth : Method} {c : Code} (C : sk_C g p s m av meth c cX5_fadeRow 5 RX5 none) (o0 : Nat) (q0 : sk_isW o0) (o1 : Nat) (q1 : sk_kd o1 = (0, 9)) (a2 : Int32) (a3 : Int32) {MM : sk_M} :
    ∀ (n : Nat) (a4 : Int32) (M : sk_M) (H : Heap) (locs : List Loc) (ls : Array Slot), lv_has ls 5 [(0, .ref (sk_ad g o0)), (1, .ref (sk_ad g o1)), (2, .int a2), (3, .int a3), (4, .int a4)] → sk_P g M H → va_S (sk_A g) s.heap H locs → ∀ {out : sk_M}, f_X5_fadeRow_L3 o0 o1 a2 a3 n a4 M = some out → (∀ (M1 : sk_M) (H : Heap) (locs : List Loc) (ls : Array Slot), some M1 = some out → lv_has ls 5 [] → sk_P g M1 H → va_S (sk_A g) s.heap H locs → W p l e (sk_rm 4) s m av below meth c H locs 0 0 (MQ below (sk_QV g MM) av s 0 0 (sk_A g)) (F0 m 37 ls [])) → W p l e (sk_rm 4) s m av below meth c H locs 0 0 (MQ below (sk_QV g MM) av s 0 0 (sk_A g)) (F0 m 3 ls []) := by
  obtain ⟨hx, hb, hml, hown, hts, hK, hE, hr, hlocks⟩ := id C
  intro n
  induction n with
  | zero =>
    intro a4 M H locs ls hl hM hS out h
    cases h
  | succ n ih =>
    intro a4 M H locs ls hl hM hS out h kx
    rw [f_X5_fadeRow_L3] at h
    refine lv_iload hx hb dX5_fadeRow_3 (lv_at hl 4 rfl) ?_
    refine lv_aload_n hx hb dX5_fadeRow_5 rfl (lv_at hl 0 rfl) ?_
    refine sk_getI (o := o0) (ci := 5) (j := 10) C hM (sk_isW_kd q0) rfl (by decide) rfl kw_185 dX5_fadeRow_6 ?_
    refine lv_icmp_ge hx hb dX5_fadeRow_9 rfl (fun hc => ?_) (fun hc => ?_)
    · have h := sk_pos h hc
      exact kx _ _ _ _ h (lv_sub hl [] rfl) hM hS
    · have h := sk_neg h hc
      refine lv_aload_n hx hb dX5_fadeRow_12 rfl (lv_at hl 1 rfl) ?_
      refine lv_iload hx hb dX5_fadeRow_13 (lv_at hl 4 rfl) ?_
      refine lv_dup2_11 hx hb dX5_fadeRow_15 rfl rfl ?_
      obtain ⟨i_1, h⟩ := sk_chkE h
      refine sk_iald (o := o1) C hM q1 i_1 dX5_fadeRow_16 ?_
      refine lv_aload_n hx hb dX5_fadeRow_17 rfl (lv_at hl 0 rfl) ?_
      refine lv_iload hx hb dX5_fadeRow_18 (lv_at hl 4 rfl) ?_
      refine lv_aload_n hx hb dX5_fadeRow_20 rfl (lv_at hl 1 rfl) ?_
      refine lv_iload hx hb dX5_fadeRow_21 (lv_at hl 4 rfl) ?_
      obtain ⟨i_2, h⟩ := sk_chkE h
      refine sk_iald (o := o1) C hM q1 i_2 dX5_fadeRow_23 ?_
      refine lv_iload_n hx hb dX5_fadeRow_24 rfl (lv_at hl 2 rfl) ?_
      refine lv_iload_n hx hb dX5_fadeRow_25 rfl (lv_at hl 3 rfl) ?_
      obtain ⟨x_3, M_4, h_5, h⟩ := sk_b2E h
      refine sk_contI (sk_runV (As := [.int a4, .int (M o1 a4.toNatClampNeg), .int a2, .int a3]) (rest := [.int (M o1 a4.toNatClampNeg), .int a4, .ref (sk_ad g o1)]) C (c_X5_loss g l o0 q0 a4 (M o1 a4.toNatClampNeg) a2 a3 M h_5) yo_X5_loss kw_492 (sk_recv (ci := 5) C hM (sk_isW_kd q0) rfl) (by decide) hM hS hl.1 rfl rfl (Nat.le_of_ble_eq_true rfl) dX5_fadeRow_26) hS (fun H locs hM hS => ?_)
      refine lv_isub hx hb dX5_fadeRow_29 ?_
      obtain ⟨i_6, h⟩ := sk_chkE h
      refine sk_iast (o := o1) C hM hS q1 i_6 dX5_fadeRow_30 (fun M_7 eM_7 H locs hM hS => ?_)
      have h := sk_letU h eM_7
      refine lv_iinc (v := (a4 + 1)) (lv' := [(4, .int (a4 + 1)), (0, .ref (sk_ad g o0)), (1, .ref (sk_ad g o1)), (2, .int a2), (3, .int a3)]) hx hb dX5_fadeRow_31 hl (k := 4) rfl rfl (by decide) rfl (fun ls hl => ?_)
      refine lv_goto hx hb dX5_fadeRow_34 rfl ?_
      exact ih (a4 + 1) M_7 _ _ _ (lv_sub hl [1, 2, 3, 4, 0] rfl) hM hS h kx
set_option maxHeartbeats 4000000 in
set_option maxRecDepth 100000 in
theorem c_X5_fadeRow (g : sk_G) (l : Launch) (o0 : Nat) (q0 : sk_isW o0) (o1 : Nat) (q1 : sk_kd o1 = (0, 9)) (a2 : Int32) (a3 : Int32) (M : sk_M) {MM : sk_M} (h : f_X5_fadeRow o0 o1 a2 a3 M = some MM) : sk_MV g l yX5_fadeRow cX5_fadeRow 5 none 4 [.ref (sk_ad g o0), .ref (sk_ad g o1), .int a2, .int a3] M MM := by
  refine sk_go [(0, .ref (sk_ad g o0)), (1, .ref (sk_ad g o1)), (2, .int a2), (3, .int a3)] (by decide) (Nat.le_of_ble_eq_true rfl) rfl ?_
  intro p e s m av below meth c C ls hl hM hS
  obtain ⟨hx, hb, hml, hown, hts, hK, hE, hr, hlocks⟩ := id C
  rw [f_X5_fadeRow] at h
  refine lv_iconst (v := 0) hx hb dX5_fadeRow_0 (by decide) ?_
  refine lv_istore (lv' := [(4, .int 0), (0, .ref (sk_ad g o0)), (1, .ref (sk_ad g o1)), (2, .int a2), (3, .int a3)]) hx hb dX5_fadeRow_1 hl (by decide) rfl (fun ls hl => ?_)
  obtain ⟨M_8, h_9, h⟩ := sk_b1E h
  refine w_X5_fadeRow_L3 C o0 q0 o1 q1 a2 a3 sk_FU 0 M _ _ _ (lv_sub hl [1, 2, 3, 4, 0] rfl) hM hS h_9 (fun y_10 H locs ls he hl hM hS => ?_)
  obtain rfl := Option.some.inj he
  exact sk_vret C hM hS (Option.some.inj h) dX5_fadeRow_37
theorem dX4_passDay_0 : decode cX4_passDay 0 = .ok (.aload_n 0, 1) := by decide +kernel
theorem dX4_passDay_1 : decode cX4_passDay 1 = .ok (.getfield 15, 3) := by decide +kernel
theorem dX4_passDay_4 : decode cX4_passDay 4 = .ok (.aload_n 0, 1) := by decide +kernel
theorem dX4_passDay_5 : decode cX4_passDay 5 = .ok (.getfield 9, 3) := by decide +kernel
theorem dX4_passDay_8 : decode cX4_passDay 8 = .ok (.aload_n 0, 1) := by decide +kernel
theorem dX4_passDay_9 : decode cX4_passDay 9 = .ok (.getfield 34, 3) := by decide +kernel
theorem dX4_passDay_12 : decode cX4_passDay 12 = .ok (.aload_n 0, 1) := by decide +kernel
theorem dX4_passDay_13 : decode cX4_passDay 13 = .ok (.getfield 41, 3) := by decide +kernel
theorem dX4_passDay_16 : decode cX4_passDay 16 = .ok (.invokevirtual 44, 3) := by decide +kernel
theorem dX4_passDay_19 : decode cX4_passDay 19 = .ok (.aload_n 0, 1) := by decide +kernel
theorem dX4_passDay_20 : decode cX4_passDay 20 = .ok (.dup, 1) := by decide +kernel
theorem dX4_passDay_21 : decode cX4_passDay 21 = .ok (.getfield 41, 3) := by decide +kernel
theorem dX4_passDay_24 : decode cX4_passDay 24 = .ok (.iconst 1, 1) := by decide +kernel
theorem dX4_passDay_25 : decode cX4_passDay 25 = .ok (.iadd, 1) := by decide +kernel
theorem dX4_passDay_26 : decode cX4_passDay 26 = .ok (.putfield 41, 3) := by decide +kernel
theorem dX4_passDay_29 : decode cX4_passDay 29 = .ok (.return_, 1) := by decide +kernel
set_option maxHeartbeats 4000000 in
set_option maxRecDepth 100000 in
theorem c_X4_passDay (g : sk_G) (l : Launch) (o0 : Nat) (q0 : sk_isT o0) (M : sk_M) {MM : sk_M} (h : f_X4_passDay o0 M = some MM) : sk_MV g l yX4_passDay cX4_passDay 1 none 5 [.ref (sk_ad g o0)] M MM := by
  refine sk_go [(0, .ref (sk_ad g o0))] (by decide) (Nat.le_of_ble_eq_true rfl) rfl ?_
  intro p e s m av below meth c C ls hl hM hS
  obtain ⟨hx, hb, hml, hown, hts, hK, hE, hr, hlocks⟩ := id C
  rw [f_X4_passDay] at h
  refine lv_aload_n hx hb dX4_passDay_0 rfl (lv_at hl 0 rfl) ?_
  refine sk_getR (o := o0) (ci := 4) (j := 0) (t := (sk_tw o0)) C hM (sk_isT_kd q0) rfl (by decide) rfl (sk_isT_r0 q0) kw_237 dX4_passDay_1 ?_
  refine lv_aload_n hx hb dX4_passDay_4 rfl (lv_at hl 0 rfl) ?_
  refine sk_getR (o := o0) (ci := 4) (j := 1) (t := (o0 + 1)) C hM (sk_isT_kd q0) rfl (by decide) rfl (sk_isT_r1 q0) kw_238 dX4_passDay_5 ?_
  refine lv_aload_n hx hb dX4_passDay_8 rfl (lv_at hl 0 rfl) ?_
  refine sk_getI (o := o0) (ci := 4) (j := 2) C hM (sk_isT_kd q0) rfl (by decide) rfl kw_239 dX4_passDay_9 ?_
  refine lv_aload_n hx hb dX4_passDay_12 rfl (lv_at hl 0 rfl) ?_
  refine sk_getI (o := o0) (ci := 4) (j := 3) C hM (sk_isT_kd q0) rfl (by decide) rfl kw_240 dX4_passDay_13 ?_
  obtain ⟨M_1, h_2, h⟩ := sk_b1E h
  refine sk_contV (sk_runV (As := [.ref (sk_ad g (o0 + 1)), .int (M o0 2), .int (M o0 3)]) (rest := []) C (c_X5_fadeRow g l (sk_tw o0) (sk_isT_w q0) (o0 + 1) (sk_isT_k1 q0) (M o0 2) (M o0 3) M h_2) yo_X5_fadeRow kw_533 (sk_recv (ci := 5) C hM (sk_isW_kd (sk_isT_w q0)) rfl) (by decide) hM hS hl.1 rfl rfl (Nat.le_of_ble_eq_true rfl) dX4_passDay_16) hS (fun H locs hM hS => ?_)
  refine lv_aload_n hx hb dX4_passDay_19 rfl (lv_at hl 0 rfl) ?_
  refine lv_dup hx hb dX4_passDay_20 rfl ?_
  refine sk_getI (o := o0) (ci := 4) (j := 3) C hM (sk_isT_kd q0) rfl (by decide) rfl kw_240 dX4_passDay_21 ?_
  refine lv_iconst (v := 1) hx hb dX4_passDay_24 (by decide) ?_
  refine lv_iadd hx hb dX4_passDay_25 ?_
  refine sk_putI (o := o0) (ci := 4) (j := 3) C hM hS (sk_isT_kd q0) rfl (by decide) rfl rfl (tyX4_ok 3 (by decide)) kw_240 dX4_passDay_26 (fun M_3 eM_3 H locs hM hS => ?_)
  have h := sk_letU h eM_3
  exact sk_vret C hM hS (Option.some.inj h) dX4_passDay_29
theorem dX4_passDays_0 : decode cX4_passDays 0 = .ok (.iconst 0, 1) := by decide +kernel
theorem dX4_passDays_1 : decode cX4_passDays 1 = .ok (.istore_n 2, 1) := by decide +kernel
theorem dX4_passDays_2 : decode cX4_passDays 2 = .ok (.iload_n 2, 1) := by decide +kernel
theorem dX4_passDays_3 : decode cX4_passDays 3 = .ok (.iload_n 1, 1) := by decide +kernel
theorem dX4_passDays_4 : decode cX4_passDays 4 = .ok (.if_icmp .ge 13, 3) := by decide +kernel
theorem dX4_passDays_7 : decode cX4_passDays 7 = .ok (.aload_n 0, 1) := by decide +kernel
theorem dX4_passDays_8 : decode cX4_passDays 8 = .ok (.invokevirtual 48, 3) := by decide +kernel
theorem dX4_passDays_11 : decode cX4_passDays 11 = .ok (.iinc 2 1, 3) := by decide +kernel
theorem dX4_passDays_14 : decode cX4_passDays 14 = .ok (.goto (-12), 3) := by decide +kernel
theorem dX4_passDays_17 : decode cX4_passDays 17 = .ok (.return_, 1) := by decide +kernel
set_option maxHeartbeats 4000000 in
set_option maxRecDepth 100000 in
theorem w_X4_passDays_L2 {g : sk_G} {l : Launch} {p : Program} {e : Env} {s : State} {m : MethodId} {av : Array Value} {below : List Frame} {meth : Method} {c : Code} (C : sk_C g p s m av meth c cX4_passDays 3 RX4 none) (o0 : Nat) (q0 : sk_isT o0) (a1 : Int32) {MM : sk_M} :
    ∀ (n : Nat) (a2 : Int32) (M : sk_M) (H : Heap) (locs : List Loc) (ls : Array Slot), lv_has ls 3 [(0, .ref (sk_ad g o0)), (1, .int a1), (2, .int a2)] → sk_P g M H → va_S (sk_A g) s.heap H locs → ∀ {out : sk_M}, f_X4_passDays_L2 o0 a1 n a2 M = some out → (∀ (M1 : sk_M) (H : Heap) (locs : List Loc) (ls : Array Slot), some M1 = some out → lv_has ls 3 [] → sk_P g M1 H → va_S (sk_A g) s.heap H locs → W p l e (sk_rm 6) s m av below meth c H locs 0 0 (MQ below (sk_QV g MM) av s 0 0 (sk_A g)) (F0 m 17 ls [])) → W p l e (sk_rm 6) s m av below meth c H locs 0 0 (MQ below (sk_QV g MM) av s 0 0 (sk_A g)) (F0 m 2 ls []) := by
  obtain ⟨hx, hb, hml, hown, hts, hK, hE, hr, hlocks⟩ := id C
  intro n
  induction n with
  | zero =>
    intro a2 M H locs ls hl hM hS out h
    cases h
  | succ n ih =>
    intro a2 M H locs ls hl hM hS out h kx
    rw [f_X4_passDays_L2] at h
    refine lv_iload_n hx hb dX4_passDays_2 rfl (lv_at hl 2 rfl) ?_
    refine lv_iload_n hx hb dX4_passDays_3 rfl (lv_at hl 1 rfl) ?_
    refine lv_icmp_ge hx hb dX4_passDays_4 rfl (fun hc => ?_) (fun hc => ?_)
    · have h := sk_pos h hc
      exact kx _ _ _ _ h (lv_sub hl [] rfl) hM hS
    · have h := sk_neg h hc
      refine lv_aload_n hx hb dX4_passDays_7 rfl (lv_at hl 0 rfl) ?_
      obtain ⟨M_1, h_2, h⟩ := sk_b1E h
      refine sk_contV (sk_runV (As := []) (rest := []) C (c_X4_passDay g l o0 q0 M h_2) yo_X4_passDay kw_529 (sk_recv (ci := 4) C hM (sk_isT_kd q0) rfl) (by decide) hM hS hl.1 rfl rfl (Nat.le_of_ble_eq_true rfl) dX4_passDays_8) hS (fun H locs hM hS => ?_)
      refine lv_iinc (v := (a2 + 1)) (lv' := [(2, .int (a2 + 1)), (0, .ref (sk_ad g o0)), (1, .int a1)]) hx hb dX4_passDays_11 hl (k := 2) rfl rfl (by decide) rfl (fun ls hl => ?_)
      refine lv_goto hx hb dX4_passDays_14 rfl ?_
      exact ih (a2 + 1) M_1 _ _ _ (lv_sub hl [1, 2, 0] rfl) hM hS h kx
set_option maxHeartbeats 4000000 in
set_option maxRecDepth 100000 in
theorem c_X4_passDays (g : sk_G) (l : Launch) (o0 : Nat) (q0 : sk_isT o0) (a1 : Int32) (M : sk_M) {MM : sk_M} (h : f_X4_passDays o0 a1 M = some MM) : sk_MV g l yX4_passDays cX4_passDays 3 none 6 [.ref (sk_ad g o0), .int a1] M MM := by
  refine sk_go [(0, .ref (sk_ad g o0)), (1, .int a1)] (by decide) (Nat.le_of_ble_eq_true rfl) rfl ?_
  intro p e s m av below meth c C ls hl hM hS
  obtain ⟨hx, hb, hml, hown, hts, hK, hE, hr, hlocks⟩ := id C
  rw [f_X4_passDays] at h
  refine lv_iconst (v := 0) hx hb dX4_passDays_0 (by decide) ?_
  refine lv_istore_n (lv' := [(2, .int 0), (0, .ref (sk_ad g o0)), (1, .int a1)]) hx hb dX4_passDays_1 rfl hl (by decide) rfl (fun ls hl => ?_)
  obtain ⟨M_3, h_4, h⟩ := sk_b1E h
  refine w_X4_passDays_L2 C o0 q0 a1 sk_FU 0 M _ _ _ (lv_sub hl [1, 2, 0] rfl) hM hS h_4 (fun y_5 H locs ls he hl hM hS => ?_)
  obtain rfl := Option.some.inj he
  exact sk_vret C hM hS (Option.some.inj h) dX4_passDays_17
end
