section
-- ===== PART A: goes FIRST, ahead of the names: the tables' words, and 'selects' of the private methods out of them =====
/-- a private method of a class that the tables say can be made, by its rows of tables_1 -/
def lw_okq (q : MethodName × Nat) : Prop := (q.1.cls ≠ "java/lang/invoke/MethodHandle" ∧ q.1.cls ≠ "java/lang/invoke/VarHandle") ∧ Cond.instantiable q.1.cls q.2 ∈ tables_1 ∧ Cond.privateMethod q.1 ∈ tables_1 ∧ Cond.instanceMethod q.1 ∈ tables_1
theorem lw_p0 : lw_okq (⟨"ScentCloth", "isScent", "(I)Z"⟩, 13) := ⟨⟨by decide +kernel, by decide +kernel⟩, List.mem_of_getElem? (i := 19) (by decide +kernel), List.mem_of_getElem? (i := 297) (by decide +kernel), List.mem_of_getElem? (i := 298) (by decide +kernel)⟩
theorem lw_p1 : lw_okq (⟨"ScentCloth", "isWord", "(I)Z"⟩, 13) := ⟨⟨by decide +kernel, by decide +kernel⟩, List.mem_of_getElem? (i := 19) (by decide +kernel), List.mem_of_getElem? (i := 342) (by decide +kernel), List.mem_of_getElem? (i := 343) (by decide +kernel)⟩
theorem lw_p2 : lw_okq (⟨"ScentCloth", "isSpot", "(II)Z"⟩, 13) := ⟨⟨by decide +kernel, by decide +kernel⟩, List.mem_of_getElem? (i := 19) (by decide +kernel), List.mem_of_getElem? (i := 370) (by decide +kernel), List.mem_of_getElem? (i := 371) (by decide +kernel)⟩
theorem lw_p3 : lw_okq (⟨"ScentCloth", "isCloth", "(I)Z"⟩, 13) := ⟨⟨by decide +kernel, by decide +kernel⟩, List.mem_of_getElem? (i := 19) (by decide +kernel), List.mem_of_getElem? (i := 374) (by decide +kernel), List.mem_of_getElem? (i := 375) (by decide +kernel)⟩
theorem lw_p4 : lw_okq (⟨"ScentCloth", "followCourse", "(II)V"⟩, 13) := ⟨⟨by decide +kernel, by decide +kernel⟩, List.mem_of_getElem? (i := 19) (by decide +kernel), List.mem_of_getElem? (i := 538) (by decide +kernel), List.mem_of_getElem? (i := 539) (by decide +kernel)⟩
theorem lw_p5 : lw_okq (⟨"ScentCloth", "differences", "(LScentCloth$Sheet;I)I"⟩, 13) := ⟨⟨by decide +kernel, by decide +kernel⟩, List.mem_of_getElem? (i := 19) (by decide +kernel), List.mem_of_getElem? (i := 542) (by decide +kernel), List.mem_of_getElem? (i := 543) (by decide +kernel)⟩
theorem lw_p6 : lw_okq (⟨"ScentCloth$Reader", "moveOn", "()V"⟩, 9) := ⟨⟨by decide +kernel, by decide +kernel⟩, List.mem_of_getElem? (i := 54) (by decide +kernel), List.mem_of_getElem? (i := 589) (by decide +kernel), List.mem_of_getElem? (i := 590) (by decide +kernel)⟩
theorem lw_p7 : lw_okq (⟨"ScentCloth$Reader", "fail", "()V"⟩, 9) := ⟨⟨by decide +kernel, by decide +kernel⟩, List.mem_of_getElem? (i := 54) (by decide +kernel), List.mem_of_getElem? (i := 599) (by decide +kernel), List.mem_of_getElem? (i := 600) (by decide +kernel)⟩
theorem lw_p8 : lw_okq (⟨"ScentCloth$Reader", "keyHere", "()I"⟩, 9) := ⟨⟨by decide +kernel, by decide +kernel⟩, List.mem_of_getElem? (i := 54) (by decide +kernel), List.mem_of_getElem? (i := 603) (by decide +kernel), List.mem_of_getElem? (i := 604) (by decide +kernel)⟩
theorem lw_p9 : lw_okq (⟨"ScentCloth$Reader", "isHere", "(Ljava/lang/String;)Z"⟩, 9) := ⟨⟨by decide +kernel, by decide +kernel⟩, List.mem_of_getElem? (i := 54) (by decide +kernel), List.mem_of_getElem? (i := 608) (by decide +kernel), List.mem_of_getElem? (i := 609) (by decide +kernel)⟩
theorem lw_p10 : lw_okq (⟨"ScentCloth$Reader", "readLevel", "(III)V"⟩, 9) := ⟨⟨by decide +kernel, by decide +kernel⟩, List.mem_of_getElem? (i := 54) (by decide +kernel), List.mem_of_getElem? (i := 662) (by decide +kernel), List.mem_of_getElem? (i := 663) (by decide +kernel)⟩
theorem lw_p11 : lw_okq (⟨"ScentCloth$Reader", "readPiece", "(II)V"⟩, 9) := ⟨⟨by decide +kernel, by decide +kernel⟩, List.mem_of_getElem? (i := 54) (by decide +kernel), List.mem_of_getElem? (i := 666) (by decide +kernel), List.mem_of_getElem? (i := 667) (by decide +kernel)⟩
theorem lw_p12 : lw_okq (⟨"ScentCloth$Reader", "isSignOf", "(Ljava/lang/String;)Z"⟩, 9) := ⟨⟨by decide +kernel, by decide +kernel⟩, List.mem_of_getElem? (i := 54) (by decide +kernel), List.mem_of_getElem? (i := 671) (by decide +kernel), List.mem_of_getElem? (i := 672) (by decide +kernel)⟩
theorem lw_p13 : lw_okq (⟨"ScentCloth$Reader", "put", "(I)V"⟩, 9) := ⟨⟨by decide +kernel, by decide +kernel⟩, List.mem_of_getElem? (i := 54) (by decide +kernel), List.mem_of_getElem? (i := 730) (by decide +kernel), List.mem_of_getElem? (i := 731) (by decide +kernel)⟩
theorem lw_p14 : lw_okq (⟨"ScentCloth$Reader", "readLeaf", "()V"⟩, 9) := ⟨⟨by decide +kernel, by decide +kernel⟩, List.mem_of_getElem? (i := 54) (by decide +kernel), List.mem_of_getElem? (i := 736) (by decide +kernel), List.mem_of_getElem? (i := 737) (by decide +kernel)⟩
theorem lw_p15 : lw_okq (⟨"ScentCloth$Reader", "leafCode", "()I"⟩, 9) := ⟨⟨by decide +kernel, by decide +kernel⟩, List.mem_of_getElem? (i := 54) (by decide +kernel), List.mem_of_getElem? (i := 740) (by decide +kernel), List.mem_of_getElem? (i := 741) (by decide +kernel)⟩
def lw_privs_1 : List (MethodName × Nat) := [(⟨"ScentCloth", "isScent", "(I)Z"⟩, 13), (⟨"ScentCloth", "isWord", "(I)Z"⟩, 13), (⟨"ScentCloth", "isSpot", "(II)Z"⟩, 13), (⟨"ScentCloth", "isCloth", "(I)Z"⟩, 13), (⟨"ScentCloth", "followCourse", "(II)V"⟩, 13), (⟨"ScentCloth", "differences", "(LScentCloth$Sheet;I)I"⟩, 13), (⟨"ScentCloth$Reader", "moveOn", "()V"⟩, 9), (⟨"ScentCloth$Reader", "fail", "()V"⟩, 9), (⟨"ScentCloth$Reader", "keyHere", "()I"⟩, 9), (⟨"ScentCloth$Reader", "isHere", "(Ljava/lang/String;)Z"⟩, 9), (⟨"ScentCloth$Reader", "readLevel", "(III)V"⟩, 9), (⟨"ScentCloth$Reader", "readPiece", "(II)V"⟩, 9), (⟨"ScentCloth$Reader", "isSignOf", "(Ljava/lang/String;)Z"⟩, 9), (⟨"ScentCloth$Reader", "put", "(I)V"⟩, 9), (⟨"ScentCloth$Reader", "readLeaf", "()V"⟩, 9), (⟨"ScentCloth$Reader", "leafCode", "()I"⟩, 9)]
theorem lw_r1 : ∀ q ∈ lw_privs_1, lw_okq q := List.forall_mem_cons.mpr ⟨lw_p0, List.forall_mem_cons.mpr ⟨lw_p1, List.forall_mem_cons.mpr ⟨lw_p2, List.forall_mem_cons.mpr ⟨lw_p3, List.forall_mem_cons.mpr ⟨lw_p4, List.forall_mem_cons.mpr ⟨lw_p5, List.forall_mem_cons.mpr ⟨lw_p6, List.forall_mem_cons.mpr ⟨lw_p7, List.forall_mem_cons.mpr ⟨lw_p8, List.forall_mem_cons.mpr ⟨lw_p9, List.forall_mem_cons.mpr ⟨lw_p10, List.forall_mem_cons.mpr ⟨lw_p11, List.forall_mem_cons.mpr ⟨lw_p12, List.forall_mem_cons.mpr ⟨lw_p13, List.forall_mem_cons.mpr ⟨lw_p14, List.forall_mem_cons.mpr ⟨lw_p15, fun _ h => absurd h List.not_mem_nil⟩⟩⟩⟩⟩⟩⟩⟩⟩⟩⟩⟩⟩⟩⟩⟩
theorem lw_p16 : lw_okq (⟨"ScentCloth$Reader", "numberHere", "()I"⟩, 9) := ⟨⟨by decide +kernel, by decide +kernel⟩, List.mem_of_getElem? (i := 54) (by decide +kernel), List.mem_of_getElem? (i := 744) (by decide +kernel), List.mem_of_getElem? (i := 745) (by decide +kernel)⟩
theorem lw_p17 : lw_okq (⟨"ScentCloth$Reader", "names", "()Ljava/lang/String;"⟩, 9) := ⟨⟨by decide +kernel, by decide +kernel⟩, List.mem_of_getElem? (i := 54) (by decide +kernel), List.mem_of_getElem? (i := 748) (by decide +kernel), List.mem_of_getElem? (i := 749) (by decide +kernel)⟩
theorem lw_p18 : lw_okq (⟨"ScentCloth", "rightAhead", "(II)I"⟩, 13) := ⟨⟨by decide +kernel, by decide +kernel⟩, List.mem_of_getElem? (i := 19) (by decide +kernel), List.mem_of_getElem? (i := 838) (by decide +kernel), List.mem_of_getElem? (i := 839) (by decide +kernel)⟩
theorem lw_p19 : lw_okq (⟨"ScentClothModel", "comes", "(II)V"⟩, 33) := ⟨⟨by decide +kernel, by decide +kernel⟩, List.mem_of_getElem? (i := 869) (by decide +kernel), List.mem_of_getElem? (i := 986) (by decide +kernel), List.mem_of_getElem? (i := 987) (by decide +kernel)⟩
theorem lw_p20 : lw_okq (⟨"ScentClothModel", "isScent", "(I)Z"⟩, 33) := ⟨⟨by decide +kernel, by decide +kernel⟩, List.mem_of_getElem? (i := 869) (by decide +kernel), List.mem_of_getElem? (i := 994) (by decide +kernel), List.mem_of_getElem? (i := 995) (by decide +kernel)⟩
theorem lw_p21 : lw_okq (⟨"ScentClothModel", "of", "(II)I"⟩, 33) := ⟨⟨by decide +kernel, by decide +kernel⟩, List.mem_of_getElem? (i := 869) (by decide +kernel), List.mem_of_getElem? (i := 999) (by decide +kernel), List.mem_of_getElem? (i := 1000) (by decide +kernel)⟩
theorem lw_p22 : lw_okq (⟨"ScentClothModel", "worth", "(I)I"⟩, 33) := ⟨⟨by decide +kernel, by decide +kernel⟩, List.mem_of_getElem? (i := 869) (by decide +kernel), List.mem_of_getElem? (i := 1003) (by decide +kernel), List.mem_of_getElem? (i := 1004) (by decide +kernel)⟩
theorem lw_p23 : lw_okq (⟨"ScentClothModel", "becomes", "(II)I"⟩, 33) := ⟨⟨by decide +kernel, by decide +kernel⟩, List.mem_of_getElem? (i := 869) (by decide +kernel), List.mem_of_getElem? (i := 1019) (by decide +kernel), List.mem_of_getElem? (i := 1020) (by decide +kernel)⟩
theorem lw_p24 : lw_okq (⟨"ScentClothModel", "isSaid", "(I)Z"⟩, 33) := ⟨⟨by decide +kernel, by decide +kernel⟩, List.mem_of_getElem? (i := 869) (by decide +kernel), List.mem_of_getElem? (i := 1047) (by decide +kernel), List.mem_of_getElem? (i := 1048) (by decide +kernel)⟩
theorem lw_p25 : lw_okq (⟨"ScentClothModel", "drawn", "()I"⟩, 33) := ⟨⟨by decide +kernel, by decide +kernel⟩, List.mem_of_getElem? (i := 869) (by decide +kernel), List.mem_of_getElem? (i := 1056) (by decide +kernel), List.mem_of_getElem? (i := 1057) (by decide +kernel)⟩
theorem lw_p26 : lw_okq (⟨"ScentClothModel", "isCloth", "(I)Z"⟩, 33) := ⟨⟨by decide +kernel, by decide +kernel⟩, List.mem_of_getElem? (i := 869) (by decide +kernel), List.mem_of_getElem? (i := 1073) (by decide +kernel), List.mem_of_getElem? (i := 1074) (by decide +kernel)⟩
theorem lw_p27 : lw_okq (⟨"ScentClothModel", "on", "(II)I"⟩, 33) := ⟨⟨by decide +kernel, by decide +kernel⟩, List.mem_of_getElem? (i := 869) (by decide +kernel), List.mem_of_getElem? (i := 1077) (by decide +kernel), List.mem_of_getElem? (i := 1078) (by decide +kernel)⟩
theorem lw_p28 : lw_okq (⟨"ScentClothModel", "losesOn", "(II)I"⟩, 33) := ⟨⟨by decide +kernel, by decide +kernel⟩, List.mem_of_getElem? (i := 869) (by decide +kernel), List.mem_of_getElem? (i := 1085) (by decide +kernel), List.mem_of_getElem? (i := 1086) (by decide +kernel)⟩
theorem lw_p29 : lw_okq (⟨"ScentClothModel", "losesBy", "(IIII)I"⟩, 33) := ⟨⟨by decide +kernel, by decide +kernel⟩, List.mem_of_getElem? (i := 869) (by decide +kernel), List.mem_of_getElem? (i := 1089) (by decide +kernel), List.mem_of_getElem? (i := 1090) (by decide +kernel)⟩
theorem lw_p30 : lw_okq (⟨"ScentClothModel", "counts", "(I)I"⟩, 33) := ⟨⟨by decide +kernel, by decide +kernel⟩, List.mem_of_getElem? (i := 869) (by decide +kernel), List.mem_of_getElem? (i := 1093) (by decide +kernel), List.mem_of_getElem? (i := 1094) (by decide +kernel)⟩
theorem lw_p31 : lw_okq (⟨"ScentClothModel", "textAt", "(I)I"⟩, 33) := ⟨⟨by decide +kernel, by decide +kernel⟩, List.mem_of_getElem? (i := 869) (by decide +kernel), List.mem_of_getElem? (i := 1097) (by decide +kernel), List.mem_of_getElem? (i := 1098) (by decide +kernel)⟩
def lw_privs_2 : List (MethodName × Nat) := [(⟨"ScentCloth$Reader", "numberHere", "()I"⟩, 9), (⟨"ScentCloth$Reader", "names", "()Ljava/lang/String;"⟩, 9), (⟨"ScentCloth", "rightAhead", "(II)I"⟩, 13), (⟨"ScentClothModel", "comes", "(II)V"⟩, 33), (⟨"ScentClothModel", "isScent", "(I)Z"⟩, 33), (⟨"ScentClothModel", "of", "(II)I"⟩, 33), (⟨"ScentClothModel", "worth", "(I)I"⟩, 33), (⟨"ScentClothModel", "becomes", "(II)I"⟩, 33), (⟨"ScentClothModel", "isSaid", "(I)Z"⟩, 33), (⟨"ScentClothModel", "drawn", "()I"⟩, 33), (⟨"ScentClothModel", "isCloth", "(I)Z"⟩, 33), (⟨"ScentClothModel", "on", "(II)I"⟩, 33), (⟨"ScentClothModel", "losesOn", "(II)I"⟩, 33), (⟨"ScentClothModel", "losesBy", "(IIII)I"⟩, 33), (⟨"ScentClothModel", "counts", "(I)I"⟩, 33), (⟨"ScentClothModel", "textAt", "(I)I"⟩, 33)]
theorem lw_r2 : ∀ q ∈ lw_privs_2, lw_okq q := List.forall_mem_cons.mpr ⟨lw_p16, List.forall_mem_cons.mpr ⟨lw_p17, List.forall_mem_cons.mpr ⟨lw_p18, List.forall_mem_cons.mpr ⟨lw_p19, List.forall_mem_cons.mpr ⟨lw_p20, List.forall_mem_cons.mpr ⟨lw_p21, List.forall_mem_cons.mpr ⟨lw_p22, List.forall_mem_cons.mpr ⟨lw_p23, List.forall_mem_cons.mpr ⟨lw_p24, List.forall_mem_cons.mpr ⟨lw_p25, List.forall_mem_cons.mpr ⟨lw_p26, List.forall_mem_cons.mpr ⟨lw_p27, List.forall_mem_cons.mpr ⟨lw_p28, List.forall_mem_cons.mpr ⟨lw_p29, List.forall_mem_cons.mpr ⟨lw_p30, List.forall_mem_cons.mpr ⟨lw_p31, fun _ h => absurd h List.not_mem_nil⟩⟩⟩⟩⟩⟩⟩⟩⟩⟩⟩⟩⟩⟩⟩⟩
theorem lw_p32 : lw_okq (⟨"ScentClothModel", "worked", "(I)I"⟩, 33) := ⟨⟨by decide +kernel, by decide +kernel⟩, List.mem_of_getElem? (i := 869) (by decide +kernel), List.mem_of_getElem? (i := 1101) (by decide +kernel), List.mem_of_getElem? (i := 1102) (by decide +kernel)⟩
theorem lw_p33 : lw_okq (⟨"ScentClothModel", "goesOn", "()V"⟩, 33) := ⟨⟨by decide +kernel, by decide +kernel⟩, List.mem_of_getElem? (i := 869) (by decide +kernel), List.mem_of_getElem? (i := 1129) (by decide +kernel), List.mem_of_getElem? (i := 1130) (by decide +kernel)⟩
theorem lw_p34 : lw_okq (⟨"ScentClothModel", "smeltOn", "(II)I"⟩, 33) := ⟨⟨by decide +kernel, by decide +kernel⟩, List.mem_of_getElem? (i := 869) (by decide +kernel), List.mem_of_getElem? (i := 1137) (by decide +kernel), List.mem_of_getElem? (i := 1138) (by decide +kernel)⟩
theorem lw_p35 : lw_okq (⟨"ScentClothModel", "saidBy", "(II)I"⟩, 33) := ⟨⟨by decide +kernel, by decide +kernel⟩, List.mem_of_getElem? (i := 869) (by decide +kernel), List.mem_of_getElem? (i := 1145) (by decide +kernel), List.mem_of_getElem? (i := 1146) (by decide +kernel)⟩
theorem lw_p36 : lw_okq (⟨"ScentClothModel", "laysBy", "()V"⟩, 33) := ⟨⟨by decide +kernel, by decide +kernel⟩, List.mem_of_getElem? (i := 869) (by decide +kernel), List.mem_of_getElem? (i := 1158) (by decide +kernel), List.mem_of_getElem? (i := 1159) (by decide +kernel)⟩
theorem lw_p37 : lw_okq (⟨"ScentClothModel", "goesOnMany", "(I)V"⟩, 33) := ⟨⟨by decide +kernel, by decide +kernel⟩, List.mem_of_getElem? (i := 869) (by decide +kernel), List.mem_of_getElem? (i := 1162) (by decide +kernel), List.mem_of_getElem? (i := 1163) (by decide +kernel)⟩
theorem lw_p38 : lw_okq (⟨"ScentClothModel", "laysBack", "()V"⟩, 33) := ⟨⟨by decide +kernel, by decide +kernel⟩, List.mem_of_getElem? (i := 869) (by decide +kernel), List.mem_of_getElem? (i := 1166) (by decide +kernel), List.mem_of_getElem? (i := 1167) (by decide +kernel)⟩
theorem lw_p39 : lw_okq (⟨"ScentClothModel", "leastOf", "(IIII)I"⟩, 33) := ⟨⟨by decide +kernel, by decide +kernel⟩, List.mem_of_getElem? (i := 869) (by decide +kernel), List.mem_of_getElem? (i := 1199) (by decide +kernel), List.mem_of_getElem? (i := 1200) (by decide +kernel)⟩
theorem lw_p40 : lw_okq (⟨"ScentClothModel", "leftOf", "(IIII)I"⟩, 33) := ⟨⟨by decide +kernel, by decide +kernel⟩, List.mem_of_getElem? (i := 869) (by decide +kernel), List.mem_of_getElem? (i := 1203) (by decide +kernel), List.mem_of_getElem? (i := 1204) (by decide +kernel)⟩
theorem lw_p41 : lw_okq (⟨"ScentClothModel", "allOn", "(I)I"⟩, 33) := ⟨⟨by decide +kernel, by decide +kernel⟩, List.mem_of_getElem? (i := 869) (by decide +kernel), List.mem_of_getElem? (i := 1216) (by decide +kernel), List.mem_of_getElem? (i := 1217) (by decide +kernel)⟩
theorem lw_p42 : lw_okq (⟨"ScentClothModel", "saidOr", "(I)I"⟩, 33) := ⟨⟨by decide +kernel, by decide +kernel⟩, List.mem_of_getElem? (i := 869) (by decide +kernel), List.mem_of_getElem? (i := 1224) (by decide +kernel), List.mem_of_getElem? (i := 1225) (by decide +kernel)⟩
theorem lw_p43 : lw_okq (⟨"ScentClothModel", "parse", "()I"⟩, 33) := ⟨⟨by decide +kernel, by decide +kernel⟩, List.mem_of_getElem? (i := 869) (by decide +kernel), List.mem_of_getElem? (i := 1240) (by decide +kernel), List.mem_of_getElem? (i := 1241) (by decide +kernel)⟩
theorem lw_p44 : lw_okq (⟨"ScentClothModel", "nextToken", "()V"⟩, 33) := ⟨⟨by decide +kernel, by decide +kernel⟩, List.mem_of_getElem? (i := 869) (by decide +kernel), List.mem_of_getElem? (i := 1244) (by decide +kernel), List.mem_of_getElem? (i := 1245) (by decide +kernel)⟩
theorem lw_p45 : lw_okq (⟨"ScentClothModel", "isLetter", "(I)Z"⟩, 33) := ⟨⟨by decide +kernel, by decide +kernel⟩, List.mem_of_getElem? (i := 869) (by decide +kernel), List.mem_of_getElem? (i := 1248) (by decide +kernel), List.mem_of_getElem? (i := 1249) (by decide +kernel)⟩
theorem lw_p46 : lw_okq (⟨"ScentClothModel", "isDigit", "(I)Z"⟩, 33) := ⟨⟨by decide +kernel, by decide +kernel⟩, List.mem_of_getElem? (i := 869) (by decide +kernel), List.mem_of_getElem? (i := 1254) (by decide +kernel), List.mem_of_getElem? (i := 1255) (by decide +kernel)⟩
theorem lw_p47 : lw_okq (⟨"ScentClothModel", "key", "()I"⟩, 33) := ⟨⟨by decide +kernel, by decide +kernel⟩, List.mem_of_getElem? (i := 869) (by decide +kernel), List.mem_of_getElem? (i := 1260) (by decide +kernel), List.mem_of_getElem? (i := 1261) (by decide +kernel)⟩
def lw_privs_3 : List (MethodName × Nat) := [(⟨"ScentClothModel", "worked", "(I)I"⟩, 33), (⟨"ScentClothModel", "goesOn", "()V"⟩, 33), (⟨"ScentClothModel", "smeltOn", "(II)I"⟩, 33), (⟨"ScentClothModel", "saidBy", "(II)I"⟩, 33), (⟨"ScentClothModel", "laysBy", "()V"⟩, 33), (⟨"ScentClothModel", "goesOnMany", "(I)V"⟩, 33), (⟨"ScentClothModel", "laysBack", "()V"⟩, 33), (⟨"ScentClothModel", "leastOf", "(IIII)I"⟩, 33), (⟨"ScentClothModel", "leftOf", "(IIII)I"⟩, 33), (⟨"ScentClothModel", "allOn", "(I)I"⟩, 33), (⟨"ScentClothModel", "saidOr", "(I)I"⟩, 33), (⟨"ScentClothModel", "parse", "()I"⟩, 33), (⟨"ScentClothModel", "nextToken", "()V"⟩, 33), (⟨"ScentClothModel", "isLetter", "(I)Z"⟩, 33), (⟨"ScentClothModel", "isDigit", "(I)Z"⟩, 33), (⟨"ScentClothModel", "key", "()I"⟩, 33)]
theorem lw_r3 : ∀ q ∈ lw_privs_3, lw_okq q := List.forall_mem_cons.mpr ⟨lw_p32, List.forall_mem_cons.mpr ⟨lw_p33, List.forall_mem_cons.mpr ⟨lw_p34, List.forall_mem_cons.mpr ⟨lw_p35, List.forall_mem_cons.mpr ⟨lw_p36, List.forall_mem_cons.mpr ⟨lw_p37, List.forall_mem_cons.mpr ⟨lw_p38, List.forall_mem_cons.mpr ⟨lw_p39, List.forall_mem_cons.mpr ⟨lw_p40, List.forall_mem_cons.mpr ⟨lw_p41, List.forall_mem_cons.mpr ⟨lw_p42, List.forall_mem_cons.mpr ⟨lw_p43, List.forall_mem_cons.mpr ⟨lw_p44, List.forall_mem_cons.mpr ⟨lw_p45, List.forall_mem_cons.mpr ⟨lw_p46, List.forall_mem_cons.mpr ⟨lw_p47, fun _ h => absurd h List.not_mem_nil⟩⟩⟩⟩⟩⟩⟩⟩⟩⟩⟩⟩⟩⟩⟩⟩
theorem lw_p48 : lw_okq (⟨"ScentClothModel", "isWordAt", "(IIII)Z"⟩, 33) := ⟨⟨by decide +kernel, by decide +kernel⟩, List.mem_of_getElem? (i := 869) (by decide +kernel), List.mem_of_getElem? (i := 1264) (by decide +kernel), List.mem_of_getElem? (i := 1265) (by decide +kernel)⟩
theorem lw_p49 : lw_okq (⟨"ScentClothModel", "isLong", "(IIIIII)Z"⟩, 33) := ⟨⟨by decide +kernel, by decide +kernel⟩, List.mem_of_getElem? (i := 869) (by decide +kernel), List.mem_of_getElem? (i := 1268) (by decide +kernel), List.mem_of_getElem? (i := 1269) (by decide +kernel)⟩
theorem lw_p50 : lw_okq (⟨"ScentClothModel", "either", "(I)Z"⟩, 33) := ⟨⟨by decide +kernel, by decide +kernel⟩, List.mem_of_getElem? (i := 869) (by decide +kernel), List.mem_of_getElem? (i := 1272) (by decide +kernel), List.mem_of_getElem? (i := 1273) (by decide +kernel)⟩
theorem lw_p51 : lw_okq (⟨"ScentClothModel", "both", "(I)Z"⟩, 33) := ⟨⟨by decide +kernel, by decide +kernel⟩, List.mem_of_getElem? (i := 869) (by decide +kernel), List.mem_of_getElem? (i := 1276) (by decide +kernel), List.mem_of_getElem? (i := 1277) (by decide +kernel)⟩
theorem lw_p52 : lw_okq (⟨"ScentClothModel", "test", "(I)Z"⟩, 33) := ⟨⟨by decide +kernel, by decide +kernel⟩, List.mem_of_getElem? (i := 869) (by decide +kernel), List.mem_of_getElem? (i := 1280) (by decide +kernel), List.mem_of_getElem? (i := 1281) (by decide +kernel)⟩
theorem lw_p53 : lw_okq (⟨"ScentClothModel", "sum", "(I)Z"⟩, 33) := ⟨⟨by decide +kernel, by decide +kernel⟩, List.mem_of_getElem? (i := 869) (by decide +kernel), List.mem_of_getElem? (i := 1284) (by decide +kernel), List.mem_of_getElem? (i := 1285) (by decide +kernel)⟩
theorem lw_p54 : lw_okq (⟨"ScentClothModel", "term", "(I)Z"⟩, 33) := ⟨⟨by decide +kernel, by decide +kernel⟩, List.mem_of_getElem? (i := 869) (by decide +kernel), List.mem_of_getElem? (i := 1288) (by decide +kernel), List.mem_of_getElem? (i := 1289) (by decide +kernel)⟩
theorem lw_p55 : lw_okq (⟨"ScentClothModel", "part0", "(I)Z"⟩, 33) := ⟨⟨by decide +kernel, by decide +kernel⟩, List.mem_of_getElem? (i := 869) (by decide +kernel), List.mem_of_getElem? (i := 1292) (by decide +kernel), List.mem_of_getElem? (i := 1293) (by decide +kernel)⟩
theorem lw_p56 : lw_okq (⟨"ScentClothModel", "step", "(II)V"⟩, 33) := ⟨⟨by decide +kernel, by decide +kernel⟩, List.mem_of_getElem? (i := 869) (by decide +kernel), List.mem_of_getElem? (i := 1296) (by decide +kernel), List.mem_of_getElem? (i := 1297) (by decide +kernel)⟩
theorem lw_p57 : lw_okq (⟨"ScentClothModel", "isSign", "(I)Z"⟩, 33) := ⟨⟨by decide +kernel, by decide +kernel⟩, List.mem_of_getElem? (i := 869) (by decide +kernel), List.mem_of_getElem? (i := 1303) (by decide +kernel), List.mem_of_getElem? (i := 1304) (by decide +kernel)⟩
theorem lw_p58 : lw_okq (⟨"ScentClothModel", "isText", "(I)Z"⟩, 33) := ⟨⟨by decide +kernel, by decide +kernel⟩, List.mem_of_getElem? (i := 869) (by decide +kernel), List.mem_of_getElem? (i := 1311) (by decide +kernel), List.mem_of_getElem? (i := 1312) (by decide +kernel)⟩
theorem lw_p59 : lw_okq (⟨"ScentClothModel", "setAside", "([I[I)V"⟩, 33) := ⟨⟨by decide +kernel, by decide +kernel⟩, List.mem_of_getElem? (i := 869) (by decide +kernel), List.mem_of_getElem? (i := 1378) (by decide +kernel), List.mem_of_getElem? (i := 1379) (by decide +kernel)⟩
theorem lw_p60 : lw_okq (⟨"ScentClothModel", "allStrengths", "()I"⟩, 33) := ⟨⟨by decide +kernel, by decide +kernel⟩, List.mem_of_getElem? (i := 869) (by decide +kernel), List.mem_of_getElem? (i := 1394) (by decide +kernel), List.mem_of_getElem? (i := 1395) (by decide +kernel)⟩
def lw_privs_4 : List (MethodName × Nat) := [(⟨"ScentClothModel", "isWordAt", "(IIII)Z"⟩, 33), (⟨"ScentClothModel", "isLong", "(IIIIII)Z"⟩, 33), (⟨"ScentClothModel", "either", "(I)Z"⟩, 33), (⟨"ScentClothModel", "both", "(I)Z"⟩, 33), (⟨"ScentClothModel", "test", "(I)Z"⟩, 33), (⟨"ScentClothModel", "sum", "(I)Z"⟩, 33), (⟨"ScentClothModel", "term", "(I)Z"⟩, 33), (⟨"ScentClothModel", "part0", "(I)Z"⟩, 33), (⟨"ScentClothModel", "step", "(II)V"⟩, 33), (⟨"ScentClothModel", "isSign", "(I)Z"⟩, 33), (⟨"ScentClothModel", "isText", "(I)Z"⟩, 33), (⟨"ScentClothModel", "setAside", "([I[I)V"⟩, 33), (⟨"ScentClothModel", "allStrengths", "()I"⟩, 33)]
theorem lw_r4 : ∀ q ∈ lw_privs_4, lw_okq q := List.forall_mem_cons.mpr ⟨lw_p48, List.forall_mem_cons.mpr ⟨lw_p49, List.forall_mem_cons.mpr ⟨lw_p50, List.forall_mem_cons.mpr ⟨lw_p51, List.forall_mem_cons.mpr ⟨lw_p52, List.forall_mem_cons.mpr ⟨lw_p53, List.forall_mem_cons.mpr ⟨lw_p54, List.forall_mem_cons.mpr ⟨lw_p55, List.forall_mem_cons.mpr ⟨lw_p56, List.forall_mem_cons.mpr ⟨lw_p57, List.forall_mem_cons.mpr ⟨lw_p58, List.forall_mem_cons.mpr ⟨lw_p59, List.forall_mem_cons.mpr ⟨lw_p60, fun _ h => absurd h List.not_mem_nil⟩⟩⟩⟩⟩⟩⟩⟩⟩⟩⟩⟩⟩
def lw_privs : List (MethodName × Nat) := lw_privs_1 ++ (lw_privs_2 ++ (lw_privs_3 ++ (lw_privs_4)))
def lw_tbl : List Cond := k2_sels lw_privs ++ tables_1
theorem lw_privs_ok : ∀ q ∈ lw_privs, lw_okq q := by
  show ∀ q ∈ lw_privs_1 ++ (lw_privs_2 ++ (lw_privs_3 ++ (lw_privs_4))), lw_okq q
  exact List.forall_mem_append.mpr ⟨lw_r1, List.forall_mem_append.mpr ⟨lw_r2, List.forall_mem_append.mpr ⟨lw_r3, lw_r4⟩⟩⟩
end
section
def RX0 : String := "ScentCloth$Reader"
def TX0 : u_T := fun k => match k with
  | 0 => ("ScentCloth$Reader", "tape", "[I", true)
  | 1 => ("ScentCloth$Reader", "codes", "[I", true)
  | 2 => ("ScentCloth$Reader", "length", "I", false)
  | 3 => ("ScentCloth$Reader", "at", "I", false)
  | 4 => ("ScentCloth$Reader", "end", "I", false)
  | 5 => ("ScentCloth$Reader", "fault", "I", false)
  | 6 => ("ScentCloth$Reader", "key", "I", false)
  | 7 => ("ScentCloth$Reader", "size", "I", false)
  | _ => ("ScentCloth$Reader", "leaves", "I", false)
def tyX0 : Nat → FieldType := fun k => match k with
  | 0 => .array .int
  | 1 => .array .int
  | 2 => .int
  | 3 => .int
  | 4 => .int
  | 5 => .int
  | 6 => .int
  | 7 => .int
  | _ => .int
theorem nmX0 : ∀ a, a < 9 → ∀ b, b < 9 → a ≠ b → (TX0 a).2.1 ≠ (TX0 b).2.1 := by decide +kernel
theorem tyX0_ok : ∀ k, k < 9 → parseFieldDescriptor (TX0 k).2.2.1 = some (tyX0 k) := by decide +kernel
def RX1 : String := "ScentCloth$Sheet"
def TX1 : u_T := fun k => match k with
  | 0 => ("ScentCloth$Sheet", "places", "[I", true)
  | 1 => ("ScentCloth$Sheet", "sort", "I", false)
  | _ => ("ScentCloth$Sheet", "size", "I", false)
def tyX1 : Nat → FieldType := fun k => match k with
  | 0 => .array .int
  | 1 => .int
  | _ => .int
theorem nmX1 : ∀ a, a < 3 → ∀ b, b < 3 → a ≠ b → (TX1 a).2.1 ≠ (TX1 b).2.1 := by decide +kernel
theorem tyX1_ok : ∀ k, k < 3 → parseFieldDescriptor (TX1 k).2.2.1 = some (tyX1 k) := by decide +kernel
def RX2 : String := "ScentCloth$Slot"
def TX2 : u_T := fun k => match k with
  | 0 => ("ScentCloth$Slot", "row", "LScentCloth$Sheet;", true)
  | 1 => ("ScentCloth$Slot", "thing", "I", false)
  | 2 => ("ScentCloth$Slot", "kind", "I", false)
  | 3 => ("ScentCloth$Slot", "pace", "I", false)
  | _ => ("ScentCloth$Slot", "number", "I", false)
def tyX2 : Nat → FieldType := fun k => match k with
  | 0 => .object "ScentCloth$Sheet"
  | 1 => .int
  | 2 => .int
  | 3 => .int
  | _ => .int
theorem nmX2 : ∀ a, a < 5 → ∀ b, b < 5 → a ≠ b → (TX2 a).2.1 ≠ (TX2 b).2.1 := by decide +kernel
theorem tyX2_ok : ∀ k, k < 5 → parseFieldDescriptor (TX2 k).2.2.1 = some (tyX2 k) := by decide +kernel
def RX3 : String := "ScentCloth$Texts"
def TX3 : u_T := fun k => match k with
  | 0 => ("ScentCloth$Texts", "codes", "[[I", true)
  | 1 => ("ScentCloth$Texts", "sizes", "[I", true)
  | 2 => ("ScentCloth$Texts", "keys", "[I", true)
  | 3 => ("ScentCloth$Texts", "leaves", "[I", true)
  | _ => ("ScentCloth$Texts", "stack", "[I", true)
def tyX3 : Nat → FieldType := fun k => match k with
  | 0 => .array (.array .int)
  | 1 => .array .int
  | 2 => .array .int
  | 3 => .array .int
  | _ => .array .int
theorem nmX3 : ∀ a, a < 5 → ∀ b, b < 5 → a ≠ b → (TX3 a).2.1 ≠ (TX3 b).2.1 := by decide +kernel
theorem tyX3_ok : ∀ k, k < 5 → parseFieldDescriptor (TX3 k).2.2.1 = some (tyX3 k) := by decide +kernel
def RX4 : String := "ScentCloth$Thought"
def TX4 : u_T := fun k => match k with
  | 0 => ("ScentCloth$Thought", "world", "LScentCloth$World;", true)
  | 1 => ("ScentCloth$Thought", "row", "[I", true)
  | 2 => ("ScentCloth$Thought", "warm", "I", false)
  | _ => ("ScentCloth$Thought", "day", "I", false)
def tyX4 : Nat → FieldType := fun k => match k with
  | 0 => .object "ScentCloth$World"
  | 1 => .array .int
  | 2 => .int
  | _ => .int
theorem nmX4 : ∀ a, a < 4 → ∀ b, b < 4 → a ≠ b → (TX4 a).2.1 ≠ (TX4 b).2.1 := by decide +kernel
theorem tyX4_ok : ∀ k, k < 4 → parseFieldDescriptor (TX4 k).2.2.1 = some (tyX4 k) := by decide +kernel
def RX5 : String := "ScentCloth$World"
def TX5 : u_T := fun k => match k with
  | 0 => ("ScentCloth$World", "library", "LScentCloth$Texts;", true)
  | 1 => ("ScentCloth$World", "kinds", "[I", true)
  | 2 => ("ScentCloth$World", "paces", "[I", true)
  | 3 => ("ScentCloth$World", "hides", "[I", true)
  | 4 => ("ScentCloth$World", "fines", "[I", true)
  | 5 => ("ScentCloth$World", "sets", "[I", true)
  | 6 => ("ScentCloth$World", "warms", "[I", true)
  | 7 => ("ScentCloth$World", "spots", "[[I", true)
  | 8 => ("ScentCloth$World", "counting", "[I", true)
  | 9 => ("ScentCloth$World", "stays", "[I", true)
  | 10 => ("ScentCloth$World", "scents", "I", false)
  | 11 => ("ScentCloth$World", "words", "I", false)
  | 12 => ("ScentCloth$World", "cloths", "I", false)
  | 13 => ("ScentCloth$World", "texts", "I", false)
  | 14 => ("ScentCloth$World", "today", "I", false)
  | _ => ("ScentCloth$World", "z", "I", false)
def tyX5 : Nat → FieldType := fun k => match k with
  | 0 => .object "ScentCloth$Texts"
  | 1 => .array .int
  | 2 => .array .int
  | 3 => .array .int
  | 4 => .array .int
  | 5 => .array .int
  | 6 => .array .int
  | 7 => .array (.array .int)
  | 8 => .array .int
  | 9 => .array .int
  | 10 => .int
  | 11 => .int
  | 12 => .int
  | 13 => .int
  | 14 => .int
  | _ => .int
theorem nmX5 : ∀ a, a < 16 → ∀ b, b < 16 → a ≠ b → (TX5 a).2.1 ≠ (TX5 b).2.1 := by decide +kernel
theorem tyX5_ok : ∀ k, k < 16 → parseFieldDescriptor (TX5 k).2.2.1 = some (tyX5 k) := by decide +kernel
def RX6 : String := "ScentCloth"
def TX6 : u_T := fun k => match k with
  | 0 => ("ScentCloth", "now", "LScentCloth$World;", true)
  | 1 => ("ScentCloth", "image", "LScentCloth$World;", true)
  | 2 => ("ScentCloth", "ahead", "LScentCloth$Thought;", true)
  | 3 => ("ScentCloth", "recalled", "LScentCloth$Thought;", true)
  | 4 => ("ScentCloth", "library", "LScentCloth$Texts;", true)
  | 5 => ("ScentCloth", "reader", "LScentCloth$Reader;", true)
  | 6 => ("ScentCloth", "sheets", "[LScentCloth$Sheet;", true)
  | 7 => ("ScentCloth", "slots", "[LScentCloth$Slot;", true)
  | 8 => ("ScentCloth", "waiting", "[I", true)
  | 9 => ("ScentCloth", "fresh", "[I", true)
  | 10 => ("ScentCloth", "course", "[I", true)
  | 11 => ("ScentCloth", "waits", "I", false)
  | _ => ("ScentCloth", "imageKept", "Z", false)
def tyX6 : Nat → FieldType := fun k => match k with
  | 0 => .object "ScentCloth$World"
  | 1 => .object "ScentCloth$World"
  | 2 => .object "ScentCloth$Thought"
  | 3 => .object "ScentCloth$Thought"
  | 4 => .object "ScentCloth$Texts"
  | 5 => .object "ScentCloth$Reader"
  | 6 => .array (.object "ScentCloth$Sheet")
  | 7 => .array (.object "ScentCloth$Slot")
  | 8 => .array .int
  | 9 => .array .int
  | 10 => .array .int
  | 11 => .int
  | _ => .boolean
theorem nmX6 : ∀ a, a < 13 → ∀ b, b < 13 → a ≠ b → (TX6 a).2.1 ≠ (TX6 b).2.1 := by decide +kernel
theorem tyX6_ok : ∀ k, k < 13 → parseFieldDescriptor (TX6 k).2.2.1 = some (tyX6 k) := by decide +kernel
def RX7 : String := "ScentClothModel"
def TX7 : u_T := fun k => match k with
  | 0 => ("ScentClothModel", "s", "[I", true)
  | 1 => ("ScentClothModel", "image", "[I", true)
  | 2 => ("ScentClothModel", "aside", "[I", true)
  | 3 => ("ScentClothModel", "hasImage", "Z", false)
  | 4 => ("ScentClothModel", "tSort", "[I", true)
  | 5 => ("ScentClothModel", "tSize", "[I", true)
  | 6 => ("ScentClothModel", "tNumber", "[I", true)
  | 7 => ("ScentClothModel", "held", "[I", true)
  | 8 => ("ScentClothModel", "heldNumber", "[I", true)
  | 9 => ("ScentClothModel", "heldWorth", "[I", true)
  | 10 => ("ScentClothModel", "heldSize", "[I", true)
  | 11 => ("ScentClothModel", "heldRow", "[I", true)
  | 12 => ("ScentClothModel", "close", "[I", true)
  | 13 => ("ScentClothModel", "written", "[I", true)
  | 14 => ("ScentClothModel", "tape", "[I", true)
  | 15 => ("ScentClothModel", "taped", "I", false)
  | 16 => ("ScentClothModel", "begin", "I", false)
  | 17 => ("ScentClothModel", "behind", "I", false)
  | 18 => ("ScentClothModel", "token", "I", false)
  | 19 => ("ScentClothModel", "number", "I", false)
  | 20 => ("ScentClothModel", "letter", "I", false)
  | 21 => ("ScentClothModel", "deep", "I", false)
  | 22 => ("ScentClothModel", "turned", "I", false)
  | 23 => ("ScentClothModel", "laid", "I", false)
  | 24 => ("ScentClothModel", "laidAt", "I", false)
  | 25 => ("ScentClothModel", "said", "I", false)
  | 26 => ("ScentClothModel", "named", "[I", true)
  | 27 => ("ScentClothModel", "pile", "[I", true)
  | 28 => ("ScentClothModel", "byDay", "[I", true)
  | 29 => ("ScentClothModel", "carried", "[I", true)
  | 30 => ("ScentClothModel", "waits", "[I", true)
  | 31 => ("ScentClothModel", "waiting", "I", false)
  | _ => ("ScentClothModel", "rowDue", "[I", true)
def tyX7 : Nat → FieldType := fun k => match k with
  | 0 => .array .int
  | 1 => .array .int
  | 2 => .array .int
  | 3 => .boolean
  | 4 => .array .int
  | 5 => .array .int
  | 6 => .array .int
  | 7 => .array .int
  | 8 => .array .int
  | 9 => .array .int
  | 10 => .array .int
  | 11 => .array .int
  | 12 => .array .int
  | 13 => .array .int
  | 14 => .array .int
  | 15 => .int
  | 16 => .int
  | 17 => .int
  | 18 => .int
  | 19 => .int
  | 20 => .int
  | 21 => .int
  | 22 => .int
  | 23 => .int
  | 24 => .int
  | 25 => .int
  | 26 => .array .int
  | 27 => .array .int
  | 28 => .array .int
  | 29 => .array .int
  | 30 => .array .int
  | 31 => .int
  | _ => .array .int
theorem nmX7 : ∀ a, a < 33 → ∀ b, b < 33 → a ≠ b → (TX7 a).2.1 ≠ (TX7 b).2.1 := by decide +kernel
theorem tyX7_ok : ∀ k, k < 33 → parseFieldDescriptor (TX7 k).2.2.1 = some (tyX7 k) := by decide +kernel
def RJ0 : String := "java/lang/String"
def RJ1 : String := "java/lang/StringLatin1"
def RJ3 : String := "jdk/internal/util/Preconditions"
def RJ6 : String := "java/lang/Integer"
def RJ7 : String := "java/util/Arrays"
abbrev cX0_init : ByteArray := prog_2_method_1_code
def yX0_init : MethodName := ⟨RX0, "<init>", "()V"⟩
abbrev cX0_takeBytes : ByteArray := prog_2_method_2_code
def yX0_takeBytes : MethodName := ⟨RX0, "takeBytes", "(I)V"⟩
abbrev cX0_readTape : ByteArray := prog_2_method_3_code
def yX0_readTape : MethodName := ⟨RX0, "readTape", "()I"⟩
abbrev cX0_fail : ByteArray := prog_2_method_4_code
def yX0_fail : MethodName := ⟨RX0, "fail", "()V"⟩
abbrev cX0_moveOn : ByteArray := prog_2_method_5_code
def yX0_moveOn : MethodName := ⟨RX0, "moveOn", "()V"⟩
abbrev cX0_isLetter : ByteArray := prog_2_method_6_code
def yX0_isLetter : MethodName := ⟨RX0, "isLetter", "(I)Z"⟩
abbrev cX0_isDigit : ByteArray := prog_2_method_7_code
def yX0_isDigit : MethodName := ⟨RX0, "isDigit", "(I)Z"⟩
abbrev cX0_keyHere : ByteArray := prog_2_method_8_code
def yX0_keyHere : MethodName := ⟨RX0, "keyHere", "()I"⟩
abbrev cX0_isHere : ByteArray := prog_2_method_9_code
def yX0_isHere : MethodName := ⟨RX0, "isHere", "(Ljava/lang/String;)Z"⟩
abbrev cX0_isSignOf : ByteArray := prog_2_method_10_code
def yX0_isSignOf : MethodName := ⟨RX0, "isSignOf", "(Ljava/lang/String;)Z"⟩
abbrev cX0_put : ByteArray := prog_2_method_11_code
def yX0_put : MethodName := ⟨RX0, "put", "(I)V"⟩
abbrev cX0_signsOf : ByteArray := prog_2_method_12_code
def yX0_signsOf : MethodName := ⟨RX0, "signsOf", "(I)Ljava/lang/String;"⟩
abbrev cX0_readLevel : ByteArray := prog_2_method_13_code
def yX0_readLevel : MethodName := ⟨RX0, "readLevel", "(III)V"⟩
abbrev cX0_readPiece : ByteArray := prog_2_method_14_code
def yX0_readPiece : MethodName := ⟨RX0, "readPiece", "(II)V"⟩
abbrev cX0_readLeaf : ByteArray := prog_2_method_15_code
def yX0_readLeaf : MethodName := ⟨RX0, "readLeaf", "()V"⟩
abbrev cX0_leafCode : ByteArray := prog_2_method_16_code
def yX0_leafCode : MethodName := ⟨RX0, "leafCode", "()I"⟩
abbrev cX0_numberHere : ByteArray := prog_2_method_17_code
def yX0_numberHere : MethodName := ⟨RX0, "numberHere", "()I"⟩
abbrev cX0_names : ByteArray := prog_2_method_18_code
def yX0_names : MethodName := ⟨RX0, "names", "()Ljava/lang/String;"⟩
abbrev cX1_init : ByteArray := prog_3_method_1_code
def yX1_init : MethodName := ⟨RX1, "<init>", "()V"⟩
abbrev cX1_becomeRow : ByteArray := prog_3_method_2_code
def yX1_becomeRow : MethodName := ⟨RX1, "becomeRow", "(II)V"⟩
abbrev cX1_becomeLike : ByteArray := prog_3_method_3_code
def yX1_becomeLike : MethodName := ⟨RX1, "becomeLike", "(LScentCloth$Sheet;)V"⟩
abbrev cX1_hasPlaces : ByteArray := prog_3_method_4_code
def yX1_hasPlaces : MethodName := ⟨RX1, "hasPlaces", "(II)Z"⟩
abbrev cX2_init : ByteArray := prog_4_method_1_code
def yX2_init : MethodName := ⟨RX2, "<init>", "()V"⟩
abbrev cX3_init : ByteArray := prog_5_method_1_code
def yX3_init : MethodName := ⟨RX3, "<init>", "()V"⟩
abbrev cX3_store : ByteArray := prog_5_method_2_code
def yX3_store : MethodName := ⟨RX3, "store", "(ILScentCloth$Reader;)V"⟩
abbrev cX3_give : ByteArray := prog_5_method_3_code
def yX3_give : MethodName := ⟨RX3, "give", "(IIII)I"⟩
abbrev cX3_named : ByteArray := prog_5_method_4_code
def yX3_named : MethodName := ⟨RX3, "named", "(IIII)I"⟩
abbrev cX3_join : ByteArray := prog_5_method_5_code
def yX3_join : MethodName := ⟨RX3, "join", "(III)I"⟩
abbrev cX4_init : ByteArray := prog_6_method_1_code
def yX4_init : MethodName := ⟨RX4, "<init>", "(LScentCloth$World;)V"⟩
abbrev cX4_begin : ByteArray := prog_6_method_2_code
def yX4_begin : MethodName := ⟨RX4, "begin", "(I)V"⟩
abbrev cX4_passDay : ByteArray := prog_6_method_3_code
def yX4_passDay : MethodName := ⟨RX4, "passDay", "()V"⟩
abbrev cX4_passDays : ByteArray := prog_6_method_4_code
def yX4_passDays : MethodName := ⟨RX4, "passDays", "(I)V"⟩
abbrev cX4_smelledBy : ByteArray := prog_6_method_5_code
def yX4_smelledBy : MethodName := ⟨RX4, "smelledBy", "(I)I"⟩
abbrev cX4_saidTo : ByteArray := prog_6_method_6_code
def yX4_saidTo : MethodName := ⟨RX4, "saidTo", "(I)I"⟩
abbrev cX4_sum : ByteArray := prog_6_method_7_code
def yX4_sum : MethodName := ⟨RX4, "sum", "()I"⟩
abbrev cX5_init : ByteArray := prog_7_method_1_code
def yX5_init : MethodName := ⟨RX5, "<init>", "(LScentCloth$Texts;)V"⟩
abbrev cX5_becomeLike : ByteArray := prog_7_method_2_code
def yX5_becomeLike : MethodName := ⟨RX5, "becomeLike", "(LScentCloth$World;)V"⟩
abbrev cX5_addScent : ByteArray := prog_7_method_3_code
def yX5_addScent : MethodName := ⟨RX5, "addScent", "(II)I"⟩
abbrev cX5_draw : ByteArray := prog_7_method_4_code
def yX5_draw : MethodName := ⟨RX5, "draw", "()I"⟩
abbrev cX5_putSpot : ByteArray := prog_7_method_5_code
def yX5_putSpot : MethodName := ⟨RX5, "putSpot", "(III)I"⟩
abbrev cX5_loss : ByteArray := prog_7_method_6_code
def yX5_loss : MethodName := ⟨RX5, "loss", "(IIII)I"⟩
abbrev cX5_fadeRow : ByteArray := prog_7_method_7_code
def yX5_fadeRow : MethodName := ⟨RX5, "fadeRow", "([III)V"⟩
abbrev cX5_passDay : ByteArray := prog_7_method_8_code
def yX5_passDay : MethodName := ⟨RX5, "passDay", "()V"⟩
abbrev cX5_isHidden : ByteArray := prog_7_method_9_code
def yX5_isHidden : MethodName := ⟨RX5, "isHidden", "([II)Z"⟩
abbrev cX5_smelled : ByteArray := prog_7_method_10_code
def yX5_smelled : MethodName := ⟨RX5, "smelled", "([II)I"⟩
abbrev cX5_said : ByteArray := prog_7_method_11_code
def yX5_said : MethodName := ⟨RX5, "said", "([II)I"⟩
abbrev cX5_sumOf : ByteArray := prog_7_method_12_code
def yX5_sumOf : MethodName := ⟨RX5, "sumOf", "([I)I"⟩
abbrev cX5_present : ByteArray := prog_7_method_13_code
def yX5_present : MethodName := ⟨RX5, "present", "([I)I"⟩
abbrev cX5_sumOfAll : ByteArray := prog_7_method_14_code
def yX5_sumOfAll : MethodName := ⟨RX5, "sumOfAll", "()I"⟩
abbrev cX5_fadings : ByteArray := prog_7_method_15_code
def yX5_fadings : MethodName := ⟨RX5, "fadings", "(II)I"⟩
abbrev cX5_leastLeft : ByteArray := prog_7_method_16_code
def yX5_leastLeft : MethodName := ⟨RX5, "leastLeft", "(IIII)I"⟩
abbrev cX6_init : ByteArray := prog_1_method_1_code
def yX6_init : MethodName := ⟨RX6, "<init>", "()V"⟩
abbrev cX6_scent : ByteArray := prog_1_method_2_code
def yX6_scent : MethodName := ⟨RX6, "scent", "(II)I"⟩
abbrev cX6_told : ByteArray := prog_1_method_3_code
def yX6_told : MethodName := ⟨RX6, "told", "(II)I"⟩
abbrev cX6_as : ByteArray := prog_1_method_4_code
def yX6_as : MethodName := ⟨RX6, "as", "(II)I"⟩
abbrev cX6_turns : ByteArray := prog_1_method_5_code
def yX6_turns : MethodName := ⟨RX6, "turns", "(II)I"⟩
abbrev cX6_pace : ByteArray := prog_1_method_6_code
def yX6_pace : MethodName := ⟨RX6, "pace", "(II)I"⟩
abbrev cX6_hide : ByteArray := prog_1_method_7_code
def yX6_hide : MethodName := ⟨RX6, "hide", "(III)I"⟩
abbrev cX6_nose : ByteArray := prog_1_method_8_code
def yX6_nose : MethodName := ⟨RX6, "nose", "(II)I"⟩
abbrev cX6_word : ByteArray := prog_1_method_9_code
def yX6_word : MethodName := ⟨RX6, "word", "(I)I"⟩
abbrev cX6_wordOf : ByteArray := prog_1_method_10_code
def yX6_wordOf : MethodName := ⟨RX6, "wordOf", "(I)I"⟩
abbrev cX6_deal : ByteArray := prog_1_method_11_code
def yX6_deal : MethodName := ⟨RX6, "deal", "(I)I"⟩
abbrev cX6_seed : ByteArray := prog_1_method_12_code
def yX6_seed : MethodName := ⟨RX6, "seed", "(I)I"⟩
abbrev cX6_cloth : ByteArray := prog_1_method_13_code
def yX6_cloth : MethodName := ⟨RX6, "cloth", "()I"⟩
abbrev cX6_strength : ByteArray := prog_1_method_14_code
def yX6_strength : MethodName := ⟨RX6, "strength", "(II)I"⟩
abbrev cX6_loses : ByteArray := prog_1_method_15_code
def yX6_loses : MethodName := ⟨RX6, "loses", "(II)I"⟩
abbrev cX6_dab : ByteArray := prog_1_method_16_code
def yX6_dab : MethodName := ⟨RX6, "dab", "(III)I"⟩
abbrev cX6_warm : ByteArray := prog_1_method_17_code
def yX6_warm : MethodName := ⟨RX6, "warm", "(II)I"⟩
abbrev cX6_touch : ByteArray := prog_1_method_18_code
def yX6_touch : MethodName := ⟨RX6, "touch", "(II)I"⟩
abbrev cX6_days : ByteArray := prog_1_method_19_code
def yX6_days : MethodName := ⟨RX6, "days", "(I)I"⟩
abbrev cX6_smells : ByteArray := prog_1_method_20_code
def yX6_smells : MethodName := ⟨RX6, "smells", "(II)I"⟩
abbrev cX6_says : ByteArray := prog_1_method_21_code
def yX6_says : MethodName := ⟨RX6, "says", "(II)I"⟩
abbrev cX6_behind : ByteArray := prog_1_method_22_code
def yX6_behind : MethodName := ⟨RX6, "behind", "(III)I"⟩
abbrev cX6_first : ByteArray := prog_1_method_23_code
def yX6_first : MethodName := ⟨RX6, "first", "(III)I"⟩
abbrev cX6_lasts : ByteArray := prog_1_method_24_code
def yX6_lasts : MethodName := ⟨RX6, "lasts", "(IIII)I"⟩
abbrev cX6_whispers : ByteArray := prog_1_method_25_code
def yX6_whispers : MethodName := ⟨RX6, "whispers", "(III)I"⟩
abbrev cX6_dumb : ByteArray := prog_1_method_26_code
def yX6_dumb : MethodName := ⟨RX6, "dumb", "(II)I"⟩
abbrev cX6_secret : ByteArray := prog_1_method_27_code
def yX6_secret : MethodName := ⟨RX6, "secret", "(II)I"⟩
abbrev cX6_least : ByteArray := prog_1_method_28_code
def yX6_least : MethodName := ⟨RX6, "least", "(IIII)I"⟩
abbrev cX6_letter : ByteArray := prog_1_method_29_code
def yX6_letter : MethodName := ⟨RX6, "letter", "(IIII)I"⟩
abbrev cX6_dated : ByteArray := prog_1_method_30_code
def yX6_dated : MethodName := ⟨RX6, "dated", "(IIII)I"⟩
abbrev cX6_price : ByteArray := prog_1_method_31_code
def yX6_price : MethodName := ⟨RX6, "price", "(I)I"⟩
abbrev cX6_lie : ByteArray := prog_1_method_32_code
def yX6_lie : MethodName := ⟨RX6, "lie", "(I)I"⟩
abbrev cX6_feed : ByteArray := prog_1_method_33_code
def yX6_feed : MethodName := ⟨RX6, "feed", "(III)I"⟩
abbrev cX6_trim : ByteArray := prog_1_method_34_code
def yX6_trim : MethodName := ⟨RX6, "trim", "(I)I"⟩
abbrev cX6_text : ByteArray := prog_1_method_35_code
def yX6_text : MethodName := ⟨RX6, "text", "()I"⟩
abbrev cX6_textTold : ByteArray := prog_1_method_36_code
def yX6_textTold : MethodName := ⟨RX6, "textTold", "(II)I"⟩
abbrev cX6_why : ByteArray := prog_1_method_37_code
def yX6_why : MethodName := ⟨RX6, "why", "(I)I"⟩
abbrev cX6_sheet : ByteArray := prog_1_method_38_code
def yX6_sheet : MethodName := ⟨RX6, "sheet", "(III)I"⟩
abbrev cX6_mark : ByteArray := prog_1_method_39_code
def yX6_mark : MethodName := ⟨RX6, "mark", "(III)I"⟩
abbrev cX6_pour : ByteArray := prog_1_method_40_code
def yX6_pour : MethodName := ⟨RX6, "pour", "(II)I"⟩
abbrev cX6_copy : ByteArray := prog_1_method_41_code
def yX6_copy : MethodName := ⟨RX6, "copy", "(IIIII)I"⟩
abbrev cX6_lay : ByteArray := prog_1_method_42_code
def yX6_lay : MethodName := ⟨RX6, "lay", "(III)I"⟩
abbrev cX6_ask : ByteArray := prog_1_method_43_code
def yX6_ask : MethodName := ⟨RX6, "ask", "(II)I"⟩
abbrev cX6_item : ByteArray := prog_1_method_44_code
def yX6_item : MethodName := ⟨RX6, "item", "(II)I"⟩
abbrev cX6_rest : ByteArray := prog_1_method_45_code
def yX6_rest : MethodName := ⟨RX6, "rest", "(II)I"⟩
abbrev cX6_tell : ByteArray := prog_1_method_46_code
def yX6_tell : MethodName := ⟨RX6, "tell", "(I)I"⟩
abbrev cX6_check : ByteArray := prog_1_method_47_code
def yX6_check : MethodName := ⟨RX6, "check", "(II)I"⟩
abbrev cX6_keep : ByteArray := prog_1_method_48_code
def yX6_keep : MethodName := ⟨RX6, "keep", "()I"⟩
abbrev cX6_back : ByteArray := prog_1_method_49_code
def yX6_back : MethodName := ⟨RX6, "back", "()I"⟩
abbrev cX6_count : ByteArray := prog_1_method_50_code
def yX6_count : MethodName := ⟨RX6, "count", "(I)I"⟩
abbrev cX6_within : ByteArray := prog_1_method_51_code
def yX6_within : MethodName := ⟨RX6, "within", "(III)Z"⟩
abbrev cX6_held : ByteArray := prog_1_method_52_code
def yX6_held : MethodName := ⟨RX6, "held", "(I)I"⟩
abbrev cX6_isKind : ByteArray := prog_1_method_53_code
def yX6_isKind : MethodName := ⟨RX6, "isKind", "(I)Z"⟩
abbrev cX6_isNose : ByteArray := prog_1_method_54_code
def yX6_isNose : MethodName := ⟨RX6, "isNose", "(I)Z"⟩
abbrev cX6_isSheet : ByteArray := prog_1_method_55_code
def yX6_isSheet : MethodName := ⟨RX6, "isSheet", "(I)Z"⟩
abbrev cX6_isSlot : ByteArray := prog_1_method_56_code
def yX6_isSlot : MethodName := ⟨RX6, "isSlot", "(I)Z"⟩
abbrev cX6_isScent : ByteArray := prog_1_method_57_code
def yX6_isScent : MethodName := ⟨RX6, "isScent", "(I)Z"⟩
abbrev cX6_isCloth : ByteArray := prog_1_method_58_code
def yX6_isCloth : MethodName := ⟨RX6, "isCloth", "(I)Z"⟩
abbrev cX6_isWord : ByteArray := prog_1_method_59_code
def yX6_isWord : MethodName := ⟨RX6, "isWord", "(I)Z"⟩
abbrev cX6_isSpot : ByteArray := prog_1_method_60_code
def yX6_isSpot : MethodName := ⟨RX6, "isSpot", "(II)Z"⟩
abbrev cX6_isUnder : ByteArray := prog_1_method_61_code
def yX6_isUnder : MethodName := ⟨RX6, "isUnder", "(II)Z"⟩
abbrev cX6_worth : ByteArray := prog_1_method_62_code
def yX6_worth : MethodName := ⟨RX6, "worth", "(II)I"⟩
abbrev cX6_wordOr99 : ByteArray := prog_1_method_63_code
def yX6_wordOr99 : MethodName := ⟨RX6, "wordOr99", "(I)I"⟩
abbrev cX6_followCourse : ByteArray := prog_1_method_64_code
def yX6_followCourse : MethodName := ⟨RX6, "followCourse", "(II)V"⟩
abbrev cX6_differences : ByteArray := prog_1_method_65_code
def yX6_differences : MethodName := ⟨RX6, "differences", "(LScentCloth$Sheet;I)I"⟩
abbrev cX6_rightAhead : ByteArray := prog_1_method_66_code
def yX6_rightAhead : MethodName := ⟨RX6, "rightAhead", "(II)I"⟩
abbrev cX7_init : ByteArray := prog_9_method_1_code
def yX7_init : MethodName := ⟨RX7, "<init>", "()V"⟩
abbrev cX7_isIn : ByteArray := prog_9_method_2_code
def yX7_isIn : MethodName := ⟨RX7, "isIn", "(JJJ)Z"⟩
abbrev cX7_orNone : ByteArray := prog_9_method_3_code
def yX7_orNone : MethodName := ⟨RX7, "orNone", "(I)I"⟩
abbrev cX7_within : ByteArray := prog_9_method_4_code
def yX7_within : MethodName := ⟨RX7, "within", "(II)I"⟩
abbrev cX7_becomes : ByteArray := prog_9_method_5_code
def yX7_becomes : MethodName := ⟨RX7, "becomes", "(II)I"⟩
abbrev cX7_textAt : ByteArray := prog_9_method_6_code
def yX7_textAt : MethodName := ⟨RX7, "textAt", "(I)I"⟩
abbrev cX7_of : ByteArray := prog_9_method_7_code
def yX7_of : MethodName := ⟨RX7, "of", "(II)I"⟩
abbrev cX7_on : ByteArray := prog_9_method_8_code
def yX7_on : MethodName := ⟨RX7, "on", "(II)I"⟩
abbrev cX7_isScent : ByteArray := prog_9_method_9_code
def yX7_isScent : MethodName := ⟨RX7, "isScent", "(I)Z"⟩
abbrev cX7_isCloth : ByteArray := prog_9_method_10_code
def yX7_isCloth : MethodName := ⟨RX7, "isCloth", "(I)Z"⟩
abbrev cX7_isNose : ByteArray := prog_9_method_11_code
def yX7_isNose : MethodName := ⟨RX7, "isNose", "(I)Z"⟩
abbrev cX7_isSaid : ByteArray := prog_9_method_12_code
def yX7_isSaid : MethodName := ⟨RX7, "isSaid", "(I)Z"⟩
abbrev cX7_isText : ByteArray := prog_9_method_13_code
def yX7_isText : MethodName := ⟨RX7, "isText", "(I)Z"⟩
abbrev cX7_drawn : ByteArray := prog_9_method_14_code
def yX7_drawn : MethodName := ⟨RX7, "drawn", "()I"⟩
abbrev cX7_comes : ByteArray := prog_9_method_15_code
def yX7_comes : MethodName := ⟨RX7, "comes", "(II)V"⟩
abbrev cX7_scent : ByteArray := prog_9_method_16_code
def yX7_scent : MethodName := ⟨RX7, "scent", "(II)I"⟩
abbrev cX7_losesBy : ByteArray := prog_9_method_17_code
def yX7_losesBy : MethodName := ⟨RX7, "losesBy", "(IIII)I"⟩
abbrev cX7_losesOn : ByteArray := prog_9_method_18_code
def yX7_losesOn : MethodName := ⟨RX7, "losesOn", "(II)I"⟩
abbrev cX7_worth : ByteArray := prog_9_method_19_code
def yX7_worth : MethodName := ⟨RX7, "worth", "(I)I"⟩
abbrev cX7_told : ByteArray := prog_9_method_20_code
def yX7_told : MethodName := ⟨RX7, "told", "(II)I"⟩
abbrev cX7_isOf : ByteArray := prog_9_method_21_code
def yX7_isOf : MethodName := ⟨RX7, "isOf", "(II)Z"⟩
abbrev cX7_as : ByteArray := prog_9_method_22_code
def yX7_as : MethodName := ⟨RX7, "as", "(II)I"⟩
abbrev cX7_turns : ByteArray := prog_9_method_23_code
def yX7_turns : MethodName := ⟨RX7, "turns", "(II)I"⟩
abbrev cX7_pace : ByteArray := prog_9_method_24_code
def yX7_pace : MethodName := ⟨RX7, "pace", "(II)I"⟩
abbrev cX7_hide : ByteArray := prog_9_method_25_code
def yX7_hide : MethodName := ⟨RX7, "hide", "(III)I"⟩
abbrev cX7_nose : ByteArray := prog_9_method_26_code
def yX7_nose : MethodName := ⟨RX7, "nose", "(II)I"⟩
abbrev cX7_word : ByteArray := prog_9_method_27_code
def yX7_word : MethodName := ⟨RX7, "word", "(I)I"⟩
abbrev cX7_wordOf : ByteArray := prog_9_method_28_code
def yX7_wordOf : MethodName := ⟨RX7, "wordOf", "(I)I"⟩
abbrev cX7_deal : ByteArray := prog_9_method_29_code
def yX7_deal : MethodName := ⟨RX7, "deal", "(I)I"⟩
abbrev cX7_seed : ByteArray := prog_9_method_30_code
def yX7_seed : MethodName := ⟨RX7, "seed", "(I)I"⟩
abbrev cX7_cloth : ByteArray := prog_9_method_31_code
def yX7_cloth : MethodName := ⟨RX7, "cloth", "()I"⟩
abbrev cX7_strength : ByteArray := prog_9_method_32_code
def yX7_strength : MethodName := ⟨RX7, "strength", "(II)I"⟩
abbrev cX7_loses : ByteArray := prog_9_method_33_code
def yX7_loses : MethodName := ⟨RX7, "loses", "(II)I"⟩
abbrev cX7_dab : ByteArray := prog_9_method_34_code
def yX7_dab : MethodName := ⟨RX7, "dab", "(III)I"⟩
abbrev cX7_warm : ByteArray := prog_9_method_35_code
def yX7_warm : MethodName := ⟨RX7, "warm", "(II)I"⟩
abbrev cX7_touch : ByteArray := prog_9_method_36_code
def yX7_touch : MethodName := ⟨RX7, "touch", "(II)I"⟩
abbrev cX7_goesOn : ByteArray := prog_9_method_37_code
def yX7_goesOn : MethodName := ⟨RX7, "goesOn", "()V"⟩
abbrev cX7_days : ByteArray := prog_9_method_38_code
def yX7_days : MethodName := ⟨RX7, "days", "(I)I"⟩
abbrev cX7_smeltOn : ByteArray := prog_9_method_39_code
def yX7_smeltOn : MethodName := ⟨RX7, "smeltOn", "(II)I"⟩
abbrev cX7_saidBy : ByteArray := prog_9_method_40_code
def yX7_saidBy : MethodName := ⟨RX7, "saidBy", "(II)I"⟩
abbrev cX7_smells : ByteArray := prog_9_method_41_code
def yX7_smells : MethodName := ⟨RX7, "smells", "(II)I"⟩
abbrev cX7_says : ByteArray := prog_9_method_42_code
def yX7_says : MethodName := ⟨RX7, "says", "(II)I"⟩
abbrev cX7_laysBy : ByteArray := prog_9_method_43_code
def yX7_laysBy : MethodName := ⟨RX7, "laysBy", "()V"⟩
abbrev cX7_laysBack : ByteArray := prog_9_method_44_code
def yX7_laysBack : MethodName := ⟨RX7, "laysBack", "()V"⟩
abbrev cX7_goesOnMany : ByteArray := prog_9_method_45_code
def yX7_goesOnMany : MethodName := ⟨RX7, "goesOnMany", "(I)V"⟩
abbrev cX7_behind : ByteArray := prog_9_method_46_code
def yX7_behind : MethodName := ⟨RX7, "behind", "(III)I"⟩
abbrev cX7_first : ByteArray := prog_9_method_47_code
def yX7_first : MethodName := ⟨RX7, "first", "(III)I"⟩
abbrev cX7_lasts : ByteArray := prog_9_method_48_code
def yX7_lasts : MethodName := ⟨RX7, "lasts", "(IIII)I"⟩
abbrev cX7_ones : ByteArray := prog_9_method_49_code
def yX7_ones : MethodName := ⟨RX7, "ones", "(I)I"⟩
abbrev cX7_whispers : ByteArray := prog_9_method_50_code
def yX7_whispers : MethodName := ⟨RX7, "whispers", "(III)I"⟩
abbrev cX7_dumb : ByteArray := prog_9_method_51_code
def yX7_dumb : MethodName := ⟨RX7, "dumb", "(II)I"⟩
abbrev cX7_secret : ByteArray := prog_9_method_52_code
def yX7_secret : MethodName := ⟨RX7, "secret", "(II)I"⟩
abbrev cX7_leftOf : ByteArray := prog_9_method_53_code
def yX7_leftOf : MethodName := ⟨RX7, "leftOf", "(IIII)I"⟩
abbrev cX7_leastOf : ByteArray := prog_9_method_54_code
def yX7_leastOf : MethodName := ⟨RX7, "leastOf", "(IIII)I"⟩
abbrev cX7_least : ByteArray := prog_9_method_55_code
def yX7_least : MethodName := ⟨RX7, "least", "(IIII)I"⟩
abbrev cX7_letter : ByteArray := prog_9_method_56_code
def yX7_letter : MethodName := ⟨RX7, "letter", "(IIII)I"⟩
abbrev cX7_allOn : ByteArray := prog_9_method_57_code
def yX7_allOn : MethodName := ⟨RX7, "allOn", "(I)I"⟩
abbrev cX7_price : ByteArray := prog_9_method_58_code
def yX7_price : MethodName := ⟨RX7, "price", "(I)I"⟩
abbrev cX7_saidOr : ByteArray := prog_9_method_59_code
def yX7_saidOr : MethodName := ⟨RX7, "saidOr", "(I)I"⟩
abbrev cX7_lie : ByteArray := prog_9_method_60_code
def yX7_lie : MethodName := ⟨RX7, "lie", "(I)I"⟩
abbrev cX7_feed : ByteArray := prog_9_method_61_code
def yX7_feed : MethodName := ⟨RX7, "feed", "(III)I"⟩
abbrev cX7_trim : ByteArray := prog_9_method_62_code
def yX7_trim : MethodName := ⟨RX7, "trim", "(I)I"⟩
abbrev cX7_isLetter : ByteArray := prog_9_method_63_code
def yX7_isLetter : MethodName := ⟨RX7, "isLetter", "(I)Z"⟩
abbrev cX7_isDigit : ByteArray := prog_9_method_64_code
def yX7_isDigit : MethodName := ⟨RX7, "isDigit", "(I)Z"⟩
abbrev cX7_nextToken : ByteArray := prog_9_method_65_code
def yX7_nextToken : MethodName := ⟨RX7, "nextToken", "()V"⟩
abbrev cX7_isSign : ByteArray := prog_9_method_66_code
def yX7_isSign : MethodName := ⟨RX7, "isSign", "(I)Z"⟩
abbrev cX7_isWordAt : ByteArray := prog_9_method_67_code
def yX7_isWordAt : MethodName := ⟨RX7, "isWordAt", "(IIII)Z"⟩
abbrev cX7_isLong : ByteArray := prog_9_method_68_code
def yX7_isLong : MethodName := ⟨RX7, "isLong", "(IIIIII)Z"⟩
abbrev cX7_key : ByteArray := prog_9_method_69_code
def yX7_key : MethodName := ⟨RX7, "key", "()I"⟩
abbrev cX7_isName : ByteArray := prog_9_method_70_code
def yX7_isName : MethodName := ⟨RX7, "isName", "(II)Z"⟩
abbrev cX7_step : ByteArray := prog_9_method_71_code
def yX7_step : MethodName := ⟨RX7, "step", "(II)V"⟩
abbrev cX7_either : ByteArray := prog_9_method_72_code
def yX7_either : MethodName := ⟨RX7, "either", "(I)Z"⟩
abbrev cX7_both : ByteArray := prog_9_method_73_code
def yX7_both : MethodName := ⟨RX7, "both", "(I)Z"⟩
abbrev cX7_test : ByteArray := prog_9_method_74_code
def yX7_test : MethodName := ⟨RX7, "test", "(I)Z"⟩
abbrev cX7_sum : ByteArray := prog_9_method_75_code
def yX7_sum : MethodName := ⟨RX7, "sum", "(I)Z"⟩
abbrev cX7_term : ByteArray := prog_9_method_76_code
def yX7_term : MethodName := ⟨RX7, "term", "(I)Z"⟩
abbrev cX7_part0 : ByteArray := prog_9_method_77_code
def yX7_part0 : MethodName := ⟨RX7, "part0", "(I)Z"⟩
abbrev cX7_parse : ByteArray := prog_9_method_78_code
def yX7_parse : MethodName := ⟨RX7, "parse", "()I"⟩
abbrev cX7_text : ByteArray := prog_9_method_79_code
def yX7_text : MethodName := ⟨RX7, "text", "()I"⟩
abbrev cX7_textTold : ByteArray := prog_9_method_80_code
def yX7_textTold : MethodName := ⟨RX7, "textTold", "(II)I"⟩
abbrev cX7_counts : ByteArray := prog_9_method_81_code
def yX7_counts : MethodName := ⟨RX7, "counts", "(I)I"⟩
abbrev cX7_why : ByteArray := prog_9_method_82_code
def yX7_why : MethodName := ⟨RX7, "why", "(I)I"⟩
abbrev cX7_joined : ByteArray := prog_9_method_83_code
def yX7_joined : MethodName := ⟨RX7, "joined", "(III)I"⟩
abbrev cX7_worked : ByteArray := prog_9_method_84_code
def yX7_worked : MethodName := ⟨RX7, "worked", "(I)I"⟩
abbrev cX7_isSheet : ByteArray := prog_9_method_85_code
def yX7_isSheet : MethodName := ⟨RX7, "isSheet", "(I)Z"⟩
abbrev cX7_sheet : ByteArray := prog_9_method_86_code
def yX7_sheet : MethodName := ⟨RX7, "sheet", "(III)I"⟩
abbrev cX7_mark : ByteArray := prog_9_method_87_code
def yX7_mark : MethodName := ⟨RX7, "mark", "(III)I"⟩
abbrev cX7_pour : ByteArray := prog_9_method_88_code
def yX7_pour : MethodName := ⟨RX7, "pour", "(II)I"⟩
abbrev cX7_dated : ByteArray := prog_9_method_89_code
def yX7_dated : MethodName := ⟨RX7, "dated", "(IIII)I"⟩
abbrev cX7_copy : ByteArray := prog_9_method_90_code
def yX7_copy : MethodName := ⟨RX7, "copy", "(IIIII)I"⟩
abbrev cX7_isSlot : ByteArray := prog_9_method_91_code
def yX7_isSlot : MethodName := ⟨RX7, "isSlot", "(I)Z"⟩
abbrev cX7_lay : ByteArray := prog_9_method_92_code
def yX7_lay : MethodName := ⟨RX7, "lay", "(III)I"⟩
abbrev cX7_ask : ByteArray := prog_9_method_93_code
def yX7_ask : MethodName := ⟨RX7, "ask", "(II)I"⟩
abbrev cX7_item : ByteArray := prog_9_method_94_code
def yX7_item : MethodName := ⟨RX7, "item", "(II)I"⟩
abbrev cX7_rest : ByteArray := prog_9_method_95_code
def yX7_rest : MethodName := ⟨RX7, "rest", "(II)I"⟩
abbrev cX7_tell : ByteArray := prog_9_method_96_code
def yX7_tell : MethodName := ⟨RX7, "tell", "(I)I"⟩
abbrev cX7_setAside : ByteArray := prog_9_method_97_code
def yX7_setAside : MethodName := ⟨RX7, "setAside", "([I[I)V"⟩
abbrev cX7_check : ByteArray := prog_9_method_98_code
def yX7_check : MethodName := ⟨RX7, "check", "(II)I"⟩
abbrev cX7_keep : ByteArray := prog_9_method_99_code
def yX7_keep : MethodName := ⟨RX7, "keep", "()I"⟩
abbrev cX7_back : ByteArray := prog_9_method_100_code
def yX7_back : MethodName := ⟨RX7, "back", "()I"⟩
abbrev cX7_allStrengths : ByteArray := prog_9_method_101_code
def yX7_allStrengths : MethodName := ⟨RX7, "allStrengths", "()I"⟩
abbrev cX7_count : ByteArray := prog_9_method_102_code
def yX7_count : MethodName := ⟨RX7, "count", "(I)I"⟩
abbrev cJ6_bitCount_0f7a4 : ByteArray := prog_11_method_49_code
def yJ6_bitCount_0f7a4 : MethodName := ⟨RJ6, "bitCount", "(I)I"⟩
abbrev cJ0_length_8abf5 : ByteArray := prog_13_method_54_code
def yJ0_length_8abf5 : MethodName := ⟨RJ0, "length", "()I"⟩
abbrev cJ0_charAt_5068e : ByteArray := prog_13_method_56_code
def yJ0_charAt_5068e : MethodName := ⟨RJ0, "charAt", "(I)C"⟩
abbrev cJ0_indexOf_0f7a4 : ByteArray := prog_13_method_79_code
def yJ0_indexOf_0f7a4 : MethodName := ⟨RJ0, "indexOf", "(I)I"⟩
abbrev cJ0_indexOf_7cf53 : ByteArray := prog_13_method_80_code
def yJ0_indexOf_7cf53 : MethodName := ⟨RJ0, "indexOf", "(II)I"⟩
abbrev cJ0_coder_7d493 : ByteArray := prog_13_method_152_code
def yJ0_coder_7d493 : MethodName := ⟨RJ0, "coder", "()B"⟩
abbrev cJ0_isLatin1_aae02 : ByteArray := prog_13_method_154_code
def yJ0_isLatin1_aae02 : MethodName := ⟨RJ0, "isLatin1", "()Z"⟩
abbrev cJ0_checkIndex_df160 : ByteArray := prog_13_method_155_code
def yJ0_checkIndex_df160 : MethodName := ⟨RJ0, "checkIndex", "(II)V"⟩
abbrev cJ1_charAt_3b067 : ByteArray := prog_14_method_2_code
def yJ1_charAt_3b067 : MethodName := ⟨RJ1, "charAt", "([BI)C"⟩
abbrev cJ1_canEncode_9a6ad : ByteArray := prog_14_method_4_code
def yJ1_canEncode_9a6ad : MethodName := ⟨RJ1, "canEncode", "(I)Z"⟩
abbrev cJ1_indexOf_4cfef : ByteArray := prog_14_method_22_code
def yJ1_indexOf_4cfef : MethodName := ⟨RJ1, "indexOf", "([BIII)I"⟩
abbrev cJ1_indexOfChar_4cfef : ByteArray := prog_14_method_23_code
def yJ1_indexOfChar_4cfef : MethodName := ⟨RJ1, "indexOfChar", "([BIII)I"⟩
abbrev cJ7_fill_53178 : ByteArray := prog_17_method_103_code
def yJ7_fill_53178 : MethodName := ⟨RJ7, "fill", "([II)V"⟩
abbrev cJ3_checkIndex_8e157 : ByteArray := prog_18_method_11_code
def yJ3_checkIndex_8e157 : MethodName := ⟨RJ3, "checkIndex", "(IILjava/util/function/BiFunction;)I"⟩
abbrev sk_cl : List vw_C := [(RX0, TX0, 9), (RX1, TX1, 3), (RX2, TX2, 5), (RX3, TX3, 5), (RX4, TX4, 4), (RX5, TX5, 16), (RX6, TX6, 13), (RX7, TX7, 33)]
end
section
/-! THE UNIFORM WORLD: after the two constructors the heap's shape never changes; object o lies at sk_ad g o, and its ints are M o. -/
abbrev sk_M : Type := Nat → Nat → Int32
def sk_uA (M : sk_M) (o : Nat) (f : Nat → Int32) : sk_M := fun a => if a = o then f else M a
def sk_u (M : sk_M) (o j : Nat) (v : Int32) : sk_M := sk_uA M o (upd (M o) j v)
def sk_tab : List (Nat × Nat) := [(16, 13), (2, 4), (3, 5), (0, 60), (0, 9), (0, 125), (14, 4), (0, 9), (14, 4), (0, 9), (15, 16), (0, 9), (0, 9), (0, 9), (0, 4), (0, 12), (0, 6), (1, 6), (0, 3), (0, 1000), (0, 9), (0, 9), (0, 9), (0, 9), (0, 9), (0, 9), (15, 16), (0, 9), (0, 9), (0, 9), (0, 4), (0, 12), (0, 6), (1, 6), (0, 3), (0, 1000), (0, 9), (0, 9), (0, 9), (0, 9), (0, 9), (0, 9), (13, 5), (1, 14), (0, 14), (0, 14), (0, 14), (0, 96), (0, 96), (0, 96), (0, 96), (0, 96), (0, 96), (0, 96), (0, 96), (0, 96), (0, 96), (0, 96), (0, 96), (0, 96), (0, 96), (0, 96), (10, 9), (0, 96), (0, 96), (11, 3), (0, 24), (11, 3), (0, 24), (11, 3), (0, 24), (11, 3), (0, 24), (12, 5), (11, 3), (0, 24), (12, 5), (11, 3), (0, 24), (12, 5), (11, 3), (0, 24), (12, 5), (11, 3), (0, 24), (12, 5), (11, 3), (0, 24), (17, 33), (0, 3109), (0, 3109), (0, 3109), (0, 4), (0, 4), (0, 96), (0, 5), (0, 5), (0, 5), (0, 5), (0, 120), (0, 109), (0, 9), (0, 96), (0, 128), (0, 100), (0, 130), (0, 24), (0, 60), (0, 60)]
def sk_kd (o : Nat) : Nat × Nat := sk_tab.getD o (9, 0)
def sk_mf : List Nat := [89, 90, 91, 0, 92, 93, 94, 95, 96, 97, 98, 99, 100, 101, 102, 0, 0, 0, 0, 0, 0, 0, 0, 0, 0, 0, 103, 104, 105, 106, 107, 0, 108]
def sk_rf (o j : Nat) : Nat := if o = 0 then [10, 26, 6, 8, 42, 62, 1, 2, 3, 4, 5].getD j 0 else if o = 1 then 65 + 2 * j else if o = 2 then 73 + 3 * j else if o = 6 then (if j = 0 then 10 else 7) else if o = 8 then (if j = 0 then 26 else 9) else if o = 10 then (if j = 0 then 42 else 10 + j) else if o = 26 then (if j = 0 then 42 else 26 + j) else if o = 17 then 20 + j else if o = 33 then 36 + j else if o = 42 then 43 + j else if o = 43 then 48 + j else if o = 62 then 63 + j else if o = 88 then sk_mf.getD j 0 else o + 1
def sk_isR (ci j : Nat) : Bool := if ci = 7 then !(j == 3 || (decide (15 ≤ j) && decide (j ≤ 25)) || j == 31) else decide (j < [2, 1, 1, 5, 2, 10, 11].getD ci 0)
abbrev sk_G : Type := (Nat → Nat) × va_G × (Nat → ClassId) × (Nat → Nat) × (Nat → Nat) × Nat
def sk_ad (g : sk_G) : Nat → Nat := g.1
def sk_D (g : sk_G) : va_G := g.2.1
def sk_ac (g : sk_G) : Nat → ClassId := g.2.2.1
def sk_aK (g : sk_G) : Nat → Nat := g.2.2.2.1
def sk_aV (g : sk_G) : Nat → Nat := g.2.2.2.2.1
def sk_ka (g : sk_G) : Nat := g.2.2.2.2.2
def sk_fv (g : sk_G) (o ci : Nat) (r : Nat → Int32) (j : Nat) : Value := if sk_isR ci j = true then Value.ref (sk_ad g (sk_rf o j)) else Value.int (r j)
def sk_en (g : sk_G) (o : Nat) (r : Nat → Int32) : va_E :=
  if (sk_kd o).1 = 0 then .inl (sk_ac g 0, (sk_kd o).2, .inl r)
  else if (sk_kd o).1 < 10 then .inl (sk_ac g (sk_kd o).1, (sk_kd o).2, .inr (.inr (.inr (.inr (fun i => some (sk_ad g (sk_rf o i)))))))
  else .inr ((sk_kd o).1 - 10, (List.range (sk_kd o).2).map (sk_fv g o ((sk_kd o).1 - 10) r))
def sk_ws (g : sk_G) (M : sk_M) : va_W := (List.range 109).map (fun o => (sk_ad g o, sk_en g o (M o)))
def sk_P (g : sk_G) (M : sk_M) (H : Heap) : Prop := va_P (sk_D g) sk_cl (sk_ws g M) H
def sk_A (g : sk_G) : Nat → Prop := fun q => ∃ o : Nat, o < 109 ∧ q = sk_ad g o
def sk_ty (g : sk_G) : List (ClassId × FieldType) := [(sk_ac g 0, .int), (sk_ac g 1, .array .int), (sk_ac g 2, .object RX1), (sk_ac g 3, .object RX2)]
/-- what is known of the tables, and that the objects are apart -/
def sk_K (g : sk_G) (U : State) : Prop := va_K (sk_D g) sk_cl (sk_ty g) U ∧ ∀ i j : Nat, i < 109 → j < 109 → sk_ad g i = sk_ad g j → i = j
/-- the string constants, and the statics: nobody writes them -/
def sk_sx : List (Nat × String) := [(61, "fade"), (67, "price"), (69, "lie"), (83, "|"), (85, "&"), (87, "<=>"), (89, "+-"), (91, "*/"), (108, "!"), (110, "("), (112, ")"), (127, "spw"), (129, "tn"), (131, "dn")]
def sk_sl : List Nat := [4, 5, 3, 1, 1, 3, 2, 2, 1, 1, 1, 3, 2, 2]
def sk_sb : List (List Int32) := [[102, 97, 100, 101], [112, 114, 105, 99, 101], [108, 105, 101], [124], [38], [60, 61, 62], [43, 45], [42, 47], [33], [40], [41], [115, 112, 119], [116, 110], [100, 110]]
def sk_ab : List Int32 := [-1, 0, 0, 1, 2, 0]
def sk_E (g : sk_G) (U : State) (H : Heap) : Prop :=
  va_Z "ScentCloth" "KIND_ABOVE" "[I" (.ref (sk_ka g)) (sk_A g) U H ∧ va_T .int (sk_ka g) 6 (fun j => .int (sk_ab.getD j 0)) (sk_A g) U H ∧
  va_Z "java/lang/String" "COMPACT_STRINGS" "Z" (.int 1) (sk_A g) U H ∧ va_Zq "jdk/internal/util/Preconditions" "SIOOBE_FORMATTER" "Ljava/util/function/BiFunction;" (sk_A g) U H ∧
  vk_S 14 sk_sl sk_sb (sk_aK g) (sk_aV g) (sk_A g) U H ∧ ∀ i : Nat, i < 14 → vk_R RX0 (sk_sx.getD i (0, "")).1 (sk_sx.getD i (0, "")).2 (sk_aK g i) U
theorem sk_ws_at (g : sk_G) (M : sk_M) {o : Nat} (h : o < 109) : (sk_ws g M)[o]? = some (sk_ad g o, sk_en g o (M o)) := by
  simp [sk_ws, h]
theorem sk_uA_self (M : sk_M) (o : Nat) (f : Nat → Int32) : sk_uA M o f o = f := if_pos rfl
theorem sk_uA_ne (M : sk_M) {o a : Nat} (f : Nat → Int32) (h : a ≠ o) : sk_uA M o f a = M a := if_neg h
theorem sk_ws_set (g : sk_G) (M : sk_M) {o : Nat} (h : o < 109) (f : Nat → Int32) : (sk_ws g M).set o (sk_ad g o, sk_en g o f) = sk_ws g (sk_uA M o f) := by
  apply List.ext_getElem?
  intro k
  by_cases hk : k < 109
  · by_cases e : k = o
    · subst e
      rw [sk_ws_at g _ hk, sk_uA_self, List.getElem?_set_self (by simpa [sk_ws] using hk)]
    · rw [sk_ws_at g _ hk, sk_uA_ne _ _ e, List.getElem?_set_ne (Ne.symm e), sk_ws_at g _ hk]
  · rw [List.getElem?_eq_none (by simpa [sk_ws] using hk), List.getElem?_eq_none (by simpa [sk_ws] using hk)]
theorem sk_en_i {g : sk_G} {o n : Nat} {r : Nat → Int32} (h : sk_kd o = (0, n)) : sk_en g o r = .inl (sk_ac g 0, n, .inl r) := by
  simp [sk_en, h]
theorem sk_en_q {g : sk_G} {o k n : Nat} {r : Nat → Int32} (h : sk_kd o = (k + 1, n)) (hk : k < 9) : sk_en g o r = .inl (sk_ac g (k + 1), n, .inr (.inr (.inr (.inr (fun i => some (sk_ad g (sk_rf o i))))))) := by
  simp [sk_en, h]
  omega
theorem sk_en_o {g : sk_G} {o ci n : Nat} {r : Nat → Int32} (h : sk_kd o = (10 + ci, n)) : sk_en g o r = .inr (ci, (List.range n).map (sk_fv g o ci r)) := by
  simp [sk_en, h]
theorem sk_lt {o k n : Nat} (h : sk_kd o = (k, n)) (hk : k ≠ 9) : o < 109 := by
  rcases Nat.lt_or_ge o 109 with q | q
  · exact q
  · exfalso
    apply hk
    have : sk_kd o = (9, 0) := by
      unfold sk_kd
      rw [List.getD_eq_getElem?_getD, List.getElem?_eq_none (by show sk_tab.length ≤ o; exact q)]
      rfl
    rw [this] at h
    exact (Prod.mk.inj h).1.symm
theorem sk_Dd {g : sk_G} {U : State} (h : sk_K g U) (M : sk_M) : va_D (sk_A g) (sk_ws g M) := by
  have key : ∀ (k : Nat) (q : Nat × va_E), (sk_ws g M)[k]? = some q → k < 109 ∧ q.1 = sk_ad g k := by
    intro k q hk
    by_cases hl : k < 109
    · rw [sk_ws_at g M hl] at hk
      cases hk
      exact ⟨hl, rfl⟩
    · rw [List.getElem?_eq_none (by simpa [sk_ws] using hl)] at hk
      cases hk
  refine ⟨fun i j p q hi hj e => ?_, fun k q hk => ?_⟩
  · obtain ⟨h1, h2⟩ := key i p hi
    obtain ⟨h3, h4⟩ := key j q hj
    exact h.2 i j h1 h3 (h2.symm.trans (e.trans h4))
  · obtain ⟨h1, h2⟩ := key k q hk
    exact ⟨k, h1, h2⟩
theorem sk_K.moved {g : sk_G} {u U : State} (hvm : u.vm.Alike U.vm) (h : sk_K g u) : sk_K g U := ⟨va_K.moved hvm h.1, h.2⟩
theorem sk_E.next {g : sk_G} {s U : State} {H : Heap} {locs : List Loc} (h : sk_E g s s.heap) (hS : va_S (sk_A g) s.heap H locs) (hU : U.heap = H) (hW : s.WarmedH U.vm) : sk_E g U U.heap := by
  obtain ⟨h1, h2, h3, h4, h5, h6⟩ := h
  have hq : ∀ a : Nat, a < s.heap.size → ¬ sk_A g a → U.heap[a]? = s.heap[a]? := fun a z1 z2 => by rw [hU]; exact hS.2.1 a z1 z2
  exact ⟨(va_Z.moved hW.alike h1).kept hq, (va_T.moved hW.alike h2).kept hq, (va_Z.moved hW.alike h3).kept hq, (va_Zq.moved hW.alike h4).kept hq, (vk_S.moved hW.alike h5).kept hq, fun i hi => (h6 i hi).warm hW⟩
theorem sk_E.same {g : sk_G} {u U : State} (hvm : U.vm = u.vm) (hh : U.heap = u.heap) (h : sk_E g u u.heap) : sk_E g U U.heap := by
  obtain ⟨h1, h2, h3, h4, h5, h6⟩ := h
  have ha : u.vm.Alike U.vm := by rw [hvm]; exact Vm.Alike.refl _
  rw [hh]
  exact ⟨va_Z.moved ha h1, va_T.moved ha h2, va_Z.moved ha h3, va_Zq.moved ha h4, vk_S.moved ha h5, fun i hi => (h6 i hi).same hvm⟩
-- the words that a method takes along
def sk_W : List Cond := lw_tbl.filter goodWord
theorem sk_m {i : Nat} {w : Cond} (h : lw_tbl[i]? = some w) (hg : goodWord w = true) : w ∈ sk_W := List.mem_filter.mpr ⟨List.mem_of_getElem? h, hg⟩
theorem sk_good {w0 : Cond} (h0 : w0 ∈ sk_W) : GoodIn sk_W (w0 :: sk_W) := by
  have key : ∀ w ∈ sk_W, w ∈ sk_W ∧ ((w.onTables && w.keeps) = true ∨ ∃ ty, w = .arrayClass ty) := fun w hw => ⟨hw, good_of_word (List.mem_filter.mp hw).2⟩
  intro w hw
  rcases List.mem_cons.mp hw with rfl | hw
  · exact key _ h0
  · exact key _ hw
def sk_rm (d : Nat) : Room := { frames := d, cells := 0, slots := 0, locals := 40 * d }
/-- what stays the same over a method's body -/
def sk_C (g : sk_G) (p : Program) (s : State) (m : MethodId) (args : Array Value) (meth : Method) (c : Code) (cc : ByteArray) (nL : Nat) (own : String) (ret : Option FieldType) : Prop :=
  p.tables.exec = Jvm.exec ∧ c.code = cc ∧ c.maxLocals = nL ∧ s.vm.findClass own = some m.cls ∧ (∀ w ∈ sk_W, w.before args s = true) ∧ sk_K g s ∧ sk_E g s s.heap ∧ meth.sig.returnType = ret ∧ meth.locks = false
def sk_Pc (g : sk_G) (M : sk_M) (U : State) : Prop := sk_P g M U.heap ∧ sk_K g U ∧ sk_E g U U.heap
abbrev sk_QI (g : sk_G) (r : Int32) (M' : sk_M) : Array Value → State → Outcome → State → Prop := va_Qi (fun r' (M'' : sk_M) => r' = r ∧ M'' = M') (fun u t => sk_P g u t.heap) (sk_A g)
abbrev sk_QV (g : sk_G) (M' : sk_M) : Array Value → State → Outcome → State → Prop := va_Qv (fun (M'' : sk_M) => M'' = M') (fun u t => sk_P g u t.heap) (sk_A g)
abbrev sk_QS (g : sk_G) (i : Nat) (M' : sk_M) : Array Value → State → Outcome → State → Prop := va_Qr (fun (M'' : sk_M) => M'' = M') (fun u a t => a = sk_aK g i ∧ sk_P g u t.heap) (sk_A g)
abbrev sk_Met (g : sk_G) (l : Launch) (y : MethodName) (cy : ByteArray) (ny : Nat) (ret : Option FieldType) (d : Nat) (av : List Value) (M : sk_M) (Qc : Array Value → State → Outcome → State → Prop) : Prop :=
  Met l y (Cond.code y cy ny ret :: sk_W) (sk_rm d) (va_Pc av (sk_Pc g M)) Qc 0 0 (sk_A g)
def sk_MI (g : sk_G) (l : Launch) (y : MethodName) (cy : ByteArray) (ny : Nat) (ret : Option FieldType) (d : Nat) (av : List Value) (M : sk_M) (r : Int32) (M' : sk_M) : Prop := sk_Met g l y cy ny ret d av M (sk_QI g r M')
def sk_MV (g : sk_G) (l : Launch) (y : MethodName) (cy : ByteArray) (ny : Nat) (ret : Option FieldType) (d : Nat) (av : List Value) (M : sk_M) (M' : sk_M) : Prop := sk_Met g l y cy ny ret d av M (sk_QV g M')
def sk_MS (g : sk_G) (l : Launch) (y : MethodName) (cy : ByteArray) (ny : Nat) (ret : Option FieldType) (d : Nat) (av : List Value) (M : sk_M) (i : Nat) (M' : sk_M) : Prop := sk_Met g l y cy ny ret d av M (sk_QS g i M')
theorem sk_start {g : sk_G} {l : Launch} {y : MethodName} {cy : ByteArray} {ny : Nat} {ret : Option FieldType} {d : Nat} {av : List Value} {M : sk_M} {Qc : Array Value → State → Outcome → State → Prop}
    (hy : plainName y.cls = true) (hn : (lg_sl av).length ≤ ny)
    (body : ∀ (p : Program) (e : Env) (s : State) (m : MethodId) (below : List Frame) (meth : Method) (c : Code), sk_C g p s m av.toArray meth c cy ny y.cls ret → ∀ ls : Array Slot, lv_has ls ny (lv_args 0 av) → sk_P g M s.heap → va_S (sk_A g) s.heap s.heap [] →
      W p l e (sk_rm d) s m av.toArray below meth c s.heap [] 0 0 (MQ below Qc av.toArray s 0 0 (sk_A g)) (F0 m 0 ls [])) : sk_Met g l y cy ny ret d av M Qc := by
  refine Met.ofW (cc := cy) (maxL := ny) (ret := ret) hy rfl ?_
  intro p e s m args below meth c s₁ B hml hv
  obtain ⟨rfl, hP, hK, hE⟩ := hv
  have hts := atoms_spec (ws := Cond.code y cy ny ret :: sk_W) B.pre
  have hl := lv_entry av (n := ny) hn
  rw [lg_entry_eq]
  exact body p e s m below meth c ⟨B.exec, B.bytes, hml, findClass_of_methodNamed B.named, fun w hw => hts w (List.mem_cons_of_mem _ hw), hK, hE, B.returns, B.notSynchronized⟩ _ hl hP va_S.rf
theorem sk_blind {g : sk_G} {M : sk_M} {av : List Value} : FrameBlind (va_Pc av (sk_Pc g M)) := by
  intro a U fr mk q
  obtain ⟨q0, qP, qK, qE⟩ := q
  exact ⟨q0, qP, sk_K.moved (u := U) (U := U.calling fr mk a) (Vm.Alike.refl U.vm) qK, sk_E.same (u := U) (U := U.calling fr mk a) rfl rfl qE⟩
-- checks, names, binds
def sk_in (i : Int32) (n : Nat) : Bool := !(decide (i < 0)) && decide (i.toNatClampNeg < n)
theorem sk_in_vp {i : Int32} {n : Nat} (h : sk_in i n = true) : vp_in i n := by
  simp only [sk_in, Bool.and_eq_true, Bool.not_eq_true', decide_eq_false_iff_not, decide_eq_true_eq] at h
  intro q
  rcases q with q | q
  · exact h.1 q
  · omega
theorem sk_in_lt {i : Int32} {n : Nat} (h : sk_in i n = true) : i.toNatClampNeg < n := by
  simp only [sk_in, Bool.and_eq_true, decide_eq_true_eq] at h
  exact h.2
def sk_chk {α : Type} (b : Bool) (x : Option α) : Option α := if b = true then x else none
theorem sk_chkE {α : Type} {b : Bool} {x : Option α} {r : α} (h : sk_chk b x = some r) : b = true ∧ x = some r := by
  unfold sk_chk at h
  by_cases q : b = true
  · rw [if_pos q] at h
    exact ⟨q, h⟩
  · rw [if_neg q] at h
    cases h
def sk_let {α β : Type} (x : α) (f : α → β) : β := f x
theorem sk_letU {α β : Type} {x y : α} {f : α → β} {r : β} (h : sk_let x f = r) (e : y = x) : f y = r := by rw [e]; exact h
theorem sk_pos {α : Type} {c : Prop} [Decidable c] {a b r : α} (h : (if c then a else b) = r) (hc : c) : a = r := by rw [if_pos hc] at h; exact h
theorem sk_neg {α : Type} {c : Prop} [Decidable c] {a b r : α} (h : (if c then a else b) = r) (hc : ¬ c) : b = r := by rw [if_neg hc] at h; exact h
def sk_b1 {α β : Type} (x : Option α) (f : α → Option β) : Option β := x.bind f
def sk_b2 {α α2 β : Type} (x : Option (α × α2)) (f : α → α2 → Option β) : Option β := x.bind (fun u => f u.1 u.2)
def sk_b3 {α α2 α3 β : Type} (x : Option (α × α2 × α3)) (f : α → α2 → α3 → Option β) : Option β := x.bind (fun u => f u.1 u.2.1 u.2.2)
def sk_b4 {α α2 α3 α4 β : Type} (x : Option (α × α2 × α3 × α4)) (f : α → α2 → α3 → α4 → Option β) : Option β := x.bind (fun u => f u.1 u.2.1 u.2.2.1 u.2.2.2)
def sk_b5 {α α2 α3 α4 α5 β : Type} (x : Option (α × α2 × α3 × α4 × α5)) (f : α → α2 → α3 → α4 → α5 → Option β) : Option β := x.bind (fun u => f u.1 u.2.1 u.2.2.1 u.2.2.2.1 u.2.2.2.2)
theorem sk_b1E {α β : Type} {x : Option α} {f : α → Option β} {r : β} (h : sk_b1 x f = some r) : ∃ a, x = some a ∧ f a = some r := by
  cases x with
  | none => cases h
  | some a => exact ⟨a, rfl, h⟩
theorem sk_b2E {α α2 β : Type} {x : Option (α × α2)} {f : α → α2 → Option β} {r : β} (h : sk_b2 x f = some r) : ∃ a b, x = some (a, b) ∧ f a b = some r := by
  cases x with
  | none => cases h
  | some a => exact ⟨a.1, a.2, rfl, h⟩
theorem sk_b3E {α α2 α3 β : Type} {x : Option (α × α2 × α3)} {f : α → α2 → α3 → Option β} {r : β} (h : sk_b3 x f = some r) : ∃ a b c, x = some (a, b, c) ∧ f a b c = some r := by
  cases x with
  | none => cases h
  | some a => exact ⟨a.1, a.2.1, a.2.2, rfl, h⟩
theorem sk_b4E {α α2 α3 α4 β : Type} {x : Option (α × α2 × α3 × α4)} {f : α → α2 → α3 → α4 → Option β} {r : β} (h : sk_b4 x f = some r) : ∃ a b c d, x = some (a, b, c, d) ∧ f a b c d = some r := by
  cases x with
  | none => cases h
  | some a => exact ⟨a.1, a.2.1, a.2.2.1, a.2.2.2, rfl, h⟩
theorem sk_b5E {α α2 α3 α4 α5 β : Type} {x : Option (α × α2 × α3 × α4 × α5)} {f : α → α2 → α3 → α4 → α5 → Option β} {r : β} (h : sk_b5 x f = some r) : ∃ a b c d e, x = some (a, b, c, d, e) ∧ f a b c d e = some r := by
  cases x with
  | none => cases h
  | some a => exact ⟨a.1, a.2.1, a.2.2.1, a.2.2.2.1, a.2.2.2.2, rfl, h⟩
/-- a loop's end: its method has returned, or it goes on behind the loop -/
def sk_s {ρ α : Type} (x : Option (ρ ⊕ α)) (f : α → Option ρ) : Option ρ := match x with
  | none => none
  | some (.inl r) => some r
  | some (.inr a) => f a
theorem sk_sE {ρ α : Type} {x : Option (ρ ⊕ α)} {f : α → Option ρ} {r : ρ} (h : sk_s x f = some r) : x = some (.inl r) ∨ ∃ a, x = some (.inr a) ∧ f a = some r := by
  cases x with
  | none => cases h
  | some u =>
    cases u with
    | inl q => exact Or.inl (by rw [Option.some.inj (show some q = some r from h)])
    | inr a => exact Or.inr ⟨a, rfl, h⟩
def sk_FU : Nat := 4000
end
section
section SKR
variable {p : Program} {l : Launch} {e : Env} {R : Room} {s : State} {m : MethodId} {args : Array Value} {below : List Frame} {meth : Method} {c : Code} {H : Heap} {locs : List Loc} {Q : State → Prop}
variable {g : sk_G} {cc : ByteArray} {nL : Nat} {own : String} {ret : Option FieldType} {pc : Nat} {ls : Array Slot} {rest : List Value} {M : sk_M} {cells slots : Nat}
theorem sk_iald (C : sk_C g p s m args meth c cc nL own ret) (hM : sk_P g M H) {o n : Nat} (ho : sk_kd o = (0, n)) {i : Int32} (hin : sk_in i n = true) (hdg : decode cc pc = .ok (.iaload, 1))
    (kk : W p l e R s m args below meth c H locs cells slots Q (F0 m (pc + 1) ls (.int (M o i.toNatClampNeg) :: rest))) : W p l e R s m args below meth c H locs cells slots Q (F0 m pc ls (.int i :: .ref (sk_ad g o) :: rest)) := by
  obtain ⟨hx, hb, hml, hown, hts, hK, hE, hr, hlocks⟩ := C
  exact va_iald (D := sk_D g) (cl := sk_cl) (tys := sk_ty g) (f := M o) (cA := sk_ac g 0) hx hb hK.1 hM o 0 (by rw [sk_ws_at g M (sk_lt ho (by decide)), sk_en_i ho]) rfl (sk_in_vp hin) hdg kk
theorem sk_alen (C : sk_C g p s m args meth c cc nL own ret) (hM : sk_P g M H) {o n : Nat} (ho : sk_kd o = (0, n)) {v : Int32} (hv : Int32.ofNat n = v) (hdg : decode cc pc = .ok (.arraylength, 1))
    (kk : W p l e R s m args below meth c H locs cells slots Q (F0 m (pc + 1) ls (.int v :: rest))) : W p l e R s m args below meth c H locs cells slots Q (F0 m pc ls (.ref (sk_ad g o) :: rest)) := by
  obtain ⟨hx, hb, hml, hown, hts, hK, hE, hr, hlocks⟩ := C
  exact va_alen (D := sk_D g) (cl := sk_cl) (tys := sk_ty g) (x := (n, .inl (M o))) (cA := sk_ac g 0) (ty := .int) hx hb hK.1 hM o 0 (by rw [sk_ws_at g M (sk_lt ho (by decide)), sk_en_i ho]) rfl hv hdg kk
theorem sk_iast (C : sk_C g p s m args meth c cc nL own ret) (hM : sk_P g M H) (hS : va_S (sk_A g) s.heap H locs) {o n : Nat} (ho : sk_kd o = (0, n)) {i x : Int32} (hin : sk_in i n = true) (hdg : decode cc pc = .ok (.iastore, 1))
    (kk : ∀ (M1 : sk_M), M1 = sk_u M o i.toNatClampNeg x → ∀ (H1 : Heap) (locs1 : List Loc), sk_P g M1 H1 → va_S (sk_A g) s.heap H1 locs1 → W p l e R s m args below meth c H1 locs1 cells slots Q (F0 m (pc + 1) ls rest)) : W p l e R s m args below meth c H locs cells slots Q (F0 m pc ls (.int x :: .int i :: .ref (sk_ad g o) :: rest)) := by
  obtain ⟨hx, hb, hml, hown, hts, hK, hE, hr, hlocks⟩ := C
  have hlt := sk_lt ho (by decide)
  refine va_iast (D := sk_D g) (cl := sk_cl) (tys := sk_ty g) (f := M o) (cA := sk_ac g 0) hx hb hK.1 hM (sk_Dd hK M) hS o 0 (by rw [sk_ws_at g M hlt, sk_en_i ho]) rfl (sk_in_vp hin) hdg (fun H1 locs1 hP1 _ hS1 => ?_)
  refine kk _ rfl H1 locs1 ?_ hS1
  rw [← sk_en_i (g := g) ho, sk_ws_set g M hlt] at hP1
  exact hP1
theorem sk_aald (C : sk_C g p s m args meth c cc nL own ret) (hM : sk_P g M H) {o k n t : Nat} (ho : sk_kd o = (k + 1, n)) (hk : k < 3) {i : Int32} (hin : sk_in i n = true) (ht : sk_rf o i.toNatClampNeg = t) (hdg : decode cc pc = .ok (.aaload, 1))
    (kk : W p l e R s m args below meth c H locs cells slots Q (F0 m (pc + 1) ls (.ref (sk_ad g t) :: rest))) : W p l e R s m args below meth c H locs cells slots Q (F0 m pc ls (.int i :: .ref (sk_ad g o) :: rest)) := by
  obtain ⟨hx, hb, hml, hown, hts, hK, hE, hr, hlocks⟩ := C
  subst ht
  have hlt := sk_in_lt hin
  have ha : (sk_ws g M)[o]? = some (sk_ad g o, .inl (sk_ac g (k + 1), n, .inr (.inr (.inr (.inr (fun i => some (sk_ad g (sk_rf o i)))))))) := by rw [sk_ws_at g M (sk_lt ho (by omega)), sk_en_q ho (by omega)]
  obtain ⟨ty, hty, hisr⟩ : ∃ ty : FieldType, (sk_ty g)[k + 1]? = some (sk_ac g (k + 1), ty) ∧ ty.isReference = true := by
    match k, hk with
    | 0, _ => exact ⟨_, rfl, rfl⟩
    | 1, _ => exact ⟨_, rfl, rfl⟩
    | 2, _ => exact ⟨_, rfl, rfl⟩
  have hcell := hM o _ ha
  refine W.aald (v := .ref (sk_ad g (sk_rf o i.toNatClampNeg))) (ty := ty) hx hb hcell ((hK.1.2 (k + 1) _ hty).1 n (fun j => va_rf (some (sk_ad g (sk_rf o j))))) hisr (fun q => by cases q) ?_ ?_ rfl rfl hdg kk
  · show ¬ (i < 0 ∨ (arrV _ _ _).slots.size ≤ _)
    rw [arrV_size]
    exact sk_in_vp hin
  · show (arrV _ _ _).slots[_]? = _
    rw [arrV_read _ _ hlt]
    rfl
theorem sk_hin (ci : Nat) (q : vw_C) (h : sk_cl[ci]? = some q) : ∀ w ∈ u_ws q.1 q.2.1 q.2.2, w ∈ sk_W := by
  match ci, h with
  | 0, h => cases h; decide +kernel
  | 1, h => cases h; decide +kernel
  | 2, h => cases h; decide +kernel
  | 3, h => cases h; decide +kernel
  | 4, h => cases h; decide +kernel
  | 5, h => cases h; decide +kernel
  | 6, h => cases h; decide +kernel
  | 7, h => cases h; decide +kernel
  | k + 8, h => simp [sk_cl] at h
theorem sk_fs_at {o ci n j : Nat} {r : Nat → Int32} (hj : j < n) : ((List.range n).map (sk_fv g o ci r))[j]? = some (sk_fv g o ci r j) := by simp [hj]
theorem sk_getI (C : sk_C g p s m args meth c cc nL own ret) (hM : sk_P g M H) {o ci n j idx : Nat} {cn : String} {T : u_T} (ho : sk_kd o = (10 + ci, n)) (hc : sk_cl[ci]? = some (cn, T, n)) (hj : j < n) (hi : sk_isR ci j = false)
    (hlk : Cond.fieldLink own idx (T j).1 (T j).2.1 (T j).2.2.1 ∈ sk_W) (hdg : decode cc pc = .ok (.getfield idx, 3))
    (kk : W p l e R s m args below meth c H locs cells slots Q (F0 m (pc + 3) ls (.int (M o j) :: rest))) : W p l e R s m args below meth c H locs cells slots Q (F0 m pc ls (.ref (sk_ad g o) :: rest)) := by
  obtain ⟨hx, hb, hml, hown, hts, hK, hE, hr, hlocks⟩ := C
  have hlt : o < 109 := sk_lt ho (by omega)
  refine va_get (D := sk_D g) (cl := sk_cl) (tys := sk_ty g) (ci := ci) (v := .int (M o j)) (C := cn) (T := T) (N := n) hx hb hts (sk_hin ci _ hc) hown hK.1 hM o (by rw [sk_ws_at g M hlt, sk_en_o ho]) hc j hj (hts _ hlk) (fun _ h9 => h9) ?_ hdg kk
  rw [sk_fs_at hj, sk_fv, if_neg (by rw [hi]; decide)]
theorem sk_getR (C : sk_C g p s m args meth c cc nL own ret) (hM : sk_P g M H) {o ci n j idx t : Nat} {cn : String} {T : u_T} (ho : sk_kd o = (10 + ci, n)) (hc : sk_cl[ci]? = some (cn, T, n)) (hj : j < n) (hi : sk_isR ci j = true)
    (ht : sk_rf o j = t) (hlk : Cond.fieldLink own idx (T j).1 (T j).2.1 (T j).2.2.1 ∈ sk_W) (hdg : decode cc pc = .ok (.getfield idx, 3))
    (kk : W p l e R s m args below meth c H locs cells slots Q (F0 m (pc + 3) ls (.ref (sk_ad g t) :: rest))) : W p l e R s m args below meth c H locs cells slots Q (F0 m pc ls (.ref (sk_ad g o) :: rest)) := by
  obtain ⟨hx, hb, hml, hown, hts, hK, hE, hr, hlocks⟩ := C
  subst ht
  have hlt : o < 109 := sk_lt ho (by omega)
  refine va_get (D := sk_D g) (cl := sk_cl) (tys := sk_ty g) (ci := ci) (v := .ref (sk_ad g (sk_rf o j))) (C := cn) (T := T) (N := n) hx hb hts (sk_hin ci _ hc) hown hK.1 hM o (by rw [sk_ws_at g M hlt, sk_en_o ho]) hc j hj (hts _ hlk) (fun _ h9 => h9) ?_ hdg kk
  rw [sk_fs_at hj, sk_fv, if_pos hi]
theorem sk_fs_set {o ci n j : Nat} {r : Nat → Int32} (hj : j < n) (hi : sk_isR ci j = false) (v : Int32) : ((List.range n).map (sk_fv g o ci r)).set j (.int v) = (List.range n).map (sk_fv g o ci (upd r j v)) := by
  apply List.ext_getElem?
  intro k
  by_cases hk : k < n
  · by_cases e : k = j
    · subst e
      rw [List.getElem?_set_self (by simpa using hk), sk_fs_at hk, sk_fv, if_neg (by rw [hi]; decide), upd, if_pos rfl]
    · rw [List.getElem?_set_ne (Ne.symm e), sk_fs_at hk, sk_fs_at hk]
      simp only [sk_fv, upd, if_neg e]
  · rw [List.getElem?_eq_none (by simpa using hk), List.getElem?_eq_none (by simpa using hk)]
theorem sk_tyok (ci : Nat) (q : vw_C) (h : sk_cl[ci]? = some q) : (∃ ty0 : Nat → FieldType, ∀ k, k < q.2.2 → parseFieldDescriptor (q.2.1 k).2.2.1 = some (ty0 k)) ∧ (∀ a, a < q.2.2 → ∀ b, b < q.2.2 → a ≠ b → (q.2.1 a).2.1 ≠ (q.2.1 b).2.1) := by
  match ci, h with
  | 0, h => cases h; exact ⟨⟨_, tyX0_ok⟩, nmX0⟩
  | 1, h => cases h; exact ⟨⟨_, tyX1_ok⟩, nmX1⟩
  | 2, h => cases h; exact ⟨⟨_, tyX2_ok⟩, nmX2⟩
  | 3, h => cases h; exact ⟨⟨_, tyX3_ok⟩, nmX3⟩
  | 4, h => cases h; exact ⟨⟨_, tyX4_ok⟩, nmX4⟩
  | 5, h => cases h; exact ⟨⟨_, tyX5_ok⟩, nmX5⟩
  | 6, h => cases h; exact ⟨⟨_, tyX6_ok⟩, nmX6⟩
  | 7, h => cases h; exact ⟨⟨_, tyX7_ok⟩, nmX7⟩
  | k + 8, h => simp [sk_cl] at h
theorem sk_put (C : sk_C g p s m args meth c cc nL own ret) (hM : sk_P g M H) (hS : va_S (sk_A g) s.heap H locs) {o ci n j idx : Nat} {cn : String} {T : u_T} {x : Int32} (ho : sk_kd o = (10 + ci, n)) (hc : sk_cl[ci]? = some (cn, T, n)) (hj : j < n) (hi : sk_isR ci j = false) (hf : (T j).2.2.2 = false)
    {ty : FieldType} (hty : parseFieldDescriptor (T j).2.2.1 = some ty) (hnx : narrow ty (.int x) = .int x) (hfx : fits ty (.int x) = true)
    (hlk : Cond.fieldLink own idx (T j).1 (T j).2.1 (T j).2.2.1 ∈ sk_W) (hdg : decode cc pc = .ok (.putfield idx, 3))
    (kk : ∀ (M1 : sk_M), M1 = sk_u M o j x → ∀ (H1 : Heap) (locs1 : List Loc), sk_P g M1 H1 → va_S (sk_A g) s.heap H1 locs1 → W p l e R s m args below meth c H1 locs1 cells slots Q (F0 m (pc + 3) ls rest)) : W p l e R s m args below meth c H locs cells slots Q (F0 m pc ls (.int x :: .ref (sk_ad g o) :: rest)) := by
  obtain ⟨hx, hb, hml, hown, hts, hK, hE, hr, hlocks⟩ := C
  have hlt : o < 109 := sk_lt ho (by omega)
  obtain ⟨⟨ty0, hty0⟩, hnm⟩ := sk_tyok ci _ hc
  refine va_put (D := sk_D g) (cl := sk_cl) (tys := sk_ty g) (ci := ci) (v := .int x) (ty := ty) (C := cn) (T := T) (N := n) hx hb hts (sk_hin ci _ hc) ty0 hty0 hnm hown hK.1 hM (sk_Dd hK M) hS o (by rw [sk_ws_at g M hlt, sk_en_o ho]) hc j hj (hts _ hlk) (fun _ h9 => h9) hf hty hnx hfx (by simpa using hj) hdg (fun H1 locs1 hP1 _ hS1 => ?_)
  refine kk _ rfl H1 locs1 ?_ hS1
  rw [sk_fs_set hj hi, ← sk_en_o (g := g) ho, sk_ws_set g M hlt] at hP1
  exact hP1
theorem sk_putI (C : sk_C g p s m args meth c cc nL own ret) (hM : sk_P g M H) (hS : va_S (sk_A g) s.heap H locs) {o ci n j idx : Nat} {cn : String} {T : u_T} {x : Int32} (ho : sk_kd o = (10 + ci, n)) (hc : sk_cl[ci]? = some (cn, T, n)) (hj : j < n) (hi : sk_isR ci j = false) (hf : (T j).2.2.2 = false) (hty : parseFieldDescriptor (T j).2.2.1 = some .int)
    (hlk : Cond.fieldLink own idx (T j).1 (T j).2.1 (T j).2.2.1 ∈ sk_W) (hdg : decode cc pc = .ok (.putfield idx, 3))
    (kk : ∀ (M1 : sk_M), M1 = sk_u M o j x → ∀ (H1 : Heap) (locs1 : List Loc), sk_P g M1 H1 → va_S (sk_A g) s.heap H1 locs1 → W p l e R s m args below meth c H1 locs1 cells slots Q (F0 m (pc + 3) ls rest)) : W p l e R s m args below meth c H locs cells slots Q (F0 m pc ls (.int x :: .ref (sk_ad g o) :: rest)) :=
  sk_put C hM hS ho hc hj hi hf hty rfl rfl hlk hdg kk
-- returns
theorem sk_iret {d : Nat} {rr : Int32} {MM : sk_M} (C : sk_C g p s m args meth c cc nL own (some .int)) (hM : sk_P g M H) (hS : va_S (sk_A g) s.heap H locs) {v : Int32} (hv : v = rr ∧ M = MM) (hdg : decode cc pc = .ok (.ireturn, 1)) :
    W p l e (sk_rm d) s m args below meth c H locs 0 0 (MQ below (sk_QI g rr MM) args s 0 0 (sk_A g)) (F0 m pc ls [.int v]) := by
  obtain ⟨hx, hb, hml, hown, hts, hK, hE, hr, hlocks⟩ := C
  exact W.iret (v := v) hx hb hr (fun t ht hW => ⟨⟨v, M, rfl, hv, by show sk_P g M t.heap; rw [ht]; exact hM⟩, hS.F ht⟩) hS.2.2 hdg
theorem sk_zret {d : Nat} {rr : Int32} {MM : sk_M} {ty : FieldType} (C : sk_C g p s m args meth c cc nL own (some ty)) (hM : sk_P g M H) (hS : va_S (sk_A g) s.heap H locs) {v : Int32} (hn : narrow ty (.int v) = .int v) (hv : v = rr ∧ M = MM) (hdg : decode cc pc = .ok (.ireturn, 1)) :
    W p l e (sk_rm d) s m args below meth c H locs 0 0 (MQ below (sk_QI g rr MM) args s 0 0 (sk_A g)) (F0 m pc ls [.int v]) := by
  obtain ⟨hx, hb, hml, hown, hts, hK, hE, hr, hlocks⟩ := C
  exact W.zret (v := v) hx hb hr hn (fun t ht hW => ⟨⟨v, M, rfl, hv, by show sk_P g M t.heap; rw [ht]; exact hM⟩, hS.F ht⟩) hS.2.2 hdg
theorem sk_vret {d : Nat} {MM : sk_M} (C : sk_C g p s m args meth c cc nL own none) (hM : sk_P g M H) (hS : va_S (sk_A g) s.heap H locs) (hv : M = MM) (hdg : decode cc pc = .ok (.return_, 1)) :
    W p l e (sk_rm d) s m args below meth c H locs 0 0 (MQ below (sk_QV g MM) args s 0 0 (sk_A g)) (F0 m pc ls []) := by
  obtain ⟨hx, hb, hml, hown, hts, hK, hE, hr, hlocks⟩ := C
  exact W.vret hx hb hr (fun t ht hW => ⟨⟨M, rfl, hv, by show sk_P g M t.heap; rw [ht]; exact hM⟩, hS.F ht⟩) hS.2.2 hdg
theorem sk_sret {d : Nat} {i ii : Nat} {MM : sk_M} {cn : String} (C : sk_C g p s m args meth c cc nL own (some (.object cn))) (hM : sk_P g M H) (hS : va_S (sk_A g) s.heap H locs) (hv : i = ii ∧ M = MM) (hdg : decode cc pc = .ok (.areturn, 1)) :
    W p l e (sk_rm d) s m args below meth c H locs 0 0 (MQ below (sk_QS g ii MM) args s 0 0 (sk_A g)) (F0 m pc ls [.ref (sk_aK g i)]) := by
  obtain ⟨hx, hb, hml, hown, hts, hK, hE, hr, hlocks⟩ := C
  exact W.aret (v := .ref (sk_aK g i)) hx hb hr (Or.inl ⟨_, rfl⟩) (Or.inr ⟨_, rfl⟩) (fun t ht hW => ⟨⟨M, sk_aK g i, rfl, hv.2, by rw [hv.1], by show sk_P g M t.heap; rw [ht]; exact hM⟩, hS.F ht⟩) hS.2.2 hdg
-- calls
theorem sk_pre (C : sk_C g p s m args meth c cc nL own ret) (hM : sk_P g M H) (hS : va_S (sk_A g) s.heap H locs) (av : List Value) : ∀ U : State, U.heap = H → s.WarmedH U.vm → va_Pc av (sk_Pc g M) av.toArray U := by
  obtain ⟨hx, hb, hml, hown, hts, hK, hE, hr, hlocks⟩ := C
  exact fun U hU hW => ⟨rfl, by rw [hU]; exact hM, sk_K.moved hW.alike hK, sk_E.next hE hS hU hW⟩
def sk_yV (y : MethodName) (cy : ByteArray) (ny : Nat) (ry : Option FieldType) (n : Nat) : Prop := (y.cls ≠ "java/lang/invoke/MethodHandle" ∧ y.cls ≠ "java/lang/invoke/VarHandle" ∧ (parseMethodDescriptor y.desc).map (fun d => d.parameters.length) = some n) ∧ ny ≤ 21 ∧ Cond.code y cy ny ry ∈ sk_W ∧ Cond.instanceMethod y ∈ sk_W ∧ Cond.selects y.cls y y ∈ sk_W ∧ Cond.initialized y.cls ∈ sk_W
def sk_yS (y : MethodName) (cy : ByteArray) (ny : Nat) (ry : Option FieldType) (n : Nat) : Prop := (y.cls ≠ "java/lang/invoke/MethodHandle" ∧ y.cls ≠ "java/lang/invoke/VarHandle" ∧ (parseMethodDescriptor y.desc).map (fun d => d.parameters.length) = some n) ∧ ny ≤ 21 ∧ Cond.code y cy ny ry ∈ sk_W ∧ Cond.static y ∈ sk_W ∧ Cond.initialized y.cls ∈ sk_W
theorem sk_roomV {d dy ny : Nat} (hd : dy < d) (hn : ny ≤ 21) : (sk_rm dy).frames + 1 ≤ (sk_rm d).frames ∧ 8 + (ny + 11) + (sk_rm dy).locals ≤ (sk_rm d).locals := ⟨hd, by show 8 + (ny + 11) + 40 * dy ≤ 40 * d; omega⟩
/-- any virtual call: what it runs -/
theorem sk_runV {y : MethodName} {cy : ByteArray} {ny n dy d idx b : Nat} {ry : Option FieldType} {As : List Value} {st : List Value} {Qc : Array Value → State → Outcome → State → Prop} (C : sk_C g p s m args meth c cc nL own ret) (hc : sk_Met g l y cy ny ry dy (.ref b :: As) M Qc) (hy : sk_yV y cy ny ry n) (hlk : Cond.methodLink own idx y ∈ sk_W)
    (hrc : ∃ cell : Cell, H[b]? = some cell ∧ cell.vm.isStatics = false ∧ s.vm.findClass y.cls = some cell.cls) (hd : dy < d) (hM : sk_P g M H) (hS : va_S (sk_A g) s.heap H locs) (hsz : ls.size = nL) (hn : As.length = n) (hst : st = As.reverse ++ .ref b :: rest) (hr8 : (rest.map fun v => v.category).sum ≤ 8) (hdg : decode cc pc = .ok (.invokevirtual idx, 3)) :
    va_Run p l e (sk_rm d) s m args below meth c H locs 0 0 0 0 (F0 m pc ls st) rest (Qc (Value.ref b :: As).toArray) (sk_A g) := by
  have hp := sk_pre C hM hS (.ref b :: As)
  obtain ⟨hx, hb, hml, hown, hts, hK, hE, hr, hlocks⟩ := C
  obtain ⟨hd9, hny, hcd, him, hse, hini⟩ := hy
  have hG : GoodIn sk_W (wsV own idx y.cls y (Cond.code y cy ny ry :: sk_W)) := by
    have key : ∀ w ∈ sk_W, w ∈ sk_W ∧ ((w.onTables && w.keeps) = true ∨ ∃ ty, w = .arrayClass ty) := fun w hw => ⟨hw, good_of_word (List.mem_filter.mp hw).2⟩
    intro w hw
    rcases List.mem_append.mp hw with h | h
    · simp only [List.mem_cons, List.not_mem_nil, or_false] at h
      rcases h with rfl | rfl | rfl | rfl
      · exact key _ hlk
      · exact key _ him
      · exact key _ hse
      · exact key _ hini
    · exact sk_good hcd w h
  exact va_runV (As := As) (rest := rest) ⟨hx, hb, hml, hown, hts⟩ hc (cwV n hts hG rfl rfl rfl ⟨rfl, hd9⟩ (sk_roomV hd hny)) ⟨sk_blind, hrc, hp⟩ rfl hn hsz hst (lv_room hr8) hdg ⟨Nat.le_refl _, Nat.le_refl _⟩
theorem sk_runS {y : MethodName} {cy : ByteArray} {ny n dy d idx : Nat} {ry : Option FieldType} {As : List Value} {st : List Value} {Qc : Array Value → State → Outcome → State → Prop} (C : sk_C g p s m args meth c cc nL own ret) (hc : sk_Met g l y cy ny ry dy As M Qc) (hy : sk_yS y cy ny ry n) (hlk : Cond.methodLink own idx y ∈ sk_W)
    (hd : dy < d) (hM : sk_P g M H) (hS : va_S (sk_A g) s.heap H locs) (hsz : ls.size = nL) (hn : As.length = n) (hst : st = As.reverse ++ rest) (hr8 : (rest.map fun v => v.category).sum ≤ 8) (hdg : decode cc pc = .ok (.invokestatic idx, 3)) :
    va_Run p l e (sk_rm d) s m args below meth c H locs 0 0 0 0 (F0 m pc ls st) rest (Qc As.toArray) (sk_A g) := by
  have hp := sk_pre C hM hS As
  obtain ⟨hx, hb, hml, hown, hts, hK, hE, hr, hlocks⟩ := C
  obtain ⟨hd9, hny, hcd, hst2, hini⟩ := hy
  have hG : GoodIn sk_W (va_wsS own idx y (Cond.code y cy ny ry :: sk_W)) := by
    have key : ∀ w ∈ sk_W, w ∈ sk_W ∧ ((w.onTables && w.keeps) = true ∨ ∃ ty, w = .arrayClass ty) := fun w hw => ⟨hw, good_of_word (List.mem_filter.mp hw).2⟩
    intro w hw
    rcases List.mem_append.mp hw with h | h
    · simp only [List.mem_cons, List.not_mem_nil, or_false] at h
      rcases h with rfl | rfl | rfl
      · exact key _ hlk
      · exact key _ hst2
      · exact key _ hini
    · exact sk_good hcd w h
  exact va_runS (As := As) (rest := rest) ⟨hx, hb, hml, hown, hts⟩ hc (va_cwS n hts hG rfl rfl rfl hd9 (sk_roomV hd hny)) ⟨sk_blind, hp⟩ rfl hn hsz hst (lv_room hr8) hdg ⟨Nat.le_refl _, Nat.le_refl _⟩
theorem sk_recv {o ci n : Nat} {cn : String} {T : u_T} (C : sk_C g p s m args meth c cc nL own ret) (hM : sk_P g M H) (ho : sk_kd o = (10 + ci, n)) (hc : sk_cl[ci]? = some (cn, T, n)) : ∃ cell : Cell, H[sk_ad g o]? = some cell ∧ cell.vm.isStatics = false ∧ s.vm.findClass cn = some cell.cls := by
  obtain ⟨hx, hb, hml, hown, hts, hK, hE, hr, hlocks⟩ := C
  exact va_recv (q0 := o) (ci := ci) (q := (cn, T, n)) hK.1 hM hc (by rw [sk_ws_at g M (sk_lt ho (by omega)), sk_en_o ho])
theorem sk_contI {d : Nat} {r : Int32} {M' : sk_M} {st : List Value} {av : Array Value} (hr : va_Run p l e (sk_rm d) s m args below meth c H locs 0 0 0 0 (F0 m pc ls st) rest (sk_QI g r M' av) (sk_A g)) (hS : va_S (sk_A g) s.heap H locs)
    (kk : ∀ (H1 : Heap) (locs1 : List Loc), sk_P g M' H1 → va_S (sk_A g) s.heap H1 locs1 → W p l e (sk_rm d) s m args below meth c H1 locs1 0 0 Q (F0 m (pc + 3) ls (.int r :: rest))) : W p l e (sk_rm d) s m args below meth c H locs 0 0 Q (F0 m pc ls st) := by
  refine va_calli hr hS (fun q _ h => h) (fun q h => h) (fun r' u t H1 locs1 ht hvm hw hB hz hk hS1 => ?_)
  obtain ⟨rfl, rfl⟩ := hw
  rw [ht] at hB
  exact kk H1 locs1 hB hS1
theorem sk_contV {d : Nat} {M' : sk_M} {st : List Value} {av : Array Value} (hr : va_Run p l e (sk_rm d) s m args below meth c H locs 0 0 0 0 (F0 m pc ls st) rest (sk_QV g M' av) (sk_A g)) (hS : va_S (sk_A g) s.heap H locs)
    (kk : ∀ (H1 : Heap) (locs1 : List Loc), sk_P g M' H1 → va_S (sk_A g) s.heap H1 locs1 → W p l e (sk_rm d) s m args below meth c H1 locs1 0 0 Q (F0 m (pc + 3) ls rest)) : W p l e (sk_rm d) s m args below meth c H locs 0 0 Q (F0 m pc ls st) := by
  refine va_callv hr hS (fun q _ h => h) (fun q h => h) (fun u t H1 locs1 ht hvm hw hB hz hk hS1 => ?_)
  subst hw
  rw [ht] at hB
  exact kk H1 locs1 hB hS1
theorem sk_contS {d i : Nat} {M' : sk_M} {st : List Value} {av : Array Value} (hr : va_Run p l e (sk_rm d) s m args below meth c H locs 0 0 0 0 (F0 m pc ls st) rest (sk_QS g i M' av) (sk_A g)) (hS : va_S (sk_A g) s.heap H locs)
    (kk : ∀ (H1 : Heap) (locs1 : List Loc), sk_P g M' H1 → va_S (sk_A g) s.heap H1 locs1 → W p l e (sk_rm d) s m args below meth c H1 locs1 0 0 Q (F0 m (pc + 3) ls (.ref (sk_aK g i) :: rest))) : W p l e (sk_rm d) s m args below meth c H locs 0 0 Q (F0 m pc ls st) := by
  refine va_callr hr hS (fun q _ h => h) (fun q h => h) (fun u ra t H1 locs1 ht hvm hw hB hz hk hS1 => ?_)
  subst hw
  obtain ⟨rfl, hB⟩ := hB
  rw [ht] at hB
  exact kk H1 locs1 hB hS1
-- Math, arraycopy
theorem sk_mmax {d idx : Nat} {x y : Int32} (C : sk_C g p s m args meth c cc nL own ret) (hsz : ls.size = nL) (hw : Cond.static Lib.Math.max.name ∈ sk_W ∧ Cond.initialized "java/lang/Math" ∈ sk_W ∧ Cond.code Lib.Math.max.name Lib.Math.max.code 2 (some .int) ∈ sk_W) (hlk : Cond.methodLink own idx Lib.Math.max.name ∈ sk_W) (hd : 0 < d) (hr8 : (rest.map fun v => v.category).sum ≤ 8) (hdg : decode cc pc = .ok (.invokestatic idx, 3))
    (kk : W p l e (sk_rm d) s m args below meth c H locs 0 0 Q (F0 m (pc + 3) ls (.int (if x < y then y else x) :: rest))) : W p l e (sk_rm d) s m args below meth c H locs 0 0 Q (F0 m pc ls (.int y :: .int x :: rest)) := by
  obtain ⟨hx, hb, hml, hown, hts, hK, hE, hr, hlocks⟩ := C
  exact va_mmax (R := sk_rm d) hx hb (hml.trans hsz.symm) hown (hts _ hlk) (hts _ hw.1) (hts _ hw.2.1) (hts _ hw.2.2) hd (by show _ + 13 ≤ 40 * d; omega) (Nat.le_refl _) (Nat.le_refl _) hdg kk
theorem sk_mmin {d idx : Nat} {x y : Int32} (C : sk_C g p s m args meth c cc nL own ret) (hsz : ls.size = nL) (hw : Cond.static Lib.Math.min.name ∈ sk_W ∧ Cond.initialized "java/lang/Math" ∈ sk_W ∧ Cond.code Lib.Math.min.name Lib.Math.min.code 2 (some .int) ∈ sk_W) (hlk : Cond.methodLink own idx Lib.Math.min.name ∈ sk_W) (hd : 0 < d) (hr8 : (rest.map fun v => v.category).sum ≤ 8) (hdg : decode cc pc = .ok (.invokestatic idx, 3))
    (kk : W p l e (sk_rm d) s m args below meth c H locs 0 0 Q (F0 m (pc + 3) ls (.int (if y < x then y else x) :: rest))) : W p l e (sk_rm d) s m args below meth c H locs 0 0 Q (F0 m pc ls (.int y :: .int x :: rest)) := by
  obtain ⟨hx, hb, hml, hown, hts, hK, hE, hr, hlocks⟩ := C
  exact va_mmin (R := sk_rm d) hx hb (hml.trans hsz.symm) hown (hts _ hlk) (hts _ hw.1) (hts _ hw.2.1) (hts _ hw.2.2) hd (by show _ + 13 ≤ 40 * d; omega) (Nat.le_refl _) (Nat.le_refl _) hdg kk
theorem sk_mabs {d idx : Nat} {x : Int32} (C : sk_C g p s m args meth c cc nL own ret) (hsz : ls.size = nL) (hw : Cond.static Lib.Math.abs.name ∈ sk_W ∧ Cond.initialized "java/lang/Math" ∈ sk_W ∧ Cond.code Lib.Math.abs.name Lib.Math.abs.code 1 (some .int) ∈ sk_W) (hlk : Cond.methodLink own idx Lib.Math.abs.name ∈ sk_W) (hd : 0 < d) (hr8 : (rest.map fun v => v.category).sum ≤ 8) (hdg : decode cc pc = .ok (.invokestatic idx, 3))
    (kk : W p l e (sk_rm d) s m args below meth c H locs 0 0 Q (F0 m (pc + 3) ls (.int (if 0 ≤ x then x else 0 - x) :: rest))) : W p l e (sk_rm d) s m args below meth c H locs 0 0 Q (F0 m pc ls (.int x :: rest)) := by
  obtain ⟨hx, hb, hml, hown, hts, hK, hE, hr, hlocks⟩ := C
  exact va_mabs (R := sk_rm d) hx hb (hml.trans hsz.symm) hown (hts _ hlk) (hts _ hw.1) (hts _ hw.2.1) (hts _ hw.2.2) hd (by show _ + 13 ≤ 40 * d; omega) (Nat.le_refl _) (Nat.le_refl _) hdg kk
def sk_cin (sp n : Int32) (k : Nat) : Bool := !(decide (sp < 0)) && !(decide (n < 0)) && decide (sp.toNatClampNeg + n.toNatClampNeg ≤ k)
theorem sk_copy {d idx o0 o1 n0 n1 : Nat} {sp dp n : Int32} (C : sk_C g p s m args meth c cc nL own ret) (hsz : ls.size = nL) (hw : Cond.native arraycopyName ∈ sk_W ∧ Cond.static arraycopyName ∈ sk_W ∧ Cond.initialized "java/lang/System" ∈ sk_W) (hlk : Cond.methodLink own idx arraycopyName ∈ sk_W) (hd : 0 < d) (hr8 : (rest.map fun v => v.category).sum ≤ 8) (hM : sk_P g M H) (hS : va_S (sk_A g) s.heap H locs)
    (h0 : sk_kd o0 = (0, n0)) (h1 : sk_kd o1 = (0, n1)) (hc0 : sk_cin sp n n0 = true) (hc1 : sk_cin dp n n1 = true) (hdg : decode cc pc = .ok (.invokestatic idx, 3))
    (kk : ∀ (M1 : sk_M), M1 = sk_uA M o1 (va_cpy (M o0) (M o1) sp.toNatClampNeg dp.toNatClampNeg n.toNatClampNeg) → ∀ (H1 : Heap) (locs1 : List Loc), sk_P g M1 H1 → va_S (sk_A g) s.heap H1 locs1 → W p l e (sk_rm d) s m args below meth c H1 locs1 0 0 Q (F0 m (pc + 3) ls rest)) : W p l e (sk_rm d) s m args below meth c H locs 0 0 Q (F0 m pc ls (.int n :: .int dp :: .ref (sk_ad g o1) :: .int sp :: .ref (sk_ad g o0) :: rest)) := by
  obtain ⟨hx, hb, hml, hown, hts, hK, hE, hr, hlocks⟩ := C
  simp only [sk_cin, Bool.and_eq_true, Bool.not_eq_true', decide_eq_false_iff_not, decide_eq_true_eq] at hc0 hc1
  have hl0 := sk_lt h0 (by decide)
  have hl1 := sk_lt h1 (by decide)
  refine va_copyi (D := sk_D g) (cl := sk_cl) (tys := sk_ty g) (ty := .int) (f := M o0) (g := M o1) hx hb (hml.trans hsz.symm) hown (hts _ hlk) (hts _ hw.1) (hts _ hw.2.1) (hts _ hw.2.2) hK.1 hM (sk_Dd hK M) hS o0 o1 0 0 (by rw [sk_ws_at g M hl0, sk_en_i h0]) (by rw [sk_ws_at g M hl1, sk_en_i h1]) rfl rfl rfl hc0.1.1 hc1.1.1 hc0.1.2 hc0.2 hc1.2 (fun _ _ => rfl) hd ?_ hdg (fun H1 locs1 hP1 _ hS1 => ?_)
  · have : nativeFrameWords "java/lang/System" "arraycopy" 5 + 11 ≤ 32 := by decide +kernel
    show _ ≤ 40 * d
    omega
  · refine kk _ rfl H1 locs1 ?_ hS1
    rw [← sk_en_i (g := g) h1, sk_ws_set g M hl1] at hP1
    exact hP1
end SKR
end
