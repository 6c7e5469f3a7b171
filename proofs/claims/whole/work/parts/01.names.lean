-- PART A of the skeleton, then names printed by TURN
-- ===== PART A: goes FIRST, ahead of the names: the tables' words, and 'selects' of the private methods out of them =====
/-- a private method of a class that the tables say can be made, by its rows of tables_1 -/
def lw_okq (q : MethodName × Nat) : Prop := (q.1.cls ≠ "java/lang/invoke/MethodHandle" ∧ q.1.cls ≠ "java/lang/invoke/VarHandle") ∧ Cond.instantiable q.1.cls q.2 ∈ tables_1 ∧ Cond.privateMethod q.1 ∈ tables_1 ∧ Cond.instanceMethod q.1 ∈ tables_1
theorem lw_p0 : lw_okq (⟨"WaterButts", "isButt", "(I)Z"⟩, 11) := ⟨⟨by decide +kernel, by decide +kernel⟩, List.mem_of_getElem? (i := 19) (by decide +kernel), List.mem_of_getElem? (i := 327) (by decide +kernel), List.mem_of_getElem? (i := 328) (by decide +kernel)⟩
theorem lw_p1 : lw_okq (⟨"WaterButts", "isBed", "(I)Z"⟩, 11) := ⟨⟨by decide +kernel, by decide +kernel⟩, List.mem_of_getElem? (i := 19) (by decide +kernel), List.mem_of_getElem? (i := 419) (by decide +kernel), List.mem_of_getElem? (i := 420) (by decide +kernel)⟩
theorem lw_p2 : lw_okq (⟨"WaterButts", "isEnough", "(IIII)Z"⟩, 11) := ⟨⟨by decide +kernel, by decide +kernel⟩, List.mem_of_getElem? (i := 19) (by decide +kernel), List.mem_of_getElem? (i := 531) (by decide +kernel), List.mem_of_getElem? (i := 532) (by decide +kernel)⟩
theorem lw_p3 : lw_okq (⟨"WaterButts", "lackedByOthers", "(II)I"⟩, 11) := ⟨⟨by decide +kernel, by decide +kernel⟩, List.mem_of_getElem? (i := 19) (by decide +kernel), List.mem_of_getElem? (i := 539) (by decide +kernel), List.mem_of_getElem? (i := 540) (by decide +kernel)⟩
theorem lw_p4 : lw_okq (⟨"WaterButts", "lackedWithTap", "(III)I"⟩, 11) := ⟨⟨by decide +kernel, by decide +kernel⟩, List.mem_of_getElem? (i := 19) (by decide +kernel), List.mem_of_getElem? (i := 547) (by decide +kernel), List.mem_of_getElem? (i := 548) (by decide +kernel)⟩
theorem lw_p5 : lw_okq (⟨"WaterButts", "differences", "(LWaterButts$Sheet;II)I"⟩, 11) := ⟨⟨by decide +kernel, by decide +kernel⟩, List.mem_of_getElem? (i := 19) (by decide +kernel), List.mem_of_getElem? (i := 563) (by decide +kernel), List.mem_of_getElem? (i := 564) (by decide +kernel)⟩
theorem lw_p6 : lw_okq (⟨"WaterButts$Reader", "readsLevel", "(III)Z"⟩, 4) := ⟨⟨by decide +kernel, by decide +kernel⟩, List.mem_of_getElem? (i := 205) (by decide +kernel), List.mem_of_getElem? (i := 679) (by decide +kernel), List.mem_of_getElem? (i := 680) (by decide +kernel)⟩
theorem lw_p7 : lw_okq (⟨"WaterButts$Reader", "readsPiece", "(II)Z"⟩, 4) := ⟨⟨by decide +kernel, by decide +kernel⟩, List.mem_of_getElem? (i := 205) (by decide +kernel), List.mem_of_getElem? (i := 683) (by decide +kernel), List.mem_of_getElem? (i := 684) (by decide +kernel)⟩
theorem lw_p8 : lw_okq (⟨"WaterButts$Reader", "readsNot", "(II)Z"⟩, 4) := ⟨⟨by decide +kernel, by decide +kernel⟩, List.mem_of_getElem? (i := 205) (by decide +kernel), List.mem_of_getElem? (i := 692) (by decide +kernel), List.mem_of_getElem? (i := 693) (by decide +kernel)⟩
theorem lw_p9 : lw_okq (⟨"WaterButts$Reader", "readsParens", "(II)Z"⟩, 4) := ⟨⟨by decide +kernel, by decide +kernel⟩, List.mem_of_getElem? (i := 205) (by decide +kernel), List.mem_of_getElem? (i := 700) (by decide +kernel), List.mem_of_getElem? (i := 701) (by decide +kernel)⟩
theorem lw_p10 : lw_okq (⟨"WaterButtsModel", "comes", "(III)I"⟩, 28) := ⟨⟨by decide +kernel, by decide +kernel⟩, List.mem_of_getElem? (i := 871) (by decide +kernel), List.mem_of_getElem? (i := 982) (by decide +kernel), List.mem_of_getElem? (i := 983) (by decide +kernel)⟩
theorem lw_p11 : lw_okq (⟨"WaterButtsModel", "isButt", "(I)Z"⟩, 28) := ⟨⟨by decide +kernel, by decide +kernel⟩, List.mem_of_getElem? (i := 871) (by decide +kernel), List.mem_of_getElem? (i := 990) (by decide +kernel), List.mem_of_getElem? (i := 991) (by decide +kernel)⟩
theorem lw_p12 : lw_okq (⟨"WaterButtsModel", "drawable", "(I)I"⟩, 28) := ⟨⟨by decide +kernel, by decide +kernel⟩, List.mem_of_getElem? (i := 871) (by decide +kernel), List.mem_of_getElem? (i := 994) (by decide +kernel), List.mem_of_getElem? (i := 995) (by decide +kernel)⟩
theorem lw_p13 : lw_okq (⟨"WaterButtsModel", "buttIs", "(II)I"⟩, 28) := ⟨⟨by decide +kernel, by decide +kernel⟩, List.mem_of_getElem? (i := 871) (by decide +kernel), List.mem_of_getElem? (i := 998) (by decide +kernel), List.mem_of_getElem? (i := 999) (by decide +kernel)⟩
theorem lw_p14 : lw_okq (⟨"WaterButtsModel", "loses", "(I)I"⟩, 28) := ⟨⟨by decide +kernel, by decide +kernel⟩, List.mem_of_getElem? (i := 871) (by decide +kernel), List.mem_of_getElem? (i := 1003) (by decide +kernel), List.mem_of_getElem? (i := 1004) (by decide +kernel)⟩
theorem lw_p15 : lw_okq (⟨"WaterButtsModel", "counting", "(I)I"⟩, 28) := ⟨⟨by decide +kernel, by decide +kernel⟩, List.mem_of_getElem? (i := 871) (by decide +kernel), List.mem_of_getElem? (i := 1007) (by decide +kernel), List.mem_of_getElem? (i := 1008) (by decide +kernel)⟩
def lw_privs_1 : List (MethodName × Nat) := [(⟨"WaterButts", "isButt", "(I)Z"⟩, 11), (⟨"WaterButts", "isBed", "(I)Z"⟩, 11), (⟨"WaterButts", "isEnough", "(IIII)Z"⟩, 11), (⟨"WaterButts", "lackedByOthers", "(II)I"⟩, 11), (⟨"WaterButts", "lackedWithTap", "(III)I"⟩, 11), (⟨"WaterButts", "differences", "(LWaterButts$Sheet;II)I"⟩, 11), (⟨"WaterButts$Reader", "readsLevel", "(III)Z"⟩, 4), (⟨"WaterButts$Reader", "readsPiece", "(II)Z"⟩, 4), (⟨"WaterButts$Reader", "readsNot", "(II)Z"⟩, 4), (⟨"WaterButts$Reader", "readsParens", "(II)Z"⟩, 4), (⟨"WaterButtsModel", "comes", "(III)I"⟩, 28), (⟨"WaterButtsModel", "isButt", "(I)Z"⟩, 28), (⟨"WaterButtsModel", "drawable", "(I)I"⟩, 28), (⟨"WaterButtsModel", "buttIs", "(II)I"⟩, 28), (⟨"WaterButtsModel", "loses", "(I)I"⟩, 28), (⟨"WaterButtsModel", "counting", "(I)I"⟩, 28)]
theorem lw_r1 : ∀ q ∈ lw_privs_1, lw_okq q := List.forall_mem_cons.mpr ⟨lw_p0, List.forall_mem_cons.mpr ⟨lw_p1, List.forall_mem_cons.mpr ⟨lw_p2, List.forall_mem_cons.mpr ⟨lw_p3, List.forall_mem_cons.mpr ⟨lw_p4, List.forall_mem_cons.mpr ⟨lw_p5, List.forall_mem_cons.mpr ⟨lw_p6, List.forall_mem_cons.mpr ⟨lw_p7, List.forall_mem_cons.mpr ⟨lw_p8, List.forall_mem_cons.mpr ⟨lw_p9, List.forall_mem_cons.mpr ⟨lw_p10, List.forall_mem_cons.mpr ⟨lw_p11, List.forall_mem_cons.mpr ⟨lw_p12, List.forall_mem_cons.mpr ⟨lw_p13, List.forall_mem_cons.mpr ⟨lw_p14, List.forall_mem_cons.mpr ⟨lw_p15, fun _ h => absurd h List.not_mem_nil⟩⟩⟩⟩⟩⟩⟩⟩⟩⟩⟩⟩⟩⟩⟩⟩
theorem lw_p16 : lw_okq (⟨"WaterButtsModel", "worked", "(I)I"⟩, 28) := ⟨⟨by decide +kernel, by decide +kernel⟩, List.mem_of_getElem? (i := 871) (by decide +kernel), List.mem_of_getElem? (i := 1011) (by decide +kernel), List.mem_of_getElem? (i := 1012) (by decide +kernel)⟩
theorem lw_p17 : lw_okq (⟨"WaterButtsModel", "catchOf", "(II)I"⟩, 28) := ⟨⟨by decide +kernel, by decide +kernel⟩, List.mem_of_getElem? (i := 871) (by decide +kernel), List.mem_of_getElem? (i := 1029) (by decide +kernel), List.mem_of_getElem? (i := 1030) (by decide +kernel)⟩
theorem lw_p18 : lw_okq (⟨"WaterButtsModel", "plainCatch", "(II)I"⟩, 28) := ⟨⟨by decide +kernel, by decide +kernel⟩, List.mem_of_getElem? (i := 871) (by decide +kernel), List.mem_of_getElem? (i := 1033) (by decide +kernel), List.mem_of_getElem? (i := 1034) (by decide +kernel)⟩
theorem lw_p19 : lw_okq (⟨"WaterButtsModel", "become", "(II)I"⟩, 28) := ⟨⟨by decide +kernel, by decide +kernel⟩, List.mem_of_getElem? (i := 871) (by decide +kernel), List.mem_of_getElem? (i := 1052) (by decide +kernel), List.mem_of_getElem? (i := 1053) (by decide +kernel)⟩
theorem lw_p20 : lw_okq (⟨"WaterButtsModel", "isBed", "(I)Z"⟩, 28) := ⟨⟨by decide +kernel, by decide +kernel⟩, List.mem_of_getElem? (i := 871) (by decide +kernel), List.mem_of_getElem? (i := 1068) (by decide +kernel), List.mem_of_getElem? (i := 1069) (by decide +kernel)⟩
theorem lw_p21 : lw_okq (⟨"WaterButtsModel", "bedIs", "(II)I"⟩, 28) := ⟨⟨by decide +kernel, by decide +kernel⟩, List.mem_of_getElem? (i := 871) (by decide +kernel), List.mem_of_getElem? (i := 1072) (by decide +kernel), List.mem_of_getElem? (i := 1073) (by decide +kernel)⟩
theorem lw_p22 : lw_okq (⟨"WaterButtsModel", "drawn", "(I)I"⟩, 28) := ⟨⟨by decide +kernel, by decide +kernel⟩, List.mem_of_getElem? (i := 871) (by decide +kernel), List.mem_of_getElem? (i := 1084) (by decide +kernel), List.mem_of_getElem? (i := 1085) (by decide +kernel)⟩
theorem lw_p23 : lw_okq (⟨"WaterButtsModel", "daysGo", "(I)I"⟩, 28) := ⟨⟨by decide +kernel, by decide +kernel⟩, List.mem_of_getElem? (i := 871) (by decide +kernel), List.mem_of_getElem? (i := 1101) (by decide +kernel), List.mem_of_getElem? (i := 1102) (by decide +kernel)⟩
theorem lw_p24 : lw_okq (⟨"WaterButtsModel", "day", "()I"⟩, 28) := ⟨⟨by decide +kernel, by decide +kernel⟩, List.mem_of_getElem? (i := 871) (by decide +kernel), List.mem_of_getElem? (i := 1105) (by decide +kernel), List.mem_of_getElem? (i := 1106) (by decide +kernel)⟩
theorem lw_p25 : lw_okq (⟨"WaterButtsModel", "falls", "(I)I"⟩, 28) := ⟨⟨by decide +kernel, by decide +kernel⟩, List.mem_of_getElem? (i := 871) (by decide +kernel), List.mem_of_getElem? (i := 1109) (by decide +kernel), List.mem_of_getElem? (i := 1110) (by decide +kernel)⟩
theorem lw_p26 : lw_okq (⟨"WaterButtsModel", "waters", "(I)V"⟩, 28) := ⟨⟨by decide +kernel, by decide +kernel⟩, List.mem_of_getElem? (i := 871) (by decide +kernel), List.mem_of_getElem? (i := 1113) (by decide +kernel), List.mem_of_getElem? (i := 1114) (by decide +kernel)⟩
theorem lw_p27 : lw_okq (⟨"WaterButtsModel", "holdsAll", "()I"⟩, 28) := ⟨⟨by decide +kernel, by decide +kernel⟩, List.mem_of_getElem? (i := 871) (by decide +kernel), List.mem_of_getElem? (i := 1121) (by decide +kernel), List.mem_of_getElem? (i := 1122) (by decide +kernel)⟩
theorem lw_p28 : lw_okq (⟨"WaterButtsModel", "lackedOf", "(I)I"⟩, 28) := ⟨⟨by decide +kernel, by decide +kernel⟩, List.mem_of_getElem? (i := 871) (by decide +kernel), List.mem_of_getElem? (i := 1125) (by decide +kernel), List.mem_of_getElem? (i := 1126) (by decide +kernel)⟩
theorem lw_p29 : lw_okq (⟨"WaterButtsModel", "putBack", "(I)I"⟩, 28) := ⟨⟨by decide +kernel, by decide +kernel⟩, List.mem_of_getElem? (i := 871) (by decide +kernel), List.mem_of_getElem? (i := 1140) (by decide +kernel), List.mem_of_getElem? (i := 1141) (by decide +kernel)⟩
theorem lw_p30 : lw_okq (⟨"WaterButtsModel", "isDry", "()Z"⟩, 28) := ⟨⟨by decide +kernel, by decide +kernel⟩, List.mem_of_getElem? (i := 871) (by decide +kernel), List.mem_of_getElem? (i := 1148) (by decide +kernel), List.mem_of_getElem? (i := 1149) (by decide +kernel)⟩
theorem lw_p31 : lw_okq (⟨"WaterButtsModel", "lackedBy", "(IIII)I"⟩, 28) := ⟨⟨by decide +kernel, by decide +kernel⟩, List.mem_of_getElem? (i := 871) (by decide +kernel), List.mem_of_getElem? (i := 1157) (by decide +kernel), List.mem_of_getElem? (i := 1158) (by decide +kernel)⟩
def lw_privs_2 : List (MethodName × Nat) := [(⟨"WaterButtsModel", "worked", "(I)I"⟩, 28), (⟨"WaterButtsModel", "catchOf", "(II)I"⟩, 28), (⟨"WaterButtsModel", "plainCatch", "(II)I"⟩, 28), (⟨"WaterButtsModel", "become", "(II)I"⟩, 28), (⟨"WaterButtsModel", "isBed", "(I)Z"⟩, 28), (⟨"WaterButtsModel", "bedIs", "(II)I"⟩, 28), (⟨"WaterButtsModel", "drawn", "(I)I"⟩, 28), (⟨"WaterButtsModel", "daysGo", "(I)I"⟩, 28), (⟨"WaterButtsModel", "day", "()I"⟩, 28), (⟨"WaterButtsModel", "falls", "(I)I"⟩, 28), (⟨"WaterButtsModel", "waters", "(I)V"⟩, 28), (⟨"WaterButtsModel", "holdsAll", "()I"⟩, 28), (⟨"WaterButtsModel", "lackedOf", "(I)I"⟩, 28), (⟨"WaterButtsModel", "putBack", "(I)I"⟩, 28), (⟨"WaterButtsModel", "isDry", "()Z"⟩, 28), (⟨"WaterButtsModel", "lackedBy", "(IIII)I"⟩, 28)]
theorem lw_r2 : ∀ q ∈ lw_privs_2, lw_okq q := List.forall_mem_cons.mpr ⟨lw_p16, List.forall_mem_cons.mpr ⟨lw_p17, List.forall_mem_cons.mpr ⟨lw_p18, List.forall_mem_cons.mpr ⟨lw_p19, List.forall_mem_cons.mpr ⟨lw_p20, List.forall_mem_cons.mpr ⟨lw_p21, List.forall_mem_cons.mpr ⟨lw_p22, List.forall_mem_cons.mpr ⟨lw_p23, List.forall_mem_cons.mpr ⟨lw_p24, List.forall_mem_cons.mpr ⟨lw_p25, List.forall_mem_cons.mpr ⟨lw_p26, List.forall_mem_cons.mpr ⟨lw_p27, List.forall_mem_cons.mpr ⟨lw_p28, List.forall_mem_cons.mpr ⟨lw_p29, List.forall_mem_cons.mpr ⟨lw_p30, List.forall_mem_cons.mpr ⟨lw_p31, fun _ h => absurd h List.not_mem_nil⟩⟩⟩⟩⟩⟩⟩⟩⟩⟩⟩⟩⟩⟩⟩⟩
theorem lw_p32 : lw_okq (⟨"WaterButtsModel", "lays", "(I)V"⟩, 28) := ⟨⟨by decide +kernel, by decide +kernel⟩, List.mem_of_getElem? (i := 871) (by decide +kernel), List.mem_of_getElem? (i := 1193) (by decide +kernel), List.mem_of_getElem? (i := 1194) (by decide +kernel)⟩
theorem lw_p33 : lw_okq (⟨"WaterButtsModel", "readAll", "()V"⟩, 28) := ⟨⟨by decide +kernel, by decide +kernel⟩, List.mem_of_getElem? (i := 871) (by decide +kernel), List.mem_of_getElem? (i := 1205) (by decide +kernel), List.mem_of_getElem? (i := 1206) (by decide +kernel)⟩
theorem lw_p34 : lw_okq (⟨"WaterButtsModel", "next", "()V"⟩, 28) := ⟨⟨by decide +kernel, by decide +kernel⟩, List.mem_of_getElem? (i := 871) (by decide +kernel), List.mem_of_getElem? (i := 1209) (by decide +kernel), List.mem_of_getElem? (i := 1210) (by decide +kernel)⟩
theorem lw_p35 : lw_okq (⟨"WaterButtsModel", "byteAt", "(I)I"⟩, 28) := ⟨⟨by decide +kernel, by decide +kernel⟩, List.mem_of_getElem? (i := 871) (by decide +kernel), List.mem_of_getElem? (i := 1213) (by decide +kernel), List.mem_of_getElem? (i := 1214) (by decide +kernel)⟩
theorem lw_p36 : lw_okq (⟨"WaterButtsModel", "spells", "(Ljava/lang/String;)Z"⟩, 28) := ⟨⟨by decide +kernel, by decide +kernel⟩, List.mem_of_getElem? (i := 871) (by decide +kernel), List.mem_of_getElem? (i := 1223) (by decide +kernel), List.mem_of_getElem? (i := 1224) (by decide +kernel)⟩
theorem lw_p37 : lw_okq (⟨"WaterButtsModel", "must", "(Z)V"⟩, 28) := ⟨⟨by decide +kernel, by decide +kernel⟩, List.mem_of_getElem? (i := 871) (by decide +kernel), List.mem_of_getElem? (i := 1229) (by decide +kernel), List.mem_of_getElem? (i := 1230) (by decide +kernel)⟩
theorem lw_p38 : lw_okq (⟨"WaterButtsModel", "readOr", "()V"⟩, 28) := ⟨⟨by decide +kernel, by decide +kernel⟩, List.mem_of_getElem? (i := 871) (by decide +kernel), List.mem_of_getElem? (i := 1233) (by decide +kernel), List.mem_of_getElem? (i := 1234) (by decide +kernel)⟩
theorem lw_p39 : lw_okq (⟨"WaterButtsModel", "readAnd", "()V"⟩, 28) := ⟨⟨by decide +kernel, by decide +kernel⟩, List.mem_of_getElem? (i := 871) (by decide +kernel), List.mem_of_getElem? (i := 1237) (by decide +kernel), List.mem_of_getElem? (i := 1238) (by decide +kernel)⟩
theorem lw_p40 : lw_okq (⟨"WaterButtsModel", "readTest", "()V"⟩, 28) := ⟨⟨by decide +kernel, by decide +kernel⟩, List.mem_of_getElem? (i := 871) (by decide +kernel), List.mem_of_getElem? (i := 1241) (by decide +kernel), List.mem_of_getElem? (i := 1242) (by decide +kernel)⟩
theorem lw_p41 : lw_okq (⟨"WaterButtsModel", "readSum", "()V"⟩, 28) := ⟨⟨by decide +kernel, by decide +kernel⟩, List.mem_of_getElem? (i := 871) (by decide +kernel), List.mem_of_getElem? (i := 1245) (by decide +kernel), List.mem_of_getElem? (i := 1246) (by decide +kernel)⟩
theorem lw_p42 : lw_okq (⟨"WaterButtsModel", "readTerm", "()V"⟩, 28) := ⟨⟨by decide +kernel, by decide +kernel⟩, List.mem_of_getElem? (i := 871) (by decide +kernel), List.mem_of_getElem? (i := 1249) (by decide +kernel), List.mem_of_getElem? (i := 1250) (by decide +kernel)⟩
theorem lw_p43 : lw_okq (⟨"WaterButtsModel", "readPiece", "()V"⟩, 28) := ⟨⟨by decide +kernel, by decide +kernel⟩, List.mem_of_getElem? (i := 871) (by decide +kernel), List.mem_of_getElem? (i := 1253) (by decide +kernel), List.mem_of_getElem? (i := 1254) (by decide +kernel)⟩
theorem lw_p44 : lw_okq (⟨"WaterButtsModel", "isSign", "(I)Z"⟩, 28) := ⟨⟨by decide +kernel, by decide +kernel⟩, List.mem_of_getElem? (i := 871) (by decide +kernel), List.mem_of_getElem? (i := 1257) (by decide +kernel), List.mem_of_getElem? (i := 1258) (by decide +kernel)⟩
theorem lw_p45 : lw_okq (⟨"WaterButtsModel", "step", "(I)V"⟩, 28) := ⟨⟨by decide +kernel, by decide +kernel⟩, List.mem_of_getElem? (i := 871) (by decide +kernel), List.mem_of_getElem? (i := 1261) (by decide +kernel), List.mem_of_getElem? (i := 1262) (by decide +kernel)⟩
theorem lw_p46 : lw_okq (⟨"WaterButtsModel", "readLeaf", "()V"⟩, 28) := ⟨⟨by decide +kernel, by decide +kernel⟩, List.mem_of_getElem? (i := 871) (by decide +kernel), List.mem_of_getElem? (i := 1265) (by decide +kernel), List.mem_of_getElem? (i := 1266) (by decide +kernel)⟩
theorem lw_p47 : lw_okq (⟨"WaterButtsModel", "holds", "(II)I"⟩, 28) := ⟨⟨by decide +kernel, by decide +kernel⟩, List.mem_of_getElem? (i := 871) (by decide +kernel), List.mem_of_getElem? (i := 1308) (by decide +kernel), List.mem_of_getElem? (i := 1309) (by decide +kernel)⟩
def lw_privs_3 : List (MethodName × Nat) := [(⟨"WaterButtsModel", "lays", "(I)V"⟩, 28), (⟨"WaterButtsModel", "readAll", "()V"⟩, 28), (⟨"WaterButtsModel", "next", "()V"⟩, 28), (⟨"WaterButtsModel", "byteAt", "(I)I"⟩, 28), (⟨"WaterButtsModel", "spells", "(Ljava/lang/String;)Z"⟩, 28), (⟨"WaterButtsModel", "must", "(Z)V"⟩, 28), (⟨"WaterButtsModel", "readOr", "()V"⟩, 28), (⟨"WaterButtsModel", "readAnd", "()V"⟩, 28), (⟨"WaterButtsModel", "readTest", "()V"⟩, 28), (⟨"WaterButtsModel", "readSum", "()V"⟩, 28), (⟨"WaterButtsModel", "readTerm", "()V"⟩, 28), (⟨"WaterButtsModel", "readPiece", "()V"⟩, 28), (⟨"WaterButtsModel", "isSign", "(I)Z"⟩, 28), (⟨"WaterButtsModel", "step", "(I)V"⟩, 28), (⟨"WaterButtsModel", "readLeaf", "()V"⟩, 28), (⟨"WaterButtsModel", "holds", "(II)I"⟩, 28)]
theorem lw_r3 : ∀ q ∈ lw_privs_3, lw_okq q := List.forall_mem_cons.mpr ⟨lw_p32, List.forall_mem_cons.mpr ⟨lw_p33, List.forall_mem_cons.mpr ⟨lw_p34, List.forall_mem_cons.mpr ⟨lw_p35, List.forall_mem_cons.mpr ⟨lw_p36, List.forall_mem_cons.mpr ⟨lw_p37, List.forall_mem_cons.mpr ⟨lw_p38, List.forall_mem_cons.mpr ⟨lw_p39, List.forall_mem_cons.mpr ⟨lw_p40, List.forall_mem_cons.mpr ⟨lw_p41, List.forall_mem_cons.mpr ⟨lw_p42, List.forall_mem_cons.mpr ⟨lw_p43, List.forall_mem_cons.mpr ⟨lw_p44, List.forall_mem_cons.mpr ⟨lw_p45, List.forall_mem_cons.mpr ⟨lw_p46, List.forall_mem_cons.mpr ⟨lw_p47, fun _ h => absurd h List.not_mem_nil⟩⟩⟩⟩⟩⟩⟩⟩⟩⟩⟩⟩⟩⟩⟩⟩
def lw_privs : List (MethodName × Nat) := lw_privs_1 ++ (lw_privs_2 ++ (lw_privs_3))
def lw_tbl : List Cond := k2_sels lw_privs ++ tables_1
theorem lw_privs_ok : ∀ q ∈ lw_privs, lw_okq q := by
  show ∀ q ∈ lw_privs_1 ++ (lw_privs_2 ++ (lw_privs_3)), lw_okq q
  exact List.forall_mem_append.mpr ⟨lw_r1, List.forall_mem_append.mpr ⟨lw_r2, lw_r3⟩⟩
def RX0 : String := "WaterButts$Bed"
def TX0 : u_T := fun k => match k with
  | 0 => ("WaterButts$Bed", "wants", "I", false)
  | 1 => ("WaterButts$Bed", "had", "I", false)
  | _ => ("WaterButts$Bed", "lacked", "I", false)
def tyX0 : Nat → FieldType := fun k => match k with
  | 0 => .int
  | 1 => .int
  | _ => .int
theorem nmX0 : ∀ a, a < 3 → ∀ b, b < 3 → a ≠ b → (TX0 a).2.1 ≠ (TX0 b).2.1 := by decide +kernel
theorem tyX0_ok : ∀ k, k < 3 → parseFieldDescriptor (TX0 k).2.2.1 = some (tyX0 k) := by decide +kernel
abbrev cX0_init : ByteArray := prog_2_method_1_code
def yX0_init : MethodName := ⟨RX0, "<init>", "()V"⟩
abbrev cX0_become : ByteArray := prog_2_method_2_code
def yX0_become : MethodName := ⟨RX0, "become", "(LWaterButts$Bed;)V"⟩
def RX1 : String := "WaterButts$Butt"
def TX1 : u_T := fun k => match k with
  | 0 => ("WaterButts$Butt", "kind", "I", false)
  | 1 => ("WaterButts$Butt", "room", "I", false)
  | 2 => ("WaterButts$Butt", "holds", "I", false)
  | _ => ("WaterButts$Butt", "tap", "I", false)
def tyX1 : Nat → FieldType := fun k => match k with
  | 0 => .int
  | 1 => .int
  | 2 => .int
  | _ => .int
theorem nmX1 : ∀ a, a < 4 → ∀ b, b < 4 → a ≠ b → (TX1 a).2.1 ≠ (TX1 b).2.1 := by decide +kernel
theorem tyX1_ok : ∀ k, k < 4 → parseFieldDescriptor (TX1 k).2.2.1 = some (tyX1 k) := by decide +kernel
abbrev cX1_init : ByteArray := prog_3_method_1_code
def yX1_init : MethodName := ⟨RX1, "<init>", "()V"⟩
abbrev cX1_become : ByteArray := prog_3_method_2_code
def yX1_become : MethodName := ⟨RX1, "become", "(LWaterButts$Butt;)V"⟩
abbrev cX1_isOf : ByteArray := prog_3_method_3_code
def yX1_isOf : MethodName := ⟨RX1, "isOf", "(I)Z"⟩
abbrev cX1_drawable : ByteArray := prog_3_method_4_code
def yX1_drawable : MethodName := ⟨RX1, "drawable", "()I"⟩
abbrev cX1_catchOf : ByteArray := prog_3_method_5_code
def yX1_catchOf : MethodName := ⟨RX1, "catchOf", "(I)I"⟩
abbrev cX1_lossOf : ByteArray := prog_3_method_6_code
def yX1_lossOf : MethodName := ⟨RX1, "lossOf", "(I)I"⟩
abbrev cX1_worth : ByteArray := prog_3_method_7_code
def yX1_worth : MethodName := ⟨RX1, "worth", "()I"⟩
def RX2 : String := "WaterButts$Garden"
def TX2 : u_T := fun k => match k with
  | 0 => ("WaterButts$Garden", "texts", "LWaterButts$Texts;", true)
  | 1 => ("WaterButts$Garden", "butts", "[LWaterButts$Butt;", true)
  | 2 => ("WaterButts$Garden", "beds", "[LWaterButts$Bed;", true)
  | 3 => ("WaterButts$Garden", "counting", "[I", true)
  | 4 => ("WaterButts$Garden", "buttCount", "I", false)
  | 5 => ("WaterButts$Garden", "bedCount", "I", false)
  | 6 => ("WaterButts$Garden", "textCount", "I", false)
  | 7 => ("WaterButts$Garden", "wet", "I", false)
  | 8 => ("WaterButts$Garden", "stays", "I", false)
  | 9 => ("WaterButts$Garden", "meter", "I", false)
  | 10 => ("WaterButts$Garden", "wetYesterday", "I", false)
  | 11 => ("WaterButts$Garden", "fallen", "I", false)
  | 12 => ("WaterButts$Garden", "drained", "I", false)
  | 13 => ("WaterButts$Garden", "lost", "I", false)
  | 14 => ("WaterButts$Garden", "bought", "I", false)
  | 15 => ("WaterButts$Garden", "day", "I", false)
  | _ => ("WaterButts$Garden", "z", "I", false)
def tyX2 : Nat → FieldType := fun k => match k with
  | 0 => .object "WaterButts$Texts"
  | 1 => .array (.object "WaterButts$Butt")
  | 2 => .array (.object "WaterButts$Bed")
  | 3 => .array .int
  | 4 => .int
  | 5 => .int
  | 6 => .int
  | 7 => .int
  | 8 => .int
  | 9 => .int
  | 10 => .int
  | 11 => .int
  | 12 => .int
  | 13 => .int
  | 14 => .int
  | 15 => .int
  | _ => .int
theorem nmX2 : ∀ a, a < 17 → ∀ b, b < 17 → a ≠ b → (TX2 a).2.1 ≠ (TX2 b).2.1 := by decide +kernel
theorem tyX2_ok : ∀ k, k < 17 → parseFieldDescriptor (TX2 k).2.2.1 = some (tyX2 k) := by decide +kernel
abbrev cX2_init : ByteArray := prog_4_method_1_code
def yX2_init : MethodName := ⟨RX2, "<init>", "(LWaterButts$Texts;)V"⟩
abbrev cX2_become : ByteArray := prog_4_method_2_code
def yX2_become : MethodName := ⟨RX2, "become", "(LWaterButts$Garden;)V"⟩
abbrev cX2_addButt : ByteArray := prog_4_method_3_code
def yX2_addButt : MethodName := ⟨RX2, "addButt", "(III)V"⟩
abbrev cX2_addBed : ByteArray := prog_4_method_4_code
def yX2_addBed : MethodName := ⟨RX2, "addBed", "(I)V"⟩
abbrev cX2_draw : ByteArray := prog_4_method_5_code
def yX2_draw : MethodName := ⟨RX2, "draw", "()I"⟩
abbrev cX2_passDays : ByteArray := prog_4_method_6_code
def yX2_passDays : MethodName := ⟨RX2, "passDays", "(I)V"⟩
abbrev cX2_passDay : ByteArray := prog_4_method_7_code
def yX2_passDay : MethodName := ⟨RX2, "passDay", "()V"⟩
abbrev cX2_rainFalls : ByteArray := prog_4_method_8_code
def yX2_rainFalls : MethodName := ⟨RX2, "rainFalls", "(I)I"⟩
abbrev cX2_catchOf : ByteArray := prog_4_method_9_code
def yX2_catchOf : MethodName := ⟨RX2, "catchOf", "(LWaterButts$Butt;I)I"⟩
abbrev cX2_buttsLose : ByteArray := prog_4_method_10_code
def yX2_buttsLose : MethodName := ⟨RX2, "buttsLose", "()V"⟩
abbrev cX2_lossOf : ByteArray := prog_4_method_11_code
def yX2_lossOf : MethodName := ⟨RX2, "lossOf", "(LWaterButts$Butt;)I"⟩
abbrev cX2_bedsDraw : ByteArray := prog_4_method_12_code
def yX2_bedsDraw : MethodName := ⟨RX2, "bedsDraw", "()V"⟩
abbrev cX2_drawn : ByteArray := prog_4_method_13_code
def yX2_drawn : MethodName := ⟨RX2, "drawn", "(I)I"⟩
abbrev cX2_isDry : ByteArray := prog_4_method_14_code
def yX2_isDry : MethodName := ⟨RX2, "isDry", "()Z"⟩
abbrev cX2_allHold : ByteArray := prog_4_method_15_code
def yX2_allHold : MethodName := ⟨RX2, "allHold", "()I"⟩
abbrev cX2_allHad : ByteArray := prog_4_method_16_code
def yX2_allHad : MethodName := ⟨RX2, "allHad", "()I"⟩
abbrev cX2_allLacked : ByteArray := prog_4_method_17_code
def yX2_allLacked : MethodName := ⟨RX2, "allLacked", "()I"⟩
def RX3 : String := "WaterButts$Reader"
def TX3 : u_T := fun k => match k with
  | 0 => ("WaterButts$Reader", "tape", "LWaterButts$Tape;", true)
  | 1 => ("WaterButts$Reader", "texts", "LWaterButts$Texts;", true)
  | 2 => ("WaterButts$Reader", "text", "I", false)
  | _ => ("WaterButts$Reader", "names", "Ljava/lang/String;", false)
def tyX3 : Nat → FieldType := fun k => match k with
  | 0 => .object "WaterButts$Tape"
  | 1 => .object "WaterButts$Texts"
  | 2 => .int
  | _ => .object "java/lang/String"
theorem nmX3 : ∀ a, a < 4 → ∀ b, b < 4 → a ≠ b → (TX3 a).2.1 ≠ (TX3 b).2.1 := by decide +kernel
theorem tyX3_ok : ∀ k, k < 4 → parseFieldDescriptor (TX3 k).2.2.1 = some (tyX3 k) := by decide +kernel
abbrev cX3_init : ByteArray := prog_5_method_1_code
def yX3_init : MethodName := ⟨RX3, "<init>", "(LWaterButts$Tape;LWaterButts$Texts;)V"⟩
abbrev cX3_readsInto : ByteArray := prog_5_method_2_code
def yX3_readsInto : MethodName := ⟨RX3, "readsInto", "(I)Z"⟩
abbrev cX3_begin : ByteArray := prog_5_method_3_code
def yX3_begin : MethodName := ⟨RX3, "begin", "(ILjava/lang/String;)V"⟩
abbrev cX3_readsLevel : ByteArray := prog_5_method_4_code
def yX3_readsLevel : MethodName := ⟨RX3, "readsLevel", "(III)Z"⟩
abbrev cX3_levelOf : ByteArray := prog_5_method_5_code
def yX3_levelOf : MethodName := ⟨RX3, "levelOf", "(I)I"⟩
abbrev cX3_readsPiece : ByteArray := prog_5_method_6_code
def yX3_readsPiece : MethodName := ⟨RX3, "readsPiece", "(II)Z"⟩
abbrev cX3_readsNot : ByteArray := prog_5_method_7_code
def yX3_readsNot : MethodName := ⟨RX3, "readsNot", "(II)Z"⟩
abbrev cX3_readsParens : ByteArray := prog_5_method_8_code
def yX3_readsParens : MethodName := ⟨RX3, "readsParens", "(II)Z"⟩
def RX4 : String := "WaterButts$Sheet"
def TX4 : u_T := fun k => match k with
  | 0 => ("WaterButts$Sheet", "places", "[I", true)
  | 1 => ("WaterButts$Sheet", "sort", "I", false)
  | _ => ("WaterButts$Sheet", "size", "I", false)
def tyX4 : Nat → FieldType := fun k => match k with
  | 0 => .array .int
  | 1 => .int
  | _ => .int
theorem nmX4 : ∀ a, a < 3 → ∀ b, b < 3 → a ≠ b → (TX4 a).2.1 ≠ (TX4 b).2.1 := by decide +kernel
theorem tyX4_ok : ∀ k, k < 3 → parseFieldDescriptor (TX4 k).2.2.1 = some (tyX4 k) := by decide +kernel
abbrev cX4_init : ByteArray := prog_6_method_1_code
def yX4_init : MethodName := ⟨RX4, "<init>", "()V"⟩
abbrev cX4_clear : ByteArray := prog_6_method_2_code
def yX4_clear : MethodName := ⟨RX4, "clear", "(II)V"⟩
abbrev cX4_become : ByteArray := prog_6_method_3_code
def yX4_become : MethodName := ⟨RX4, "become", "(LWaterButts$Sheet;)V"⟩
abbrev cX4_hasPlaces : ByteArray := prog_6_method_4_code
def yX4_hasPlaces : MethodName := ⟨RX4, "hasPlaces", "(II)Z"⟩
def RX5 : String := "WaterButts$Slot"
def TX5 : u_T := fun k => match k with
  | 0 => ("WaterButts$Slot", "butt", "LWaterButts$Butt;", true)
  | 1 => ("WaterButts$Slot", "sheet", "LWaterButts$Sheet;", true)
  | 2 => ("WaterButts$Slot", "thing", "I", false)
  | _ => ("WaterButts$Slot", "number", "I", false)
def tyX5 : Nat → FieldType := fun k => match k with
  | 0 => .object "WaterButts$Butt"
  | 1 => .object "WaterButts$Sheet"
  | 2 => .int
  | _ => .int
theorem nmX5 : ∀ a, a < 4 → ∀ b, b < 4 → a ≠ b → (TX5 a).2.1 ≠ (TX5 b).2.1 := by decide +kernel
theorem tyX5_ok : ∀ k, k < 4 → parseFieldDescriptor (TX5 k).2.2.1 = some (tyX5 k) := by decide +kernel
abbrev cX5_init : ByteArray := prog_7_method_1_code
def yX5_init : MethodName := ⟨RX5, "<init>", "()V"⟩
abbrev cX5_otherThing : ByteArray := prog_7_method_2_code
def yX5_otherThing : MethodName := ⟨RX5, "otherThing", "()I"⟩
def RX6 : String := "WaterButts$Tape"
def TX6 : u_T := fun k => match k with
  | 0 => ("WaterButts$Tape", "bytes", "[I", true)
  | 1 => ("WaterButts$Tape", "count", "I", false)
  | 2 => ("WaterButts$Tape", "sort", "I", false)
  | 3 => ("WaterButts$Tape", "start", "I", false)
  | _ => ("WaterButts$Tape", "end", "I", false)
def tyX6 : Nat → FieldType := fun k => match k with
  | 0 => .array .int
  | 1 => .int
  | 2 => .int
  | 3 => .int
  | _ => .int
theorem nmX6 : ∀ a, a < 5 → ∀ b, b < 5 → a ≠ b → (TX6 a).2.1 ≠ (TX6 b).2.1 := by decide +kernel
theorem tyX6_ok : ∀ k, k < 5 → parseFieldDescriptor (TX6 k).2.2.1 = some (tyX6 k) := by decide +kernel
abbrev cX6_init : ByteArray := prog_8_method_1_code
def yX6_init : MethodName := ⟨RX6, "<init>", "()V"⟩
abbrev cX6_take : ByteArray := prog_8_method_2_code
def yX6_take : MethodName := ⟨RX6, "take", "(I)V"⟩
abbrev cX6_rewind : ByteArray := prog_8_method_3_code
def yX6_rewind : MethodName := ⟨RX6, "rewind", "()V"⟩
abbrev cX6_step : ByteArray := prog_8_method_4_code
def yX6_step : MethodName := ⟨RX6, "step", "()V"⟩
abbrev cX6_sortOf : ByteArray := prog_8_method_5_code
def yX6_sortOf : MethodName := ⟨RX6, "sortOf", "(I)I"⟩
abbrev cX6_length : ByteArray := prog_8_method_6_code
def yX6_length : MethodName := ⟨RX6, "length", "()I"⟩
abbrev cX6_sign : ByteArray := prog_8_method_7_code
def yX6_sign : MethodName := ⟨RX6, "sign", "()I"⟩
abbrev cX6_number : ByteArray := prog_8_method_8_code
def yX6_number : MethodName := ⟨RX6, "number", "()I"⟩
abbrev cX6_nameAmong : ByteArray := prog_8_method_9_code
def yX6_nameAmong : MethodName := ⟨RX6, "nameAmong", "(Ljava/lang/String;)I"⟩
abbrev cX6_isWord : ByteArray := prog_8_method_10_code
def yX6_isWord : MethodName := ⟨RX6, "isWord", "(Ljava/lang/String;)Z"⟩
def RX7 : String := "WaterButts$Texts"
def TX7 : u_T := fun k => match k with
  | 0 => ("WaterButts$Texts", "steps", "[[I", true)
  | 1 => ("WaterButts$Texts", "sizes", "[I", true)
  | 2 => ("WaterButts$Texts", "keys", "[I", true)
  | 3 => ("WaterButts$Texts", "leaves", "[I", true)
  | _ => ("WaterButts$Texts", "stack", "[I", true)
def tyX7 : Nat → FieldType := fun k => match k with
  | 0 => .array (.array .int)
  | 1 => .array .int
  | 2 => .array .int
  | 3 => .array .int
  | _ => .array .int
theorem nmX7 : ∀ a, a < 5 → ∀ b, b < 5 → a ≠ b → (TX7 a).2.1 ≠ (TX7 b).2.1 := by decide +kernel
theorem tyX7_ok : ∀ k, k < 5 → parseFieldDescriptor (TX7 k).2.2.1 = some (tyX7 k) := by decide +kernel
abbrev cX7_init : ByteArray := prog_9_method_1_code
def yX7_init : MethodName := ⟨RX7, "<init>", "()V"⟩
abbrev cX7_begin : ByteArray := prog_9_method_2_code
def yX7_begin : MethodName := ⟨RX7, "begin", "(II)V"⟩
abbrev cX7_addLeaf : ByteArray := prog_9_method_3_code
def yX7_addLeaf : MethodName := ⟨RX7, "addLeaf", "(II)V"⟩
abbrev cX7_addStep : ByteArray := prog_9_method_4_code
def yX7_addStep : MethodName := ⟨RX7, "addStep", "(II)V"⟩
abbrev cX7_gives : ByteArray := prog_9_method_5_code
def yX7_gives : MethodName := ⟨RX7, "gives", "(IIII)I"⟩
abbrev cX7_leaf : ByteArray := prog_9_method_6_code
def yX7_leaf : MethodName := ⟨RX7, "leaf", "(IIII)I"⟩
abbrev cX7_joined : ByteArray := prog_9_method_7_code
def yX7_joined : MethodName := ⟨RX7, "joined", "(III)I"⟩
def RX8 : String := "WaterButts"
def TX8 : u_T := fun k => match k with
  | 0 => ("WaterButts", "texts", "LWaterButts$Texts;", true)
  | 1 => ("WaterButts", "now", "LWaterButts$Garden;", true)
  | 2 => ("WaterButts", "thought", "LWaterButts$Garden;", true)
  | 3 => ("WaterButts", "image", "LWaterButts$Garden;", true)
  | 4 => ("WaterButts", "tape", "LWaterButts$Tape;", true)
  | 5 => ("WaterButts", "reader", "LWaterButts$Reader;", true)
  | 6 => ("WaterButts", "sheets", "[LWaterButts$Sheet;", true)
  | 7 => ("WaterButts", "slots", "[LWaterButts$Slot;", true)
  | 8 => ("WaterButts", "waiting", "[I", true)
  | 9 => ("WaterButts", "waitCount", "I", false)
  | _ => ("WaterButts", "kept", "Z", false)
def tyX8 : Nat → FieldType := fun k => match k with
  | 0 => .object "WaterButts$Texts"
  | 1 => .object "WaterButts$Garden"
  | 2 => .object "WaterButts$Garden"
  | 3 => .object "WaterButts$Garden"
  | 4 => .object "WaterButts$Tape"
  | 5 => .object "WaterButts$Reader"
  | 6 => .array (.object "WaterButts$Sheet")
  | 7 => .array (.object "WaterButts$Slot")
  | 8 => .array .int
  | 9 => .int
  | _ => .boolean
theorem nmX8 : ∀ a, a < 11 → ∀ b, b < 11 → a ≠ b → (TX8 a).2.1 ≠ (TX8 b).2.1 := by decide +kernel
theorem tyX8_ok : ∀ k, k < 11 → parseFieldDescriptor (TX8 k).2.2.1 = some (tyX8 k) := by decide +kernel
abbrev cX8_init : ByteArray := prog_1_method_1_code
def yX8_init : MethodName := ⟨RX8, "<init>", "()V"⟩
abbrev cX8_butt : ByteArray := prog_1_method_2_code
def yX8_butt : MethodName := ⟨RX8, "butt", "(III)I"⟩
abbrev cX8_told : ByteArray := prog_1_method_3_code
def yX8_told : MethodName := ⟨RX8, "told", "(II)I"⟩
abbrev cX8_catches : ByteArray := prog_1_method_4_code
def yX8_catches : MethodName := ⟨RX8, "catches", "(II)I"⟩
abbrev cX8_as : ByteArray := prog_1_method_5_code
def yX8_as : MethodName := ⟨RX8, "as", "(II)I"⟩
abbrev cX8_turns : ByteArray := prog_1_method_6_code
def yX8_turns : MethodName := ⟨RX8, "turns", "(II)I"⟩
abbrev cX8_set : ByteArray := prog_1_method_7_code
def yX8_set : MethodName := ⟨RX8, "set", "(III)I"⟩
abbrev cX8_setRoom : ByteArray := prog_1_method_8_code
def yX8_setRoom : MethodName := ⟨RX8, "setRoom", "(LWaterButts$Butt;I)I"⟩
abbrev cX8_setHolds : ByteArray := prog_1_method_9_code
def yX8_setHolds : MethodName := ⟨RX8, "setHolds", "(LWaterButts$Butt;I)I"⟩
abbrev cX8_setTap : ByteArray := prog_1_method_10_code
def yX8_setTap : MethodName := ⟨RX8, "setTap", "(LWaterButts$Butt;I)I"⟩
abbrev cX8_bed : ByteArray := prog_1_method_11_code
def yX8_bed : MethodName := ⟨RX8, "bed", "(I)I"⟩
abbrev cX8_bedTold : ByteArray := prog_1_method_12_code
def yX8_bedTold : MethodName := ⟨RX8, "bedTold", "(II)I"⟩
abbrev cX8_wants : ByteArray := prog_1_method_13_code
def yX8_wants : MethodName := ⟨RX8, "wants", "(II)I"⟩
abbrev cX8_deal : ByteArray := prog_1_method_14_code
def yX8_deal : MethodName := ⟨RX8, "deal", "(I)I"⟩
abbrev cX8_seed : ByteArray := prog_1_method_15_code
def yX8_seed : MethodName := ⟨RX8, "seed", "(I)I"⟩
abbrev cX8_rule : ByteArray := prog_1_method_16_code
def yX8_rule : MethodName := ⟨RX8, "rule", "(II)I"⟩
abbrev cX8_days : ByteArray := prog_1_method_17_code
def yX8_days : MethodName := ⟨RX8, "days", "(I)I"⟩
abbrev cX8_gallons : ByteArray := prog_1_method_18_code
def yX8_gallons : MethodName := ⟨RX8, "gallons", "(I)I"⟩
abbrev cX8_pourDown : ByteArray := prog_1_method_19_code
def yX8_pourDown : MethodName := ⟨RX8, "pourDown", "(I)I"⟩
abbrev cX8_behind : ByteArray := prog_1_method_20_code
def yX8_behind : MethodName := ⟨RX8, "behind", "(II)I"⟩
abbrev cX8_dryBy : ByteArray := prog_1_method_21_code
def yX8_dryBy : MethodName := ⟨RX8, "dryBy", "()I"⟩
abbrev cX8_larger : ByteArray := prog_1_method_22_code
def yX8_larger : MethodName := ⟨RX8, "larger", "(III)I"⟩
abbrev cX8_isEnough : ByteArray := prog_1_method_23_code
def yX8_isEnough : MethodName := ⟨RX8, "isEnough", "(IIII)Z"⟩
abbrev cX8_leave : ByteArray := prog_1_method_24_code
def yX8_leave : MethodName := ⟨RX8, "leave", "(II)I"⟩
abbrev cX8_lackedByOthers : ByteArray := prog_1_method_25_code
def yX8_lackedByOthers : MethodName := ⟨RX8, "lackedByOthers", "(II)I"⟩
abbrev cX8_spares : ByteArray := prog_1_method_26_code
def yX8_spares : MethodName := ⟨RX8, "spares", "(II)I"⟩
abbrev cX8_taps : ByteArray := prog_1_method_27_code
def yX8_taps : MethodName := ⟨RX8, "taps", "(I)I"⟩
abbrev cX8_lackedWithTap : ByteArray := prog_1_method_28_code
def yX8_lackedWithTap : MethodName := ⟨RX8, "lackedWithTap", "(III)I"⟩
abbrev cX8_gauged : ByteArray := prog_1_method_29_code
def yX8_gauged : MethodName := ⟨RX8, "gauged", "(III)I"⟩
abbrev cX8_differences : ByteArray := prog_1_method_30_code
def yX8_differences : MethodName := ⟨RX8, "differences", "(LWaterButts$Sheet;II)I"⟩
abbrev cX8_fine : ByteArray := prog_1_method_31_code
def yX8_fine : MethodName := ⟨RX8, "fine", "()I"⟩
abbrev cX8_feed : ByteArray := prog_1_method_32_code
def yX8_feed : MethodName := ⟨RX8, "feed", "(III)I"⟩
abbrev cX8_trim : ByteArray := prog_1_method_33_code
def yX8_trim : MethodName := ⟨RX8, "trim", "(I)I"⟩
abbrev cX8_text : ByteArray := prog_1_method_34_code
def yX8_text : MethodName := ⟨RX8, "text", "()I"⟩
abbrev cX8_textTold : ByteArray := prog_1_method_35_code
def yX8_textTold : MethodName := ⟨RX8, "textTold", "(II)I"⟩
abbrev cX8_why : ByteArray := prog_1_method_36_code
def yX8_why : MethodName := ⟨RX8, "why", "(I)I"⟩
abbrev cX8_sheet : ByteArray := prog_1_method_37_code
def yX8_sheet : MethodName := ⟨RX8, "sheet", "(III)I"⟩
abbrev cX8_mark : ByteArray := prog_1_method_38_code
def yX8_mark : MethodName := ⟨RX8, "mark", "(III)I"⟩
abbrev cX8_pour : ByteArray := prog_1_method_39_code
def yX8_pour : MethodName := ⟨RX8, "pour", "(I)I"⟩
abbrev cX8_reads : ByteArray := prog_1_method_40_code
def yX8_reads : MethodName := ⟨RX8, "reads", "(I)I"⟩
abbrev cX8_copy : ByteArray := prog_1_method_41_code
def yX8_copy : MethodName := ⟨RX8, "copy", "(IIIII)I"⟩
abbrev cX8_lay : ByteArray := prog_1_method_42_code
def yX8_lay : MethodName := ⟨RX8, "lay", "(III)I"⟩
abbrev cX8_ask : ByteArray := prog_1_method_43_code
def yX8_ask : MethodName := ⟨RX8, "ask", "(II)I"⟩
abbrev cX8_item : ByteArray := prog_1_method_44_code
def yX8_item : MethodName := ⟨RX8, "item", "(II)I"⟩
abbrev cX8_rest : ByteArray := prog_1_method_45_code
def yX8_rest : MethodName := ⟨RX8, "rest", "(II)I"⟩
abbrev cX8_tell : ByteArray := prog_1_method_46_code
def yX8_tell : MethodName := ⟨RX8, "tell", "(I)I"⟩
abbrev cX8_check : ByteArray := prog_1_method_47_code
def yX8_check : MethodName := ⟨RX8, "check", "(I)I"⟩
abbrev cX8_keep : ByteArray := prog_1_method_48_code
def yX8_keep : MethodName := ⟨RX8, "keep", "()I"⟩
abbrev cX8_back : ByteArray := prog_1_method_49_code
def yX8_back : MethodName := ⟨RX8, "back", "()I"⟩
abbrev cX8_count : ByteArray := prog_1_method_50_code
def yX8_count : MethodName := ⟨RX8, "count", "(I)I"⟩
abbrev cX8_within : ByteArray := prog_1_method_51_code
def yX8_within : MethodName := ⟨RX8, "within", "(III)Z"⟩
abbrev cX8_held : ByteArray := prog_1_method_52_code
def yX8_held : MethodName := ⟨RX8, "held", "(II)I"⟩
abbrev cX8_isKind : ByteArray := prog_1_method_53_code
def yX8_isKind : MethodName := ⟨RX8, "isKind", "(I)Z"⟩
abbrev cX8_isSheet : ByteArray := prog_1_method_54_code
def yX8_isSheet : MethodName := ⟨RX8, "isSheet", "(I)Z"⟩
abbrev cX8_isSlot : ByteArray := prog_1_method_55_code
def yX8_isSlot : MethodName := ⟨RX8, "isSlot", "(I)Z"⟩
abbrev cX8_isButt : ByteArray := prog_1_method_56_code
def yX8_isButt : MethodName := ⟨RX8, "isButt", "(I)Z"⟩
abbrev cX8_isBed : ByteArray := prog_1_method_57_code
def yX8_isBed : MethodName := ⟨RX8, "isBed", "(I)Z"⟩
def RX9 : String := "WaterButtsModel"
def TX9 : u_T := fun k => match k with
  | 0 => ("WaterButtsModel", "now", "[I", true)
  | 1 => ("WaterButtsModel", "kept", "[I", true)
  | 2 => ("WaterButtsModel", "isKept", "Z", false)
  | 3 => ("WaterButtsModel", "aside", "[I", true)
  | 4 => ("WaterButtsModel", "tape", "[I", true)
  | 5 => ("WaterButtsModel", "taped", "I", false)
  | 6 => ("WaterButtsModel", "keys", "[Ljava/lang/String;", true)
  | 7 => ("WaterButtsModel", "names", "[Ljava/lang/String;", true)
  | 8 => ("WaterButtsModel", "begins", "I", false)
  | 9 => ("WaterButtsModel", "ends", "I", false)
  | 10 => ("WaterButtsModel", "sort", "I", false)
  | 11 => ("WaterButtsModel", "isWrong", "Z", false)
  | 12 => ("WaterButtsModel", "key", "I", false)
  | 13 => ("WaterButtsModel", "open", "I", false)
  | 14 => ("WaterButtsModel", "nots", "I", false)
  | 15 => ("WaterButtsModel", "leaves", "I", false)
  | 16 => ("WaterButtsModel", "coded", "I", false)
  | 17 => ("WaterButtsModel", "code", "[I", true)
  | 18 => ("WaterButtsModel", "named", "[I", true)
  | 19 => ("WaterButtsModel", "pile", "[I", true)
  | 20 => ("WaterButtsModel", "sorts", "[I", true)
  | 21 => ("WaterButtsModel", "sizes", "[I", true)
  | 22 => ("WaterButtsModel", "places", "[I", true)
  | 23 => ("WaterButtsModel", "carried", "[I", true)
  | 24 => ("WaterButtsModel", "things", "[I", true)
  | 25 => ("WaterButtsModel", "held", "[I", true)
  | 26 => ("WaterButtsModel", "waits", "[I", true)
  | _ => ("WaterButtsModel", "waiting", "I", false)
def tyX9 : Nat → FieldType := fun k => match k with
  | 0 => .array .int
  | 1 => .array .int
  | 2 => .boolean
  | 3 => .array .int
  | 4 => .array .int
  | 5 => .int
  | 6 => .array (.object "java/lang/String")
  | 7 => .array (.object "java/lang/String")
  | 8 => .int
  | 9 => .int
  | 10 => .int
  | 11 => .boolean
  | 12 => .int
  | 13 => .int
  | 14 => .int
  | 15 => .int
  | 16 => .int
  | 17 => .array .int
  | 18 => .array .int
  | 19 => .array .int
  | 20 => .array .int
  | 21 => .array .int
  | 22 => .array .int
  | 23 => .array .int
  | 24 => .array .int
  | 25 => .array .int
  | 26 => .array .int
  | _ => .int
theorem nmX9 : ∀ a, a < 28 → ∀ b, b < 28 → a ≠ b → (TX9 a).2.1 ≠ (TX9 b).2.1 := by decide +kernel
theorem tyX9_ok : ∀ k, k < 28 → parseFieldDescriptor (TX9 k).2.2.1 = some (tyX9 k) := by decide +kernel
abbrev cX9_init : ByteArray := prog_11_method_1_code
def yX9_init : MethodName := ⟨RX9, "<init>", "()V"⟩
abbrev cX9_within : ByteArray := prog_11_method_2_code
def yX9_within : MethodName := ⟨RX9, "within", "(III)Z"⟩
abbrev cX9_between : ByteArray := prog_11_method_3_code
def yX9_between : MethodName := ⟨RX9, "between", "(III)I"⟩
abbrev cX9_become : ByteArray := prog_11_method_4_code
def yX9_become : MethodName := ⟨RX9, "become", "(II)I"⟩
abbrev cX9_copyRow : ByteArray := prog_11_method_5_code
def yX9_copyRow : MethodName := ⟨RX9, "copyRow", "([I[II)V"⟩
abbrev cX9_putBack : ByteArray := prog_11_method_6_code
def yX9_putBack : MethodName := ⟨RX9, "putBack", "(I)I"⟩
abbrev cX9_isButt : ByteArray := prog_11_method_7_code
def yX9_isButt : MethodName := ⟨RX9, "isButt", "(I)Z"⟩
abbrev cX9_isBed : ByteArray := prog_11_method_8_code
def yX9_isBed : MethodName := ⟨RX9, "isBed", "(I)Z"⟩
abbrev cX9_buttIs : ByteArray := prog_11_method_9_code
def yX9_buttIs : MethodName := ⟨RX9, "buttIs", "(II)I"⟩
abbrev cX9_bedIs : ByteArray := prog_11_method_10_code
def yX9_bedIs : MethodName := ⟨RX9, "bedIs", "(II)I"⟩
abbrev cX9_comes : ByteArray := prog_11_method_11_code
def yX9_comes : MethodName := ⟨RX9, "comes", "(III)I"⟩
abbrev cX9_isKind : ByteArray := prog_11_method_12_code
def yX9_isKind : MethodName := ⟨RX9, "isKind", "(I)Z"⟩
abbrev cX9_butt : ByteArray := prog_11_method_13_code
def yX9_butt : MethodName := ⟨RX9, "butt", "(III)I"⟩
abbrev cX9_above : ByteArray := prog_11_method_14_code
def yX9_above : MethodName := ⟨RX9, "above", "(I)I"⟩
abbrev cX9_isUnder : ByteArray := prog_11_method_15_code
def yX9_isUnder : MethodName := ⟨RX9, "isUnder", "(II)Z"⟩
abbrev cX9_plainCatch : ByteArray := prog_11_method_16_code
def yX9_plainCatch : MethodName := ⟨RX9, "plainCatch", "(II)I"⟩
abbrev cX9_catchOf : ByteArray := prog_11_method_17_code
def yX9_catchOf : MethodName := ⟨RX9, "catchOf", "(II)I"⟩
abbrev cX9_loses : ByteArray := prog_11_method_18_code
def yX9_loses : MethodName := ⟨RX9, "loses", "(I)I"⟩
abbrev cX9_worth : ByteArray := prog_11_method_19_code
def yX9_worth : MethodName := ⟨RX9, "worth", "(III)I"⟩
abbrev cX9_drawable : ByteArray := prog_11_method_20_code
def yX9_drawable : MethodName := ⟨RX9, "drawable", "(I)I"⟩
abbrev cX9_told : ByteArray := prog_11_method_21_code
def yX9_told : MethodName := ⟨RX9, "told", "(II)I"⟩
abbrev cX9_catches : ByteArray := prog_11_method_22_code
def yX9_catches : MethodName := ⟨RX9, "catches", "(II)I"⟩
abbrev cX9_as : ByteArray := prog_11_method_23_code
def yX9_as : MethodName := ⟨RX9, "as", "(II)I"⟩
abbrev cX9_turns : ByteArray := prog_11_method_24_code
def yX9_turns : MethodName := ⟨RX9, "turns", "(II)I"⟩
abbrev cX9_set : ByteArray := prog_11_method_25_code
def yX9_set : MethodName := ⟨RX9, "set", "(III)I"⟩
abbrev cX9_bed : ByteArray := prog_11_method_26_code
def yX9_bed : MethodName := ⟨RX9, "bed", "(I)I"⟩
abbrev cX9_bedTold : ByteArray := prog_11_method_27_code
def yX9_bedTold : MethodName := ⟨RX9, "bedTold", "(II)I"⟩
abbrev cX9_wants : ByteArray := prog_11_method_28_code
def yX9_wants : MethodName := ⟨RX9, "wants", "(II)I"⟩
abbrev cX9_drawn : ByteArray := prog_11_method_29_code
def yX9_drawn : MethodName := ⟨RX9, "drawn", "(I)I"⟩
abbrev cX9_deal : ByteArray := prog_11_method_30_code
def yX9_deal : MethodName := ⟨RX9, "deal", "(I)I"⟩
abbrev cX9_seed : ByteArray := prog_11_method_31_code
def yX9_seed : MethodName := ⟨RX9, "seed", "(I)I"⟩
abbrev cX9_rule : ByteArray := prog_11_method_32_code
def yX9_rule : MethodName := ⟨RX9, "rule", "(II)I"⟩
abbrev cX9_falls : ByteArray := prog_11_method_33_code
def yX9_falls : MethodName := ⟨RX9, "falls", "(I)I"⟩
abbrev cX9_waters : ByteArray := prog_11_method_34_code
def yX9_waters : MethodName := ⟨RX9, "waters", "(I)V"⟩
abbrev cX9_day : ByteArray := prog_11_method_35_code
def yX9_day : MethodName := ⟨RX9, "day", "()I"⟩
abbrev cX9_daysGo : ByteArray := prog_11_method_36_code
def yX9_daysGo : MethodName := ⟨RX9, "daysGo", "(I)I"⟩
abbrev cX9_days : ByteArray := prog_11_method_37_code
def yX9_days : MethodName := ⟨RX9, "days", "(I)I"⟩
abbrev cX9_holdsAll : ByteArray := prog_11_method_38_code
def yX9_holdsAll : MethodName := ⟨RX9, "holdsAll", "()I"⟩
abbrev cX9_lackedOf : ByteArray := prog_11_method_39_code
def yX9_lackedOf : MethodName := ⟨RX9, "lackedOf", "(I)I"⟩
abbrev cX9_gallons : ByteArray := prog_11_method_40_code
def yX9_gallons : MethodName := ⟨RX9, "gallons", "(I)I"⟩
abbrev cX9_pourDown : ByteArray := prog_11_method_41_code
def yX9_pourDown : MethodName := ⟨RX9, "pourDown", "(I)I"⟩
abbrev cX9_behind : ByteArray := prog_11_method_42_code
def yX9_behind : MethodName := ⟨RX9, "behind", "(II)I"⟩
abbrev cX9_isDry : ByteArray := prog_11_method_43_code
def yX9_isDry : MethodName := ⟨RX9, "isDry", "()Z"⟩
abbrev cX9_dryBy : ByteArray := prog_11_method_44_code
def yX9_dryBy : MethodName := ⟨RX9, "dryBy", "()I"⟩
abbrev cX9_lackedBy : ByteArray := prog_11_method_45_code
def yX9_lackedBy : MethodName := ⟨RX9, "lackedBy", "(IIII)I"⟩
abbrev cX9_larger : ByteArray := prog_11_method_46_code
def yX9_larger : MethodName := ⟨RX9, "larger", "(III)I"⟩
abbrev cX9_isSpan : ByteArray := prog_11_method_47_code
def yX9_isSpan : MethodName := ⟨RX9, "isSpan", "(I)Z"⟩
abbrev cX9_leave : ByteArray := prog_11_method_48_code
def yX9_leave : MethodName := ⟨RX9, "leave", "(II)I"⟩
abbrev cX9_spares : ByteArray := prog_11_method_49_code
def yX9_spares : MethodName := ⟨RX9, "spares", "(II)I"⟩
abbrev cX9_taps : ByteArray := prog_11_method_50_code
def yX9_taps : MethodName := ⟨RX9, "taps", "(I)I"⟩
abbrev cX9_gauged : ByteArray := prog_11_method_51_code
def yX9_gauged : MethodName := ⟨RX9, "gauged", "(III)I"⟩
abbrev cX9_fine : ByteArray := prog_11_method_52_code
def yX9_fine : MethodName := ⟨RX9, "fine", "()I"⟩
abbrev cX9_lays : ByteArray := prog_11_method_53_code
def yX9_lays : MethodName := ⟨RX9, "lays", "(I)V"⟩
abbrev cX9_feed : ByteArray := prog_11_method_54_code
def yX9_feed : MethodName := ⟨RX9, "feed", "(III)I"⟩
abbrev cX9_trim : ByteArray := prog_11_method_55_code
def yX9_trim : MethodName := ⟨RX9, "trim", "(I)I"⟩
abbrev cX9_byteAt : ByteArray := prog_11_method_56_code
def yX9_byteAt : MethodName := ⟨RX9, "byteAt", "(I)I"⟩
abbrev cX9_sortOf : ByteArray := prog_11_method_57_code
def yX9_sortOf : MethodName := ⟨RX9, "sortOf", "(I)I"⟩
abbrev cX9_isRow : ByteArray := prog_11_method_58_code
def yX9_isRow : MethodName := ⟨RX9, "isRow", "(I)Z"⟩
abbrev cX9_next : ByteArray := prog_11_method_59_code
def yX9_next : MethodName := ⟨RX9, "next", "()V"⟩
abbrev cX9_must : ByteArray := prog_11_method_60_code
def yX9_must : MethodName := ⟨RX9, "must", "(Z)V"⟩
abbrev cX9_isSign : ByteArray := prog_11_method_61_code
def yX9_isSign : MethodName := ⟨RX9, "isSign", "(I)Z"⟩
abbrev cX9_step : ByteArray := prog_11_method_62_code
def yX9_step : MethodName := ⟨RX9, "step", "(I)V"⟩
abbrev cX9_spells : ByteArray := prog_11_method_63_code
def yX9_spells : MethodName := ⟨RX9, "spells", "(Ljava/lang/String;)Z"⟩
abbrev cX9_readPiece : ByteArray := prog_11_method_64_code
def yX9_readPiece : MethodName := ⟨RX9, "readPiece", "()V"⟩
abbrev cX9_readLeaf : ByteArray := prog_11_method_65_code
def yX9_readLeaf : MethodName := ⟨RX9, "readLeaf", "()V"⟩
abbrev cX9_readTerm : ByteArray := prog_11_method_66_code
def yX9_readTerm : MethodName := ⟨RX9, "readTerm", "()V"⟩
abbrev cX9_readSum : ByteArray := prog_11_method_67_code
def yX9_readSum : MethodName := ⟨RX9, "readSum", "()V"⟩
abbrev cX9_readTest : ByteArray := prog_11_method_68_code
def yX9_readTest : MethodName := ⟨RX9, "readTest", "()V"⟩
abbrev cX9_readAnd : ByteArray := prog_11_method_69_code
def yX9_readAnd : MethodName := ⟨RX9, "readAnd", "()V"⟩
abbrev cX9_readOr : ByteArray := prog_11_method_70_code
def yX9_readOr : MethodName := ⟨RX9, "readOr", "()V"⟩
abbrev cX9_readAll : ByteArray := prog_11_method_71_code
def yX9_readAll : MethodName := ⟨RX9, "readAll", "()V"⟩
abbrev cX9_text : ByteArray := prog_11_method_72_code
def yX9_text : MethodName := ⟨RX9, "text", "()I"⟩
abbrev cX9_textTold : ByteArray := prog_11_method_73_code
def yX9_textTold : MethodName := ⟨RX9, "textTold", "(II)I"⟩
abbrev cX9_counting : ByteArray := prog_11_method_74_code
def yX9_counting : MethodName := ⟨RX9, "counting", "(I)I"⟩
abbrev cX9_why : ByteArray := prog_11_method_75_code
def yX9_why : MethodName := ⟨RX9, "why", "(I)I"⟩
abbrev cX9_done : ByteArray := prog_11_method_76_code
def yX9_done : MethodName := ⟨RX9, "done", "(III)I"⟩
abbrev cX9_worked : ByteArray := prog_11_method_77_code
def yX9_worked : MethodName := ⟨RX9, "worked", "(I)I"⟩
abbrev cX9_isSheet : ByteArray := prog_11_method_78_code
def yX9_isSheet : MethodName := ⟨RX9, "isSheet", "(I)Z"⟩
abbrev cX9_sheet : ByteArray := prog_11_method_79_code
def yX9_sheet : MethodName := ⟨RX9, "sheet", "(III)I"⟩
abbrev cX9_mark : ByteArray := prog_11_method_80_code
def yX9_mark : MethodName := ⟨RX9, "mark", "(III)I"⟩
abbrev cX9_pour : ByteArray := prog_11_method_81_code
def yX9_pour : MethodName := ⟨RX9, "pour", "(I)I"⟩
abbrev cX9_reads : ByteArray := prog_11_method_82_code
def yX9_reads : MethodName := ⟨RX9, "reads", "(I)I"⟩
abbrev cX9_copy : ByteArray := prog_11_method_83_code
def yX9_copy : MethodName := ⟨RX9, "copy", "(IIIII)I"⟩
abbrev cX9_isSlot : ByteArray := prog_11_method_84_code
def yX9_isSlot : MethodName := ⟨RX9, "isSlot", "(I)Z"⟩
abbrev cX9_holds : ByteArray := prog_11_method_85_code
def yX9_holds : MethodName := ⟨RX9, "holds", "(II)I"⟩
abbrev cX9_lay : ByteArray := prog_11_method_86_code
def yX9_lay : MethodName := ⟨RX9, "lay", "(III)I"⟩
abbrev cX9_ask : ByteArray := prog_11_method_87_code
def yX9_ask : MethodName := ⟨RX9, "ask", "(II)I"⟩
abbrev cX9_item : ByteArray := prog_11_method_88_code
def yX9_item : MethodName := ⟨RX9, "item", "(II)I"⟩
abbrev cX9_rest : ByteArray := prog_11_method_89_code
def yX9_rest : MethodName := ⟨RX9, "rest", "(II)I"⟩
abbrev cX9_tell : ByteArray := prog_11_method_90_code
def yX9_tell : MethodName := ⟨RX9, "tell", "(I)I"⟩
abbrev cX9_check : ByteArray := prog_11_method_91_code
def yX9_check : MethodName := ⟨RX9, "check", "(I)I"⟩
abbrev cX9_keep : ByteArray := prog_11_method_92_code
def yX9_keep : MethodName := ⟨RX9, "keep", "()I"⟩
abbrev cX9_back : ByteArray := prog_11_method_93_code
def yX9_back : MethodName := ⟨RX9, "back", "()I"⟩
abbrev cX9_count : ByteArray := prog_11_method_94_code
def yX9_count : MethodName := ⟨RX9, "count", "(I)I"⟩
def RJ9 : String := "java/lang/Math"
abbrev cJ9_abs_0f7a4 : ByteArray := prog_13_method_59_code
def yJ9_abs_0f7a4 : MethodName := ⟨RJ9, "abs", "(I)I"⟩
abbrev cJ9_max_7cf53 : ByteArray := prog_13_method_65_code
def yJ9_max_7cf53 : MethodName := ⟨RJ9, "max", "(II)I"⟩
abbrev cJ9_min_7cf53 : ByteArray := prog_13_method_69_code
def yJ9_min_7cf53 : MethodName := ⟨RJ9, "min", "(II)I"⟩
def RJ0 : String := "java/lang/String"
abbrev cJ0_length_8abf5 : ByteArray := prog_14_method_54_code
def yJ0_length_8abf5 : MethodName := ⟨RJ0, "length", "()I"⟩
abbrev cJ0_charAt_5068e : ByteArray := prog_14_method_56_code
def yJ0_charAt_5068e : MethodName := ⟨RJ0, "charAt", "(I)C"⟩
abbrev cJ0_indexOf_0f7a4 : ByteArray := prog_14_method_79_code
def yJ0_indexOf_0f7a4 : MethodName := ⟨RJ0, "indexOf", "(I)I"⟩
abbrev cJ0_indexOf_7cf53 : ByteArray := prog_14_method_80_code
def yJ0_indexOf_7cf53 : MethodName := ⟨RJ0, "indexOf", "(II)I"⟩
abbrev cJ0_coder_7d493 : ByteArray := prog_14_method_152_code
def yJ0_coder_7d493 : MethodName := ⟨RJ0, "coder", "()B"⟩
abbrev cJ0_isLatin1_aae02 : ByteArray := prog_14_method_154_code
def yJ0_isLatin1_aae02 : MethodName := ⟨RJ0, "isLatin1", "()Z"⟩
abbrev cJ0_checkIndex_df160 : ByteArray := prog_14_method_155_code
def yJ0_checkIndex_df160 : MethodName := ⟨RJ0, "checkIndex", "(II)V"⟩
def RJ1 : String := "java/lang/StringLatin1"
abbrev cJ1_charAt_3b067 : ByteArray := prog_15_method_2_code
def yJ1_charAt_3b067 : MethodName := ⟨RJ1, "charAt", "([BI)C"⟩
abbrev cJ1_canEncode_9a6ad : ByteArray := prog_15_method_4_code
def yJ1_canEncode_9a6ad : MethodName := ⟨RJ1, "canEncode", "(I)Z"⟩
abbrev cJ1_indexOf_4cfef : ByteArray := prog_15_method_22_code
def yJ1_indexOf_4cfef : MethodName := ⟨RJ1, "indexOf", "([BIII)I"⟩
abbrev cJ1_indexOfChar_4cfef : ByteArray := prog_15_method_23_code
def yJ1_indexOfChar_4cfef : MethodName := ⟨RJ1, "indexOfChar", "([BIII)I"⟩
def RJ3 : String := "jdk/internal/util/Preconditions"
abbrev cJ3_checkIndex_8e157 : ByteArray := prog_18_method_11_code
def yJ3_checkIndex_8e157 : MethodName := ⟨RJ3, "checkIndex", "(IILjava/util/function/BiFunction;)I"⟩
def RL : String := "WaterButtsLaw"
abbrev cL_law : ByteArray := code
def yL_law : MethodName := ⟨RL, "law", "([I)Z"⟩
