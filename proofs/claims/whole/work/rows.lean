section
-- ===== PART A: goes FIRST, ahead of the names: the tables' words, and 'selects' of the private methods out of them =====
/-- a private method of a class that the tables say can be made, by its rows of tables_1 -/
def lw_okq (q : MethodName × Nat) : Prop := (q.1.cls ≠ "java/lang/invoke/MethodHandle" ∧ q.1.cls ≠ "java/lang/invoke/VarHandle") ∧ Cond.instantiable q.1.cls q.2 ∈ tables_1 ∧ Cond.privateMethod q.1 ∈ tables_1 ∧ Cond.instanceMethod q.1 ∈ tables_1
theorem lw_p0 : lw_okq (⟨"LimbMeasures$Reader", "skipBlanks", "()V"⟩, 7) := ⟨⟨by decide +kernel, by decide +kernel⟩, List.mem_of_getElem? (i := 24) (by decide +kernel), List.mem_of_getElem? (i := 331) (by decide +kernel), List.mem_of_getElem? (i := 332) (by decide +kernel)⟩
theorem lw_p1 : lw_okq (⟨"LimbMeasures$Reader", "readClause", "()Z"⟩, 7) := ⟨⟨by decide +kernel, by decide +kernel⟩, List.mem_of_getElem? (i := 24) (by decide +kernel), List.mem_of_getElem? (i := 339) (by decide +kernel), List.mem_of_getElem? (i := 340) (by decide +kernel)⟩
theorem lw_p2 : lw_okq (⟨"LimbMeasures$Reader", "mayStart", "(I)Z"⟩, 7) := ⟨⟨by decide +kernel, by decide +kernel⟩, List.mem_of_getElem? (i := 24) (by decide +kernel), List.mem_of_getElem? (i := 343) (by decide +kernel), List.mem_of_getElem? (i := 344) (by decide +kernel)⟩
theorem lw_p3 : lw_okq (⟨"LimbMeasures$Reader", "fail", "(II)Z"⟩, 7) := ⟨⟨by decide +kernel, by decide +kernel⟩, List.mem_of_getElem? (i := 24) (by decide +kernel), List.mem_of_getElem? (i := 347) (by decide +kernel), List.mem_of_getElem? (i := 348) (by decide +kernel)⟩
theorem lw_p4 : lw_okq (⟨"LimbMeasures$Reader", "isOneTooMany", "(I)Z"⟩, 7) := ⟨⟨by decide +kernel, by decide +kernel⟩, List.mem_of_getElem? (i := 24) (by decide +kernel), List.mem_of_getElem? (i := 351) (by decide +kernel), List.mem_of_getElem? (i := 352) (by decide +kernel)⟩
theorem lw_p5 : lw_okq (⟨"LimbMeasures$Reader", "readLimb", "()Z"⟩, 7) := ⟨⟨by decide +kernel, by decide +kernel⟩, List.mem_of_getElem? (i := 24) (by decide +kernel), List.mem_of_getElem? (i := 355) (by decide +kernel), List.mem_of_getElem? (i := 356) (by decide +kernel)⟩
theorem lw_p6 : lw_okq (⟨"LimbMeasures$Reader", "readNumber", "(III)Z"⟩, 7) := ⟨⟨by decide +kernel, by decide +kernel⟩, List.mem_of_getElem? (i := 24) (by decide +kernel), List.mem_of_getElem? (i := 359) (by decide +kernel), List.mem_of_getElem? (i := 360) (by decide +kernel)⟩
theorem lw_p7 : lw_okq (⟨"LimbMeasures$Reader", "readClose", "()Z"⟩, 7) := ⟨⟨by decide +kernel, by decide +kernel⟩, List.mem_of_getElem? (i := 24) (by decide +kernel), List.mem_of_getElem? (i := 369) (by decide +kernel), List.mem_of_getElem? (i := 370) (by decide +kernel)⟩
theorem lw_p8 : lw_okq (⟨"LimbMeasures$Reader", "readContract", "()Z"⟩, 7) := ⟨⟨by decide +kernel, by decide +kernel⟩, List.mem_of_getElem? (i := 24) (by decide +kernel), List.mem_of_getElem? (i := 380) (by decide +kernel), List.mem_of_getElem? (i := 381) (by decide +kernel)⟩
theorem lw_p9 : lw_okq (⟨"LimbMeasures$Reader", "readRate", "()Z"⟩, 7) := ⟨⟨by decide +kernel, by decide +kernel⟩, List.mem_of_getElem? (i := 24) (by decide +kernel), List.mem_of_getElem? (i := 388) (by decide +kernel), List.mem_of_getElem? (i := 389) (by decide +kernel)⟩
theorem lw_p10 : lw_okq (⟨"LimbMeasures$Reader", "isUnlike", "()Z"⟩, 7) := ⟨⟨by decide +kernel, by decide +kernel⟩, List.mem_of_getElem? (i := 24) (by decide +kernel), List.mem_of_getElem? (i := 392) (by decide +kernel), List.mem_of_getElem? (i := 393) (by decide +kernel)⟩
theorem lw_p11 : lw_okq (⟨"LimbMeasures$Reader", "readHeir", "()Z"⟩, 7) := ⟨⟨by decide +kernel, by decide +kernel⟩, List.mem_of_getElem? (i := 24) (by decide +kernel), List.mem_of_getElem? (i := 400) (by decide +kernel), List.mem_of_getElem? (i := 401) (by decide +kernel)⟩
theorem lw_p12 : lw_okq (⟨"LimbMeasures$Reader", "isWithoutHeir", "()Z"⟩, 7) := ⟨⟨by decide +kernel, by decide +kernel⟩, List.mem_of_getElem? (i := 24) (by decide +kernel), List.mem_of_getElem? (i := 404) (by decide +kernel), List.mem_of_getElem? (i := 405) (by decide +kernel)⟩
theorem lw_p13 : lw_okq (⟨"LimbMeasures", "refusalOfSeasons", "(I)I"⟩, 9) := ⟨⟨by decide +kernel, by decide +kernel⟩, List.mem_of_getElem? (i := 16) (by decide +kernel), List.mem_of_getElem? (i := 534) (by decide +kernel), List.mem_of_getElem? (i := 535) (by decide +kernel)⟩
theorem lw_p14 : lw_okq (⟨"LimbMeasures$Past", "latestPlace", "()I"⟩, 5) := ⟨⟨by decide +kernel, by decide +kernel⟩, List.mem_of_getElem? (i := 159) (by decide +kernel), List.mem_of_getElem? (i := 543) (by decide +kernel), List.mem_of_getElem? (i := 544) (by decide +kernel)⟩
theorem lw_p15 : lw_okq (⟨"LimbMeasures", "refusalOfLiving", "(I)I"⟩, 9) := ⟨⟨by decide +kernel, by decide +kernel⟩, List.mem_of_getElem? (i := 16) (by decide +kernel), List.mem_of_getElem? (i := 569) (by decide +kernel), List.mem_of_getElem? (i := 570) (by decide +kernel)⟩
def lw_privs_1 : List (MethodName × Nat) := [(⟨"LimbMeasures$Reader", "skipBlanks", "()V"⟩, 7), (⟨"LimbMeasures$Reader", "readClause", "()Z"⟩, 7), (⟨"LimbMeasures$Reader", "mayStart", "(I)Z"⟩, 7), (⟨"LimbMeasures$Reader", "fail", "(II)Z"⟩, 7), (⟨"LimbMeasures$Reader", "isOneTooMany", "(I)Z"⟩, 7), (⟨"LimbMeasures$Reader", "readLimb", "()Z"⟩, 7), (⟨"LimbMeasures$Reader", "readNumber", "(III)Z"⟩, 7), (⟨"LimbMeasures$Reader", "readClose", "()Z"⟩, 7), (⟨"LimbMeasures$Reader", "readContract", "()Z"⟩, 7), (⟨"LimbMeasures$Reader", "readRate", "()Z"⟩, 7), (⟨"LimbMeasures$Reader", "isUnlike", "()Z"⟩, 7), (⟨"LimbMeasures$Reader", "readHeir", "()Z"⟩, 7), (⟨"LimbMeasures$Reader", "isWithoutHeir", "()Z"⟩, 7), (⟨"LimbMeasures", "refusalOfSeasons", "(I)I"⟩, 9), (⟨"LimbMeasures$Past", "latestPlace", "()I"⟩, 5), (⟨"LimbMeasures", "refusalOfLiving", "(I)I"⟩, 9)]
theorem lw_r1 : ∀ q ∈ lw_privs_1, lw_okq q := List.forall_mem_cons.mpr ⟨lw_p0, List.forall_mem_cons.mpr ⟨lw_p1, List.forall_mem_cons.mpr ⟨lw_p2, List.forall_mem_cons.mpr ⟨lw_p3, List.forall_mem_cons.mpr ⟨lw_p4, List.forall_mem_cons.mpr ⟨lw_p5, List.forall_mem_cons.mpr ⟨lw_p6, List.forall_mem_cons.mpr ⟨lw_p7, List.forall_mem_cons.mpr ⟨lw_p8, List.forall_mem_cons.mpr ⟨lw_p9, List.forall_mem_cons.mpr ⟨lw_p10, List.forall_mem_cons.mpr ⟨lw_p11, List.forall_mem_cons.mpr ⟨lw_p12, List.forall_mem_cons.mpr ⟨lw_p13, List.forall_mem_cons.mpr ⟨lw_p14, List.forall_mem_cons.mpr ⟨lw_p15, fun _ h => absurd h List.not_mem_nil⟩⟩⟩⟩⟩⟩⟩⟩⟩⟩⟩⟩⟩⟩⟩⟩
theorem lw_p16 : lw_okq (⟨"LimbMeasures$State", "nextDraw", "(I)I"⟩, 1) := ⟨⟨by decide +kernel, by decide +kernel⟩, List.mem_of_getElem? (i := 148) (by decide +kernel), List.mem_of_getElem? (i := 601) (by decide +kernel), List.mem_of_getElem? (i := 602) (by decide +kernel)⟩
theorem lw_p17 : lw_okq (⟨"LimbMeasures$BasketSearch", "extend", "(IIIIII)V"⟩, 8) := ⟨⟨by decide +kernel, by decide +kernel⟩, List.mem_of_getElem? (i := 209) (by decide +kernel), List.mem_of_getElem? (i := 639) (by decide +kernel), List.mem_of_getElem? (i := 640) (by decide +kernel)⟩
theorem lw_p18 : lw_okq (⟨"LimbMeasures$RingSearch", "extend", "(LLimbMeasures$Port;IIII)Z"⟩, 2) := ⟨⟨by decide +kernel, by decide +kernel⟩, List.mem_of_getElem? (i := 242) (by decide +kernel), List.mem_of_getElem? (i := 656) (by decide +kernel), List.mem_of_getElem? (i := 657) (by decide +kernel)⟩
theorem lw_p19 : lw_okq (⟨"LimbMeasures$RingSearch", "gainsWithLess", "(LLimbMeasures$Port;I)Z"⟩, 2) := ⟨⟨by decide +kernel, by decide +kernel⟩, List.mem_of_getElem? (i := 242) (by decide +kernel), List.mem_of_getElem? (i := 668) (by decide +kernel), List.mem_of_getElem? (i := 669) (by decide +kernel)⟩
theorem lw_p20 : lw_okq (⟨"LimbMeasures$HeirSearch", "leastFrom", "(LLimbMeasures$State;I)I"⟩, 4) := ⟨⟨by decide +kernel, by decide +kernel⟩, List.mem_of_getElem? (i := 257) (by decide +kernel), List.mem_of_getElem? (i := 689) (by decide +kernel), List.mem_of_getElem? (i := 690) (by decide +kernel)⟩
theorem lw_p21 : lw_okq (⟨"LimbMeasures$HeirSearch", "isFree", "(III)Z"⟩, 4) := ⟨⟨by decide +kernel, by decide +kernel⟩, List.mem_of_getElem? (i := 257) (by decide +kernel), List.mem_of_getElem? (i := 695) (by decide +kernel), List.mem_of_getElem? (i := 696) (by decide +kernel)⟩
theorem lw_p22 : lw_okq (⟨"LimbMeasures$HeirSearch", "apartBy", "(LLimbMeasures$State;III)I"⟩, 4) := ⟨⟨by decide +kernel, by decide +kernel⟩, List.mem_of_getElem? (i := 257) (by decide +kernel), List.mem_of_getElem? (i := 699) (by decide +kernel), List.mem_of_getElem? (i := 700) (by decide +kernel)⟩
theorem lw_p23 : lw_okq (⟨"LimbMeasures$HeirSearch", "chooseAll", "(LLimbMeasures$State;)V"⟩, 4) := ⟨⟨by decide +kernel, by decide +kernel⟩, List.mem_of_getElem? (i := 257) (by decide +kernel), List.mem_of_getElem? (i := 708) (by decide +kernel), List.mem_of_getElem? (i := 709) (by decide +kernel)⟩
theorem lw_p24 : lw_okq (⟨"LimbMeasures$Notes", "fitsAll", "(I)Z"⟩, 6) := ⟨⟨by decide +kernel, by decide +kernel⟩, List.mem_of_getElem? (i := 182) (by decide +kernel), List.mem_of_getElem? (i := 760) (by decide +kernel), List.mem_of_getElem? (i := 761) (by decide +kernel)⟩
theorem lw_p25 : lw_okq (⟨"LimbMeasuresModel", "here", "()I"⟩, 45) := ⟨⟨by decide +kernel, by decide +kernel⟩, List.mem_of_getElem? (i := 827) (by decide +kernel), List.mem_of_getElem? (i := 984) (by decide +kernel), List.mem_of_getElem? (i := 985) (by decide +kernel)⟩
theorem lw_p26 : lw_okq (⟨"LimbMeasuresModel", "takeClause", "()I"⟩, 45) := ⟨⟨by decide +kernel, by decide +kernel⟩, List.mem_of_getElem? (i := 827) (by decide +kernel), List.mem_of_getElem? (i := 988) (by decide +kernel), List.mem_of_getElem? (i := 989) (by decide +kernel)⟩
theorem lw_p27 : lw_okq (⟨"LimbMeasuresModel", "fails", "(II)I"⟩, 45) := ⟨⟨by decide +kernel, by decide +kernel⟩, List.mem_of_getElem? (i := 827) (by decide +kernel), List.mem_of_getElem? (i := 992) (by decide +kernel), List.mem_of_getElem? (i := 993) (by decide +kernel)⟩
theorem lw_p28 : lw_okq (⟨"LimbMeasuresModel", "takeLimb", "()I"⟩, 45) := ⟨⟨by decide +kernel, by decide +kernel⟩, List.mem_of_getElem? (i := 827) (by decide +kernel), List.mem_of_getElem? (i := 996) (by decide +kernel), List.mem_of_getElem? (i := 997) (by decide +kernel)⟩
theorem lw_p29 : lw_okq (⟨"LimbMeasuresModel", "into", "([IIII)I"⟩, 45) := ⟨⟨by decide +kernel, by decide +kernel⟩, List.mem_of_getElem? (i := 827) (by decide +kernel), List.mem_of_getElem? (i := 1000) (by decide +kernel), List.mem_of_getElem? (i := 1001) (by decide +kernel)⟩
theorem lw_p30 : lw_okq (⟨"LimbMeasuresModel", "takeNumber", "(II)I"⟩, 45) := ⟨⟨by decide +kernel, by decide +kernel⟩, List.mem_of_getElem? (i := 827) (by decide +kernel), List.mem_of_getElem? (i := 1004) (by decide +kernel), List.mem_of_getElem? (i := 1005) (by decide +kernel)⟩
theorem lw_p31 : lw_okq (⟨"LimbMeasuresModel", "takeContract", "()I"⟩, 45) := ⟨⟨by decide +kernel, by decide +kernel⟩, List.mem_of_getElem? (i := 827) (by decide +kernel), List.mem_of_getElem? (i := 1010) (by decide +kernel), List.mem_of_getElem? (i := 1011) (by decide +kernel)⟩
def lw_privs_2 : List (MethodName × Nat) := [(⟨"LimbMeasures$State", "nextDraw", "(I)I"⟩, 1), (⟨"LimbMeasures$BasketSearch", "extend", "(IIIIII)V"⟩, 8), (⟨"LimbMeasures$RingSearch", "extend", "(LLimbMeasures$Port;IIII)Z"⟩, 2), (⟨"LimbMeasures$RingSearch", "gainsWithLess", "(LLimbMeasures$Port;I)Z"⟩, 2), (⟨"LimbMeasures$HeirSearch", "leastFrom", "(LLimbMeasures$State;I)I"⟩, 4), (⟨"LimbMeasures$HeirSearch", "isFree", "(III)Z"⟩, 4), (⟨"LimbMeasures$HeirSearch", "apartBy", "(LLimbMeasures$State;III)I"⟩, 4), (⟨"LimbMeasures$HeirSearch", "chooseAll", "(LLimbMeasures$State;)V"⟩, 4), (⟨"LimbMeasures$Notes", "fitsAll", "(I)Z"⟩, 6), (⟨"LimbMeasuresModel", "here", "()I"⟩, 45), (⟨"LimbMeasuresModel", "takeClause", "()I"⟩, 45), (⟨"LimbMeasuresModel", "fails", "(II)I"⟩, 45), (⟨"LimbMeasuresModel", "takeLimb", "()I"⟩, 45), (⟨"LimbMeasuresModel", "into", "([IIII)I"⟩, 45), (⟨"LimbMeasuresModel", "takeNumber", "(II)I"⟩, 45), (⟨"LimbMeasuresModel", "takeContract", "()I"⟩, 45)]
theorem lw_r2 : ∀ q ∈ lw_privs_2, lw_okq q := List.forall_mem_cons.mpr ⟨lw_p16, List.forall_mem_cons.mpr ⟨lw_p17, List.forall_mem_cons.mpr ⟨lw_p18, List.forall_mem_cons.mpr ⟨lw_p19, List.forall_mem_cons.mpr ⟨lw_p20, List.forall_mem_cons.mpr ⟨lw_p21, List.forall_mem_cons.mpr ⟨lw_p22, List.forall_mem_cons.mpr ⟨lw_p23, List.forall_mem_cons.mpr ⟨lw_p24, List.forall_mem_cons.mpr ⟨lw_p25, List.forall_mem_cons.mpr ⟨lw_p26, List.forall_mem_cons.mpr ⟨lw_p27, List.forall_mem_cons.mpr ⟨lw_p28, List.forall_mem_cons.mpr ⟨lw_p29, List.forall_mem_cons.mpr ⟨lw_p30, List.forall_mem_cons.mpr ⟨lw_p31, fun _ h => absurd h List.not_mem_nil⟩⟩⟩⟩⟩⟩⟩⟩⟩⟩⟩⟩⟩⟩⟩⟩
theorem lw_p32 : lw_okq (⟨"LimbMeasuresModel", "takeRate", "()I"⟩, 45) := ⟨⟨by decide +kernel, by decide +kernel⟩, List.mem_of_getElem? (i := 827) (by decide +kernel), List.mem_of_getElem? (i := 1014) (by decide +kernel), List.mem_of_getElem? (i := 1015) (by decide +kernel)⟩
theorem lw_p33 : lw_okq (⟨"LimbMeasuresModel", "takeHeir", "()I"⟩, 45) := ⟨⟨by decide +kernel, by decide +kernel⟩, List.mem_of_getElem? (i := 827) (by decide +kernel), List.mem_of_getElem? (i := 1018) (by decide +kernel), List.mem_of_getElem? (i := 1019) (by decide +kernel)⟩
theorem lw_p34 : lw_okq (⟨"LimbMeasuresModel", "takeRead", "()V"⟩, 45) := ⟨⟨by decide +kernel, by decide +kernel⟩, List.mem_of_getElem? (i := 827) (by decide +kernel), List.mem_of_getElem? (i := 1022) (by decide +kernel), List.mem_of_getElem? (i := 1023) (by decide +kernel)⟩
theorem lw_p35 : lw_okq (⟨"LimbMeasuresModel", "copied", "()I"⟩, 45) := ⟨⟨by decide +kernel, by decide +kernel⟩, List.mem_of_getElem? (i := 827) (by decide +kernel), List.mem_of_getElem? (i := 1034) (by decide +kernel), List.mem_of_getElem? (i := 1035) (by decide +kernel)⟩
theorem lw_p36 : lw_okq (⟨"LimbMeasuresModel", "isLimb", "(I)Z"⟩, 45) := ⟨⟨by decide +kernel, by decide +kernel⟩, List.mem_of_getElem? (i := 827) (by decide +kernel), List.mem_of_getElem? (i := 1042) (by decide +kernel), List.mem_of_getElem? (i := 1043) (by decide +kernel)⟩
theorem lw_p37 : lw_okq (⟨"LimbMeasuresModel", "measureNow", "(I)I"⟩, 45) := ⟨⟨by decide +kernel, by decide +kernel⟩, List.mem_of_getElem? (i := 827) (by decide +kernel), List.mem_of_getElem? (i := 1047) (by decide +kernel), List.mem_of_getElem? (i := 1048) (by decide +kernel)⟩
theorem lw_p38 : lw_okq (⟨"LimbMeasuresModel", "measure", "(II)I"⟩, 45) := ⟨⟨by decide +kernel, by decide +kernel⟩, List.mem_of_getElem? (i := 827) (by decide +kernel), List.mem_of_getElem? (i := 1051) (by decide +kernel), List.mem_of_getElem? (i := 1052) (by decide +kernel)⟩
theorem lw_p39 : lw_okq (⟨"LimbMeasuresModel", "lives", "(I)Z"⟩, 45) := ⟨⟨by decide +kernel, by decide +kernel⟩, List.mem_of_getElem? (i := 827) (by decide +kernel), List.mem_of_getElem? (i := 1055) (by decide +kernel), List.mem_of_getElem? (i := 1056) (by decide +kernel)⟩
theorem lw_p40 : lw_okq (⟨"LimbMeasuresModel", "grown", "(II)I"⟩, 45) := ⟨⟨by decide +kernel, by decide +kernel⟩, List.mem_of_getElem? (i := 827) (by decide +kernel), List.mem_of_getElem? (i := 1062) (by decide +kernel), List.mem_of_getElem? (i := 1063) (by decide +kernel)⟩
theorem lw_p41 : lw_okq (⟨"LimbMeasuresModel", "seasonsRefused", "(I)I"⟩, 45) := ⟨⟨by decide +kernel, by decide +kernel⟩, List.mem_of_getElem? (i := 827) (by decide +kernel), List.mem_of_getElem? (i := 1080) (by decide +kernel), List.mem_of_getElem? (i := 1081) (by decide +kernel)⟩
theorem lw_p42 : lw_okq (⟨"LimbMeasuresModel", "remember", "()V"⟩, 45) := ⟨⟨by decide +kernel, by decide +kernel⟩, List.mem_of_getElem? (i := 827) (by decide +kernel), List.mem_of_getElem? (i := 1086) (by decide +kernel), List.mem_of_getElem? (i := 1087) (by decide +kernel)⟩
theorem lw_p43 : lw_okq (⟨"LimbMeasuresModel", "pass", "()V"⟩, 45) := ⟨⟨by decide +kernel, by decide +kernel⟩, List.mem_of_getElem? (i := 827) (by decide +kernel), List.mem_of_getElem? (i := 1090) (by decide +kernel), List.mem_of_getElem? (i := 1091) (by decide +kernel)⟩
theorem lw_p44 : lw_okq (⟨"LimbMeasuresModel", "swell", "(II)V"⟩, 45) := ⟨⟨by decide +kernel, by decide +kernel⟩, List.mem_of_getElem? (i := 827) (by decide +kernel), List.mem_of_getElem? (i := 1099) (by decide +kernel), List.mem_of_getElem? (i := 1100) (by decide +kernel)⟩
theorem lw_p45 : lw_okq (⟨"LimbMeasuresModel", "shrink", "(I)V"⟩, 45) := ⟨⟨by decide +kernel, by decide +kernel⟩, List.mem_of_getElem? (i := 827) (by decide +kernel), List.mem_of_getElem? (i := 1107) (by decide +kernel), List.mem_of_getElem? (i := 1108) (by decide +kernel)⟩
theorem lw_p46 : lw_okq (⟨"LimbMeasuresModel", "drawn", "()V"⟩, 45) := ⟨⟨by decide +kernel, by decide +kernel⟩, List.mem_of_getElem? (i := 827) (by decide +kernel), List.mem_of_getElem? (i := 1123) (by decide +kernel), List.mem_of_getElem? (i := 1124) (by decide +kernel)⟩
theorem lw_p47 : lw_okq (⟨"LimbMeasuresModel", "draw", "(I)I"⟩, 45) := ⟨⟨by decide +kernel, by decide +kernel⟩, List.mem_of_getElem? (i := 827) (by decide +kernel), List.mem_of_getElem? (i := 1127) (by decide +kernel), List.mem_of_getElem? (i := 1128) (by decide +kernel)⟩
def lw_privs_3 : List (MethodName × Nat) := [(⟨"LimbMeasuresModel", "takeRate", "()I"⟩, 45), (⟨"LimbMeasuresModel", "takeHeir", "()I"⟩, 45), (⟨"LimbMeasuresModel", "takeRead", "()V"⟩, 45), (⟨"LimbMeasuresModel", "copied", "()I"⟩, 45), (⟨"LimbMeasuresModel", "isLimb", "(I)Z"⟩, 45), (⟨"LimbMeasuresModel", "measureNow", "(I)I"⟩, 45), (⟨"LimbMeasuresModel", "measure", "(II)I"⟩, 45), (⟨"LimbMeasuresModel", "lives", "(I)Z"⟩, 45), (⟨"LimbMeasuresModel", "grown", "(II)I"⟩, 45), (⟨"LimbMeasuresModel", "seasonsRefused", "(I)I"⟩, 45), (⟨"LimbMeasuresModel", "remember", "()V"⟩, 45), (⟨"LimbMeasuresModel", "pass", "()V"⟩, 45), (⟨"LimbMeasuresModel", "swell", "(II)V"⟩, 45), (⟨"LimbMeasuresModel", "shrink", "(I)V"⟩, 45), (⟨"LimbMeasuresModel", "drawn", "()V"⟩, 45), (⟨"LimbMeasuresModel", "draw", "(I)I"⟩, 45)]
theorem lw_r3 : ∀ q ∈ lw_privs_3, lw_okq q := List.forall_mem_cons.mpr ⟨lw_p32, List.forall_mem_cons.mpr ⟨lw_p33, List.forall_mem_cons.mpr ⟨lw_p34, List.forall_mem_cons.mpr ⟨lw_p35, List.forall_mem_cons.mpr ⟨lw_p36, List.forall_mem_cons.mpr ⟨lw_p37, List.forall_mem_cons.mpr ⟨lw_p38, List.forall_mem_cons.mpr ⟨lw_p39, List.forall_mem_cons.mpr ⟨lw_p40, List.forall_mem_cons.mpr ⟨lw_p41, List.forall_mem_cons.mpr ⟨lw_p42, List.forall_mem_cons.mpr ⟨lw_p43, List.forall_mem_cons.mpr ⟨lw_p44, List.forall_mem_cons.mpr ⟨lw_p45, List.forall_mem_cons.mpr ⟨lw_p46, List.forall_mem_cons.mpr ⟨lw_p47, fun _ h => absurd h List.not_mem_nil⟩⟩⟩⟩⟩⟩⟩⟩⟩⟩⟩⟩⟩⟩⟩⟩
theorem lw_p48 : lw_okq (⟨"LimbMeasuresModel", "findBasket", "()V"⟩, 45) := ⟨⟨by decide +kernel, by decide +kernel⟩, List.mem_of_getElem? (i := 827) (by decide +kernel), List.mem_of_getElem? (i := 1152) (by decide +kernel), List.mem_of_getElem? (i := 1153) (by decide +kernel)⟩
theorem lw_p49 : lw_okq (⟨"LimbMeasuresModel", "isBasket", "(I)Z"⟩, 45) := ⟨⟨by decide +kernel, by decide +kernel⟩, List.mem_of_getElem? (i := 827) (by decide +kernel), List.mem_of_getElem? (i := 1156) (by decide +kernel), List.mem_of_getElem? (i := 1157) (by decide +kernel)⟩
theorem lw_p50 : lw_okq (⟨"LimbMeasuresModel", "isFree", "(I)Z"⟩, 45) := ⟨⟨by decide +kernel, by decide +kernel⟩, List.mem_of_getElem? (i := 827) (by decide +kernel), List.mem_of_getElem? (i := 1163) (by decide +kernel), List.mem_of_getElem? (i := 1164) (by decide +kernel)⟩
theorem lw_p51 : lw_okq (⟨"LimbMeasuresModel", "basketAt", "(II)I"⟩, 45) := ⟨⟨by decide +kernel, by decide +kernel⟩, List.mem_of_getElem? (i := 827) (by decide +kernel), List.mem_of_getElem? (i := 1167) (by decide +kernel), List.mem_of_getElem? (i := 1168) (by decide +kernel)⟩
theorem lw_p52 : lw_okq (⟨"LimbMeasuresModel", "findRing", "()I"⟩, 45) := ⟨⟨by decide +kernel, by decide +kernel⟩, List.mem_of_getElem? (i := 827) (by decide +kernel), List.mem_of_getElem? (i := 1185) (by decide +kernel), List.mem_of_getElem? (i := 1186) (by decide +kernel)⟩
theorem lw_p53 : lw_okq (⟨"LimbMeasuresModel", "isRow", "(II)Z"⟩, 45) := ⟨⟨by decide +kernel, by decide +kernel⟩, List.mem_of_getElem? (i := 827) (by decide +kernel), List.mem_of_getElem? (i := 1189) (by decide +kernel), List.mem_of_getElem? (i := 1190) (by decide +kernel)⟩
theorem lw_p54 : lw_okq (⟨"LimbMeasuresModel", "gains", "(III)Z"⟩, 45) := ⟨⟨by decide +kernel, by decide +kernel⟩, List.mem_of_getElem? (i := 827) (by decide +kernel), List.mem_of_getElem? (i := 1196) (by decide +kernel), List.mem_of_getElem? (i := 1197) (by decide +kernel)⟩
theorem lw_p55 : lw_okq (⟨"LimbMeasuresModel", "apartBy", "(I)I"⟩, 45) := ⟨⟨by decide +kernel, by decide +kernel⟩, List.mem_of_getElem? (i := 827) (by decide +kernel), List.mem_of_getElem? (i := 1213) (by decide +kernel), List.mem_of_getElem? (i := 1214) (by decide +kernel)⟩
def lw_privs_4 : List (MethodName × Nat) := [(⟨"LimbMeasuresModel", "findBasket", "()V"⟩, 45), (⟨"LimbMeasuresModel", "isBasket", "(I)Z"⟩, 45), (⟨"LimbMeasuresModel", "isFree", "(I)Z"⟩, 45), (⟨"LimbMeasuresModel", "basketAt", "(II)I"⟩, 45), (⟨"LimbMeasuresModel", "findRing", "()I"⟩, 45), (⟨"LimbMeasuresModel", "isRow", "(II)Z"⟩, 45), (⟨"LimbMeasuresModel", "gains", "(III)Z"⟩, 45), (⟨"LimbMeasuresModel", "apartBy", "(I)I"⟩, 45)]
theorem lw_r4 : ∀ q ∈ lw_privs_4, lw_okq q := List.forall_mem_cons.mpr ⟨lw_p48, List.forall_mem_cons.mpr ⟨lw_p49, List.forall_mem_cons.mpr ⟨lw_p50, List.forall_mem_cons.mpr ⟨lw_p51, List.forall_mem_cons.mpr ⟨lw_p52, List.forall_mem_cons.mpr ⟨lw_p53, List.forall_mem_cons.mpr ⟨lw_p54, List.forall_mem_cons.mpr ⟨lw_p55, fun _ h => absurd h List.not_mem_nil⟩⟩⟩⟩⟩⟩⟩⟩
def lw_privs : List (MethodName × Nat) := lw_privs_1 ++ (lw_privs_2 ++ (lw_privs_3 ++ (lw_privs_4)))
def lw_tbl : List Cond := k2_sels lw_privs ++ tables_1
theorem lw_privs_ok : ∀ q ∈ lw_privs, lw_okq q := by
  show ∀ q ∈ lw_privs_1 ++ (lw_privs_2 ++ (lw_privs_3 ++ (lw_privs_4))), lw_okq q
  exact List.forall_mem_append.mpr ⟨lw_r1, List.forall_mem_append.mpr ⟨lw_r2, List.forall_mem_append.mpr ⟨lw_r3, lw_r4⟩⟩⟩
def RX0 : String := "LimbMeasures$BasketSearch"
def TX0 : u_T := fun k => match k with
  | 0 => ("LimbMeasures$BasketSearch", "apart1", "[I", true)
  | 1 => ("LimbMeasures$BasketSearch", "apart2", "[I", true)
  | 2 => ("LimbMeasures$BasketSearch", "apart3", "[I", true)
  | 3 => ("LimbMeasures$BasketSearch", "times", "[I", true)
  | 4 => ("LimbMeasures$BasketSearch", "best", "[I", true)
  | 5 => ("LimbMeasures$BasketSearch", "bestTotal", "I", false)
  | 6 => ("LimbMeasures$BasketSearch", "allowed", "I", false)
  | _ => ("LimbMeasures$BasketSearch", "limbs", "I", false)
def tyX0 : Nat → FieldType := fun k => match k with
  | 0 => .array .int
  | 1 => .array .int
  | 2 => .array .int
  | 3 => .array .int
  | 4 => .array .int
  | 5 => .int
  | 6 => .int
  | _ => .int
abbrev wsX00 : List Cond := u_ws RX0 TX0 8
theorem nmX0 : ∀ a, a < 8 → ∀ b, b < 8 → a ≠ b → (TX0 a).2.1 ≠ (TX0 b).2.1 := by decide +kernel
theorem tyX0_ok : ∀ k, k < 8 → parseFieldDescriptor (TX0 k).2.2.1 = some (tyX0 k) := by decide +kernel
abbrev cX0_init : ByteArray := prog_2_method_1_code
def yX0_init : MethodName := ⟨RX0, "<init>", "()V"⟩
abbrev cX0_isFound : ByteArray := prog_2_method_2_code
def yX0_isFound : MethodName := ⟨RX0, "isFound", "()Z"⟩
abbrev cX0_search : ByteArray := prog_2_method_3_code
def yX0_search : MethodName := ⟨RX0, "search", "(LLimbMeasures$Port;LLimbMeasures$State;)V"⟩
abbrev cX0_extend : ByteArray := prog_2_method_4_code
def yX0_extend : MethodName := ⟨RX0, "extend", "(IIIIII)V"⟩
def RX1 : String := "LimbMeasures$HeirSearch"
def TX1 : u_T := fun k => match k with
  | 0 => ("LimbMeasures$HeirSearch", "least", "[I", true)
  | 1 => ("LimbMeasures$HeirSearch", "chosen", "[I", true)
  | 2 => ("LimbMeasures$HeirSearch", "turns", "[I", true)
  | _ => ("LimbMeasures$HeirSearch", "count", "I", false)
def tyX1 : Nat → FieldType := fun k => match k with
  | 0 => .array .int
  | 1 => .array .int
  | 2 => .array .int
  | _ => .int
abbrev wsX10 : List Cond := u_ws RX1 TX1 4
theorem nmX1 : ∀ a, a < 4 → ∀ b, b < 4 → a ≠ b → (TX1 a).2.1 ≠ (TX1 b).2.1 := by decide +kernel
theorem tyX1_ok : ∀ k, k < 4 → parseFieldDescriptor (TX1 k).2.2.1 = some (tyX1 k) := by decide +kernel
abbrev cX1_init : ByteArray := prog_3_method_1_code
def yX1_init : MethodName := ⟨RX1, "<init>", "()V"⟩
abbrev cX1_apartTogether : ByteArray := prog_3_method_2_code
def yX1_apartTogether : MethodName := ⟨RX1, "apartTogether", "()I"⟩
abbrev cX1_search : ByteArray := prog_3_method_3_code
def yX1_search : MethodName := ⟨RX1, "search", "(LLimbMeasures$State;)V"⟩
abbrev cX1_leastFrom : ByteArray := prog_3_method_4_code
def yX1_leastFrom : MethodName := ⟨RX1, "leastFrom", "(LLimbMeasures$State;I)I"⟩
abbrev cX1_chooseAll : ByteArray := prog_3_method_5_code
def yX1_chooseAll : MethodName := ⟨RX1, "chooseAll", "(LLimbMeasures$State;)V"⟩
abbrev cX1_isFree : ByteArray := prog_3_method_6_code
def yX1_isFree : MethodName := ⟨RX1, "isFree", "(III)Z"⟩
abbrev cX1_apartBy : ByteArray := prog_3_method_7_code
def yX1_apartBy : MethodName := ⟨RX1, "apartBy", "(LLimbMeasures$State;III)I"⟩
def RX2 : String := "LimbMeasures$Letters"
def TX2 : u_T := fun k => match k with
  | 0 => ("LimbMeasures$Letters", "row", "[I", true)
  | _ => ("LimbMeasures$Letters", "count", "I", false)
def tyX2 : Nat → FieldType := fun k => match k with
  | 0 => .array .int
  | _ => .int
abbrev wsX20 : List Cond := u_ws RX2 TX2 2
theorem nmX2 : ∀ a, a < 2 → ∀ b, b < 2 → a ≠ b → (TX2 a).2.1 ≠ (TX2 b).2.1 := by decide +kernel
theorem tyX2_ok : ∀ k, k < 2 → parseFieldDescriptor (TX2 k).2.2.1 = some (tyX2 k) := by decide +kernel
abbrev cX2_init : ByteArray := prog_4_method_1_code
def yX2_init : MethodName := ⟨RX2, "<init>", "()V"⟩
abbrev cX2_isFull : ByteArray := prog_4_method_2_code
def yX2_isFull : MethodName := ⟨RX2, "isFull", "()Z"⟩
abbrev cX2_append : ByteArray := prog_4_method_3_code
def yX2_append : MethodName := ⟨RX2, "append", "(I)I"⟩
abbrev cX2_at : ByteArray := prog_4_method_4_code
def yX2_at : MethodName := ⟨RX2, "at", "(I)I"⟩
abbrev cX2_empty : ByteArray := prog_4_method_5_code
def yX2_empty : MethodName := ⟨RX2, "empty", "()V"⟩
def RX3 : String := "LimbMeasures$Notes"
def TX3 : u_T := fun k => match k with
  | 0 => ("LimbMeasures$Notes", "gotTimes", "[I", true)
  | 1 => ("LimbMeasures$Notes", "gotAmount", "[I", true)
  | 2 => ("LimbMeasures$Notes", "entryLimb", "[I", true)
  | 3 => ("LimbMeasures$Notes", "entryMeasure", "[I", true)
  | 4 => ("LimbMeasures$Notes", "gots", "I", false)
  | _ => ("LimbMeasures$Notes", "entries", "I", false)
def tyX3 : Nat → FieldType := fun k => match k with
  | 0 => .array .int
  | 1 => .array .int
  | 2 => .array .int
  | 3 => .array .int
  | 4 => .int
  | _ => .int
abbrev wsX30 : List Cond := u_ws RX3 TX3 6
theorem nmX3 : ∀ a, a < 6 → ∀ b, b < 6 → a ≠ b → (TX3 a).2.1 ≠ (TX3 b).2.1 := by decide +kernel
theorem tyX3_ok : ∀ k, k < 6 → parseFieldDescriptor (TX3 k).2.2.1 = some (tyX3 k) := by decide +kernel
abbrev cX3_init : ByteArray := prog_5_method_1_code
def yX3_init : MethodName := ⟨RX3, "<init>", "()V"⟩
abbrev cX3_addGot : ByteArray := prog_5_method_2_code
def yX3_addGot : MethodName := ⟨RX3, "addGot", "(II)I"⟩
abbrev cX3_addEntry : ByteArray := prog_5_method_3_code
def yX3_addEntry : MethodName := ⟨RX3, "addEntry", "(II)I"⟩
abbrev cX3_clearAll : ByteArray := prog_5_method_4_code
def yX3_clearAll : MethodName := ⟨RX3, "clearAll", "()V"⟩
abbrev cX3_fitting : ByteArray := prog_5_method_5_code
def yX3_fitting : MethodName := ⟨RX3, "fitting", "(LLimbMeasures$Port;LLimbMeasures$State;)I"⟩
abbrev cX3_fitsAll : ByteArray := prog_5_method_6_code
def yX3_fitsAll : MethodName := ⟨RX3, "fitsAll", "(I)Z"⟩
abbrev cX3_firstWrong : ByteArray := prog_5_method_7_code
def yX3_firstWrong : MethodName := ⟨RX3, "firstWrong", "(LLimbMeasures$Port;LLimbMeasures$State;)I"⟩
def RX4 : String := "LimbMeasures$Past"
def TX4 : u_T := fun k => match k with
  | 0 => ("LimbMeasures$Past", "undone", "[I", true)
  | 1 => ("LimbMeasures$Past", "images", "[I", true)
  | 2 => ("LimbMeasures$Past", "oldest", "I", false)
  | 3 => ("LimbMeasures$Past", "undoable", "I", false)
  | _ => ("LimbMeasures$Past", "kept", "I", false)
def tyX4 : Nat → FieldType := fun k => match k with
  | 0 => .array .int
  | 1 => .array .int
  | 2 => .int
  | 3 => .int
  | _ => .int
abbrev wsX40 : List Cond := u_ws RX4 TX4 5
theorem nmX4 : ∀ a, a < 5 → ∀ b, b < 5 → a ≠ b → (TX4 a).2.1 ≠ (TX4 b).2.1 := by decide +kernel
theorem tyX4_ok : ∀ k, k < 5 → parseFieldDescriptor (TX4 k).2.2.1 = some (tyX4 k) := by decide +kernel
abbrev cX4_init : ByteArray := prog_6_method_1_code
def yX4_init : MethodName := ⟨RX4, "<init>", "()V"⟩
abbrev cX4_remember : ByteArray := prog_6_method_2_code
def yX4_remember : MethodName := ⟨RX4, "remember", "(LLimbMeasures$State;)V"⟩
abbrev cX4_restoreLatest : ByteArray := prog_6_method_3_code
def yX4_restoreLatest : MethodName := ⟨RX4, "restoreLatest", "(LLimbMeasures$State;)V"⟩
abbrev cX4_latestPlace : ByteArray := prog_6_method_4_code
def yX4_latestPlace : MethodName := ⟨RX4, "latestPlace", "()I"⟩
abbrev cX4_forgetUndone : ByteArray := prog_6_method_5_code
def yX4_forgetUndone : MethodName := ⟨RX4, "forgetUndone", "()V"⟩
abbrev cX4_hasImage : ByteArray := prog_6_method_6_code
def yX4_hasImage : MethodName := ⟨RX4, "hasImage", "(I)Z"⟩
abbrev cX4_keepImage : ByteArray := prog_6_method_7_code
def yX4_keepImage : MethodName := ⟨RX4, "keepImage", "(ILLimbMeasures$State;)V"⟩
abbrev cX4_restoreImage : ByteArray := prog_6_method_8_code
def yX4_restoreImage : MethodName := ⟨RX4, "restoreImage", "(ILLimbMeasures$State;)V"⟩
abbrev cX4_forgetImages : ByteArray := prog_6_method_9_code
def yX4_forgetImages : MethodName := ⟨RX4, "forgetImages", "()V"⟩
def RX5 : String := "LimbMeasures$Port"
def TX5 : u_T := fun k => match k with
  | 0 => ("LimbMeasures$Port", "limbs", "I", false)
  | 1 => ("LimbMeasures$Port", "contracts", "I", false)
  | 2 => ("LimbMeasures$Port", "rates", "I", false)
  | 3 => ("LimbMeasures$Port", "length", "[I", true)
  | 4 => ("LimbMeasures$Port", "added", "[I", true)
  | 5 => ("LimbMeasures$Port", "heir", "[I", true)
  | 6 => ("LimbMeasures$Port", "contractSeason", "[I", true)
  | 7 => ("LimbMeasures$Port", "contractLimb", "[I", true)
  | 8 => ("LimbMeasures$Port", "contractTimes", "[I", true)
  | 9 => ("LimbMeasures$Port", "rateFrom", "[I", true)
  | 10 => ("LimbMeasures$Port", "rateTo", "[I", true)
  | 11 => ("LimbMeasures$Port", "rateGiven", "[I", true)
  | _ => ("LimbMeasures$Port", "rateBack", "[I", true)
def tyX5 : Nat → FieldType := fun k => match k with
  | 0 => .int
  | 1 => .int
  | 2 => .int
  | 3 => .array .int
  | 4 => .array .int
  | 5 => .array .int
  | 6 => .array .int
  | 7 => .array .int
  | 8 => .array .int
  | 9 => .array .int
  | 10 => .array .int
  | 11 => .array .int
  | _ => .array .int
abbrev wsX50 : List Cond := u_ws RX5 TX5 13
theorem nmX5 : ∀ a, a < 13 → ∀ b, b < 13 → a ≠ b → (TX5 a).2.1 ≠ (TX5 b).2.1 := by decide +kernel
theorem tyX5_ok : ∀ k, k < 13 → parseFieldDescriptor (TX5 k).2.2.1 = some (tyX5 k) := by decide +kernel
abbrev cX5_init : ByteArray := prog_7_method_1_code
def yX5_init : MethodName := ⟨RX5, "<init>", "()V"⟩
abbrev cX5_clearAll : ByteArray := prog_7_method_2_code
def yX5_clearAll : MethodName := ⟨RX5, "clearAll", "()V"⟩
abbrev cX5_takeOver : ByteArray := prog_7_method_3_code
def yX5_takeOver : MethodName := ⟨RX5, "takeOver", "(LLimbMeasures$Port;)V"⟩
abbrev cX5_hasLimb : ByteArray := prog_7_method_4_code
def yX5_hasLimb : MethodName := ⟨RX5, "hasLimb", "(I)Z"⟩
abbrev cX5_hasContract : ByteArray := prog_7_method_5_code
def yX5_hasContract : MethodName := ⟨RX5, "hasContract", "(I)Z"⟩
abbrev cX5_hasRate : ByteArray := prog_7_method_6_code
def yX5_hasRate : MethodName := ⟨RX5, "hasRate", "(I)Z"⟩
abbrev cX5_addedAsTold : ByteArray := prog_7_method_7_code
def yX5_addedAsTold : MethodName := ⟨RX5, "addedAsTold", "(II)I"⟩
abbrev cX5_addedIn : ByteArray := prog_7_method_8_code
def yX5_addedIn : MethodName := ⟨RX5, "addedIn", "(II)I"⟩
abbrev cX5_addLimb : ByteArray := prog_7_method_9_code
def yX5_addLimb : MethodName := ⟨RX5, "addLimb", "([I)V"⟩
abbrev cX5_addContract : ByteArray := prog_7_method_10_code
def yX5_addContract : MethodName := ⟨RX5, "addContract", "([I)V"⟩
abbrev cX5_addRate : ByteArray := prog_7_method_11_code
def yX5_addRate : MethodName := ⟨RX5, "addRate", "([I)V"⟩
abbrev cX5_addHeir : ByteArray := prog_7_method_12_code
def yX5_addHeir : MethodName := ⟨RX5, "addHeir", "([I)V"⟩
def RX6 : String := "LimbMeasures$Reader"
def TX6 : u_T := fun k => match k with
  | 0 => ("LimbMeasures$Reader", "text", "LLimbMeasures$Letters;", true)
  | 1 => ("LimbMeasures$Reader", "draft", "LLimbMeasures$Port;", true)
  | 2 => ("LimbMeasures$Reader", "numbers", "[I", true)
  | 3 => ("LimbMeasures$Reader", "place", "I", false)
  | 4 => ("LimbMeasures$Reader", "numberPlace", "I", false)
  | 5 => ("LimbMeasures$Reader", "faultKind", "I", false)
  | _ => ("LimbMeasures$Reader", "faultPlace", "I", false)
def tyX6 : Nat → FieldType := fun k => match k with
  | 0 => .object "LimbMeasures$Letters"
  | 1 => .object "LimbMeasures$Port"
  | 2 => .array .int
  | 3 => .int
  | 4 => .int
  | 5 => .int
  | _ => .int
abbrev wsX60 : List Cond := u_ws RX6 TX6 7
theorem nmX6 : ∀ a, a < 7 → ∀ b, b < 7 → a ≠ b → (TX6 a).2.1 ≠ (TX6 b).2.1 := by decide +kernel
theorem tyX6_ok : ∀ k, k < 7 → parseFieldDescriptor (TX6 k).2.2.1 = some (tyX6 k) := by decide +kernel
abbrev cX6_init : ByteArray := prog_8_method_1_code
def yX6_init : MethodName := ⟨RX6, "<init>", "()V"⟩
abbrev cX6_readText : ByteArray := prog_8_method_2_code
def yX6_readText : MethodName := ⟨RX6, "readText", "()V"⟩
abbrev cX6_readClause : ByteArray := prog_8_method_3_code
def yX6_readClause : MethodName := ⟨RX6, "readClause", "()Z"⟩
abbrev cX6_mayStart : ByteArray := prog_8_method_4_code
def yX6_mayStart : MethodName := ⟨RX6, "mayStart", "(I)Z"⟩
abbrev cX6_isOneTooMany : ByteArray := prog_8_method_5_code
def yX6_isOneTooMany : MethodName := ⟨RX6, "isOneTooMany", "(I)Z"⟩
abbrev cX6_readLimb : ByteArray := prog_8_method_6_code
def yX6_readLimb : MethodName := ⟨RX6, "readLimb", "()Z"⟩
abbrev cX6_readContract : ByteArray := prog_8_method_7_code
def yX6_readContract : MethodName := ⟨RX6, "readContract", "()Z"⟩
abbrev cX6_readRate : ByteArray := prog_8_method_8_code
def yX6_readRate : MethodName := ⟨RX6, "readRate", "()Z"⟩
abbrev cX6_readHeir : ByteArray := prog_8_method_9_code
def yX6_readHeir : MethodName := ⟨RX6, "readHeir", "()Z"⟩
abbrev cX6_isWithoutHeir : ByteArray := prog_8_method_10_code
def yX6_isWithoutHeir : MethodName := ⟨RX6, "isWithoutHeir", "()Z"⟩
abbrev cX6_isUnlike : ByteArray := prog_8_method_11_code
def yX6_isUnlike : MethodName := ⟨RX6, "isUnlike", "()Z"⟩
abbrev cX6_readNumber : ByteArray := prog_8_method_12_code
def yX6_readNumber : MethodName := ⟨RX6, "readNumber", "(III)Z"⟩
abbrev cX6_readClose : ByteArray := prog_8_method_13_code
def yX6_readClose : MethodName := ⟨RX6, "readClose", "()Z"⟩
abbrev cX6_skipBlanks : ByteArray := prog_8_method_14_code
def yX6_skipBlanks : MethodName := ⟨RX6, "skipBlanks", "()V"⟩
abbrev cX6_isFigure : ByteArray := prog_8_method_15_code
def yX6_isFigure : MethodName := ⟨RX6, "isFigure", "(I)Z"⟩
abbrev cX6_fail : ByteArray := prog_8_method_16_code
def yX6_fail : MethodName := ⟨RX6, "fail", "(II)Z"⟩
def RX7 : String := "LimbMeasures$RingSearch"
def TX7 : u_T := fun k => match k with
  | 0 => ("LimbMeasures$RingSearch", "row", "[I", true)
  | _ => ("LimbMeasures$RingSearch", "size", "I", false)
def tyX7 : Nat → FieldType := fun k => match k with
  | 0 => .array .int
  | _ => .int
abbrev wsX70 : List Cond := u_ws RX7 TX7 2
theorem nmX7 : ∀ a, a < 2 → ∀ b, b < 2 → a ≠ b → (TX7 a).2.1 ≠ (TX7 b).2.1 := by decide +kernel
theorem tyX7_ok : ∀ k, k < 2 → parseFieldDescriptor (TX7 k).2.2.1 = some (tyX7 k) := by decide +kernel
abbrev cX7_init : ByteArray := prog_9_method_1_code
def yX7_init : MethodName := ⟨RX7, "<init>", "()V"⟩
abbrev cX7_search : ByteArray := prog_9_method_2_code
def yX7_search : MethodName := ⟨RX7, "search", "(LLimbMeasures$Port;)V"⟩
abbrev cX7_extend : ByteArray := prog_9_method_3_code
def yX7_extend : MethodName := ⟨RX7, "extend", "(LLimbMeasures$Port;IIII)Z"⟩
abbrev cX7_leastMending : ByteArray := prog_9_method_4_code
def yX7_leastMending : MethodName := ⟨RX7, "leastMending", "(LLimbMeasures$Port;)I"⟩
abbrev cX7_gainsWithLess : ByteArray := prog_9_method_5_code
def yX7_gainsWithLess : MethodName := ⟨RX7, "gainsWithLess", "(LLimbMeasures$Port;I)Z"⟩
def RX8 : String := "LimbMeasures$State"
def TX8 : u_T := fun k => match k with
  | _ => ("LimbMeasures$State", "row", "[I", true)
def tyX8 : Nat → FieldType := fun k => match k with
  | _ => .array .int
abbrev wsX80 : List Cond := u_ws RX8 TX8 1
theorem nmX8 : ∀ a, a < 1 → ∀ b, b < 1 → a ≠ b → (TX8 a).2.1 ≠ (TX8 b).2.1 := by decide +kernel
theorem tyX8_ok : ∀ k, k < 1 → parseFieldDescriptor (TX8 k).2.2.1 = some (tyX8 k) := by decide +kernel
abbrev cX8_init : ByteArray := prog_10_method_1_code
def yX8_init : MethodName := ⟨RX8, "<init>", "()V"⟩
abbrev cX8_begin : ByteArray := prog_10_method_2_code
def yX8_begin : MethodName := ⟨RX8, "begin", "(LLimbMeasures$Port;)V"⟩
abbrev cX8_lengthOf : ByteArray := prog_10_method_3_code
def yX8_lengthOf : MethodName := ⟨RX8, "lengthOf", "(I)I"⟩
abbrev cX8_copyOf : ByteArray := prog_10_method_4_code
def yX8_copyOf : MethodName := ⟨RX8, "copyOf", "(I)I"⟩
abbrev cX8_paidOf : ByteArray := prog_10_method_5_code
def yX8_paidOf : MethodName := ⟨RX8, "paidOf", "(I)I"⟩
abbrev cX8_living : ByteArray := prog_10_method_6_code
def yX8_living : MethodName := ⟨RX8, "living", "()I"⟩
abbrev cX8_seasons : ByteArray := prog_10_method_7_code
def yX8_seasons : MethodName := ⟨RX8, "seasons", "()I"⟩
abbrev cX8_seedNow : ByteArray := prog_10_method_8_code
def yX8_seedNow : MethodName := ⟨RX8, "seedNow", "()I"⟩
abbrev cX8_lives : ByteArray := prog_10_method_9_code
def yX8_lives : MethodName := ⟨RX8, "lives", "(I)Z"⟩
abbrev cX8_copied : ByteArray := prog_10_method_10_code
def yX8_copied : MethodName := ⟨RX8, "copied", "()I"⟩
abbrev cX8_paidTogether : ByteArray := prog_10_method_11_code
def yX8_paidTogether : MethodName := ⟨RX8, "paidTogether", "()I"⟩
abbrev cX8_noughts : ByteArray := prog_10_method_12_code
def yX8_noughts : MethodName := ⟨RX8, "noughts", "()I"⟩
abbrev cX8_ownMeasure : ByteArray := prog_10_method_13_code
def yX8_ownMeasure : MethodName := ⟨RX8, "ownMeasure", "(LLimbMeasures$Port;II)I"⟩
abbrev cX8_measure : ByteArray := prog_10_method_14_code
def yX8_measure : MethodName := ⟨RX8, "measure", "(LLimbMeasures$Port;II)I"⟩
abbrev cX8_measureNow : ByteArray := prog_10_method_15_code
def yX8_measureNow : MethodName := ⟨RX8, "measureNow", "(LLimbMeasures$Port;I)I"⟩
abbrev cX8_payment : ByteArray := prog_10_method_16_code
def yX8_payment : MethodName := ⟨RX8, "payment", "(LLimbMeasures$Port;II)I"⟩
abbrev cX8_apartFrom : ByteArray := prog_10_method_17_code
def yX8_apartFrom : MethodName := ⟨RX8, "apartFrom", "(LLimbMeasures$Port;II)I"⟩
abbrev cX8_areUnlike : ByteArray := prog_10_method_18_code
def yX8_areUnlike : MethodName := ⟨RX8, "areUnlike", "(LLimbMeasures$Port;II)Z"⟩
abbrev cX8_passSeason : ByteArray := prog_10_method_19_code
def yX8_passSeason : MethodName := ⟨RX8, "passSeason", "(LLimbMeasures$Port;)V"⟩
abbrev cX8_swell : ByteArray := prog_10_method_20_code
def yX8_swell : MethodName := ⟨RX8, "swell", "(II)V"⟩
abbrev cX8_shorten : ByteArray := prog_10_method_21_code
def yX8_shorten : MethodName := ⟨RX8, "shorten", "(I)V"⟩
abbrev cX8_bury : ByteArray := prog_10_method_22_code
def yX8_bury : MethodName := ⟨RX8, "bury", "(I)V"⟩
abbrev cX8_carve : ByteArray := prog_10_method_23_code
def yX8_carve : MethodName := ⟨RX8, "carve", "(LLimbMeasures$Port;I)V"⟩
abbrev cX8_sow : ByteArray := prog_10_method_24_code
def yX8_sow : MethodName := ⟨RX8, "sow", "(I)V"⟩
abbrev cX8_sufferByDraws : ByteArray := prog_10_method_25_code
def yX8_sufferByDraws : MethodName := ⟨RX8, "sufferByDraws", "(LLimbMeasures$Port;)V"⟩
abbrev cX8_nextDraw : ByteArray := prog_10_method_26_code
def yX8_nextDraw : MethodName := ⟨RX8, "nextDraw", "(I)I"⟩
def RX9 : String := "LimbMeasures"
def TX9 : u_T := fun k => match k with
  | 0 => ("LimbMeasures", "reader", "LLimbMeasures$Reader;", true)
  | 1 => ("LimbMeasures", "town", "LLimbMeasures$Port;", true)
  | 2 => ("LimbMeasures", "state", "LLimbMeasures$State;", true)
  | 3 => ("LimbMeasures", "past", "LLimbMeasures$Past;", true)
  | 4 => ("LimbMeasures", "notes", "LLimbMeasures$Notes;", true)
  | 5 => ("LimbMeasures", "basketSearch", "LLimbMeasures$BasketSearch;", true)
  | 6 => ("LimbMeasures", "ringSearch", "LLimbMeasures$RingSearch;", true)
  | 7 => ("LimbMeasures", "heirSearch", "LLimbMeasures$HeirSearch;", true)
  | _ => ("LimbMeasures", "faultPlace", "I", false)
def tyX9 : Nat → FieldType := fun k => match k with
  | 0 => .object "LimbMeasures$Reader"
  | 1 => .object "LimbMeasures$Port"
  | 2 => .object "LimbMeasures$State"
  | 3 => .object "LimbMeasures$Past"
  | 4 => .object "LimbMeasures$Notes"
  | 5 => .object "LimbMeasures$BasketSearch"
  | 6 => .object "LimbMeasures$RingSearch"
  | 7 => .object "LimbMeasures$HeirSearch"
  | _ => .int
abbrev wsX90 : List Cond := u_ws RX9 TX9 9
theorem nmX9 : ∀ a, a < 9 → ∀ b, b < 9 → a ≠ b → (TX9 a).2.1 ≠ (TX9 b).2.1 := by decide +kernel
theorem tyX9_ok : ∀ k, k < 9 → parseFieldDescriptor (TX9 k).2.2.1 = some (tyX9 k) := by decide +kernel
abbrev cX9_init : ByteArray := prog_1_method_1_code
def yX9_init : MethodName := ⟨RX9, "<init>", "()V"⟩
abbrev cX9_feed : ByteArray := prog_1_method_2_code
def yX9_feed : MethodName := ⟨RX9, "feed", "(I)I"⟩
abbrev cX9_port : ByteArray := prog_1_method_3_code
def yX9_port : MethodName := ⟨RX9, "port", "()I"⟩
abbrev cX9_fault : ByteArray := prog_1_method_4_code
def yX9_fault : MethodName := ⟨RX9, "fault", "()I"⟩
abbrev cX9_told : ByteArray := prog_1_method_5_code
def yX9_told : MethodName := ⟨RX9, "told", "(I)I"⟩
abbrev cX9_limb : ByteArray := prog_1_method_6_code
def yX9_limb : MethodName := ⟨RX9, "limb", "(II)I"⟩
abbrev cX9_contract : ByteArray := prog_1_method_7_code
def yX9_contract : MethodName := ⟨RX9, "contract", "(II)I"⟩
abbrev cX9_rate : ByteArray := prog_1_method_8_code
def yX9_rate : MethodName := ⟨RX9, "rate", "(II)I"⟩
abbrev cX9_season : ByteArray := prog_1_method_9_code
def yX9_season : MethodName := ⟨RX9, "season", "(I)I"⟩
abbrev cX9_gout : ByteArray := prog_1_method_10_code
def yX9_gout : MethodName := ⟨RX9, "gout", "(II)I"⟩
abbrev cX9_stub : ByteArray := prog_1_method_11_code
def yX9_stub : MethodName := ⟨RX9, "stub", "(I)I"⟩
abbrev cX9_dies : ByteArray := prog_1_method_12_code
def yX9_dies : MethodName := ⟨RX9, "dies", "(I)I"⟩
abbrev cX9_copy : ByteArray := prog_1_method_13_code
def yX9_copy : MethodName := ⟨RX9, "copy", "(I)I"⟩
abbrev cX9_drift : ByteArray := prog_1_method_14_code
def yX9_drift : MethodName := ⟨RX9, "drift", "(I)I"⟩
abbrev cX9_undo : ByteArray := prog_1_method_15_code
def yX9_undo : MethodName := ⟨RX9, "undo", "()I"⟩
abbrev cX9_refusalOfSeasons : ByteArray := prog_1_method_16_code
def yX9_refusalOfSeasons : MethodName := ⟨RX9, "refusalOfSeasons", "(I)I"⟩
abbrev cX9_refusalOfLiving : ByteArray := prog_1_method_17_code
def yX9_refusalOfLiving : MethodName := ⟨RX9, "refusalOfLiving", "(I)I"⟩
abbrev cX9_firstNought : ByteArray := prog_1_method_18_code
def yX9_firstNought : MethodName := ⟨RX9, "firstNought", "()I"⟩
abbrev cX9_means : ByteArray := prog_1_method_19_code
def yX9_means : MethodName := ⟨RX9, "means", "(II)I"⟩
abbrev cX9_basket : ByteArray := prog_1_method_20_code
def yX9_basket : MethodName := ⟨RX9, "basket", "(I)I"⟩
abbrev cX9_ring : ByteArray := prog_1_method_21_code
def yX9_ring : MethodName := ⟨RX9, "ring", "(I)I"⟩
abbrev cX9_mended : ByteArray := prog_1_method_22_code
def yX9_mended : MethodName := ⟨RX9, "mended", "()I"⟩
abbrev cX9_heirs : ByteArray := prog_1_method_23_code
def yX9_heirs : MethodName := ⟨RX9, "heirs", "(I)I"⟩
abbrev cX9_reach : ByteArray := prog_1_method_24_code
def yX9_reach : MethodName := ⟨RX9, "reach", "(II)I"⟩
abbrev cX9_bestCopy : ByteArray := prog_1_method_25_code
def yX9_bestCopy : MethodName := ⟨RX9, "bestCopy", "(II)I"⟩
abbrev cX9_nearest : ByteArray := prog_1_method_26_code
def yX9_nearest : MethodName := ⟨RX9, "nearest", "(I)I"⟩
abbrev cX9_odds : ByteArray := prog_1_method_27_code
def yX9_odds : MethodName := ⟨RX9, "odds", "(III)I"⟩
abbrev cX9_got : ByteArray := prog_1_method_28_code
def yX9_got : MethodName := ⟨RX9, "got", "(II)I"⟩
abbrev cX9_used : ByteArray := prog_1_method_29_code
def yX9_used : MethodName := ⟨RX9, "used", "()I"⟩
abbrev cX9_bale : ByteArray := prog_1_method_30_code
def yX9_bale : MethodName := ⟨RX9, "bale", "()I"⟩
abbrev cX9_write : ByteArray := prog_1_method_31_code
def yX9_write : MethodName := ⟨RX9, "write", "(II)I"⟩
abbrev cX9_tear : ByteArray := prog_1_method_32_code
def yX9_tear : MethodName := ⟨RX9, "tear", "()I"⟩
abbrev cX9_judge : ByteArray := prog_1_method_33_code
def yX9_judge : MethodName := ⟨RX9, "judge", "()I"⟩
abbrev cX9_seed : ByteArray := prog_1_method_34_code
def yX9_seed : MethodName := ⟨RX9, "seed", "(I)I"⟩
abbrev cX9_keep : ByteArray := prog_1_method_35_code
def yX9_keep : MethodName := ⟨RX9, "keep", "(I)I"⟩
abbrev cX9_goBack : ByteArray := prog_1_method_36_code
def yX9_goBack : MethodName := ⟨RX9, "goBack", "(I)I"⟩
abbrev cX9_isImage : ByteArray := prog_1_method_37_code
def yX9_isImage : MethodName := ⟨RX9, "isImage", "(I)Z"⟩
def RX10 : String := "LimbMeasuresModel"
def TX10 : u_T := fun k => match k with
  | 0 => ("LimbMeasuresModel", "limbs", "I", false)
  | 1 => ("LimbMeasuresModel", "adds", "[I", true)
  | 2 => ("LimbMeasuresModel", "heir", "[I", true)
  | 3 => ("LimbMeasuresModel", "contracts", "I", false)
  | 4 => ("LimbMeasuresModel", "contractAt", "[I", true)
  | 5 => ("LimbMeasuresModel", "contractLimb", "[I", true)
  | 6 => ("LimbMeasuresModel", "contractMany", "[I", true)
  | 7 => ("LimbMeasuresModel", "rates", "I", false)
  | 8 => ("LimbMeasuresModel", "rateFrom", "[I", true)
  | 9 => ("LimbMeasuresModel", "rateTo", "[I", true)
  | 10 => ("LimbMeasuresModel", "rateU", "[I", true)
  | 11 => ("LimbMeasuresModel", "rateV", "[I", true)
  | 12 => ("LimbMeasuresModel", "now", "[I", true)
  | 13 => ("LimbMeasuresModel", "seed", "I", false)
  | 14 => ("LimbMeasuresModel", "text", "[I", true)
  | 15 => ("LimbMeasuresModel", "texted", "I", false)
  | 16 => ("LimbMeasuresModel", "faultPlace", "I", false)
  | 17 => ("LimbMeasuresModel", "at0", "I", false)
  | 18 => ("LimbMeasuresModel", "number", "I", false)
  | 19 => ("LimbMeasuresModel", "numberAt", "I", false)
  | 20 => ("LimbMeasuresModel", "readLimbs", "I", false)
  | 21 => ("LimbMeasuresModel", "readLength", "[I", true)
  | 22 => ("LimbMeasuresModel", "readAdds", "[I", true)
  | 23 => ("LimbMeasuresModel", "readHeir", "[I", true)
  | 24 => ("LimbMeasuresModel", "readContracts", "I", false)
  | 25 => ("LimbMeasuresModel", "readAt", "[I", true)
  | 26 => ("LimbMeasuresModel", "readLimb", "[I", true)
  | 27 => ("LimbMeasuresModel", "readMany", "[I", true)
  | 28 => ("LimbMeasuresModel", "readRates", "I", false)
  | 29 => ("LimbMeasuresModel", "readFrom", "[I", true)
  | 30 => ("LimbMeasuresModel", "readTo", "[I", true)
  | 31 => ("LimbMeasuresModel", "readU", "[I", true)
  | 32 => ("LimbMeasuresModel", "readV", "[I", true)
  | 33 => ("LimbMeasuresModel", "undos", "I", false)
  | 34 => ("LimbMeasuresModel", "past", "[I", true)
  | 35 => ("LimbMeasuresModel", "bestBasket", "I", false)
  | 36 => ("LimbMeasuresModel", "ringLong", "I", false)
  | 37 => ("LimbMeasuresModel", "gots", "I", false)
  | 38 => ("LimbMeasuresModel", "gotMany", "[I", true)
  | 39 => ("LimbMeasuresModel", "gotMuch", "[I", true)
  | 40 => ("LimbMeasuresModel", "booked", "I", false)
  | 41 => ("LimbMeasuresModel", "bookLimb", "[I", true)
  | 42 => ("LimbMeasuresModel", "bookMeasure", "[I", true)
  | 43 => ("LimbMeasuresModel", "images", "[I", true)
  | _ => ("LimbMeasuresModel", "isKept", "[Z", true)
def tyX10 : Nat → FieldType := fun k => match k with
  | 0 => .int
  | 1 => .array .int
  | 2 => .array .int
  | 3 => .int
  | 4 => .array .int
  | 5 => .array .int
  | 6 => .array .int
  | 7 => .int
  | 8 => .array .int
  | 9 => .array .int
  | 10 => .array .int
  | 11 => .array .int
  | 12 => .array .int
  | 13 => .int
  | 14 => .array .int
  | 15 => .int
  | 16 => .int
  | 17 => .int
  | 18 => .int
  | 19 => .int
  | 20 => .int
  | 21 => .array .int
  | 22 => .array .int
  | 23 => .array .int
  | 24 => .int
  | 25 => .array .int
  | 26 => .array .int
  | 27 => .array .int
  | 28 => .int
  | 29 => .array .int
  | 30 => .array .int
  | 31 => .array .int
  | 32 => .array .int
  | 33 => .int
  | 34 => .array .int
  | 35 => .int
  | 36 => .int
  | 37 => .int
  | 38 => .array .int
  | 39 => .array .int
  | 40 => .int
  | 41 => .array .int
  | 42 => .array .int
  | 43 => .array .int
  | _ => .array .boolean
abbrev wsX100 : List Cond := u_ws RX10 TX10 45
theorem nmX10 : ∀ a, a < 45 → ∀ b, b < 45 → a ≠ b → (TX10 a).2.1 ≠ (TX10 b).2.1 := by decide +kernel
theorem tyX10_ok : ∀ k, k < 45 → parseFieldDescriptor (TX10 k).2.2.1 = some (tyX10 k) := by decide +kernel
abbrev cX10_init : ByteArray := prog_12_method_1_code
def yX10_init : MethodName := ⟨RX10, "<init>", "()V"⟩
abbrev cX10_in : ByteArray := prog_12_method_3_code
def yX10_in : MethodName := ⟨RX10, "in", "(JJJ)Z"⟩
abbrev cX10_has : ByteArray := prog_12_method_4_code
def yX10_has : MethodName := ⟨RX10, "has", "(II)Z"⟩
abbrev cX10_bits : ByteArray := prog_12_method_5_code
def yX10_bits : MethodName := ⟨RX10, "bits", "(I)I"⟩
abbrev cX10_apart : ByteArray := prog_12_method_6_code
def yX10_apart : MethodName := ⟨RX10, "apart", "(II)I"⟩
abbrev cX10_isLimb : ByteArray := prog_12_method_7_code
def yX10_isLimb : MethodName := ⟨RX10, "isLimb", "(I)Z"⟩
abbrev cX10_lives : ByteArray := prog_12_method_8_code
def yX10_lives : MethodName := ⟨RX10, "lives", "(I)Z"⟩
abbrev cX10_feed : ByteArray := prog_12_method_9_code
def yX10_feed : MethodName := ⟨RX10, "feed", "(I)I"⟩
abbrev cX10_here : ByteArray := prog_12_method_10_code
def yX10_here : MethodName := ⟨RX10, "here", "()I"⟩
abbrev cX10_fails : ByteArray := prog_12_method_11_code
def yX10_fails : MethodName := ⟨RX10, "fails", "(II)I"⟩
abbrev cX10_takeNumber : ByteArray := prog_12_method_12_code
def yX10_takeNumber : MethodName := ⟨RX10, "takeNumber", "(II)I"⟩
abbrev cX10_into : ByteArray := prog_12_method_13_code
def yX10_into : MethodName := ⟨RX10, "into", "([IIII)I"⟩
abbrev cX10_takeLimb : ByteArray := prog_12_method_14_code
def yX10_takeLimb : MethodName := ⟨RX10, "takeLimb", "()I"⟩
abbrev cX10_takeContract : ByteArray := prog_12_method_15_code
def yX10_takeContract : MethodName := ⟨RX10, "takeContract", "()I"⟩
abbrev cX10_takeRate : ByteArray := prog_12_method_16_code
def yX10_takeRate : MethodName := ⟨RX10, "takeRate", "()I"⟩
abbrev cX10_takeHeir : ByteArray := prog_12_method_17_code
def yX10_takeHeir : MethodName := ⟨RX10, "takeHeir", "()I"⟩
abbrev cX10_takeClause : ByteArray := prog_12_method_18_code
def yX10_takeClause : MethodName := ⟨RX10, "takeClause", "()I"⟩
abbrev cX10_takeRead : ByteArray := prog_12_method_19_code
def yX10_takeRead : MethodName := ⟨RX10, "takeRead", "()V"⟩
abbrev cX10_port : ByteArray := prog_12_method_20_code
def yX10_port : MethodName := ⟨RX10, "port", "()I"⟩
abbrev cX10_fault : ByteArray := prog_12_method_21_code
def yX10_fault : MethodName := ⟨RX10, "fault", "()I"⟩
abbrev cX10_copied : ByteArray := prog_12_method_22_code
def yX10_copied : MethodName := ⟨RX10, "copied", "()I"⟩
abbrev cX10_told : ByteArray := prog_12_method_23_code
def yX10_told : MethodName := ⟨RX10, "told", "(I)I"⟩
abbrev cX10_grown : ByteArray := prog_12_method_24_code
def yX10_grown : MethodName := ⟨RX10, "grown", "(II)I"⟩
abbrev cX10_measure : ByteArray := prog_12_method_25_code
def yX10_measure : MethodName := ⟨RX10, "measure", "(II)I"⟩
abbrev cX10_measureNow : ByteArray := prog_12_method_26_code
def yX10_measureNow : MethodName := ⟨RX10, "measureNow", "(I)I"⟩
abbrev cX10_limb : ByteArray := prog_12_method_27_code
def yX10_limb : MethodName := ⟨RX10, "limb", "(II)I"⟩
abbrev cX10_contract : ByteArray := prog_12_method_28_code
def yX10_contract : MethodName := ⟨RX10, "contract", "(II)I"⟩
abbrev cX10_rate : ByteArray := prog_12_method_29_code
def yX10_rate : MethodName := ⟨RX10, "rate", "(II)I"⟩
abbrev cX10_remember : ByteArray := prog_12_method_30_code
def yX10_remember : MethodName := ⟨RX10, "remember", "()V"⟩
abbrev cX10_pass : ByteArray := prog_12_method_31_code
def yX10_pass : MethodName := ⟨RX10, "pass", "()V"⟩
abbrev cX10_seasonsRefused : ByteArray := prog_12_method_32_code
def yX10_seasonsRefused : MethodName := ⟨RX10, "seasonsRefused", "(I)I"⟩
abbrev cX10_season : ByteArray := prog_12_method_33_code
def yX10_season : MethodName := ⟨RX10, "season", "(I)I"⟩
abbrev cX10_swell : ByteArray := prog_12_method_34_code
def yX10_swell : MethodName := ⟨RX10, "swell", "(II)V"⟩
abbrev cX10_shrink : ByteArray := prog_12_method_35_code
def yX10_shrink : MethodName := ⟨RX10, "shrink", "(I)V"⟩
abbrev cX10_gout : ByteArray := prog_12_method_36_code
def yX10_gout : MethodName := ⟨RX10, "gout", "(II)I"⟩
abbrev cX10_stub : ByteArray := prog_12_method_37_code
def yX10_stub : MethodName := ⟨RX10, "stub", "(I)I"⟩
abbrev cX10_dies : ByteArray := prog_12_method_38_code
def yX10_dies : MethodName := ⟨RX10, "dies", "(I)I"⟩
abbrev cX10_copy : ByteArray := prog_12_method_39_code
def yX10_copy : MethodName := ⟨RX10, "copy", "(I)I"⟩
abbrev cX10_draw : ByteArray := prog_12_method_40_code
def yX10_draw : MethodName := ⟨RX10, "draw", "(I)I"⟩
abbrev cX10_drawn : ByteArray := prog_12_method_41_code
def yX10_drawn : MethodName := ⟨RX10, "drawn", "()V"⟩
abbrev cX10_drift : ByteArray := prog_12_method_42_code
def yX10_drift : MethodName := ⟨RX10, "drift", "(I)I"⟩
abbrev cX10_undo : ByteArray := prog_12_method_43_code
def yX10_undo : MethodName := ⟨RX10, "undo", "()I"⟩
abbrev cX10_firstNought : ByteArray := prog_12_method_44_code
def yX10_firstNought : MethodName := ⟨RX10, "firstNought", "()I"⟩
abbrev cX10_means : ByteArray := prog_12_method_45_code
def yX10_means : MethodName := ⟨RX10, "means", "(II)I"⟩
abbrev cX10_times : ByteArray := prog_12_method_46_code
def yX10_times : MethodName := ⟨RX10, "times", "(II)I"⟩
abbrev cX10_isFree : ByteArray := prog_12_method_47_code
def yX10_isFree : MethodName := ⟨RX10, "isFree", "(I)Z"⟩
abbrev cX10_basketAt : ByteArray := prog_12_method_48_code
def yX10_basketAt : MethodName := ⟨RX10, "basketAt", "(II)I"⟩
abbrev cX10_timesOf : ByteArray := prog_12_method_49_code
def yX10_timesOf : MethodName := ⟨RX10, "timesOf", "(I)I"⟩
abbrev cX10_limbsOf : ByteArray := prog_12_method_50_code
def yX10_limbsOf : MethodName := ⟨RX10, "limbsOf", "(I)I"⟩
abbrev cX10_isBasket : ByteArray := prog_12_method_51_code
def yX10_isBasket : MethodName := ⟨RX10, "isBasket", "(I)Z"⟩
abbrev cX10_isAhead : ByteArray := prog_12_method_52_code
def yX10_isAhead : MethodName := ⟨RX10, "isAhead", "(II)Z"⟩
abbrev cX10_findBasket : ByteArray := prog_12_method_53_code
def yX10_findBasket : MethodName := ⟨RX10, "findBasket", "()V"⟩
abbrev cX10_basket : ByteArray := prog_12_method_54_code
def yX10_basket : MethodName := ⟨RX10, "basket", "(I)I"⟩
abbrev cX10_figure : ByteArray := prog_12_method_55_code
def yX10_figure : MethodName := ⟨RX10, "figure", "(III)I"⟩
abbrev cX10_isRow : ByteArray := prog_12_method_56_code
def yX10_isRow : MethodName := ⟨RX10, "isRow", "(II)Z"⟩
abbrev cX10_gains : ByteArray := prog_12_method_57_code
def yX10_gains : MethodName := ⟨RX10, "gains", "(III)Z"⟩
abbrev cX10_findRing : ByteArray := prog_12_method_58_code
def yX10_findRing : MethodName := ⟨RX10, "findRing", "()I"⟩
abbrev cX10_ring : ByteArray := prog_12_method_59_code
def yX10_ring : MethodName := ⟨RX10, "ring", "(I)I"⟩
abbrev cX10_mended : ByteArray := prog_12_method_60_code
def yX10_mended : MethodName := ⟨RX10, "mended", "()I"⟩
abbrev cX10_heirOf : ByteArray := prog_12_method_61_code
def yX10_heirOf : MethodName := ⟨RX10, "heirOf", "(II)I"⟩
abbrev cX10_apartBy : ByteArray := prog_12_method_62_code
def yX10_apartBy : MethodName := ⟨RX10, "apartBy", "(I)I"⟩
abbrev cX10_heirs : ByteArray := prog_12_method_63_code
def yX10_heirs : MethodName := ⟨RX10, "heirs", "(I)I"⟩
abbrev cX10_reach : ByteArray := prog_12_method_64_code
def yX10_reach : MethodName := ⟨RX10, "reach", "(II)I"⟩
abbrev cX10_bestCopy : ByteArray := prog_12_method_65_code
def yX10_bestCopy : MethodName := ⟨RX10, "bestCopy", "(II)I"⟩
abbrev cX10_nearest : ByteArray := prog_12_method_66_code
def yX10_nearest : MethodName := ⟨RX10, "nearest", "(I)I"⟩
abbrev cX10_odds : ByteArray := prog_12_method_67_code
def yX10_odds : MethodName := ⟨RX10, "odds", "(III)I"⟩
abbrev cX10_got : ByteArray := prog_12_method_68_code
def yX10_got : MethodName := ⟨RX10, "got", "(II)I"⟩
abbrev cX10_used : ByteArray := prog_12_method_69_code
def yX10_used : MethodName := ⟨RX10, "used", "()I"⟩
abbrev cX10_bale : ByteArray := prog_12_method_70_code
def yX10_bale : MethodName := ⟨RX10, "bale", "()I"⟩
abbrev cX10_write : ByteArray := prog_12_method_71_code
def yX10_write : MethodName := ⟨RX10, "write", "(II)I"⟩
abbrev cX10_tear : ByteArray := prog_12_method_72_code
def yX10_tear : MethodName := ⟨RX10, "tear", "()I"⟩
abbrev cX10_judge : ByteArray := prog_12_method_73_code
def yX10_judge : MethodName := ⟨RX10, "judge", "()I"⟩
abbrev cX10_seed : ByteArray := prog_12_method_74_code
def yX10_seed : MethodName := ⟨RX10, "seed", "(I)I"⟩
abbrev cX10_keep : ByteArray := prog_12_method_75_code
def yX10_keep : MethodName := ⟨RX10, "keep", "(I)I"⟩
abbrev cX10_goBack : ByteArray := prog_12_method_76_code
def yX10_goBack : MethodName := ⟨RX10, "goBack", "(I)I"⟩
def RJ6 : String := "java/lang/Integer"
def TJ6 : u_T := fun k => match k with
  | _ => ("", "", "", false)
def tyJ6 : Nat → FieldType := fun k => match k with
  | _ => .int
abbrev wsJ60 : List Cond := u_ws RJ6 TJ6 0
theorem nmJ6 : ∀ a, a < 0 → ∀ b, b < 0 → a ≠ b → (TJ6 a).2.1 ≠ (TJ6 b).2.1 := by decide +kernel
theorem tyJ6_ok : ∀ k, k < 0 → parseFieldDescriptor (TJ6 k).2.2.1 = some (tyJ6 k) := by decide +kernel
abbrev cJ6_bitCount_0f7a4 : ByteArray := prog_13_method_49_code
def yJ6_bitCount_0f7a4 : MethodName := ⟨RJ6, "bitCount", "(I)I"⟩
def RJ9 : String := "java/lang/Math"
def TJ9 : u_T := fun k => match k with
  | _ => ("", "", "", false)
def tyJ9 : Nat → FieldType := fun k => match k with
  | _ => .int
abbrev wsJ90 : List Cond := u_ws RJ9 TJ9 0
theorem nmJ9 : ∀ a, a < 0 → ∀ b, b < 0 → a ≠ b → (TJ9 a).2.1 ≠ (TJ9 b).2.1 := by decide +kernel
theorem tyJ9_ok : ∀ k, k < 0 → parseFieldDescriptor (TJ9 k).2.2.1 = some (tyJ9 k) := by decide +kernel
abbrev cJ9_abs_0f7a4 : ByteArray := prog_14_method_59_code
def yJ9_abs_0f7a4 : MethodName := ⟨RJ9, "abs", "(I)I"⟩
abbrev cJ9_max_7cf53 : ByteArray := prog_14_method_65_code
def yJ9_max_7cf53 : MethodName := ⟨RJ9, "max", "(II)I"⟩
abbrev cJ9_min_7cf53 : ByteArray := prog_14_method_69_code
def yJ9_min_7cf53 : MethodName := ⟨RJ9, "min", "(II)I"⟩
def RJ10 : String := "java/lang/System"
def TJ10 : u_T := fun k => match k with
  | _ => ("", "", "", false)
def tyJ10 : Nat → FieldType := fun k => match k with
  | _ => .int
abbrev wsJ100 : List Cond := u_ws RJ10 TJ10 0
theorem nmJ10 : ∀ a, a < 0 → ∀ b, b < 0 → a ≠ b → (TJ10 a).2.1 ≠ (TJ10 b).2.1 := by decide +kernel
theorem tyJ10_ok : ∀ k, k < 0 → parseFieldDescriptor (TJ10 k).2.2.1 = some (tyJ10 k) := by decide +kernel
def RL : String := "LimbMeasuresLaw"
abbrev cL_law : ByteArray := code
def yL_law : MethodName := ⟨RL, "law", "([I)Z"⟩
abbrev vwCl : List vw_C := [(RX0, TX0, 8), (RX1, TX1, 4), (RX2, TX2, 2), (RX3, TX3, 6), (RX4, TX4, 5), (RX5, TX5, 13), (RX6, TX6, 7), (RX7, TX7, 2), (RX8, TX8, 1), (RX9, TX9, 9), (RX10, TX10, 45)]
end
section
/-! THE ABSTRACT MACHINE: cells by their place in a list, locals by an association list, one step of one instruction a function. -/
abbrev AC : Type := (Nat × Nat × (Nat → Int32)) ⊕ (Nat × List Value)
abbrev AH : Type := List AC
abbrev AS : Type := Nat × List (Nat × Value) × List Value × AH
abbrev AE : Type := Instr × Nat × Nat × Nat × Int32 × Int64
abbrev MI : Type := MethodName × ByteArray × Nat × Option FieldType × List (Nat × AE)
abbrev AR : Type := Option Value × AH
abbrev AX : Type := Option (Nat × (Nat → Int32))
def ab_nt {α : Type} : List α → Nat → Option α
  | [], _ => none
  | a :: _, 0 => some a
  | _ :: r, k + 1 => ab_nt r k
def ab_st {α : Type} : List α → Nat → α → List α
  | [], _, _ => []
  | _ :: r, 0, v => v :: r
  | a :: r, k + 1, v => a :: ab_st r k v
def ab_lg : List (Nat × Value) → Nat → Option Value
  | [], _ => none
  | q :: r, i => if q.1 = i then some q.2 else ab_lg r i
def ab_lk : List (Nat × AE) → Nat → Option AE
  | [], _ => none
  | q :: r, pc => if q.1 = pc then some q.2 else ab_lk r pc
def ab_p1 (lv : List (Nat × Value)) (i : Nat) (v : Value) : List (Nat × Value) := (i, v) :: lv.filter (fun q => !(q.1 == i) && !(q.1 + 1 == i && q.2.category == 2))
def ab_p2 (lv : List (Nat × Value)) (i : Nat) (v : Value) : List (Nat × Value) := (i, v) :: lv.filter (fun q => !(q.1 == i) && (!(q.1 == i + 1) && !(q.1 + 1 == i && q.2.category == 2)))
/-- the law's own script, as a reference -/
def ab_scr : Nat := 1000000
def ab_if (c : Jvm.ClassFile.Cond) (x y : Int32) (a b : Nat) : Nat := match c with
  | .eq => if x = y then a else b
  | .ne => if ¬ x = y then a else b
  | .lt => if x < y then a else b
  | .ge => if y ≤ x then a else b
  | .gt => if y < x then a else b
  | .le => if x ≤ y then a else b
abbrev AO : Type := Option (AS × Prop)
def ab_push (n : Nat) (v : Value) : AS → AO
  | (pc, lv, r, h) => some ((pc + n, lv, v :: r, h), True)
def ab_b (n : Nat) (f : Int32 → Int32 → Int32) : AS → AO
  | (pc, lv, .int y :: .int x :: r, h) => some ((pc + n, lv, .int (f x y) :: r, h), True)
  | _ => none
def ab_d (n : Nat) (f : Int32 → Int32 → Int32) : AS → AO
  | (pc, lv, .int y :: .int x :: r, h) => some ((pc + n, lv, .int (f x y) :: r, h), ¬ y = 0)
  | _ => none
def ab_bl (n : Nat) (f : Int64 → Int64 → Int64) : AS → AO
  | (pc, lv, .long y :: .long x :: r, h) => some ((pc + n, lv, .long (f x y) :: r, h), True)
  | _ => none
def ab_dl (n : Nat) (f : Int64 → Int64 → Int64) : AS → AO
  | (pc, lv, .long y :: .long x :: r, h) => some ((pc + n, lv, .long (f x y) :: r, h), ¬ y = 0)
  | _ => none
def ab_ldi (n i : Nat) : AS → AO
  | (pc, lv, r, h) => match ab_lg lv i with
    | some (.int x) => some ((pc + n, lv, .int x :: r, h), True)
    | _ => none
def ab_ldl (n i : Nat) : AS → AO
  | (pc, lv, r, h) => match ab_lg lv i with
    | some (.long x) => some ((pc + n, lv, .long x :: r, h), True)
    | _ => none
def ab_lda (n i : Nat) : AS → AO
  | (pc, lv, r, h) => match ab_lg lv i with
    | some (.ref x) => some ((pc + n, lv, .ref x :: r, h), True)
    | _ => none
def ab_sti (n i maxL : Nat) : AS → AO
  | (pc, lv, .int x :: r, h) => some ((pc + n, ab_p1 lv i (.int x), r, h), i < maxL)
  | _ => none
def ab_stl (n i maxL : Nat) : AS → AO
  | (pc, lv, .long x :: r, h) => some ((pc + n, ab_p2 lv i (.long x), r, h), i + 1 < maxL)
  | _ => none
def ab_sta (n i maxL : Nat) : AS → AO
  | (pc, lv, .ref x :: r, h) => some ((pc + n, ab_p1 lv i (.ref x), r, h), i < maxL)
  | _ => none
def ab_inc (n i maxL : Nat) (v : Int32) : AS → AO
  | (pc, lv, r, h) => match ab_lg lv i with
    | some (.int x) => some ((pc + n, ab_p1 lv i (.int (x + v)), r, h), i < maxL)
    | _ => none
def ab_get (ci k : Nat) : AS → AO
  | (pc, lv, .ref a :: r, h) => match ab_nt h a with
    | some (.inr (c, fs)) => if c = ci then match ab_nt fs k with
      | some v => some ((pc + 3, lv, v :: r, h), True)
      | none => none else none
    | _ => none
  | _ => none
def ab_puti (ci k : Nat) : AS → AO
  | (pc, lv, .int x :: .ref a :: r, h) => match ab_nt h a with
    | some (.inr (c, fs)) => if c = ci then match ab_nt fs k with
      | some _ => some ((pc + 3, lv, r, ab_st h a (.inr (c, ab_st fs k (.int x)))), True)
      | none => none else none
    | _ => none
  | _ => none
def ab_puta (ci k : Nat) : AS → AO
  | (pc, lv, .ref x :: .ref a :: r, h) => match ab_nt h a with
    | some (.inr (c, fs)) => if c = ci then match ab_nt fs k with
      | some _ => some ((pc + 3, lv, r, ab_st h a (.inr (c, ab_st fs k (.ref x)))), True)
      | none => none else none
    | _ => none
  | _ => none
def ab_ald (b : Nat) : AS → AO
  | (pc, lv, .int i :: .ref a :: r, h) => match ab_nt h a with
    | some (.inl (t, n, f)) => if t = b then some ((pc + 1, lv, .int (f i.toNatClampNeg) :: r, h), vp_in i n) else none
    | _ => none
  | _ => none
def ab_sld (X : AX) : AS → AO
  | (pc, lv, .int i :: .ref a :: r, h) => match X with
    | some x => if a = ab_scr then some ((pc + 1, lv, .int (x.2 i.toNatClampNeg) :: r, h), vp_in i x.1) else none
    | none => none
  | _ => none
def ab_ast : AS → AO
  | (pc, lv, .int x :: .int i :: .ref a :: r, h) => match ab_nt h a with
    | some (.inl (0, n, f)) => some ((pc + 1, lv, r, ab_st h a (.inl (0, n, upd f i.toNatClampNeg x))), vp_in i n)
    | _ => none
  | _ => none
def ab_zst : AS → AO
  | (pc, lv, .int x :: .int i :: .ref a :: r, h) => match ab_nt h a with
    | some (.inl (1, n, f)) => some ((pc + 1, lv, r, ab_st h a (.inl (1, n, upd f i.toNatClampNeg x))), vp_in i n ∧ (x = 0 ∨ x = 1))
    | _ => none
  | _ => none
def ab_len (X : AX) : AS → AO
  | (pc, lv, .ref a :: r, h) => match X with
    | some x => if a = ab_scr then some ((pc + 1, lv, .int (Int32.ofNat x.1) :: r, h), True) else none
    | none => none
  | _ => none
def ab_cpy : AS → AO
  | (pc, lv, .int n :: .int dp :: .ref b :: .int sp :: .ref a :: r, h) => match ab_nt h a, ab_nt h b with
    | some (.inl (0, n0, f)), some (.inl (0, n1, g)) => some ((pc + 3, lv, r, ab_st h b (.inl (0, n1, va_cpy f g sp.toNatClampNeg dp.toNatClampNeg n.toNatClampNeg))),
        ¬ sp < 0 ∧ ¬ dp < 0 ∧ ¬ n < 0 ∧ sp.toNatClampNeg + n.toNatClampNeg ≤ n0 ∧ dp.toNatClampNeg + n.toNatClampNeg ≤ n1 ∧ (r.map fun v => v.category).sum ≤ 8)
    | _, _ => none
  | _ => none
def ab_m2 (f : Int32 → Int32 → Int32) : AS → AO
  | (pc, lv, .int y :: .int x :: r, h) => some ((pc + 3, lv, .int (f x y) :: r, h), (r.map fun v => v.category).sum ≤ 8)
  | _ => none
def ab_m1 (f : Int32 → Int32) : AS → AO
  | (pc, lv, .int x :: r, h) => some ((pc + 3, lv, .int (f x) :: r, h), (r.map fun v => v.category).sum ≤ 8)
  | _ => none
def ab_tsw (pc : Nat) (dflt lo hi : Int) (offs : Array Int) (x : Int32) : Nat := if x.toInt < lo ∨ hi < x.toInt then ((pc : Int) + dflt).toNat else match offs[(x.toInt - lo).toNat]? with
  | some o => ((pc : Int) + o).toNat
  | none => 0
/-- one instruction (no call, nothing made, no return): the state behind it, and what must hold for it -/
def ab_step (X : AX) (maxL : Nat) (e : AE) (S : AS) : AO := match e.1 with
  | .iconst _ => ab_push 1 (.int e.2.2.2.2.1) S
  | .bipush _ => ab_push 2 (.int e.2.2.2.2.1) S
  | .sipush _ => ab_push 3 (.int e.2.2.2.2.1) S
  | .ldc _ => ab_push 2 (.int e.2.2.2.2.1) S
  | .ldc_w _ => ab_push 3 (.int e.2.2.2.2.1) S
  | .lconst _ => ab_push 1 (.long e.2.2.2.2.2) S
  | .ldc2_w _ => ab_push 3 (.long e.2.2.2.2.2) S
  | .iload_n _ => ab_ldi 1 e.2.2.1 S
  | .iload _ => ab_ldi 2 e.2.2.1 S
  | .lload_n _ => ab_ldl 1 e.2.2.1 S
  | .lload _ => ab_ldl 2 e.2.2.1 S
  | .aload_n _ => ab_lda 1 e.2.2.1 S
  | .aload _ => ab_lda 2 e.2.2.1 S
  | .istore_n _ => ab_sti 1 e.2.2.1 maxL S
  | .istore _ => ab_sti 2 e.2.2.1 maxL S
  | .lstore_n _ => ab_stl 1 e.2.2.1 maxL S
  | .lstore _ => ab_stl 2 e.2.2.1 maxL S
  | .astore_n _ => ab_sta 1 e.2.2.1 maxL S
  | .iinc _ _ => ab_inc 3 e.2.2.1 maxL e.2.2.2.2.1 S
  | .iadd => ab_b 1 (· + ·) S
  | .isub => ab_b 1 (· - ·) S
  | .imul => ab_b 1 (· * ·) S
  | .iand => ab_b 1 (· &&& ·) S
  | .ior => ab_b 1 (· ||| ·) S
  | .ixor => ab_b 1 (· ^^^ ·) S
  | .idiv => ab_d 1 (· / ·) S
  | .irem => ab_d 1 (fun x y => x - x / y * y) S
  | .ishl => ab_b 1 (fun x y => x <<< (y &&& 31)) S
  | .ishr => ab_b 1 (fun x y => x >>> (y &&& 31)) S
  | .iushr => ab_b 1 (fun x y => (x.toUInt32 >>> (y.toUInt32 &&& Int32.toUInt32 31)).toInt32) S
  | .ineg => match S with
    | (pc, lv, .int x :: r, h) => some ((pc + 1, lv, .int (-x) :: r, h), True)
    | _ => none
  | .ladd => ab_bl 1 (· + ·) S
  | .lmul => ab_bl 1 (· * ·) S
  | .land => ab_bl 1 (· &&& ·) S
  | .ldiv => ab_dl 1 (· / ·) S
  | .lrem => ab_dl 1 (fun x y => x - x / y * y) S
  | .lcmp => match S with
    | (pc, lv, .long y :: .long x :: r, h) => some ((pc + 1, lv, .int (lg_cmp x y) :: r, h), True)
    | _ => none
  | .i2l => match S with
    | (pc, lv, .int x :: r, h) => some ((pc + 1, lv, .long x.toInt64 :: r, h), True)
    | _ => none
  | .l2i => match S with
    | (pc, lv, .long x :: r, h) => some ((pc + 1, lv, .int x.toInt32 :: r, h), True)
    | _ => none
  | .dup => match S with
    | (pc, lv, v :: r, h) => some ((pc + 1, lv, v :: v :: r, h), v.category = 1)
    | _ => none
  | .dup2 => match S with
    | (pc, lv, v :: w :: r, h) => some ((pc + 1, lv, v :: w :: v :: w :: r, h), v.category = 1 ∧ w.category = 1)
    | _ => none
  | .goto _ => match S with
    | (_, lv, r, h) => some ((e.2.2.1, lv, r, h), True)
  | .ifCond c _ => match S with
    | (pc, lv, .int x :: r, h) => some ((ab_if c x 0 e.2.2.1 (pc + 3), lv, r, h), True)
    | _ => none
  | .if_icmp c _ => match S with
    | (pc, lv, .int y :: .int x :: r, h) => some ((ab_if c x y e.2.2.1 (pc + 3), lv, r, h), True)
    | _ => none
  | .getfield _ => ab_get e.2.2.1 e.2.2.2.1 S
  | .putfield _ => if e.2.2.2.2.1 = 0 then ab_puti e.2.2.1 e.2.2.2.1 S else ab_puta e.2.2.1 e.2.2.2.1 S
  | .iaload => if X.isSome then ab_sld X S else ab_ald 0 S
  | .baload => ab_ald 1 S
  | .iastore => ab_ast S
  | .bastore => ab_zst S
  | .arraylength => ab_len X S
  | .invokestatic _ => if e.2.2.1 = 1 then ab_cpy S else if e.2.2.1 = 2 then ab_m2 (fun x y => if x < y then y else x) S else if e.2.2.1 = 3 then ab_m2 (fun x y => if y < x then y else x) S else if e.2.2.1 = 4 then ab_m1 (fun x => if 0 ≤ x then x else 0 - x) S else none
  | .invokespecial _ => if e.2.2.1 = 1 then match S with
    | (pc, lv, .ref _ :: r, h) => some ((pc + 3, lv, r, h), (r.map fun v => v.category).sum ≤ 8)
    | _ => none else none
  | .tableswitch dflt lo hi offs => match S with
    | (pc, lv, .int x :: r, h) => some ((ab_tsw pc dflt lo hi offs x, lv, r, h), True)
    | _ => none
  | .lookupswitch dflt ps => match S with
    | (pc, lv, .int x :: r, h) => some ((((pc : Int) + Op.lookupswitch.offset ps.toList dflt x.toInt).toNat, lv, r, h), 0 ≤ (pc : Int) + Op.lookupswitch.offset ps.toList dflt x.toInt)
    | _ => none
  | _ => none

def ab_iter (X : AX) (M : MI) : Nat → AS → AO
  | 0, S => some (S, True)
  | k + 1, S => match ab_lk M.2.2.2.2 S.1 with
    | some e => match ab_step X M.2.2.1 e S with
      | some (S', C) => match ab_iter X M k S' with
        | some (S2, C2) => some (S2, C ∧ C2)
        | none => none
      | none => none
    | none => none
/-- the words that every frame keeps; those of nest mates, that go along by themselves -/
def ab_T : List Cond := lw_tbl.filter goodWord
def ab_ns : Cond → Bool
  | .fieldLinkNest .. => true
  | .methodLinkNest .. => true
  | _ => false
def ab_U : List Cond := lw_tbl.filter ab_ns
theorem ab_in {i : Nat} {w : Cond} (h : lw_tbl[i]? = some w) (g : goodWord w = true) : w ∈ ab_T := List.mem_filter.mpr ⟨List.mem_of_getElem? h, g⟩
theorem ab_iu {i : Nat} {w : Cond} (h : lw_tbl[i]? = some w) (g : ab_ns w = true) : w ∈ ab_U := List.mem_filter.mpr ⟨List.mem_of_getElem? h, g⟩
/-- what a program decides of an entry -/
def ab_okd (pc : Nat) (e : AE) : Bool := match e.1 with
  | .iconst n => e.2.1 == 1 && Int32.ofInt n == e.2.2.2.2.1
  | .bipush n => e.2.1 == 2 && (Int8.ofInt n).toInt32 == e.2.2.2.2.1
  | .sipush n => e.2.1 == 3 && (Int16.ofInt n).toInt32 == e.2.2.2.2.1
  | .ldc _ => e.2.1 == 2
  | .ldc_w _ => e.2.1 == 3
  | .lconst n => e.2.1 == 1 && Int64.ofNat (n : Nat) == e.2.2.2.2.2
  | .ldc2_w _ => e.2.1 == 3
  | .iload_n k => e.2.1 == 1 && (k : Nat) == e.2.2.1
  | .iload k => e.2.1 == 2 && k == e.2.2.1
  | .lload_n k => e.2.1 == 1 && (k : Nat) == e.2.2.1
  | .lload k => e.2.1 == 2 && k == e.2.2.1
  | .aload_n k => e.2.1 == 1 && (k : Nat) == e.2.2.1
  | .aload k => e.2.1 == 2 && k == e.2.2.1
  | .istore_n k => e.2.1 == 1 && (k : Nat) == e.2.2.1
  | .istore k => e.2.1 == 2 && k == e.2.2.1
  | .lstore_n k => e.2.1 == 1 && (k : Nat) == e.2.2.1
  | .lstore k => e.2.1 == 2 && k == e.2.2.1
  | .astore_n k => e.2.1 == 1 && (k : Nat) == e.2.2.1
  | .iinc i n => e.2.1 == 3 && i == e.2.2.1 && Int32.ofInt n == e.2.2.2.2.1
  | .goto o => e.2.1 == 3 && decide ((pc : Int) + o = (e.2.2.1 : Int))
  | .ifCond _ o => e.2.1 == 3 && decide ((pc : Int) + o = (e.2.2.1 : Int))
  | .if_icmp _ o => e.2.1 == 3 && decide ((pc : Int) + o = (e.2.2.1 : Int))
  | .getfield _ => e.2.1 == 3
  | .putfield _ => e.2.1 == 3
  | .invokestatic _ => e.2.1 == 3
  | .invokespecial _ => e.2.1 == 3
  | .invokevirtual _ => e.2.1 == 3
  | .new _ => e.2.1 == 3
  | .newarray _ => e.2.1 == 2
  | .tableswitch dflt lo hi offs => decide (0 ≤ (pc : Int) + dflt) && decide (hi - lo < offs.size) && offs.toList.all (fun o => decide (0 ≤ (pc : Int) + o))
  | .lookupswitch _ ps => (ps.toList.zip (ps.toList.drop 1)).all (fun (a, next) => a.1 < next.1)
  | _ => e.2.1 == 1
/-- a field's words: read -/
def ab_F (own : String) (idx ci k : Nat) : Prop := ∃ (C : String) (T : u_T) (N : Nat), vwCl[ci]? = some (C, T, N) ∧ k < N ∧ (T k).1 = C ∧ (∀ w ∈ u_ws C T N, w ∈ ab_T) ∧ (Cond.fieldLink own idx C (T k).2.1 (T k).2.2.1 ∈ ab_T ∨ ∃ host, Cond.fieldLinkNest own idx C (T k).2.1 (T k).2.2.1 host ∈ ab_U)
/-- a field's words: write -/
def ab_G (own nm : String) (idx ci k : Nat) (z : Int32) : Prop := ∃ (C : String) (T : u_T) (N : Nat) (ty : Nat → FieldType), vwCl[ci]? = some (C, T, N) ∧ k < N ∧ (T k).1 = C ∧ (∀ w ∈ u_ws C T N, w ∈ ab_T) ∧ (∀ j, j < N → parseFieldDescriptor (T j).2.2.1 = some (ty j)) ∧ (∀ a, a < N → ∀ b, b < N → a ≠ b → (T a).2.1 ≠ (T b).2.1)
  ∧ ((z = 0 ∧ ty k = .int) ∨ (¬ z = 0 ∧ ((∃ t, ty k = .array t) ∨ ∃ o, ty k = .object o)))
  ∧ (((T k).2.2.2 = false ∧ (Cond.fieldLink own idx C (T k).2.1 (T k).2.2.1 ∈ ab_T ∨ ∃ host, Cond.fieldLinkNest own idx C (T k).2.1 (T k).2.2.1 host ∈ ab_U)) ∨ ((T k).2.2.2 = true ∧ nm = "<init>" ∧ (T k).1 = own ∧ Cond.fieldLink own idx C (T k).2.1 (T k).2.2.1 ∈ ab_T))
def ab_ln (M : MI) (e : AE) : Prop := match e.1 with
  | .getfield i => ab_F M.1.cls i e.2.2.1 e.2.2.2.1
  | .putfield i => ab_G M.1.cls M.1.name i e.2.2.1 e.2.2.2.1 e.2.2.2.2.1
  | .ldc i => Cond.constant M.1.cls i e.2.2.2.2.1 ∈ ab_T
  | .ldc_w i => Cond.constant M.1.cls i e.2.2.2.2.1 ∈ ab_T
  | .ldc2_w i => Cond.constantLong M.1.cls i e.2.2.2.2.2 ∈ ab_T
  | .invokestatic i => (e.2.2.1 = 1 → Cond.methodLink M.1.cls i arraycopyName ∈ ab_T) ∧ (e.2.2.1 = 2 → Cond.methodLink M.1.cls i Lib.Math.max.name ∈ ab_T) ∧ (e.2.2.1 = 3 → Cond.methodLink M.1.cls i Lib.Math.min.name ∈ ab_T) ∧ (e.2.2.1 = 4 → Cond.methodLink M.1.cls i Lib.Math.abs.name ∈ ab_T)
  | .invokespecial i => e.2.2.1 = 1 → Cond.methodLink M.1.cls i objectInit ∈ ab_T
  | _ => True
def ab_al (M : MI) : List (Nat × AE) → Prop
  | [] => True
  | q :: r => ab_ln M q.2 ∧ ab_al M r
def ab_ok (M : MI) : Prop := M.2.2.1 ≤ 45 ∧ M.2.2.2.2.all (fun q => decide (decode M.2.1 q.1 = .ok (q.2.1, q.2.2.1)) && ab_okd q.1 q.2) = true ∧ ab_al M M.2.2.2.2
/-- a call's words -/
def ab_CV (own : String) (idx ci : Nat) (M : MI) (n : Nat) : Prop := (∃ (T : u_T) (N : Nat), vwCl[ci]? = some (M.1.cls, T, N)) ∧ Cond.methodLink own idx M.1 ∈ ab_T ∧ Cond.instanceMethod M.1 ∈ ab_T ∧ Cond.selects M.1.cls M.1 M.1 ∈ ab_T ∧ Cond.initialized M.1.cls ∈ ab_T ∧ Cond.code M.1 M.2.1 M.2.2.1 M.2.2.2.1 ∈ ab_T ∧ M.1.cls ≠ "java/lang/invoke/MethodHandle" ∧ M.1.cls ≠ "java/lang/invoke/VarHandle" ∧ (parseMethodDescriptor M.1.desc).map (fun d => d.parameters.length) = some n ∧ plainName M.1.cls = true
def ab_CS (own : String) (idx : Nat) (M : MI) (n : Nat) : Prop := Cond.methodLink own idx M.1 ∈ ab_T ∧ Cond.static M.1 ∈ ab_T ∧ Cond.initialized M.1.cls ∈ ab_T ∧ Cond.code M.1 M.2.1 M.2.2.1 M.2.2.2.1 ∈ ab_T ∧ M.1.cls ≠ "java/lang/invoke/MethodHandle" ∧ M.1.cls ≠ "java/lang/invoke/VarHandle" ∧ (parseMethodDescriptor M.1.desc).map (fun d => d.parameters.length) = some n ∧ plainName M.1.cls = true
def ab_CI (own : String) (idx : Nat) (M : MI) (n : Nat) : Prop := (Cond.methodLink own idx M.1 ∈ ab_T ∨ ∃ host, Cond.methodLinkNest own idx M.1 host ∈ ab_U) ∧ Cond.instanceMethod M.1 ∈ ab_T ∧ M.1.name = "<init>" ∧ M.2.2.2.1 = none ∧ Cond.initialized M.1.cls ∈ ab_T ∧ Cond.code M.1 M.2.1 M.2.2.1 M.2.2.2.1 ∈ ab_T ∧ M.1.cls ≠ "java/lang/invoke/MethodHandle" ∧ M.1.cls ≠ "java/lang/invoke/VarHandle" ∧ (parseMethodDescriptor M.1.desc).map (fun d => d.parameters.length) = some n ∧ plainName M.1.cls = true
/-- what 'new' needs; the fields as they are at first -/
def ab_N (own : String) (idx ci N : Nat) (fs : List Value) : Prop := ∃ (C : String) (T : u_T) (ty : Nat → FieldType), vwCl[ci]? = some (C, T, N) ∧ (∀ w ∈ u_ws C T N, w ∈ ab_T) ∧ (∀ j, j < N → parseFieldDescriptor (T j).2.2.1 = some (ty j)) ∧ Cond.classLink own idx C ∈ ab_T ∧ Cond.instantiable C N ∈ ab_T ∧ Cond.initialized C ∈ ab_T ∧ (∀ j, j < N → defaultValue (ty j) = vp_V fs j) ∧ (∀ v ∈ fs, ∀ a, v ≠ .ref a)
def ab_wv (n : Nat) : Value → Bool
  | .ref a => decide (a < n) || decide (a = ab_scr)
  | _ => true
def ab_wl (n : Nat) (lv : List (Nat × Value)) : Bool := lv.all fun q => ab_wv n q.2
def ab_ws (n : Nat) (st : List Value) : Bool := st.all (ab_wv n)
def ab_wh (n : Nat) (h : AH) : Bool := h.all fun c => match c with
  | .inl _ => true
  | .inr o => o.2.all (ab_wv n)
def ab_wf (S : AS) : Bool := decide (S.2.2.2.length < 1000) && ab_wl S.2.2.2.length S.2.1 && ab_ws S.2.2.2.length S.2.2.1 && ab_wh S.2.2.2.length S.2.2.2
def ab_lz : Nat → List Value → List (Nat × Value)
  | _, [] => []
  | i, v :: vs => (i, v) :: ab_lz (if v.category = 2 then i + 2 else i + 1) vs
def ab_rt (M : MI) (i : Instr) (v : Option Value) : Prop := match v with
  | none => i = .return_ ∧ M.2.2.2.1 = none
  | some (.int x) => i = .ireturn ∧ (M.2.2.2.1 = some .int ∨ (M.2.2.2.1 = some .boolean ∧ (x = 0 ∨ x = 1)))
  | _ => False
def ab_vi (v : Option Value) : Prop := match v with
  | none => True
  | some (.int _) => True
  | _ => False
/-- a relation that is closed under the rules of the machine -/
def ab_Cl (P : AX → Nat → Nat → Nat → MI → AS → AR → Prop) : Prop :=
  (∀ X d k n M S R e S' C, ab_ok M → ab_lk M.2.2.2.2 S.1 = some e → ab_step X M.2.2.1 e S = some (S', C) → C → P X d k n M S' R → P X d k n M S R) ∧
  (∀ X d k n M pc lv v h e, ab_ok M → ab_lk M.2.2.2.2 pc = some e → ab_rt M e.1 v → P X d k n M (pc, lv, v.toList, h) (v, h)) ∧
  (∀ X d k n d1 k1 n1 k2 n2 M M' R pc lv (As rest : List Value) h h1 v e idx ci a c0 f0, ab_ok M → ab_ok M' → ab_lk M.2.2.2.2 pc = some e → e.1 = .invokevirtual idx → ab_CV M.1.cls idx ci M' As.length → ab_nt h a = some (.inr (c0, f0)) → c0 = ci →
    (lg_sl (Value.ref a :: As)).length ≤ M'.2.2.1 → d1 + 1 ≤ d → k1 + k2 ≤ k → n1 + n2 ≤ n → (rest.map fun v => v.category).sum ≤ 8 → h.length ≤ h1.length → (k1 = 0 ∨ (ab_wl h.length lv = true ∧ ab_ws h.length rest = true)) → ab_vi v →
    P none d1 k1 n1 M' (0, ab_lz 0 (Value.ref a :: As), [], h) (v, h1) → P X d k2 n2 M (pc + 3, lv, v.toList ++ rest, h1) R → P X d k n M (pc, lv, As.reverse ++ .ref a :: rest, h) R) ∧
  (∀ X d k n d1 k1 n1 k2 n2 M M' R pc lv (As rest : List Value) h h1 v e idx, ab_ok M → ab_ok M' → ab_lk M.2.2.2.2 pc = some e → e.1 = .invokestatic idx → ab_CS M.1.cls idx M' As.length →
    (lg_sl As).length ≤ M'.2.2.1 → d1 + 1 ≤ d → k1 + k2 ≤ k → n1 + n2 ≤ n → (rest.map fun v => v.category).sum ≤ 8 → h.length ≤ h1.length → (k1 = 0 ∨ (ab_wl h.length lv = true ∧ ab_ws h.length rest = true)) → ab_vi v →
    P none d1 k1 n1 M' (0, ab_lz 0 As, [], h) (v, h1) → P X d k2 n2 M (pc + 3, lv, v.toList ++ rest, h1) R → P X d k n M (pc, lv, As.reverse ++ rest, h) R) ∧
  (∀ X d k n d1 k1 n1 k2 n2 M M' R pc lv (As rest : List Value) h h1 e idx a, ab_ok M → ab_ok M' → ab_lk M.2.2.2.2 pc = some e → e.1 = .invokespecial idx → ab_CI M.1.cls idx M' As.length →
    (lg_sl (Value.ref a :: As)).length ≤ M'.2.2.1 → d1 + 1 ≤ d → k1 + k2 ≤ k → n1 + n2 ≤ n → (rest.map fun v => v.category).sum ≤ 8 → h.length ≤ h1.length → (k1 = 0 ∨ (ab_wl h.length lv = true ∧ ab_ws h.length rest = true)) →
    P none d1 k1 n1 M' (0, ab_lz 0 (Value.ref a :: As), [], h) (none, h1) → P X d k2 n2 M (pc + 3, lv, rest, h1) R → P X d k n M (pc, lv, As.reverse ++ .ref a :: rest, h) R) ∧
  (∀ X d k n k2 n2 M R pc lv st h e idx ci N fs, ab_ok M → ab_lk M.2.2.2.2 pc = some e → e.1 = .new idx → ab_N M.1.cls idx ci N fs → ab_wf (pc, lv, st, h) = true → k2 + 1 ≤ k → n2 + N ≤ n →
    P X d k2 n2 M (pc + 3, lv, .ref h.length :: st, h ++ [.inr (ci, fs)]) R → P X d k n M (pc, lv, st, h) R) ∧
  (∀ X d k n k2 n2 M R pc lv st h e t ty (N : Nat) (x : Int32), ab_ok M → ab_lk M.2.2.2.2 pc = some e → e.1 = .newarray ty → ((ty = .int ∧ t = 0) ∨ (ty = .boolean ∧ t = 1)) → ab_wf (pc, lv, st, h) = true → ¬ x < 0 → x.toNatClampNeg = N → N ≤ 1000 → k2 + 1 ≤ k → n2 + N ≤ n →
    P X d k2 n2 M (pc + 2, lv, .ref h.length :: st, h ++ [.inl (t, N, fun _ => 0)]) R → P X d k n M (pc, lv, .int x :: st, h) R) ∧
  (∀ X d k n M R pc lv lv' st h ks, lv_pick lv ks = lv' → P X d k n M (pc, lv', st, h) R → P X d k n M (pc, lv, st, h) R)
def ab_E (X : AX) (d k n : Nat) (M : MI) (S : AS) (R : AR) : Prop := ∀ P, ab_Cl P → P X d k n M S R
end
section
/-! THE ABSTRACT MACHINE IS SOUND: what it runs to, the machine runs to. -/
def ab_r (ad : Nat → Nat) : Value → Value
  | .ref a => .ref (ad a)
  | v => v
def ab_rl (ad : Nat → Nat) (lv : List (Nat × Value)) : List (Nat × Value) := lv.map fun q => (q.1, ab_r ad q.2)
def ab_rz (ad : Nat → Nat) (cA : Nat → ClassId) : AC → va_E
  | .inl (t, n, f) => .inl (cA t, n, .inl f)
  | .inr (c, fs) => .inr (c, fs.map (ab_r ad))
def ab_wd (ad : Nat → Nat) (cA : Nat → ClassId) : Nat → AH → va_W
  | _, [] => []
  | k, c :: r => (ad k, ab_rz ad cA c) :: ab_wd ad cA (k + 1) r
theorem ab_r_cat (ad : Nat → Nat) (v : Value) : (ab_r ad v).category = v.category := by cases v <;> rfl
theorem ab_wd_nt (ad : Nat → Nat) (cA : Nat → ClassId) : ∀ (h : AH) (k i : Nat) (c : AC), ab_nt h i = some c → (ab_wd ad cA k h)[i]? = some (ad (k + i), ab_rz ad cA c)
  | [], _, _, _, e => by simp [ab_nt] at e
  | a :: r, k, 0, c, e => by
    simp only [ab_nt, Option.some.injEq] at e
    subst e
    simp [ab_wd]
  | a :: r, k, i + 1, c, e => by
    have := ab_wd_nt ad cA r (k + 1) i c e
    simp only [ab_wd, List.getElem?_cons_succ]
    rw [this, show k + 1 + i = k + (i + 1) by omega]
theorem ab_wd_st (ad : Nat → Nat) (cA : Nat → ClassId) : ∀ (h : AH) (k i : Nat) (c : AC), ab_wd ad cA k (ab_st h i c) = (ab_wd ad cA k h).set i (ad (k + i), ab_rz ad cA c)
  | [], _, _, _ => by simp [ab_st, ab_wd]
  | a :: r, k, 0, c => by simp [ab_st, ab_wd]
  | a :: r, k, i + 1, c => by
    have := ab_wd_st ad cA r (k + 1) i c
    simp only [ab_wd, ab_st, List.set_cons_succ]
    rw [this, show k + 1 + i = k + (i + 1) by omega]
theorem ab_wd_app (ad : Nat → Nat) (cA : Nat → ClassId) : ∀ (h : AH) (k : Nat) (c : AC), ab_wd ad cA k (h ++ [c]) = ab_wd ad cA k h ++ [(ad (k + h.length), ab_rz ad cA c)]
  | [], k, c => by simp [ab_wd]
  | a :: r, k, c => by
    have := ab_wd_app ad cA r (k + 1) c
    simp only [ab_wd, List.cons_append, List.length_cons]
    rw [this, show k + 1 + r.length = k + (r.length + 1) by omega]
theorem ab_st_len {α : Type} : ∀ (h : List α) (i : Nat) (c : α), (ab_st h i c).length = h.length
  | [], _, _ => rfl
  | _ :: _, 0, _ => rfl
  | a :: r, i + 1, c => by simp [ab_st, ab_st_len r i c]
theorem ab_nt_get {α : Type} : ∀ (h : List α) (i : Nat), ab_nt h i = h[i]?
  | [], _ => by simp [ab_nt]
  | a :: r, 0 => by simp [ab_nt]
  | a :: r, i + 1 => by simp [ab_nt, ab_nt_get r i]
theorem ab_st_set {α : Type} : ∀ (h : List α) (i : Nat) (c : α), ab_st h i c = h.set i c
  | [], _, _ => by simp [ab_st]
  | _ :: _, 0, _ => by simp [ab_st]
  | a :: r, i + 1, c => by simp [ab_st, ab_st_set r i c]
theorem ab_nt_map {α β : Type} (f : α → β) (h : List α) (i : Nat) (c : α) (e : ab_nt h i = some c) : (h.map f)[i]? = some (f c) := by
  rw [ab_nt_get] at e
  simp [e]
theorem ab_st_map {α β : Type} (f : α → β) (h : List α) (i : Nat) (c : α) : (ab_st h i c).map f = (h.map f).set i (f c) := by
  rw [ab_st_set, List.map_set]
theorem ab_lg_mem : ∀ (lv : List (Nat × Value)) (i : Nat) (v : Value), ab_lg lv i = some v → (i, v) ∈ lv
  | [], _, _, e => by simp [ab_lg] at e
  | q :: r, i, v, e => by
    unfold ab_lg at e
    split at e
    · next h =>
      cases e
      subst h
      exact List.mem_cons_self
    · exact List.mem_cons_of_mem _ (ab_lg_mem r i v e)
theorem ab_lg_has {ad : Nat → Nat} {ls : Array Slot} {nL : Nat} {lv : List (Nat × Value)} {i : Nat} {v : Value} (h : lv_has ls nL (ab_rl ad lv)) (e : ab_lg lv i = some v) : ls[i]? = some (.val (ab_r ad v)) :=
  h.2.2 (i, ab_r ad v) (List.mem_map.mpr ⟨(i, v), ab_lg_mem lv i v e, rfl⟩)
theorem ab_lg_at {ad : Nat → Nat} {lv : List (Nat × Value)} {i : Nat} {v : Value} (e : ab_lg lv i = some v) : ∃ k : Nat, (ab_rl ad lv)[k]? = some (i, ab_r ad v) :=
  List.getElem?_of_mem (List.mem_map.mpr ⟨(i, v), ab_lg_mem lv i v e, rfl⟩)
theorem ab_p1_r (ad : Nat → Nat) (lv : List (Nat × Value)) (i : Nat) (v : Value) : (i, ab_r ad v) :: (ab_rl ad lv).filter (fun q => !(q.1 == i) && !(q.1 + 1 == i && q.2.category == 2)) = ab_rl ad (ab_p1 lv i v) := by
  simp only [ab_rl, ab_p1, List.map_cons, List.filter_map]
  congr 2
  apply List.filter_congr
  intro q _
  simp [Function.comp, ab_r_cat]
theorem ab_p2_r (ad : Nat → Nat) (lv : List (Nat × Value)) (i : Nat) (v : Value) : (i, ab_r ad v) :: (ab_rl ad lv).filter (fun q => !(q.1 == i) && (!(q.1 == i + 1) && !(q.1 + 1 == i && q.2.category == 2))) = ab_rl ad (ab_p2 lv i v) := by
  simp only [ab_rl, ab_p2, List.map_cons, List.filter_map]
  congr 2
  apply List.filter_congr
  intro q _
  simp [Function.comp, ab_r_cat]
theorem ab_cat_sum (ad : Nat → Nat) (r : List Value) : ((r.map (ab_r ad)).map fun v => v.category).sum = (r.map fun v => v.category).sum := by
  simp [Function.comp_def, ab_r_cat]
/-- the same addresses below, and of the script -/
def ab_ag (ad ad' : Nat → Nat) (n k : Nat) : Prop := (k = 0 → ad' = ad) ∧ ∀ i, (i < n ∨ i = ab_scr) → ad' i = ad i
theorem ab_ag.rf (ad : Nat → Nat) (n k : Nat) : ab_ag ad ad n k := ⟨fun _ => rfl, fun _ _ => rfl⟩
theorem ab_ag_v {ad ad' : Nat → Nat} {n k : Nat} (g : ab_ag ad ad' n k) {v : Value} (h : ab_wv n v = true) : ab_r ad' v = ab_r ad v := by
  cases v with
  | ref a =>
    simp only [ab_wv, Bool.or_eq_true, decide_eq_true_eq] at h
    simp only [ab_r, g.2 a h]
  | _ => rfl
theorem ab_ag_s {ad ad' : Nat → Nat} {n k : Nat} (g : ab_ag ad ad' n k) {st : List Value} (h : k = 0 ∨ ab_ws n st = true) : st.map (ab_r ad') = st.map (ab_r ad) := by
  rcases h with h | h
  · rw [g.1 h]
  · exact List.map_congr_left fun v hv => ab_ag_v g (List.all_eq_true.mp h v hv)
theorem ab_ag_l {ad ad' : Nat → Nat} {n k : Nat} (g : ab_ag ad ad' n k) {lv : List (Nat × Value)} (h : k = 0 ∨ ab_wl n lv = true) : ab_rl ad' lv = ab_rl ad lv := by
  rcases h with h | h
  · rw [g.1 h]
  · exact List.map_congr_left fun v hv => by rw [ab_ag_v g (List.all_eq_true.mp h v hv)]
theorem ab_ag_h {ad ad' : Nat → Nat} {n k : Nat} (cA : Nat → ClassId) (g : ab_ag ad ad' n k) : ∀ (h : AH) (j : Nat), j + h.length ≤ n → ab_wh n h = true → ab_wd ad' cA j h = ab_wd ad cA j h
  | [], _, _, _ => rfl
  | c :: r, j, hl, hw => by
    simp only [ab_wh, List.all_cons, Bool.and_eq_true] at hw
    simp only [List.length_cons] at hl
    have ih := ab_ag_h cA g r (j + 1) (by omega) hw.2
    simp only [ab_wd, ih, g.2 j (Or.inl (by omega))]
    congr 2
    cases c with
    | inl x => rfl
    | inr o =>
      simp only [ab_rz]
      rw [ab_ag_s (k := k) g (Or.inr hw.1)]
theorem ab_lz_args (ad : Nat → Nat) : ∀ (vs : List Value) (i : Nat), lv_args i (vs.map (ab_r ad)) = ab_rl ad (ab_lz i vs)
  | [], _ => rfl
  | v :: vs, i => by
    simp only [List.map_cons, lv_args, ab_lz, ab_rl, ab_r_cat]
    rw [ab_lz_args ad vs]
    rfl
theorem ab_sl_len (ad : Nat → Nat) (vs : List Value) : (lg_sl (vs.map (ab_r ad))).length = (lg_sl vs).length := by
  induction vs with
  | nil => rfl
  | cons v t ih =>
    simp only [lg_sl, List.map_cons, List.flatMap_cons, List.length_append, ab_r_cat] at ih ⊢
    rw [ih]
    split <;> rfl
/-- what stands of a frame -/
def ab_Fx (p : Program) (s : State) (m : MethodId) (args : Array Value) (meth : Method) (c : Code) (M : MI) (dC : Nat → ClassId) (dI : Nat → Nat → Nat) (cA : Nat → ClassId) (A : Nat → Prop) : Prop :=
  p.tables.exec = Jvm.exec ∧ c.code = M.2.1 ∧ c.maxLocals = M.2.2.1 ∧ (M.1.name = "<init>" → meth.name = "<init>") ∧ s.vm.findClass M.1.cls = some m.cls ∧ (∀ w ∈ ab_T, w.before args s = true) ∧ va_K (dC, dI) vwCl [(cA 0, .int), (cA 1, .boolean)] s ∧ (∀ q, s.heap.size ≤ q → A q) ∧ (∀ w ∈ ab_U, va_Nw w s)
def ab_RP (l : Launch) (X : AX) (d k n : Nat) (M : MI) (S : AS) (R : AR) : Prop :=
  ∀ (p : Program) (e : Env) (Rm : Room) (s : State) (m : MethodId) (args : Array Value) (below : List Frame) (meth : Method) (c : Code) (dC : Nat → ClassId) (dI : Nat → Nat → Nat) (cA : Nat → ClassId) (A : Nat → Prop) (mc ms : Nat) (Q : State → Prop),
    ab_Fx p s m args meth c M dC dI cA A → d + 1 ≤ Rm.frames → 64 * (d + 1) ≤ Rm.locals → mc ≤ Rm.cells → ms ≤ Rm.slots →
    ∀ (ad : Nat → Nat) (H : Heap) (locs : List Loc) (cells slots : Nat) (ls : Array Slot),
      (∀ x, X = some x → va_X (ad ab_scr) x.1 x.2 s s.heap ∧ ad ab_scr < s.heap.size ∧ ¬ A (ad ab_scr)) →
      cells + k ≤ mc → slots + n ≤ ms → va_S A s.heap H locs → va_P (dC, dI) vwCl (ab_wd ad cA 0 S.2.2.2) H → va_D A (ab_wd ad cA 0 S.2.2.2) → lv_has ls M.2.2.1 (ab_rl ad S.2.1) →
      (∀ (ad' : Nat → Nat) (H' : Heap) (locs' : List Loc) (cells' slots' pc' : Nat) (ls' : Array Slot) (i : Instr), ab_ag ad ad' S.2.2.2.length k → cells' ≤ mc → slots' ≤ ms → va_S A s.heap H' locs' → va_P (dC, dI) vwCl (ab_wd ad' cA 0 R.2) H' → va_D A (ab_wd ad' cA 0 R.2) → decode M.2.1 pc' = .ok (i, 1) → ab_rt M i R.1 →
        W p l e Rm s m args below meth c H' locs' cells' slots' Q (F0 m pc' ls' (R.1.toList.map (ab_r ad')))) →
      W p l e Rm s m args below meth c H locs cells slots Q (F0 m S.1 ls (S.2.2.1.map (ab_r ad)))
theorem ab_lk_mem : ∀ (t : List (Nat × AE)) (pc : Nat) (e : AE), ab_lk t pc = some e → (pc, e) ∈ t
  | [], _, _, h => by simp [ab_lk] at h
  | q :: r, pc, e, h => by
    unfold ab_lk at h
    split at h
    · next g =>
      cases h
      subst g
      exact List.mem_cons_self
    · exact List.mem_cons_of_mem _ (ab_lk_mem r pc e h)
theorem ab_al_mem {M : MI} : ∀ (t : List (Nat × AE)) (q : Nat × AE), ab_al M t → q ∈ t → ab_ln M q.2
  | [], _, _, h => by cases h
  | a :: r, q, h, hq => by
    rcases List.mem_cons.mp hq with e | e
    · rw [e]; exact h.1
    · exact ab_al_mem r q h.2 e
theorem ab_ok_at {M : MI} {pc : Nat} {e : AE} (h : ab_ok M) (hl : ab_lk M.2.2.2.2 pc = some e) : decode M.2.1 pc = .ok (e.1, e.2.1) ∧ ab_okd pc e = true ∧ ab_ln M e := by
  have hm := ab_lk_mem _ _ _ hl
  have h2 := List.all_eq_true.mp h.2.1 _ hm
  simp only [Bool.and_eq_true, decide_eq_true_eq] at h2
  exact ⟨h2.1, h2.2, ab_al_mem _ _ h.2.2 hm⟩
/-- an instruction that leaves the heap as it is -/
theorem ab_pure {l : Launch} {X : AX} {d k n : Nat} {M : MI} {R : AR} {pc pc' : Nat} {lv lv' : List (Nat × Value)} {st st' : List Value} {h : AH}
    (hstep : ∀ (p : Program) (e : Env) (Rm : Room) (s : State) (m : MethodId) (args : Array Value) (below : List Frame) (meth : Method) (c : Code) (dC : Nat → ClassId) (dI : Nat → Nat → Nat) (cA : Nat → ClassId) (A : Nat → Prop) (Q : State → Prop) (ad : Nat → Nat) (H : Heap) (locs : List Loc) (cells slots : Nat) (ls : Array Slot),
      ab_Fx p s m args meth c M dC dI cA A → d + 1 ≤ Rm.frames → 64 * (d + 1) ≤ Rm.locals → lv_has ls M.2.2.1 (ab_rl ad lv) → (∀ x, X = some x → va_X (ad ab_scr) x.1 x.2 s s.heap ∧ ad ab_scr < s.heap.size ∧ ¬ A (ad ab_scr)) → va_S A s.heap H locs → va_P (dC, dI) vwCl (ab_wd ad cA 0 h) H → cells ≤ Rm.cells → slots ≤ Rm.slots →
      (∀ ls', lv_has ls' M.2.2.1 (ab_rl ad lv') → W p l e Rm s m args below meth c H locs cells slots Q (F0 m pc' ls' (st'.map (ab_r ad)))) → W p l e Rm s m args below meth c H locs cells slots Q (F0 m pc ls (st.map (ab_r ad))))
    (hP : ab_RP l X d k n M (pc', lv', st', h) R) : ab_RP l X d k n M (pc, lv, st, h) R := by
  intro p e Rm s m args below meth c dC dI cA A mc ms Q hF h1 h2 h3 h4 ad H locs cells slots ls hX h5 h6 hS hW hD hl hk
  exact hstep p e Rm s m args below meth c dC dI cA A Q ad H locs cells slots ls hF h1 h2 hl hX hS hW (by omega) (by omega) (fun ls' hl' => hP p e Rm s m args below meth c dC dI cA A mc ms Q hF h1 h2 h3 h4 ad H locs cells slots ls' hX h5 h6 hS hW hD hl' hk)
/-- an instruction that writes one cell -/
theorem ab_writ {l : Launch} {X : AX} {d k n : Nat} {M : MI} {R : AR} {pc pc' : Nat} {lv : List (Nat × Value)} {st st' : List Value} {h h' : AH} (hlen : h'.length = h.length)
    (hstep : ∀ (p : Program) (e : Env) (Rm : Room) (s : State) (m : MethodId) (args : Array Value) (below : List Frame) (meth : Method) (c : Code) (dC : Nat → ClassId) (dI : Nat → Nat → Nat) (cA : Nat → ClassId) (A : Nat → Prop) (Q : State → Prop) (ad : Nat → Nat) (H : Heap) (locs : List Loc) (cells slots : Nat) (ls : Array Slot),
      ab_Fx p s m args meth c M dC dI cA A → d + 1 ≤ Rm.frames → 64 * (d + 1) ≤ Rm.locals → ls.size = M.2.2.1 → va_S A s.heap H locs → va_P (dC, dI) vwCl (ab_wd ad cA 0 h) H → va_D A (ab_wd ad cA 0 h) →
      (∀ (H' : Heap) (locs' : List Loc), va_P (dC, dI) vwCl (ab_wd ad cA 0 h') H' → va_D A (ab_wd ad cA 0 h') → va_S A s.heap H' locs' → W p l e Rm s m args below meth c H' locs' cells slots Q (F0 m pc' ls (st'.map (ab_r ad)))) → W p l e Rm s m args below meth c H locs cells slots Q (F0 m pc ls (st.map (ab_r ad))))
    (hP : ab_RP l X d k n M (pc', lv, st', h') R) : ab_RP l X d k n M (pc, lv, st, h) R := by
  intro p e Rm s m args below meth c dC dI cA A mc ms Q hF h1 h2 h3 h4 ad H locs cells slots ls hX h5 h6 hS hW hD hl hk
  refine hstep p e Rm s m args below meth c dC dI cA A Q ad H locs cells slots ls hF h1 h2 hl.1 hS hW hD (fun H' locs' hW' hD' hS' => hP p e Rm s m args below meth c dC dI cA A mc ms Q hF h1 h2 h3 h4 ad H' locs' cells slots ls hX h5 h6 hS' hW' hD' hl ?_)
  intro ad' H2 l2 c2 s2 pc2 ls2 i g
  exact hk ad' H2 l2 c2 s2 pc2 ls2 i (by rw [← hlen]; exact g)
end
section
/-! one step of the abstract machine is one of the machine -/
theorem ab_b_inv {n : Nat} {f : Int32 → Int32 → Int32} {S S' : AS} {C : Prop} (hs : ab_b n f S = some (S', C)) : ∃ pc lv y x r h, S = (pc, lv, .int y :: .int x :: r, h) ∧ S' = (pc + n, lv, .int (f x y) :: r, h) ∧ C = (True) := by
  unfold ab_b at hs
  split at hs
  · cases hs; exact ⟨_, _, _, _, _, _, rfl, rfl, rfl⟩
  · cases hs
theorem ab_d_inv {n : Nat} {f : Int32 → Int32 → Int32} {S S' : AS} {C : Prop} (hs : ab_d n f S = some (S', C)) : ∃ pc lv y x r h, S = (pc, lv, .int y :: .int x :: r, h) ∧ S' = (pc + n, lv, .int (f x y) :: r, h) ∧ C = (¬ y = 0) := by
  unfold ab_d at hs
  split at hs
  · cases hs; exact ⟨_, _, _, _, _, _, rfl, rfl, rfl⟩
  · cases hs
theorem ab_bl_inv {n : Nat} {f : Int64 → Int64 → Int64} {S S' : AS} {C : Prop} (hs : ab_bl n f S = some (S', C)) : ∃ pc lv y x r h, S = (pc, lv, .long y :: .long x :: r, h) ∧ S' = (pc + n, lv, .long (f x y) :: r, h) ∧ C = (True) := by
  unfold ab_bl at hs
  split at hs
  · cases hs; exact ⟨_, _, _, _, _, _, rfl, rfl, rfl⟩
  · cases hs
theorem ab_dl_inv {n : Nat} {f : Int64 → Int64 → Int64} {S S' : AS} {C : Prop} (hs : ab_dl n f S = some (S', C)) : ∃ pc lv y x r h, S = (pc, lv, .long y :: .long x :: r, h) ∧ S' = (pc + n, lv, .long (f x y) :: r, h) ∧ C = (¬ y = 0) := by
  unfold ab_dl at hs
  split at hs
  · cases hs; exact ⟨_, _, _, _, _, _, rfl, rfl, rfl⟩
  · cases hs
theorem ab_sti_inv {n : Nat} {i : Nat} {q : Nat} {S S' : AS} {C : Prop} (hs : ab_sti n i q S = some (S', C)) : ∃ pc lv x r h, S = (pc, lv, .int x :: r, h) ∧ S' = (pc + n, ab_p1 lv i (.int x), r, h) ∧ C = (i < q) := by
  unfold ab_sti at hs
  split at hs
  · cases hs; exact ⟨_, _, _, _, _, rfl, rfl, rfl⟩
  · cases hs
theorem ab_stl_inv {n : Nat} {i : Nat} {q : Nat} {S S' : AS} {C : Prop} (hs : ab_stl n i q S = some (S', C)) : ∃ pc lv x r h, S = (pc, lv, .long x :: r, h) ∧ S' = (pc + n, ab_p2 lv i (.long x), r, h) ∧ C = (i + 1 < q) := by
  unfold ab_stl at hs
  split at hs
  · cases hs; exact ⟨_, _, _, _, _, rfl, rfl, rfl⟩
  · cases hs
theorem ab_sta_inv {n : Nat} {i : Nat} {q : Nat} {S S' : AS} {C : Prop} (hs : ab_sta n i q S = some (S', C)) : ∃ pc lv x r h, S = (pc, lv, .ref x :: r, h) ∧ S' = (pc + n, ab_p1 lv i (.ref x), r, h) ∧ C = (i < q) := by
  unfold ab_sta at hs
  split at hs
  · cases hs; exact ⟨_, _, _, _, _, rfl, rfl, rfl⟩
  · cases hs
theorem ab_ldi_inv {n i : Nat} {S S' : AS} {C : Prop} (hs : ab_ldi n i S = some (S', C)) : ∃ pc lv x r h, S = (pc, lv, r, h) ∧ ab_lg lv i = some (.int x) ∧ S' = (pc + n, lv, .int x :: r, h) := by
  obtain ⟨pc, lv, r, h⟩ := S
  unfold ab_ldi at hs
  dsimp only at hs
  split at hs
  · next e => cases hs; exact ⟨_, _, _, _, _, rfl, e, rfl⟩
  · cases hs
theorem ab_ldl_inv {n i : Nat} {S S' : AS} {C : Prop} (hs : ab_ldl n i S = some (S', C)) : ∃ pc lv x r h, S = (pc, lv, r, h) ∧ ab_lg lv i = some (.long x) ∧ S' = (pc + n, lv, .long x :: r, h) := by
  obtain ⟨pc, lv, r, h⟩ := S
  unfold ab_ldl at hs
  dsimp only at hs
  split at hs
  · next e => cases hs; exact ⟨_, _, _, _, _, rfl, e, rfl⟩
  · cases hs
theorem ab_lda_inv {n i : Nat} {S S' : AS} {C : Prop} (hs : ab_lda n i S = some (S', C)) : ∃ pc lv x r h, S = (pc, lv, r, h) ∧ ab_lg lv i = some (.ref x) ∧ S' = (pc + n, lv, .ref x :: r, h) := by
  obtain ⟨pc, lv, r, h⟩ := S
  unfold ab_lda at hs
  dsimp only at hs
  split at hs
  · next e => cases hs; exact ⟨_, _, _, _, _, rfl, e, rfl⟩
  · cases hs
theorem ab_m2_inv {f : Int32 → Int32 → Int32} {S S' : AS} {C : Prop} (hs : ab_m2 f S = some (S', C)) : ∃ pc lv y x r h, S = (pc, lv, .int y :: .int x :: r, h) ∧ S' = (pc + 3, lv, .int (f x y) :: r, h) ∧ C = ((r.map fun v => v.category).sum ≤ 8) := by
  unfold ab_m2 at hs
  split at hs
  · cases hs; exact ⟨_, _, _, _, _, _, rfl, rfl, rfl⟩
  · cases hs
theorem ab_m1_inv {f : Int32 → Int32} {S S' : AS} {C : Prop} (hs : ab_m1 f S = some (S', C)) : ∃ pc lv x r h, S = (pc, lv, .int x :: r, h) ∧ S' = (pc + 3, lv, .int (f x) :: r, h) ∧ C = ((r.map fun v => v.category).sum ≤ 8) := by
  unfold ab_m1 at hs
  split at hs
  · cases hs; exact ⟨_, _, _, _, _, rfl, rfl, rfl⟩
  · cases hs
theorem ab_inc_inv {n i q : Nat} {v : Int32} {S S' : AS} {C : Prop} (hs : ab_inc n i q v S = some (S', C)) : ∃ pc lv x r h, S = (pc, lv, r, h) ∧ ab_lg lv i = some (.int x) ∧ S' = (pc + n, ab_p1 lv i (.int (x + v)), r, h) ∧ C = (i < q) := by
  obtain ⟨pc, lv, r, h⟩ := S
  unfold ab_inc at hs
  dsimp only at hs
  split at hs
  · next e => cases hs; exact ⟨_, _, _, _, _, rfl, e, rfl, rfl⟩
  · cases hs
theorem ab_get_inv {ci k : Nat} {S S' : AS} {C : Prop} (hs : ab_get ci k S = some (S', C)) : ∃ pc lv a r h fs v, S = (pc, lv, .ref a :: r, h) ∧ ab_nt h a = some (.inr (ci, fs)) ∧ ab_nt fs k = some v ∧ S' = (pc + 3, lv, v :: r, h) := by
  unfold ab_get at hs
  split at hs
  · split at hs
    · next e =>
      split at hs
      · next e2 =>
        split at hs
        · next e3 => cases hs; subst e2; exact ⟨_, _, _, _, _, _, _, rfl, e, e3, rfl⟩
        · cases hs
      · cases hs
    · cases hs
  · cases hs
theorem ab_puti_inv {ci k : Nat} {S S' : AS} {C : Prop} (hs : ab_puti ci k S = some (S', C)) : ∃ pc lv x a r h fs w, S = (pc, lv, .int x :: .ref a :: r, h) ∧ ab_nt h a = some (.inr (ci, fs)) ∧ ab_nt fs k = some w ∧ S' = (pc + 3, lv, r, ab_st h a (.inr (ci, ab_st fs k (.int x)))) := by
  unfold ab_puti at hs
  split at hs
  · split at hs
    · next e =>
      split at hs
      · next e2 =>
        split at hs
        · next e3 => cases hs; subst e2; exact ⟨_, _, _, _, _, _, _, _, rfl, e, e3, rfl⟩
        · cases hs
      · cases hs
    · cases hs
  · cases hs
theorem ab_puta_inv {ci k : Nat} {S S' : AS} {C : Prop} (hs : ab_puta ci k S = some (S', C)) : ∃ pc lv x a r h fs w, S = (pc, lv, .ref x :: .ref a :: r, h) ∧ ab_nt h a = some (.inr (ci, fs)) ∧ ab_nt fs k = some w ∧ S' = (pc + 3, lv, r, ab_st h a (.inr (ci, ab_st fs k (.ref x)))) := by
  unfold ab_puta at hs
  split at hs
  · split at hs
    · next e =>
      split at hs
      · next e2 =>
        split at hs
        · next e3 => cases hs; subst e2; exact ⟨_, _, _, _, _, _, _, _, rfl, e, e3, rfl⟩
        · cases hs
      · cases hs
    · cases hs
  · cases hs
theorem ab_ald_inv {b : Nat} {S S' : AS} {C : Prop} (hs : ab_ald b S = some (S', C)) : ∃ pc lv i a r h n f, S = (pc, lv, .int i :: .ref a :: r, h) ∧ ab_nt h a = some (.inl (b, n, f)) ∧ S' = (pc + 1, lv, .int (f i.toNatClampNeg) :: r, h) ∧ C = vp_in i n := by
  unfold ab_ald at hs
  split at hs
  · split at hs
    · next e =>
      split at hs
      · next e2 => cases hs; subst e2; exact ⟨_, _, _, _, _, _, _, _, rfl, e, rfl, rfl⟩
      · cases hs
    · cases hs
  · cases hs
theorem ab_sld_inv {X : AX} {S S' : AS} {C : Prop} (hs : ab_sld X S = some (S', C)) : ∃ pc lv i r h x, X = some x ∧ S = (pc, lv, .int i :: .ref ab_scr :: r, h) ∧ S' = (pc + 1, lv, .int (x.2 i.toNatClampNeg) :: r, h) ∧ C = vp_in i x.1 := by
  unfold ab_sld at hs
  split at hs
  · split at hs
    · split at hs
      · next e2 => cases hs; subst e2; exact ⟨_, _, _, _, _, _, rfl, rfl, rfl, rfl⟩
      · cases hs
    · cases hs
  · cases hs
theorem ab_len_inv {X : AX} {S S' : AS} {C : Prop} (hs : ab_len X S = some (S', C)) : ∃ pc lv r h x, X = some x ∧ S = (pc, lv, .ref ab_scr :: r, h) ∧ S' = (pc + 1, lv, .int (Int32.ofNat x.1) :: r, h) := by
  unfold ab_len at hs
  split at hs
  · split at hs
    · split at hs
      · next e2 => cases hs; subst e2; exact ⟨_, _, _, _, _, rfl, rfl, rfl⟩
      · cases hs
    · cases hs
  · cases hs
theorem ab_ast_inv {S S' : AS} {C : Prop} (hs : ab_ast S = some (S', C)) : ∃ pc lv x i a r h n f, S = (pc, lv, .int x :: .int i :: .ref a :: r, h) ∧ ab_nt h a = some (.inl (0, n, f)) ∧ S' = (pc + 1, lv, r, ab_st h a (.inl (0, n, upd f i.toNatClampNeg x))) ∧ C = vp_in i n := by
  unfold ab_ast at hs
  split at hs
  · split at hs
    · next e => cases hs; exact ⟨_, _, _, _, _, _, _, _, _, rfl, e, rfl, rfl⟩
    · cases hs
  · cases hs
theorem ab_zst_inv {S S' : AS} {C : Prop} (hs : ab_zst S = some (S', C)) : ∃ pc lv x i a r h n f, S = (pc, lv, .int x :: .int i :: .ref a :: r, h) ∧ ab_nt h a = some (.inl (1, n, f)) ∧ S' = (pc + 1, lv, r, ab_st h a (.inl (1, n, upd f i.toNatClampNeg x))) ∧ C = (vp_in i n ∧ (x = 0 ∨ x = 1)) := by
  unfold ab_zst at hs
  split at hs
  · split at hs
    · next e => cases hs; exact ⟨_, _, _, _, _, _, _, _, _, rfl, e, rfl, rfl⟩
    · cases hs
  · cases hs
theorem ab_cpy_inv {S S' : AS} {C : Prop} (hs : ab_cpy S = some (S', C)) : ∃ pc lv n dp b sp a r h n0 f n1 g, S = (pc, lv, .int n :: .int dp :: .ref b :: .int sp :: .ref a :: r, h) ∧ ab_nt h a = some (.inl (0, n0, f)) ∧ ab_nt h b = some (.inl (0, n1, g)) ∧ S' = (pc + 3, lv, r, ab_st h b (.inl (0, n1, va_cpy f g sp.toNatClampNeg dp.toNatClampNeg n.toNatClampNeg)))
    ∧ C = (¬ sp < 0 ∧ ¬ dp < 0 ∧ ¬ n < 0 ∧ sp.toNatClampNeg + n.toNatClampNeg ≤ n0 ∧ dp.toNatClampNeg + n.toNatClampNeg ≤ n1 ∧ (r.map fun v => v.category).sum ≤ 8) := by
  unfold ab_cpy at hs
  split at hs
  · split at hs
    · next e1 e2 => cases hs; exact ⟨_, _, _, _, _, _, _, _, _, _, _, _, _, rfl, e1, e2, rfl, rfl⟩
    · cases hs
  · cases hs
theorem ab_push_inv {n : Nat} {v : Value} {S S' : AS} {C : Prop} (hs : ab_push n v S = some (S', C)) : ∃ pc lv r h, S = (pc, lv, r, h) ∧ S' = (pc + n, lv, v :: r, h) := by
  obtain ⟨pc, lv, r, h⟩ := S
  unfold ab_push at hs
  cases hs
  exact ⟨_, _, _, _, rfl, rfl⟩
theorem ab_oi : Cond.code objectInit ⟨#[0xb1]⟩ 1 none ∈ ab_T := ab_in (i := 78) rfl rfl
set_option maxHeartbeats 4000000 in
set_option maxRecDepth 20000 in
theorem ab_s1 {l : Launch} {X : AX} {d k n : Nat} {M : MI} {R : AR} {S S' : AS} {e : AE} {C : Prop} (hok : ab_ok M) (hlk : ab_lk M.2.2.2.2 S.1 = some e) (hs : ab_step X M.2.2.1 e S = some (S', C)) (hC : C) (hP : ab_RP l X d k n M S' R) : ab_RP l X d k n M S R := by
  obtain ⟨hd, hb, hn⟩ := ab_ok_at hok hlk
  obtain ⟨ins, len, a1, a2, z, y⟩ := e
  dsimp only at hd hb hn
  cases ins with
  | iconst i =>
    simp only [ab_okd, Bool.and_eq_true, beq_iff_eq, decide_eq_true_eq] at hb
    obtain ⟨hb1, hb2⟩ := hb
    subst hb1
    have hs : ab_push 1 (.int z) S = some (S', C) := hs
    obtain ⟨pc, lv, r, h, rfl, rfl⟩ := ab_push_inv hs
    exact ab_pure (fun p e Rm s m args below meth c dC dI cA A Q ad H locs cells slots ls hF hr1 hr2 hl hX hS hW hc1 hc2 kk => lv_iconst hF.1 hF.2.1 hd hb2 (kk ls hl)) hP
  | bipush i =>
    simp only [ab_okd, Bool.and_eq_true, beq_iff_eq, decide_eq_true_eq] at hb
    obtain ⟨hb1, hb2⟩ := hb
    subst hb1
    have hs : ab_push 2 (.int z) S = some (S', C) := hs
    obtain ⟨pc, lv, r, h, rfl, rfl⟩ := ab_push_inv hs
    exact ab_pure (fun p e Rm s m args below meth c dC dI cA A Q ad H locs cells slots ls hF hr1 hr2 hl hX hS hW hc1 hc2 kk => lv_bipush hF.1 hF.2.1 hd hb2 (kk ls hl)) hP
  | sipush i =>
    simp only [ab_okd, Bool.and_eq_true, beq_iff_eq, decide_eq_true_eq] at hb
    obtain ⟨hb1, hb2⟩ := hb
    subst hb1
    have hs : ab_push 3 (.int z) S = some (S', C) := hs
    obtain ⟨pc, lv, r, h, rfl, rfl⟩ := ab_push_inv hs
    exact ab_pure (fun p e Rm s m args below meth c dC dI cA A Q ad H locs cells slots ls hF hr1 hr2 hl hX hS hW hc1 hc2 kk => lv_sipush hF.1 hF.2.1 hd hb2 (kk ls hl)) hP
  | lconst i =>
    simp only [ab_okd, Bool.and_eq_true, beq_iff_eq, decide_eq_true_eq] at hb
    obtain ⟨hb1, hb2⟩ := hb
    subst hb1
    have hs : ab_push 1 (.long y) S = some (S', C) := hs
    obtain ⟨pc, lv, r, h, rfl, rfl⟩ := ab_push_inv hs
    exact ab_pure (fun p e Rm s m args below meth c dC dI cA A Q ad H locs cells slots ls hF hr1 hr2 hl hX hS hW hc1 hc2 kk => lv_lconst hF.1 hF.2.1 hd hb2 (kk ls hl)) hP
  | ldc i =>
    simp only [ab_okd, Bool.and_eq_true, beq_iff_eq, decide_eq_true_eq] at hb
    subst hb
    have hs : ab_push 2 (.int z) S = some (S', C) := hs
    obtain ⟨pc, lv, r, h, rfl, rfl⟩ := ab_push_inv hs
    exact ab_pure (fun p e Rm s m args below meth c dC dI cA A Q ad H locs cells slots ls hF hr1 hr2 hl hX hS hW hc1 hc2 kk => lv_ldc hF.1 hF.2.1 hF.2.2.2.2.1 (hF.2.2.2.2.2.1 _ hn) hd (kk ls hl)) hP
  | ldc_w i =>
    simp only [ab_okd, Bool.and_eq_true, beq_iff_eq, decide_eq_true_eq] at hb
    subst hb
    have hs : ab_push 3 (.int z) S = some (S', C) := hs
    obtain ⟨pc, lv, r, h, rfl, rfl⟩ := ab_push_inv hs
    exact ab_pure (fun p e Rm s m args below meth c dC dI cA A Q ad H locs cells slots ls hF hr1 hr2 hl hX hS hW hc1 hc2 kk => lv_ldcw hF.1 hF.2.1 hF.2.2.2.2.1 (hF.2.2.2.2.2.1 _ hn) hd (kk ls hl)) hP
  | ldc2_w i =>
    simp only [ab_okd, Bool.and_eq_true, beq_iff_eq, decide_eq_true_eq] at hb
    subst hb
    have hs : ab_push 3 (.long y) S = some (S', C) := hs
    obtain ⟨pc, lv, r, h, rfl, rfl⟩ := ab_push_inv hs
    exact ab_pure (fun p e Rm s m args below meth c dC dI cA A Q ad H locs cells slots ls hF hr1 hr2 hl hX hS hW hc1 hc2 kk => lv_ldc2 hF.1 hF.2.1 hF.2.2.2.2.1 (hF.2.2.2.2.2.1 _ hn) hd (kk ls hl)) hP
  | iload_n i =>
    simp only [ab_okd, Bool.and_eq_true, beq_iff_eq, decide_eq_true_eq] at hb
    obtain ⟨hb1, hb2⟩ := hb
    subst hb1
    have hs : ab_ldi 1 a1 S = some (S', C) := hs
    obtain ⟨pc, lv, x, r, h, rfl, hg, rfl⟩ := ab_ldi_inv hs
    exact ab_pure (fun p e Rm s m args below meth c dC dI cA A Q ad H locs cells slots ls hF hr1 hr2 hl hX hS hW hc1 hc2 kk => lv_iload_n hF.1 hF.2.1 hd hb2 (ab_lg_has hl hg) (kk ls hl)) hP
  | iload i =>
    simp only [ab_okd, Bool.and_eq_true, beq_iff_eq, decide_eq_true_eq] at hb
    obtain ⟨hb1, hb2⟩ := hb
    subst hb1
    subst hb2
    have hs : ab_ldi 2 i S = some (S', C) := hs
    obtain ⟨pc, lv, x, r, h, rfl, hg, rfl⟩ := ab_ldi_inv hs
    exact ab_pure (fun p e Rm s m args below meth c dC dI cA A Q ad H locs cells slots ls hF hr1 hr2 hl hX hS hW hc1 hc2 kk => lv_iload hF.1 hF.2.1 hd (ab_lg_has hl hg) (kk ls hl)) hP
  | lload_n i =>
    simp only [ab_okd, Bool.and_eq_true, beq_iff_eq, decide_eq_true_eq] at hb
    obtain ⟨hb1, hb2⟩ := hb
    subst hb1
    have hs : ab_ldl 1 a1 S = some (S', C) := hs
    obtain ⟨pc, lv, x, r, h, rfl, hg, rfl⟩ := ab_ldl_inv hs
    exact ab_pure (fun p e Rm s m args below meth c dC dI cA A Q ad H locs cells slots ls hF hr1 hr2 hl hX hS hW hc1 hc2 kk => lv_lload_n hF.1 hF.2.1 hd hb2 (ab_lg_has hl hg) (kk ls hl)) hP
  | lload i =>
    simp only [ab_okd, Bool.and_eq_true, beq_iff_eq, decide_eq_true_eq] at hb
    obtain ⟨hb1, hb2⟩ := hb
    subst hb1
    subst hb2
    have hs : ab_ldl 2 i S = some (S', C) := hs
    obtain ⟨pc, lv, x, r, h, rfl, hg, rfl⟩ := ab_ldl_inv hs
    exact ab_pure (fun p e Rm s m args below meth c dC dI cA A Q ad H locs cells slots ls hF hr1 hr2 hl hX hS hW hc1 hc2 kk => lv_lload hF.1 hF.2.1 hd (ab_lg_has hl hg) (kk ls hl)) hP
  | aload_n i =>
    simp only [ab_okd, Bool.and_eq_true, beq_iff_eq, decide_eq_true_eq] at hb
    obtain ⟨hb1, hb2⟩ := hb
    subst hb1
    have hs : ab_lda 1 a1 S = some (S', C) := hs
    obtain ⟨pc, lv, x, r, h, rfl, hg, rfl⟩ := ab_lda_inv hs
    exact ab_pure (fun p e Rm s m args below meth c dC dI cA A Q ad H locs cells slots ls hF hr1 hr2 hl hX hS hW hc1 hc2 kk => lv_aload_n hF.1 hF.2.1 hd hb2 (ab_lg_has hl hg) (kk ls hl)) hP
  | aload i =>
    simp only [ab_okd, Bool.and_eq_true, beq_iff_eq, decide_eq_true_eq] at hb
    obtain ⟨hb1, hb2⟩ := hb
    subst hb1
    subst hb2
    have hs : ab_lda 2 i S = some (S', C) := hs
    obtain ⟨pc, lv, x, r, h, rfl, hg, rfl⟩ := ab_lda_inv hs
    exact ab_pure (fun p e Rm s m args below meth c dC dI cA A Q ad H locs cells slots ls hF hr1 hr2 hl hX hS hW hc1 hc2 kk => lv_aload hF.1 hF.2.1 hd (ab_lg_has hl hg) (kk ls hl)) hP
  | istore_n i =>
    simp only [ab_okd, Bool.and_eq_true, beq_iff_eq, decide_eq_true_eq] at hb
    obtain ⟨hb1, hb2⟩ := hb
    subst hb1
    have hs : ab_sti 1 a1 M.2.2.1 S = some (S', C) := hs
    obtain ⟨pc, lv, x, r, h, rfl, rfl, rfl⟩ := ab_sti_inv hs
    exact ab_pure (fun p e Rm s m args below meth c dC dI cA A Q ad H locs cells slots ls hF hr1 hr2 hl hX hS hW hc1 hc2 kk => lv_istore_n hF.1 hF.2.1 hd hb2 hl hC (ab_p1_r ad lv a1 (.int x)) kk) hP
  | istore i =>
    simp only [ab_okd, Bool.and_eq_true, beq_iff_eq, decide_eq_true_eq] at hb
    obtain ⟨hb1, hb2⟩ := hb
    subst hb1
    subst hb2
    have hs : ab_sti 2 i M.2.2.1 S = some (S', C) := hs
    obtain ⟨pc, lv, x, r, h, rfl, rfl, rfl⟩ := ab_sti_inv hs
    exact ab_pure (fun p e Rm s m args below meth c dC dI cA A Q ad H locs cells slots ls hF hr1 hr2 hl hX hS hW hc1 hc2 kk => lv_istore hF.1 hF.2.1 hd hl hC (ab_p1_r ad lv i (.int x)) kk) hP
  | lstore_n i =>
    simp only [ab_okd, Bool.and_eq_true, beq_iff_eq, decide_eq_true_eq] at hb
    obtain ⟨hb1, hb2⟩ := hb
    subst hb1
    have hs : ab_stl 1 a1 M.2.2.1 S = some (S', C) := hs
    obtain ⟨pc, lv, x, r, h, rfl, rfl, rfl⟩ := ab_stl_inv hs
    exact ab_pure (fun p e Rm s m args below meth c dC dI cA A Q ad H locs cells slots ls hF hr1 hr2 hl hX hS hW hc1 hc2 kk => lv_lstore_n hF.1 hF.2.1 hd hb2 hl hC (ab_p2_r ad lv a1 (.long x)) kk) hP
  | lstore i =>
    simp only [ab_okd, Bool.and_eq_true, beq_iff_eq, decide_eq_true_eq] at hb
    obtain ⟨hb1, hb2⟩ := hb
    subst hb1
    subst hb2
    have hs : ab_stl 2 i M.2.2.1 S = some (S', C) := hs
    obtain ⟨pc, lv, x, r, h, rfl, rfl, rfl⟩ := ab_stl_inv hs
    exact ab_pure (fun p e Rm s m args below meth c dC dI cA A Q ad H locs cells slots ls hF hr1 hr2 hl hX hS hW hc1 hc2 kk => lv_lstore hF.1 hF.2.1 hd hl hC (ab_p2_r ad lv i (.long x)) kk) hP
  | astore_n i =>
    simp only [ab_okd, Bool.and_eq_true, beq_iff_eq, decide_eq_true_eq] at hb
    obtain ⟨hb1, hb2⟩ := hb
    subst hb1
    have hs : ab_sta 1 a1 M.2.2.1 S = some (S', C) := hs
    obtain ⟨pc, lv, x, r, h, rfl, rfl, rfl⟩ := ab_sta_inv hs
    exact ab_pure (fun p e Rm s m args below meth c dC dI cA A Q ad H locs cells slots ls hF hr1 hr2 hl hX hS hW hc1 hc2 kk => lv_astore_n hF.1 hF.2.1 hd hb2 hl hC (ab_p1_r ad lv a1 (.ref x)) kk) hP
  | iinc i v =>
    simp only [ab_okd, Bool.and_eq_true, beq_iff_eq, decide_eq_true_eq] at hb
    obtain ⟨⟨hb1, hb2⟩, hb3⟩ := hb
    subst hb1
    subst hb2
    have hs : ab_inc 3 i M.2.2.1 z S = some (S', C) := hs
    obtain ⟨pc, lv, x, r, h, rfl, hg, rfl, rfl⟩ := ab_inc_inv hs
    exact ab_pure (fun p e Rm s m args below meth c dC dI cA A Q ad H locs cells slots ls hF hr1 hr2 hl hX hS hW hc1 hc2 kk => by
      obtain ⟨q, hq⟩ := ab_lg_at (ad := ad) hg
      exact lv_iinc hF.1 hF.2.1 hd hl hq (by rw [hb3]) hC (ab_p1_r ad lv i (.int (x + z))) kk) hP
  | iadd =>
    have hb : len = 1 := by simpa [ab_okd] using hb
    subst hb
    have hs : ab_b 1 (· + ·) S = some (S', C) := hs
    obtain ⟨pc, lv, y, x, r, h, rfl, rfl, rfl⟩ := ab_b_inv hs
    exact ab_pure (fun p e Rm s m args below meth c dC dI cA A Q ad H locs cells slots ls hF hr1 hr2 hl hX hS hW hc1 hc2 kk => lv_iadd hF.1 hF.2.1 hd (kk ls hl)) hP
  | isub =>
    have hb : len = 1 := by simpa [ab_okd] using hb
    subst hb
    have hs : ab_b 1 (· - ·) S = some (S', C) := hs
    obtain ⟨pc, lv, y, x, r, h, rfl, rfl, rfl⟩ := ab_b_inv hs
    exact ab_pure (fun p e Rm s m args below meth c dC dI cA A Q ad H locs cells slots ls hF hr1 hr2 hl hX hS hW hc1 hc2 kk => lv_isub hF.1 hF.2.1 hd (kk ls hl)) hP
  | imul =>
    have hb : len = 1 := by simpa [ab_okd] using hb
    subst hb
    have hs : ab_b 1 (· * ·) S = some (S', C) := hs
    obtain ⟨pc, lv, y, x, r, h, rfl, rfl, rfl⟩ := ab_b_inv hs
    exact ab_pure (fun p e Rm s m args below meth c dC dI cA A Q ad H locs cells slots ls hF hr1 hr2 hl hX hS hW hc1 hc2 kk => lv_imul hF.1 hF.2.1 hd (kk ls hl)) hP
  | iand =>
    have hb : len = 1 := by simpa [ab_okd] using hb
    subst hb
    have hs : ab_b 1 (· &&& ·) S = some (S', C) := hs
    obtain ⟨pc, lv, y, x, r, h, rfl, rfl, rfl⟩ := ab_b_inv hs
    exact ab_pure (fun p e Rm s m args below meth c dC dI cA A Q ad H locs cells slots ls hF hr1 hr2 hl hX hS hW hc1 hc2 kk => lv_iand hF.1 hF.2.1 hd (kk ls hl)) hP
  | ior =>
    have hb : len = 1 := by simpa [ab_okd] using hb
    subst hb
    have hs : ab_b 1 (· ||| ·) S = some (S', C) := hs
    obtain ⟨pc, lv, y, x, r, h, rfl, rfl, rfl⟩ := ab_b_inv hs
    exact ab_pure (fun p e Rm s m args below meth c dC dI cA A Q ad H locs cells slots ls hF hr1 hr2 hl hX hS hW hc1 hc2 kk => lv_ior hF.1 hF.2.1 hd (kk ls hl)) hP
  | ixor =>
    have hb : len = 1 := by simpa [ab_okd] using hb
    subst hb
    have hs : ab_b 1 (· ^^^ ·) S = some (S', C) := hs
    obtain ⟨pc, lv, y, x, r, h, rfl, rfl, rfl⟩ := ab_b_inv hs
    exact ab_pure (fun p e Rm s m args below meth c dC dI cA A Q ad H locs cells slots ls hF hr1 hr2 hl hX hS hW hc1 hc2 kk => lv_ixor hF.1 hF.2.1 hd (kk ls hl)) hP
  | idiv =>
    have hb : len = 1 := by simpa [ab_okd] using hb
    subst hb
    have hs : ab_d 1 (· / ·) S = some (S', C) := hs
    obtain ⟨pc, lv, y, x, r, h, rfl, rfl, rfl⟩ := ab_d_inv hs
    exact ab_pure (fun p e Rm s m args below meth c dC dI cA A Q ad H locs cells slots ls hF hr1 hr2 hl hX hS hW hc1 hc2 kk => lv_idiv hF.1 hF.2.1 hd hC (kk ls hl)) hP
  | irem =>
    have hb : len = 1 := by simpa [ab_okd] using hb
    subst hb
    have hs : ab_d 1 (fun x y => x - x / y * y) S = some (S', C) := hs
    obtain ⟨pc, lv, y, x, r, h, rfl, rfl, rfl⟩ := ab_d_inv hs
    exact ab_pure (fun p e Rm s m args below meth c dC dI cA A Q ad H locs cells slots ls hF hr1 hr2 hl hX hS hW hc1 hc2 kk => lv_irem hF.1 hF.2.1 hd hC (kk ls hl)) hP
  | ishl =>
    have hb : len = 1 := by simpa [ab_okd] using hb
    subst hb
    have hs : ab_b 1 (fun x y => x <<< (y &&& 31)) S = some (S', C) := hs
    obtain ⟨pc, lv, y, x, r, h, rfl, rfl, rfl⟩ := ab_b_inv hs
    exact ab_pure (fun p e Rm s m args below meth c dC dI cA A Q ad H locs cells slots ls hF hr1 hr2 hl hX hS hW hc1 hc2 kk => lv_ishl hF.1 hF.2.1 hd (kk ls hl)) hP
  | ishr =>
    have hb : len = 1 := by simpa [ab_okd] using hb
    subst hb
    have hs : ab_b 1 (fun x y => x >>> (y &&& 31)) S = some (S', C) := hs
    obtain ⟨pc, lv, y, x, r, h, rfl, rfl, rfl⟩ := ab_b_inv hs
    exact ab_pure (fun p e Rm s m args below meth c dC dI cA A Q ad H locs cells slots ls hF hr1 hr2 hl hX hS hW hc1 hc2 kk => lv_ishr hF.1 hF.2.1 hd (kk ls hl)) hP
  | iushr =>
    have hb : len = 1 := by simpa [ab_okd] using hb
    subst hb
    have hs : ab_b 1 (fun x y => (x.toUInt32 >>> (y.toUInt32 &&& Int32.toUInt32 31)).toInt32) S = some (S', C) := hs
    obtain ⟨pc, lv, y, x, r, h, rfl, rfl, rfl⟩ := ab_b_inv hs
    exact ab_pure (fun p e Rm s m args below meth c dC dI cA A Q ad H locs cells slots ls hF hr1 hr2 hl hX hS hW hc1 hc2 kk => lv_iushr hF.1 hF.2.1 hd rfl (kk ls hl)) hP
  | ladd =>
    have hb : len = 1 := by simpa [ab_okd] using hb
    subst hb
    have hs : ab_bl 1 (· + ·) S = some (S', C) := hs
    obtain ⟨pc, lv, y, x, r, h, rfl, rfl, rfl⟩ := ab_bl_inv hs
    exact ab_pure (fun p e Rm s m args below meth c dC dI cA A Q ad H locs cells slots ls hF hr1 hr2 hl hX hS hW hc1 hc2 kk => lv_ladd hF.1 hF.2.1 hd (kk ls hl)) hP
  | lmul =>
    have hb : len = 1 := by simpa [ab_okd] using hb
    subst hb
    have hs : ab_bl 1 (· * ·) S = some (S', C) := hs
    obtain ⟨pc, lv, y, x, r, h, rfl, rfl, rfl⟩ := ab_bl_inv hs
    exact ab_pure (fun p e Rm s m args below meth c dC dI cA A Q ad H locs cells slots ls hF hr1 hr2 hl hX hS hW hc1 hc2 kk => lv_lmul hF.1 hF.2.1 hd (kk ls hl)) hP
  | land =>
    have hb : len = 1 := by simpa [ab_okd] using hb
    subst hb
    have hs : ab_bl 1 (· &&& ·) S = some (S', C) := hs
    obtain ⟨pc, lv, y, x, r, h, rfl, rfl, rfl⟩ := ab_bl_inv hs
    exact ab_pure (fun p e Rm s m args below meth c dC dI cA A Q ad H locs cells slots ls hF hr1 hr2 hl hX hS hW hc1 hc2 kk => lv_land hF.1 hF.2.1 hd (kk ls hl)) hP
  | ldiv =>
    have hb : len = 1 := by simpa [ab_okd] using hb
    subst hb
    have hs : ab_dl 1 (· / ·) S = some (S', C) := hs
    obtain ⟨pc, lv, y, x, r, h, rfl, rfl, rfl⟩ := ab_dl_inv hs
    exact ab_pure (fun p e Rm s m args below meth c dC dI cA A Q ad H locs cells slots ls hF hr1 hr2 hl hX hS hW hc1 hc2 kk => lv_ldiv hF.1 hF.2.1 hd hC (kk ls hl)) hP
  | lrem =>
    have hb : len = 1 := by simpa [ab_okd] using hb
    subst hb
    have hs : ab_dl 1 (fun x y => x - x / y * y) S = some (S', C) := hs
    obtain ⟨pc, lv, y, x, r, h, rfl, rfl, rfl⟩ := ab_dl_inv hs
    exact ab_pure (fun p e Rm s m args below meth c dC dI cA A Q ad H locs cells slots ls hF hr1 hr2 hl hX hS hW hc1 hc2 kk => lv_lrem hF.1 hF.2.1 hd hC (kk ls hl)) hP
  | ineg =>
    have hb : len = 1 := by simpa [ab_okd] using hb
    subst hb
    simp only [ab_step] at hs
    split at hs
    · cases hs
      exact ab_pure (fun p e Rm s m args below meth c dC dI cA A Q ad H locs cells slots ls hF hr1 hr2 hl hX hS hW hc1 hc2 kk => lv_ineg hF.1 hF.2.1 hd (kk ls hl)) hP
    · cases hs
  | lcmp =>
    have hb : len = 1 := by simpa [ab_okd] using hb
    subst hb
    simp only [ab_step] at hs
    split at hs
    · cases hs
      exact ab_pure (fun p e Rm s m args below meth c dC dI cA A Q ad H locs cells slots ls hF hr1 hr2 hl hX hS hW hc1 hc2 kk => W.lcmp hF.1 hF.2.1 hd (kk ls hl)) hP
    · cases hs
  | i2l =>
    have hb : len = 1 := by simpa [ab_okd] using hb
    subst hb
    simp only [ab_step] at hs
    split at hs
    · cases hs
      exact ab_pure (fun p e Rm s m args below meth c dC dI cA A Q ad H locs cells slots ls hF hr1 hr2 hl hX hS hW hc1 hc2 kk => lv_i2l hF.1 hF.2.1 hd rfl (kk ls hl)) hP
    · cases hs
  | l2i =>
    have hb : len = 1 := by simpa [ab_okd] using hb
    subst hb
    simp only [ab_step] at hs
    split at hs
    · cases hs
      exact ab_pure (fun p e Rm s m args below meth c dC dI cA A Q ad H locs cells slots ls hF hr1 hr2 hl hX hS hW hc1 hc2 kk => lv_l2i hF.1 hF.2.1 hd rfl (kk ls hl)) hP
    · cases hs
  | dup =>
    have hb : len = 1 := by simpa [ab_okd] using hb
    subst hb
    simp only [ab_step] at hs
    split at hs
    · cases hs
      exact ab_pure (fun p e Rm s m args below meth c dC dI cA A Q ad H locs cells slots ls hF hr1 hr2 hl hX hS hW hc1 hc2 kk => lv_dup hF.1 hF.2.1 hd (by rw [ab_r_cat]; exact hC) (kk ls hl)) hP
    · cases hs
  | dup2 =>
    have hb : len = 1 := by simpa [ab_okd] using hb
    subst hb
    simp only [ab_step] at hs
    split at hs
    · cases hs
      exact ab_pure (fun p e Rm s m args below meth c dC dI cA A Q ad H locs cells slots ls hF hr1 hr2 hl hX hS hW hc1 hc2 kk => lv_dup2_11 hF.1 hF.2.1 hd (by rw [ab_r_cat]; exact hC.1) (by rw [ab_r_cat]; exact hC.2) (kk ls hl)) hP
    · cases hs
  | goto o =>
    simp only [ab_okd, Bool.and_eq_true, beq_iff_eq, decide_eq_true_eq] at hb
    obtain ⟨hb1, hb2⟩ := hb
    subst hb1
    obtain ⟨pc, lv, r, h⟩ := S
    cases hs
    exact ab_pure (fun p e Rm s m args below meth c dC dI cA A Q ad H locs cells slots ls hF hr1 hr2 hl hX hS hW hc1 hc2 kk => lv_goto hF.1 hF.2.1 hd hb2 (kk ls hl)) hP
  | ifCond cd o =>
    simp only [ab_okd, Bool.and_eq_true, beq_iff_eq, decide_eq_true_eq] at hb
    obtain ⟨hb1, hb2⟩ := hb
    subst hb1
    simp only [ab_step] at hs
    split at hs
    · cases hs
      cases cd with
      | eq => exact ab_pure (fun p e Rm s m args below meth c dC dI cA A Q ad H locs cells slots ls hF hr1 hr2 hl hX hS hW hc1 hc2 kk => lv_if_eq hF.1 hF.2.1 hd hb2 (fun q => by have := kk ls hl; simp only [ab_if, if_pos q] at this; exact this) (fun q => by have := kk ls hl; simp only [ab_if, if_neg q] at this; exact this)) hP
      | ne => exact ab_pure (fun p e Rm s m args below meth c dC dI cA A Q ad H locs cells slots ls hF hr1 hr2 hl hX hS hW hc1 hc2 kk => lv_if_ne hF.1 hF.2.1 hd hb2 (fun q => by have := kk ls hl; simp only [ab_if, if_pos q] at this; exact this) (fun q => by have := kk ls hl; simp only [ab_if, if_neg (not_not_intro q)] at this; exact this)) hP
      | lt => exact ab_pure (fun p e Rm s m args below meth c dC dI cA A Q ad H locs cells slots ls hF hr1 hr2 hl hX hS hW hc1 hc2 kk => lv_if_lt hF.1 hF.2.1 hd hb2 (fun q => by have := kk ls hl; simp only [ab_if, if_pos q] at this; exact this) (fun q => by have := kk ls hl; simp only [ab_if, if_neg q] at this; exact this)) hP
      | ge => exact ab_pure (fun p e Rm s m args below meth c dC dI cA A Q ad H locs cells slots ls hF hr1 hr2 hl hX hS hW hc1 hc2 kk => lv_if_ge hF.1 hF.2.1 hd hb2 (fun q => by have := kk ls hl; simp only [ab_if, if_pos q] at this; exact this) (fun q => by have := kk ls hl; simp only [ab_if, if_neg q] at this; exact this)) hP
      | gt => exact ab_pure (fun p e Rm s m args below meth c dC dI cA A Q ad H locs cells slots ls hF hr1 hr2 hl hX hS hW hc1 hc2 kk => lv_if_gt hF.1 hF.2.1 hd hb2 (fun q => by have := kk ls hl; simp only [ab_if, if_pos q] at this; exact this) (fun q => by have := kk ls hl; simp only [ab_if, if_neg q] at this; exact this)) hP
      | le => exact ab_pure (fun p e Rm s m args below meth c dC dI cA A Q ad H locs cells slots ls hF hr1 hr2 hl hX hS hW hc1 hc2 kk => lv_if_le hF.1 hF.2.1 hd hb2 (fun q => by have := kk ls hl; simp only [ab_if, if_pos q] at this; exact this) (fun q => by have := kk ls hl; simp only [ab_if, if_neg q] at this; exact this)) hP
    · cases hs
  | if_icmp cd o =>
    simp only [ab_okd, Bool.and_eq_true, beq_iff_eq, decide_eq_true_eq] at hb
    obtain ⟨hb1, hb2⟩ := hb
    subst hb1
    simp only [ab_step] at hs
    split at hs
    · cases hs
      cases cd with
      | eq => exact ab_pure (fun p e Rm s m args below meth c dC dI cA A Q ad H locs cells slots ls hF hr1 hr2 hl hX hS hW hc1 hc2 kk => lv_icmp_eq hF.1 hF.2.1 hd hb2 (fun q => by have := kk ls hl; simp only [ab_if, if_pos q] at this; exact this) (fun q => by have := kk ls hl; simp only [ab_if, if_neg q] at this; exact this)) hP
      | ne => exact ab_pure (fun p e Rm s m args below meth c dC dI cA A Q ad H locs cells slots ls hF hr1 hr2 hl hX hS hW hc1 hc2 kk => lv_icmp_ne hF.1 hF.2.1 hd hb2 (fun q => by have := kk ls hl; simp only [ab_if, if_pos q] at this; exact this) (fun q => by have := kk ls hl; simp only [ab_if, if_neg (not_not_intro q)] at this; exact this)) hP
      | lt => exact ab_pure (fun p e Rm s m args below meth c dC dI cA A Q ad H locs cells slots ls hF hr1 hr2 hl hX hS hW hc1 hc2 kk => lv_icmp_lt hF.1 hF.2.1 hd hb2 (fun q => by have := kk ls hl; simp only [ab_if, if_pos q] at this; exact this) (fun q => by have := kk ls hl; simp only [ab_if, if_neg q] at this; exact this)) hP
      | ge => exact ab_pure (fun p e Rm s m args below meth c dC dI cA A Q ad H locs cells slots ls hF hr1 hr2 hl hX hS hW hc1 hc2 kk => lv_icmp_ge hF.1 hF.2.1 hd hb2 (fun q => by have := kk ls hl; simp only [ab_if, if_pos q] at this; exact this) (fun q => by have := kk ls hl; simp only [ab_if, if_neg q] at this; exact this)) hP
      | gt => exact ab_pure (fun p e Rm s m args below meth c dC dI cA A Q ad H locs cells slots ls hF hr1 hr2 hl hX hS hW hc1 hc2 kk => lv_icmp_gt hF.1 hF.2.1 hd hb2 (fun q => by have := kk ls hl; simp only [ab_if, if_pos q] at this; exact this) (fun q => by have := kk ls hl; simp only [ab_if, if_neg q] at this; exact this)) hP
      | le => exact ab_pure (fun p e Rm s m args below meth c dC dI cA A Q ad H locs cells slots ls hF hr1 hr2 hl hX hS hW hc1 hc2 kk => lv_icmp_le hF.1 hF.2.1 hd hb2 (fun q => by have := kk ls hl; simp only [ab_if, if_pos q] at this; exact this) (fun q => by have := kk ls hl; simp only [ab_if, if_neg q] at this; exact this)) hP
    · cases hs
  | getfield i =>
    simp only [ab_okd, Bool.and_eq_true, beq_iff_eq, decide_eq_true_eq] at hb
    subst hb
    have hs : ab_get a1 a2 S = some (S', C) := hs
    obtain ⟨pc, lv, a, r, h, fs, v, rfl, g1, g2, rfl⟩ := ab_get_inv hs
    obtain ⟨C0, T, N, hc, hk, hT, hin, hlink⟩ := hn
    exact ab_pure (fun p e Rm s m args below meth c dC dI cA A Q ad H locs cells slots ls hF hr1 hr2 hl hX hS hW hc1 hc2 kk => by
      have e1 := ab_wd_nt ad cA h 0 a _ g1
      rw [Nat.zero_add] at e1
      have e2 := ab_nt_map (ab_r ad) fs a2 v g2
      rcases hlink with q | ⟨host, q⟩
      · exact va_get (C := C0) (T := T) (N := N) hF.1 hF.2.1 hF.2.2.2.2.2.1 hin hF.2.2.2.2.1 hF.2.2.2.2.2.2.1 hW a e1 hc a2 hk (hF.2.2.2.2.2.1 _ q) (fun _ h9 => hT ▸ h9) e2 hd (kk ls hl)
      · exact va_getN (C := C0) (T := T) (N := N) hF.1 hF.2.1 hF.2.2.2.2.2.1 hin hF.2.2.2.2.1 hF.2.2.2.2.2.2.1 hW a e1 hc a2 hk (va_Nw.use rfl (hF.2.2.2.2.2.2.2.2 _ q)) (fun _ h9 => hT ▸ h9) e2 hd (kk ls hl)) hP
  | putfield i =>
    simp only [ab_okd, Bool.and_eq_true, beq_iff_eq, decide_eq_true_eq] at hb
    subst hb
    obtain ⟨C0, T, N, ty, hc, hk, hT, hin, hty, hnm, hz, hlink⟩ := hn
    by_cases z0 : z = 0
    · have hs : ab_puti a1 a2 S = some (S', C) := by
        have := hs
        simp only [ab_step, if_pos z0] at this
        exact this
      obtain ⟨pc, lv, x, a, r, h, fs, w, rfl, g1, g2, rfl⟩ := ab_puti_inv hs
      exact ab_writ (ab_st_len _ _ _) (fun p e Rm s m args below meth c dC dI cA A Q ad H locs cells slots ls hF hr1 hr2 hsz hS hW hD kk => by
        have e1 := ab_wd_nt ad cA h 0 a _ g1
        rw [Nat.zero_add] at e1
        have e2 := ab_nt_map (ab_r ad) fs a2 w g2
        have e3 : a2 < (fs.map (ab_r ad)).length := (List.getElem?_eq_some_iff.mp e2).1
        have e4 : ab_wd ad cA 0 (ab_st h a (.inr (a1, ab_st fs a2 (.int x)))) = (ab_wd ad cA 0 h).set a (ad a, .inr (a1, (fs.map (ab_r ad)).set a2 (ab_r ad (.int x)))) := by
          rw [ab_wd_st, Nat.zero_add]
          simp only [ab_rz, ab_st_map]
        rw [e4] at kk
        have hz1 : ty a2 = .int := by rcases hz with q | q; exact q.2; exact absurd z0 q.1
        have hn1 : narrow .int (ab_r ad (.int x)) = ab_r ad (.int x) := rfl
        have hn2 : fits .int (ab_r ad (.int x)) = true := rfl
        have hp := hty a2 hk
        rw [hz1] at hp
        rcases hlink with ⟨hfin, q | ⟨host, q⟩⟩ | ⟨hfin, hnm1, hown, q⟩
        · exact va_put (C := C0) (T := T) (N := N) hF.1 hF.2.1 hF.2.2.2.2.2.1 hin ty hty hnm hF.2.2.2.2.1 hF.2.2.2.2.2.2.1 hW hD hS a e1 hc a2 hk (hF.2.2.2.2.2.1 _ q) (fun _ h9 => hT ▸ h9) hfin hp hn1 hn2 e3 hd kk
        · exact va_putN (C := C0) (T := T) (N := N) hF.1 hF.2.1 hF.2.2.2.2.2.1 hin ty hty hnm hF.2.2.2.2.1 hF.2.2.2.2.2.2.1 hW hD hS a e1 hc a2 hk (va_Nw.use rfl (hF.2.2.2.2.2.2.2.2 _ q)) (fun _ h9 => hT ▸ h9) hfin hp hn1 hn2 e3 hd kk
        · exact va_putF (C := C0) (T := T) (N := N) hF.1 hF.2.1 hF.2.2.2.2.2.1 hin ty hty hnm hF.2.2.2.2.1 hF.2.2.2.2.2.2.1 hW hD hS a e1 hc a2 hk (hF.2.2.2.2.2.1 _ q) (fun _ h9 => hT ▸ h9) hfin (hF.2.2.2.1 hnm1) hown hp hn1 hn2 e3 hd kk) hP
    · have hs : ab_puta a1 a2 S = some (S', C) := by
        have := hs
        simp only [ab_step, if_neg z0] at this
        exact this
      obtain ⟨pc, lv, x, a, r, h, fs, w, rfl, g1, g2, rfl⟩ := ab_puta_inv hs
      exact ab_writ (ab_st_len _ _ _) (fun p e Rm s m args below meth c dC dI cA A Q ad H locs cells slots ls hF hr1 hr2 hsz hS hW hD kk => by
        have e1 := ab_wd_nt ad cA h 0 a _ g1
        rw [Nat.zero_add] at e1
        have e2 := ab_nt_map (ab_r ad) fs a2 w g2
        have e3 : a2 < (fs.map (ab_r ad)).length := (List.getElem?_eq_some_iff.mp e2).1
        have e4 : ab_wd ad cA 0 (ab_st h a (.inr (a1, ab_st fs a2 (.ref x)))) = (ab_wd ad cA 0 h).set a (ad a, .inr (a1, (fs.map (ab_r ad)).set a2 (ab_r ad (.ref x)))) := by
          rw [ab_wd_st, Nat.zero_add]
          simp only [ab_rz, ab_st_map]
        rw [e4] at kk
        have hz1 : (∃ t, ty a2 = .array t) ∨ ∃ o, ty a2 = .object o := by rcases hz with q | q; exact absurd q.1 z0; exact q.2
        have hn1 : narrow (ty a2) (ab_r ad (.ref x)) = ab_r ad (.ref x) := by rcases hz1 with ⟨t, q⟩ | ⟨t, q⟩ <;> rw [q] <;> rfl
        have hn2 : fits (ty a2) (ab_r ad (.ref x)) = true := by rcases hz1 with ⟨t, q⟩ | ⟨t, q⟩ <;> rw [q] <;> rfl
        have hp := hty a2 hk
        rcases hlink with ⟨hfin, q | ⟨host, q⟩⟩ | ⟨hfin, hnm1, hown, q⟩
        · exact va_put (C := C0) (T := T) (N := N) hF.1 hF.2.1 hF.2.2.2.2.2.1 hin ty hty hnm hF.2.2.2.2.1 hF.2.2.2.2.2.2.1 hW hD hS a e1 hc a2 hk (hF.2.2.2.2.2.1 _ q) (fun _ h9 => hT ▸ h9) hfin hp hn1 hn2 e3 hd kk
        · exact va_putN (C := C0) (T := T) (N := N) hF.1 hF.2.1 hF.2.2.2.2.2.1 hin ty hty hnm hF.2.2.2.2.1 hF.2.2.2.2.2.2.1 hW hD hS a e1 hc a2 hk (va_Nw.use rfl (hF.2.2.2.2.2.2.2.2 _ q)) (fun _ h9 => hT ▸ h9) hfin hp hn1 hn2 e3 hd kk
        · exact va_putF (C := C0) (T := T) (N := N) hF.1 hF.2.1 hF.2.2.2.2.2.1 hin ty hty hnm hF.2.2.2.2.1 hF.2.2.2.2.2.2.1 hW hD hS a e1 hc a2 hk (hF.2.2.2.2.2.1 _ q) (fun _ h9 => hT ▸ h9) hfin (hF.2.2.2.1 hnm1) hown hp hn1 hn2 e3 hd kk) hP
  | iaload =>
    have hb : len = 1 := by simpa [ab_okd] using hb
    subst hb
    by_cases hx : X.isSome = true
    · have hs : ab_sld X S = some (S', C) := by
        have := hs
        simp only [ab_step, if_pos hx] at this
        exact this
      obtain ⟨pc, lv, i, r, h, x, rfl, rfl, rfl, rfl⟩ := ab_sld_inv hs
      exact ab_pure (fun p e Rm s m args below meth c dC dI cA A Q ad H locs cells slots ls hF hr1 hr2 hl hX hS hW hc1 hc2 kk => by
        obtain ⟨x1, x2, x3⟩ := hX x rfl
        exact va_sld hF.1 hF.2.1 x1 x2 x3 hS hC hd (kk ls hl)) hP
    · have hs : ab_ald 0 S = some (S', C) := by
        have := hs
        simp only [ab_step, if_neg hx] at this
        exact this
      obtain ⟨pc, lv, i, a, r, h, q, f, rfl, g1, rfl, rfl⟩ := ab_ald_inv hs
      exact ab_pure (fun p e Rm s m args below meth c dC dI cA A Q ad H locs cells slots ls hF hr1 hr2 hl hX hS hW hc1 hc2 kk => by
        have e1 := ab_wd_nt ad cA h 0 a _ g1
        rw [Nat.zero_add] at e1
        exact va_iald hF.1 hF.2.1 hF.2.2.2.2.2.2.1 hW a 0 e1 rfl hC hd (kk ls hl)) hP
  | baload =>
    have hb : len = 1 := by simpa [ab_okd] using hb
    subst hb
    have hs : ab_ald 1 S = some (S', C) := hs
    obtain ⟨pc, lv, i, a, r, h, q, f, rfl, g1, rfl, rfl⟩ := ab_ald_inv hs
    exact ab_pure (fun p e Rm s m args below meth c dC dI cA A Q ad H locs cells slots ls hF hr1 hr2 hl hX hS hW hc1 hc2 kk => by
      have e1 := ab_wd_nt ad cA h 0 a _ g1
      rw [Nat.zero_add] at e1
      exact va_zald hF.1 hF.2.1 hF.2.2.2.2.2.2.1 hW a 1 e1 rfl hC hd (kk ls hl)) hP
  | iastore =>
    have hb : len = 1 := by simpa [ab_okd] using hb
    subst hb
    have hs : ab_ast S = some (S', C) := hs
    obtain ⟨pc, lv, x, i, a, r, h, q, f, rfl, g1, rfl, rfl⟩ := ab_ast_inv hs
    exact ab_writ (ab_st_len _ _ _) (fun p e Rm s m args below meth c dC dI cA A Q ad H locs cells slots ls hF hr1 hr2 hsz hS hW hD kk => by
      have e1 := ab_wd_nt ad cA h 0 a _ g1
      rw [Nat.zero_add] at e1
      have e4 := ab_wd_st ad cA h 0 a (.inl (0, q, upd f i.toNatClampNeg x))
      rw [Nat.zero_add] at e4
      rw [e4] at kk
      exact va_iast hF.1 hF.2.1 hF.2.2.2.2.2.2.1 hW hD hS a 0 e1 rfl hC hd kk) hP
  | bastore =>
    have hb : len = 1 := by simpa [ab_okd] using hb
    subst hb
    have hs : ab_zst S = some (S', C) := hs
    obtain ⟨pc, lv, x, i, a, r, h, q, f, rfl, g1, rfl, rfl⟩ := ab_zst_inv hs
    exact ab_writ (ab_st_len _ _ _) (fun p e Rm s m args below meth c dC dI cA A Q ad H locs cells slots ls hF hr1 hr2 hsz hS hW hD kk => by
      have e1 := ab_wd_nt ad cA h 0 a _ g1
      rw [Nat.zero_add] at e1
      have e4 := ab_wd_st ad cA h 0 a (.inl (1, q, upd f i.toNatClampNeg x))
      rw [Nat.zero_add] at e4
      rw [e4] at kk
      have e5 : vp_nar .boolean x = x := by rcases hC.2 with q | q <;> rw [q] <;> decide +kernel
      exact va_zast hF.1 hF.2.1 hF.2.2.2.2.2.2.1 hW hD hS a 1 e1 rfl hC.1 hd (by rw [e5]; exact kk)) hP
  | arraylength =>
    have hb : len = 1 := by simpa [ab_okd] using hb
    subst hb
    have hs : ab_len X S = some (S', C) := hs
    obtain ⟨pc, lv, r, h, x, rfl, rfl, rfl⟩ := ab_len_inv hs
    exact ab_pure (fun p e Rm s m args below meth c dC dI cA A Q ad H locs cells slots ls hF hr1 hr2 hl hX hS hW hc1 hc2 kk => by
      obtain ⟨x1, x2, x3⟩ := hX x rfl
      exact va_slen hF.1 hF.2.1 x1 x2 x3 hS hd (kk ls hl)) hP
  | invokestatic i =>
    simp only [ab_okd, Bool.and_eq_true, beq_iff_eq, decide_eq_true_eq] at hb
    subst hb
    by_cases h1 : a1 = 1
    · have hs : ab_cpy S = some (S', C) := by
        have := hs
        simp only [ab_step, if_pos h1] at this
        exact this
      obtain ⟨pc, lv, n9, dp, b, sp, a, r, h, n0, f, n1, g, rfl, g1, g2, rfl, rfl⟩ := ab_cpy_inv hs
      obtain ⟨q1, q2, q3, q4, q5, q6⟩ := hC
      exact ab_writ (ab_st_len _ _ _) (fun p e Rm s m args below meth c dC dI cA A Q ad H locs cells slots ls hF hr1 hr2 hsz hS hW hD kk => by
        have e1 := ab_wd_nt ad cA h 0 a _ g1
        have e2 := ab_wd_nt ad cA h 0 b _ g2
        rw [Nat.zero_add] at e1 e2
        have e4 := ab_wd_st ad cA h 0 b (.inl (0, n1, va_cpy f g sp.toNatClampNeg dp.toNatClampNeg n9.toNatClampNeg))
        rw [Nat.zero_add] at e4
        rw [e4] at kk
        have e6 := ab_cat_sum ad r
        have e7 : nativeFrameWords "java/lang/System" "arraycopy" 5 + 11 ≤ 56 := by decide +kernel
        exact va_copyi hF.1 hF.2.1 (hF.2.2.1.trans hsz.symm) hF.2.2.2.2.1 (hF.2.2.2.2.2.1 _ (hn.1 h1)) (hF.2.2.2.2.2.1 _ (ab_in (i := 434) rfl rfl)) (hF.2.2.2.2.2.1 _ (ab_in (i := 433) rfl rfl)) (hF.2.2.2.2.2.1 _ (ab_in (i := 69) rfl rfl)) hF.2.2.2.2.2.2.1 hW hD hS a b 0 0 e1 e2 rfl rfl rfl q1 q2 q3 q4 q5 (fun _ _ => rfl) (by omega) (by rw [e6]; omega) hd kk) hP
    · by_cases h2 : a1 = 2
      · have hs : ab_m2 (fun x y => if x < y then y else x) S = some (S', C) := by
          have := hs
          simp only [ab_step, if_neg h1, if_pos h2] at this
          exact this
        obtain ⟨pc, lv, y, x, r, h, rfl, rfl, rfl⟩ := ab_m2_inv hs
        exact ab_pure (fun p e Rm s m args below meth c dC dI cA A Q ad H locs cells slots ls hF hr1 hr2 hl hX hS hW hc1 hc2 kk => by
          have e6 := ab_cat_sum ad r
          exact va_mmax hF.1 hF.2.1 (hF.2.2.1.trans hl.1.symm) hF.2.2.2.2.1 (hF.2.2.2.2.2.1 _ (hn.2.1 h2)) (hF.2.2.2.2.2.1 _ (ab_in (i := 517) rfl rfl)) (hF.2.2.2.2.2.1 _ (ab_in (i := 68) rfl rfl)) (hF.2.2.2.2.2.1 _ (ab_in (i := 518) rfl rfl)) (by omega) (by rw [e6]; omega) hc1 hc2 hd (kk ls hl)) hP
      · by_cases h3 : a1 = 3
        · have hs : ab_m2 (fun x y => if y < x then y else x) S = some (S', C) := by
            have := hs
            simp only [ab_step, if_neg h1, if_neg h2, if_pos h3] at this
            exact this
          obtain ⟨pc, lv, y, x, r, h, rfl, rfl, rfl⟩ := ab_m2_inv hs
          exact ab_pure (fun p e Rm s m args below meth c dC dI cA A Q ad H locs cells slots ls hF hr1 hr2 hl hX hS hW hc1 hc2 kk => by
            have e6 := ab_cat_sum ad r
            exact va_mmin hF.1 hF.2.1 (hF.2.2.1.trans hl.1.symm) hF.2.2.2.2.1 (hF.2.2.2.2.2.1 _ (hn.2.2.1 h3)) (hF.2.2.2.2.2.1 _ (ab_in (i := 422) rfl rfl)) (hF.2.2.2.2.2.1 _ (ab_in (i := 68) rfl rfl)) (hF.2.2.2.2.2.1 _ (ab_in (i := 423) rfl rfl)) (by omega) (by rw [e6]; omega) hc1 hc2 hd (kk ls hl)) hP
        · by_cases h4 : a1 = 4
          · have hs : ab_m1 (fun x => if 0 ≤ x then x else 0 - x) S = some (S', C) := by
              have := hs
              simp only [ab_step, if_neg h1, if_neg h2, if_neg h3, if_pos h4] at this
              exact this
            obtain ⟨pc, lv, x, r, h, rfl, rfl, rfl⟩ := ab_m1_inv hs
            exact ab_pure (fun p e Rm s m args below meth c dC dI cA A Q ad H locs cells slots ls hF hr1 hr2 hl hX hS hW hc1 hc2 kk => by
              have e6 := ab_cat_sum ad r
              exact va_mabs hF.1 hF.2.1 (hF.2.2.1.trans hl.1.symm) hF.2.2.2.2.1 (hF.2.2.2.2.2.1 _ (hn.2.2.2 h4)) (hF.2.2.2.2.2.1 _ (ab_in (i := 760) rfl rfl)) (hF.2.2.2.2.2.1 _ (ab_in (i := 68) rfl rfl)) (hF.2.2.2.2.2.1 _ (ab_in (i := 761) rfl rfl)) (by omega) (by rw [e6]; omega) hc1 hc2 hd (kk ls hl)) hP
          · simp only [ab_step, if_neg h1, if_neg h2, if_neg h3, if_neg h4] at hs
            cases hs
  | invokespecial i =>
    simp only [ab_okd, Bool.and_eq_true, beq_iff_eq, decide_eq_true_eq] at hb
    subst hb
    by_cases h1 : a1 = 1
    · simp only [ab_step, if_pos h1] at hs
      split at hs
      · cases hs
        exact ab_pure (fun p e Rm s m args below meth c dC dI cA A Q ad H locs cells slots ls hF hr1 hr2 hl hX hS hW hc1 hc2 kk => by
          have e6 := ab_cat_sum ad
          refine W.objInit hF.1 hF.2.1 hF.2.2.2.2.1 (hF.2.2.2.2.2.1 _ (hn h1)) (hF.2.2.2.2.2.1 _ (ab_in (i := 77) rfl rfl)) (hF.2.2.2.2.2.1 _ ab_oi) rfl (by rw [hF.2.2.1]; exact hl.1) rfl hd (by omega) ?_ (kk ls hl)
          have := lv_room (m := m) (pc := 0) (ls := ls) (rest := []) (st := List.map (ab_r ad) _) (by rw [e6]; exact hC)
          have e8 : 2 * (F0 m 0 ls []).monitorRoom = 0 := by simp [JFrame.monitorRoom]
          simp only [JFrame.monitorRoom] at this ⊢
          omega) hP
      · cases hs
    · simp only [ab_step, if_neg h1] at hs
      cases hs
  | tableswitch df lo hi offs =>
    simp only [ab_okd, Bool.and_eq_true, decide_eq_true_eq, List.all_eq_true] at hb
    obtain ⟨⟨hb1, hb2⟩, hb3⟩ := hb
    simp only [ab_step] at hs
    split at hs
    · cases hs
      exact ab_pure (fun p e Rm s m args below meth c dC dI cA A Q ad H locs cells slots ls hF hr1 hr2 hl hX hS hW hc1 hc2 kk => by
        have kk := kk ls hl
        unfold ab_tsw at kk
        split at kk
        · next q => exact lv_tableOut hF.1 hF.2.1 hd q (by omega) kk
        · next q =>
          split at kk
          · next o ho => exact lv_tableIn hF.1 hF.2.1 hd (fun g => q (Or.inl g)) (fun g => q (Or.inr g)) ho (by have := hb3 o (List.mem_of_getElem? (by rw [Array.getElem?_toList]; exact ho)); omega) kk
          · next ho =>
            exfalso
            rw [Array.getElem?_eq_none_iff] at ho
            omega) hP
    · cases hs
  | lookupswitch df ps =>
    simp only [ab_okd] at hb
    simp only [ab_step] at hs
    split at hs
    · cases hs
      exact ab_pure (fun p e Rm s m args below meth c dC dI cA A Q ad H locs cells slots ls hF hr1 hr2 hl hX hS hW hc1 hc2 kk => lv_lookup hF.1 hF.2.1 hd hb rfl (by omega) (kk ls hl)) hP
    · cases hs
  | _ => cases hs
end
section
/-! calls, objects and arrays made, returns; then the whole -/
theorem ab_gd {ws : List Cond} (h : ∀ w ∈ ws, w ∈ ab_T) : GoodIn ab_T ws := fun w hw => ⟨h w hw, good_of_word (List.mem_filter.mp (h w hw)).2⟩
theorem ab_nw {w : Cond} (hw : w ∈ ab_U) {s U : State} (hW : s.WarmedH U.vm) (hZ : va_Nw w s) : va_Nw w U := by
  have h := (List.mem_filter.mp hw).2
  cases w with
  | fieldLinkNest => exact va_Nw.warmF hW hZ
  | methodLinkNest => exact va_Nw.warmM hW hZ
  | _ => cases h
theorem ab_nt2 {w : Cond} (hw : w ∈ ab_U) : w.onTables = true := by
  have h := (List.mem_filter.mp hw).2
  cases w with
  | fieldLinkNest => rfl
  | methodLinkNest => rfl
  | _ => cases h
abbrev ab_wy (M : MI) : List Cond := Cond.code M.1 M.2.1 M.2.2.1 M.2.2.2.1 :: ab_T
abbrev ab_rm (d k n : Nat) : Room := { frames := d + 1, cells := k, slots := n, locals := 64 * (d + 1) }
abbrev ab_Pr (dC : Nat → ClassId) (dI : Nat → Nat → Nat) (cA : Nat → ClassId) (ad : Nat → Nat) (sz : Nat) (As : List Value) (h : AH) : Array Value → State → Prop :=
  va_Pc (As.map (ab_r ad)) (fun U => U.heap.size = sz ∧ va_P (dC, dI) vwCl (ab_wd ad cA 0 h) U.heap ∧ va_K (dC, dI) vwCl [(cA 0, .int), (cA 1, .boolean)] U ∧ va_D (fun _ => True) (ab_wd ad cA 0 h) ∧ ∀ w ∈ ab_U, va_Nw w U)
abbrev ab_Bq (dC : Nat → ClassId) (dI : Nat → Nat → Nat) (cA : Nat → ClassId) (ad : Nat → Nat) (sz : Nat) (h h1 : AH) (ad' : Nat → Nat) (t : State) : Prop :=
  va_P (dC, dI) vwCl (ab_wd ad' cA 0 h1) t.heap ∧ va_K (dC, dI) vwCl [(cA 0, .int), (cA 1, .boolean)] t ∧ va_D (va_A (ab_wd ad cA 0 h) sz) (ab_wd ad' cA 0 h1)
theorem ab_metI {l : Launch} {d k n : Nat} {M : MI} {As : List Value} {h h1 : AH} {v : Int32} (hy : plainName M.1.cls = true) (hl : (lg_sl As).length ≤ M.2.2.1) (hP : ab_RP l none d k n M (0, ab_lz 0 As, [], h) (some (.int v), h1)) (dC : Nat → ClassId) (dI : Nat → Nat → Nat) (cA : Nat → ClassId) (ad : Nat → Nat) (sz : Nat) :
    Met l M.1 (ab_wy M) (ab_rm d k n) (ab_Pr dC dI cA ad sz As h) (va_Qi (fun (r : Int32) (ad' : Nat → Nat) => r = v ∧ ab_ag ad ad' h.length k) (ab_Bq dC dI cA ad sz h h1) (va_A (ab_wd ad cA 0 h) sz)) k n (va_A (ab_wd ad cA 0 h) sz) := by
  refine Met.ofW (cc := M.2.1) (maxL := M.2.2.1) (ret := M.2.2.2.1) hy rfl ?_
  intro p e s m args below meth c s₁ B hml hv
  obtain ⟨rfl, hsz, hP0, hK, hD0, hNs⟩ := hv
  have hts := atoms_spec (ws := ab_wy M) B.pre
  have hown := findClass_of_methodNamed B.named
  have hin := (name_of_methodNamed B.named B.method).1
  have hlocks := B.notSynchronized
  subst hsz
  have hD := hD0.self (sz := s.heap.size)
  have hl0 := lv_entry (As.map (ab_r ad)) (n := M.2.2.1) (by rw [ab_sl_len]; exact hl)
  rw [lg_entry_eq]
  generalize (lg_sl (As.map (ab_r ad)) ++ List.replicate (M.2.2.1 - (lg_sl (As.map (ab_r ad))).length) Slot.unset).toArray = ls at hl0 ⊢
  rw [ab_lz_args] at hl0
  refine hP p e (ab_rm d k n) s m _ below meth c dC dI cA _ k n _ ⟨B.exec, B.bytes, hml, fun q => hin.trans q, hown, fun w hw => hts w (List.mem_cons_of_mem _ hw), hK, fun q h => Or.inr h, hNs⟩ (Nat.le_refl _) (Nat.le_refl _) (Nat.le_refl _) (Nat.le_refl _) ad s.heap [] 0 0 ls (fun x h => by cases h) (by omega) (by omega) va_S.rf hP0 hD hl0 ?_
  intro ad' H' locs' cells' slots' pc' ls' i g hc1 hc2 hS hP' hD' hdec hrt
  refine W.widen hc1 hc2 ?_
  obtain ⟨rfl, hr⟩ := hrt
  rcases hr with hr | ⟨hr, hz⟩
  · exact W.iret (v := v) B.exec B.bytes (B.returns.trans hr) (fun t ht hW => ⟨⟨v, ad', rfl, ⟨rfl, g⟩, by rw [ht]; exact hP', va_K.moved hW.alike hK, hD'⟩, hS.F ht⟩) hS.2.2 hdec
  · exact W.zret (v := v) B.exec B.bytes (B.returns.trans hr) (by rcases hz with q | q <;> rw [q] <;> decide +kernel) (fun t ht hW => ⟨⟨v, ad', rfl, ⟨rfl, g⟩, by rw [ht]; exact hP', va_K.moved hW.alike hK, hD'⟩, hS.F ht⟩) hS.2.2 hdec
theorem ab_metV {l : Launch} {d k n : Nat} {M : MI} {As : List Value} {h h1 : AH} (hy : plainName M.1.cls = true) (hl : (lg_sl As).length ≤ M.2.2.1) (hP : ab_RP l none d k n M (0, ab_lz 0 As, [], h) (none, h1)) (dC : Nat → ClassId) (dI : Nat → Nat → Nat) (cA : Nat → ClassId) (ad : Nat → Nat) (sz : Nat) :
    Met l M.1 (ab_wy M) (ab_rm d k n) (ab_Pr dC dI cA ad sz As h) (va_Qv (fun (ad' : Nat → Nat) => ab_ag ad ad' h.length k) (ab_Bq dC dI cA ad sz h h1) (va_A (ab_wd ad cA 0 h) sz)) k n (va_A (ab_wd ad cA 0 h) sz) := by
  refine Met.ofW (cc := M.2.1) (maxL := M.2.2.1) (ret := M.2.2.2.1) hy rfl ?_
  intro p e s m args below meth c s₁ B hml hv
  obtain ⟨rfl, hsz, hP0, hK, hD0, hNs⟩ := hv
  have hts := atoms_spec (ws := ab_wy M) B.pre
  have hown := findClass_of_methodNamed B.named
  have hin := (name_of_methodNamed B.named B.method).1
  have hlocks := B.notSynchronized
  subst hsz
  have hD := hD0.self (sz := s.heap.size)
  have hl0 := lv_entry (As.map (ab_r ad)) (n := M.2.2.1) (by rw [ab_sl_len]; exact hl)
  rw [lg_entry_eq]
  generalize (lg_sl (As.map (ab_r ad)) ++ List.replicate (M.2.2.1 - (lg_sl (As.map (ab_r ad))).length) Slot.unset).toArray = ls at hl0 ⊢
  rw [ab_lz_args] at hl0
  refine hP p e (ab_rm d k n) s m _ below meth c dC dI cA _ k n _ ⟨B.exec, B.bytes, hml, fun q => hin.trans q, hown, fun w hw => hts w (List.mem_cons_of_mem _ hw), hK, fun q h => Or.inr h, hNs⟩ (Nat.le_refl _) (Nat.le_refl _) (Nat.le_refl _) (Nat.le_refl _) ad s.heap [] 0 0 ls (fun x h => by cases h) (by omega) (by omega) va_S.rf hP0 hD hl0 ?_
  intro ad' H' locs' cells' slots' pc' ls' i g hc1 hc2 hS hP' hD' hdec hrt
  refine W.widen hc1 hc2 ?_
  obtain ⟨rfl, hr⟩ := hrt
  exact W.vret B.exec B.bytes (B.returns.trans hr) (fun t ht hW => ⟨⟨ad', rfl, g, by rw [ht]; exact hP', va_K.moved hW.alike hK, hD'⟩, hS.F ht⟩) hS.2.2 hdec
theorem ab_blind {dC : Nat → ClassId} {dI : Nat → Nat → Nat} {cA : Nat → ClassId} {ad : Nat → Nat} {sz : Nat} {As : List Value} {h : AH} : FrameBlind (ab_Pr dC dI cA ad sz As h) := fun a U g mk q => by
  obtain ⟨q0, q1, qP, qK, qD, qN⟩ := q
  exact ⟨q0, q1, qP, va_K.moved (u := U) (U := U.calling g mk a) (Vm.Alike.refl U.vm) qK, qD, fun w hw => va_Nw.same (u := U) (U := U.calling g mk a) (ab_nt2 hw) rfl (qN w hw)⟩
/-- the frame behind a call -/
theorem ab_after {l : Launch} {X : AX} {d k k1 k2 n n1 n2 : Nat} {M : MI} {R : AR} {pc : Nat} {lv : List (Nat × Value)} {st1 rest : List Value} {h h1 : AH}
    (hk12 : k1 + k2 ≤ k) (hn12 : n1 + n2 ≤ n) (hlen : h.length ≤ h1.length) (hwf : k1 = 0 ∨ (ab_wl h.length lv = true ∧ ab_ws h.length rest = true))
    (hP : ab_RP l X d k2 n2 M (pc, lv, st1, h1) R)
    {p : Program} {e : Env} {Rm : Room} {s : State} {m : MethodId} {args : Array Value} {below : List Frame} {meth : Method} {c : Code} {dC : Nat → ClassId} {dI : Nat → Nat → Nat} {cA : Nat → ClassId} {A : Nat → Prop} {mc ms : Nat} {Q : State → Prop}
    (hF : ab_Fx p s m args meth c M dC dI cA A) (h1' : d + 1 ≤ Rm.frames) (h2 : 64 * (d + 1) ≤ Rm.locals) (h3 : mc ≤ Rm.cells) (h4 : ms ≤ Rm.slots)
    {ad ad1 : Nat → Nat} {H : Heap} {H1 : Heap} {locs1 : List Loc} {cells slots : Nat} {ls : Array Slot} (hX : ∀ x, X = some x → va_X (ad ab_scr) x.1 x.2 s s.heap ∧ ad ab_scr < s.heap.size ∧ ¬ A (ad ab_scr))
    (h5 : cells + k ≤ mc) (h6 : slots + n ≤ ms) (hl : lv_has ls M.2.2.1 (ab_rl ad lv))
    (hk : ∀ (ad' : Nat → Nat) (H' : Heap) (locs' : List Loc) (cells' slots' pc' : Nat) (ls' : Array Slot) (i : Instr), ab_ag ad ad' h.length k → cells' ≤ mc → slots' ≤ ms → va_S A s.heap H' locs' → va_P (dC, dI) vwCl (ab_wd ad' cA 0 R.2) H' → va_D A (ab_wd ad' cA 0 R.2) → decode M.2.1 pc' = .ok (i, 1) → ab_rt M i R.1 →
        W p l e Rm s m args below meth c H' locs' cells' slots' Q (F0 m pc' ls' (R.1.toList.map (ab_r ad'))))
    (g : ab_ag ad ad1 h.length k1) (hS1 : va_S A s.heap H1 locs1) (hP1 : va_P (dC, dI) vwCl (ab_wd ad1 cA 0 h1) H1) (hD1 : va_D (va_A (ab_wd ad cA 0 h) H.size) (ab_wd ad1 cA 0 h1)) (hFc : ∀ q, va_A (ab_wd ad cA 0 h) H.size q → A q) :
    W p l e Rm s m args below meth c H1 locs1 (cells + k1) (slots + n1) Q (F0 m pc ls (st1.map (ab_r ad1))) := by
  refine hP p e Rm s m args below meth c dC dI cA A mc ms Q hF h1' h2 h3 h4 ad1 H1 locs1 (cells + k1) (slots + n1) ls ?_ (by omega) (by omega) hS1 hP1 (hD1.weaken fun _ _ _ q => hFc _ q) ?_ ?_
  · intro x hx
    rw [g.2 ab_scr (Or.inr rfl)]
    exact hX x hx
  · show lv_has ls M.2.2.1 (ab_rl ad1 lv)
    rw [ab_ag_l g (hwf.imp id And.left)]
    exact hl
  · intro ad' H' locs' cells' slots' pc' ls' i g2 b1 b2 b3 b4 b5 b6 b7
    refine hk ad' H' locs' cells' slots' pc' ls' i ⟨fun hk0 => ?_, fun j hj => ?_⟩ b1 b2 b3 b4 b5 b6 b7
    · rw [g2.1 (by omega), g.1 (by omega)]
    · rw [g2.2 j (hj.imp (fun q => by show j < h1.length; omega) id), g.2 j hj]
theorem ab_fr {dC : Nat → ClassId} {dI : Nat → Nat → Nat} {A : Nat → Prop} {ws : va_W} {H0 H : Heap} {locs : List Loc} (hD : va_D A ws) (hS : va_S A H0 H locs) (hA : ∀ q, H0.size ≤ q → A q) : ∀ q, va_A ws H.size q → A q := by
  intro q hq
  rcases hq with ⟨k, e, h⟩ | h
  · exact hD.2 k _ h
  · exact hA q (Nat.le_trans hS.1 h)
set_option maxHeartbeats 1000000 in
theorem ab_callV {l : Launch} {X : AX} {d k n d1 k1 n1 k2 n2 : Nat} {M M' : MI} {R : AR} {pc : Nat} {lv : List (Nat × Value)} {As rest : List Value} {h h1 : AH} {v : Option Value} {e0 : AE} {idx ci a c0 : Nat} {f0 : List Value} (hok : ab_ok M) (hok' : ab_ok M') (hlk : ab_lk M.2.2.2.2 pc = some e0) (he0 : e0.1 = .invokevirtual idx) (hC : ab_CV M.1.cls idx ci M' As.length) (ha : ab_nt h a = some (.inr (c0, f0))) (hc0 : c0 = ci)
    (hsl : (lg_sl (Value.ref a :: As)).length ≤ M'.2.2.1) (hd1 : d1 + 1 ≤ d) (hk12 : k1 + k2 ≤ k) (hn12 : n1 + n2 ≤ n) (hcat : (rest.map fun v => v.category).sum ≤ 8) (hlen : h.length ≤ h1.length) (hwf : k1 = 0 ∨ (ab_wl h.length lv = true ∧ ab_ws h.length rest = true)) (hv : ab_vi v)
    (hP' : ab_RP l none d1 k1 n1 M' (0, ab_lz 0 (Value.ref a :: As), [], h) (v, h1)) (hP : ab_RP l X d k2 n2 M (pc + 3, lv, v.toList ++ rest, h1) R) : ab_RP l X d k n M (pc, lv, As.reverse ++ .ref a :: rest, h) R := by
  obtain ⟨hdc, hb, -⟩ := ab_ok_at hok hlk
  obtain ⟨ins, len, a1, a2, z, y⟩ := e0
  dsimp only at hdc hb he0
  subst he0
  have hb : len = 3 := by simpa [ab_okd] using hb
  subst hb
  subst hc0
  obtain ⟨⟨T, N, hcl⟩, hml, hin, hse, hini, hco, hm1, hm2, hpd, hpn⟩ := hC
  have hmx := hok'.1
  intro p e Rm s m args below meth c dC dI cA A mc ms Q hF h1' h2 h3 h4 ad H locs cells slots ls hX h5 h6 hS hW hD hl hk
  have hFc := ab_fr (dC := dC) (dI := dI) hD hS hF.2.2.2.2.2.2.2.1
  have e1 := ab_wd_nt ad cA h 0 a _ ha
  rw [Nat.zero_add] at e1
  have hts := hF.2.2.2.2.2.1
  have hcb : CallB Rm s args M.1.cls idx M'.1 M'.2.1 M'.2.2.1 M'.2.2.2.1 (ab_wy M') (ab_rm d1 k1 n1) k1 n1 As.length := callB_of _ hts (ab_gd (fun w hw => by
    rcases List.mem_cons.mp hw with q | q
    · rw [q]; exact hco
    · exact q)) rfl rfl rfl (hts _ hini) (hts _ hml) ⟨hm1, hm2, hpd⟩ ⟨by show d1 + 1 + 1 ≤ _; omega, by show 8 + (M'.2.2.1 + 11) + 64 * (d1 + 1) ≤ _; omega⟩
  have hpre : PreV s H M'.1.cls (ad a) (ab_Pr dC dI cA ad H.size (Value.ref a :: As) h) (As.map (ab_r ad)) := ⟨ab_blind, va_recv hF.2.2.2.2.2.2.1 hW hcl e1, fun U hU hWm => ⟨rfl, by rw [hU], by rw [hU]; exact hW, va_K.moved hWm.alike hF.2.2.2.2.2.2.1, hD.weaken (fun _ _ _ _ => trivial), fun w hw => ab_nw hw hWm (hF.2.2.2.2.2.2.2.2 w hw)⟩⟩
  have hst : ((As.reverse ++ .ref a :: rest).map (ab_r ad)) = (As.map (ab_r ad)).reverse ++ .ref (ad a) :: rest.map (ab_r ad) := by simp [ab_r]
  have hroom := lv_room (m := m) (pc := pc) (ls := ls) (rest := (As.map (ab_r ad)).reverse ++ .ref (ad a) :: rest.map (ab_r ad)) (st := rest.map (ab_r ad)) (by rw [ab_cat_sum]; exact hcat)
  show W p l e Rm s m args below meth c H locs cells slots Q (F0 m pc ls ((As.reverse ++ .ref a :: rest).map (ab_r ad)))
  rw [hst]
  match v, hv with
  | none, _ =>
    refine va_callv (va_runV (n := As.length) (As := As.map (ab_r ad)) (rest := rest.map (ab_r ad)) ⟨hF.1, hF.2.1, hF.2.2.1, hF.2.2.2.2.1, hts⟩ (ab_metV hpn hsl hP' dC dI cA ad H.size) ⟨hcb, hts _ hin, hts _ hse⟩ hpre rfl (by simp) hl.1 rfl hroom hdc ⟨by omega, by omega⟩) hS (fun q _ h => hFc q h) hFc (fun ad1 t H1 locs1 ht hvm hw hB hz1 hk1 hS1 => ?_)
    obtain ⟨hP1, hK1, hD1⟩ := hB
    rw [ht] at hP1
    have := ab_after (st1 := rest) hk12 hn12 hlen hwf hP hF h1' h2 h3 h4 hX h5 h6 hl hk hw hS1 hP1 hD1 hFc
    rw [ab_ag_s hw (hwf.imp id And.right)] at this
    exact this
  | some (.int r), _ =>
    refine va_calli (va_runV (n := As.length) (As := As.map (ab_r ad)) (rest := rest.map (ab_r ad)) ⟨hF.1, hF.2.1, hF.2.2.1, hF.2.2.2.2.1, hts⟩ (ab_metI hpn hsl hP' dC dI cA ad H.size) ⟨hcb, hts _ hin, hts _ hse⟩ hpre rfl (by simp) hl.1 rfl hroom hdc ⟨by omega, by omega⟩) hS (fun q _ h => hFc q h) hFc (fun r1 ad1 t H1 locs1 ht hvm hw hB hz1 hk1 hS1 => ?_)
    obtain ⟨hP1, hK1, hD1⟩ := hB
    obtain ⟨rfl, g⟩ := hw
    rw [ht] at hP1
    have := ab_after (st1 := .int r1 :: rest) hk12 hn12 hlen hwf hP hF h1' h2 h3 h4 hX h5 h6 hl hk g hS1 hP1 hD1 hFc
    rw [List.map_cons, ab_ag_s g (hwf.imp id And.right)] at this
    exact this
set_option maxHeartbeats 1000000 in
theorem ab_callS {l : Launch} {X : AX} {d k n d1 k1 n1 k2 n2 : Nat} {M M' : MI} {R : AR} {pc : Nat} {lv : List (Nat × Value)} {As rest : List Value} {h h1 : AH} {v : Option Value} {e0 : AE} {idx : Nat} (hok : ab_ok M) (hok' : ab_ok M') (hlk : ab_lk M.2.2.2.2 pc = some e0) (he0 : e0.1 = .invokestatic idx) (hC : ab_CS M.1.cls idx M' As.length)
    (hsl : (lg_sl As).length ≤ M'.2.2.1) (hd1 : d1 + 1 ≤ d) (hk12 : k1 + k2 ≤ k) (hn12 : n1 + n2 ≤ n) (hcat : (rest.map fun v => v.category).sum ≤ 8) (hlen : h.length ≤ h1.length) (hwf : k1 = 0 ∨ (ab_wl h.length lv = true ∧ ab_ws h.length rest = true)) (hv : ab_vi v)
    (hP' : ab_RP l none d1 k1 n1 M' (0, ab_lz 0 As, [], h) (v, h1)) (hP : ab_RP l X d k2 n2 M (pc + 3, lv, v.toList ++ rest, h1) R) : ab_RP l X d k n M (pc, lv, As.reverse ++ rest, h) R := by
  obtain ⟨hdc, hb, -⟩ := ab_ok_at hok hlk
  obtain ⟨ins, len, a1, a2, z, y⟩ := e0
  dsimp only at hdc hb he0
  subst he0
  have hb : len = 3 := by simpa [ab_okd] using hb
  subst hb
  obtain ⟨hml, hin, hini, hco, hm1, hm2, hpd, hpn⟩ := hC
  have hmx := hok'.1
  intro p e Rm s m args below meth c dC dI cA A mc ms Q hF h1' h2 h3 h4 ad H locs cells slots ls hX h5 h6 hS hW hD hl hk
  have hFc := ab_fr (dC := dC) (dI := dI) hD hS hF.2.2.2.2.2.2.2.1
  have hts := hF.2.2.2.2.2.1
  have hcb : CallB Rm s args M.1.cls idx M'.1 M'.2.1 M'.2.2.1 M'.2.2.2.1 (ab_wy M') (ab_rm d1 k1 n1) k1 n1 As.length := callB_of _ hts (ab_gd (fun w hw => by
    rcases List.mem_cons.mp hw with q | q
    · rw [q]; exact hco
    · exact q)) rfl rfl rfl (hts _ hini) (hts _ hml) ⟨hm1, hm2, hpd⟩ ⟨by show d1 + 1 + 1 ≤ _; omega, by show 8 + (M'.2.2.1 + 11) + 64 * (d1 + 1) ≤ _; omega⟩
  have hpre : PreS s H (ab_Pr dC dI cA ad H.size As h) (As.map (ab_r ad)) := ⟨ab_blind, fun U hU hWm => ⟨rfl, by rw [hU], by rw [hU]; exact hW, va_K.moved hWm.alike hF.2.2.2.2.2.2.1, hD.weaken (fun _ _ _ _ => trivial), fun w hw => ab_nw hw hWm (hF.2.2.2.2.2.2.2.2 w hw)⟩⟩
  have hst : ((As.reverse ++ rest).map (ab_r ad)) = (As.map (ab_r ad)).reverse ++ rest.map (ab_r ad) := by simp
  have hroom := lv_room (m := m) (pc := pc) (ls := ls) (rest := (As.map (ab_r ad)).reverse ++ rest.map (ab_r ad)) (st := rest.map (ab_r ad)) (by rw [ab_cat_sum]; exact hcat)
  show W p l e Rm s m args below meth c H locs cells slots Q (F0 m pc ls ((As.reverse ++ rest).map (ab_r ad)))
  rw [hst]
  match v, hv with
  | none, _ =>
    refine va_callv (va_runS (n := As.length) (As := As.map (ab_r ad)) (rest := rest.map (ab_r ad)) ⟨hF.1, hF.2.1, hF.2.2.1, hF.2.2.2.2.1, hts⟩ (ab_metV hpn hsl hP' dC dI cA ad H.size) ⟨hcb, hts _ hin⟩ hpre rfl (by simp) hl.1 rfl hroom hdc ⟨by omega, by omega⟩) hS (fun q _ h => hFc q h) hFc (fun ad1 t H1 locs1 ht hvm hw hB hz1 hk1 hS1 => ?_)
    obtain ⟨hP1, hK1, hD1⟩ := hB
    rw [ht] at hP1
    have := ab_after (st1 := rest) hk12 hn12 hlen hwf hP hF h1' h2 h3 h4 hX h5 h6 hl hk hw hS1 hP1 hD1 hFc
    rw [ab_ag_s hw (hwf.imp id And.right)] at this
    exact this
  | some (.int r), _ =>
    refine va_calli (va_runS (n := As.length) (As := As.map (ab_r ad)) (rest := rest.map (ab_r ad)) ⟨hF.1, hF.2.1, hF.2.2.1, hF.2.2.2.2.1, hts⟩ (ab_metI hpn hsl hP' dC dI cA ad H.size) ⟨hcb, hts _ hin⟩ hpre rfl (by simp) hl.1 rfl hroom hdc ⟨by omega, by omega⟩) hS (fun q _ h => hFc q h) hFc (fun r1 ad1 t H1 locs1 ht hvm hw hB hz1 hk1 hS1 => ?_)
    obtain ⟨hP1, hK1, hD1⟩ := hB
    obtain ⟨rfl, g⟩ := hw
    rw [ht] at hP1
    have := ab_after (st1 := .int r1 :: rest) hk12 hn12 hlen hwf hP hF h1' h2 h3 h4 hX h5 h6 hl hk g hS1 hP1 hD1 hFc
    rw [List.map_cons, ab_ag_s g (hwf.imp id And.right)] at this
    exact this
set_option maxHeartbeats 1000000 in
theorem ab_callI {l : Launch} {X : AX} {d k n d1 k1 n1 k2 n2 : Nat} {M M' : MI} {R : AR} {pc : Nat} {lv : List (Nat × Value)} {As rest : List Value} {h h1 : AH} {e0 : AE} {idx a : Nat} (hok : ab_ok M) (hok' : ab_ok M') (hlk : ab_lk M.2.2.2.2 pc = some e0) (he0 : e0.1 = .invokespecial idx) (hC : ab_CI M.1.cls idx M' As.length)
    (hsl : (lg_sl (Value.ref a :: As)).length ≤ M'.2.2.1) (hd1 : d1 + 1 ≤ d) (hk12 : k1 + k2 ≤ k) (hn12 : n1 + n2 ≤ n) (hcat : (rest.map fun v => v.category).sum ≤ 8) (hlen : h.length ≤ h1.length) (hwf : k1 = 0 ∨ (ab_wl h.length lv = true ∧ ab_ws h.length rest = true))
    (hP' : ab_RP l none d1 k1 n1 M' (0, ab_lz 0 (Value.ref a :: As), [], h) (none, h1)) (hP : ab_RP l X d k2 n2 M (pc + 3, lv, rest, h1) R) : ab_RP l X d k n M (pc, lv, As.reverse ++ .ref a :: rest, h) R := by
  obtain ⟨hdc, hb, -⟩ := ab_ok_at hok hlk
  obtain ⟨ins, len, a1, a2, z, y⟩ := e0
  dsimp only at hdc hb he0
  subst he0
  have hb : len = 3 := by simpa [ab_okd] using hb
  subst hb
  obtain ⟨hml, hin, hnm, hrn, hini, hco, hm1, hm2, hpd, hpn⟩ := hC
  have hmx := hok'.1
  intro p e Rm s m args below meth c dC dI cA A mc ms Q hF h1' h2 h3 h4 ad H locs cells slots ls hX h5 h6 hS hW hD hl hk
  have hFc := ab_fr (dC := dC) (dI := dI) hD hS hF.2.2.2.2.2.2.2.1
  have hts := hF.2.2.2.2.2.1
  have hgd : GoodIn ab_T (ab_wy M') := ab_gd (fun w hw => by
    rcases List.mem_cons.mp hw with q | q
    · rw [q]; exact hco
    · exact q)
  have hR : (ab_rm d1 k1 n1).frames + 1 ≤ Rm.frames ∧ 8 + (M'.2.2.1 + 11) + (ab_rm d1 k1 n1).locals ≤ Rm.locals := ⟨by show d1 + 1 + 1 ≤ _; omega, by show 8 + (M'.2.2.1 + 11) + 64 * (d1 + 1) ≤ _; omega⟩
  have hpre : PreS s H (ab_Pr dC dI cA ad H.size (Value.ref a :: As) h) (.ref (ad a) :: As.map (ab_r ad)) := ⟨ab_blind, fun U hU hWm => ⟨rfl, by rw [hU], by rw [hU]; exact hW, va_K.moved hWm.alike hF.2.2.2.2.2.2.1, hD.weaken (fun _ _ _ _ => trivial), fun w hw => ab_nw hw hWm (hF.2.2.2.2.2.2.2.2 w hw)⟩⟩
  have hst : ((As.reverse ++ .ref a :: rest).map (ab_r ad)) = (As.map (ab_r ad)).reverse ++ .ref (ad a) :: rest.map (ab_r ad) := by simp [ab_r]
  have hroom := lv_room (m := m) (pc := pc) (ls := ls) (rest := (As.map (ab_r ad)).reverse ++ .ref (ad a) :: rest.map (ab_r ad)) (st := rest.map (ab_r ad)) (by rw [ab_cat_sum]; exact hcat)
  show W p l e Rm s m args below meth c H locs cells slots Q (F0 m pc ls ((As.reverse ++ .ref a :: rest).map (ab_r ad)))
  rw [hst]
  have hret : va_Run p l e Rm s m args below meth c H locs cells slots k1 n1 (F0 m pc ls ((As.map (ab_r ad)).reverse ++ .ref (ad a) :: rest.map (ab_r ad))) (rest.map (ab_r ad)) (va_Qv (fun (ad' : Nat → Nat) => ab_ag ad ad' h.length k1) (ab_Bq dC dI cA ad H.size h h1) (va_A (ab_wd ad cA 0 h) H.size) (Value.ref (ad a) :: As.map (ab_r ad)).toArray) (va_A (ab_wd ad cA 0 h) H.size) := by
    rcases hml with hml | ⟨host, hml⟩
    · have hcb : CallB Rm s args M.1.cls idx M'.1 M'.2.1 M'.2.2.1 M'.2.2.2.1 (ab_wy M') (ab_rm d1 k1 n1) k1 n1 As.length := callB_of _ hts hgd rfl rfl rfl (hts _ hini) (hts _ hml) ⟨hm1, hm2, hpd⟩ hR
      rw [hrn] at hcb
      exact va_runI (n := As.length) (As := As.map (ab_r ad)) (rest := rest.map (ab_r ad)) ⟨hF.1, hF.2.1, hF.2.2.1, hF.2.2.2.2.1, hts⟩ (ab_metV hpn hsl hP' dC dI cA ad H.size) ⟨hcb, hnm, hts _ hin⟩ hpre rfl (by simp) hl.1 rfl hroom hdc ⟨by omega, by omega⟩
    · have hcb : va_CN Rm s args M.1.cls idx M'.1 host M'.2.1 M'.2.2.1 M'.2.2.2.1 (ab_wy M') (ab_rm d1 k1 n1) k1 n1 As.length := va_cnB _ hts hgd rfl rfl rfl (hF.2.2.2.2.2.2.2.2 _ hml) (hts _ hini) ⟨hm1, hm2, hpd⟩ hR
      rw [hrn] at hcb
      exact va_runIN (n := As.length) (As := As.map (ab_r ad)) (rest := rest.map (ab_r ad)) ⟨hF.1, hF.2.1, hF.2.2.1, hF.2.2.2.2.1, hts⟩ (ab_metV hpn hsl hP' dC dI cA ad H.size) ⟨hcb, hnm, hts _ hin⟩ hpre rfl (by simp) hl.1 rfl hroom hdc ⟨by omega, by omega⟩
  refine va_callv hret hS (fun q _ h => hFc q h) hFc (fun ad1 t H1 locs1 ht hvm hw hB hz1 hk1 hS1 => ?_)
  obtain ⟨hP1, hK1, hD1⟩ := hB
  rw [ht] at hP1
  have := ab_after (st1 := rest) hk12 hn12 hlen hwf hP hF h1' h2 h3 h4 hX h5 h6 hl hk hw hS1 hP1 hD1 hFc
  rw [ab_ag_s hw (hwf.imp id And.right)] at this
  exact this
/-- a new address for the next cell -/
theorem ab_grow {l : Launch} {X : AX} {d k n k2 n2 N : Nat} {M : MI} {R : AR} {pc pc' : Nat} {lv : List (Nat × Value)} {st : List Value} {h : AH} {cel : AC} (hwf : ab_wf (pc, lv, st, h) = true) (hk2 : k2 + 1 ≤ k) (hn2 : n2 + N ≤ n)
    (hP : ab_RP l X d k2 n2 M (pc', lv, .ref h.length :: st, h ++ [cel]) R)
    {p : Program} {e : Env} {Rm : Room} {s : State} {m : MethodId} {args : Array Value} {below : List Frame} {meth : Method} {c : Code} {dC : Nat → ClassId} {dI : Nat → Nat → Nat} {cA : Nat → ClassId} {A : Nat → Prop} {mc ms : Nat} {Q : State → Prop}
    (hF : ab_Fx p s m args meth c M dC dI cA A) (h1' : d + 1 ≤ Rm.frames) (h2 : 64 * (d + 1) ≤ Rm.locals) (h3 : mc ≤ Rm.cells) (h4 : ms ≤ Rm.slots)
    {ad : Nat → Nat} {H1 : Heap} {locs : List Loc} {cells slots : Nat} {ls : Array Slot} (hX : ∀ x, X = some x → va_X (ad ab_scr) x.1 x.2 s s.heap ∧ ad ab_scr < s.heap.size ∧ ¬ A (ad ab_scr))
    (h5 : cells + k ≤ mc) (h6 : slots + n ≤ ms) (hl : lv_has ls M.2.2.1 (ab_rl ad lv))
    (hk : ∀ (ad' : Nat → Nat) (H' : Heap) (locs' : List Loc) (cells' slots' pc' : Nat) (ls' : Array Slot) (i : Instr), ab_ag ad ad' h.length k → cells' ≤ mc → slots' ≤ ms → va_S A s.heap H' locs' → va_P (dC, dI) vwCl (ab_wd ad' cA 0 R.2) H' → va_D A (ab_wd ad' cA 0 R.2) → decode M.2.1 pc' = .ok (i, 1) → ab_rt M i R.1 →
        W p l e Rm s m args below meth c H' locs' cells' slots' Q (F0 m pc' ls' (R.1.toList.map (ab_r ad'))))
    (q : Nat) (hcel : ab_rz (fun j => if j = h.length then q else ad j) cA cel = ab_rz ad cA cel) (hS1 : va_S A s.heap H1 locs) (hP1 : va_P (dC, dI) vwCl (ab_wd ad cA 0 h ++ [(q, ab_rz ad cA cel)]) H1) (hD1 : va_D A (ab_wd ad cA 0 h ++ [(q, ab_rz ad cA cel)])) :
    W p l e Rm s m args below meth c H1 locs (cells + 1) (slots + N) Q (F0 m pc' ls (.ref q :: st.map (ab_r ad))) := by
  simp only [ab_wf, Bool.and_eq_true, decide_eq_true_eq] at hwf
  obtain ⟨⟨⟨w1, w2⟩, w3⟩, w4⟩ := hwf
  have hag : ab_ag ad (fun j => if j = h.length then q else ad j) h.length 1 := by
    refine ⟨fun z => absurd z (by decide), fun i hi => if_neg ?_⟩
    rcases hi with z | z
    · omega
    · rw [z]; unfold ab_scr; omega
  have ew : ab_wd (fun j => if j = h.length then q else ad j) cA 0 (h ++ [cel]) = ab_wd ad cA 0 h ++ [(q, ab_rz ad cA cel)] := by
    rw [ab_wd_app, ab_ag_h cA hag h 0 (by omega) w4, hcel, Nat.zero_add]
    simp
  have es : (Value.ref h.length :: st).map (ab_r (fun j => if j = h.length then q else ad j)) = .ref q :: st.map (ab_r ad) := by
    rw [List.map_cons, ab_ag_s hag (Or.inr w3)]
    simp [ab_r]
  have := hP p e Rm s m args below meth c dC dI cA A mc ms Q hF h1' h2 h3 h4 (fun j => if j = h.length then q else ad j) H1 locs (cells + 1) (slots + N) ls (fun x hx => by
    have := hX x hx
    rw [← hag.2 ab_scr (Or.inr rfl)] at this
    exact this) (by omega) (by omega) hS1 (by show va_P _ _ (ab_wd _ cA 0 (h ++ [cel])) _; rw [ew]; exact hP1) (by show va_D _ (ab_wd _ cA 0 (h ++ [cel])); rw [ew]; exact hD1) (by show lv_has ls M.2.2.1 (ab_rl _ lv); rw [ab_ag_l hag (Or.inr w2)]; exact hl) (by
      intro ad' H' locs' cells' slots' pc' ls' i g2 b1 b2 b3 b4 b5 b6 b7
      refine hk ad' H' locs' cells' slots' pc' ls' i ⟨fun hk0 => by omega, fun j hj => ?_⟩ b1 b2 b3 b4 b5 b6 b7
      rw [g2.2 j (hj.imp (fun z => by show j < (h ++ [cel]).length; rw [List.length_append]; omega) id), hag.2 j hj])
  have e9 : (F0 m pc' ls ((Value.ref h.length :: st).map (ab_r (fun j => if j = h.length then q else ad j)))) = F0 m pc' ls (.ref q :: st.map (ab_r ad)) := by rw [es]
  rw [← e9]
  exact this
theorem ab_new {l : Launch} {X : AX} {d k n k2 n2 : Nat} {M : MI} {R : AR} {pc : Nat} {lv : List (Nat × Value)} {st : List Value} {h : AH} {e0 : AE} {idx ci N : Nat} {fs : List Value} (hok : ab_ok M) (hlk : ab_lk M.2.2.2.2 pc = some e0) (he0 : e0.1 = .new idx) (hN : ab_N M.1.cls idx ci N fs) (hwf : ab_wf (pc, lv, st, h) = true) (hk2 : k2 + 1 ≤ k) (hn2 : n2 + N ≤ n)
    (hP : ab_RP l X d k2 n2 M (pc + 3, lv, .ref h.length :: st, h ++ [.inr (ci, fs)]) R) : ab_RP l X d k n M (pc, lv, st, h) R := by
  obtain ⟨hdc, hb, -⟩ := ab_ok_at hok hlk
  obtain ⟨ins, len, a1, a2, z, y⟩ := e0
  dsimp only at hdc hb he0
  subst he0
  have hb : len = 3 := by simpa [ab_okd] using hb
  subst hb
  obtain ⟨C, T, ty, hcl, hin, hty, hl1, hl2, hl3, hdf, hnr⟩ := hN
  intro p e Rm s m args below meth c dC dI cA A mc ms Q hF h1' h2 h3 h4 ad H locs cells slots ls hX h5 h6 hS hW hD hl hk
  have hts := hF.2.2.2.2.2.1
  have efs : fs.map (ab_r ad) = fs := by
    rw [List.map_congr_left (g := id) (fun v hv => by cases v with
      | ref a => exact absurd rfl (hnr _ hv a)
      | _ => rfl), List.map_id]
  have efs2 : ∀ ad2 : Nat → Nat, fs.map (ab_r ad2) = fs := fun ad2 => by
    rw [List.map_congr_left (g := id) (fun v hv => by cases v with
      | ref a => exact absurd rfl (hnr _ hv a)
      | _ => rfl), List.map_id]
  refine va_new (ci := ci) (fs := fs) (C := C) (T := T) (N := N) hF.1 hF.2.1 hts hin ty hty hF.2.2.2.2.1 (hts _ hl1) (hts _ hl2) (hts _ hl3) hF.2.2.2.2.2.2.1 hW hD hS hF.2.2.2.2.2.2.2.1 hcl hdf (by omega) (by omega) hdc (fun q H1 hP1 hD1 hS1 => ?_)
  refine ab_grow (cel := .inr (ci, fs)) hwf hk2 hn2 hP hF h1' h2 h3 h4 hX h5 h6 hl hk q (by simp only [ab_rz, efs2]) hS1 ?_ ?_
  · simp only [ab_rz, efs]; exact hP1
  · simp only [ab_rz, efs]; exact hD1
set_option maxRecDepth 20000 in
theorem ab_newa {l : Launch} {X : AX} {d k n k2 n2 : Nat} {M : MI} {R : AR} {pc : Nat} {lv : List (Nat × Value)} {st : List Value} {h : AH} {e0 : AE} {t N : Nat} {ty : ArrayType} {x : Int32} (hok : ab_ok M) (hlk : ab_lk M.2.2.2.2 pc = some e0) (he0 : e0.1 = .newarray ty) (hT : (ty = .int ∧ t = 0) ∨ (ty = .boolean ∧ t = 1)) (hwf : ab_wf (pc, lv, st, h) = true) (hx0 : ¬ x < 0) (hxN : x.toNatClampNeg = N) (hN : N ≤ 1000) (hk2 : k2 + 1 ≤ k) (hn2 : n2 + N ≤ n)
    (hP : ab_RP l X d k2 n2 M (pc + 2, lv, .ref h.length :: st, h ++ [.inl (t, N, fun _ => 0)]) R) : ab_RP l X d k n M (pc, lv, .int x :: st, h) R := by
  obtain ⟨hdc, hb, -⟩ := ab_ok_at hok hlk
  obtain ⟨ins, len, a1, a2, z, y⟩ := e0
  dsimp only at hdc hb he0
  subst he0
  have hb : len = 2 := by simpa [ab_okd] using hb
  subst hb
  intro p e Rm s m args below meth c dC dI cA A mc ms Q hF h1' h2 h3 h4 ad H locs cells slots ls hX h5 h6 hS hW hD hl hk
  have hts := hF.2.2.2.2.2.1
  have hK := hF.2.2.2.2.2.2.1
  rcases hT with ⟨rfl, rfl⟩ | ⟨rfl, rfl⟩
  · refine va_newa (ty := .int) (a0 := (N, .inl fun _ => 0)) hF.1 hF.2.1 (hts _ (ab_in (i := 99) rfl rfl)) rfl hK hW hD hS hF.2.2.2.2.2.2.2.1 (fun _ => rfl) hx0 hxN (by show N * 4 ≤ 536870912; omega) (by omega) (by omega) hdc (fun q cB H1 hK1 hP1 hD1 hS1 => ?_)
    have f1 := (hK.2 0 _ rfl).2
    have f2 := (hK1.2 2 _ rfl).2
    have f3 : cB = cA 0 := Option.some.inj ((show s.vm.findClass _ = some cB from f2).symm.trans f1)
    subst f3
    exact ab_grow (cel := .inl (0, N, fun _ => 0)) hwf hk2 hn2 hP hF h1' h2 h3 h4 hX h5 h6 hl hk q rfl hS1 hP1 hD1
  · refine va_newa (ty := .boolean) (a0 := (N, .inl fun _ => 0)) hF.1 hF.2.1 (hts _ (ab_in (i := 1024) rfl rfl)) rfl hK hW hD hS hF.2.2.2.2.2.2.2.1 (fun _ => rfl) hx0 hxN (by show N * 1 ≤ 536870912; omega) (by omega) (by omega) hdc (fun q cB H1 hK1 hP1 hD1 hS1 => ?_)
    have f1 := (hK.2 1 _ rfl).2
    have f2 := (hK1.2 2 _ rfl).2
    have f3 : cB = cA 1 := Option.some.inj ((show s.vm.findClass _ = some cB from f2).symm.trans f1)
    subst f3
    exact ab_grow (cel := .inl (1, N, fun _ => 0)) hwf hk2 hn2 hP hF h1' h2 h3 h4 hX h5 h6 hl hk q rfl hS1 hP1 hD1
theorem ab_ret {l : Launch} {X : AX} {d k n : Nat} {M : MI} {pc : Nat} {lv : List (Nat × Value)} {v : Option Value} {h : AH} {e0 : AE} (hok : ab_ok M) (hlk : ab_lk M.2.2.2.2 pc = some e0) (hrt : ab_rt M e0.1 v) : ab_RP l X d k n M (pc, lv, v.toList, h) (v, h) := by
  obtain ⟨hdc, hb, -⟩ := ab_ok_at hok hlk
  intro p e Rm s m args below meth c dC dI cA A mc ms Q hF h1' h2 h3 h4 ad H locs cells slots ls hX h5 h6 hS hW hD hl hk
  have hb1 : e0.2.1 = 1 := by
    unfold ab_okd at hb
    match v, hrt with
    | none, hrt => rw [hrt.1] at hb; simpa using hb
    | some (.int x), hrt => rw [hrt.1] at hb; simpa using hb
  rw [hb1] at hdc
  exact hk ad H locs cells slots pc ls e0.1 (ab_ag.rf _ _ _) (by omega) (by omega) hS hW hD hdc hrt
theorem ab_pick {l : Launch} {X : AX} {d k n : Nat} {M : MI} {R : AR} {pc : Nat} {lv lv' : List (Nat × Value)} {st : List Value} {h : AH} {ks : List Nat} (hp : lv_pick lv ks = lv') (hP : ab_RP l X d k n M (pc, lv', st, h) R) : ab_RP l X d k n M (pc, lv, st, h) R := by
  intro p e Rm s m args below meth c dC dI cA A mc ms Q hF h1' h2 h3 h4 ad H locs cells slots ls hX h5 h6 hS hW hD hl hk
  refine hP p e Rm s m args below meth c dC dI cA A mc ms Q hF h1' h2 h3 h4 ad H locs cells slots ls hX h5 h6 hS hW hD ⟨hl.1, hl.2.1, fun q hq => hl.2.2 q ?_⟩ hk
  obtain ⟨q0, hq0, e0⟩ := List.mem_map.mp hq
  rw [← hp] at hq0
  obtain ⟨i, -, hi⟩ := List.mem_filterMap.mp hq0
  exact List.mem_map.mpr ⟨q0, List.mem_of_getElem? hi, e0⟩
/-- THE ABSTRACT MACHINE IS SOUND -/
theorem ab_sound (l : Launch) : ab_Cl (ab_RP l) := by
  refine ⟨?_, ?_, ?_, ?_, ?_, ?_, ?_, ?_⟩
  · intro X d k n M S R e S' C h1 h2 h3 h4 h5
    exact ab_s1 h1 h2 h3 h4 h5
  · intro X d k n M pc lv v h e h1 h2 h3
    exact ab_ret h1 h2 h3
  · intro X d k n d1 k1 n1 k2 n2 M M' R pc lv As rest h h1 v e idx ci a c0 f0 a1 a2 a3 a4 a5 a6 a7 a8 a9 b1 b2 b3 b4 b5 b6 b7 b8
    exact ab_callV a1 a2 a3 a4 a5 a6 a7 a8 a9 b1 b2 b3 b4 b5 b6 b7 b8
  · intro X d k n d1 k1 n1 k2 n2 M M' R pc lv As rest h h1 v e idx a1 a2 a3 a4 a5 a6 a7 a8 a9 b1 b2 b3 b4 b5 b6
    exact ab_callS a1 a2 a3 a4 a5 a6 a7 a8 a9 b1 b2 b3 b4 b5 b6
  · intro X d k n d1 k1 n1 k2 n2 M M' R pc lv As rest h h1 e idx a a1 a2 a3 a4 a5 a6 a7 a8 a9 b1 b2 b3 b4 b5
    exact ab_callI a1 a2 a3 a4 a5 a6 a7 a8 a9 b1 b2 b3 b4 b5
  · intro X d k n k2 n2 M R pc lv st h e idx ci N fs a1 a2 a3 a4 a5 a6 a7 a8
    exact ab_new a1 a2 a3 a4 a5 a6 a7 a8
  · intro X d k n k2 n2 M R pc lv st h e t ty N x a1 a2 a3 a4 a5 a6 a7 a8 a9 b1 b2
    exact ab_newa a1 a2 a3 a4 a5 a6 a7 a8 a9 b1 b2
  · intro X d k n M R pc lv lv' st h ks a1 a2
    exact ab_pick a1 a2
theorem ab_real (l : Launch) {X : AX} {d k n : Nat} {M : MI} {S : AS} {R : AR} (h : ab_E X d k n M S R) : ab_RP l X d k n M S R := h _ (ab_sound l)
end
section
/-! words of classes, fields and calls (by program) -/
theorem ab_inl {ws : List Cond} {ps : List Nat} (h : ws = ps.filterMap (fun i => lw_tbl[i]?)) (g : ws.all goodWord = true) : ∀ w ∈ ws, w ∈ ab_T := by
  intro w hw
  have g1 := List.all_eq_true.mp g w hw
  rw [h] at hw
  obtain ⟨i, -, hi⟩ := List.mem_filterMap.mp hw
  exact ab_in hi g1
theorem uw_0 : ∀ w ∈ u_ws RX0 TX0 8, w ∈ ab_T := ab_inl (ps := [280, 282, 284, 286, 288, 290, 292, 294]) (by decide +kernel) (by decide +kernel)
theorem uw_1 : ∀ w ∈ u_ws RX1 TX1 4, w ∈ ab_T := ab_inl (ps := [323, 325, 327, 329]) (by decide +kernel) (by decide +kernel)
theorem uw_2 : ∀ w ∈ u_ws RX2 TX2 2, w ∈ ab_T := ab_inl (ps := [94, 96]) (by decide +kernel) (by decide +kernel)
theorem uw_3 : ∀ w ∈ u_ws RX3 TX3 6, w ∈ ab_T := ab_inl (ps := [251, 253, 255, 257, 259, 261]) (by decide +kernel) (by decide +kernel)
theorem uw_4 : ∀ w ∈ u_ws RX4 TX4 5, w ∈ ab_T := ab_inl (ps := [226, 228, 230, 232, 234]) (by decide +kernel) (by decide +kernel)
theorem uw_5 : ∀ w ∈ u_ws RX5 TX5 13, w ∈ ab_T := ab_inl (ps := [148, 150, 152, 154, 156, 158, 160, 162, 164, 166, 168, 170, 172]) (by decide +kernel) (by decide +kernel)
theorem uw_6 : ∀ w ∈ u_ws RX6 TX6 7, w ∈ ab_T := ab_inl (ps := [186, 188, 190, 192, 194, 196, 198]) (by decide +kernel) (by decide +kernel)
theorem uw_7 : ∀ w ∈ u_ws RX7 TX7 2, w ∈ ab_T := ab_inl (ps := [307, 309]) (by decide +kernel) (by decide +kernel)
theorem uw_8 : ∀ w ∈ u_ws RX8 TX8 1, w ∈ ab_T := ab_inl (ps := [211]) (by decide +kernel) (by decide +kernel)
theorem uw_9 : ∀ w ∈ u_ws RX9 TX9 9, w ∈ ab_T := ab_inl (ps := [341, 343, 345, 347, 349, 351, 353, 355, 357]) (by decide +kernel) (by decide +kernel)
theorem uw_10 : ∀ w ∈ u_ws RX10 TX10 45, w ∈ ab_T := ab_inl (ps := [933, 935, 937, 939, 941, 943, 945, 947, 949, 951, 953, 955, 957, 959, 961, 963, 965, 967, 969, 971, 973, 975, 977, 979, 981, 983, 985, 987, 989, 991, 993, 995, 997, 999, 1001, 1003, 1005, 1007, 1009, 1011, 1013, 1015, 1017, 1019, 1021]) (by decide +kernel) (by decide +kernel)
set_option maxRecDepth 20000 in
theorem fl_RX0_11 : ab_F RX0 11 0 0 := ⟨RX0, TX0, 8, rfl, by decide, rfl, uw_0, Or.inl (ab_in (i := 270) rfl rfl)⟩
set_option maxRecDepth 20000 in
theorem fl_RX0_15 : ab_F RX0 15 0 1 := ⟨RX0, TX0, 8, rfl, by decide, rfl, uw_0, Or.inl (ab_in (i := 271) rfl rfl)⟩
set_option maxRecDepth 20000 in
theorem fl_RX0_18 : ab_F RX0 18 0 2 := ⟨RX0, TX0, 8, rfl, by decide, rfl, uw_0, Or.inl (ab_in (i := 272) rfl rfl)⟩
set_option maxRecDepth 20000 in
theorem fl_RX0_21 : ab_F RX0 21 0 3 := ⟨RX0, TX0, 8, rfl, by decide, rfl, uw_0, Or.inl (ab_in (i := 273) rfl rfl)⟩
set_option maxRecDepth 20000 in
theorem fl_RX0_24 : ab_F RX0 24 0 4 := ⟨RX0, TX0, 8, rfl, by decide, rfl, uw_0, Or.inl (ab_in (i := 274) rfl rfl)⟩
set_option maxRecDepth 20000 in
theorem fl_RX0_27 : ab_F RX0 27 0 5 := ⟨RX0, TX0, 8, rfl, by decide, rfl, uw_0, Or.inl (ab_in (i := 276) rfl rfl)⟩
set_option maxRecDepth 20000 in
theorem fl_RX0_31 : ab_F RX0 31 5 0 := ⟨RX5, TX5, 13, rfl, by decide, rfl, uw_5, Or.inr ⟨"LimbMeasures", ab_iu (i := 108) rfl rfl⟩⟩
set_option maxRecDepth 20000 in
theorem fl_RX0_36 : ab_F RX0 36 0 7 := ⟨RX0, TX0, 8, rfl, by decide, rfl, uw_0, Or.inl (ab_in (i := 279) rfl rfl)⟩
set_option maxRecDepth 20000 in
theorem fl_RX0_46 : ab_F RX0 46 0 6 := ⟨RX0, TX0, 8, rfl, by decide, rfl, uw_0, Or.inl (ab_in (i := 278) rfl rfl)⟩
set_option maxRecDepth 20000 in
theorem fl_RX1_11 : ab_F RX1 11 1 0 := ⟨RX1, TX1, 4, rfl, by decide, rfl, uw_1, Or.inl (ab_in (i := 318) rfl rfl)⟩
set_option maxRecDepth 20000 in
theorem fl_RX1_15 : ab_F RX1 15 1 1 := ⟨RX1, TX1, 4, rfl, by decide, rfl, uw_1, Or.inl (ab_in (i := 319) rfl rfl)⟩
set_option maxRecDepth 20000 in
theorem fl_RX1_18 : ab_F RX1 18 1 2 := ⟨RX1, TX1, 4, rfl, by decide, rfl, uw_1, Or.inl (ab_in (i := 321) rfl rfl)⟩
set_option maxRecDepth 20000 in
theorem fl_RX1_21 : ab_F RX1 21 1 3 := ⟨RX1, TX1, 4, rfl, by decide, rfl, uw_1, Or.inl (ab_in (i := 322) rfl rfl)⟩
set_option maxRecDepth 20000 in
theorem fl_RX10_7 : ab_F RX10 7 10 1 := ⟨RX10, TX10, 45, rfl, by decide, rfl, uw_10, Or.inl (ab_in (i := 889) rfl rfl)⟩
set_option maxRecDepth 20000 in
theorem fl_RX10_13 : ab_F RX10 13 10 2 := ⟨RX10, TX10, 45, rfl, by decide, rfl, uw_10, Or.inl (ab_in (i := 890) rfl rfl)⟩
set_option maxRecDepth 20000 in
theorem fl_RX10_16 : ab_F RX10 16 10 4 := ⟨RX10, TX10, 45, rfl, by decide, rfl, uw_10, Or.inl (ab_in (i := 892) rfl rfl)⟩
set_option maxRecDepth 20000 in
theorem fl_RX10_19 : ab_F RX10 19 10 5 := ⟨RX10, TX10, 45, rfl, by decide, rfl, uw_10, Or.inl (ab_in (i := 893) rfl rfl)⟩
set_option maxRecDepth 20000 in
theorem fl_RX10_22 : ab_F RX10 22 10 6 := ⟨RX10, TX10, 45, rfl, by decide, rfl, uw_10, Or.inl (ab_in (i := 894) rfl rfl)⟩
set_option maxRecDepth 20000 in
theorem fl_RX10_25 : ab_F RX10 25 10 8 := ⟨RX10, TX10, 45, rfl, by decide, rfl, uw_10, Or.inl (ab_in (i := 896) rfl rfl)⟩
set_option maxRecDepth 20000 in
theorem fl_RX10_28 : ab_F RX10 28 10 9 := ⟨RX10, TX10, 45, rfl, by decide, rfl, uw_10, Or.inl (ab_in (i := 897) rfl rfl)⟩
set_option maxRecDepth 20000 in
theorem fl_RX10_31 : ab_F RX10 31 10 10 := ⟨RX10, TX10, 45, rfl, by decide, rfl, uw_10, Or.inl (ab_in (i := 898) rfl rfl)⟩
set_option maxRecDepth 20000 in
theorem fl_RX10_34 : ab_F RX10 34 10 11 := ⟨RX10, TX10, 45, rfl, by decide, rfl, uw_10, Or.inl (ab_in (i := 899) rfl rfl)⟩
set_option maxRecDepth 20000 in
theorem fl_RX10_37 : ab_F RX10 37 10 12 := ⟨RX10, TX10, 45, rfl, by decide, rfl, uw_10, Or.inl (ab_in (i := 900) rfl rfl)⟩
set_option maxRecDepth 20000 in
theorem fl_RX10_40 : ab_F RX10 40 10 14 := ⟨RX10, TX10, 45, rfl, by decide, rfl, uw_10, Or.inl (ab_in (i := 902) rfl rfl)⟩
set_option maxRecDepth 20000 in
theorem fl_RX10_43 : ab_F RX10 43 10 16 := ⟨RX10, TX10, 45, rfl, by decide, rfl, uw_10, Or.inl (ab_in (i := 904) rfl rfl)⟩
set_option maxRecDepth 20000 in
theorem fl_RX10_47 : ab_F RX10 47 10 21 := ⟨RX10, TX10, 45, rfl, by decide, rfl, uw_10, Or.inl (ab_in (i := 909) rfl rfl)⟩
set_option maxRecDepth 20000 in
theorem fl_RX10_50 : ab_F RX10 50 10 22 := ⟨RX10, TX10, 45, rfl, by decide, rfl, uw_10, Or.inl (ab_in (i := 910) rfl rfl)⟩
set_option maxRecDepth 20000 in
theorem fl_RX10_53 : ab_F RX10 53 10 23 := ⟨RX10, TX10, 45, rfl, by decide, rfl, uw_10, Or.inl (ab_in (i := 911) rfl rfl)⟩
set_option maxRecDepth 20000 in
theorem fl_RX10_56 : ab_F RX10 56 10 25 := ⟨RX10, TX10, 45, rfl, by decide, rfl, uw_10, Or.inl (ab_in (i := 913) rfl rfl)⟩
set_option maxRecDepth 20000 in
theorem fl_RX10_59 : ab_F RX10 59 10 26 := ⟨RX10, TX10, 45, rfl, by decide, rfl, uw_10, Or.inl (ab_in (i := 914) rfl rfl)⟩
set_option maxRecDepth 20000 in
theorem fl_RX10_62 : ab_F RX10 62 10 27 := ⟨RX10, TX10, 45, rfl, by decide, rfl, uw_10, Or.inl (ab_in (i := 915) rfl rfl)⟩
set_option maxRecDepth 20000 in
theorem fl_RX10_65 : ab_F RX10 65 10 29 := ⟨RX10, TX10, 45, rfl, by decide, rfl, uw_10, Or.inl (ab_in (i := 917) rfl rfl)⟩
set_option maxRecDepth 20000 in
theorem fl_RX10_68 : ab_F RX10 68 10 30 := ⟨RX10, TX10, 45, rfl, by decide, rfl, uw_10, Or.inl (ab_in (i := 918) rfl rfl)⟩
set_option maxRecDepth 20000 in
theorem fl_RX10_71 : ab_F RX10 71 10 31 := ⟨RX10, TX10, 45, rfl, by decide, rfl, uw_10, Or.inl (ab_in (i := 919) rfl rfl)⟩
set_option maxRecDepth 20000 in
theorem fl_RX10_74 : ab_F RX10 74 10 32 := ⟨RX10, TX10, 45, rfl, by decide, rfl, uw_10, Or.inl (ab_in (i := 920) rfl rfl)⟩
set_option maxRecDepth 20000 in
theorem fl_RX10_77 : ab_F RX10 77 10 34 := ⟨RX10, TX10, 45, rfl, by decide, rfl, uw_10, Or.inl (ab_in (i := 922) rfl rfl)⟩
set_option maxRecDepth 20000 in
theorem fl_RX10_80 : ab_F RX10 80 10 38 := ⟨RX10, TX10, 45, rfl, by decide, rfl, uw_10, Or.inl (ab_in (i := 926) rfl rfl)⟩
set_option maxRecDepth 20000 in
theorem fl_RX10_83 : ab_F RX10 83 10 39 := ⟨RX10, TX10, 45, rfl, by decide, rfl, uw_10, Or.inl (ab_in (i := 927) rfl rfl)⟩
set_option maxRecDepth 20000 in
theorem fl_RX10_86 : ab_F RX10 86 10 41 := ⟨RX10, TX10, 45, rfl, by decide, rfl, uw_10, Or.inl (ab_in (i := 929) rfl rfl)⟩
set_option maxRecDepth 20000 in
theorem fl_RX10_89 : ab_F RX10 89 10 42 := ⟨RX10, TX10, 45, rfl, by decide, rfl, uw_10, Or.inl (ab_in (i := 930) rfl rfl)⟩
set_option maxRecDepth 20000 in
theorem fl_RX10_92 : ab_F RX10 92 10 43 := ⟨RX10, TX10, 45, rfl, by decide, rfl, uw_10, Or.inl (ab_in (i := 931) rfl rfl)⟩
set_option maxRecDepth 20000 in
theorem fl_RX10_95 : ab_F RX10 95 10 44 := ⟨RX10, TX10, 45, rfl, by decide, rfl, uw_10, Or.inl (ab_in (i := 932) rfl rfl)⟩
set_option maxRecDepth 20000 in
theorem fl_RX10_99 : ab_F RX10 99 10 0 := ⟨RX10, TX10, 45, rfl, by decide, rfl, uw_10, Or.inl (ab_in (i := 888) rfl rfl)⟩
set_option maxRecDepth 20000 in
theorem fl_RX10_113 : ab_F RX10 113 10 15 := ⟨RX10, TX10, 45, rfl, by decide, rfl, uw_10, Or.inl (ab_in (i := 903) rfl rfl)⟩
set_option maxRecDepth 20000 in
theorem fl_RX10_117 : ab_F RX10 117 10 17 := ⟨RX10, TX10, 45, rfl, by decide, rfl, uw_10, Or.inl (ab_in (i := 905) rfl rfl)⟩
set_option maxRecDepth 20000 in
theorem fl_RX10_132 : ab_F RX10 132 10 19 := ⟨RX10, TX10, 45, rfl, by decide, rfl, uw_10, Or.inl (ab_in (i := 907) rfl rfl)⟩
set_option maxRecDepth 20000 in
theorem fl_RX10_135 : ab_F RX10 135 10 18 := ⟨RX10, TX10, 45, rfl, by decide, rfl, uw_10, Or.inl (ab_in (i := 906) rfl rfl)⟩
set_option maxRecDepth 20000 in
theorem fl_RX10_141 : ab_F RX10 141 10 20 := ⟨RX10, TX10, 45, rfl, by decide, rfl, uw_10, Or.inl (ab_in (i := 908) rfl rfl)⟩
set_option maxRecDepth 20000 in
theorem fl_RX10_148 : ab_F RX10 148 10 24 := ⟨RX10, TX10, 45, rfl, by decide, rfl, uw_10, Or.inl (ab_in (i := 912) rfl rfl)⟩
set_option maxRecDepth 20000 in
theorem fl_RX10_151 : ab_F RX10 151 10 28 := ⟨RX10, TX10, 45, rfl, by decide, rfl, uw_10, Or.inl (ab_in (i := 916) rfl rfl)⟩
set_option maxRecDepth 20000 in
theorem fl_RX10_166 : ab_F RX10 166 10 3 := ⟨RX10, TX10, 45, rfl, by decide, rfl, uw_10, Or.inl (ab_in (i := 891) rfl rfl)⟩
set_option maxRecDepth 20000 in
theorem fl_RX10_169 : ab_F RX10 169 10 7 := ⟨RX10, TX10, 45, rfl, by decide, rfl, uw_10, Or.inl (ab_in (i := 895) rfl rfl)⟩
set_option maxRecDepth 20000 in
theorem fl_RX10_178 : ab_F RX10 178 10 37 := ⟨RX10, TX10, 45, rfl, by decide, rfl, uw_10, Or.inl (ab_in (i := 925) rfl rfl)⟩
set_option maxRecDepth 20000 in
theorem fl_RX10_181 : ab_F RX10 181 10 40 := ⟨RX10, TX10, 45, rfl, by decide, rfl, uw_10, Or.inl (ab_in (i := 928) rfl rfl)⟩
set_option maxRecDepth 20000 in
theorem fl_RX10_184 : ab_F RX10 184 10 33 := ⟨RX10, TX10, 45, rfl, by decide, rfl, uw_10, Or.inl (ab_in (i := 921) rfl rfl)⟩
set_option maxRecDepth 20000 in
theorem fl_RX10_234 : ab_F RX10 234 10 13 := ⟨RX10, TX10, 45, rfl, by decide, rfl, uw_10, Or.inl (ab_in (i := 901) rfl rfl)⟩
set_option maxRecDepth 20000 in
theorem fl_RX10_266 : ab_F RX10 266 10 35 := ⟨RX10, TX10, 45, rfl, by decide, rfl, uw_10, Or.inl (ab_in (i := 923) rfl rfl)⟩
set_option maxRecDepth 20000 in
theorem fl_RX10_285 : ab_F RX10 285 10 36 := ⟨RX10, TX10, 45, rfl, by decide, rfl, uw_10, Or.inl (ab_in (i := 924) rfl rfl)⟩
set_option maxRecDepth 20000 in
theorem fl_RX2_9 : ab_F RX2 9 2 0 := ⟨RX2, TX2, 2, rfl, by decide, rfl, uw_2, Or.inl (ab_in (i := 91) rfl rfl)⟩
set_option maxRecDepth 20000 in
theorem fl_RX2_15 : ab_F RX2 15 2 1 := ⟨RX2, TX2, 2, rfl, by decide, rfl, uw_2, Or.inl (ab_in (i := 92) rfl rfl)⟩
set_option maxRecDepth 20000 in
theorem fl_RX3_9 : ab_F RX3 9 3 0 := ⟨RX3, TX3, 6, rfl, by decide, rfl, uw_3, Or.inl (ab_in (i := 243) rfl rfl)⟩
set_option maxRecDepth 20000 in
theorem fl_RX3_15 : ab_F RX3 15 3 1 := ⟨RX3, TX3, 6, rfl, by decide, rfl, uw_3, Or.inl (ab_in (i := 244) rfl rfl)⟩
set_option maxRecDepth 20000 in
theorem fl_RX3_18 : ab_F RX3 18 3 2 := ⟨RX3, TX3, 6, rfl, by decide, rfl, uw_3, Or.inl (ab_in (i := 245) rfl rfl)⟩
set_option maxRecDepth 20000 in
theorem fl_RX3_21 : ab_F RX3 21 3 3 := ⟨RX3, TX3, 6, rfl, by decide, rfl, uw_3, Or.inl (ab_in (i := 246) rfl rfl)⟩
set_option maxRecDepth 20000 in
theorem fl_RX3_24 : ab_F RX3 24 3 4 := ⟨RX3, TX3, 6, rfl, by decide, rfl, uw_3, Or.inl (ab_in (i := 247) rfl rfl)⟩
set_option maxRecDepth 20000 in
theorem fl_RX3_28 : ab_F RX3 28 3 5 := ⟨RX3, TX3, 6, rfl, by decide, rfl, uw_3, Or.inl (ab_in (i := 249) rfl rfl)⟩
set_option maxRecDepth 20000 in
theorem fl_RX3_31 : ab_F RX3 31 5 0 := ⟨RX5, TX5, 13, rfl, by decide, rfl, uw_5, Or.inr ⟨"LimbMeasures", ab_iu (i := 111) rfl rfl⟩⟩
set_option maxRecDepth 20000 in
theorem fl_RX4_11 : ab_F RX4 11 4 0 := ⟨RX4, TX4, 5, rfl, by decide, rfl, uw_4, Or.inl (ab_in (i := 220) rfl rfl)⟩
set_option maxRecDepth 20000 in
theorem fl_RX4_17 : ab_F RX4 17 4 1 := ⟨RX4, TX4, 5, rfl, by decide, rfl, uw_4, Or.inl (ab_in (i := 221) rfl rfl)⟩
set_option maxRecDepth 20000 in
theorem fl_RX4_20 : ab_F RX4 20 4 3 := ⟨RX4, TX4, 5, rfl, by decide, rfl, uw_4, Or.inl (ab_in (i := 223) rfl rfl)⟩
set_option maxRecDepth 20000 in
theorem fl_RX4_24 : ab_F RX4 24 4 2 := ⟨RX4, TX4, 5, rfl, by decide, rfl, uw_4, Or.inl (ab_in (i := 222) rfl rfl)⟩
set_option maxRecDepth 20000 in
theorem fl_RX4_27 : ab_F RX4 27 8 0 := ⟨RX8, TX8, 1, rfl, by decide, rfl, uw_8, Or.inr ⟨"LimbMeasures", ab_iu (i := 210) rfl rfl⟩⟩
set_option maxRecDepth 20000 in
theorem fl_RX4_40 : ab_F RX4 40 4 4 := ⟨RX4, TX4, 5, rfl, by decide, rfl, uw_4, Or.inl (ab_in (i := 225) rfl rfl)⟩
set_option maxRecDepth 20000 in
theorem fl_RX5_9 : ab_F RX5 9 5 3 := ⟨RX5, TX5, 13, rfl, by decide, rfl, uw_5, Or.inl (ab_in (i := 120) rfl rfl)⟩
set_option maxRecDepth 20000 in
theorem fl_RX5_15 : ab_F RX5 15 5 4 := ⟨RX5, TX5, 13, rfl, by decide, rfl, uw_5, Or.inl (ab_in (i := 122) rfl rfl)⟩
set_option maxRecDepth 20000 in
theorem fl_RX5_18 : ab_F RX5 18 5 5 := ⟨RX5, TX5, 13, rfl, by decide, rfl, uw_5, Or.inl (ab_in (i := 123) rfl rfl)⟩
set_option maxRecDepth 20000 in
theorem fl_RX5_21 : ab_F RX5 21 5 6 := ⟨RX5, TX5, 13, rfl, by decide, rfl, uw_5, Or.inl (ab_in (i := 127) rfl rfl)⟩
set_option maxRecDepth 20000 in
theorem fl_RX5_24 : ab_F RX5 24 5 7 := ⟨RX5, TX5, 13, rfl, by decide, rfl, uw_5, Or.inl (ab_in (i := 130) rfl rfl)⟩
set_option maxRecDepth 20000 in
theorem fl_RX5_27 : ab_F RX5 27 5 8 := ⟨RX5, TX5, 13, rfl, by decide, rfl, uw_5, Or.inl (ab_in (i := 133) rfl rfl)⟩
set_option maxRecDepth 20000 in
theorem fl_RX5_30 : ab_F RX5 30 5 9 := ⟨RX5, TX5, 13, rfl, by decide, rfl, uw_5, Or.inl (ab_in (i := 136) rfl rfl)⟩
set_option maxRecDepth 20000 in
theorem fl_RX5_33 : ab_F RX5 33 5 10 := ⟨RX5, TX5, 13, rfl, by decide, rfl, uw_5, Or.inl (ab_in (i := 139) rfl rfl)⟩
set_option maxRecDepth 20000 in
theorem fl_RX5_36 : ab_F RX5 36 5 11 := ⟨RX5, TX5, 13, rfl, by decide, rfl, uw_5, Or.inl (ab_in (i := 142) rfl rfl)⟩
set_option maxRecDepth 20000 in
theorem fl_RX5_39 : ab_F RX5 39 5 12 := ⟨RX5, TX5, 13, rfl, by decide, rfl, uw_5, Or.inl (ab_in (i := 145) rfl rfl)⟩
set_option maxRecDepth 20000 in
theorem fl_RX5_42 : ab_F RX5 42 5 0 := ⟨RX5, TX5, 13, rfl, by decide, rfl, uw_5, Or.inl (ab_in (i := 106) rfl rfl)⟩
set_option maxRecDepth 20000 in
theorem fl_RX5_46 : ab_F RX5 46 5 1 := ⟨RX5, TX5, 13, rfl, by decide, rfl, uw_5, Or.inl (ab_in (i := 112) rfl rfl)⟩
set_option maxRecDepth 20000 in
theorem fl_RX5_49 : ab_F RX5 49 5 2 := ⟨RX5, TX5, 13, rfl, by decide, rfl, uw_5, Or.inl (ab_in (i := 116) rfl rfl)⟩
set_option maxRecDepth 20000 in
theorem fl_RX6_12 : ab_F RX6 12 6 0 := ⟨RX6, TX6, 7, rfl, by decide, rfl, uw_6, Or.inl (ab_in (i := 175) rfl rfl)⟩
set_option maxRecDepth 20000 in
theorem fl_RX6_21 : ab_F RX6 21 6 1 := ⟨RX6, TX6, 7, rfl, by decide, rfl, uw_6, Or.inl (ab_in (i := 177) rfl rfl)⟩
set_option maxRecDepth 20000 in
theorem fl_RX6_25 : ab_F RX6 25 6 2 := ⟨RX6, TX6, 7, rfl, by decide, rfl, uw_6, Or.inl (ab_in (i := 179) rfl rfl)⟩
set_option maxRecDepth 20000 in
theorem fl_RX6_29 : ab_F RX6 29 6 3 := ⟨RX6, TX6, 7, rfl, by decide, rfl, uw_6, Or.inl (ab_in (i := 180) rfl rfl)⟩
set_option maxRecDepth 20000 in
theorem fl_RX6_76 : ab_F RX6 76 5 0 := ⟨RX5, TX5, 13, rfl, by decide, rfl, uw_5, Or.inr ⟨"LimbMeasures", ab_iu (i := 110) rfl rfl⟩⟩
set_option maxRecDepth 20000 in
theorem fl_RX6_79 : ab_F RX6 79 5 1 := ⟨RX5, TX5, 13, rfl, by decide, rfl, uw_5, Or.inr ⟨"LimbMeasures", ab_iu (i := 113) rfl rfl⟩⟩
set_option maxRecDepth 20000 in
theorem fl_RX6_82 : ab_F RX6 82 5 2 := ⟨RX5, TX5, 13, rfl, by decide, rfl, uw_5, Or.inr ⟨"LimbMeasures", ab_iu (i := 118) rfl rfl⟩⟩
set_option maxRecDepth 20000 in
theorem fl_RX6_111 : ab_F RX6 111 5 5 := ⟨RX5, TX5, 13, rfl, by decide, rfl, uw_5, Or.inr ⟨"LimbMeasures", ab_iu (i := 125) rfl rfl⟩⟩
set_option maxRecDepth 20000 in
theorem fl_RX6_114 : ab_F RX6 114 6 4 := ⟨RX6, TX6, 7, rfl, by decide, rfl, uw_6, Or.inl (ab_in (i := 181) rfl rfl)⟩
set_option maxRecDepth 20000 in
theorem fl_RX7_11 : ab_F RX7 11 7 0 := ⟨RX7, TX7, 2, rfl, by decide, rfl, uw_7, Or.inl (ab_in (i := 303) rfl rfl)⟩
set_option maxRecDepth 20000 in
theorem fl_RX7_15 : ab_F RX7 15 7 1 := ⟨RX7, TX7, 2, rfl, by decide, rfl, uw_7, Or.inl (ab_in (i := 305) rfl rfl)⟩
set_option maxRecDepth 20000 in
theorem fl_RX7_23 : ab_F RX7 23 5 2 := ⟨RX5, TX5, 13, rfl, by decide, rfl, uw_5, Or.inr ⟨"LimbMeasures", ab_iu (i := 117) rfl rfl⟩⟩
set_option maxRecDepth 20000 in
theorem fl_RX7_28 : ab_F RX7 28 5 9 := ⟨RX5, TX5, 13, rfl, by decide, rfl, uw_5, Or.inr ⟨"LimbMeasures", ab_iu (i := 137) rfl rfl⟩⟩
set_option maxRecDepth 20000 in
theorem fl_RX7_31 : ab_F RX7 31 5 10 := ⟨RX5, TX5, 13, rfl, by decide, rfl, uw_5, Or.inr ⟨"LimbMeasures", ab_iu (i := 140) rfl rfl⟩⟩
set_option maxRecDepth 20000 in
theorem fl_RX7_34 : ab_F RX7 34 5 11 := ⟨RX5, TX5, 13, rfl, by decide, rfl, uw_5, Or.inr ⟨"LimbMeasures", ab_iu (i := 143) rfl rfl⟩⟩
set_option maxRecDepth 20000 in
theorem fl_RX7_37 : ab_F RX7 37 5 12 := ⟨RX5, TX5, 13, rfl, by decide, rfl, uw_5, Or.inr ⟨"LimbMeasures", ab_iu (i := 146) rfl rfl⟩⟩
set_option maxRecDepth 20000 in
theorem fl_RX8_11 : ab_F RX8 11 8 0 := ⟨RX8, TX8, 1, rfl, by decide, rfl, uw_8, Or.inl (ab_in (i := 209) rfl rfl)⟩
set_option maxRecDepth 20000 in
theorem fl_RX8_15 : ab_F RX8 15 5 3 := ⟨RX5, TX5, 13, rfl, by decide, rfl, uw_5, Or.inr ⟨"LimbMeasures", ab_iu (i := 121) rfl rfl⟩⟩
set_option maxRecDepth 20000 in
theorem fl_RX8_26 : ab_F RX8 26 5 0 := ⟨RX5, TX5, 13, rfl, by decide, rfl, uw_5, Or.inr ⟨"LimbMeasures", ab_iu (i := 107) rfl rfl⟩⟩
set_option maxRecDepth 20000 in
theorem fl_RX8_47 : ab_F RX8 47 5 5 := ⟨RX5, TX5, 13, rfl, by decide, rfl, uw_5, Or.inr ⟨"LimbMeasures", ab_iu (i := 126) rfl rfl⟩⟩
set_option maxRecDepth 20000 in
theorem fl_RX8_53 : ab_F RX8 53 5 8 := ⟨RX5, TX5, 13, rfl, by decide, rfl, uw_5, Or.inr ⟨"LimbMeasures", ab_iu (i := 135) rfl rfl⟩⟩
set_option maxRecDepth 20000 in
theorem fl_RX8_56 : ab_F RX8 56 5 7 := ⟨RX5, TX5, 13, rfl, by decide, rfl, uw_5, Or.inr ⟨"LimbMeasures", ab_iu (i := 132) rfl rfl⟩⟩
set_option maxRecDepth 20000 in
theorem fl_RX8_63 : ab_F RX8 63 5 1 := ⟨RX5, TX5, 13, rfl, by decide, rfl, uw_5, Or.inr ⟨"LimbMeasures", ab_iu (i := 115) rfl rfl⟩⟩
set_option maxRecDepth 20000 in
theorem fl_RX8_66 : ab_F RX8 66 5 6 := ⟨RX5, TX5, 13, rfl, by decide, rfl, uw_5, Or.inr ⟨"LimbMeasures", ab_iu (i := 129) rfl rfl⟩⟩
set_option maxRecDepth 20000 in
theorem fl_RX9_10 : ab_F RX9 10 9 0 := ⟨RX9, TX9, 9, rfl, by decide, rfl, uw_9, Or.inl (ab_in (i := 332) rfl rfl)⟩
set_option maxRecDepth 20000 in
theorem fl_RX9_19 : ab_F RX9 19 9 1 := ⟨RX9, TX9, 9, rfl, by decide, rfl, uw_9, Or.inl (ab_in (i := 333) rfl rfl)⟩
set_option maxRecDepth 20000 in
theorem fl_RX9_26 : ab_F RX9 26 9 2 := ⟨RX9, TX9, 9, rfl, by decide, rfl, uw_9, Or.inl (ab_in (i := 334) rfl rfl)⟩
set_option maxRecDepth 20000 in
theorem fl_RX9_33 : ab_F RX9 33 9 3 := ⟨RX9, TX9, 9, rfl, by decide, rfl, uw_9, Or.inl (ab_in (i := 335) rfl rfl)⟩
set_option maxRecDepth 20000 in
theorem fl_RX9_40 : ab_F RX9 40 9 4 := ⟨RX9, TX9, 9, rfl, by decide, rfl, uw_9, Or.inl (ab_in (i := 336) rfl rfl)⟩
set_option maxRecDepth 20000 in
theorem fl_RX9_47 : ab_F RX9 47 9 5 := ⟨RX9, TX9, 9, rfl, by decide, rfl, uw_9, Or.inl (ab_in (i := 337) rfl rfl)⟩
set_option maxRecDepth 20000 in
theorem fl_RX9_54 : ab_F RX9 54 9 6 := ⟨RX9, TX9, 9, rfl, by decide, rfl, uw_9, Or.inl (ab_in (i := 338) rfl rfl)⟩
set_option maxRecDepth 20000 in
theorem fl_RX9_61 : ab_F RX9 61 9 7 := ⟨RX9, TX9, 9, rfl, by decide, rfl, uw_9, Or.inl (ab_in (i := 339) rfl rfl)⟩
set_option maxRecDepth 20000 in
theorem fl_RX9_65 : ab_F RX9 65 9 8 := ⟨RX9, TX9, 9, rfl, by decide, rfl, uw_9, Or.inl (ab_in (i := 340) rfl rfl)⟩
set_option maxRecDepth 20000 in
theorem fl_RX9_70 : ab_F RX9 70 6 0 := ⟨RX6, TX6, 7, rfl, by decide, rfl, uw_6, Or.inr ⟨"LimbMeasures", ab_iu (i := 176) rfl rfl⟩⟩
set_option maxRecDepth 20000 in
theorem fl_RX9_91 : ab_F RX9 91 6 6 := ⟨RX6, TX6, 7, rfl, by decide, rfl, uw_6, Or.inr ⟨"LimbMeasures", ab_iu (i := 185) rfl rfl⟩⟩
set_option maxRecDepth 20000 in
theorem fl_RX9_92 : ab_F RX9 92 6 5 := ⟨RX6, TX6, 7, rfl, by decide, rfl, uw_6, Or.inr ⟨"LimbMeasures", ab_iu (i := 183) rfl rfl⟩⟩
set_option maxRecDepth 20000 in
theorem fl_RX9_95 : ab_F RX9 95 6 1 := ⟨RX6, TX6, 7, rfl, by decide, rfl, uw_6, Or.inr ⟨"LimbMeasures", ab_iu (i := 178) rfl rfl⟩⟩
set_option maxRecDepth 20000 in
theorem fl_RX9_114 : ab_F RX9 114 5 0 := ⟨RX5, TX5, 13, rfl, by decide, rfl, uw_5, Or.inr ⟨"LimbMeasures", ab_iu (i := 109) rfl rfl⟩⟩
set_option maxRecDepth 20000 in
theorem fl_RX9_117 : ab_F RX9 117 5 1 := ⟨RX5, TX5, 13, rfl, by decide, rfl, uw_5, Or.inr ⟨"LimbMeasures", ab_iu (i := 114) rfl rfl⟩⟩
set_option maxRecDepth 20000 in
theorem fl_RX9_120 : ab_F RX9 120 5 2 := ⟨RX5, TX5, 13, rfl, by decide, rfl, uw_5, Or.inr ⟨"LimbMeasures", ab_iu (i := 119) rfl rfl⟩⟩
set_option maxRecDepth 20000 in
theorem fl_RX9_123 : ab_F RX9 123 2 1 := ⟨RX2, TX2, 2, rfl, by decide, rfl, uw_2, Or.inr ⟨"LimbMeasures", ab_iu (i := 93) rfl rfl⟩⟩
set_option maxRecDepth 20000 in
theorem fl_RX9_142 : ab_F RX9 142 3 4 := ⟨RX3, TX3, 6, rfl, by decide, rfl, uw_3, Or.inr ⟨"LimbMeasures", ab_iu (i := 248) rfl rfl⟩⟩
set_option maxRecDepth 20000 in
theorem fl_RX9_145 : ab_F RX9 145 3 5 := ⟨RX3, TX3, 6, rfl, by decide, rfl, uw_3, Or.inr ⟨"LimbMeasures", ab_iu (i := 250) rfl rfl⟩⟩
set_option maxRecDepth 20000 in
theorem fl_RX9_148 : ab_F RX9 148 4 3 := ⟨RX4, TX4, 5, rfl, by decide, rfl, uw_4, Or.inr ⟨"LimbMeasures", ab_iu (i := 224) rfl rfl⟩⟩
set_option maxRecDepth 20000 in
theorem fl_RX9_163 : ab_F RX9 163 5 5 := ⟨RX5, TX5, 13, rfl, by decide, rfl, uw_5, Or.inr ⟨"LimbMeasures", ab_iu (i := 124) rfl rfl⟩⟩
set_option maxRecDepth 20000 in
theorem fl_RX9_180 : ab_F RX9 180 5 6 := ⟨RX5, TX5, 13, rfl, by decide, rfl, uw_5, Or.inr ⟨"LimbMeasures", ab_iu (i := 128) rfl rfl⟩⟩
set_option maxRecDepth 20000 in
theorem fl_RX9_183 : ab_F RX9 183 5 7 := ⟨RX5, TX5, 13, rfl, by decide, rfl, uw_5, Or.inr ⟨"LimbMeasures", ab_iu (i := 131) rfl rfl⟩⟩
set_option maxRecDepth 20000 in
theorem fl_RX9_186 : ab_F RX9 186 5 8 := ⟨RX5, TX5, 13, rfl, by decide, rfl, uw_5, Or.inr ⟨"LimbMeasures", ab_iu (i := 134) rfl rfl⟩⟩
set_option maxRecDepth 20000 in
theorem fl_RX9_195 : ab_F RX9 195 5 9 := ⟨RX5, TX5, 13, rfl, by decide, rfl, uw_5, Or.inr ⟨"LimbMeasures", ab_iu (i := 138) rfl rfl⟩⟩
set_option maxRecDepth 20000 in
theorem fl_RX9_198 : ab_F RX9 198 5 10 := ⟨RX5, TX5, 13, rfl, by decide, rfl, uw_5, Or.inr ⟨"LimbMeasures", ab_iu (i := 141) rfl rfl⟩⟩
set_option maxRecDepth 20000 in
theorem fl_RX9_201 : ab_F RX9 201 5 11 := ⟨RX5, TX5, 13, rfl, by decide, rfl, uw_5, Or.inr ⟨"LimbMeasures", ab_iu (i := 144) rfl rfl⟩⟩
set_option maxRecDepth 20000 in
theorem fl_RX9_204 : ab_F RX9 204 5 12 := ⟨RX5, TX5, 13, rfl, by decide, rfl, uw_5, Or.inr ⟨"LimbMeasures", ab_iu (i := 147) rfl rfl⟩⟩
set_option maxRecDepth 20000 in
theorem fl_RX9_253 : ab_F RX9 253 0 5 := ⟨RX0, TX0, 8, rfl, by decide, rfl, uw_0, Or.inr ⟨"LimbMeasures", ab_iu (i := 277) rfl rfl⟩⟩
set_option maxRecDepth 20000 in
theorem fl_RX9_256 : ab_F RX9 256 0 4 := ⟨RX0, TX0, 8, rfl, by decide, rfl, uw_0, Or.inr ⟨"LimbMeasures", ab_iu (i := 275) rfl rfl⟩⟩
set_option maxRecDepth 20000 in
theorem fl_RX9_261 : ab_F RX9 261 7 1 := ⟨RX7, TX7, 2, rfl, by decide, rfl, uw_7, Or.inr ⟨"LimbMeasures", ab_iu (i := 306) rfl rfl⟩⟩
set_option maxRecDepth 20000 in
theorem fl_RX9_264 : ab_F RX9 264 7 0 := ⟨RX7, TX7, 2, rfl, by decide, rfl, uw_7, Or.inr ⟨"LimbMeasures", ab_iu (i := 304) rfl rfl⟩⟩
set_option maxRecDepth 20000 in
theorem fl_RX9_281 : ab_F RX9 281 1 1 := ⟨RX1, TX1, 4, rfl, by decide, rfl, uw_1, Or.inr ⟨"LimbMeasures", ab_iu (i := 320) rfl rfl⟩⟩
set_option maxRecDepth 20000 in
theorem gl_RX0_11 : ab_G RX0 "<init>" 11 0 0 1 := ⟨RX0, TX0, 8, tyX0, rfl, by decide, rfl, uw_0, tyX0_ok, nmX0, Or.inr ⟨by decide, Or.inl ⟨_, rfl⟩⟩, Or.inr ⟨rfl, rfl, rfl, ab_in (i := 270) rfl rfl⟩⟩
set_option maxRecDepth 20000 in
theorem gl_RX0_15 : ab_G RX0 "<init>" 15 0 1 1 := ⟨RX0, TX0, 8, tyX0, rfl, by decide, rfl, uw_0, tyX0_ok, nmX0, Or.inr ⟨by decide, Or.inl ⟨_, rfl⟩⟩, Or.inr ⟨rfl, rfl, rfl, ab_in (i := 271) rfl rfl⟩⟩
set_option maxRecDepth 20000 in
theorem gl_RX0_18 : ab_G RX0 "<init>" 18 0 2 1 := ⟨RX0, TX0, 8, tyX0, rfl, by decide, rfl, uw_0, tyX0_ok, nmX0, Or.inr ⟨by decide, Or.inl ⟨_, rfl⟩⟩, Or.inr ⟨rfl, rfl, rfl, ab_in (i := 272) rfl rfl⟩⟩
set_option maxRecDepth 20000 in
theorem gl_RX0_21 : ab_G RX0 "<init>" 21 0 3 1 := ⟨RX0, TX0, 8, tyX0, rfl, by decide, rfl, uw_0, tyX0_ok, nmX0, Or.inr ⟨by decide, Or.inl ⟨_, rfl⟩⟩, Or.inr ⟨rfl, rfl, rfl, ab_in (i := 273) rfl rfl⟩⟩
set_option maxRecDepth 20000 in
theorem gl_RX0_24 : ab_G RX0 "<init>" 24 0 4 1 := ⟨RX0, TX0, 8, tyX0, rfl, by decide, rfl, uw_0, tyX0_ok, nmX0, Or.inr ⟨by decide, Or.inl ⟨_, rfl⟩⟩, Or.inr ⟨rfl, rfl, rfl, ab_in (i := 274) rfl rfl⟩⟩
set_option maxRecDepth 20000 in
theorem gl_RX0_27 (nm : String) : ab_G RX0 nm 27 0 5 0 := ⟨RX0, TX0, 8, tyX0, rfl, by decide, rfl, uw_0, tyX0_ok, nmX0, Or.inl ⟨rfl, rfl⟩, Or.inl ⟨rfl, Or.inl (ab_in (i := 276) rfl rfl)⟩⟩
set_option maxRecDepth 20000 in
theorem gl_RX0_36 (nm : String) : ab_G RX0 nm 36 0 7 0 := ⟨RX0, TX0, 8, tyX0, rfl, by decide, rfl, uw_0, tyX0_ok, nmX0, Or.inl ⟨rfl, rfl⟩, Or.inl ⟨rfl, Or.inl (ab_in (i := 279) rfl rfl)⟩⟩
set_option maxRecDepth 20000 in
theorem gl_RX0_46 (nm : String) : ab_G RX0 nm 46 0 6 0 := ⟨RX0, TX0, 8, tyX0, rfl, by decide, rfl, uw_0, tyX0_ok, nmX0, Or.inl ⟨rfl, rfl⟩, Or.inl ⟨rfl, Or.inl (ab_in (i := 278) rfl rfl)⟩⟩
set_option maxRecDepth 20000 in
theorem gl_RX1_11 : ab_G RX1 "<init>" 11 1 0 1 := ⟨RX1, TX1, 4, tyX1, rfl, by decide, rfl, uw_1, tyX1_ok, nmX1, Or.inr ⟨by decide, Or.inl ⟨_, rfl⟩⟩, Or.inr ⟨rfl, rfl, rfl, ab_in (i := 318) rfl rfl⟩⟩
set_option maxRecDepth 20000 in
theorem gl_RX1_15 : ab_G RX1 "<init>" 15 1 1 1 := ⟨RX1, TX1, 4, tyX1, rfl, by decide, rfl, uw_1, tyX1_ok, nmX1, Or.inr ⟨by decide, Or.inl ⟨_, rfl⟩⟩, Or.inr ⟨rfl, rfl, rfl, ab_in (i := 319) rfl rfl⟩⟩
set_option maxRecDepth 20000 in
theorem gl_RX1_18 : ab_G RX1 "<init>" 18 1 2 1 := ⟨RX1, TX1, 4, tyX1, rfl, by decide, rfl, uw_1, tyX1_ok, nmX1, Or.inr ⟨by decide, Or.inl ⟨_, rfl⟩⟩, Or.inr ⟨rfl, rfl, rfl, ab_in (i := 321) rfl rfl⟩⟩
set_option maxRecDepth 20000 in
theorem gl_RX1_21 (nm : String) : ab_G RX1 nm 21 1 3 0 := ⟨RX1, TX1, 4, tyX1, rfl, by decide, rfl, uw_1, tyX1_ok, nmX1, Or.inl ⟨rfl, rfl⟩, Or.inl ⟨rfl, Or.inl (ab_in (i := 322) rfl rfl)⟩⟩
set_option maxRecDepth 20000 in
theorem gl_RX10_7 : ab_G RX10 "<init>" 7 10 1 1 := ⟨RX10, TX10, 45, tyX10, rfl, by decide, rfl, uw_10, tyX10_ok, nmX10, Or.inr ⟨by decide, Or.inl ⟨_, rfl⟩⟩, Or.inr ⟨rfl, rfl, rfl, ab_in (i := 889) rfl rfl⟩⟩
set_option maxRecDepth 20000 in
theorem gl_RX10_13 : ab_G RX10 "<init>" 13 10 2 1 := ⟨RX10, TX10, 45, tyX10, rfl, by decide, rfl, uw_10, tyX10_ok, nmX10, Or.inr ⟨by decide, Or.inl ⟨_, rfl⟩⟩, Or.inr ⟨rfl, rfl, rfl, ab_in (i := 890) rfl rfl⟩⟩
set_option maxRecDepth 20000 in
theorem gl_RX10_16 : ab_G RX10 "<init>" 16 10 4 1 := ⟨RX10, TX10, 45, tyX10, rfl, by decide, rfl, uw_10, tyX10_ok, nmX10, Or.inr ⟨by decide, Or.inl ⟨_, rfl⟩⟩, Or.inr ⟨rfl, rfl, rfl, ab_in (i := 892) rfl rfl⟩⟩
set_option maxRecDepth 20000 in
theorem gl_RX10_19 : ab_G RX10 "<init>" 19 10 5 1 := ⟨RX10, TX10, 45, tyX10, rfl, by decide, rfl, uw_10, tyX10_ok, nmX10, Or.inr ⟨by decide, Or.inl ⟨_, rfl⟩⟩, Or.inr ⟨rfl, rfl, rfl, ab_in (i := 893) rfl rfl⟩⟩
set_option maxRecDepth 20000 in
theorem gl_RX10_22 : ab_G RX10 "<init>" 22 10 6 1 := ⟨RX10, TX10, 45, tyX10, rfl, by decide, rfl, uw_10, tyX10_ok, nmX10, Or.inr ⟨by decide, Or.inl ⟨_, rfl⟩⟩, Or.inr ⟨rfl, rfl, rfl, ab_in (i := 894) rfl rfl⟩⟩
set_option maxRecDepth 20000 in
theorem gl_RX10_25 : ab_G RX10 "<init>" 25 10 8 1 := ⟨RX10, TX10, 45, tyX10, rfl, by decide, rfl, uw_10, tyX10_ok, nmX10, Or.inr ⟨by decide, Or.inl ⟨_, rfl⟩⟩, Or.inr ⟨rfl, rfl, rfl, ab_in (i := 896) rfl rfl⟩⟩
set_option maxRecDepth 20000 in
theorem gl_RX10_28 : ab_G RX10 "<init>" 28 10 9 1 := ⟨RX10, TX10, 45, tyX10, rfl, by decide, rfl, uw_10, tyX10_ok, nmX10, Or.inr ⟨by decide, Or.inl ⟨_, rfl⟩⟩, Or.inr ⟨rfl, rfl, rfl, ab_in (i := 897) rfl rfl⟩⟩
set_option maxRecDepth 20000 in
theorem gl_RX10_31 : ab_G RX10 "<init>" 31 10 10 1 := ⟨RX10, TX10, 45, tyX10, rfl, by decide, rfl, uw_10, tyX10_ok, nmX10, Or.inr ⟨by decide, Or.inl ⟨_, rfl⟩⟩, Or.inr ⟨rfl, rfl, rfl, ab_in (i := 898) rfl rfl⟩⟩
set_option maxRecDepth 20000 in
theorem gl_RX10_34 : ab_G RX10 "<init>" 34 10 11 1 := ⟨RX10, TX10, 45, tyX10, rfl, by decide, rfl, uw_10, tyX10_ok, nmX10, Or.inr ⟨by decide, Or.inl ⟨_, rfl⟩⟩, Or.inr ⟨rfl, rfl, rfl, ab_in (i := 899) rfl rfl⟩⟩
set_option maxRecDepth 20000 in
theorem gl_RX10_37 : ab_G RX10 "<init>" 37 10 12 1 := ⟨RX10, TX10, 45, tyX10, rfl, by decide, rfl, uw_10, tyX10_ok, nmX10, Or.inr ⟨by decide, Or.inl ⟨_, rfl⟩⟩, Or.inr ⟨rfl, rfl, rfl, ab_in (i := 900) rfl rfl⟩⟩
set_option maxRecDepth 20000 in
theorem gl_RX10_40 : ab_G RX10 "<init>" 40 10 14 1 := ⟨RX10, TX10, 45, tyX10, rfl, by decide, rfl, uw_10, tyX10_ok, nmX10, Or.inr ⟨by decide, Or.inl ⟨_, rfl⟩⟩, Or.inr ⟨rfl, rfl, rfl, ab_in (i := 902) rfl rfl⟩⟩
set_option maxRecDepth 20000 in
theorem gl_RX10_43 (nm : String) : ab_G RX10 nm 43 10 16 0 := ⟨RX10, TX10, 45, tyX10, rfl, by decide, rfl, uw_10, tyX10_ok, nmX10, Or.inl ⟨rfl, rfl⟩, Or.inl ⟨rfl, Or.inl (ab_in (i := 904) rfl rfl)⟩⟩
set_option maxRecDepth 20000 in
theorem gl_RX10_47 : ab_G RX10 "<init>" 47 10 21 1 := ⟨RX10, TX10, 45, tyX10, rfl, by decide, rfl, uw_10, tyX10_ok, nmX10, Or.inr ⟨by decide, Or.inl ⟨_, rfl⟩⟩, Or.inr ⟨rfl, rfl, rfl, ab_in (i := 909) rfl rfl⟩⟩
set_option maxRecDepth 20000 in
theorem gl_RX10_50 : ab_G RX10 "<init>" 50 10 22 1 := ⟨RX10, TX10, 45, tyX10, rfl, by decide, rfl, uw_10, tyX10_ok, nmX10, Or.inr ⟨by decide, Or.inl ⟨_, rfl⟩⟩, Or.inr ⟨rfl, rfl, rfl, ab_in (i := 910) rfl rfl⟩⟩
set_option maxRecDepth 20000 in
theorem gl_RX10_53 : ab_G RX10 "<init>" 53 10 23 1 := ⟨RX10, TX10, 45, tyX10, rfl, by decide, rfl, uw_10, tyX10_ok, nmX10, Or.inr ⟨by decide, Or.inl ⟨_, rfl⟩⟩, Or.inr ⟨rfl, rfl, rfl, ab_in (i := 911) rfl rfl⟩⟩
set_option maxRecDepth 20000 in
theorem gl_RX10_56 : ab_G RX10 "<init>" 56 10 25 1 := ⟨RX10, TX10, 45, tyX10, rfl, by decide, rfl, uw_10, tyX10_ok, nmX10, Or.inr ⟨by decide, Or.inl ⟨_, rfl⟩⟩, Or.inr ⟨rfl, rfl, rfl, ab_in (i := 913) rfl rfl⟩⟩
set_option maxRecDepth 20000 in
theorem gl_RX10_59 : ab_G RX10 "<init>" 59 10 26 1 := ⟨RX10, TX10, 45, tyX10, rfl, by decide, rfl, uw_10, tyX10_ok, nmX10, Or.inr ⟨by decide, Or.inl ⟨_, rfl⟩⟩, Or.inr ⟨rfl, rfl, rfl, ab_in (i := 914) rfl rfl⟩⟩
set_option maxRecDepth 20000 in
theorem gl_RX10_62 : ab_G RX10 "<init>" 62 10 27 1 := ⟨RX10, TX10, 45, tyX10, rfl, by decide, rfl, uw_10, tyX10_ok, nmX10, Or.inr ⟨by decide, Or.inl ⟨_, rfl⟩⟩, Or.inr ⟨rfl, rfl, rfl, ab_in (i := 915) rfl rfl⟩⟩
set_option maxRecDepth 20000 in
theorem gl_RX10_65 : ab_G RX10 "<init>" 65 10 29 1 := ⟨RX10, TX10, 45, tyX10, rfl, by decide, rfl, uw_10, tyX10_ok, nmX10, Or.inr ⟨by decide, Or.inl ⟨_, rfl⟩⟩, Or.inr ⟨rfl, rfl, rfl, ab_in (i := 917) rfl rfl⟩⟩
set_option maxRecDepth 20000 in
theorem gl_RX10_68 : ab_G RX10 "<init>" 68 10 30 1 := ⟨RX10, TX10, 45, tyX10, rfl, by decide, rfl, uw_10, tyX10_ok, nmX10, Or.inr ⟨by decide, Or.inl ⟨_, rfl⟩⟩, Or.inr ⟨rfl, rfl, rfl, ab_in (i := 918) rfl rfl⟩⟩
set_option maxRecDepth 20000 in
theorem gl_RX10_71 : ab_G RX10 "<init>" 71 10 31 1 := ⟨RX10, TX10, 45, tyX10, rfl, by decide, rfl, uw_10, tyX10_ok, nmX10, Or.inr ⟨by decide, Or.inl ⟨_, rfl⟩⟩, Or.inr ⟨rfl, rfl, rfl, ab_in (i := 919) rfl rfl⟩⟩
set_option maxRecDepth 20000 in
theorem gl_RX10_74 : ab_G RX10 "<init>" 74 10 32 1 := ⟨RX10, TX10, 45, tyX10, rfl, by decide, rfl, uw_10, tyX10_ok, nmX10, Or.inr ⟨by decide, Or.inl ⟨_, rfl⟩⟩, Or.inr ⟨rfl, rfl, rfl, ab_in (i := 920) rfl rfl⟩⟩
set_option maxRecDepth 20000 in
theorem gl_RX10_77 : ab_G RX10 "<init>" 77 10 34 1 := ⟨RX10, TX10, 45, tyX10, rfl, by decide, rfl, uw_10, tyX10_ok, nmX10, Or.inr ⟨by decide, Or.inl ⟨_, rfl⟩⟩, Or.inr ⟨rfl, rfl, rfl, ab_in (i := 922) rfl rfl⟩⟩
set_option maxRecDepth 20000 in
theorem gl_RX10_80 : ab_G RX10 "<init>" 80 10 38 1 := ⟨RX10, TX10, 45, tyX10, rfl, by decide, rfl, uw_10, tyX10_ok, nmX10, Or.inr ⟨by decide, Or.inl ⟨_, rfl⟩⟩, Or.inr ⟨rfl, rfl, rfl, ab_in (i := 926) rfl rfl⟩⟩
set_option maxRecDepth 20000 in
theorem gl_RX10_83 : ab_G RX10 "<init>" 83 10 39 1 := ⟨RX10, TX10, 45, tyX10, rfl, by decide, rfl, uw_10, tyX10_ok, nmX10, Or.inr ⟨by decide, Or.inl ⟨_, rfl⟩⟩, Or.inr ⟨rfl, rfl, rfl, ab_in (i := 927) rfl rfl⟩⟩
set_option maxRecDepth 20000 in
theorem gl_RX10_86 : ab_G RX10 "<init>" 86 10 41 1 := ⟨RX10, TX10, 45, tyX10, rfl, by decide, rfl, uw_10, tyX10_ok, nmX10, Or.inr ⟨by decide, Or.inl ⟨_, rfl⟩⟩, Or.inr ⟨rfl, rfl, rfl, ab_in (i := 929) rfl rfl⟩⟩
set_option maxRecDepth 20000 in
theorem gl_RX10_89 : ab_G RX10 "<init>" 89 10 42 1 := ⟨RX10, TX10, 45, tyX10, rfl, by decide, rfl, uw_10, tyX10_ok, nmX10, Or.inr ⟨by decide, Or.inl ⟨_, rfl⟩⟩, Or.inr ⟨rfl, rfl, rfl, ab_in (i := 930) rfl rfl⟩⟩
set_option maxRecDepth 20000 in
theorem gl_RX10_92 : ab_G RX10 "<init>" 92 10 43 1 := ⟨RX10, TX10, 45, tyX10, rfl, by decide, rfl, uw_10, tyX10_ok, nmX10, Or.inr ⟨by decide, Or.inl ⟨_, rfl⟩⟩, Or.inr ⟨rfl, rfl, rfl, ab_in (i := 931) rfl rfl⟩⟩
set_option maxRecDepth 20000 in
theorem gl_RX10_95 : ab_G RX10 "<init>" 95 10 44 1 := ⟨RX10, TX10, 45, tyX10, rfl, by decide, rfl, uw_10, tyX10_ok, nmX10, Or.inr ⟨by decide, Or.inl ⟨_, rfl⟩⟩, Or.inr ⟨rfl, rfl, rfl, ab_in (i := 932) rfl rfl⟩⟩
set_option maxRecDepth 20000 in
theorem gl_RX10_99 (nm : String) : ab_G RX10 nm 99 10 0 0 := ⟨RX10, TX10, 45, tyX10, rfl, by decide, rfl, uw_10, tyX10_ok, nmX10, Or.inl ⟨rfl, rfl⟩, Or.inl ⟨rfl, Or.inl (ab_in (i := 888) rfl rfl)⟩⟩
set_option maxRecDepth 20000 in
theorem gl_RX10_113 (nm : String) : ab_G RX10 nm 113 10 15 0 := ⟨RX10, TX10, 45, tyX10, rfl, by decide, rfl, uw_10, tyX10_ok, nmX10, Or.inl ⟨rfl, rfl⟩, Or.inl ⟨rfl, Or.inl (ab_in (i := 903) rfl rfl)⟩⟩
set_option maxRecDepth 20000 in
theorem gl_RX10_117 (nm : String) : ab_G RX10 nm 117 10 17 0 := ⟨RX10, TX10, 45, tyX10, rfl, by decide, rfl, uw_10, tyX10_ok, nmX10, Or.inl ⟨rfl, rfl⟩, Or.inl ⟨rfl, Or.inl (ab_in (i := 905) rfl rfl)⟩⟩
set_option maxRecDepth 20000 in
theorem gl_RX10_132 (nm : String) : ab_G RX10 nm 132 10 19 0 := ⟨RX10, TX10, 45, tyX10, rfl, by decide, rfl, uw_10, tyX10_ok, nmX10, Or.inl ⟨rfl, rfl⟩, Or.inl ⟨rfl, Or.inl (ab_in (i := 907) rfl rfl)⟩⟩
set_option maxRecDepth 20000 in
theorem gl_RX10_135 (nm : String) : ab_G RX10 nm 135 10 18 0 := ⟨RX10, TX10, 45, tyX10, rfl, by decide, rfl, uw_10, tyX10_ok, nmX10, Or.inl ⟨rfl, rfl⟩, Or.inl ⟨rfl, Or.inl (ab_in (i := 906) rfl rfl)⟩⟩
set_option maxRecDepth 20000 in
theorem gl_RX10_141 (nm : String) : ab_G RX10 nm 141 10 20 0 := ⟨RX10, TX10, 45, tyX10, rfl, by decide, rfl, uw_10, tyX10_ok, nmX10, Or.inl ⟨rfl, rfl⟩, Or.inl ⟨rfl, Or.inl (ab_in (i := 908) rfl rfl)⟩⟩
set_option maxRecDepth 20000 in
theorem gl_RX10_148 (nm : String) : ab_G RX10 nm 148 10 24 0 := ⟨RX10, TX10, 45, tyX10, rfl, by decide, rfl, uw_10, tyX10_ok, nmX10, Or.inl ⟨rfl, rfl⟩, Or.inl ⟨rfl, Or.inl (ab_in (i := 912) rfl rfl)⟩⟩
set_option maxRecDepth 20000 in
theorem gl_RX10_151 (nm : String) : ab_G RX10 nm 151 10 28 0 := ⟨RX10, TX10, 45, tyX10, rfl, by decide, rfl, uw_10, tyX10_ok, nmX10, Or.inl ⟨rfl, rfl⟩, Or.inl ⟨rfl, Or.inl (ab_in (i := 916) rfl rfl)⟩⟩
set_option maxRecDepth 20000 in
theorem gl_RX10_166 (nm : String) : ab_G RX10 nm 166 10 3 0 := ⟨RX10, TX10, 45, tyX10, rfl, by decide, rfl, uw_10, tyX10_ok, nmX10, Or.inl ⟨rfl, rfl⟩, Or.inl ⟨rfl, Or.inl (ab_in (i := 891) rfl rfl)⟩⟩
set_option maxRecDepth 20000 in
theorem gl_RX10_169 (nm : String) : ab_G RX10 nm 169 10 7 0 := ⟨RX10, TX10, 45, tyX10, rfl, by decide, rfl, uw_10, tyX10_ok, nmX10, Or.inl ⟨rfl, rfl⟩, Or.inl ⟨rfl, Or.inl (ab_in (i := 895) rfl rfl)⟩⟩
set_option maxRecDepth 20000 in
theorem gl_RX10_178 (nm : String) : ab_G RX10 nm 178 10 37 0 := ⟨RX10, TX10, 45, tyX10, rfl, by decide, rfl, uw_10, tyX10_ok, nmX10, Or.inl ⟨rfl, rfl⟩, Or.inl ⟨rfl, Or.inl (ab_in (i := 925) rfl rfl)⟩⟩
set_option maxRecDepth 20000 in
theorem gl_RX10_181 (nm : String) : ab_G RX10 nm 181 10 40 0 := ⟨RX10, TX10, 45, tyX10, rfl, by decide, rfl, uw_10, tyX10_ok, nmX10, Or.inl ⟨rfl, rfl⟩, Or.inl ⟨rfl, Or.inl (ab_in (i := 928) rfl rfl)⟩⟩
set_option maxRecDepth 20000 in
theorem gl_RX10_184 (nm : String) : ab_G RX10 nm 184 10 33 0 := ⟨RX10, TX10, 45, tyX10, rfl, by decide, rfl, uw_10, tyX10_ok, nmX10, Or.inl ⟨rfl, rfl⟩, Or.inl ⟨rfl, Or.inl (ab_in (i := 921) rfl rfl)⟩⟩
set_option maxRecDepth 20000 in
theorem gl_RX10_234 (nm : String) : ab_G RX10 nm 234 10 13 0 := ⟨RX10, TX10, 45, tyX10, rfl, by decide, rfl, uw_10, tyX10_ok, nmX10, Or.inl ⟨rfl, rfl⟩, Or.inl ⟨rfl, Or.inl (ab_in (i := 901) rfl rfl)⟩⟩
set_option maxRecDepth 20000 in
theorem gl_RX10_266 (nm : String) : ab_G RX10 nm 266 10 35 0 := ⟨RX10, TX10, 45, tyX10, rfl, by decide, rfl, uw_10, tyX10_ok, nmX10, Or.inl ⟨rfl, rfl⟩, Or.inl ⟨rfl, Or.inl (ab_in (i := 923) rfl rfl)⟩⟩
set_option maxRecDepth 20000 in
theorem gl_RX10_285 (nm : String) : ab_G RX10 nm 285 10 36 0 := ⟨RX10, TX10, 45, tyX10, rfl, by decide, rfl, uw_10, tyX10_ok, nmX10, Or.inl ⟨rfl, rfl⟩, Or.inl ⟨rfl, Or.inl (ab_in (i := 924) rfl rfl)⟩⟩
set_option maxRecDepth 20000 in
theorem gl_RX2_9 : ab_G RX2 "<init>" 9 2 0 1 := ⟨RX2, TX2, 2, tyX2, rfl, by decide, rfl, uw_2, tyX2_ok, nmX2, Or.inr ⟨by decide, Or.inl ⟨_, rfl⟩⟩, Or.inr ⟨rfl, rfl, rfl, ab_in (i := 91) rfl rfl⟩⟩
set_option maxRecDepth 20000 in
theorem gl_RX2_15 (nm : String) : ab_G RX2 nm 15 2 1 0 := ⟨RX2, TX2, 2, tyX2, rfl, by decide, rfl, uw_2, tyX2_ok, nmX2, Or.inl ⟨rfl, rfl⟩, Or.inl ⟨rfl, Or.inl (ab_in (i := 92) rfl rfl)⟩⟩
set_option maxRecDepth 20000 in
theorem gl_RX3_9 : ab_G RX3 "<init>" 9 3 0 1 := ⟨RX3, TX3, 6, tyX3, rfl, by decide, rfl, uw_3, tyX3_ok, nmX3, Or.inr ⟨by decide, Or.inl ⟨_, rfl⟩⟩, Or.inr ⟨rfl, rfl, rfl, ab_in (i := 243) rfl rfl⟩⟩
set_option maxRecDepth 20000 in
theorem gl_RX3_15 : ab_G RX3 "<init>" 15 3 1 1 := ⟨RX3, TX3, 6, tyX3, rfl, by decide, rfl, uw_3, tyX3_ok, nmX3, Or.inr ⟨by decide, Or.inl ⟨_, rfl⟩⟩, Or.inr ⟨rfl, rfl, rfl, ab_in (i := 244) rfl rfl⟩⟩
set_option maxRecDepth 20000 in
theorem gl_RX3_18 : ab_G RX3 "<init>" 18 3 2 1 := ⟨RX3, TX3, 6, tyX3, rfl, by decide, rfl, uw_3, tyX3_ok, nmX3, Or.inr ⟨by decide, Or.inl ⟨_, rfl⟩⟩, Or.inr ⟨rfl, rfl, rfl, ab_in (i := 245) rfl rfl⟩⟩
set_option maxRecDepth 20000 in
theorem gl_RX3_21 : ab_G RX3 "<init>" 21 3 3 1 := ⟨RX3, TX3, 6, tyX3, rfl, by decide, rfl, uw_3, tyX3_ok, nmX3, Or.inr ⟨by decide, Or.inl ⟨_, rfl⟩⟩, Or.inr ⟨rfl, rfl, rfl, ab_in (i := 246) rfl rfl⟩⟩
set_option maxRecDepth 20000 in
theorem gl_RX3_24 (nm : String) : ab_G RX3 nm 24 3 4 0 := ⟨RX3, TX3, 6, tyX3, rfl, by decide, rfl, uw_3, tyX3_ok, nmX3, Or.inl ⟨rfl, rfl⟩, Or.inl ⟨rfl, Or.inl (ab_in (i := 247) rfl rfl)⟩⟩
set_option maxRecDepth 20000 in
theorem gl_RX3_28 (nm : String) : ab_G RX3 nm 28 3 5 0 := ⟨RX3, TX3, 6, tyX3, rfl, by decide, rfl, uw_3, tyX3_ok, nmX3, Or.inl ⟨rfl, rfl⟩, Or.inl ⟨rfl, Or.inl (ab_in (i := 249) rfl rfl)⟩⟩
set_option maxRecDepth 20000 in
theorem gl_RX4_11 : ab_G RX4 "<init>" 11 4 0 1 := ⟨RX4, TX4, 5, tyX4, rfl, by decide, rfl, uw_4, tyX4_ok, nmX4, Or.inr ⟨by decide, Or.inl ⟨_, rfl⟩⟩, Or.inr ⟨rfl, rfl, rfl, ab_in (i := 220) rfl rfl⟩⟩
set_option maxRecDepth 20000 in
theorem gl_RX4_17 : ab_G RX4 "<init>" 17 4 1 1 := ⟨RX4, TX4, 5, tyX4, rfl, by decide, rfl, uw_4, tyX4_ok, nmX4, Or.inr ⟨by decide, Or.inl ⟨_, rfl⟩⟩, Or.inr ⟨rfl, rfl, rfl, ab_in (i := 221) rfl rfl⟩⟩
set_option maxRecDepth 20000 in
theorem gl_RX4_20 (nm : String) : ab_G RX4 nm 20 4 3 0 := ⟨RX4, TX4, 5, tyX4, rfl, by decide, rfl, uw_4, tyX4_ok, nmX4, Or.inl ⟨rfl, rfl⟩, Or.inl ⟨rfl, Or.inl (ab_in (i := 223) rfl rfl)⟩⟩
set_option maxRecDepth 20000 in
theorem gl_RX4_24 (nm : String) : ab_G RX4 nm 24 4 2 0 := ⟨RX4, TX4, 5, tyX4, rfl, by decide, rfl, uw_4, tyX4_ok, nmX4, Or.inl ⟨rfl, rfl⟩, Or.inl ⟨rfl, Or.inl (ab_in (i := 222) rfl rfl)⟩⟩
set_option maxRecDepth 20000 in
theorem gl_RX4_40 (nm : String) : ab_G RX4 nm 40 4 4 0 := ⟨RX4, TX4, 5, tyX4, rfl, by decide, rfl, uw_4, tyX4_ok, nmX4, Or.inl ⟨rfl, rfl⟩, Or.inl ⟨rfl, Or.inl (ab_in (i := 225) rfl rfl)⟩⟩
set_option maxRecDepth 20000 in
theorem gl_RX5_9 : ab_G RX5 "<init>" 9 5 3 1 := ⟨RX5, TX5, 13, tyX5, rfl, by decide, rfl, uw_5, tyX5_ok, nmX5, Or.inr ⟨by decide, Or.inl ⟨_, rfl⟩⟩, Or.inr ⟨rfl, rfl, rfl, ab_in (i := 120) rfl rfl⟩⟩
set_option maxRecDepth 20000 in
theorem gl_RX5_15 : ab_G RX5 "<init>" 15 5 4 1 := ⟨RX5, TX5, 13, tyX5, rfl, by decide, rfl, uw_5, tyX5_ok, nmX5, Or.inr ⟨by decide, Or.inl ⟨_, rfl⟩⟩, Or.inr ⟨rfl, rfl, rfl, ab_in (i := 122) rfl rfl⟩⟩
set_option maxRecDepth 20000 in
theorem gl_RX5_18 : ab_G RX5 "<init>" 18 5 5 1 := ⟨RX5, TX5, 13, tyX5, rfl, by decide, rfl, uw_5, tyX5_ok, nmX5, Or.inr ⟨by decide, Or.inl ⟨_, rfl⟩⟩, Or.inr ⟨rfl, rfl, rfl, ab_in (i := 123) rfl rfl⟩⟩
set_option maxRecDepth 20000 in
theorem gl_RX5_21 : ab_G RX5 "<init>" 21 5 6 1 := ⟨RX5, TX5, 13, tyX5, rfl, by decide, rfl, uw_5, tyX5_ok, nmX5, Or.inr ⟨by decide, Or.inl ⟨_, rfl⟩⟩, Or.inr ⟨rfl, rfl, rfl, ab_in (i := 127) rfl rfl⟩⟩
set_option maxRecDepth 20000 in
theorem gl_RX5_24 : ab_G RX5 "<init>" 24 5 7 1 := ⟨RX5, TX5, 13, tyX5, rfl, by decide, rfl, uw_5, tyX5_ok, nmX5, Or.inr ⟨by decide, Or.inl ⟨_, rfl⟩⟩, Or.inr ⟨rfl, rfl, rfl, ab_in (i := 130) rfl rfl⟩⟩
set_option maxRecDepth 20000 in
theorem gl_RX5_27 : ab_G RX5 "<init>" 27 5 8 1 := ⟨RX5, TX5, 13, tyX5, rfl, by decide, rfl, uw_5, tyX5_ok, nmX5, Or.inr ⟨by decide, Or.inl ⟨_, rfl⟩⟩, Or.inr ⟨rfl, rfl, rfl, ab_in (i := 133) rfl rfl⟩⟩
set_option maxRecDepth 20000 in
theorem gl_RX5_30 : ab_G RX5 "<init>" 30 5 9 1 := ⟨RX5, TX5, 13, tyX5, rfl, by decide, rfl, uw_5, tyX5_ok, nmX5, Or.inr ⟨by decide, Or.inl ⟨_, rfl⟩⟩, Or.inr ⟨rfl, rfl, rfl, ab_in (i := 136) rfl rfl⟩⟩
set_option maxRecDepth 20000 in
theorem gl_RX5_33 : ab_G RX5 "<init>" 33 5 10 1 := ⟨RX5, TX5, 13, tyX5, rfl, by decide, rfl, uw_5, tyX5_ok, nmX5, Or.inr ⟨by decide, Or.inl ⟨_, rfl⟩⟩, Or.inr ⟨rfl, rfl, rfl, ab_in (i := 139) rfl rfl⟩⟩
set_option maxRecDepth 20000 in
theorem gl_RX5_36 : ab_G RX5 "<init>" 36 5 11 1 := ⟨RX5, TX5, 13, tyX5, rfl, by decide, rfl, uw_5, tyX5_ok, nmX5, Or.inr ⟨by decide, Or.inl ⟨_, rfl⟩⟩, Or.inr ⟨rfl, rfl, rfl, ab_in (i := 142) rfl rfl⟩⟩
set_option maxRecDepth 20000 in
theorem gl_RX5_39 : ab_G RX5 "<init>" 39 5 12 1 := ⟨RX5, TX5, 13, tyX5, rfl, by decide, rfl, uw_5, tyX5_ok, nmX5, Or.inr ⟨by decide, Or.inl ⟨_, rfl⟩⟩, Or.inr ⟨rfl, rfl, rfl, ab_in (i := 145) rfl rfl⟩⟩
set_option maxRecDepth 20000 in
theorem gl_RX5_42 (nm : String) : ab_G RX5 nm 42 5 0 0 := ⟨RX5, TX5, 13, tyX5, rfl, by decide, rfl, uw_5, tyX5_ok, nmX5, Or.inl ⟨rfl, rfl⟩, Or.inl ⟨rfl, Or.inl (ab_in (i := 106) rfl rfl)⟩⟩
set_option maxRecDepth 20000 in
theorem gl_RX5_46 (nm : String) : ab_G RX5 nm 46 5 1 0 := ⟨RX5, TX5, 13, tyX5, rfl, by decide, rfl, uw_5, tyX5_ok, nmX5, Or.inl ⟨rfl, rfl⟩, Or.inl ⟨rfl, Or.inl (ab_in (i := 112) rfl rfl)⟩⟩
set_option maxRecDepth 20000 in
theorem gl_RX5_49 (nm : String) : ab_G RX5 nm 49 5 2 0 := ⟨RX5, TX5, 13, tyX5, rfl, by decide, rfl, uw_5, tyX5_ok, nmX5, Or.inl ⟨rfl, rfl⟩, Or.inl ⟨rfl, Or.inl (ab_in (i := 116) rfl rfl)⟩⟩
set_option maxRecDepth 20000 in
theorem gl_RX6_12 : ab_G RX6 "<init>" 12 6 0 1 := ⟨RX6, TX6, 7, tyX6, rfl, by decide, rfl, uw_6, tyX6_ok, nmX6, Or.inr ⟨by decide, Or.inr ⟨_, rfl⟩⟩, Or.inr ⟨rfl, rfl, rfl, ab_in (i := 175) rfl rfl⟩⟩
set_option maxRecDepth 20000 in
theorem gl_RX6_21 : ab_G RX6 "<init>" 21 6 1 1 := ⟨RX6, TX6, 7, tyX6, rfl, by decide, rfl, uw_6, tyX6_ok, nmX6, Or.inr ⟨by decide, Or.inr ⟨_, rfl⟩⟩, Or.inr ⟨rfl, rfl, rfl, ab_in (i := 177) rfl rfl⟩⟩
set_option maxRecDepth 20000 in
theorem gl_RX6_25 : ab_G RX6 "<init>" 25 6 2 1 := ⟨RX6, TX6, 7, tyX6, rfl, by decide, rfl, uw_6, tyX6_ok, nmX6, Or.inr ⟨by decide, Or.inl ⟨_, rfl⟩⟩, Or.inr ⟨rfl, rfl, rfl, ab_in (i := 179) rfl rfl⟩⟩
set_option maxRecDepth 20000 in
theorem gl_RX6_29 (nm : String) : ab_G RX6 nm 29 6 3 0 := ⟨RX6, TX6, 7, tyX6, rfl, by decide, rfl, uw_6, tyX6_ok, nmX6, Or.inl ⟨rfl, rfl⟩, Or.inl ⟨rfl, Or.inl (ab_in (i := 180) rfl rfl)⟩⟩
set_option maxRecDepth 20000 in
theorem gl_RX6_33 (nm : String) : ab_G RX6 nm 33 6 5 0 := ⟨RX6, TX6, 7, tyX6, rfl, by decide, rfl, uw_6, tyX6_ok, nmX6, Or.inl ⟨rfl, rfl⟩, Or.inl ⟨rfl, Or.inl (ab_in (i := 182) rfl rfl)⟩⟩
set_option maxRecDepth 20000 in
theorem gl_RX6_36 (nm : String) : ab_G RX6 nm 36 6 6 0 := ⟨RX6, TX6, 7, tyX6, rfl, by decide, rfl, uw_6, tyX6_ok, nmX6, Or.inl ⟨rfl, rfl⟩, Or.inl ⟨rfl, Or.inl (ab_in (i := 184) rfl rfl)⟩⟩
set_option maxRecDepth 20000 in
theorem gl_RX6_114 (nm : String) : ab_G RX6 nm 114 6 4 0 := ⟨RX6, TX6, 7, tyX6, rfl, by decide, rfl, uw_6, tyX6_ok, nmX6, Or.inl ⟨rfl, rfl⟩, Or.inl ⟨rfl, Or.inl (ab_in (i := 181) rfl rfl)⟩⟩
set_option maxRecDepth 20000 in
theorem gl_RX7_11 : ab_G RX7 "<init>" 11 7 0 1 := ⟨RX7, TX7, 2, tyX7, rfl, by decide, rfl, uw_7, tyX7_ok, nmX7, Or.inr ⟨by decide, Or.inl ⟨_, rfl⟩⟩, Or.inr ⟨rfl, rfl, rfl, ab_in (i := 303) rfl rfl⟩⟩
set_option maxRecDepth 20000 in
theorem gl_RX7_15 (nm : String) : ab_G RX7 nm 15 7 1 0 := ⟨RX7, TX7, 2, tyX7, rfl, by decide, rfl, uw_7, tyX7_ok, nmX7, Or.inl ⟨rfl, rfl⟩, Or.inl ⟨rfl, Or.inl (ab_in (i := 305) rfl rfl)⟩⟩
set_option maxRecDepth 20000 in
theorem gl_RX8_11 : ab_G RX8 "<init>" 11 8 0 1 := ⟨RX8, TX8, 1, tyX8, rfl, by decide, rfl, uw_8, tyX8_ok, nmX8, Or.inr ⟨by decide, Or.inl ⟨_, rfl⟩⟩, Or.inr ⟨rfl, rfl, rfl, ab_in (i := 209) rfl rfl⟩⟩
set_option maxRecDepth 20000 in
theorem gl_RX9_10 : ab_G RX9 "<init>" 10 9 0 1 := ⟨RX9, TX9, 9, tyX9, rfl, by decide, rfl, uw_9, tyX9_ok, nmX9, Or.inr ⟨by decide, Or.inr ⟨_, rfl⟩⟩, Or.inr ⟨rfl, rfl, rfl, ab_in (i := 332) rfl rfl⟩⟩
set_option maxRecDepth 20000 in
theorem gl_RX9_19 : ab_G RX9 "<init>" 19 9 1 1 := ⟨RX9, TX9, 9, tyX9, rfl, by decide, rfl, uw_9, tyX9_ok, nmX9, Or.inr ⟨by decide, Or.inr ⟨_, rfl⟩⟩, Or.inr ⟨rfl, rfl, rfl, ab_in (i := 333) rfl rfl⟩⟩
set_option maxRecDepth 20000 in
theorem gl_RX9_26 : ab_G RX9 "<init>" 26 9 2 1 := ⟨RX9, TX9, 9, tyX9, rfl, by decide, rfl, uw_9, tyX9_ok, nmX9, Or.inr ⟨by decide, Or.inr ⟨_, rfl⟩⟩, Or.inr ⟨rfl, rfl, rfl, ab_in (i := 334) rfl rfl⟩⟩
set_option maxRecDepth 20000 in
theorem gl_RX9_33 : ab_G RX9 "<init>" 33 9 3 1 := ⟨RX9, TX9, 9, tyX9, rfl, by decide, rfl, uw_9, tyX9_ok, nmX9, Or.inr ⟨by decide, Or.inr ⟨_, rfl⟩⟩, Or.inr ⟨rfl, rfl, rfl, ab_in (i := 335) rfl rfl⟩⟩
set_option maxRecDepth 20000 in
theorem gl_RX9_40 : ab_G RX9 "<init>" 40 9 4 1 := ⟨RX9, TX9, 9, tyX9, rfl, by decide, rfl, uw_9, tyX9_ok, nmX9, Or.inr ⟨by decide, Or.inr ⟨_, rfl⟩⟩, Or.inr ⟨rfl, rfl, rfl, ab_in (i := 336) rfl rfl⟩⟩
set_option maxRecDepth 20000 in
theorem gl_RX9_47 : ab_G RX9 "<init>" 47 9 5 1 := ⟨RX9, TX9, 9, tyX9, rfl, by decide, rfl, uw_9, tyX9_ok, nmX9, Or.inr ⟨by decide, Or.inr ⟨_, rfl⟩⟩, Or.inr ⟨rfl, rfl, rfl, ab_in (i := 337) rfl rfl⟩⟩
set_option maxRecDepth 20000 in
theorem gl_RX9_54 : ab_G RX9 "<init>" 54 9 6 1 := ⟨RX9, TX9, 9, tyX9, rfl, by decide, rfl, uw_9, tyX9_ok, nmX9, Or.inr ⟨by decide, Or.inr ⟨_, rfl⟩⟩, Or.inr ⟨rfl, rfl, rfl, ab_in (i := 338) rfl rfl⟩⟩
set_option maxRecDepth 20000 in
theorem gl_RX9_61 : ab_G RX9 "<init>" 61 9 7 1 := ⟨RX9, TX9, 9, tyX9, rfl, by decide, rfl, uw_9, tyX9_ok, nmX9, Or.inr ⟨by decide, Or.inr ⟨_, rfl⟩⟩, Or.inr ⟨rfl, rfl, rfl, ab_in (i := 339) rfl rfl⟩⟩
set_option maxRecDepth 20000 in
theorem gl_RX9_65 (nm : String) : ab_G RX9 nm 65 9 8 0 := ⟨RX9, TX9, 9, tyX9, rfl, by decide, rfl, uw_9, tyX9_ok, nmX9, Or.inl ⟨rfl, rfl⟩, Or.inl ⟨rfl, Or.inl (ab_in (i := 340) rfl rfl)⟩⟩
end
section
/-! method tables (by program) -/
def mX0_init : MI := (yX0_init, cX0_init, 1, none, [(0, .aload_n 0, 1, 0, 0, 0, 0), (1, .invokespecial 5, 3, 1, 0, 0, 0), (4, .aload_n 0, 1, 0, 0, 0, 0), (5, .bipush 6, 2, 0, 0, 6, 0), (7, .newarray .int, 2, 0, 0, 0, 0), (9, .putfield 11, 3, 0, 0, 1, 0), (12, .aload_n 0, 1, 0, 0, 0, 0), (13, .bipush 6, 2, 0, 0, 6, 0), (15, .newarray .int, 2, 0, 0, 0, 0), (17, .putfield 15, 3, 0, 1, 1, 0), (20, .aload_n 0, 1, 0, 0, 0, 0), (21, .bipush 6, 2, 0, 0, 6, 0), (23, .newarray .int, 2, 0, 0, 0, 0), (25, .putfield 18, 3, 0, 2, 1, 0), (28, .aload_n 0, 1, 0, 0, 0, 0), (29, .bipush 6, 2, 0, 0, 6, 0), (31, .newarray .int, 2, 0, 0, 0, 0), (33, .putfield 21, 3, 0, 3, 1, 0), (36, .aload_n 0, 1, 0, 0, 0, 0), (37, .bipush 6, 2, 0, 0, 6, 0), (39, .newarray .int, 2, 0, 0, 0, 0), (41, .putfield 24, 3, 0, 4, 1, 0), (44, .return_, 1, 0, 0, 0, 0)])
set_option maxRecDepth 20000 in
theorem okX0_init : ab_ok mX0_init := ⟨by decide, by decide +kernel, trivial, fun _ => ab_in (i := 269) rfl rfl, trivial, trivial, trivial, gl_RX0_11, trivial, trivial, trivial, gl_RX0_15, trivial, trivial, trivial, gl_RX0_18, trivial, trivial, trivial, gl_RX0_21, trivial, trivial, trivial, gl_RX0_24, trivial, trivial⟩
def mX0_isFound : MI := (yX0_isFound, cX0_isFound, 1, (some .boolean), [(0, .aload_n 0, 1, 0, 0, 0, 0), (1, .getfield 27, 3, 0, 5, 0, 0), (4, .bipush 13, 2, 0, 0, 13, 0), (6, .if_icmp .ge 7, 3, 13, 0, 0, 0), (9, .iconst 1, 1, 0, 0, 1, 0), (10, .goto 4, 3, 14, 0, 0, 0), (13, .iconst 0, 1, 0, 0, 0, 0), (14, .ireturn, 1, 0, 0, 0, 0)])
set_option maxRecDepth 20000 in
theorem okX0_isFound : ab_ok mX0_isFound := ⟨by decide, by decide +kernel, trivial, fl_RX0_27, trivial, trivial, trivial, trivial, trivial, trivial, trivial⟩
def mX0_search : MI := (yX0_search, cX0_search, 5, none, [(0, .aload_n 0, 1, 0, 0, 0, 0), (1, .aload_n 1, 1, 1, 0, 0, 0), (2, .getfield 31, 3, 5, 0, 0, 0), (5, .putfield 36, 3, 0, 7, 0, 0), (8, .aload_n 0, 1, 0, 0, 0, 0), (9, .aload_n 2, 1, 2, 0, 0, 0), (10, .invokevirtual 37, 3, 0, 0, 0, 0), (13, .aload_n 2, 1, 2, 0, 0, 0), (14, .invokevirtual 43, 3, 0, 0, 0, 0), (17, .iconst (-1), 1, 0, 0, (-1), 0), (18, .ixor, 1, 0, 0, 0, 0), (19, .iand, 1, 0, 0, 0, 0), (20, .putfield 46, 3, 0, 6, 0, 0), (23, .aload_n 0, 1, 0, 0, 0, 0), (24, .bipush 13, 2, 0, 0, 13, 0), (26, .putfield 27, 3, 0, 5, 0, 0), (29, .iconst 0, 1, 0, 0, 0, 0), (30, .istore_n 3, 1, 3, 0, 0, 0), (31, .iload_n 3, 1, 3, 0, 0, 0), (32, .aload_n 0, 1, 0, 0, 0, 0), (33, .getfield 36, 3, 0, 7, 0, 0), (36, .if_icmp .ge 73, 3, 109, 0, 0, 0), (39, .aload_n 2, 1, 2, 0, 0, 0), (40, .aload_n 1, 1, 1, 0, 0, 0), (41, .iload_n 3, 1, 3, 0, 0, 0), (42, .iconst 0, 1, 0, 0, 0, 0), (43, .invokevirtual 49, 3, 0, 0, 0, 0), (46, .istore 4, 2, 4, 0, 0, 0), (48, .aload_n 0, 1, 0, 0, 0, 0), (49, .getfield 11, 3, 0, 0, 0, 0), (52, .iload_n 3, 1, 3, 0, 0, 0), (53, .aload_n 2, 1, 2, 0, 0, 0), (54, .aload_n 1, 1, 1, 0, 0, 0), (55, .iload_n 3, 1, 3, 0, 0, 0), (56, .iconst 1, 1, 0, 0, 1, 0), (57, .invokevirtual 49, 3, 0, 0, 0, 0), (60, .iload 4, 2, 4, 0, 0, 0), (62, .isub, 1, 0, 0, 0, 0), (63, .iastore, 1, 0, 0, 0, 0), (64, .aload_n 0, 1, 0, 0, 0, 0), (65, .getfield 15, 3, 0, 1, 0, 0), (68, .iload_n 3, 1, 3, 0, 0, 0), (69, .aload_n 2, 1, 2, 0, 0, 0), (70, .aload_n 1, 1, 1, 0, 0, 0), (71, .iload_n 3, 1, 3, 0, 0, 0), (72, .iconst 2, 1, 0, 0, 2, 0), (73, .invokevirtual 49, 3, 0, 0, 0, 0), (76, .iload 4, 2, 4, 0, 0, 0), (78, .isub, 1, 0, 0, 0, 0), (79, .iastore, 1, 0, 0, 0, 0), (80, .aload_n 0, 1, 0, 0, 0, 0), (81, .getfield 18, 3, 0, 2, 0, 0), (84, .iload_n 3, 1, 3, 0, 0, 0), (85, .aload_n 2, 1, 2, 0, 0, 0), (86, .aload_n 1, 1, 1, 0, 0, 0), (87, .iload_n 3, 1, 3, 0, 0, 0), (88, .iconst 3, 1, 0, 0, 3, 0), (89, .invokevirtual 49, 3, 0, 0, 0, 0), (92, .iload 4, 2, 4, 0, 0, 0), (94, .isub, 1, 0, 0, 0, 0), (95, .iastore, 1, 0, 0, 0, 0), (96, .aload_n 0, 1, 0, 0, 0, 0), (97, .getfield 21, 3, 0, 3, 0, 0), (100, .iload_n 3, 1, 3, 0, 0, 0), (101, .iconst 0, 1, 0, 0, 0, 0), (102, .iastore, 1, 0, 0, 0, 0), (103, .iinc 3 1, 3, 3, 0, 1, 0), (106, .goto (-75), 3, 31, 0, 0, 0), (109, .iconst 1, 1, 0, 0, 1, 0), (110, .istore_n 3, 1, 3, 0, 0, 0), (111, .iload_n 3, 1, 3, 0, 0, 0), (112, .iconst 3, 1, 0, 0, 3, 0), (113, .if_icmp .gt 19, 3, 132, 0, 0, 0), (116, .aload_n 0, 1, 0, 0, 0, 0), (117, .iconst 0, 1, 0, 0, 0, 0), (118, .iload_n 3, 1, 3, 0, 0, 0), (119, .iconst 0, 1, 0, 0, 0, 0), (120, .iconst 0, 1, 0, 0, 0, 0), (121, .iconst 0, 1, 0, 0, 0, 0), (122, .iconst 0, 1, 0, 0, 0, 0), (123, .invokevirtual 53, 3, 0, 0, 0, 0), (126, .iinc 3 1, 3, 3, 0, 1, 0), (129, .goto (-18), 3, 111, 0, 0, 0), (132, .return_, 1, 0, 0, 0, 0)])
set_option maxRecDepth 20000 in
theorem okX0_search : ab_ok mX0_search := ⟨by decide, by decide +kernel, trivial, trivial, fl_RX0_31, (gl_RX0_36 _), trivial, trivial, trivial, trivial, trivial, trivial, trivial, trivial, (gl_RX0_46 _), trivial, trivial, (gl_RX0_27 _), trivial, trivial, trivial, trivial, fl_RX0_36, trivial, trivial, trivial, trivial, trivial, trivial, trivial, trivial, fl_RX0_11, trivial, trivial, trivial, trivial, trivial, trivial, trivial, trivial, trivial, trivial, fl_RX0_15, trivial, trivial, trivial, trivial, trivial, trivial, trivial, trivial, trivial, trivial, fl_RX0_18, trivial, trivial, trivial, trivial, trivial, trivial, trivial, trivial, trivial, trivial, fl_RX0_21, trivial, trivial, trivial, trivial, trivial, trivial, trivial, trivial, trivial, trivial, trivial, trivial, trivial, trivial, trivial, trivial, trivial, trivial, trivial, trivial, trivial, trivial⟩
def mX0_extend : MI := (yX0_extend, cX0_extend, 9, none, [(0, .iload_n 2, 1, 2, 0, 0, 0), (1, .ifCond .gt 47, 3, 48, 0, 0, 0), (4, .iload_n 3, 1, 3, 0, 0, 0), (5, .aload_n 0, 1, 0, 0, 0, 0), (6, .getfield 27, 3, 0, 5, 0, 0), (9, .if_icmp .ge 38, 3, 47, 0, 0, 0), (12, .iload 4, 2, 4, 0, 0, 0), (14, .ifCond .ne 33, 3, 47, 0, 0, 0), (17, .iload 5, 2, 5, 0, 0, 0), (19, .ifCond .ne 28, 3, 47, 0, 0, 0), (22, .iload 6, 2, 6, 0, 0, 0), (24, .ifCond .ne 23, 3, 47, 0, 0, 0), (27, .aload_n 0, 1, 0, 0, 0, 0), (28, .iload_n 3, 1, 3, 0, 0, 0), (29, .putfield 27, 3, 0, 5, 0, 0), (32, .aload_n 0, 1, 0, 0, 0, 0), (33, .getfield 21, 3, 0, 3, 0, 0), (36, .iconst 0, 1, 0, 0, 0, 0), (37, .aload_n 0, 1, 0, 0, 0, 0), (38, .getfield 24, 3, 0, 4, 0, 0), (41, .iconst 0, 1, 0, 0, 0, 0), (42, .bipush 6, 2, 0, 0, 6, 0), (44, .invokestatic 57, 3, 1, 0, 0, 0), (47, .return_, 1, 0, 0, 0, 0), (48, .iload_n 1, 1, 1, 0, 0, 0), (49, .istore 7, 2, 7, 0, 0, 0), (51, .iload 7, 2, 7, 0, 0, 0), (53, .aload_n 0, 1, 0, 0, 0, 0), (54, .getfield 36, 3, 0, 7, 0, 0), (57, .if_icmp .ge 122, 3, 179, 0, 0, 0), (60, .aload_n 0, 1, 0, 0, 0, 0), (61, .getfield 46, 3, 0, 6, 0, 0), (64, .iload 7, 2, 7, 0, 0, 0), (66, .ishr, 1, 0, 0, 0, 0), (67, .iconst 1, 1, 0, 0, 1, 0), (68, .iand, 1, 0, 0, 0, 0), (69, .ifCond .eq 104, 3, 173, 0, 0, 0), (72, .iconst 1, 1, 0, 0, 1, 0), (73, .istore 8, 2, 8, 0, 0, 0), (75, .iload 8, 2, 8, 0, 0, 0), (77, .iconst 4, 1, 0, 0, 4, 0), (78, .if_icmp .gt 87, 3, 165, 0, 0, 0), (81, .iload_n 3, 1, 3, 0, 0, 0), (82, .iload 8, 2, 8, 0, 0, 0), (84, .iadd, 1, 0, 0, 0, 0), (85, .iload_n 2, 1, 2, 0, 0, 0), (86, .iadd, 1, 0, 0, 0, 0), (87, .iconst 1, 1, 0, 0, 1, 0), (88, .isub, 1, 0, 0, 0, 0), (89, .aload_n 0, 1, 0, 0, 0, 0), (90, .getfield 27, 3, 0, 5, 0, 0), (93, .if_icmp .ge 72, 3, 165, 0, 0, 0), (96, .aload_n 0, 1, 0, 0, 0, 0), (97, .getfield 21, 3, 0, 3, 0, 0), (100, .iload 7, 2, 7, 0, 0, 0), (102, .iload 8, 2, 8, 0, 0, 0), (104, .iastore, 1, 0, 0, 0, 0), (105, .aload_n 0, 1, 0, 0, 0, 0), (106, .iload 7, 2, 7, 0, 0, 0), (108, .iconst 1, 1, 0, 0, 1, 0), (109, .iadd, 1, 0, 0, 0, 0), (110, .iload_n 2, 1, 2, 0, 0, 0), (111, .iconst 1, 1, 0, 0, 1, 0), (112, .isub, 1, 0, 0, 0, 0), (113, .iload_n 3, 1, 3, 0, 0, 0), (114, .iload 8, 2, 8, 0, 0, 0), (116, .iadd, 1, 0, 0, 0, 0), (117, .iload 4, 2, 4, 0, 0, 0), (119, .iload 8, 2, 8, 0, 0, 0), (121, .aload_n 0, 1, 0, 0, 0, 0), (122, .getfield 11, 3, 0, 0, 0, 0), (125, .iload 7, 2, 7, 0, 0, 0), (127, .iaload, 1, 0, 0, 0, 0), (128, .imul, 1, 0, 0, 0, 0), (129, .iadd, 1, 0, 0, 0, 0), (130, .iload 5, 2, 5, 0, 0, 0), (132, .iload 8, 2, 8, 0, 0, 0), (134, .aload_n 0, 1, 0, 0, 0, 0), (135, .getfield 15, 3, 0, 1, 0, 0), (138, .iload 7, 2, 7, 0, 0, 0), (140, .iaload, 1, 0, 0, 0, 0), (141, .imul, 1, 0, 0, 0, 0), (142, .iadd, 1, 0, 0, 0, 0), (143, .iload 6, 2, 6, 0, 0, 0), (145, .iload 8, 2, 8, 0, 0, 0), (147, .aload_n 0, 1, 0, 0, 0, 0), (148, .getfield 18, 3, 0, 2, 0, 0), (151, .iload 7, 2, 7, 0, 0, 0), (153, .iaload, 1, 0, 0, 0, 0), (154, .imul, 1, 0, 0, 0, 0), (155, .iadd, 1, 0, 0, 0, 0), (156, .invokevirtual 53, 3, 0, 0, 0, 0), (159, .iinc 8 1, 3, 8, 0, 1, 0), (162, .goto (-87), 3, 75, 0, 0, 0), (165, .aload_n 0, 1, 0, 0, 0, 0), (166, .getfield 21, 3, 0, 3, 0, 0), (169, .iload 7, 2, 7, 0, 0, 0), (171, .iconst 0, 1, 0, 0, 0, 0), (172, .iastore, 1, 0, 0, 0, 0), (173, .iinc 7 1, 3, 7, 0, 1, 0), (176, .goto (-125), 3, 51, 0, 0, 0), (179, .return_, 1, 0, 0, 0, 0)])
set_option maxRecDepth 20000 in
theorem okX0_extend : ab_ok mX0_extend := ⟨by decide, by decide +kernel, trivial, trivial, trivial, trivial, fl_RX0_27, trivial, trivial, trivial, trivial, trivial, trivial, trivial, trivial, trivial, (gl_RX0_27 _), trivial, fl_RX0_21, trivial, trivial, fl_RX0_24, trivial, trivial, ⟨fun _ => ab_in (i := 698) rfl rfl, fun z => absurd z (by decide), fun z => absurd z (by decide), fun z => absurd z (by decide)⟩, trivial, trivial, trivial, trivial, trivial, fl_RX0_36, trivial, trivial, fl_RX0_46, trivial, trivial, trivial, trivial, trivial, trivial, trivial, trivial, trivial, trivial, trivial, trivial, trivial, trivial, trivial, trivial, trivial, trivial, fl_RX0_27, trivial, trivial, fl_RX0_21, trivial, trivial, trivial, trivial, trivial, trivial, trivial, trivial, trivial, trivial, trivial, trivial, trivial, trivial, trivial, trivial, fl_RX0_11, trivial, trivial, trivial, trivial, trivial, trivial, trivial, fl_RX0_15, trivial, trivial, trivial, trivial, trivial, trivial, trivial, fl_RX0_18, trivial, trivial, trivial, trivial, trivial, trivial, trivial, trivial, fl_RX0_21, trivial, trivial, trivial, trivial, trivial, trivial, trivial⟩
def mX1_init : MI := (yX1_init, cX1_init, 1, none, [(0, .aload_n 0, 1, 0, 0, 0, 0), (1, .invokespecial 3, 3, 1, 0, 0, 0), (4, .aload_n 0, 1, 0, 0, 0, 0), (5, .bipush 64, 2, 0, 0, 64, 0), (7, .newarray .int, 2, 0, 0, 0, 0), (9, .putfield 11, 3, 1, 0, 1, 0), (12, .aload_n 0, 1, 0, 0, 0, 0), (13, .bipush 6, 2, 0, 0, 6, 0), (15, .newarray .int, 2, 0, 0, 0, 0), (17, .putfield 15, 3, 1, 1, 1, 0), (20, .aload_n 0, 1, 0, 0, 0, 0), (21, .bipush 6, 2, 0, 0, 6, 0), (23, .newarray .int, 2, 0, 0, 0, 0), (25, .putfield 18, 3, 1, 2, 1, 0), (28, .return_, 1, 0, 0, 0, 0)])
set_option maxRecDepth 20000 in
theorem okX1_init : ab_ok mX1_init := ⟨by decide, by decide +kernel, trivial, fun _ => ab_in (i := 317) rfl rfl, trivial, trivial, trivial, gl_RX1_11, trivial, trivial, trivial, gl_RX1_15, trivial, trivial, trivial, gl_RX1_18, trivial, trivial⟩
def mX1_apartTogether : MI := (yX1_apartTogether, cX1_apartTogether, 1, (some .int), [(0, .aload_n 0, 1, 0, 0, 0, 0), (1, .getfield 11, 3, 1, 0, 0, 0), (4, .iconst 0, 1, 0, 0, 0, 0), (5, .iaload, 1, 0, 0, 0, 0), (6, .ireturn, 1, 0, 0, 0, 0)])
set_option maxRecDepth 20000 in
theorem okX1_apartTogether : ab_ok mX1_apartTogether := ⟨by decide, by decide +kernel, trivial, fl_RX1_11, trivial, trivial, trivial, trivial⟩
def mX1_search : MI := (yX1_search, cX1_search, 3, none, [(0, .aload_n 0, 1, 0, 0, 0, 0), (1, .iconst 0, 1, 0, 0, 0, 0), (2, .putfield 21, 3, 1, 3, 0, 0), (5, .iconst 0, 1, 0, 0, 0, 0), (6, .istore_n 2, 1, 2, 0, 0, 0), (7, .iload_n 2, 1, 2, 0, 0, 0), (8, .bipush 6, 2, 0, 0, 6, 0), (10, .if_icmp .ge 44, 3, 54, 0, 0, 0), (13, .aload_n 0, 1, 0, 0, 0, 0), (14, .getfield 15, 3, 1, 1, 0, 0), (17, .iload_n 2, 1, 2, 0, 0, 0), (18, .iconst (-1), 1, 0, 0, (-1), 0), (19, .iastore, 1, 0, 0, 0, 0), (20, .aload_n 1, 1, 1, 0, 0, 0), (21, .iload_n 2, 1, 2, 0, 0, 0), (22, .invokevirtual 25, 3, 0, 0, 0, 0), (25, .ifCond .eq 23, 3, 48, 0, 0, 0), (28, .aload_n 0, 1, 0, 0, 0, 0), (29, .getfield 18, 3, 1, 2, 0, 0), (32, .aload_n 0, 1, 0, 0, 0, 0), (33, .getfield 21, 3, 1, 3, 0, 0), (36, .iload_n 2, 1, 2, 0, 0, 0), (37, .iastore, 1, 0, 0, 0, 0), (38, .aload_n 0, 1, 0, 0, 0, 0), (39, .dup, 1, 0, 0, 0, 0), (40, .getfield 21, 3, 1, 3, 0, 0), (43, .iconst 1, 1, 0, 0, 1, 0), (44, .iadd, 1, 0, 0, 0, 0), (45, .putfield 21, 3, 1, 3, 0, 0), (48, .iinc 2 1, 3, 2, 0, 1, 0), (51, .goto (-44), 3, 7, 0, 0, 0), (54, .bipush 63, 2, 0, 0, 63, 0), (56, .istore_n 2, 1, 2, 0, 0, 0), (57, .iload_n 2, 1, 2, 0, 0, 0), (58, .ifCond .lt 32, 3, 90, 0, 0, 0), (61, .iload_n 2, 1, 2, 0, 0, 0), (62, .aload_n 1, 1, 1, 0, 0, 0), (63, .invokevirtual 31, 3, 0, 0, 0, 0), (66, .iconst (-1), 1, 0, 0, (-1), 0), (67, .ixor, 1, 0, 0, 0, 0), (68, .iand, 1, 0, 0, 0, 0), (69, .ifCond .ne 15, 3, 84, 0, 0, 0), (72, .aload_n 0, 1, 0, 0, 0, 0), (73, .getfield 11, 3, 1, 0, 0, 0), (76, .iload_n 2, 1, 2, 0, 0, 0), (77, .aload_n 0, 1, 0, 0, 0, 0), (78, .aload_n 1, 1, 1, 0, 0, 0), (79, .iload_n 2, 1, 2, 0, 0, 0), (80, .invokevirtual 35, 3, 0, 0, 0, 0), (83, .iastore, 1, 0, 0, 0, 0), (84, .iinc 2 (-1), 3, 2, 0, (-1), 0), (87, .goto (-30), 3, 57, 0, 0, 0), (90, .aload_n 0, 1, 0, 0, 0, 0), (91, .aload_n 1, 1, 1, 0, 0, 0), (92, .invokevirtual 39, 3, 0, 0, 0, 0), (95, .return_, 1, 0, 0, 0, 0)])
set_option maxRecDepth 20000 in
theorem okX1_search : ab_ok mX1_search := ⟨by decide, by decide +kernel, trivial, trivial, (gl_RX1_21 _), trivial, trivial, trivial, trivial, trivial, trivial, fl_RX1_15, trivial, trivial, trivial, trivial, trivial, trivial, trivial, trivial, fl_RX1_18, trivial, fl_RX1_21, trivial, trivial, trivial, trivial, fl_RX1_21, trivial, trivial, (gl_RX1_21 _), trivial, trivial, trivial, trivial, trivial, trivial, trivial, trivial, trivial, trivial, trivial, trivial, trivial, trivial, fl_RX1_11, trivial, trivial, trivial, trivial, trivial, trivial, trivial, trivial, trivial, trivial, trivial, trivial, trivial⟩
def mX1_leastFrom : MI := (yX1_leastFrom, cX1_leastFrom, 6, (some .int), [(0, .iload_n 2, 1, 2, 0, 0, 0), (1, .invokestatic 43, 3, 0, 0, 0, 0), (4, .istore_n 3, 1, 3, 0, 0, 0), (5, .iload_n 3, 1, 3, 0, 0, 0), (6, .aload_n 0, 1, 0, 0, 0, 0), (7, .getfield 21, 3, 1, 3, 0, 0), (10, .if_icmp .lt 5, 3, 15, 0, 0, 0), (13, .iconst 0, 1, 0, 0, 0, 0), (14, .ireturn, 1, 0, 0, 0, 0), (15, .ldc 49, 2, 0, 0, 1000000, 0), (17, .istore 4, 2, 4, 0, 0, 0), (19, .iconst 0, 1, 0, 0, 0, 0), (20, .istore 5, 2, 5, 0, 0, 0), (22, .iload 5, 2, 5, 0, 0, 0), (24, .aload_n 0, 1, 0, 0, 0, 0), (25, .getfield 21, 3, 1, 3, 0, 0), (28, .if_icmp .ge 36, 3, 64, 0, 0, 0), (31, .aload_n 0, 1, 0, 0, 0, 0), (32, .iload_n 2, 1, 2, 0, 0, 0), (33, .iload_n 3, 1, 3, 0, 0, 0), (34, .iload 5, 2, 5, 0, 0, 0), (36, .invokevirtual 50, 3, 0, 0, 0, 0), (39, .ifCond .eq 19, 3, 58, 0, 0, 0), (42, .iload 4, 2, 4, 0, 0, 0), (44, .aload_n 0, 1, 0, 0, 0, 0), (45, .aload_n 1, 1, 1, 0, 0, 0), (46, .iload_n 2, 1, 2, 0, 0, 0), (47, .iload_n 3, 1, 3, 0, 0, 0), (48, .iload 5, 2, 5, 0, 0, 0), (50, .invokevirtual 54, 3, 0, 0, 0, 0), (53, .invokestatic 58, 3, 3, 0, 0, 0), (56, .istore 4, 2, 4, 0, 0, 0), (58, .iinc 5 1, 3, 5, 0, 1, 0), (61, .goto (-39), 3, 22, 0, 0, 0), (64, .iload 4, 2, 4, 0, 0, 0), (66, .ireturn, 1, 0, 0, 0, 0)])
set_option maxRecDepth 20000 in
theorem okX1_leastFrom : ab_ok mX1_leastFrom := ⟨by decide, by decide +kernel, trivial, ⟨fun z => absurd z (by decide), fun z => absurd z (by decide), fun z => absurd z (by decide), fun z => absurd z (by decide)⟩, trivial, trivial, trivial, fl_RX1_21, trivial, trivial, trivial, ab_in (i := 749) rfl rfl, trivial, trivial, trivial, trivial, trivial, fl_RX1_21, trivial, trivial, trivial, trivial, trivial, trivial, trivial, trivial, trivial, trivial, trivial, trivial, trivial, trivial, ⟨fun z => absurd z (by decide), fun z => absurd z (by decide), fun _ => ab_in (i := 762) rfl rfl, fun z => absurd z (by decide)⟩, trivial, trivial, trivial, trivial, trivial, trivial⟩
def mX1_chooseAll : MI := (yX1_chooseAll, cX1_chooseAll, 6, none, [(0, .iconst 0, 1, 0, 0, 0, 0), (1, .istore_n 2, 1, 2, 0, 0, 0), (2, .iconst 0, 1, 0, 0, 0, 0), (3, .istore_n 3, 1, 3, 0, 0, 0), (4, .iload_n 3, 1, 3, 0, 0, 0), (5, .aload_n 0, 1, 0, 0, 0, 0), (6, .getfield 21, 3, 1, 3, 0, 0), (9, .if_icmp .ge 97, 3, 106, 0, 0, 0), (12, .iconst 0, 1, 0, 0, 0, 0), (13, .istore 4, 2, 4, 0, 0, 0), (15, .iconst 0, 1, 0, 0, 0, 0), (16, .istore 5, 2, 5, 0, 0, 0), (18, .iload 5, 2, 5, 0, 0, 0), (20, .aload_n 0, 1, 0, 0, 0, 0), (21, .getfield 21, 3, 1, 3, 0, 0), (24, .if_icmp .ge 76, 3, 100, 0, 0, 0), (27, .iload 4, 2, 4, 0, 0, 0), (29, .ifCond .ne 71, 3, 100, 0, 0, 0), (32, .aload_n 0, 1, 0, 0, 0, 0), (33, .iload_n 2, 1, 2, 0, 0, 0), (34, .iload_n 3, 1, 3, 0, 0, 0), (35, .iload 5, 2, 5, 0, 0, 0), (37, .invokevirtual 50, 3, 0, 0, 0, 0), (40, .ifCond .eq 54, 3, 94, 0, 0, 0), (43, .aload_n 0, 1, 0, 0, 0, 0), (44, .aload_n 1, 1, 1, 0, 0, 0), (45, .iload_n 2, 1, 2, 0, 0, 0), (46, .iload_n 3, 1, 3, 0, 0, 0), (47, .iload 5, 2, 5, 0, 0, 0), (49, .invokevirtual 54, 3, 0, 0, 0, 0), (52, .aload_n 0, 1, 0, 0, 0, 0), (53, .getfield 11, 3, 1, 0, 0, 0), (56, .iload_n 2, 1, 2, 0, 0, 0), (57, .iaload, 1, 0, 0, 0, 0), (58, .if_icmp .ne 36, 3, 94, 0, 0, 0), (61, .aload_n 0, 1, 0, 0, 0, 0), (62, .getfield 15, 3, 1, 1, 0, 0), (65, .aload_n 0, 1, 0, 0, 0, 0), (66, .getfield 18, 3, 1, 2, 0, 0), (69, .iload_n 3, 1, 3, 0, 0, 0), (70, .iaload, 1, 0, 0, 0, 0), (71, .aload_n 0, 1, 0, 0, 0, 0), (72, .getfield 18, 3, 1, 2, 0, 0), (75, .iload 5, 2, 5, 0, 0, 0), (77, .iaload, 1, 0, 0, 0, 0), (78, .iastore, 1, 0, 0, 0, 0), (79, .iload_n 2, 1, 2, 0, 0, 0), (80, .iconst 1, 1, 0, 0, 1, 0), (81, .aload_n 0, 1, 0, 0, 0, 0), (82, .getfield 18, 3, 1, 2, 0, 0), (85, .iload 5, 2, 5, 0, 0, 0), (87, .iaload, 1, 0, 0, 0, 0), (88, .ishl, 1, 0, 0, 0, 0), (89, .ior, 1, 0, 0, 0, 0), (90, .istore_n 2, 1, 2, 0, 0, 0), (91, .iconst 1, 1, 0, 0, 1, 0), (92, .istore 4, 2, 4, 0, 0, 0), (94, .iinc 5 1, 3, 5, 0, 1, 0), (97, .goto (-79), 3, 18, 0, 0, 0), (100, .iinc 3 1, 3, 3, 0, 1, 0), (103, .goto (-99), 3, 4, 0, 0, 0), (106, .return_, 1, 0, 0, 0, 0)])
set_option maxRecDepth 20000 in
theorem okX1_chooseAll : ab_ok mX1_chooseAll := ⟨by decide, by decide +kernel, trivial, trivial, trivial, trivial, trivial, trivial, fl_RX1_21, trivial, trivial, trivial, trivial, trivial, trivial, trivial, fl_RX1_21, trivial, trivial, trivial, trivial, trivial, trivial, trivial, trivial, trivial, trivial, trivial, trivial, trivial, trivial, trivial, trivial, fl_RX1_11, trivial, trivial, trivial, trivial, fl_RX1_15, trivial, fl_RX1_18, trivial, trivial, trivial, fl_RX1_18, trivial, trivial, trivial, trivial, trivial, trivial, fl_RX1_18, trivial, trivial, trivial, trivial, trivial, trivial, trivial, trivial, trivial, trivial, trivial, trivial, trivial⟩
def mX1_isFree : MI := (yX1_isFree, cX1_isFree, 4, (some .boolean), [(0, .iload_n 3, 1, 3, 0, 0, 0), (1, .iload_n 2, 1, 2, 0, 0, 0), (2, .if_icmp .eq 20, 3, 22, 0, 0, 0), (5, .iload_n 1, 1, 1, 0, 0, 0), (6, .aload_n 0, 1, 0, 0, 0, 0), (7, .getfield 18, 3, 1, 2, 0, 0), (10, .iload_n 3, 1, 3, 0, 0, 0), (11, .iaload, 1, 0, 0, 0, 0), (12, .ishr, 1, 0, 0, 0, 0), (13, .iconst 1, 1, 0, 0, 1, 0), (14, .iand, 1, 0, 0, 0, 0), (15, .ifCond .ne 7, 3, 22, 0, 0, 0), (18, .iconst 1, 1, 0, 0, 1, 0), (19, .goto 4, 3, 23, 0, 0, 0), (22, .iconst 0, 1, 0, 0, 0, 0), (23, .ireturn, 1, 0, 0, 0, 0)])
set_option maxRecDepth 20000 in
theorem okX1_isFree : ab_ok mX1_isFree := ⟨by decide, by decide +kernel, trivial, trivial, trivial, trivial, trivial, fl_RX1_18, trivial, trivial, trivial, trivial, trivial, trivial, trivial, trivial, trivial, trivial, trivial⟩
def mX1_apartBy : MI := (yX1_apartBy, cX1_apartBy, 6, (some .int), [(0, .aload_n 1, 1, 1, 0, 0, 0), (1, .aload_n 0, 1, 0, 0, 0, 0), (2, .getfield 18, 3, 1, 2, 0, 0), (5, .iload_n 3, 1, 3, 0, 0, 0), (6, .iaload, 1, 0, 0, 0, 0), (7, .invokevirtual 64, 3, 0, 0, 0, 0), (10, .aload_n 1, 1, 1, 0, 0, 0), (11, .aload_n 0, 1, 0, 0, 0, 0), (12, .getfield 18, 3, 1, 2, 0, 0), (15, .iload 4, 2, 4, 0, 0, 0), (17, .iaload, 1, 0, 0, 0, 0), (18, .invokevirtual 64, 3, 0, 0, 0, 0), (21, .isub, 1, 0, 0, 0, 0), (22, .invokestatic 67, 3, 4, 0, 0, 0), (25, .istore 5, 2, 5, 0, 0, 0), (27, .iload 5, 2, 5, 0, 0, 0), (29, .aload_n 0, 1, 0, 0, 0, 0), (30, .getfield 11, 3, 1, 0, 0, 0), (33, .iload_n 2, 1, 2, 0, 0, 0), (34, .iconst 1, 1, 0, 0, 1, 0), (35, .aload_n 0, 1, 0, 0, 0, 0), (36, .getfield 18, 3, 1, 2, 0, 0), (39, .iload 4, 2, 4, 0, 0, 0), (41, .iaload, 1, 0, 0, 0, 0), (42, .ishl, 1, 0, 0, 0, 0), (43, .ior, 1, 0, 0, 0, 0), (44, .iaload, 1, 0, 0, 0, 0), (45, .iadd, 1, 0, 0, 0, 0), (46, .ireturn, 1, 0, 0, 0, 0)])
set_option maxRecDepth 20000 in
theorem okX1_apartBy : ab_ok mX1_apartBy := ⟨by decide, by decide +kernel, trivial, trivial, fl_RX1_18, trivial, trivial, trivial, trivial, trivial, fl_RX1_18, trivial, trivial, trivial, trivial, ⟨fun z => absurd z (by decide), fun z => absurd z (by decide), fun z => absurd z (by decide), fun _ => ab_in (i := 759) rfl rfl⟩, trivial, trivial, trivial, fl_RX1_11, trivial, trivial, trivial, fl_RX1_18, trivial, trivial, trivial, trivial, trivial, trivial, trivial, trivial⟩
def mX2_init : MI := (yX2_init, cX2_init, 1, none, [(0, .aload_n 0, 1, 0, 0, 0, 0), (1, .invokespecial 3, 3, 1, 0, 0, 0), (4, .aload_n 0, 1, 0, 0, 0, 0), (5, .sipush 250, 3, 0, 0, 250, 0), (8, .newarray .int, 2, 0, 0, 0, 0), (10, .putfield 9, 3, 2, 0, 1, 0), (13, .return_, 1, 0, 0, 0, 0)])
set_option maxRecDepth 20000 in
theorem okX2_init : ab_ok mX2_init := ⟨by decide, by decide +kernel, trivial, fun _ => ab_in (i := 90) rfl rfl, trivial, trivial, trivial, gl_RX2_9, trivial, trivial⟩
def mX2_isFull : MI := (yX2_isFull, cX2_isFull, 1, (some .boolean), [(0, .aload_n 0, 1, 0, 0, 0, 0), (1, .getfield 15, 3, 2, 1, 0, 0), (4, .sipush 250, 3, 0, 0, 250, 0), (7, .if_icmp .lt 7, 3, 14, 0, 0, 0), (10, .iconst 1, 1, 0, 0, 1, 0), (11, .goto 4, 3, 15, 0, 0, 0), (14, .iconst 0, 1, 0, 0, 0, 0), (15, .ireturn, 1, 0, 0, 0, 0)])
set_option maxRecDepth 20000 in
theorem okX2_isFull : ab_ok mX2_isFull := ⟨by decide, by decide +kernel, trivial, fl_RX2_15, trivial, trivial, trivial, trivial, trivial, trivial, trivial⟩
def mX2_append : MI := (yX2_append, cX2_append, 2, (some .int), [(0, .aload_n 0, 1, 0, 0, 0, 0), (1, .getfield 15, 3, 2, 1, 0, 0), (4, .sipush 250, 3, 0, 0, 250, 0), (7, .if_icmp .ge 23, 3, 30, 0, 0, 0), (10, .aload_n 0, 1, 0, 0, 0, 0), (11, .getfield 9, 3, 2, 0, 0, 0), (14, .aload_n 0, 1, 0, 0, 0, 0), (15, .getfield 15, 3, 2, 1, 0, 0), (18, .iload_n 1, 1, 1, 0, 0, 0), (19, .iastore, 1, 0, 0, 0, 0), (20, .aload_n 0, 1, 0, 0, 0, 0), (21, .dup, 1, 0, 0, 0, 0), (22, .getfield 15, 3, 2, 1, 0, 0), (25, .iconst 1, 1, 0, 0, 1, 0), (26, .iadd, 1, 0, 0, 0, 0), (27, .putfield 15, 3, 2, 1, 0, 0), (30, .aload_n 0, 1, 0, 0, 0, 0), (31, .getfield 15, 3, 2, 1, 0, 0), (34, .ireturn, 1, 0, 0, 0, 0)])
set_option maxRecDepth 20000 in
theorem okX2_append : ab_ok mX2_append := ⟨by decide, by decide +kernel, trivial, fl_RX2_15, trivial, trivial, trivial, fl_RX2_9, trivial, fl_RX2_15, trivial, trivial, trivial, trivial, fl_RX2_15, trivial, trivial, (gl_RX2_15 _), trivial, fl_RX2_15, trivial, trivial⟩
def mX2_at : MI := (yX2_at, cX2_at, 2, (some .int), [(0, .iload_n 1, 1, 1, 0, 0, 0), (1, .ifCond .lt 20, 3, 21, 0, 0, 0), (4, .iload_n 1, 1, 1, 0, 0, 0), (5, .aload_n 0, 1, 0, 0, 0, 0), (6, .getfield 15, 3, 2, 1, 0, 0), (9, .if_icmp .ge 12, 3, 21, 0, 0, 0), (12, .aload_n 0, 1, 0, 0, 0, 0), (13, .getfield 9, 3, 2, 0, 0, 0), (16, .iload_n 1, 1, 1, 0, 0, 0), (17, .iaload, 1, 0, 0, 0, 0), (18, .goto 4, 3, 22, 0, 0, 0), (21, .iconst (-1), 1, 0, 0, (-1), 0), (22, .ireturn, 1, 0, 0, 0, 0)])
set_option maxRecDepth 20000 in
theorem okX2_at : ab_ok mX2_at := ⟨by decide, by decide +kernel, trivial, trivial, trivial, trivial, fl_RX2_15, trivial, trivial, fl_RX2_9, trivial, trivial, trivial, trivial, trivial, trivial⟩
def mX2_empty : MI := (yX2_empty, cX2_empty, 1, none, [(0, .aload_n 0, 1, 0, 0, 0, 0), (1, .iconst 0, 1, 0, 0, 0, 0), (2, .putfield 15, 3, 2, 1, 0, 0), (5, .return_, 1, 0, 0, 0, 0)])
set_option maxRecDepth 20000 in
theorem okX2_empty : ab_ok mX2_empty := ⟨by decide, by decide +kernel, trivial, trivial, (gl_RX2_15 _), trivial, trivial⟩
def mX3_init : MI := (yX3_init, cX3_init, 1, none, [(0, .aload_n 0, 1, 0, 0, 0, 0), (1, .invokespecial 3, 3, 1, 0, 0, 0), (4, .aload_n 0, 1, 0, 0, 0, 0), (5, .bipush 8, 2, 0, 0, 8, 0), (7, .newarray .int, 2, 0, 0, 0, 0), (9, .putfield 9, 3, 3, 0, 1, 0), (12, .aload_n 0, 1, 0, 0, 0, 0), (13, .bipush 8, 2, 0, 0, 8, 0), (15, .newarray .int, 2, 0, 0, 0, 0), (17, .putfield 15, 3, 3, 1, 1, 0), (20, .aload_n 0, 1, 0, 0, 0, 0), (21, .bipush 15, 2, 0, 0, 15, 0), (23, .newarray .int, 2, 0, 0, 0, 0), (25, .putfield 18, 3, 3, 2, 1, 0), (28, .aload_n 0, 1, 0, 0, 0, 0), (29, .bipush 15, 2, 0, 0, 15, 0), (31, .newarray .int, 2, 0, 0, 0, 0), (33, .putfield 21, 3, 3, 3, 1, 0), (36, .return_, 1, 0, 0, 0, 0)])
set_option maxRecDepth 20000 in
theorem okX3_init : ab_ok mX3_init := ⟨by decide, by decide +kernel, trivial, fun _ => ab_in (i := 242) rfl rfl, trivial, trivial, trivial, gl_RX3_9, trivial, trivial, trivial, gl_RX3_15, trivial, trivial, trivial, gl_RX3_18, trivial, trivial, trivial, gl_RX3_21, trivial, trivial⟩
def mX3_addGot : MI := (yX3_addGot, cX3_addGot, 3, (some .int), [(0, .aload_n 0, 1, 0, 0, 0, 0), (1, .getfield 24, 3, 3, 4, 0, 0), (4, .bipush 8, 2, 0, 0, 8, 0), (6, .if_icmp .ge 33, 3, 39, 0, 0, 0), (9, .aload_n 0, 1, 0, 0, 0, 0), (10, .getfield 9, 3, 3, 0, 0, 0), (13, .aload_n 0, 1, 0, 0, 0, 0), (14, .getfield 24, 3, 3, 4, 0, 0), (17, .iload_n 1, 1, 1, 0, 0, 0), (18, .iastore, 1, 0, 0, 0, 0), (19, .aload_n 0, 1, 0, 0, 0, 0), (20, .getfield 15, 3, 3, 1, 0, 0), (23, .aload_n 0, 1, 0, 0, 0, 0), (24, .getfield 24, 3, 3, 4, 0, 0), (27, .iload_n 2, 1, 2, 0, 0, 0), (28, .iastore, 1, 0, 0, 0, 0), (29, .aload_n 0, 1, 0, 0, 0, 0), (30, .dup, 1, 0, 0, 0, 0), (31, .getfield 24, 3, 3, 4, 0, 0), (34, .iconst 1, 1, 0, 0, 1, 0), (35, .iadd, 1, 0, 0, 0, 0), (36, .putfield 24, 3, 3, 4, 0, 0), (39, .aload_n 0, 1, 0, 0, 0, 0), (40, .getfield 24, 3, 3, 4, 0, 0), (43, .ireturn, 1, 0, 0, 0, 0)])
set_option maxRecDepth 20000 in
theorem okX3_addGot : ab_ok mX3_addGot := ⟨by decide, by decide +kernel, trivial, fl_RX3_24, trivial, trivial, trivial, fl_RX3_9, trivial, fl_RX3_24, trivial, trivial, trivial, fl_RX3_15, trivial, fl_RX3_24, trivial, trivial, trivial, trivial, fl_RX3_24, trivial, trivial, (gl_RX3_24 _), trivial, fl_RX3_24, trivial, trivial⟩
def mX3_addEntry : MI := (yX3_addEntry, cX3_addEntry, 3, (some .int), [(0, .aload_n 0, 1, 0, 0, 0, 0), (1, .getfield 28, 3, 3, 5, 0, 0), (4, .bipush 15, 2, 0, 0, 15, 0), (6, .if_icmp .ge 33, 3, 39, 0, 0, 0), (9, .aload_n 0, 1, 0, 0, 0, 0), (10, .getfield 18, 3, 3, 2, 0, 0), (13, .aload_n 0, 1, 0, 0, 0, 0), (14, .getfield 28, 3, 3, 5, 0, 0), (17, .iload_n 1, 1, 1, 0, 0, 0), (18, .iastore, 1, 0, 0, 0, 0), (19, .aload_n 0, 1, 0, 0, 0, 0), (20, .getfield 21, 3, 3, 3, 0, 0), (23, .aload_n 0, 1, 0, 0, 0, 0), (24, .getfield 28, 3, 3, 5, 0, 0), (27, .iload_n 2, 1, 2, 0, 0, 0), (28, .iastore, 1, 0, 0, 0, 0), (29, .aload_n 0, 1, 0, 0, 0, 0), (30, .dup, 1, 0, 0, 0, 0), (31, .getfield 28, 3, 3, 5, 0, 0), (34, .iconst 1, 1, 0, 0, 1, 0), (35, .iadd, 1, 0, 0, 0, 0), (36, .putfield 28, 3, 3, 5, 0, 0), (39, .aload_n 0, 1, 0, 0, 0, 0), (40, .getfield 28, 3, 3, 5, 0, 0), (43, .ireturn, 1, 0, 0, 0, 0)])
set_option maxRecDepth 20000 in
theorem okX3_addEntry : ab_ok mX3_addEntry := ⟨by decide, by decide +kernel, trivial, fl_RX3_28, trivial, trivial, trivial, fl_RX3_18, trivial, fl_RX3_28, trivial, trivial, trivial, fl_RX3_21, trivial, fl_RX3_28, trivial, trivial, trivial, trivial, fl_RX3_28, trivial, trivial, (gl_RX3_28 _), trivial, fl_RX3_28, trivial, trivial⟩
def mX3_clearAll : MI := (yX3_clearAll, cX3_clearAll, 1, none, [(0, .aload_n 0, 1, 0, 0, 0, 0), (1, .iconst 0, 1, 0, 0, 0, 0), (2, .putfield 24, 3, 3, 4, 0, 0), (5, .aload_n 0, 1, 0, 0, 0, 0), (6, .iconst 0, 1, 0, 0, 0, 0), (7, .putfield 28, 3, 3, 5, 0, 0), (10, .return_, 1, 0, 0, 0, 0)])
set_option maxRecDepth 20000 in
theorem okX3_clearAll : ab_ok mX3_clearAll := ⟨by decide, by decide +kernel, trivial, trivial, (gl_RX3_24 _), trivial, trivial, (gl_RX3_28 _), trivial, trivial⟩
def mX3_fitting : MI := (yX3_fitting, cX3_fitting, 5, (some .int), [(0, .iconst 0, 1, 0, 0, 0, 0), (1, .istore_n 3, 1, 3, 0, 0, 0), (2, .iconst 0, 1, 0, 0, 0, 0), (3, .istore 4, 2, 4, 0, 0, 0), (5, .iload 4, 2, 4, 0, 0, 0), (7, .aload_n 1, 1, 1, 0, 0, 0), (8, .getfield 31, 3, 5, 0, 0, 0), (11, .if_icmp .ge 30, 3, 41, 0, 0, 0), (14, .aload_n 0, 1, 0, 0, 0, 0), (15, .aload_n 2, 1, 2, 0, 0, 0), (16, .aload_n 1, 1, 1, 0, 0, 0), (17, .iload 4, 2, 4, 0, 0, 0), (19, .invokevirtual 36, 3, 0, 0, 0, 0), (22, .invokevirtual 42, 3, 0, 0, 0, 0), (25, .ifCond .eq 10, 3, 35, 0, 0, 0), (28, .iload_n 3, 1, 3, 0, 0, 0), (29, .iconst 1, 1, 0, 0, 1, 0), (30, .iload 4, 2, 4, 0, 0, 0), (32, .ishl, 1, 0, 0, 0, 0), (33, .ior, 1, 0, 0, 0, 0), (34, .istore_n 3, 1, 3, 0, 0, 0), (35, .iinc 4 1, 3, 4, 0, 1, 0), (38, .goto (-33), 3, 5, 0, 0, 0), (41, .iload_n 3, 1, 3, 0, 0, 0), (42, .ireturn, 1, 0, 0, 0, 0)])
set_option maxRecDepth 20000 in
theorem okX3_fitting : ab_ok mX3_fitting := ⟨by decide, by decide +kernel, trivial, trivial, trivial, trivial, trivial, trivial, fl_RX3_31, trivial, trivial, trivial, trivial, trivial, trivial, trivial, trivial, trivial, trivial, trivial, trivial, trivial, trivial, trivial, trivial, trivial, trivial, trivial⟩
def mX3_fitsAll : MI := (yX3_fitsAll, cX3_fitsAll, 3, (some .boolean), [(0, .iconst 0, 1, 0, 0, 0, 0), (1, .istore_n 2, 1, 2, 0, 0, 0), (2, .iload_n 2, 1, 2, 0, 0, 0), (3, .aload_n 0, 1, 0, 0, 0, 0), (4, .getfield 24, 3, 3, 4, 0, 0), (7, .if_icmp .ge 28, 3, 35, 0, 0, 0), (10, .aload_n 0, 1, 0, 0, 0, 0), (11, .getfield 9, 3, 3, 0, 0, 0), (14, .iload_n 2, 1, 2, 0, 0, 0), (15, .iaload, 1, 0, 0, 0, 0), (16, .iload_n 1, 1, 1, 0, 0, 0), (17, .imul, 1, 0, 0, 0, 0), (18, .aload_n 0, 1, 0, 0, 0, 0), (19, .getfield 15, 3, 3, 1, 0, 0), (22, .iload_n 2, 1, 2, 0, 0, 0), (23, .iaload, 1, 0, 0, 0, 0), (24, .if_icmp .eq 5, 3, 29, 0, 0, 0), (27, .iconst 0, 1, 0, 0, 0, 0), (28, .ireturn, 1, 0, 0, 0, 0), (29, .iinc 2 1, 3, 2, 0, 1, 0), (32, .goto (-30), 3, 2, 0, 0, 0), (35, .iconst 1, 1, 0, 0, 1, 0), (36, .ireturn, 1, 0, 0, 0, 0)])
set_option maxRecDepth 20000 in
theorem okX3_fitsAll : ab_ok mX3_fitsAll := ⟨by decide, by decide +kernel, trivial, trivial, trivial, trivial, fl_RX3_24, trivial, trivial, fl_RX3_9, trivial, trivial, trivial, trivial, trivial, fl_RX3_15, trivial, trivial, trivial, trivial, trivial, trivial, trivial, trivial, trivial, trivial⟩
def mX3_firstWrong : MI := (yX3_firstWrong, cX3_firstWrong, 4, (some .int), [(0, .iconst 0, 1, 0, 0, 0, 0), (1, .istore_n 3, 1, 3, 0, 0, 0), (2, .iload_n 3, 1, 3, 0, 0, 0), (3, .aload_n 0, 1, 0, 0, 0, 0), (4, .getfield 28, 3, 3, 5, 0, 0), (7, .if_icmp .ge 31, 3, 38, 0, 0, 0), (10, .aload_n 2, 1, 2, 0, 0, 0), (11, .aload_n 1, 1, 1, 0, 0, 0), (12, .aload_n 0, 1, 0, 0, 0, 0), (13, .getfield 18, 3, 3, 2, 0, 0), (16, .iload_n 3, 1, 3, 0, 0, 0), (17, .iaload, 1, 0, 0, 0, 0), (18, .invokevirtual 36, 3, 0, 0, 0, 0), (21, .aload_n 0, 1, 0, 0, 0, 0), (22, .getfield 21, 3, 3, 3, 0, 0), (25, .iload_n 3, 1, 3, 0, 0, 0), (26, .iaload, 1, 0, 0, 0, 0), (27, .if_icmp .eq 5, 3, 32, 0, 0, 0), (30, .iload_n 3, 1, 3, 0, 0, 0), (31, .ireturn, 1, 0, 0, 0, 0), (32, .iinc 3 1, 3, 3, 0, 1, 0), (35, .goto (-33), 3, 2, 0, 0, 0), (38, .iconst (-1), 1, 0, 0, (-1), 0), (39, .ireturn, 1, 0, 0, 0, 0)])
set_option maxRecDepth 20000 in
theorem okX3_firstWrong : ab_ok mX3_firstWrong := ⟨by decide, by decide +kernel, trivial, trivial, trivial, trivial, fl_RX3_28, trivial, trivial, trivial, trivial, fl_RX3_18, trivial, trivial, trivial, trivial, fl_RX3_21, trivial, trivial, trivial, trivial, trivial, trivial, trivial, trivial, trivial, trivial⟩
def mX4_init : MI := (yX4_init, cX4_init, 1, none, [(0, .aload_n 0, 1, 0, 0, 0, 0), (1, .invokespecial 3, 3, 1, 0, 0, 0), (4, .aload_n 0, 1, 0, 0, 0, 0), (5, .sipush 400, 3, 0, 0, 400, 0), (8, .newarray .int, 2, 0, 0, 0, 0), (10, .putfield 11, 3, 4, 0, 1, 0), (13, .aload_n 0, 1, 0, 0, 0, 0), (14, .bipush 42, 2, 0, 0, 42, 0), (16, .newarray .int, 2, 0, 0, 0, 0), (18, .putfield 17, 3, 4, 1, 1, 0), (21, .return_, 1, 0, 0, 0, 0)])
set_option maxRecDepth 20000 in
theorem okX4_init : ab_ok mX4_init := ⟨by decide, by decide +kernel, trivial, fun _ => ab_in (i := 219) rfl rfl, trivial, trivial, trivial, gl_RX4_11, trivial, trivial, trivial, gl_RX4_17, trivial, trivial⟩
def mX4_remember : MI := (yX4_remember, cX4_remember, 2, none, [(0, .aload_n 0, 1, 0, 0, 0, 0), (1, .getfield 20, 3, 4, 3, 0, 0), (4, .bipush 20, 2, 0, 0, 20, 0), (6, .if_icmp .ne 19, 3, 25, 0, 0, 0), (9, .aload_n 0, 1, 0, 0, 0, 0), (10, .aload_n 0, 1, 0, 0, 0, 0), (11, .getfield 24, 3, 4, 2, 0, 0), (14, .iconst 1, 1, 0, 0, 1, 0), (15, .iadd, 1, 0, 0, 0, 0), (16, .bipush 20, 2, 0, 0, 20, 0), (18, .irem, 1, 0, 0, 0, 0), (19, .putfield 24, 3, 4, 2, 0, 0), (22, .goto 13, 3, 35, 0, 0, 0), (25, .aload_n 0, 1, 0, 0, 0, 0), (26, .dup, 1, 0, 0, 0, 0), (27, .getfield 20, 3, 4, 3, 0, 0), (30, .iconst 1, 1, 0, 0, 1, 0), (31, .iadd, 1, 0, 0, 0, 0), (32, .putfield 20, 3, 4, 3, 0, 0), (35, .aload_n 1, 1, 1, 0, 0, 0), (36, .getfield 27, 3, 8, 0, 0, 0), (39, .iconst 0, 1, 0, 0, 0, 0), (40, .aload_n 0, 1, 0, 0, 0, 0), (41, .getfield 11, 3, 4, 0, 0, 0), (44, .aload_n 0, 1, 0, 0, 0, 0), (45, .invokevirtual 30, 3, 0, 0, 0, 0), (48, .bipush 20, 2, 0, 0, 20, 0), (50, .invokestatic 34, 3, 1, 0, 0, 0), (53, .return_, 1, 0, 0, 0, 0)])
set_option maxRecDepth 20000 in
theorem okX4_remember : ab_ok mX4_remember := ⟨by decide, by decide +kernel, trivial, fl_RX4_20, trivial, trivial, trivial, trivial, fl_RX4_24, trivial, trivial, trivial, trivial, (gl_RX4_24 _), trivial, trivial, trivial, fl_RX4_20, trivial, trivial, (gl_RX4_20 _), trivial, fl_RX4_27, trivial, trivial, fl_RX4_11, trivial, trivial, trivial, ⟨fun _ => ab_in (i := 602) rfl rfl, fun z => absurd z (by decide), fun z => absurd z (by decide), fun z => absurd z (by decide)⟩, trivial, trivial⟩
def mX4_restoreLatest : MI := (yX4_restoreLatest, cX4_restoreLatest, 2, none, [(0, .aload_n 0, 1, 0, 0, 0, 0), (1, .getfield 20, 3, 4, 3, 0, 0), (4, .ifCond .le 31, 3, 35, 0, 0, 0), (7, .aload_n 0, 1, 0, 0, 0, 0), (8, .getfield 11, 3, 4, 0, 0, 0), (11, .aload_n 0, 1, 0, 0, 0, 0), (12, .invokevirtual 30, 3, 0, 0, 0, 0), (15, .aload_n 1, 1, 1, 0, 0, 0), (16, .getfield 27, 3, 8, 0, 0, 0), (19, .iconst 0, 1, 0, 0, 0, 0), (20, .bipush 20, 2, 0, 0, 20, 0), (22, .invokestatic 34, 3, 1, 0, 0, 0), (25, .aload_n 0, 1, 0, 0, 0, 0), (26, .dup, 1, 0, 0, 0, 0), (27, .getfield 20, 3, 4, 3, 0, 0), (30, .iconst 1, 1, 0, 0, 1, 0), (31, .isub, 1, 0, 0, 0, 0), (32, .putfield 20, 3, 4, 3, 0, 0), (35, .return_, 1, 0, 0, 0, 0)])
set_option maxRecDepth 20000 in
theorem okX4_restoreLatest : ab_ok mX4_restoreLatest := ⟨by decide, by decide +kernel, trivial, fl_RX4_20, trivial, trivial, fl_RX4_11, trivial, trivial, trivial, fl_RX4_27, trivial, trivial, ⟨fun _ => ab_in (i := 602) rfl rfl, fun z => absurd z (by decide), fun z => absurd z (by decide), fun z => absurd z (by decide)⟩, trivial, trivial, fl_RX4_20, trivial, trivial, (gl_RX4_20 _), trivial, trivial⟩
def mX4_latestPlace : MI := (yX4_latestPlace, cX4_latestPlace, 1, (some .int), [(0, .aload_n 0, 1, 0, 0, 0, 0), (1, .getfield 24, 3, 4, 2, 0, 0), (4, .aload_n 0, 1, 0, 0, 0, 0), (5, .getfield 20, 3, 4, 3, 0, 0), (8, .iadd, 1, 0, 0, 0, 0), (9, .iconst 1, 1, 0, 0, 1, 0), (10, .isub, 1, 0, 0, 0, 0), (11, .bipush 20, 2, 0, 0, 20, 0), (13, .irem, 1, 0, 0, 0, 0), (14, .bipush 20, 2, 0, 0, 20, 0), (16, .imul, 1, 0, 0, 0, 0), (17, .ireturn, 1, 0, 0, 0, 0)])
set_option maxRecDepth 20000 in
theorem okX4_latestPlace : ab_ok mX4_latestPlace := ⟨by decide, by decide +kernel, trivial, fl_RX4_24, trivial, fl_RX4_20, trivial, trivial, trivial, trivial, trivial, trivial, trivial, trivial, trivial⟩
def mX4_forgetUndone : MI := (yX4_forgetUndone, cX4_forgetUndone, 1, none, [(0, .aload_n 0, 1, 0, 0, 0, 0), (1, .iconst 0, 1, 0, 0, 0, 0), (2, .putfield 24, 3, 4, 2, 0, 0), (5, .aload_n 0, 1, 0, 0, 0, 0), (6, .iconst 0, 1, 0, 0, 0, 0), (7, .putfield 20, 3, 4, 3, 0, 0), (10, .return_, 1, 0, 0, 0, 0)])
set_option maxRecDepth 20000 in
theorem okX4_forgetUndone : ab_ok mX4_forgetUndone := ⟨by decide, by decide +kernel, trivial, trivial, (gl_RX4_24 _), trivial, trivial, (gl_RX4_20 _), trivial, trivial⟩
def mX4_hasImage : MI := (yX4_hasImage, cX4_hasImage, 2, (some .boolean), [(0, .aload_n 0, 1, 0, 0, 0, 0), (1, .getfield 40, 3, 4, 4, 0, 0), (4, .iload_n 1, 1, 1, 0, 0, 0), (5, .ishr, 1, 0, 0, 0, 0), (6, .iconst 1, 1, 0, 0, 1, 0), (7, .iand, 1, 0, 0, 0, 0), (8, .ifCond .eq 7, 3, 15, 0, 0, 0), (11, .iconst 1, 1, 0, 0, 1, 0), (12, .goto 4, 3, 16, 0, 0, 0), (15, .iconst 0, 1, 0, 0, 0, 0), (16, .ireturn, 1, 0, 0, 0, 0)])
set_option maxRecDepth 20000 in
theorem okX4_hasImage : ab_ok mX4_hasImage := ⟨by decide, by decide +kernel, trivial, fl_RX4_40, trivial, trivial, trivial, trivial, trivial, trivial, trivial, trivial, trivial, trivial⟩
def mX4_keepImage : MI := (yX4_keepImage, cX4_keepImage, 3, none, [(0, .aload_n 2, 1, 2, 0, 0, 0), (1, .getfield 27, 3, 8, 0, 0, 0), (4, .iconst 0, 1, 0, 0, 0, 0), (5, .aload_n 0, 1, 0, 0, 0, 0), (6, .getfield 17, 3, 4, 1, 0, 0), (9, .iload_n 1, 1, 1, 0, 0, 0), (10, .bipush 21, 2, 0, 0, 21, 0), (12, .imul, 1, 0, 0, 0, 0), (13, .bipush 21, 2, 0, 0, 21, 0), (15, .invokestatic 34, 3, 1, 0, 0, 0), (18, .aload_n 0, 1, 0, 0, 0, 0), (19, .dup, 1, 0, 0, 0, 0), (20, .getfield 40, 3, 4, 4, 0, 0), (23, .iconst 1, 1, 0, 0, 1, 0), (24, .iload_n 1, 1, 1, 0, 0, 0), (25, .ishl, 1, 0, 0, 0, 0), (26, .ior, 1, 0, 0, 0, 0), (27, .putfield 40, 3, 4, 4, 0, 0), (30, .return_, 1, 0, 0, 0, 0)])
set_option maxRecDepth 20000 in
theorem okX4_keepImage : ab_ok mX4_keepImage := ⟨by decide, by decide +kernel, trivial, fl_RX4_27, trivial, trivial, fl_RX4_17, trivial, trivial, trivial, trivial, ⟨fun _ => ab_in (i := 602) rfl rfl, fun z => absurd z (by decide), fun z => absurd z (by decide), fun z => absurd z (by decide)⟩, trivial, trivial, fl_RX4_40, trivial, trivial, trivial, trivial, (gl_RX4_40 _), trivial, trivial⟩
def mX4_restoreImage : MI := (yX4_restoreImage, cX4_restoreImage, 3, none, [(0, .aload_n 0, 1, 0, 0, 0, 0), (1, .getfield 17, 3, 4, 1, 0, 0), (4, .iload_n 1, 1, 1, 0, 0, 0), (5, .bipush 21, 2, 0, 0, 21, 0), (7, .imul, 1, 0, 0, 0, 0), (8, .aload_n 2, 1, 2, 0, 0, 0), (9, .getfield 27, 3, 8, 0, 0, 0), (12, .iconst 0, 1, 0, 0, 0, 0), (13, .bipush 21, 2, 0, 0, 21, 0), (15, .invokestatic 34, 3, 1, 0, 0, 0), (18, .return_, 1, 0, 0, 0, 0)])
set_option maxRecDepth 20000 in
theorem okX4_restoreImage : ab_ok mX4_restoreImage := ⟨by decide, by decide +kernel, trivial, fl_RX4_17, trivial, trivial, trivial, trivial, fl_RX4_27, trivial, trivial, ⟨fun _ => ab_in (i := 602) rfl rfl, fun z => absurd z (by decide), fun z => absurd z (by decide), fun z => absurd z (by decide)⟩, trivial, trivial⟩
def mX4_forgetImages : MI := (yX4_forgetImages, cX4_forgetImages, 1, none, [(0, .aload_n 0, 1, 0, 0, 0, 0), (1, .iconst 0, 1, 0, 0, 0, 0), (2, .putfield 40, 3, 4, 4, 0, 0), (5, .return_, 1, 0, 0, 0, 0)])
set_option maxRecDepth 20000 in
theorem okX4_forgetImages : ab_ok mX4_forgetImages := ⟨by decide, by decide +kernel, trivial, trivial, (gl_RX4_40 _), trivial, trivial⟩
def mX5_init : MI := (yX5_init, cX5_init, 1, none, [(0, .aload_n 0, 1, 0, 0, 0, 0), (1, .invokespecial 3, 3, 1, 0, 0, 0), (4, .aload_n 0, 1, 0, 0, 0, 0), (5, .bipush 6, 2, 0, 0, 6, 0), (7, .newarray .int, 2, 0, 0, 0, 0), (9, .putfield 9, 3, 5, 3, 1, 0), (12, .aload_n 0, 1, 0, 0, 0, 0), (13, .bipush 24, 2, 0, 0, 24, 0), (15, .newarray .int, 2, 0, 0, 0, 0), (17, .putfield 15, 3, 5, 4, 1, 0), (20, .aload_n 0, 1, 0, 0, 0, 0), (21, .bipush 6, 2, 0, 0, 6, 0), (23, .newarray .int, 2, 0, 0, 0, 0), (25, .putfield 18, 3, 5, 5, 1, 0), (28, .aload_n 0, 1, 0, 0, 0, 0), (29, .bipush 6, 2, 0, 0, 6, 0), (31, .newarray .int, 2, 0, 0, 0, 0), (33, .putfield 21, 3, 5, 6, 1, 0), (36, .aload_n 0, 1, 0, 0, 0, 0), (37, .bipush 6, 2, 0, 0, 6, 0), (39, .newarray .int, 2, 0, 0, 0, 0), (41, .putfield 24, 3, 5, 7, 1, 0), (44, .aload_n 0, 1, 0, 0, 0, 0), (45, .bipush 6, 2, 0, 0, 6, 0), (47, .newarray .int, 2, 0, 0, 0, 0), (49, .putfield 27, 3, 5, 8, 1, 0), (52, .aload_n 0, 1, 0, 0, 0, 0), (53, .bipush 8, 2, 0, 0, 8, 0), (55, .newarray .int, 2, 0, 0, 0, 0), (57, .putfield 30, 3, 5, 9, 1, 0), (60, .aload_n 0, 1, 0, 0, 0, 0), (61, .bipush 8, 2, 0, 0, 8, 0), (63, .newarray .int, 2, 0, 0, 0, 0), (65, .putfield 33, 3, 5, 10, 1, 0), (68, .aload_n 0, 1, 0, 0, 0, 0), (69, .bipush 8, 2, 0, 0, 8, 0), (71, .newarray .int, 2, 0, 0, 0, 0), (73, .putfield 36, 3, 5, 11, 1, 0), (76, .aload_n 0, 1, 0, 0, 0, 0), (77, .bipush 8, 2, 0, 0, 8, 0), (79, .newarray .int, 2, 0, 0, 0, 0), (81, .putfield 39, 3, 5, 12, 1, 0), (84, .return_, 1, 0, 0, 0, 0)])
set_option maxRecDepth 20000 in
theorem okX5_init : ab_ok mX5_init := ⟨by decide, by decide +kernel, trivial, fun _ => ab_in (i := 105) rfl rfl, trivial, trivial, trivial, gl_RX5_9, trivial, trivial, trivial, gl_RX5_15, trivial, trivial, trivial, gl_RX5_18, trivial, trivial, trivial, gl_RX5_21, trivial, trivial, trivial, gl_RX5_24, trivial, trivial, trivial, gl_RX5_27, trivial, trivial, trivial, gl_RX5_30, trivial, trivial, trivial, gl_RX5_33, trivial, trivial, trivial, gl_RX5_36, trivial, trivial, trivial, gl_RX5_39, trivial, trivial⟩
def mX5_clearAll : MI := (yX5_clearAll, cX5_clearAll, 1, none, [(0, .aload_n 0, 1, 0, 0, 0, 0), (1, .iconst 0, 1, 0, 0, 0, 0), (2, .putfield 42, 3, 5, 0, 0, 0), (5, .aload_n 0, 1, 0, 0, 0, 0), (6, .iconst 0, 1, 0, 0, 0, 0), (7, .putfield 46, 3, 5, 1, 0, 0), (10, .aload_n 0, 1, 0, 0, 0, 0), (11, .iconst 0, 1, 0, 0, 0, 0), (12, .putfield 49, 3, 5, 2, 0, 0), (15, .return_, 1, 0, 0, 0, 0)])
set_option maxRecDepth 20000 in
theorem okX5_clearAll : ab_ok mX5_clearAll := ⟨by decide, by decide +kernel, trivial, trivial, (gl_RX5_42 _), trivial, trivial, (gl_RX5_46 _), trivial, trivial, (gl_RX5_49 _), trivial, trivial⟩
def mX5_takeOver : MI := (yX5_takeOver, cX5_takeOver, 2, none, [(0, .aload_n 0, 1, 0, 0, 0, 0), (1, .aload_n 1, 1, 1, 0, 0, 0), (2, .getfield 42, 3, 5, 0, 0, 0), (5, .putfield 42, 3, 5, 0, 0, 0), (8, .aload_n 0, 1, 0, 0, 0, 0), (9, .aload_n 1, 1, 1, 0, 0, 0), (10, .getfield 46, 3, 5, 1, 0, 0), (13, .putfield 46, 3, 5, 1, 0, 0), (16, .aload_n 0, 1, 0, 0, 0, 0), (17, .aload_n 1, 1, 1, 0, 0, 0), (18, .getfield 49, 3, 5, 2, 0, 0), (21, .putfield 49, 3, 5, 2, 0, 0), (24, .aload_n 1, 1, 1, 0, 0, 0), (25, .getfield 9, 3, 5, 3, 0, 0), (28, .iconst 0, 1, 0, 0, 0, 0), (29, .aload_n 0, 1, 0, 0, 0, 0), (30, .getfield 9, 3, 5, 3, 0, 0), (33, .iconst 0, 1, 0, 0, 0, 0), (34, .bipush 6, 2, 0, 0, 6, 0), (36, .invokestatic 52, 3, 1, 0, 0, 0), (39, .aload_n 1, 1, 1, 0, 0, 0), (40, .getfield 15, 3, 5, 4, 0, 0), (43, .iconst 0, 1, 0, 0, 0, 0), (44, .aload_n 0, 1, 0, 0, 0, 0), (45, .getfield 15, 3, 5, 4, 0, 0), (48, .iconst 0, 1, 0, 0, 0, 0), (49, .bipush 24, 2, 0, 0, 24, 0), (51, .invokestatic 52, 3, 1, 0, 0, 0), (54, .aload_n 1, 1, 1, 0, 0, 0), (55, .getfield 18, 3, 5, 5, 0, 0), (58, .iconst 0, 1, 0, 0, 0, 0), (59, .aload_n 0, 1, 0, 0, 0, 0), (60, .getfield 18, 3, 5, 5, 0, 0), (63, .iconst 0, 1, 0, 0, 0, 0), (64, .bipush 6, 2, 0, 0, 6, 0), (66, .invokestatic 52, 3, 1, 0, 0, 0), (69, .aload_n 1, 1, 1, 0, 0, 0), (70, .getfield 21, 3, 5, 6, 0, 0), (73, .iconst 0, 1, 0, 0, 0, 0), (74, .aload_n 0, 1, 0, 0, 0, 0), (75, .getfield 21, 3, 5, 6, 0, 0), (78, .iconst 0, 1, 0, 0, 0, 0), (79, .bipush 6, 2, 0, 0, 6, 0), (81, .invokestatic 52, 3, 1, 0, 0, 0), (84, .aload_n 1, 1, 1, 0, 0, 0), (85, .getfield 24, 3, 5, 7, 0, 0), (88, .iconst 0, 1, 0, 0, 0, 0), (89, .aload_n 0, 1, 0, 0, 0, 0), (90, .getfield 24, 3, 5, 7, 0, 0), (93, .iconst 0, 1, 0, 0, 0, 0), (94, .bipush 6, 2, 0, 0, 6, 0), (96, .invokestatic 52, 3, 1, 0, 0, 0), (99, .aload_n 1, 1, 1, 0, 0, 0), (100, .getfield 27, 3, 5, 8, 0, 0), (103, .iconst 0, 1, 0, 0, 0, 0), (104, .aload_n 0, 1, 0, 0, 0, 0), (105, .getfield 27, 3, 5, 8, 0, 0), (108, .iconst 0, 1, 0, 0, 0, 0), (109, .bipush 6, 2, 0, 0, 6, 0), (111, .invokestatic 52, 3, 1, 0, 0, 0), (114, .aload_n 1, 1, 1, 0, 0, 0), (115, .getfield 30, 3, 5, 9, 0, 0), (118, .iconst 0, 1, 0, 0, 0, 0), (119, .aload_n 0, 1, 0, 0, 0, 0), (120, .getfield 30, 3, 5, 9, 0, 0), (123, .iconst 0, 1, 0, 0, 0, 0), (124, .bipush 8, 2, 0, 0, 8, 0), (126, .invokestatic 52, 3, 1, 0, 0, 0), (129, .aload_n 1, 1, 1, 0, 0, 0), (130, .getfield 33, 3, 5, 10, 0, 0), (133, .iconst 0, 1, 0, 0, 0, 0), (134, .aload_n 0, 1, 0, 0, 0, 0), (135, .getfield 33, 3, 5, 10, 0, 0), (138, .iconst 0, 1, 0, 0, 0, 0), (139, .bipush 8, 2, 0, 0, 8, 0), (141, .invokestatic 52, 3, 1, 0, 0, 0), (144, .aload_n 1, 1, 1, 0, 0, 0), (145, .getfield 36, 3, 5, 11, 0, 0), (148, .iconst 0, 1, 0, 0, 0, 0), (149, .aload_n 0, 1, 0, 0, 0, 0), (150, .getfield 36, 3, 5, 11, 0, 0), (153, .iconst 0, 1, 0, 0, 0, 0), (154, .bipush 8, 2, 0, 0, 8, 0), (156, .invokestatic 52, 3, 1, 0, 0, 0), (159, .aload_n 1, 1, 1, 0, 0, 0), (160, .getfield 39, 3, 5, 12, 0, 0), (163, .iconst 0, 1, 0, 0, 0, 0), (164, .aload_n 0, 1, 0, 0, 0, 0), (165, .getfield 39, 3, 5, 12, 0, 0), (168, .iconst 0, 1, 0, 0, 0, 0), (169, .bipush 8, 2, 0, 0, 8, 0), (171, .invokestatic 52, 3, 1, 0, 0, 0), (174, .return_, 1, 0, 0, 0, 0)])
set_option maxRecDepth 20000 in
theorem okX5_takeOver : ab_ok mX5_takeOver := ⟨by decide, by decide +kernel, trivial, trivial, fl_RX5_42, (gl_RX5_42 _), trivial, trivial, fl_RX5_46, (gl_RX5_46 _), trivial, trivial, fl_RX5_49, (gl_RX5_49 _), trivial, fl_RX5_9, trivial, trivial, fl_RX5_9, trivial, trivial, ⟨fun _ => ab_in (i := 432) rfl rfl, fun z => absurd z (by decide), fun z => absurd z (by decide), fun z => absurd z (by decide)⟩, trivial, fl_RX5_15, trivial, trivial, fl_RX5_15, trivial, trivial, ⟨fun _ => ab_in (i := 432) rfl rfl, fun z => absurd z (by decide), fun z => absurd z (by decide), fun z => absurd z (by decide)⟩, trivial, fl_RX5_18, trivial, trivial, fl_RX5_18, trivial, trivial, ⟨fun _ => ab_in (i := 432) rfl rfl, fun z => absurd z (by decide), fun z => absurd z (by decide), fun z => absurd z (by decide)⟩, trivial, fl_RX5_21, trivial, trivial, fl_RX5_21, trivial, trivial, ⟨fun _ => ab_in (i := 432) rfl rfl, fun z => absurd z (by decide), fun z => absurd z (by decide), fun z => absurd z (by decide)⟩, trivial, fl_RX5_24, trivial, trivial, fl_RX5_24, trivial, trivial, ⟨fun _ => ab_in (i := 432) rfl rfl, fun z => absurd z (by decide), fun z => absurd z (by decide), fun z => absurd z (by decide)⟩, trivial, fl_RX5_27, trivial, trivial, fl_RX5_27, trivial, trivial, ⟨fun _ => ab_in (i := 432) rfl rfl, fun z => absurd z (by decide), fun z => absurd z (by decide), fun z => absurd z (by decide)⟩, trivial, fl_RX5_30, trivial, trivial, fl_RX5_30, trivial, trivial, ⟨fun _ => ab_in (i := 432) rfl rfl, fun z => absurd z (by decide), fun z => absurd z (by decide), fun z => absurd z (by decide)⟩, trivial, fl_RX5_33, trivial, trivial, fl_RX5_33, trivial, trivial, ⟨fun _ => ab_in (i := 432) rfl rfl, fun z => absurd z (by decide), fun z => absurd z (by decide), fun z => absurd z (by decide)⟩, trivial, fl_RX5_36, trivial, trivial, fl_RX5_36, trivial, trivial, ⟨fun _ => ab_in (i := 432) rfl rfl, fun z => absurd z (by decide), fun z => absurd z (by decide), fun z => absurd z (by decide)⟩, trivial, fl_RX5_39, trivial, trivial, fl_RX5_39, trivial, trivial, ⟨fun _ => ab_in (i := 432) rfl rfl, fun z => absurd z (by decide), fun z => absurd z (by decide), fun z => absurd z (by decide)⟩, trivial, trivial⟩
def mX5_hasLimb : MI := (yX5_hasLimb, cX5_hasLimb, 2, (some .boolean), [(0, .iload_n 1, 1, 1, 0, 0, 0), (1, .ifCond .lt 15, 3, 16, 0, 0, 0), (4, .iload_n 1, 1, 1, 0, 0, 0), (5, .aload_n 0, 1, 0, 0, 0, 0), (6, .getfield 42, 3, 5, 0, 0, 0), (9, .if_icmp .ge 7, 3, 16, 0, 0, 0), (12, .iconst 1, 1, 0, 0, 1, 0), (13, .goto 4, 3, 17, 0, 0, 0), (16, .iconst 0, 1, 0, 0, 0, 0), (17, .ireturn, 1, 0, 0, 0, 0)])
set_option maxRecDepth 20000 in
theorem okX5_hasLimb : ab_ok mX5_hasLimb := ⟨by decide, by decide +kernel, trivial, trivial, trivial, trivial, fl_RX5_42, trivial, trivial, trivial, trivial, trivial, trivial⟩
def mX5_hasContract : MI := (yX5_hasContract, cX5_hasContract, 2, (some .boolean), [(0, .iload_n 1, 1, 1, 0, 0, 0), (1, .ifCond .lt 15, 3, 16, 0, 0, 0), (4, .iload_n 1, 1, 1, 0, 0, 0), (5, .aload_n 0, 1, 0, 0, 0, 0), (6, .getfield 46, 3, 5, 1, 0, 0), (9, .if_icmp .ge 7, 3, 16, 0, 0, 0), (12, .iconst 1, 1, 0, 0, 1, 0), (13, .goto 4, 3, 17, 0, 0, 0), (16, .iconst 0, 1, 0, 0, 0, 0), (17, .ireturn, 1, 0, 0, 0, 0)])
set_option maxRecDepth 20000 in
theorem okX5_hasContract : ab_ok mX5_hasContract := ⟨by decide, by decide +kernel, trivial, trivial, trivial, trivial, fl_RX5_46, trivial, trivial, trivial, trivial, trivial, trivial⟩
def mX5_hasRate : MI := (yX5_hasRate, cX5_hasRate, 2, (some .boolean), [(0, .iload_n 1, 1, 1, 0, 0, 0), (1, .ifCond .lt 15, 3, 16, 0, 0, 0), (4, .iload_n 1, 1, 1, 0, 0, 0), (5, .aload_n 0, 1, 0, 0, 0, 0), (6, .getfield 49, 3, 5, 2, 0, 0), (9, .if_icmp .ge 7, 3, 16, 0, 0, 0), (12, .iconst 1, 1, 0, 0, 1, 0), (13, .goto 4, 3, 17, 0, 0, 0), (16, .iconst 0, 1, 0, 0, 0, 0), (17, .ireturn, 1, 0, 0, 0, 0)])
set_option maxRecDepth 20000 in
theorem okX5_hasRate : ab_ok mX5_hasRate := ⟨by decide, by decide +kernel, trivial, trivial, trivial, trivial, fl_RX5_49, trivial, trivial, trivial, trivial, trivial, trivial⟩
def mX5_addedAsTold : MI := (yX5_addedAsTold, cX5_addedAsTold, 3, (some .int), [(0, .aload_n 0, 1, 0, 0, 0, 0), (1, .getfield 15, 3, 5, 4, 0, 0), (4, .iload_n 1, 1, 1, 0, 0, 0), (5, .iconst 4, 1, 0, 0, 4, 0), (6, .imul, 1, 0, 0, 0, 0), (7, .iload_n 2, 1, 2, 0, 0, 0), (8, .iadd, 1, 0, 0, 0, 0), (9, .iaload, 1, 0, 0, 0, 0), (10, .ireturn, 1, 0, 0, 0, 0)])
set_option maxRecDepth 20000 in
theorem okX5_addedAsTold : ab_ok mX5_addedAsTold := ⟨by decide, by decide +kernel, trivial, fl_RX5_15, trivial, trivial, trivial, trivial, trivial, trivial, trivial, trivial⟩
def mX5_addedIn : MI := (yX5_addedIn, cX5_addedIn, 3, (some .int), [(0, .aload_n 0, 1, 0, 0, 0, 0), (1, .getfield 15, 3, 5, 4, 0, 0), (4, .iload_n 1, 1, 1, 0, 0, 0), (5, .iconst 4, 1, 0, 0, 4, 0), (6, .imul, 1, 0, 0, 0, 0), (7, .iload_n 2, 1, 2, 0, 0, 0), (8, .iconst 4, 1, 0, 0, 4, 0), (9, .irem, 1, 0, 0, 0, 0), (10, .iadd, 1, 0, 0, 0, 0), (11, .iaload, 1, 0, 0, 0, 0), (12, .bipush 9, 2, 0, 0, 9, 0), (14, .isub, 1, 0, 0, 0, 0), (15, .ireturn, 1, 0, 0, 0, 0)])
set_option maxRecDepth 20000 in
theorem okX5_addedIn : ab_ok mX5_addedIn := ⟨by decide, by decide +kernel, trivial, fl_RX5_15, trivial, trivial, trivial, trivial, trivial, trivial, trivial, trivial, trivial, trivial, trivial, trivial⟩
def mX5_addLimb : MI := (yX5_addLimb, cX5_addLimb, 2, none, [(0, .aload_n 0, 1, 0, 0, 0, 0), (1, .getfield 42, 3, 5, 0, 0, 0), (4, .bipush 6, 2, 0, 0, 6, 0), (6, .if_icmp .ge 51, 3, 57, 0, 0, 0), (9, .aload_n 0, 1, 0, 0, 0, 0), (10, .getfield 9, 3, 5, 3, 0, 0), (13, .aload_n 0, 1, 0, 0, 0, 0), (14, .getfield 42, 3, 5, 0, 0, 0), (17, .aload_n 1, 1, 1, 0, 0, 0), (18, .iconst 0, 1, 0, 0, 0, 0), (19, .iaload, 1, 0, 0, 0, 0), (20, .iastore, 1, 0, 0, 0, 0), (21, .aload_n 1, 1, 1, 0, 0, 0), (22, .iconst 1, 1, 0, 0, 1, 0), (23, .aload_n 0, 1, 0, 0, 0, 0), (24, .getfield 15, 3, 5, 4, 0, 0), (27, .aload_n 0, 1, 0, 0, 0, 0), (28, .getfield 42, 3, 5, 0, 0, 0), (31, .iconst 4, 1, 0, 0, 4, 0), (32, .imul, 1, 0, 0, 0, 0), (33, .iconst 4, 1, 0, 0, 4, 0), (34, .invokestatic 52, 3, 1, 0, 0, 0), (37, .aload_n 0, 1, 0, 0, 0, 0), (38, .getfield 18, 3, 5, 5, 0, 0), (41, .aload_n 0, 1, 0, 0, 0, 0), (42, .getfield 42, 3, 5, 0, 0, 0), (45, .iconst (-1), 1, 0, 0, (-1), 0), (46, .iastore, 1, 0, 0, 0, 0), (47, .aload_n 0, 1, 0, 0, 0, 0), (48, .dup, 1, 0, 0, 0, 0), (49, .getfield 42, 3, 5, 0, 0, 0), (52, .iconst 1, 1, 0, 0, 1, 0), (53, .iadd, 1, 0, 0, 0, 0), (54, .putfield 42, 3, 5, 0, 0, 0), (57, .return_, 1, 0, 0, 0, 0)])
set_option maxRecDepth 20000 in
theorem okX5_addLimb : ab_ok mX5_addLimb := ⟨by decide, by decide +kernel, trivial, fl_RX5_42, trivial, trivial, trivial, fl_RX5_9, trivial, fl_RX5_42, trivial, trivial, trivial, trivial, trivial, trivial, trivial, fl_RX5_15, trivial, fl_RX5_42, trivial, trivial, trivial, ⟨fun _ => ab_in (i := 432) rfl rfl, fun z => absurd z (by decide), fun z => absurd z (by decide), fun z => absurd z (by decide)⟩, trivial, fl_RX5_18, trivial, fl_RX5_42, trivial, trivial, trivial, trivial, fl_RX5_42, trivial, trivial, (gl_RX5_42 _), trivial, trivial⟩
def mX5_addContract : MI := (yX5_addContract, cX5_addContract, 2, none, [(0, .aload_n 0, 1, 0, 0, 0, 0), (1, .getfield 46, 3, 5, 1, 0, 0), (4, .bipush 6, 2, 0, 0, 6, 0), (6, .if_icmp .ge 49, 3, 55, 0, 0, 0), (9, .aload_n 0, 1, 0, 0, 0, 0), (10, .getfield 21, 3, 5, 6, 0, 0), (13, .aload_n 0, 1, 0, 0, 0, 0), (14, .getfield 46, 3, 5, 1, 0, 0), (17, .aload_n 1, 1, 1, 0, 0, 0), (18, .iconst 0, 1, 0, 0, 0, 0), (19, .iaload, 1, 0, 0, 0, 0), (20, .iastore, 1, 0, 0, 0, 0), (21, .aload_n 0, 1, 0, 0, 0, 0), (22, .getfield 24, 3, 5, 7, 0, 0), (25, .aload_n 0, 1, 0, 0, 0, 0), (26, .getfield 46, 3, 5, 1, 0, 0), (29, .aload_n 1, 1, 1, 0, 0, 0), (30, .iconst 1, 1, 0, 0, 1, 0), (31, .iaload, 1, 0, 0, 0, 0), (32, .iastore, 1, 0, 0, 0, 0), (33, .aload_n 0, 1, 0, 0, 0, 0), (34, .getfield 27, 3, 5, 8, 0, 0), (37, .aload_n 0, 1, 0, 0, 0, 0), (38, .getfield 46, 3, 5, 1, 0, 0), (41, .aload_n 1, 1, 1, 0, 0, 0), (42, .iconst 2, 1, 0, 0, 2, 0), (43, .iaload, 1, 0, 0, 0, 0), (44, .iastore, 1, 0, 0, 0, 0), (45, .aload_n 0, 1, 0, 0, 0, 0), (46, .dup, 1, 0, 0, 0, 0), (47, .getfield 46, 3, 5, 1, 0, 0), (50, .iconst 1, 1, 0, 0, 1, 0), (51, .iadd, 1, 0, 0, 0, 0), (52, .putfield 46, 3, 5, 1, 0, 0), (55, .return_, 1, 0, 0, 0, 0)])
set_option maxRecDepth 20000 in
theorem okX5_addContract : ab_ok mX5_addContract := ⟨by decide, by decide +kernel, trivial, fl_RX5_46, trivial, trivial, trivial, fl_RX5_21, trivial, fl_RX5_46, trivial, trivial, trivial, trivial, trivial, fl_RX5_24, trivial, fl_RX5_46, trivial, trivial, trivial, trivial, trivial, fl_RX5_27, trivial, fl_RX5_46, trivial, trivial, trivial, trivial, trivial, trivial, fl_RX5_46, trivial, trivial, (gl_RX5_46 _), trivial, trivial⟩
def mX5_addRate : MI := (yX5_addRate, cX5_addRate, 2, none, [(0, .aload_n 0, 1, 0, 0, 0, 0), (1, .getfield 49, 3, 5, 2, 0, 0), (4, .bipush 8, 2, 0, 0, 8, 0), (6, .if_icmp .ge 61, 3, 67, 0, 0, 0), (9, .aload_n 0, 1, 0, 0, 0, 0), (10, .getfield 30, 3, 5, 9, 0, 0), (13, .aload_n 0, 1, 0, 0, 0, 0), (14, .getfield 49, 3, 5, 2, 0, 0), (17, .aload_n 1, 1, 1, 0, 0, 0), (18, .iconst 0, 1, 0, 0, 0, 0), (19, .iaload, 1, 0, 0, 0, 0), (20, .iastore, 1, 0, 0, 0, 0), (21, .aload_n 0, 1, 0, 0, 0, 0), (22, .getfield 33, 3, 5, 10, 0, 0), (25, .aload_n 0, 1, 0, 0, 0, 0), (26, .getfield 49, 3, 5, 2, 0, 0), (29, .aload_n 1, 1, 1, 0, 0, 0), (30, .iconst 1, 1, 0, 0, 1, 0), (31, .iaload, 1, 0, 0, 0, 0), (32, .iastore, 1, 0, 0, 0, 0), (33, .aload_n 0, 1, 0, 0, 0, 0), (34, .getfield 36, 3, 5, 11, 0, 0), (37, .aload_n 0, 1, 0, 0, 0, 0), (38, .getfield 49, 3, 5, 2, 0, 0), (41, .aload_n 1, 1, 1, 0, 0, 0), (42, .iconst 2, 1, 0, 0, 2, 0), (43, .iaload, 1, 0, 0, 0, 0), (44, .iastore, 1, 0, 0, 0, 0), (45, .aload_n 0, 1, 0, 0, 0, 0), (46, .getfield 39, 3, 5, 12, 0, 0), (49, .aload_n 0, 1, 0, 0, 0, 0), (50, .getfield 49, 3, 5, 2, 0, 0), (53, .aload_n 1, 1, 1, 0, 0, 0), (54, .iconst 3, 1, 0, 0, 3, 0), (55, .iaload, 1, 0, 0, 0, 0), (56, .iastore, 1, 0, 0, 0, 0), (57, .aload_n 0, 1, 0, 0, 0, 0), (58, .dup, 1, 0, 0, 0, 0), (59, .getfield 49, 3, 5, 2, 0, 0), (62, .iconst 1, 1, 0, 0, 1, 0), (63, .iadd, 1, 0, 0, 0, 0), (64, .putfield 49, 3, 5, 2, 0, 0), (67, .return_, 1, 0, 0, 0, 0)])
set_option maxRecDepth 20000 in
theorem okX5_addRate : ab_ok mX5_addRate := ⟨by decide, by decide +kernel, trivial, fl_RX5_49, trivial, trivial, trivial, fl_RX5_30, trivial, fl_RX5_49, trivial, trivial, trivial, trivial, trivial, fl_RX5_33, trivial, fl_RX5_49, trivial, trivial, trivial, trivial, trivial, fl_RX5_36, trivial, fl_RX5_49, trivial, trivial, trivial, trivial, trivial, fl_RX5_39, trivial, fl_RX5_49, trivial, trivial, trivial, trivial, trivial, trivial, fl_RX5_49, trivial, trivial, (gl_RX5_49 _), trivial, trivial⟩
def mX5_addHeir : MI := (yX5_addHeir, cX5_addHeir, 2, none, [(0, .aload_n 0, 1, 0, 0, 0, 0), (1, .getfield 18, 3, 5, 5, 0, 0), (4, .aload_n 1, 1, 1, 0, 0, 0), (5, .iconst 0, 1, 0, 0, 0, 0), (6, .iaload, 1, 0, 0, 0, 0), (7, .aload_n 1, 1, 1, 0, 0, 0), (8, .iconst 1, 1, 0, 0, 1, 0), (9, .iaload, 1, 0, 0, 0, 0), (10, .iastore, 1, 0, 0, 0, 0), (11, .return_, 1, 0, 0, 0, 0)])
set_option maxRecDepth 20000 in
theorem okX5_addHeir : ab_ok mX5_addHeir := ⟨by decide, by decide +kernel, trivial, fl_RX5_18, trivial, trivial, trivial, trivial, trivial, trivial, trivial, trivial, trivial⟩
def mX6_init : MI := (yX6_init, cX6_init, 1, none, [(0, .aload_n 0, 1, 0, 0, 0, 0), (1, .invokespecial 3, 3, 1, 0, 0, 0), (4, .aload_n 0, 1, 0, 0, 0, 0), (5, .new 9, 3, 0, 0, 0, 0), (8, .dup, 1, 0, 0, 0, 0), (9, .invokespecial 11, 3, 0, 0, 0, 0), (12, .putfield 12, 3, 6, 0, 1, 0), (15, .aload_n 0, 1, 0, 0, 0, 0), (16, .new 18, 3, 0, 0, 0, 0), (19, .dup, 1, 0, 0, 0, 0), (20, .invokespecial 20, 3, 0, 0, 0, 0), (23, .putfield 21, 3, 6, 1, 1, 0), (26, .aload_n 0, 1, 0, 0, 0, 0), (27, .iconst 5, 1, 0, 0, 5, 0), (28, .newarray .int, 2, 0, 0, 0, 0), (30, .putfield 25, 3, 6, 2, 1, 0), (33, .return_, 1, 0, 0, 0, 0)])
set_option maxRecDepth 20000 in
theorem okX6_init : ab_ok mX6_init := ⟨by decide, by decide +kernel, trivial, fun _ => ab_in (i := 84) rfl rfl, trivial, trivial, trivial, fun z => absurd z (by decide), gl_RX6_12, trivial, trivial, trivial, fun z => absurd z (by decide), gl_RX6_21, trivial, trivial, trivial, gl_RX6_25, trivial, trivial⟩
def mX6_readText : MI := (yX6_readText, cX6_readText, 3, none, [(0, .aload_n 0, 1, 0, 0, 0, 0), (1, .iconst 0, 1, 0, 0, 0, 0), (2, .putfield 29, 3, 6, 3, 0, 0), (5, .aload_n 0, 1, 0, 0, 0, 0), (6, .iconst 0, 1, 0, 0, 0, 0), (7, .putfield 33, 3, 6, 5, 0, 0), (10, .aload_n 0, 1, 0, 0, 0, 0), (11, .iconst (-1), 1, 0, 0, (-1), 0), (12, .putfield 36, 3, 6, 6, 0, 0), (15, .aload_n 0, 1, 0, 0, 0, 0), (16, .getfield 21, 3, 6, 1, 0, 0), (19, .invokevirtual 39, 3, 0, 0, 0, 0), (22, .iconst 1, 1, 0, 0, 1, 0), (23, .istore_n 1, 1, 1, 0, 0, 0), (24, .iconst 0, 1, 0, 0, 0, 0), (25, .istore_n 2, 1, 2, 0, 0, 0), (26, .iload_n 2, 1, 2, 0, 0, 0), (27, .sipush 250, 3, 0, 0, 250, 0), (30, .if_icmp .ge 45, 3, 75, 0, 0, 0), (33, .iload_n 1, 1, 1, 0, 0, 0), (34, .ifCond .eq 41, 3, 75, 0, 0, 0), (37, .aload_n 0, 1, 0, 0, 0, 0), (38, .invokevirtual 42, 3, 0, 0, 0, 0), (41, .aload_n 0, 1, 0, 0, 0, 0), (42, .getfield 12, 3, 6, 0, 0, 0), (45, .aload_n 0, 1, 0, 0, 0, 0), (46, .getfield 29, 3, 6, 3, 0, 0), (49, .invokevirtual 45, 3, 0, 0, 0, 0), (52, .iconst (-1), 1, 0, 0, (-1), 0), (53, .if_icmp .eq 14, 3, 67, 0, 0, 0), (56, .aload_n 0, 1, 0, 0, 0, 0), (57, .invokevirtual 49, 3, 0, 0, 0, 0), (60, .ifCond .eq 7, 3, 67, 0, 0, 0), (63, .iconst 1, 1, 0, 0, 1, 0), (64, .goto 4, 3, 68, 0, 0, 0), (67, .iconst 0, 1, 0, 0, 0, 0), (68, .istore_n 1, 1, 1, 0, 0, 0), (69, .iinc 2 1, 3, 2, 0, 1, 0), (72, .goto (-46), 3, 26, 0, 0, 0), (75, .return_, 1, 0, 0, 0, 0)])
set_option maxRecDepth 20000 in
theorem okX6_readText : ab_ok mX6_readText := ⟨by decide, by decide +kernel, trivial, trivial, (gl_RX6_29 _), trivial, trivial, (gl_RX6_33 _), trivial, trivial, (gl_RX6_36 _), trivial, fl_RX6_21, trivial, trivial, trivial, trivial, trivial, trivial, trivial, trivial, trivial, trivial, trivial, trivial, trivial, fl_RX6_12, trivial, fl_RX6_29, trivial, trivial, trivial, trivial, trivial, trivial, trivial, trivial, trivial, trivial, trivial, trivial, trivial, trivial⟩
def mX6_readClause : MI := (yX6_readClause, cX6_readClause, 2, (some .boolean), [(0, .aload_n 0, 1, 0, 0, 0, 0), (1, .getfield 12, 3, 6, 0, 0, 0), (4, .aload_n 0, 1, 0, 0, 0, 0), (5, .getfield 29, 3, 6, 3, 0, 0), (8, .invokevirtual 45, 3, 0, 0, 0, 0), (11, .istore_n 1, 1, 1, 0, 0, 0), (12, .aload_n 0, 1, 0, 0, 0, 0), (13, .iload_n 1, 1, 1, 0, 0, 0), (14, .invokevirtual 53, 3, 0, 0, 0, 0), (17, .ifCond .ne 13, 3, 30, 0, 0, 0), (20, .aload_n 0, 1, 0, 0, 0, 0), (21, .iconst 1, 1, 0, 0, 1, 0), (22, .aload_n 0, 1, 0, 0, 0, 0), (23, .getfield 29, 3, 6, 3, 0, 0), (26, .invokevirtual 57, 3, 0, 0, 0, 0), (29, .ireturn, 1, 0, 0, 0, 0), (30, .aload_n 0, 1, 0, 0, 0, 0), (31, .iload_n 1, 1, 1, 0, 0, 0), (32, .invokevirtual 61, 3, 0, 0, 0, 0), (35, .ifCond .eq 13, 3, 48, 0, 0, 0), (38, .aload_n 0, 1, 0, 0, 0, 0), (39, .iconst 3, 1, 0, 0, 3, 0), (40, .aload_n 0, 1, 0, 0, 0, 0), (41, .getfield 29, 3, 6, 3, 0, 0), (44, .invokevirtual 57, 3, 0, 0, 0, 0), (47, .ireturn, 1, 0, 0, 0, 0), (48, .aload_n 0, 1, 0, 0, 0, 0), (49, .dup, 1, 0, 0, 0, 0), (50, .getfield 29, 3, 6, 3, 0, 0), (53, .iconst 1, 1, 0, 0, 1, 0), (54, .iadd, 1, 0, 0, 0, 0), (55, .putfield 29, 3, 6, 3, 0, 0), (58, .iload_n 1, 1, 1, 0, 0, 0), (59, .lookupswitch 48 #[(99, 38), (108, 33), (114, 43)], 33, 0, 0, 0, 0), (92, .aload_n 0, 1, 0, 0, 0, 0), (93, .invokevirtual 64, 3, 0, 0, 0, 0), (96, .ireturn, 1, 0, 0, 0, 0), (97, .aload_n 0, 1, 0, 0, 0, 0), (98, .invokevirtual 67, 3, 0, 0, 0, 0), (101, .ireturn, 1, 0, 0, 0, 0), (102, .aload_n 0, 1, 0, 0, 0, 0), (103, .invokevirtual 70, 3, 0, 0, 0, 0), (106, .ireturn, 1, 0, 0, 0, 0), (107, .aload_n 0, 1, 0, 0, 0, 0), (108, .invokevirtual 73, 3, 0, 0, 0, 0), (111, .ireturn, 1, 0, 0, 0, 0)])
set_option maxRecDepth 20000 in
theorem okX6_readClause : ab_ok mX6_readClause := ⟨by decide, by decide +kernel, trivial, fl_RX6_12, trivial, fl_RX6_29, trivial, trivial, trivial, trivial, trivial, trivial, trivial, trivial, trivial, fl_RX6_29, trivial, trivial, trivial, trivial, trivial, trivial, trivial, trivial, trivial, fl_RX6_29, trivial, trivial, trivial, trivial, fl_RX6_29, trivial, trivial, (gl_RX6_29 _), trivial, trivial, trivial, trivial, trivial, trivial, trivial, trivial, trivial, trivial, trivial, trivial, trivial, trivial, trivial⟩
def mX6_mayStart : MI := (yX6_mayStart, cX6_mayStart, 2, (some .boolean), [(0, .iload_n 1, 1, 1, 0, 0, 0), (1, .bipush 108, 2, 0, 0, 108, 0), (3, .if_icmp .ne 5, 3, 8, 0, 0, 0), (6, .iconst 1, 1, 0, 0, 1, 0), (7, .ireturn, 1, 0, 0, 0, 0), (8, .aload_n 0, 1, 0, 0, 0, 0), (9, .getfield 21, 3, 6, 1, 0, 0), (12, .getfield 76, 3, 5, 0, 0, 0), (15, .ifCond .le 25, 3, 40, 0, 0, 0), (18, .iload_n 1, 1, 1, 0, 0, 0), (19, .bipush 99, 2, 0, 0, 99, 0), (21, .if_icmp .eq 15, 3, 36, 0, 0, 0), (24, .iload_n 1, 1, 1, 0, 0, 0), (25, .bipush 114, 2, 0, 0, 114, 0), (27, .if_icmp .eq 9, 3, 36, 0, 0, 0), (30, .iload_n 1, 1, 1, 0, 0, 0), (31, .bipush 104, 2, 0, 0, 104, 0), (33, .if_icmp .ne 7, 3, 40, 0, 0, 0), (36, .iconst 1, 1, 0, 0, 1, 0), (37, .goto 4, 3, 41, 0, 0, 0), (40, .iconst 0, 1, 0, 0, 0, 0), (41, .ireturn, 1, 0, 0, 0, 0)])
set_option maxRecDepth 20000 in
theorem okX6_mayStart : ab_ok mX6_mayStart := ⟨by decide, by decide +kernel, trivial, trivial, trivial, trivial, trivial, trivial, fl_RX6_21, fl_RX6_76, trivial, trivial, trivial, trivial, trivial, trivial, trivial, trivial, trivial, trivial, trivial, trivial, trivial, trivial, trivial⟩
def mX6_isOneTooMany : MI := (yX6_isOneTooMany, cX6_isOneTooMany, 2, (some .boolean), [(0, .iload_n 1, 1, 1, 0, 0, 0), (1, .lookupswitch 89 #[(99, 53), (108, 35), (114, 71)], 35, 0, 0, 0, 0), (36, .aload_n 0, 1, 0, 0, 0, 0), (37, .getfield 21, 3, 6, 1, 0, 0), (40, .getfield 76, 3, 5, 0, 0, 0), (43, .bipush 6, 2, 0, 0, 6, 0), (45, .if_icmp .lt 7, 3, 52, 0, 0, 0), (48, .iconst 1, 1, 0, 0, 1, 0), (49, .goto 4, 3, 53, 0, 0, 0), (52, .iconst 0, 1, 0, 0, 0, 0), (53, .ireturn, 1, 0, 0, 0, 0), (54, .aload_n 0, 1, 0, 0, 0, 0), (55, .getfield 21, 3, 6, 1, 0, 0), (58, .getfield 79, 3, 5, 1, 0, 0), (61, .bipush 6, 2, 0, 0, 6, 0), (63, .if_icmp .lt 7, 3, 70, 0, 0, 0), (66, .iconst 1, 1, 0, 0, 1, 0), (67, .goto 4, 3, 71, 0, 0, 0), (70, .iconst 0, 1, 0, 0, 0, 0), (71, .ireturn, 1, 0, 0, 0, 0), (72, .aload_n 0, 1, 0, 0, 0, 0), (73, .getfield 21, 3, 6, 1, 0, 0), (76, .getfield 82, 3, 5, 2, 0, 0), (79, .bipush 8, 2, 0, 0, 8, 0), (81, .if_icmp .lt 7, 3, 88, 0, 0, 0), (84, .iconst 1, 1, 0, 0, 1, 0), (85, .goto 4, 3, 89, 0, 0, 0), (88, .iconst 0, 1, 0, 0, 0, 0), (89, .ireturn, 1, 0, 0, 0, 0), (90, .iconst 0, 1, 0, 0, 0, 0), (91, .ireturn, 1, 0, 0, 0, 0)])
set_option maxRecDepth 20000 in
theorem okX6_isOneTooMany : ab_ok mX6_isOneTooMany := ⟨by decide, by decide +kernel, trivial, trivial, trivial, fl_RX6_21, fl_RX6_76, trivial, trivial, trivial, trivial, trivial, trivial, trivial, fl_RX6_21, fl_RX6_79, trivial, trivial, trivial, trivial, trivial, trivial, trivial, fl_RX6_21, fl_RX6_82, trivial, trivial, trivial, trivial, trivial, trivial, trivial, trivial, trivial⟩
def mX6_readLimb : MI := (yX6_readLimb, cX6_readLimb, 3, (some .boolean), [(0, .aload_n 0, 1, 0, 0, 0, 0), (1, .iconst 0, 1, 0, 0, 0, 0), (2, .bipush 20, 2, 0, 0, 20, 0), (4, .bipush 99, 2, 0, 0, 99, 0), (6, .invokevirtual 85, 3, 0, 0, 0, 0), (9, .istore_n 1, 1, 1, 0, 0, 0), (10, .iconst 1, 1, 0, 0, 1, 0), (11, .istore_n 2, 1, 2, 0, 0, 0), (12, .iload_n 2, 1, 2, 0, 0, 0), (13, .iconst 4, 1, 0, 0, 4, 0), (14, .if_icmp .gt 22, 3, 36, 0, 0, 0), (17, .iload_n 1, 1, 1, 0, 0, 0), (18, .ifCond .eq 18, 3, 36, 0, 0, 0), (21, .aload_n 0, 1, 0, 0, 0, 0), (22, .iload_n 2, 1, 2, 0, 0, 0), (23, .iconst 0, 1, 0, 0, 0, 0), (24, .bipush 18, 2, 0, 0, 18, 0), (26, .invokevirtual 85, 3, 0, 0, 0, 0), (29, .istore_n 1, 1, 1, 0, 0, 0), (30, .iinc 2 1, 3, 2, 0, 1, 0), (33, .goto (-21), 3, 12, 0, 0, 0), (36, .iload_n 1, 1, 1, 0, 0, 0), (37, .ifCond .eq 14, 3, 51, 0, 0, 0), (40, .aload_n 0, 1, 0, 0, 0, 0), (41, .invokevirtual 89, 3, 0, 0, 0, 0), (44, .ifCond .eq 7, 3, 51, 0, 0, 0), (47, .iconst 1, 1, 0, 0, 1, 0), (48, .goto 4, 3, 52, 0, 0, 0), (51, .iconst 0, 1, 0, 0, 0, 0), (52, .istore_n 1, 1, 1, 0, 0, 0), (53, .iload_n 1, 1, 1, 0, 0, 0), (54, .ifCond .eq 14, 3, 68, 0, 0, 0), (57, .aload_n 0, 1, 0, 0, 0, 0), (58, .getfield 21, 3, 6, 1, 0, 0), (61, .aload_n 0, 1, 0, 0, 0, 0), (62, .getfield 25, 3, 6, 2, 0, 0), (65, .invokevirtual 92, 3, 0, 0, 0, 0), (68, .iload_n 1, 1, 1, 0, 0, 0), (69, .ireturn, 1, 0, 0, 0, 0)])
set_option maxRecDepth 20000 in
theorem okX6_readLimb : ab_ok mX6_readLimb := ⟨by decide, by decide +kernel, trivial, trivial, trivial, trivial, trivial, trivial, trivial, trivial, trivial, trivial, trivial, trivial, trivial, trivial, trivial, trivial, trivial, trivial, trivial, trivial, trivial, trivial, trivial, trivial, trivial, trivial, trivial, trivial, trivial, trivial, trivial, trivial, trivial, fl_RX6_21, trivial, fl_RX6_25, trivial, trivial, trivial, trivial⟩
def mX6_readContract : MI := (yX6_readContract, cX6_readContract, 2, (some .boolean), [(0, .aload_n 0, 1, 0, 0, 0, 0), (1, .iconst 0, 1, 0, 0, 0, 0), (2, .iconst 0, 1, 0, 0, 0, 0), (3, .bipush 99, 2, 0, 0, 99, 0), (5, .invokevirtual 85, 3, 0, 0, 0, 0), (8, .ifCond .eq 43, 3, 51, 0, 0, 0), (11, .aload_n 0, 1, 0, 0, 0, 0), (12, .iconst 1, 1, 0, 0, 1, 0), (13, .iconst 0, 1, 0, 0, 0, 0), (14, .aload_n 0, 1, 0, 0, 0, 0), (15, .getfield 21, 3, 6, 1, 0, 0), (18, .getfield 76, 3, 5, 0, 0, 0), (21, .iconst 1, 1, 0, 0, 1, 0), (22, .isub, 1, 0, 0, 0, 0), (23, .invokevirtual 85, 3, 0, 0, 0, 0), (26, .ifCond .eq 25, 3, 51, 0, 0, 0), (29, .aload_n 0, 1, 0, 0, 0, 0), (30, .iconst 2, 1, 0, 0, 2, 0), (31, .iconst 1, 1, 0, 0, 1, 0), (32, .bipush 50, 2, 0, 0, 50, 0), (34, .invokevirtual 85, 3, 0, 0, 0, 0), (37, .ifCond .eq 14, 3, 51, 0, 0, 0), (40, .aload_n 0, 1, 0, 0, 0, 0), (41, .invokevirtual 89, 3, 0, 0, 0, 0), (44, .ifCond .eq 7, 3, 51, 0, 0, 0), (47, .iconst 1, 1, 0, 0, 1, 0), (48, .goto 4, 3, 52, 0, 0, 0), (51, .iconst 0, 1, 0, 0, 0, 0), (52, .istore_n 1, 1, 1, 0, 0, 0), (53, .iload_n 1, 1, 1, 0, 0, 0), (54, .ifCond .eq 14, 3, 68, 0, 0, 0), (57, .aload_n 0, 1, 0, 0, 0, 0), (58, .getfield 21, 3, 6, 1, 0, 0), (61, .aload_n 0, 1, 0, 0, 0, 0), (62, .getfield 25, 3, 6, 2, 0, 0), (65, .invokevirtual 96, 3, 0, 0, 0, 0), (68, .iload_n 1, 1, 1, 0, 0, 0), (69, .ireturn, 1, 0, 0, 0, 0)])
set_option maxRecDepth 20000 in
theorem okX6_readContract : ab_ok mX6_readContract := ⟨by decide, by decide +kernel, trivial, trivial, trivial, trivial, trivial, trivial, trivial, trivial, trivial, trivial, fl_RX6_21, fl_RX6_76, trivial, trivial, trivial, trivial, trivial, trivial, trivial, trivial, trivial, trivial, trivial, trivial, trivial, trivial, trivial, trivial, trivial, trivial, trivial, trivial, fl_RX6_21, trivial, fl_RX6_25, trivial, trivial, trivial, trivial⟩
end
section
/-! method tables (by program) -/
def mX6_readRate : MI := (yX6_readRate, cX6_readRate, 2, (some .boolean), [(0, .aload_n 0, 1, 0, 0, 0, 0), (1, .iconst 0, 1, 0, 0, 0, 0), (2, .iconst 0, 1, 0, 0, 0, 0), (3, .aload_n 0, 1, 0, 0, 0, 0), (4, .getfield 21, 3, 6, 1, 0, 0), (7, .getfield 76, 3, 5, 0, 0, 0), (10, .iconst 1, 1, 0, 0, 1, 0), (11, .isub, 1, 0, 0, 0, 0), (12, .invokevirtual 85, 3, 0, 0, 0, 0), (15, .ifCond .eq 61, 3, 76, 0, 0, 0), (18, .aload_n 0, 1, 0, 0, 0, 0), (19, .iconst 1, 1, 0, 0, 1, 0), (20, .iconst 0, 1, 0, 0, 0, 0), (21, .aload_n 0, 1, 0, 0, 0, 0), (22, .getfield 21, 3, 6, 1, 0, 0), (25, .getfield 76, 3, 5, 0, 0, 0), (28, .iconst 1, 1, 0, 0, 1, 0), (29, .isub, 1, 0, 0, 0, 0), (30, .invokevirtual 85, 3, 0, 0, 0, 0), (33, .ifCond .eq 43, 3, 76, 0, 0, 0), (36, .aload_n 0, 1, 0, 0, 0, 0), (37, .invokevirtual 99, 3, 0, 0, 0, 0), (40, .ifCond .eq 36, 3, 76, 0, 0, 0), (43, .aload_n 0, 1, 0, 0, 0, 0), (44, .iconst 2, 1, 0, 0, 2, 0), (45, .iconst 1, 1, 0, 0, 1, 0), (46, .bipush 20, 2, 0, 0, 20, 0), (48, .invokevirtual 85, 3, 0, 0, 0, 0), (51, .ifCond .eq 25, 3, 76, 0, 0, 0), (54, .aload_n 0, 1, 0, 0, 0, 0), (55, .iconst 3, 1, 0, 0, 3, 0), (56, .iconst 1, 1, 0, 0, 1, 0), (57, .bipush 20, 2, 0, 0, 20, 0), (59, .invokevirtual 85, 3, 0, 0, 0, 0), (62, .ifCond .eq 14, 3, 76, 0, 0, 0), (65, .aload_n 0, 1, 0, 0, 0, 0), (66, .invokevirtual 89, 3, 0, 0, 0, 0), (69, .ifCond .eq 7, 3, 76, 0, 0, 0), (72, .iconst 1, 1, 0, 0, 1, 0), (73, .goto 4, 3, 77, 0, 0, 0), (76, .iconst 0, 1, 0, 0, 0, 0), (77, .istore_n 1, 1, 1, 0, 0, 0), (78, .iload_n 1, 1, 1, 0, 0, 0), (79, .ifCond .eq 14, 3, 93, 0, 0, 0), (82, .aload_n 0, 1, 0, 0, 0, 0), (83, .getfield 21, 3, 6, 1, 0, 0), (86, .aload_n 0, 1, 0, 0, 0, 0), (87, .getfield 25, 3, 6, 2, 0, 0), (90, .invokevirtual 102, 3, 0, 0, 0, 0), (93, .iload_n 1, 1, 1, 0, 0, 0), (94, .ireturn, 1, 0, 0, 0, 0)])
set_option maxRecDepth 20000 in
theorem okX6_readRate : ab_ok mX6_readRate := ⟨by decide, by decide +kernel, trivial, trivial, trivial, trivial, fl_RX6_21, fl_RX6_76, trivial, trivial, trivial, trivial, trivial, trivial, trivial, trivial, fl_RX6_21, fl_RX6_76, trivial, trivial, trivial, trivial, trivial, trivial, trivial, trivial, trivial, trivial, trivial, trivial, trivial, trivial, trivial, trivial, trivial, trivial, trivial, trivial, trivial, trivial, trivial, trivial, trivial, trivial, trivial, trivial, trivial, fl_RX6_21, trivial, fl_RX6_25, trivial, trivial, trivial, trivial⟩
def mX6_readHeir : MI := (yX6_readHeir, cX6_readHeir, 2, (some .boolean), [(0, .aload_n 0, 1, 0, 0, 0, 0), (1, .iconst 0, 1, 0, 0, 0, 0), (2, .iconst 0, 1, 0, 0, 0, 0), (3, .aload_n 0, 1, 0, 0, 0, 0), (4, .getfield 21, 3, 6, 1, 0, 0), (7, .getfield 76, 3, 5, 0, 0, 0), (10, .iconst 1, 1, 0, 0, 1, 0), (11, .isub, 1, 0, 0, 0, 0), (12, .invokevirtual 85, 3, 0, 0, 0, 0), (15, .ifCond .eq 46, 3, 61, 0, 0, 0), (18, .aload_n 0, 1, 0, 0, 0, 0), (19, .invokevirtual 105, 3, 0, 0, 0, 0), (22, .ifCond .eq 39, 3, 61, 0, 0, 0), (25, .aload_n 0, 1, 0, 0, 0, 0), (26, .iconst 1, 1, 0, 0, 1, 0), (27, .iconst 0, 1, 0, 0, 0, 0), (28, .aload_n 0, 1, 0, 0, 0, 0), (29, .getfield 21, 3, 6, 1, 0, 0), (32, .getfield 76, 3, 5, 0, 0, 0), (35, .iconst 1, 1, 0, 0, 1, 0), (36, .isub, 1, 0, 0, 0, 0), (37, .invokevirtual 85, 3, 0, 0, 0, 0), (40, .ifCond .eq 21, 3, 61, 0, 0, 0), (43, .aload_n 0, 1, 0, 0, 0, 0), (44, .invokevirtual 99, 3, 0, 0, 0, 0), (47, .ifCond .eq 14, 3, 61, 0, 0, 0), (50, .aload_n 0, 1, 0, 0, 0, 0), (51, .invokevirtual 89, 3, 0, 0, 0, 0), (54, .ifCond .eq 7, 3, 61, 0, 0, 0), (57, .iconst 1, 1, 0, 0, 1, 0), (58, .goto 4, 3, 62, 0, 0, 0), (61, .iconst 0, 1, 0, 0, 0, 0), (62, .istore_n 1, 1, 1, 0, 0, 0), (63, .iload_n 1, 1, 1, 0, 0, 0), (64, .ifCond .eq 14, 3, 78, 0, 0, 0), (67, .aload_n 0, 1, 0, 0, 0, 0), (68, .getfield 21, 3, 6, 1, 0, 0), (71, .aload_n 0, 1, 0, 0, 0, 0), (72, .getfield 25, 3, 6, 2, 0, 0), (75, .invokevirtual 108, 3, 0, 0, 0, 0), (78, .iload_n 1, 1, 1, 0, 0, 0), (79, .ireturn, 1, 0, 0, 0, 0)])
set_option maxRecDepth 20000 in
theorem okX6_readHeir : ab_ok mX6_readHeir := ⟨by decide, by decide +kernel, trivial, trivial, trivial, trivial, fl_RX6_21, fl_RX6_76, trivial, trivial, trivial, trivial, trivial, trivial, trivial, trivial, trivial, trivial, trivial, fl_RX6_21, fl_RX6_76, trivial, trivial, trivial, trivial, trivial, trivial, trivial, trivial, trivial, trivial, trivial, trivial, trivial, trivial, trivial, trivial, trivial, fl_RX6_21, trivial, fl_RX6_25, trivial, trivial, trivial, trivial⟩
def mX6_isWithoutHeir : MI := (yX6_isWithoutHeir, cX6_isWithoutHeir, 1, (some .boolean), [(0, .aload_n 0, 1, 0, 0, 0, 0), (1, .getfield 21, 3, 6, 1, 0, 0), (4, .getfield 111, 3, 5, 5, 0, 0), (7, .aload_n 0, 1, 0, 0, 0, 0), (8, .getfield 25, 3, 6, 2, 0, 0), (11, .iconst 0, 1, 0, 0, 0, 0), (12, .iaload, 1, 0, 0, 0, 0), (13, .iaload, 1, 0, 0, 0, 0), (14, .iconst (-1), 1, 0, 0, (-1), 0), (15, .if_icmp .eq 15, 3, 30, 0, 0, 0), (18, .aload_n 0, 1, 0, 0, 0, 0), (19, .iconst 4, 1, 0, 0, 4, 0), (20, .aload_n 0, 1, 0, 0, 0, 0), (21, .getfield 114, 3, 6, 4, 0, 0), (24, .invokevirtual 57, 3, 0, 0, 0, 0), (27, .ifCond .eq 7, 3, 34, 0, 0, 0), (30, .iconst 1, 1, 0, 0, 1, 0), (31, .goto 4, 3, 35, 0, 0, 0), (34, .iconst 0, 1, 0, 0, 0, 0), (35, .ireturn, 1, 0, 0, 0, 0)])
set_option maxRecDepth 20000 in
theorem okX6_isWithoutHeir : ab_ok mX6_isWithoutHeir := ⟨by decide, by decide +kernel, trivial, fl_RX6_21, fl_RX6_111, trivial, fl_RX6_25, trivial, trivial, trivial, trivial, trivial, trivial, trivial, trivial, fl_RX6_114, trivial, trivial, trivial, trivial, trivial, trivial, trivial⟩
def mX6_isUnlike : MI := (yX6_isUnlike, cX6_isUnlike, 1, (some .boolean), [(0, .aload_n 0, 1, 0, 0, 0, 0), (1, .getfield 25, 3, 6, 2, 0, 0), (4, .iconst 0, 1, 0, 0, 0, 0), (5, .iaload, 1, 0, 0, 0, 0), (6, .aload_n 0, 1, 0, 0, 0, 0), (7, .getfield 25, 3, 6, 2, 0, 0), (10, .iconst 1, 1, 0, 0, 1, 0), (11, .iaload, 1, 0, 0, 0, 0), (12, .if_icmp .ne 15, 3, 27, 0, 0, 0), (15, .aload_n 0, 1, 0, 0, 0, 0), (16, .iconst 4, 1, 0, 0, 4, 0), (17, .aload_n 0, 1, 0, 0, 0, 0), (18, .getfield 114, 3, 6, 4, 0, 0), (21, .invokevirtual 57, 3, 0, 0, 0, 0), (24, .ifCond .eq 7, 3, 31, 0, 0, 0), (27, .iconst 1, 1, 0, 0, 1, 0), (28, .goto 4, 3, 32, 0, 0, 0), (31, .iconst 0, 1, 0, 0, 0, 0), (32, .ireturn, 1, 0, 0, 0, 0)])
set_option maxRecDepth 20000 in
theorem okX6_isUnlike : ab_ok mX6_isUnlike := ⟨by decide, by decide +kernel, trivial, fl_RX6_25, trivial, trivial, trivial, fl_RX6_25, trivial, trivial, trivial, trivial, trivial, trivial, fl_RX6_114, trivial, trivial, trivial, trivial, trivial, trivial, trivial⟩
def mX6_readNumber : MI := (yX6_readNumber, cX6_readNumber, 6, (some .boolean), [(0, .aload_n 0, 1, 0, 0, 0, 0), (1, .invokevirtual 42, 3, 0, 0, 0, 0), (4, .aload_n 0, 1, 0, 0, 0, 0), (5, .aload_n 0, 1, 0, 0, 0, 0), (6, .getfield 29, 3, 6, 3, 0, 0), (9, .putfield 114, 3, 6, 4, 0, 0), (12, .iconst 0, 1, 0, 0, 0, 0), (13, .istore 4, 2, 4, 0, 0, 0), (15, .iconst 0, 1, 0, 0, 0, 0), (16, .istore 5, 2, 5, 0, 0, 0), (18, .iload 5, 2, 5, 0, 0, 0), (20, .sipush 250, 3, 0, 0, 250, 0), (23, .if_icmp .ge 64, 3, 87, 0, 0, 0), (26, .aload_n 0, 1, 0, 0, 0, 0), (27, .getfield 12, 3, 6, 0, 0, 0), (30, .aload_n 0, 1, 0, 0, 0, 0), (31, .getfield 29, 3, 6, 3, 0, 0), (34, .invokevirtual 45, 3, 0, 0, 0, 0), (37, .invokestatic 117, 3, 0, 0, 0, 0), (40, .ifCond .eq 47, 3, 87, 0, 0, 0), (43, .sipush 1000, 3, 0, 0, 1000, 0), (46, .iload 4, 2, 4, 0, 0, 0), (48, .bipush 10, 2, 0, 0, 10, 0), (50, .imul, 1, 0, 0, 0, 0), (51, .aload_n 0, 1, 0, 0, 0, 0), (52, .getfield 12, 3, 6, 0, 0, 0), (55, .aload_n 0, 1, 0, 0, 0, 0), (56, .getfield 29, 3, 6, 3, 0, 0), (59, .invokevirtual 45, 3, 0, 0, 0, 0), (62, .iadd, 1, 0, 0, 0, 0), (63, .bipush 48, 2, 0, 0, 48, 0), (65, .isub, 1, 0, 0, 0, 0), (66, .invokestatic 120, 3, 3, 0, 0, 0), (69, .istore 4, 2, 4, 0, 0, 0), (71, .aload_n 0, 1, 0, 0, 0, 0), (72, .dup, 1, 0, 0, 0, 0), (73, .getfield 29, 3, 6, 3, 0, 0), (76, .iconst 1, 1, 0, 0, 1, 0), (77, .iadd, 1, 0, 0, 0, 0), (78, .putfield 29, 3, 6, 3, 0, 0), (81, .iinc 5 1, 3, 5, 0, 1, 0), (84, .goto (-66), 3, 18, 0, 0, 0), (87, .aload_n 0, 1, 0, 0, 0, 0), (88, .getfield 29, 3, 6, 3, 0, 0), (91, .aload_n 0, 1, 0, 0, 0, 0), (92, .getfield 114, 3, 6, 4, 0, 0), (95, .isub, 1, 0, 0, 0, 0), (96, .istore 5, 2, 5, 0, 0, 0), (98, .iload 5, 2, 5, 0, 0, 0), (100, .ifCond .ne 13, 3, 113, 0, 0, 0), (103, .aload_n 0, 1, 0, 0, 0, 0), (104, .iconst 1, 1, 0, 0, 1, 0), (105, .aload_n 0, 1, 0, 0, 0, 0), (106, .getfield 29, 3, 6, 3, 0, 0), (109, .invokevirtual 57, 3, 0, 0, 0, 0), (112, .ireturn, 1, 0, 0, 0, 0), (113, .iload 5, 2, 5, 0, 0, 0), (115, .iconst 3, 1, 0, 0, 3, 0), (116, .if_icmp .gt 15, 3, 131, 0, 0, 0), (119, .iload 4, 2, 4, 0, 0, 0), (121, .iload_n 2, 1, 2, 0, 0, 0), (122, .if_icmp .lt 9, 3, 131, 0, 0, 0), (125, .iload 4, 2, 4, 0, 0, 0), (127, .iload_n 3, 1, 3, 0, 0, 0), (128, .if_icmp .le 13, 3, 141, 0, 0, 0), (131, .aload_n 0, 1, 0, 0, 0, 0), (132, .iconst 2, 1, 0, 0, 2, 0), (133, .aload_n 0, 1, 0, 0, 0, 0), (134, .getfield 114, 3, 6, 4, 0, 0), (137, .invokevirtual 57, 3, 0, 0, 0, 0), (140, .ireturn, 1, 0, 0, 0, 0), (141, .aload_n 0, 1, 0, 0, 0, 0), (142, .getfield 25, 3, 6, 2, 0, 0), (145, .iload_n 1, 1, 1, 0, 0, 0), (146, .iload 4, 2, 4, 0, 0, 0), (148, .iastore, 1, 0, 0, 0, 0), (149, .iconst 1, 1, 0, 0, 1, 0), (150, .ireturn, 1, 0, 0, 0, 0)])
set_option maxRecDepth 20000 in
theorem okX6_readNumber : ab_ok mX6_readNumber := ⟨by decide, by decide +kernel, trivial, trivial, trivial, trivial, fl_RX6_29, (gl_RX6_114 _), trivial, trivial, trivial, trivial, trivial, trivial, trivial, trivial, fl_RX6_12, trivial, fl_RX6_29, trivial, ⟨fun z => absurd z (by decide), fun z => absurd z (by decide), fun z => absurd z (by decide), fun z => absurd z (by decide)⟩, trivial, trivial, trivial, trivial, trivial, trivial, fl_RX6_12, trivial, fl_RX6_29, trivial, trivial, trivial, trivial, ⟨fun z => absurd z (by decide), fun z => absurd z (by decide), fun _ => ab_in (i := 421) rfl rfl, fun z => absurd z (by decide)⟩, trivial, trivial, trivial, fl_RX6_29, trivial, trivial, (gl_RX6_29 _), trivial, trivial, trivial, fl_RX6_29, trivial, fl_RX6_114, trivial, trivial, trivial, trivial, trivial, trivial, trivial, fl_RX6_29, trivial, trivial, trivial, trivial, trivial, trivial, trivial, trivial, trivial, trivial, trivial, trivial, trivial, trivial, fl_RX6_114, trivial, trivial, trivial, fl_RX6_25, trivial, trivial, trivial, trivial, trivial, trivial⟩
def mX6_readClose : MI := (yX6_readClose, cX6_readClose, 1, (some .boolean), [(0, .aload_n 0, 1, 0, 0, 0, 0), (1, .invokevirtual 42, 3, 0, 0, 0, 0), (4, .aload_n 0, 1, 0, 0, 0, 0), (5, .getfield 12, 3, 6, 0, 0, 0), (8, .aload_n 0, 1, 0, 0, 0, 0), (9, .getfield 29, 3, 6, 3, 0, 0), (12, .invokevirtual 45, 3, 0, 0, 0, 0), (15, .bipush 59, 2, 0, 0, 59, 0), (17, .if_icmp .eq 13, 3, 30, 0, 0, 0), (20, .aload_n 0, 1, 0, 0, 0, 0), (21, .iconst 1, 1, 0, 0, 1, 0), (22, .aload_n 0, 1, 0, 0, 0, 0), (23, .getfield 29, 3, 6, 3, 0, 0), (26, .invokevirtual 57, 3, 0, 0, 0, 0), (29, .ireturn, 1, 0, 0, 0, 0), (30, .aload_n 0, 1, 0, 0, 0, 0), (31, .dup, 1, 0, 0, 0, 0), (32, .getfield 29, 3, 6, 3, 0, 0), (35, .iconst 1, 1, 0, 0, 1, 0), (36, .iadd, 1, 0, 0, 0, 0), (37, .putfield 29, 3, 6, 3, 0, 0), (40, .iconst 1, 1, 0, 0, 1, 0), (41, .ireturn, 1, 0, 0, 0, 0)])
set_option maxRecDepth 20000 in
theorem okX6_readClose : ab_ok mX6_readClose := ⟨by decide, by decide +kernel, trivial, trivial, trivial, fl_RX6_12, trivial, fl_RX6_29, trivial, trivial, trivial, trivial, trivial, trivial, fl_RX6_29, trivial, trivial, trivial, trivial, fl_RX6_29, trivial, trivial, (gl_RX6_29 _), trivial, trivial, trivial⟩
def mX6_skipBlanks : MI := (yX6_skipBlanks, cX6_skipBlanks, 2, none, [(0, .iconst 0, 1, 0, 0, 0, 0), (1, .istore_n 1, 1, 1, 0, 0, 0), (2, .iload_n 1, 1, 1, 0, 0, 0), (3, .sipush 250, 3, 0, 0, 250, 0), (6, .if_icmp .ge 35, 3, 41, 0, 0, 0), (9, .aload_n 0, 1, 0, 0, 0, 0), (10, .getfield 12, 3, 6, 0, 0, 0), (13, .aload_n 0, 1, 0, 0, 0, 0), (14, .getfield 29, 3, 6, 3, 0, 0), (17, .invokevirtual 45, 3, 0, 0, 0, 0), (20, .bipush 32, 2, 0, 0, 32, 0), (22, .if_icmp .ne 19, 3, 41, 0, 0, 0), (25, .aload_n 0, 1, 0, 0, 0, 0), (26, .dup, 1, 0, 0, 0, 0), (27, .getfield 29, 3, 6, 3, 0, 0), (30, .iconst 1, 1, 0, 0, 1, 0), (31, .iadd, 1, 0, 0, 0, 0), (32, .putfield 29, 3, 6, 3, 0, 0), (35, .iinc 1 1, 3, 1, 0, 1, 0), (38, .goto (-36), 3, 2, 0, 0, 0), (41, .return_, 1, 0, 0, 0, 0)])
set_option maxRecDepth 20000 in
theorem okX6_skipBlanks : ab_ok mX6_skipBlanks := ⟨by decide, by decide +kernel, trivial, trivial, trivial, trivial, trivial, trivial, fl_RX6_12, trivial, fl_RX6_29, trivial, trivial, trivial, trivial, trivial, fl_RX6_29, trivial, trivial, (gl_RX6_29 _), trivial, trivial, trivial, trivial⟩
def mX6_isFigure : MI := (yX6_isFigure, cX6_isFigure, 1, (some .boolean), [(0, .iload_n 0, 1, 0, 0, 0, 0), (1, .bipush 48, 2, 0, 0, 48, 0), (3, .if_icmp .lt 13, 3, 16, 0, 0, 0), (6, .iload_n 0, 1, 0, 0, 0, 0), (7, .bipush 57, 2, 0, 0, 57, 0), (9, .if_icmp .gt 7, 3, 16, 0, 0, 0), (12, .iconst 1, 1, 0, 0, 1, 0), (13, .goto 4, 3, 17, 0, 0, 0), (16, .iconst 0, 1, 0, 0, 0, 0), (17, .ireturn, 1, 0, 0, 0, 0)])
set_option maxRecDepth 20000 in
theorem okX6_isFigure : ab_ok mX6_isFigure := ⟨by decide, by decide +kernel, trivial, trivial, trivial, trivial, trivial, trivial, trivial, trivial, trivial, trivial, trivial⟩
def mX6_fail : MI := (yX6_fail, cX6_fail, 3, (some .boolean), [(0, .aload_n 0, 1, 0, 0, 0, 0), (1, .iload_n 1, 1, 1, 0, 0, 0), (2, .putfield 33, 3, 6, 5, 0, 0), (5, .aload_n 0, 1, 0, 0, 0, 0), (6, .iload_n 2, 1, 2, 0, 0, 0), (7, .putfield 36, 3, 6, 6, 0, 0), (10, .iconst 0, 1, 0, 0, 0, 0), (11, .ireturn, 1, 0, 0, 0, 0)])
set_option maxRecDepth 20000 in
theorem okX6_fail : ab_ok mX6_fail := ⟨by decide, by decide +kernel, trivial, trivial, (gl_RX6_33 _), trivial, trivial, (gl_RX6_36 _), trivial, trivial, trivial⟩
def mX7_init : MI := (yX7_init, cX7_init, 1, none, [(0, .aload_n 0, 1, 0, 0, 0, 0), (1, .invokespecial 3, 3, 1, 0, 0, 0), (4, .aload_n 0, 1, 0, 0, 0, 0), (5, .iconst 4, 1, 0, 0, 4, 0), (6, .newarray .int, 2, 0, 0, 0, 0), (8, .putfield 11, 3, 7, 0, 1, 0), (11, .return_, 1, 0, 0, 0, 0)])
set_option maxRecDepth 20000 in
theorem okX7_init : ab_ok mX7_init := ⟨by decide, by decide +kernel, trivial, fun _ => ab_in (i := 302) rfl rfl, trivial, trivial, trivial, gl_RX7_11, trivial, trivial⟩
def mX7_search : MI := (yX7_search, cX7_search, 3, none, [(0, .iconst 2, 1, 0, 0, 2, 0), (1, .istore_n 2, 1, 2, 0, 0, 0), (2, .iload_n 2, 1, 2, 0, 0, 0), (3, .iconst 4, 1, 0, 0, 4, 0), (4, .if_icmp .gt 27, 3, 31, 0, 0, 0), (7, .aload_n 0, 1, 0, 0, 0, 0), (8, .iload_n 2, 1, 2, 0, 0, 0), (9, .putfield 15, 3, 7, 1, 0, 0), (12, .aload_n 0, 1, 0, 0, 0, 0), (13, .aload_n 1, 1, 1, 0, 0, 0), (14, .iconst 0, 1, 0, 0, 0, 0), (15, .iconst 0, 1, 0, 0, 0, 0), (16, .iconst 1, 1, 0, 0, 1, 0), (17, .iconst 1, 1, 0, 0, 1, 0), (18, .invokevirtual 19, 3, 0, 0, 0, 0), (21, .ifCond .eq 4, 3, 25, 0, 0, 0), (24, .return_, 1, 0, 0, 0, 0), (25, .iinc 2 1, 3, 2, 0, 1, 0), (28, .goto (-26), 3, 2, 0, 0, 0), (31, .aload_n 0, 1, 0, 0, 0, 0), (32, .iconst 0, 1, 0, 0, 0, 0), (33, .putfield 15, 3, 7, 1, 0, 0), (36, .return_, 1, 0, 0, 0, 0)])
set_option maxRecDepth 20000 in
theorem okX7_search : ab_ok mX7_search := ⟨by decide, by decide +kernel, trivial, trivial, trivial, trivial, trivial, trivial, trivial, (gl_RX7_15 _), trivial, trivial, trivial, trivial, trivial, trivial, trivial, trivial, trivial, trivial, trivial, trivial, trivial, (gl_RX7_15 _), trivial, trivial⟩
def mX7_extend : MI := (yX7_extend, cX7_extend, 12, (some .boolean), [(0, .iload_n 2, 1, 2, 0, 0, 0), (1, .iconst 4, 1, 0, 0, 4, 0), (2, .if_icmp .lt 5, 3, 7, 0, 0, 0), (5, .iconst 0, 1, 0, 0, 0, 0), (6, .ireturn, 1, 0, 0, 0, 0), (7, .iconst 0, 1, 0, 0, 0, 0), (8, .istore 6, 2, 6, 0, 0, 0), (10, .iload 6, 2, 6, 0, 0, 0), (12, .aload_n 1, 1, 1, 0, 0, 0), (13, .getfield 23, 3, 5, 2, 0, 0), (16, .if_icmp .ge 166, 3, 182, 0, 0, 0), (19, .aload_n 1, 1, 1, 0, 0, 0), (20, .getfield 28, 3, 5, 9, 0, 0), (23, .iload 6, 2, 6, 0, 0, 0), (25, .iaload, 1, 0, 0, 0, 0), (26, .istore 7, 2, 7, 0, 0, 0), (28, .iload_n 2, 1, 2, 0, 0, 0), (29, .ifCond .eq 21, 3, 50, 0, 0, 0), (32, .iload 7, 2, 7, 0, 0, 0), (34, .aload_n 1, 1, 1, 0, 0, 0), (35, .getfield 31, 3, 5, 10, 0, 0), (38, .aload_n 0, 1, 0, 0, 0, 0), (39, .getfield 11, 3, 7, 0, 0, 0), (42, .iload_n 2, 1, 2, 0, 0, 0), (43, .iconst 1, 1, 0, 0, 1, 0), (44, .isub, 1, 0, 0, 0, 0), (45, .iaload, 1, 0, 0, 0, 0), (46, .iaload, 1, 0, 0, 0, 0), (47, .if_icmp .ne 7, 3, 54, 0, 0, 0), (50, .iconst 1, 1, 0, 0, 1, 0), (51, .goto 4, 3, 55, 0, 0, 0), (54, .iconst 0, 1, 0, 0, 0, 0), (55, .istore 8, 2, 8, 0, 0, 0), (57, .iload 8, 2, 8, 0, 0, 0), (59, .ifCond .eq 117, 3, 176, 0, 0, 0), (62, .iload_n 3, 1, 3, 0, 0, 0), (63, .iload 7, 2, 7, 0, 0, 0), (65, .ishr, 1, 0, 0, 0, 0), (66, .iconst 1, 1, 0, 0, 1, 0), (67, .iand, 1, 0, 0, 0, 0), (68, .ifCond .ne 108, 3, 176, 0, 0, 0), (71, .aload_n 0, 1, 0, 0, 0, 0), (72, .getfield 11, 3, 7, 0, 0, 0), (75, .iload_n 2, 1, 2, 0, 0, 0), (76, .iload 6, 2, 6, 0, 0, 0), (78, .iastore, 1, 0, 0, 0, 0), (79, .iload 4, 2, 4, 0, 0, 0), (81, .aload_n 1, 1, 1, 0, 0, 0), (82, .getfield 34, 3, 5, 11, 0, 0), (85, .iload 6, 2, 6, 0, 0, 0), (87, .iaload, 1, 0, 0, 0, 0), (88, .imul, 1, 0, 0, 0, 0), (89, .istore 9, 2, 9, 0, 0, 0), (91, .iload 5, 2, 5, 0, 0, 0), (93, .aload_n 1, 1, 1, 0, 0, 0), (94, .getfield 37, 3, 5, 12, 0, 0), (97, .iload 6, 2, 6, 0, 0, 0), (99, .iaload, 1, 0, 0, 0, 0), (100, .imul, 1, 0, 0, 0, 0), (101, .istore 10, 2, 10, 0, 0, 0), (103, .iload_n 2, 1, 2, 0, 0, 0), (104, .iconst 1, 1, 0, 0, 1, 0), (105, .iadd, 1, 0, 0, 0, 0), (106, .aload_n 0, 1, 0, 0, 0, 0), (107, .getfield 15, 3, 7, 1, 0, 0), (110, .if_icmp .ne 39, 3, 149, 0, 0, 0), (113, .aload_n 1, 1, 1, 0, 0, 0), (114, .getfield 31, 3, 5, 10, 0, 0), (117, .iload 6, 2, 6, 0, 0, 0), (119, .iaload, 1, 0, 0, 0, 0), (120, .aload_n 1, 1, 1, 0, 0, 0), (121, .getfield 28, 3, 5, 9, 0, 0), (124, .aload_n 0, 1, 0, 0, 0, 0), (125, .getfield 11, 3, 7, 0, 0, 0), (128, .iconst 0, 1, 0, 0, 0, 0), (129, .iaload, 1, 0, 0, 0, 0), (130, .iaload, 1, 0, 0, 0, 0), (131, .if_icmp .ne 14, 3, 145, 0, 0, 0), (134, .iload 10, 2, 10, 0, 0, 0), (136, .iload 9, 2, 9, 0, 0, 0), (138, .if_icmp .le 7, 3, 145, 0, 0, 0), (141, .iconst 1, 1, 0, 0, 1, 0), (142, .goto 25, 3, 167, 0, 0, 0), (145, .iconst 0, 1, 0, 0, 0, 0), (146, .goto 21, 3, 167, 0, 0, 0), (149, .aload_n 0, 1, 0, 0, 0, 0), (150, .aload_n 1, 1, 1, 0, 0, 0), (151, .iload_n 2, 1, 2, 0, 0, 0), (152, .iconst 1, 1, 0, 0, 1, 0), (153, .iadd, 1, 0, 0, 0, 0), (154, .iload_n 3, 1, 3, 0, 0, 0), (155, .iconst 1, 1, 0, 0, 1, 0), (156, .iload 7, 2, 7, 0, 0, 0), (158, .ishl, 1, 0, 0, 0, 0), (159, .ior, 1, 0, 0, 0, 0), (160, .iload 9, 2, 9, 0, 0, 0), (162, .iload 10, 2, 10, 0, 0, 0), (164, .invokevirtual 19, 3, 0, 0, 0, 0), (167, .istore 11, 2, 11, 0, 0, 0), (169, .iload 11, 2, 11, 0, 0, 0), (171, .ifCond .eq 5, 3, 176, 0, 0, 0), (174, .iconst 1, 1, 0, 0, 1, 0), (175, .ireturn, 1, 0, 0, 0, 0), (176, .iinc 6 1, 3, 6, 0, 1, 0), (179, .goto (-169), 3, 10, 0, 0, 0), (182, .iconst 0, 1, 0, 0, 0, 0), (183, .ireturn, 1, 0, 0, 0, 0)])
set_option maxRecDepth 20000 in
theorem okX7_extend : ab_ok mX7_extend := ⟨by decide, by decide +kernel, trivial, trivial, trivial, trivial, trivial, trivial, trivial, trivial, trivial, fl_RX7_23, trivial, trivial, fl_RX7_28, trivial, trivial, trivial, trivial, trivial, trivial, trivial, fl_RX7_31, trivial, fl_RX7_11, trivial, trivial, trivial, trivial, trivial, trivial, trivial, trivial, trivial, trivial, trivial, trivial, trivial, trivial, trivial, trivial, trivial, trivial, trivial, fl_RX7_11, trivial, trivial, trivial, trivial, trivial, fl_RX7_34, trivial, trivial, trivial, trivial, trivial, trivial, fl_RX7_37, trivial, trivial, trivial, trivial, trivial, trivial, trivial, trivial, fl_RX7_15, trivial, trivial, fl_RX7_31, trivial, trivial, trivial, fl_RX7_28, trivial, fl_RX7_11, trivial, trivial, trivial, trivial, trivial, trivial, trivial, trivial, trivial, trivial, trivial, trivial, trivial, trivial, trivial, trivial, trivial, trivial, trivial, trivial, trivial, trivial, trivial, trivial, trivial, trivial, trivial, trivial, trivial, trivial, trivial, trivial, trivial, trivial⟩
def mX7_leastMending : MI := (yX7_leastMending, cX7_leastMending, 4, (some .int), [(0, .iconst (-1), 1, 0, 0, (-1), 0), (1, .istore_n 2, 1, 2, 0, 0, 0), (2, .iconst 0, 1, 0, 0, 0, 0), (3, .istore_n 3, 1, 3, 0, 0, 0), (4, .iload_n 3, 1, 3, 0, 0, 0), (5, .aload_n 0, 1, 0, 0, 0, 0), (6, .getfield 15, 3, 7, 1, 0, 0), (9, .if_icmp .ge 40, 3, 49, 0, 0, 0), (12, .iload_n 2, 1, 2, 0, 0, 0), (13, .iconst (-1), 1, 0, 0, (-1), 0), (14, .if_icmp .eq 13, 3, 27, 0, 0, 0), (17, .aload_n 0, 1, 0, 0, 0, 0), (18, .getfield 11, 3, 7, 0, 0, 0), (21, .iload_n 3, 1, 3, 0, 0, 0), (22, .iaload, 1, 0, 0, 0, 0), (23, .iload_n 2, 1, 2, 0, 0, 0), (24, .if_icmp .ge 19, 3, 43, 0, 0, 0), (27, .aload_n 0, 1, 0, 0, 0, 0), (28, .aload_n 1, 1, 1, 0, 0, 0), (29, .iload_n 3, 1, 3, 0, 0, 0), (30, .invokevirtual 40, 3, 0, 0, 0, 0), (33, .ifCond .ne 10, 3, 43, 0, 0, 0), (36, .aload_n 0, 1, 0, 0, 0, 0), (37, .getfield 11, 3, 7, 0, 0, 0), (40, .iload_n 3, 1, 3, 0, 0, 0), (41, .iaload, 1, 0, 0, 0, 0), (42, .istore_n 2, 1, 2, 0, 0, 0), (43, .iinc 3 1, 3, 3, 0, 1, 0), (46, .goto (-42), 3, 4, 0, 0, 0), (49, .iload_n 2, 1, 2, 0, 0, 0), (50, .ireturn, 1, 0, 0, 0, 0)])
set_option maxRecDepth 20000 in
theorem okX7_leastMending : ab_ok mX7_leastMending := ⟨by decide, by decide +kernel, trivial, trivial, trivial, trivial, trivial, trivial, fl_RX7_15, trivial, trivial, trivial, trivial, trivial, fl_RX7_11, trivial, trivial, trivial, trivial, trivial, trivial, trivial, trivial, trivial, trivial, fl_RX7_11, trivial, trivial, trivial, trivial, trivial, trivial, trivial, trivial⟩
def mX7_gainsWithLess : MI := (yX7_gainsWithLess, cX7_gainsWithLess, 7, (some .boolean), [(0, .iconst 1, 1, 0, 0, 1, 0), (1, .istore_n 3, 1, 3, 0, 0, 0), (2, .iconst 1, 1, 0, 0, 1, 0), (3, .istore 4, 2, 4, 0, 0, 0), (5, .iconst 0, 1, 0, 0, 0, 0), (6, .istore 5, 2, 5, 0, 0, 0), (8, .iload 5, 2, 5, 0, 0, 0), (10, .aload_n 0, 1, 0, 0, 0, 0), (11, .getfield 15, 3, 7, 1, 0, 0), (14, .if_icmp .ge 62, 3, 76, 0, 0, 0), (17, .aload_n 1, 1, 1, 0, 0, 0), (18, .getfield 37, 3, 5, 12, 0, 0), (21, .aload_n 0, 1, 0, 0, 0, 0), (22, .getfield 11, 3, 7, 0, 0, 0), (25, .iload 5, 2, 5, 0, 0, 0), (27, .iaload, 1, 0, 0, 0, 0), (28, .iaload, 1, 0, 0, 0, 0), (29, .istore 6, 2, 6, 0, 0, 0), (31, .iload_n 3, 1, 3, 0, 0, 0), (32, .aload_n 1, 1, 1, 0, 0, 0), (33, .getfield 34, 3, 5, 11, 0, 0), (36, .aload_n 0, 1, 0, 0, 0, 0), (37, .getfield 11, 3, 7, 0, 0, 0), (40, .iload 5, 2, 5, 0, 0, 0), (42, .iaload, 1, 0, 0, 0, 0), (43, .iaload, 1, 0, 0, 0, 0), (44, .imul, 1, 0, 0, 0, 0), (45, .istore_n 3, 1, 3, 0, 0, 0), (46, .iload 4, 2, 4, 0, 0, 0), (48, .iload 5, 2, 5, 0, 0, 0), (50, .iload_n 2, 1, 2, 0, 0, 0), (51, .if_icmp .ne 14, 3, 65, 0, 0, 0), (54, .iconst 1, 1, 0, 0, 1, 0), (55, .iload 6, 2, 6, 0, 0, 0), (57, .iconst 1, 1, 0, 0, 1, 0), (58, .isub, 1, 0, 0, 0, 0), (59, .invokestatic 44, 3, 2, 0, 0, 0), (62, .goto 5, 3, 67, 0, 0, 0), (65, .iload 6, 2, 6, 0, 0, 0), (67, .imul, 1, 0, 0, 0, 0), (68, .istore 4, 2, 4, 0, 0, 0), (70, .iinc 5 1, 3, 5, 0, 1, 0), (73, .goto (-65), 3, 8, 0, 0, 0), (76, .iload 4, 2, 4, 0, 0, 0), (78, .iload_n 3, 1, 3, 0, 0, 0), (79, .if_icmp .le 7, 3, 86, 0, 0, 0), (82, .iconst 1, 1, 0, 0, 1, 0), (83, .goto 4, 3, 87, 0, 0, 0), (86, .iconst 0, 1, 0, 0, 0, 0), (87, .ireturn, 1, 0, 0, 0, 0)])
set_option maxRecDepth 20000 in
theorem okX7_gainsWithLess : ab_ok mX7_gainsWithLess := ⟨by decide, by decide +kernel, trivial, trivial, trivial, trivial, trivial, trivial, trivial, trivial, fl_RX7_15, trivial, trivial, fl_RX7_37, trivial, fl_RX7_11, trivial, trivial, trivial, trivial, trivial, trivial, fl_RX7_34, trivial, fl_RX7_11, trivial, trivial, trivial, trivial, trivial, trivial, trivial, trivial, trivial, trivial, trivial, trivial, trivial, ⟨fun z => absurd z (by decide), fun _ => ab_in (i := 727) rfl rfl, fun z => absurd z (by decide), fun z => absurd z (by decide)⟩, trivial, trivial, trivial, trivial, trivial, trivial, trivial, trivial, trivial, trivial, trivial, trivial, trivial, trivial⟩
def mX8_init : MI := (yX8_init, cX8_init, 2, none, [(0, .aload_n 0, 1, 0, 0, 0, 0), (1, .invokespecial 5, 3, 1, 0, 0, 0), (4, .aload_n 0, 1, 0, 0, 0, 0), (5, .bipush 21, 2, 0, 0, 21, 0), (7, .newarray .int, 2, 0, 0, 0, 0), (9, .putfield 11, 3, 8, 0, 1, 0), (12, .bipush 6, 2, 0, 0, 6, 0), (14, .istore_n 1, 1, 1, 0, 0, 0), (15, .iload_n 1, 1, 1, 0, 0, 0), (16, .bipush 18, 2, 0, 0, 18, 0), (18, .if_icmp .ge 16, 3, 34, 0, 0, 0), (21, .aload_n 0, 1, 0, 0, 0, 0), (22, .getfield 11, 3, 8, 0, 0, 0), (25, .iload_n 1, 1, 1, 0, 0, 0), (26, .iconst (-1), 1, 0, 0, (-1), 0), (27, .iastore, 1, 0, 0, 0, 0), (28, .iinc 1 1, 3, 1, 0, 1, 0), (31, .goto (-16), 3, 15, 0, 0, 0), (34, .return_, 1, 0, 0, 0, 0)])
set_option maxRecDepth 20000 in
theorem okX8_init : ab_ok mX8_init := ⟨by decide, by decide +kernel, trivial, fun _ => ab_in (i := 208) rfl rfl, trivial, trivial, trivial, gl_RX8_11, trivial, trivial, trivial, trivial, trivial, trivial, fl_RX8_11, trivial, trivial, trivial, trivial, trivial, trivial, trivial⟩
def mX8_begin : MI := (yX8_begin, cX8_begin, 3, none, [(0, .aload_n 1, 1, 1, 0, 0, 0), (1, .getfield 15, 3, 5, 3, 0, 0), (4, .iconst 0, 1, 0, 0, 0, 0), (5, .aload_n 0, 1, 0, 0, 0, 0), (6, .getfield 11, 3, 8, 0, 0, 0), (9, .iconst 0, 1, 0, 0, 0, 0), (10, .bipush 6, 2, 0, 0, 6, 0), (12, .invokestatic 20, 3, 1, 0, 0, 0), (15, .bipush 6, 2, 0, 0, 6, 0), (17, .istore_n 2, 1, 2, 0, 0, 0), (18, .iload_n 2, 1, 2, 0, 0, 0), (19, .bipush 18, 2, 0, 0, 18, 0), (21, .if_icmp .ge 16, 3, 37, 0, 0, 0), (24, .aload_n 0, 1, 0, 0, 0, 0), (25, .getfield 11, 3, 8, 0, 0, 0), (28, .iload_n 2, 1, 2, 0, 0, 0), (29, .iconst (-1), 1, 0, 0, (-1), 0), (30, .iastore, 1, 0, 0, 0, 0), (31, .iinc 2 1, 3, 2, 0, 1, 0), (34, .goto (-16), 3, 18, 0, 0, 0), (37, .aload_n 0, 1, 0, 0, 0, 0), (38, .getfield 11, 3, 8, 0, 0, 0), (41, .bipush 18, 2, 0, 0, 18, 0), (43, .iconst 1, 1, 0, 0, 1, 0), (44, .aload_n 1, 1, 1, 0, 0, 0), (45, .getfield 26, 3, 5, 0, 0, 0), (48, .ishl, 1, 0, 0, 0, 0), (49, .iconst 1, 1, 0, 0, 1, 0), (50, .isub, 1, 0, 0, 0, 0), (51, .iastore, 1, 0, 0, 0, 0), (52, .aload_n 0, 1, 0, 0, 0, 0), (53, .getfield 11, 3, 8, 0, 0, 0), (56, .bipush 19, 2, 0, 0, 19, 0), (58, .iconst 0, 1, 0, 0, 0, 0), (59, .iastore, 1, 0, 0, 0, 0), (60, .return_, 1, 0, 0, 0, 0)])
set_option maxRecDepth 20000 in
theorem okX8_begin : ab_ok mX8_begin := ⟨by decide, by decide +kernel, trivial, fl_RX8_15, trivial, trivial, fl_RX8_11, trivial, trivial, ⟨fun _ => ab_in (i := 479) rfl rfl, fun z => absurd z (by decide), fun z => absurd z (by decide), fun z => absurd z (by decide)⟩, trivial, trivial, trivial, trivial, trivial, trivial, fl_RX8_11, trivial, trivial, trivial, trivial, trivial, trivial, fl_RX8_11, trivial, trivial, trivial, fl_RX8_26, trivial, trivial, trivial, trivial, trivial, fl_RX8_11, trivial, trivial, trivial, trivial, trivial⟩
def mX8_lengthOf : MI := (yX8_lengthOf, cX8_lengthOf, 2, (some .int), [(0, .aload_n 0, 1, 0, 0, 0, 0), (1, .getfield 11, 3, 8, 0, 0, 0), (4, .iconst 0, 1, 0, 0, 0, 0), (5, .iload_n 1, 1, 1, 0, 0, 0), (6, .iadd, 1, 0, 0, 0, 0), (7, .iaload, 1, 0, 0, 0, 0), (8, .ireturn, 1, 0, 0, 0, 0)])
set_option maxRecDepth 20000 in
theorem okX8_lengthOf : ab_ok mX8_lengthOf := ⟨by decide, by decide +kernel, trivial, fl_RX8_11, trivial, trivial, trivial, trivial, trivial, trivial⟩
def mX8_copyOf : MI := (yX8_copyOf, cX8_copyOf, 2, (some .int), [(0, .aload_n 0, 1, 0, 0, 0, 0), (1, .getfield 11, 3, 8, 0, 0, 0), (4, .bipush 6, 2, 0, 0, 6, 0), (6, .iload_n 1, 1, 1, 0, 0, 0), (7, .iadd, 1, 0, 0, 0, 0), (8, .iaload, 1, 0, 0, 0, 0), (9, .ireturn, 1, 0, 0, 0, 0)])
set_option maxRecDepth 20000 in
theorem okX8_copyOf : ab_ok mX8_copyOf := ⟨by decide, by decide +kernel, trivial, fl_RX8_11, trivial, trivial, trivial, trivial, trivial, trivial⟩
def mX8_paidOf : MI := (yX8_paidOf, cX8_paidOf, 2, (some .int), [(0, .aload_n 0, 1, 0, 0, 0, 0), (1, .getfield 11, 3, 8, 0, 0, 0), (4, .bipush 12, 2, 0, 0, 12, 0), (6, .iload_n 1, 1, 1, 0, 0, 0), (7, .iadd, 1, 0, 0, 0, 0), (8, .iaload, 1, 0, 0, 0, 0), (9, .ireturn, 1, 0, 0, 0, 0)])
set_option maxRecDepth 20000 in
theorem okX8_paidOf : ab_ok mX8_paidOf := ⟨by decide, by decide +kernel, trivial, fl_RX8_11, trivial, trivial, trivial, trivial, trivial, trivial⟩
def mX8_living : MI := (yX8_living, cX8_living, 1, (some .int), [(0, .aload_n 0, 1, 0, 0, 0, 0), (1, .getfield 11, 3, 8, 0, 0, 0), (4, .bipush 18, 2, 0, 0, 18, 0), (6, .iaload, 1, 0, 0, 0, 0), (7, .ireturn, 1, 0, 0, 0, 0)])
set_option maxRecDepth 20000 in
theorem okX8_living : ab_ok mX8_living := ⟨by decide, by decide +kernel, trivial, fl_RX8_11, trivial, trivial, trivial, trivial⟩
def mX8_seasons : MI := (yX8_seasons, cX8_seasons, 1, (some .int), [(0, .aload_n 0, 1, 0, 0, 0, 0), (1, .getfield 11, 3, 8, 0, 0, 0), (4, .bipush 19, 2, 0, 0, 19, 0), (6, .iaload, 1, 0, 0, 0, 0), (7, .ireturn, 1, 0, 0, 0, 0)])
set_option maxRecDepth 20000 in
theorem okX8_seasons : ab_ok mX8_seasons := ⟨by decide, by decide +kernel, trivial, fl_RX8_11, trivial, trivial, trivial, trivial⟩
def mX8_seedNow : MI := (yX8_seedNow, cX8_seedNow, 1, (some .int), [(0, .aload_n 0, 1, 0, 0, 0, 0), (1, .getfield 11, 3, 8, 0, 0, 0), (4, .bipush 20, 2, 0, 0, 20, 0), (6, .iaload, 1, 0, 0, 0, 0), (7, .ireturn, 1, 0, 0, 0, 0)])
set_option maxRecDepth 20000 in
theorem okX8_seedNow : ab_ok mX8_seedNow := ⟨by decide, by decide +kernel, trivial, fl_RX8_11, trivial, trivial, trivial, trivial⟩
def mX8_lives : MI := (yX8_lives, cX8_lives, 2, (some .boolean), [(0, .aload_n 0, 1, 0, 0, 0, 0), (1, .getfield 11, 3, 8, 0, 0, 0), (4, .bipush 18, 2, 0, 0, 18, 0), (6, .iaload, 1, 0, 0, 0, 0), (7, .iload_n 1, 1, 1, 0, 0, 0), (8, .ishr, 1, 0, 0, 0, 0), (9, .iconst 1, 1, 0, 0, 1, 0), (10, .iand, 1, 0, 0, 0, 0), (11, .ifCond .eq 7, 3, 18, 0, 0, 0), (14, .iconst 1, 1, 0, 0, 1, 0), (15, .goto 4, 3, 19, 0, 0, 0), (18, .iconst 0, 1, 0, 0, 0, 0), (19, .ireturn, 1, 0, 0, 0, 0)])
set_option maxRecDepth 20000 in
theorem okX8_lives : ab_ok mX8_lives := ⟨by decide, by decide +kernel, trivial, fl_RX8_11, trivial, trivial, trivial, trivial, trivial, trivial, trivial, trivial, trivial, trivial, trivial, trivial⟩
def mX8_copied : MI := (yX8_copied, cX8_copied, 3, (some .int), [(0, .iconst 0, 1, 0, 0, 0, 0), (1, .istore_n 1, 1, 1, 0, 0, 0), (2, .iconst 0, 1, 0, 0, 0, 0), (3, .istore_n 2, 1, 2, 0, 0, 0), (4, .iload_n 2, 1, 2, 0, 0, 0), (5, .bipush 6, 2, 0, 0, 6, 0), (7, .if_icmp .ge 28, 3, 35, 0, 0, 0), (10, .aload_n 0, 1, 0, 0, 0, 0), (11, .getfield 11, 3, 8, 0, 0, 0), (14, .bipush 6, 2, 0, 0, 6, 0), (16, .iload_n 2, 1, 2, 0, 0, 0), (17, .iadd, 1, 0, 0, 0, 0), (18, .iaload, 1, 0, 0, 0, 0), (19, .iconst (-1), 1, 0, 0, (-1), 0), (20, .if_icmp .eq 9, 3, 29, 0, 0, 0), (23, .iload_n 1, 1, 1, 0, 0, 0), (24, .iconst 1, 1, 0, 0, 1, 0), (25, .iload_n 2, 1, 2, 0, 0, 0), (26, .ishl, 1, 0, 0, 0, 0), (27, .ior, 1, 0, 0, 0, 0), (28, .istore_n 1, 1, 1, 0, 0, 0), (29, .iinc 2 1, 3, 2, 0, 1, 0), (32, .goto (-28), 3, 4, 0, 0, 0), (35, .iload_n 1, 1, 1, 0, 0, 0), (36, .ireturn, 1, 0, 0, 0, 0)])
set_option maxRecDepth 20000 in
theorem okX8_copied : ab_ok mX8_copied := ⟨by decide, by decide +kernel, trivial, trivial, trivial, trivial, trivial, trivial, trivial, trivial, fl_RX8_11, trivial, trivial, trivial, trivial, trivial, trivial, trivial, trivial, trivial, trivial, trivial, trivial, trivial, trivial, trivial, trivial, trivial⟩
def mX8_paidTogether : MI := (yX8_paidTogether, cX8_paidTogether, 3, (some .int), [(0, .iconst 0, 1, 0, 0, 0, 0), (1, .istore_n 1, 1, 1, 0, 0, 0), (2, .iconst 0, 1, 0, 0, 0, 0), (3, .istore_n 2, 1, 2, 0, 0, 0), (4, .iload_n 2, 1, 2, 0, 0, 0), (5, .bipush 6, 2, 0, 0, 6, 0), (7, .if_icmp .ge 25, 3, 32, 0, 0, 0), (10, .iload_n 1, 1, 1, 0, 0, 0), (11, .iconst 0, 1, 0, 0, 0, 0), (12, .aload_n 0, 1, 0, 0, 0, 0), (13, .getfield 11, 3, 8, 0, 0, 0), (16, .bipush 12, 2, 0, 0, 12, 0), (18, .iload_n 2, 1, 2, 0, 0, 0), (19, .iadd, 1, 0, 0, 0, 0), (20, .iaload, 1, 0, 0, 0, 0), (21, .invokestatic 30, 3, 2, 0, 0, 0), (24, .iadd, 1, 0, 0, 0, 0), (25, .istore_n 1, 1, 1, 0, 0, 0), (26, .iinc 2 1, 3, 2, 0, 1, 0), (29, .goto (-25), 3, 4, 0, 0, 0), (32, .iload_n 1, 1, 1, 0, 0, 0), (33, .ireturn, 1, 0, 0, 0, 0)])
set_option maxRecDepth 20000 in
theorem okX8_paidTogether : ab_ok mX8_paidTogether := ⟨by decide, by decide +kernel, trivial, trivial, trivial, trivial, trivial, trivial, trivial, trivial, trivial, trivial, fl_RX8_11, trivial, trivial, trivial, trivial, ⟨fun z => absurd z (by decide), fun _ => ab_in (i := 516) rfl rfl, fun z => absurd z (by decide), fun z => absurd z (by decide)⟩, trivial, trivial, trivial, trivial, trivial, trivial, trivial⟩
def mX8_noughts : MI := (yX8_noughts, cX8_noughts, 3, (some .int), [(0, .iconst 0, 1, 0, 0, 0, 0), (1, .istore_n 1, 1, 1, 0, 0, 0), (2, .iconst 0, 1, 0, 0, 0, 0), (3, .istore_n 2, 1, 2, 0, 0, 0), (4, .iload_n 2, 1, 2, 0, 0, 0), (5, .bipush 6, 2, 0, 0, 6, 0), (7, .if_icmp .ge 27, 3, 34, 0, 0, 0), (10, .aload_n 0, 1, 0, 0, 0, 0), (11, .getfield 11, 3, 8, 0, 0, 0), (14, .bipush 12, 2, 0, 0, 12, 0), (16, .iload_n 2, 1, 2, 0, 0, 0), (17, .iadd, 1, 0, 0, 0, 0), (18, .iaload, 1, 0, 0, 0, 0), (19, .ifCond .ne 9, 3, 28, 0, 0, 0), (22, .iload_n 1, 1, 1, 0, 0, 0), (23, .iconst 1, 1, 0, 0, 1, 0), (24, .iload_n 2, 1, 2, 0, 0, 0), (25, .ishl, 1, 0, 0, 0, 0), (26, .ior, 1, 0, 0, 0, 0), (27, .istore_n 1, 1, 1, 0, 0, 0), (28, .iinc 2 1, 3, 2, 0, 1, 0), (31, .goto (-27), 3, 4, 0, 0, 0), (34, .iload_n 1, 1, 1, 0, 0, 0), (35, .ireturn, 1, 0, 0, 0, 0)])
set_option maxRecDepth 20000 in
theorem okX8_noughts : ab_ok mX8_noughts := ⟨by decide, by decide +kernel, trivial, trivial, trivial, trivial, trivial, trivial, trivial, trivial, fl_RX8_11, trivial, trivial, trivial, trivial, trivial, trivial, trivial, trivial, trivial, trivial, trivial, trivial, trivial, trivial, trivial, trivial⟩
def mX8_ownMeasure : MI := (yX8_ownMeasure, cX8_ownMeasure, 4, (some .int), [(0, .iconst 0, 1, 0, 0, 0, 0), (1, .aload_n 0, 1, 0, 0, 0, 0), (2, .getfield 11, 3, 8, 0, 0, 0), (5, .iconst 0, 1, 0, 0, 0, 0), (6, .iload_n 2, 1, 2, 0, 0, 0), (7, .iadd, 1, 0, 0, 0, 0), (8, .iaload, 1, 0, 0, 0, 0), (9, .aload_n 1, 1, 1, 0, 0, 0), (10, .iload_n 2, 1, 2, 0, 0, 0), (11, .iload_n 3, 1, 3, 0, 0, 0), (12, .invokevirtual 36, 3, 0, 0, 0, 0), (15, .iadd, 1, 0, 0, 0, 0), (16, .invokestatic 30, 3, 2, 0, 0, 0), (19, .ireturn, 1, 0, 0, 0, 0)])
set_option maxRecDepth 20000 in
theorem okX8_ownMeasure : ab_ok mX8_ownMeasure := ⟨by decide, by decide +kernel, trivial, trivial, fl_RX8_11, trivial, trivial, trivial, trivial, trivial, trivial, trivial, trivial, trivial, ⟨fun z => absurd z (by decide), fun _ => ab_in (i := 516) rfl rfl, fun z => absurd z (by decide), fun z => absurd z (by decide)⟩, trivial, trivial⟩
def mX8_measure : MI := (yX8_measure, cX8_measure, 6, (some .int), [(0, .iload_n 2, 1, 2, 0, 0, 0), (1, .istore 4, 2, 4, 0, 0, 0), (3, .iconst 0, 1, 0, 0, 0, 0), (4, .istore 5, 2, 5, 0, 0, 0), (6, .iload 5, 2, 5, 0, 0, 0), (8, .bipush 6, 2, 0, 0, 6, 0), (10, .if_icmp .gt 67, 3, 77, 0, 0, 0), (13, .iload 4, 2, 4, 0, 0, 0), (15, .iconst (-1), 1, 0, 0, (-1), 0), (16, .if_icmp .eq 61, 3, 77, 0, 0, 0), (19, .aload_n 0, 1, 0, 0, 0, 0), (20, .getfield 11, 3, 8, 0, 0, 0), (23, .bipush 6, 2, 0, 0, 6, 0), (25, .iload 4, 2, 4, 0, 0, 0), (27, .iadd, 1, 0, 0, 0, 0), (28, .iaload, 1, 0, 0, 0, 0), (29, .iconst (-1), 1, 0, 0, (-1), 0), (30, .if_icmp .eq 14, 3, 44, 0, 0, 0), (33, .aload_n 0, 1, 0, 0, 0, 0), (34, .getfield 11, 3, 8, 0, 0, 0), (37, .bipush 6, 2, 0, 0, 6, 0), (39, .iload 4, 2, 4, 0, 0, 0), (41, .iadd, 1, 0, 0, 0, 0), (42, .iaload, 1, 0, 0, 0, 0), (43, .ireturn, 1, 0, 0, 0, 0), (44, .aload_n 0, 1, 0, 0, 0, 0), (45, .iload 4, 2, 4, 0, 0, 0), (47, .invokevirtual 39, 3, 0, 0, 0, 0), (50, .ifCond .eq 12, 3, 62, 0, 0, 0), (53, .aload_n 0, 1, 0, 0, 0, 0), (54, .aload_n 1, 1, 1, 0, 0, 0), (55, .iload 4, 2, 4, 0, 0, 0), (57, .iload_n 3, 1, 3, 0, 0, 0), (58, .invokevirtual 43, 3, 0, 0, 0, 0), (61, .ireturn, 1, 0, 0, 0, 0), (62, .aload_n 1, 1, 1, 0, 0, 0), (63, .getfield 47, 3, 5, 5, 0, 0), (66, .iload 4, 2, 4, 0, 0, 0), (68, .iaload, 1, 0, 0, 0, 0), (69, .istore 4, 2, 4, 0, 0, 0), (71, .iinc 5 1, 3, 5, 0, 1, 0), (74, .goto (-68), 3, 6, 0, 0, 0), (77, .iconst 0, 1, 0, 0, 0, 0), (78, .ireturn, 1, 0, 0, 0, 0)])
set_option maxRecDepth 20000 in
theorem okX8_measure : ab_ok mX8_measure := ⟨by decide, by decide +kernel, trivial, trivial, trivial, trivial, trivial, trivial, trivial, trivial, trivial, trivial, trivial, fl_RX8_11, trivial, trivial, trivial, trivial, trivial, trivial, trivial, fl_RX8_11, trivial, trivial, trivial, trivial, trivial, trivial, trivial, trivial, trivial, trivial, trivial, trivial, trivial, trivial, trivial, trivial, fl_RX8_47, trivial, trivial, trivial, trivial, trivial, trivial, trivial, trivial⟩
def mX8_measureNow : MI := (yX8_measureNow, cX8_measureNow, 3, (some .int), [(0, .aload_n 0, 1, 0, 0, 0, 0), (1, .aload_n 1, 1, 1, 0, 0, 0), (2, .iload_n 2, 1, 2, 0, 0, 0), (3, .aload_n 0, 1, 0, 0, 0, 0), (4, .getfield 11, 3, 8, 0, 0, 0), (7, .bipush 19, 2, 0, 0, 19, 0), (9, .iaload, 1, 0, 0, 0, 0), (10, .invokevirtual 50, 3, 0, 0, 0, 0), (13, .ireturn, 1, 0, 0, 0, 0)])
set_option maxRecDepth 20000 in
theorem okX8_measureNow : ab_ok mX8_measureNow := ⟨by decide, by decide +kernel, trivial, trivial, trivial, trivial, fl_RX8_11, trivial, trivial, trivial, trivial, trivial⟩
def mX8_payment : MI := (yX8_payment, cX8_payment, 4, (some .int), [(0, .aload_n 1, 1, 1, 0, 0, 0), (1, .getfield 53, 3, 5, 8, 0, 0), (4, .iload_n 2, 1, 2, 0, 0, 0), (5, .iaload, 1, 0, 0, 0, 0), (6, .aload_n 0, 1, 0, 0, 0, 0), (7, .aload_n 1, 1, 1, 0, 0, 0), (8, .aload_n 1, 1, 1, 0, 0, 0), (9, .getfield 56, 3, 5, 7, 0, 0), (12, .iload_n 2, 1, 2, 0, 0, 0), (13, .iaload, 1, 0, 0, 0, 0), (14, .iload_n 3, 1, 3, 0, 0, 0), (15, .invokevirtual 50, 3, 0, 0, 0, 0), (18, .imul, 1, 0, 0, 0, 0), (19, .ireturn, 1, 0, 0, 0, 0)])
set_option maxRecDepth 20000 in
theorem okX8_payment : ab_ok mX8_payment := ⟨by decide, by decide +kernel, trivial, fl_RX8_53, trivial, trivial, trivial, trivial, trivial, fl_RX8_56, trivial, trivial, trivial, trivial, trivial, trivial, trivial⟩
def mX8_apartFrom : MI := (yX8_apartFrom, cX8_apartFrom, 7, (some .int), [(0, .aload_n 0, 1, 0, 0, 0, 0), (1, .aload_n 1, 1, 1, 0, 0, 0), (2, .iload_n 2, 1, 2, 0, 0, 0), (3, .iload_n 3, 1, 3, 0, 0, 0), (4, .invokevirtual 43, 3, 0, 0, 0, 0), (7, .istore 4, 2, 4, 0, 0, 0), (9, .iconst 0, 1, 0, 0, 0, 0), (10, .istore 5, 2, 5, 0, 0, 0), (12, .iconst 0, 1, 0, 0, 0, 0), (13, .istore 6, 2, 6, 0, 0, 0), (15, .iload 6, 2, 6, 0, 0, 0), (17, .iconst 4, 1, 0, 0, 4, 0), (18, .if_icmp .ge 28, 3, 46, 0, 0, 0), (21, .iload 5, 2, 5, 0, 0, 0), (23, .aload_n 0, 1, 0, 0, 0, 0), (24, .aload_n 1, 1, 1, 0, 0, 0), (25, .iload_n 2, 1, 2, 0, 0, 0), (26, .iload 6, 2, 6, 0, 0, 0), (28, .invokevirtual 43, 3, 0, 0, 0, 0), (31, .iload 4, 2, 4, 0, 0, 0), (33, .isub, 1, 0, 0, 0, 0), (34, .invokestatic 59, 3, 4, 0, 0, 0), (37, .iadd, 1, 0, 0, 0, 0), (38, .istore 5, 2, 5, 0, 0, 0), (40, .iinc 6 1, 3, 6, 0, 1, 0), (43, .goto (-28), 3, 15, 0, 0, 0), (46, .iload 5, 2, 5, 0, 0, 0), (48, .ireturn, 1, 0, 0, 0, 0)])
set_option maxRecDepth 20000 in
theorem okX8_apartFrom : ab_ok mX8_apartFrom := ⟨by decide, by decide +kernel, trivial, trivial, trivial, trivial, trivial, trivial, trivial, trivial, trivial, trivial, trivial, trivial, trivial, trivial, trivial, trivial, trivial, trivial, trivial, trivial, trivial, ⟨fun z => absurd z (by decide), fun z => absurd z (by decide), fun z => absurd z (by decide), fun _ => ab_in (i := 786) rfl rfl⟩, trivial, trivial, trivial, trivial, trivial, trivial, trivial⟩
def mX8_areUnlike : MI := (yX8_areUnlike, cX8_areUnlike, 7, (some .boolean), [(0, .iconst 1, 1, 0, 0, 1, 0), (1, .istore 4, 2, 4, 0, 0, 0), (3, .iload 4, 2, 4, 0, 0, 0), (5, .aload_n 1, 1, 1, 0, 0, 0), (6, .getfield 26, 3, 5, 0, 0, 0), (9, .if_icmp .ge 72, 3, 81, 0, 0, 0), (12, .iconst 0, 1, 0, 0, 0, 0), (13, .istore 5, 2, 5, 0, 0, 0), (15, .iload 5, 2, 5, 0, 0, 0), (17, .iload 4, 2, 4, 0, 0, 0), (19, .if_icmp .ge 56, 3, 75, 0, 0, 0), (22, .iload_n 2, 1, 2, 0, 0, 0), (23, .iload 4, 2, 4, 0, 0, 0), (25, .ishr, 1, 0, 0, 0, 0), (26, .iload_n 2, 1, 2, 0, 0, 0), (27, .iload 5, 2, 5, 0, 0, 0), (29, .ishr, 1, 0, 0, 0, 0), (30, .iand, 1, 0, 0, 0, 0), (31, .iconst 1, 1, 0, 0, 1, 0), (32, .iand, 1, 0, 0, 0, 0), (33, .ifCond .eq 7, 3, 40, 0, 0, 0), (36, .iconst 1, 1, 0, 0, 1, 0), (37, .goto 4, 3, 41, 0, 0, 0), (40, .iconst 0, 1, 0, 0, 0, 0), (41, .istore 6, 2, 6, 0, 0, 0), (43, .iload 6, 2, 6, 0, 0, 0), (45, .ifCond .eq 24, 3, 69, 0, 0, 0), (48, .aload_n 0, 1, 0, 0, 0, 0), (49, .aload_n 1, 1, 1, 0, 0, 0), (50, .iload 4, 2, 4, 0, 0, 0), (52, .iload_n 3, 1, 3, 0, 0, 0), (53, .invokevirtual 50, 3, 0, 0, 0, 0), (56, .aload_n 0, 1, 0, 0, 0, 0), (57, .aload_n 1, 1, 1, 0, 0, 0), (58, .iload 5, 2, 5, 0, 0, 0), (60, .iload_n 3, 1, 3, 0, 0, 0), (61, .invokevirtual 50, 3, 0, 0, 0, 0), (64, .if_icmp .ne 5, 3, 69, 0, 0, 0), (67, .iconst 0, 1, 0, 0, 0, 0), (68, .ireturn, 1, 0, 0, 0, 0), (69, .iinc 5 1, 3, 5, 0, 1, 0), (72, .goto (-57), 3, 15, 0, 0, 0), (75, .iinc 4 1, 3, 4, 0, 1, 0), (78, .goto (-75), 3, 3, 0, 0, 0), (81, .iconst 1, 1, 0, 0, 1, 0), (82, .ireturn, 1, 0, 0, 0, 0)])
set_option maxRecDepth 20000 in
theorem okX8_areUnlike : ab_ok mX8_areUnlike := ⟨by decide, by decide +kernel, trivial, trivial, trivial, trivial, fl_RX8_26, trivial, trivial, trivial, trivial, trivial, trivial, trivial, trivial, trivial, trivial, trivial, trivial, trivial, trivial, trivial, trivial, trivial, trivial, trivial, trivial, trivial, trivial, trivial, trivial, trivial, trivial, trivial, trivial, trivial, trivial, trivial, trivial, trivial, trivial, trivial, trivial, trivial, trivial, trivial, trivial, trivial, trivial⟩
def mX8_passSeason : MI := (yX8_passSeason, cX8_passSeason, 3, none, [(0, .iconst 0, 1, 0, 0, 0, 0), (1, .istore_n 2, 1, 2, 0, 0, 0), (2, .iload_n 2, 1, 2, 0, 0, 0), (3, .aload_n 1, 1, 1, 0, 0, 0), (4, .getfield 63, 3, 5, 1, 0, 0), (7, .if_icmp .ge 47, 3, 54, 0, 0, 0), (10, .aload_n 1, 1, 1, 0, 0, 0), (11, .getfield 66, 3, 5, 6, 0, 0), (14, .iload_n 2, 1, 2, 0, 0, 0), (15, .iaload, 1, 0, 0, 0, 0), (16, .aload_n 0, 1, 0, 0, 0, 0), (17, .getfield 11, 3, 8, 0, 0, 0), (20, .bipush 19, 2, 0, 0, 19, 0), (22, .iaload, 1, 0, 0, 0, 0), (23, .if_icmp .ne 25, 3, 48, 0, 0, 0), (26, .aload_n 0, 1, 0, 0, 0, 0), (27, .getfield 11, 3, 8, 0, 0, 0), (30, .bipush 12, 2, 0, 0, 12, 0), (32, .iload_n 2, 1, 2, 0, 0, 0), (33, .iadd, 1, 0, 0, 0, 0), (34, .aload_n 0, 1, 0, 0, 0, 0), (35, .aload_n 1, 1, 1, 0, 0, 0), (36, .iload_n 2, 1, 2, 0, 0, 0), (37, .aload_n 0, 1, 0, 0, 0, 0), (38, .getfield 11, 3, 8, 0, 0, 0), (41, .bipush 19, 2, 0, 0, 19, 0), (43, .iaload, 1, 0, 0, 0, 0), (44, .invokevirtual 69, 3, 0, 0, 0, 0), (47, .iastore, 1, 0, 0, 0, 0), (48, .iinc 2 1, 3, 2, 0, 1, 0), (51, .goto (-49), 3, 2, 0, 0, 0), (54, .aload_n 0, 1, 0, 0, 0, 0), (55, .getfield 11, 3, 8, 0, 0, 0), (58, .bipush 19, 2, 0, 0, 19, 0), (60, .dup2, 1, 0, 0, 0, 0), (61, .iaload, 1, 0, 0, 0, 0), (62, .iconst 1, 1, 0, 0, 1, 0), (63, .iadd, 1, 0, 0, 0, 0), (64, .iastore, 1, 0, 0, 0, 0), (65, .return_, 1, 0, 0, 0, 0)])
set_option maxRecDepth 20000 in
theorem okX8_passSeason : ab_ok mX8_passSeason := ⟨by decide, by decide +kernel, trivial, trivial, trivial, trivial, fl_RX8_63, trivial, trivial, fl_RX8_66, trivial, trivial, trivial, fl_RX8_11, trivial, trivial, trivial, trivial, fl_RX8_11, trivial, trivial, trivial, trivial, trivial, trivial, trivial, fl_RX8_11, trivial, trivial, trivial, trivial, trivial, trivial, trivial, fl_RX8_11, trivial, trivial, trivial, trivial, trivial, trivial, trivial, trivial⟩
def mX8_swell : MI := (yX8_swell, cX8_swell, 3, none, [(0, .aload_n 0, 1, 0, 0, 0, 0), (1, .getfield 11, 3, 8, 0, 0, 0), (4, .iconst 0, 1, 0, 0, 0, 0), (5, .iload_n 1, 1, 1, 0, 0, 0), (6, .iadd, 1, 0, 0, 0, 0), (7, .sipush 140, 3, 0, 0, 140, 0), (10, .aload_n 0, 1, 0, 0, 0, 0), (11, .getfield 11, 3, 8, 0, 0, 0), (14, .iconst 0, 1, 0, 0, 0, 0), (15, .iload_n 1, 1, 1, 0, 0, 0), (16, .iadd, 1, 0, 0, 0, 0), (17, .iaload, 1, 0, 0, 0, 0), (18, .iload_n 2, 1, 2, 0, 0, 0), (19, .iadd, 1, 0, 0, 0, 0), (20, .invokestatic 72, 3, 3, 0, 0, 0), (23, .iastore, 1, 0, 0, 0, 0), (24, .return_, 1, 0, 0, 0, 0)])
set_option maxRecDepth 20000 in
theorem okX8_swell : ab_ok mX8_swell := ⟨by decide, by decide +kernel, trivial, fl_RX8_11, trivial, trivial, trivial, trivial, trivial, fl_RX8_11, trivial, trivial, trivial, trivial, trivial, trivial, ⟨fun z => absurd z (by decide), fun z => absurd z (by decide), fun _ => ab_in (i := 619) rfl rfl, fun z => absurd z (by decide)⟩, trivial, trivial, trivial⟩
def mX8_shorten : MI := (yX8_shorten, cX8_shorten, 2, none, [(0, .aload_n 0, 1, 0, 0, 0, 0), (1, .getfield 11, 3, 8, 0, 0, 0), (4, .iconst 0, 1, 0, 0, 0, 0), (5, .iload_n 1, 1, 1, 0, 0, 0), (6, .iadd, 1, 0, 0, 0, 0), (7, .iconst 1, 1, 0, 0, 1, 0), (8, .aload_n 0, 1, 0, 0, 0, 0), (9, .getfield 11, 3, 8, 0, 0, 0), (12, .iconst 0, 1, 0, 0, 0, 0), (13, .iload_n 1, 1, 1, 0, 0, 0), (14, .iadd, 1, 0, 0, 0, 0), (15, .iaload, 1, 0, 0, 0, 0), (16, .iconst 3, 1, 0, 0, 3, 0), (17, .isub, 1, 0, 0, 0, 0), (18, .invokestatic 30, 3, 2, 0, 0, 0), (21, .iastore, 1, 0, 0, 0, 0), (22, .return_, 1, 0, 0, 0, 0)])
set_option maxRecDepth 20000 in
theorem okX8_shorten : ab_ok mX8_shorten := ⟨by decide, by decide +kernel, trivial, fl_RX8_11, trivial, trivial, trivial, trivial, trivial, fl_RX8_11, trivial, trivial, trivial, trivial, trivial, trivial, ⟨fun z => absurd z (by decide), fun _ => ab_in (i := 516) rfl rfl, fun z => absurd z (by decide), fun z => absurd z (by decide)⟩, trivial, trivial, trivial⟩
def mX8_bury : MI := (yX8_bury, cX8_bury, 2, none, [(0, .aload_n 0, 1, 0, 0, 0, 0), (1, .getfield 11, 3, 8, 0, 0, 0), (4, .bipush 18, 2, 0, 0, 18, 0), (6, .dup2, 1, 0, 0, 0, 0), (7, .iaload, 1, 0, 0, 0, 0), (8, .iconst 1, 1, 0, 0, 1, 0), (9, .iload_n 1, 1, 1, 0, 0, 0), (10, .ishl, 1, 0, 0, 0, 0), (11, .iconst (-1), 1, 0, 0, (-1), 0), (12, .ixor, 1, 0, 0, 0, 0), (13, .iand, 1, 0, 0, 0, 0), (14, .iastore, 1, 0, 0, 0, 0), (15, .return_, 1, 0, 0, 0, 0)])
set_option maxRecDepth 20000 in
theorem okX8_bury : ab_ok mX8_bury := ⟨by decide, by decide +kernel, trivial, fl_RX8_11, trivial, trivial, trivial, trivial, trivial, trivial, trivial, trivial, trivial, trivial, trivial, trivial⟩
def mX8_carve : MI := (yX8_carve, cX8_carve, 3, none, [(0, .aload_n 0, 1, 0, 0, 0, 0), (1, .getfield 11, 3, 8, 0, 0, 0), (4, .bipush 6, 2, 0, 0, 6, 0), (6, .iload_n 2, 1, 2, 0, 0, 0), (7, .iadd, 1, 0, 0, 0, 0), (8, .aload_n 0, 1, 0, 0, 0, 0), (9, .aload_n 1, 1, 1, 0, 0, 0), (10, .iload_n 2, 1, 2, 0, 0, 0), (11, .aload_n 0, 1, 0, 0, 0, 0), (12, .getfield 11, 3, 8, 0, 0, 0), (15, .bipush 19, 2, 0, 0, 19, 0), (17, .iaload, 1, 0, 0, 0, 0), (18, .invokevirtual 43, 3, 0, 0, 0, 0), (21, .iastore, 1, 0, 0, 0, 0), (22, .return_, 1, 0, 0, 0, 0)])
set_option maxRecDepth 20000 in
theorem okX8_carve : ab_ok mX8_carve := ⟨by decide, by decide +kernel, trivial, fl_RX8_11, trivial, trivial, trivial, trivial, trivial, trivial, trivial, fl_RX8_11, trivial, trivial, trivial, trivial, trivial, trivial⟩
def mX8_sow : MI := (yX8_sow, cX8_sow, 2, none, [(0, .aload_n 0, 1, 0, 0, 0, 0), (1, .getfield 11, 3, 8, 0, 0, 0), (4, .bipush 20, 2, 0, 0, 20, 0), (6, .iload_n 1, 1, 1, 0, 0, 0), (7, .iastore, 1, 0, 0, 0, 0), (8, .return_, 1, 0, 0, 0, 0)])
set_option maxRecDepth 20000 in
theorem okX8_sow : ab_ok mX8_sow := ⟨by decide, by decide +kernel, trivial, fl_RX8_11, trivial, trivial, trivial, trivial, trivial⟩
def mX8_sufferByDraws : MI := (yX8_sufferByDraws, cX8_sufferByDraws, 5, none, [(0, .aload_n 0, 1, 0, 0, 0, 0), (1, .bipush 6, 2, 0, 0, 6, 0), (3, .invokevirtual 75, 3, 0, 0, 0, 0), (6, .istore_n 2, 1, 2, 0, 0, 0), (7, .iload_n 2, 1, 2, 0, 0, 0), (8, .ifCond .ne 40, 3, 48, 0, 0, 0), (11, .aload_n 0, 1, 0, 0, 0, 0), (12, .aload_n 1, 1, 1, 0, 0, 0), (13, .getfield 26, 3, 5, 0, 0, 0), (16, .invokevirtual 75, 3, 0, 0, 0, 0), (19, .istore_n 3, 1, 3, 0, 0, 0), (20, .aload_n 0, 1, 0, 0, 0, 0), (21, .bipush 20, 2, 0, 0, 20, 0), (23, .invokevirtual 75, 3, 0, 0, 0, 0), (26, .iconst 1, 1, 0, 0, 1, 0), (27, .iadd, 1, 0, 0, 0, 0), (28, .istore 4, 2, 4, 0, 0, 0), (30, .aload_n 0, 1, 0, 0, 0, 0), (31, .iload_n 3, 1, 3, 0, 0, 0), (32, .invokevirtual 39, 3, 0, 0, 0, 0), (35, .ifCond .eq 10, 3, 45, 0, 0, 0), (38, .aload_n 0, 1, 0, 0, 0, 0), (39, .iload_n 3, 1, 3, 0, 0, 0), (40, .iload 4, 2, 4, 0, 0, 0), (42, .invokevirtual 78, 3, 0, 0, 0, 0), (45, .goto 30, 3, 75, 0, 0, 0), (48, .iload_n 2, 1, 2, 0, 0, 0), (49, .iconst 1, 1, 0, 0, 1, 0), (50, .if_icmp .ne 25, 3, 75, 0, 0, 0), (53, .aload_n 0, 1, 0, 0, 0, 0), (54, .aload_n 1, 1, 1, 0, 0, 0), (55, .getfield 26, 3, 5, 0, 0, 0), (58, .invokevirtual 75, 3, 0, 0, 0, 0), (61, .istore_n 3, 1, 3, 0, 0, 0), (62, .aload_n 0, 1, 0, 0, 0, 0), (63, .iload_n 3, 1, 3, 0, 0, 0), (64, .invokevirtual 39, 3, 0, 0, 0, 0), (67, .ifCond .eq 8, 3, 75, 0, 0, 0), (70, .aload_n 0, 1, 0, 0, 0, 0), (71, .iload_n 3, 1, 3, 0, 0, 0), (72, .invokevirtual 82, 3, 0, 0, 0, 0), (75, .return_, 1, 0, 0, 0, 0)])
set_option maxRecDepth 20000 in
theorem okX8_sufferByDraws : ab_ok mX8_sufferByDraws := ⟨by decide, by decide +kernel, trivial, trivial, trivial, trivial, trivial, trivial, trivial, trivial, fl_RX8_26, trivial, trivial, trivial, trivial, trivial, trivial, trivial, trivial, trivial, trivial, trivial, trivial, trivial, trivial, trivial, trivial, trivial, trivial, trivial, trivial, trivial, trivial, fl_RX8_26, trivial, trivial, trivial, trivial, trivial, trivial, trivial, trivial, trivial, trivial, trivial⟩
def mX8_nextDraw : MI := (yX8_nextDraw, cX8_nextDraw, 4, (some .int), [(0, .aload_n 0, 1, 0, 0, 0, 0), (1, .getfield 11, 3, 8, 0, 0, 0), (4, .bipush 20, 2, 0, 0, 20, 0), (6, .iaload, 1, 0, 0, 0, 0), (7, .i2l, 1, 0, 0, 0, 0), (8, .ldc2_w 86, 3, 0, 0, 0, 1103515245), (11, .lmul, 1, 0, 0, 0, 0), (12, .ldc2_w 88, 3, 0, 0, 0, 12345), (15, .ladd, 1, 0, 0, 0, 0), (16, .lstore_n 2, 1, 2, 0, 0, 0), (17, .aload_n 0, 1, 0, 0, 0, 0), (18, .getfield 11, 3, 8, 0, 0, 0), (21, .bipush 20, 2, 0, 0, 20, 0), (23, .lload_n 2, 1, 2, 0, 0, 0), (24, .ldc2_w 90, 3, 0, 0, 0, 2147483647), (27, .land, 1, 0, 0, 0, 0), (28, .l2i, 1, 0, 0, 0, 0), (29, .iastore, 1, 0, 0, 0, 0), (30, .iload_n 1, 1, 1, 0, 0, 0), (31, .ifCond .le 18, 3, 49, 0, 0, 0), (34, .aload_n 0, 1, 0, 0, 0, 0), (35, .getfield 11, 3, 8, 0, 0, 0), (38, .bipush 20, 2, 0, 0, 20, 0), (40, .iaload, 1, 0, 0, 0, 0), (41, .ldc 92, 2, 0, 0, 65536, 0), (43, .idiv, 1, 0, 0, 0, 0), (44, .iload_n 1, 1, 1, 0, 0, 0), (45, .irem, 1, 0, 0, 0, 0), (46, .goto 4, 3, 50, 0, 0, 0), (49, .iconst 0, 1, 0, 0, 0, 0), (50, .ireturn, 1, 0, 0, 0, 0)])
set_option maxRecDepth 20000 in
theorem okX8_nextDraw : ab_ok mX8_nextDraw := ⟨by decide, by decide +kernel, trivial, fl_RX8_11, trivial, trivial, trivial, ab_in (i := 660) rfl rfl, trivial, ab_in (i := 661) rfl rfl, trivial, trivial, trivial, fl_RX8_11, trivial, trivial, ab_in (i := 662) rfl rfl, trivial, trivial, trivial, trivial, trivial, trivial, fl_RX8_11, trivial, trivial, ab_in (i := 663) rfl rfl, trivial, trivial, trivial, trivial, trivial, trivial, trivial⟩
def mX9_init : MI := (yX9_init, cX9_init, 1, none, [(0, .aload_n 0, 1, 0, 0, 0, 0), (1, .invokespecial 1, 3, 1, 0, 0, 0), (4, .aload_n 0, 1, 0, 0, 0, 0), (5, .new 7, 3, 0, 0, 0, 0), (8, .dup, 1, 0, 0, 0, 0), (9, .invokespecial 9, 3, 0, 0, 0, 0), (12, .putfield 10, 3, 9, 0, 1, 0), (15, .aload_n 0, 1, 0, 0, 0, 0), (16, .new 16, 3, 0, 0, 0, 0), (19, .dup, 1, 0, 0, 0, 0), (20, .invokespecial 18, 3, 0, 0, 0, 0), (23, .putfield 19, 3, 9, 1, 1, 0), (26, .aload_n 0, 1, 0, 0, 0, 0), (27, .new 23, 3, 0, 0, 0, 0), (30, .dup, 1, 0, 0, 0, 0), (31, .invokespecial 25, 3, 0, 0, 0, 0), (34, .putfield 26, 3, 9, 2, 1, 0), (37, .aload_n 0, 1, 0, 0, 0, 0), (38, .new 30, 3, 0, 0, 0, 0), (41, .dup, 1, 0, 0, 0, 0), (42, .invokespecial 32, 3, 0, 0, 0, 0), (45, .putfield 33, 3, 9, 3, 1, 0), (48, .aload_n 0, 1, 0, 0, 0, 0), (49, .new 37, 3, 0, 0, 0, 0), (52, .dup, 1, 0, 0, 0, 0), (53, .invokespecial 39, 3, 0, 0, 0, 0), (56, .putfield 40, 3, 9, 4, 1, 0), (59, .aload_n 0, 1, 0, 0, 0, 0), (60, .new 44, 3, 0, 0, 0, 0), (63, .dup, 1, 0, 0, 0, 0), (64, .invokespecial 46, 3, 0, 0, 0, 0), (67, .putfield 47, 3, 9, 5, 1, 0), (70, .aload_n 0, 1, 0, 0, 0, 0), (71, .new 51, 3, 0, 0, 0, 0), (74, .dup, 1, 0, 0, 0, 0), (75, .invokespecial 53, 3, 0, 0, 0, 0), (78, .putfield 54, 3, 9, 6, 1, 0), (81, .aload_n 0, 1, 0, 0, 0, 0), (82, .new 58, 3, 0, 0, 0, 0), (85, .dup, 1, 0, 0, 0, 0), (86, .invokespecial 60, 3, 0, 0, 0, 0), (89, .putfield 61, 3, 9, 7, 1, 0), (92, .aload_n 0, 1, 0, 0, 0, 0), (93, .iconst (-1), 1, 0, 0, (-1), 0), (94, .putfield 65, 3, 9, 8, 0, 0), (97, .return_, 1, 0, 0, 0, 0)])
set_option maxRecDepth 20000 in
theorem okX9_init : ab_ok mX9_init := ⟨by decide, by decide +kernel, trivial, fun _ => ab_in (i := 76) rfl rfl, trivial, trivial, trivial, fun z => absurd z (by decide), gl_RX9_10, trivial, trivial, trivial, fun z => absurd z (by decide), gl_RX9_19, trivial, trivial, trivial, fun z => absurd z (by decide), gl_RX9_26, trivial, trivial, trivial, fun z => absurd z (by decide), gl_RX9_33, trivial, trivial, trivial, fun z => absurd z (by decide), gl_RX9_40, trivial, trivial, trivial, fun z => absurd z (by decide), gl_RX9_47, trivial, trivial, trivial, fun z => absurd z (by decide), gl_RX9_54, trivial, trivial, trivial, fun z => absurd z (by decide), gl_RX9_61, trivial, trivial, (gl_RX9_65 _), trivial, trivial⟩
def mX9_feed : MI := (yX9_feed, cX9_feed, 2, (some .int), [(0, .iload_n 1, 1, 1, 0, 0, 0), (1, .ifCond .lt 10, 3, 11, 0, 0, 0), (4, .iload_n 1, 1, 1, 0, 0, 0), (5, .sipush 255, 3, 0, 0, 255, 0), (8, .if_icmp .le 6, 3, 14, 0, 0, 0), (11, .ldc 69, 2, 0, 0, (-1000000002), 0), (13, .ireturn, 1, 0, 0, 0, 0), (14, .aload_n 0, 1, 0, 0, 0, 0), (15, .getfield 10, 3, 9, 0, 0, 0), (18, .getfield 70, 3, 6, 0, 0, 0), (21, .invokevirtual 74, 3, 0, 0, 0, 0), (24, .ifCond .eq 6, 3, 30, 0, 0, 0), (27, .ldc 80, 2, 0, 0, (-1000000004), 0), (29, .ireturn, 1, 0, 0, 0, 0), (30, .aload_n 0, 1, 0, 0, 0, 0), (31, .getfield 10, 3, 9, 0, 0, 0), (34, .getfield 70, 3, 6, 0, 0, 0), (37, .iload_n 1, 1, 1, 0, 0, 0), (38, .invokevirtual 81, 3, 0, 0, 0, 0), (41, .ireturn, 1, 0, 0, 0, 0)])
set_option maxRecDepth 20000 in
theorem okX9_feed : ab_ok mX9_feed := ⟨by decide, by decide +kernel, trivial, trivial, trivial, trivial, trivial, ab_in (i := 364) rfl rfl, trivial, trivial, fl_RX9_10, fl_RX9_70, trivial, trivial, ab_in (i := 369) rfl rfl, trivial, trivial, fl_RX9_10, fl_RX9_70, trivial, trivial, trivial, trivial⟩
def mX9_port : MI := (yX9_port, cX9_port, 1, (some .int), [(0, .aload_n 0, 1, 0, 0, 0, 0), (1, .getfield 10, 3, 9, 0, 0, 0), (4, .invokevirtual 85, 3, 0, 0, 0, 0), (7, .aload_n 0, 1, 0, 0, 0, 0), (8, .getfield 10, 3, 9, 0, 0, 0), (11, .getfield 70, 3, 6, 0, 0, 0), (14, .invokevirtual 88, 3, 0, 0, 0, 0), (17, .aload_n 0, 1, 0, 0, 0, 0), (18, .aload_n 0, 1, 0, 0, 0, 0), (19, .getfield 10, 3, 9, 0, 0, 0), (22, .getfield 91, 3, 6, 6, 0, 0), (25, .putfield 65, 3, 9, 8, 0, 0), (28, .aload_n 0, 1, 0, 0, 0, 0), (29, .getfield 10, 3, 9, 0, 0, 0), (32, .getfield 92, 3, 6, 5, 0, 0), (35, .ifCond .eq 14, 3, 49, 0, 0, 0), (38, .bipush (-10), 2, 0, 0, (-10), 0), (40, .aload_n 0, 1, 0, 0, 0, 0), (41, .getfield 10, 3, 9, 0, 0, 0), (44, .getfield 92, 3, 6, 5, 0, 0), (47, .isub, 1, 0, 0, 0, 0), (48, .ireturn, 1, 0, 0, 0, 0), (49, .aload_n 0, 1, 0, 0, 0, 0), (50, .getfield 19, 3, 9, 1, 0, 0), (53, .aload_n 0, 1, 0, 0, 0, 0), (54, .getfield 10, 3, 9, 0, 0, 0), (57, .getfield 95, 3, 6, 1, 0, 0), (60, .invokevirtual 98, 3, 0, 0, 0, 0), (63, .aload_n 0, 1, 0, 0, 0, 0), (64, .getfield 26, 3, 9, 2, 0, 0), (67, .aload_n 0, 1, 0, 0, 0, 0), (68, .getfield 19, 3, 9, 1, 0, 0), (71, .invokevirtual 102, 3, 0, 0, 0, 0), (74, .aload_n 0, 1, 0, 0, 0, 0), (75, .getfield 40, 3, 9, 4, 0, 0), (78, .invokevirtual 105, 3, 0, 0, 0, 0), (81, .aload_n 0, 1, 0, 0, 0, 0), (82, .getfield 33, 3, 9, 3, 0, 0), (85, .invokevirtual 108, 3, 0, 0, 0, 0), (88, .aload_n 0, 1, 0, 0, 0, 0), (89, .getfield 33, 3, 9, 3, 0, 0), (92, .invokevirtual 111, 3, 0, 0, 0, 0), (95, .aload_n 0, 1, 0, 0, 0, 0), (96, .getfield 19, 3, 9, 1, 0, 0), (99, .getfield 114, 3, 5, 0, 0, 0), (102, .ireturn, 1, 0, 0, 0, 0)])
set_option maxRecDepth 20000 in
theorem okX9_port : ab_ok mX9_port := ⟨by decide, by decide +kernel, trivial, fl_RX9_10, trivial, trivial, fl_RX9_10, fl_RX9_70, trivial, trivial, trivial, fl_RX9_10, fl_RX9_91, (gl_RX9_65 _), trivial, fl_RX9_10, fl_RX9_92, trivial, trivial, trivial, fl_RX9_10, fl_RX9_92, trivial, trivial, trivial, fl_RX9_19, trivial, fl_RX9_10, fl_RX9_95, trivial, trivial, fl_RX9_26, trivial, fl_RX9_19, trivial, trivial, fl_RX9_40, trivial, trivial, fl_RX9_33, trivial, trivial, fl_RX9_33, trivial, trivial, fl_RX9_19, fl_RX9_114, trivial, trivial⟩
def mX9_fault : MI := (yX9_fault, cX9_fault, 1, (some .int), [(0, .aload_n 0, 1, 0, 0, 0, 0), (1, .getfield 65, 3, 9, 8, 0, 0), (4, .ireturn, 1, 0, 0, 0, 0)])
set_option maxRecDepth 20000 in
theorem okX9_fault : ab_ok mX9_fault := ⟨by decide, by decide +kernel, trivial, fl_RX9_65, trivial, trivial⟩
def mX9_told : MI := (yX9_told, cX9_told, 2, (some .int), [(0, .iload_n 1, 1, 1, 0, 0, 0), (1, .tableswitch 162 0 11 #[63, 71, 79, 87, 98, 106, 114, 122, 130, 138, 146, 154], 63, 0, 0, 0, 0), (64, .aload_n 0, 1, 0, 0, 0, 0), (65, .getfield 19, 3, 9, 1, 0, 0), (68, .getfield 114, 3, 5, 0, 0, 0), (71, .ireturn, 1, 0, 0, 0, 0), (72, .aload_n 0, 1, 0, 0, 0, 0), (73, .getfield 19, 3, 9, 1, 0, 0), (76, .getfield 117, 3, 5, 1, 0, 0), (79, .ireturn, 1, 0, 0, 0, 0), (80, .aload_n 0, 1, 0, 0, 0, 0), (81, .getfield 19, 3, 9, 1, 0, 0), (84, .getfield 120, 3, 5, 2, 0, 0), (87, .ireturn, 1, 0, 0, 0, 0), (88, .aload_n 0, 1, 0, 0, 0, 0), (89, .getfield 10, 3, 9, 0, 0, 0), (92, .getfield 70, 3, 6, 0, 0, 0), (95, .getfield 123, 3, 2, 1, 0, 0), (98, .ireturn, 1, 0, 0, 0, 0), (99, .aload_n 0, 1, 0, 0, 0, 0), (100, .getfield 26, 3, 9, 2, 0, 0), (103, .invokevirtual 126, 3, 0, 0, 0, 0), (106, .ireturn, 1, 0, 0, 0, 0), (107, .aload_n 0, 1, 0, 0, 0, 0), (108, .getfield 26, 3, 9, 2, 0, 0), (111, .invokevirtual 130, 3, 0, 0, 0, 0), (114, .ireturn, 1, 0, 0, 0, 0), (115, .aload_n 0, 1, 0, 0, 0, 0), (116, .getfield 26, 3, 9, 2, 0, 0), (119, .invokevirtual 133, 3, 0, 0, 0, 0), (122, .ireturn, 1, 0, 0, 0, 0), (123, .aload_n 0, 1, 0, 0, 0, 0), (124, .getfield 26, 3, 9, 2, 0, 0), (127, .invokevirtual 136, 3, 0, 0, 0, 0), (130, .ireturn, 1, 0, 0, 0, 0), (131, .aload_n 0, 1, 0, 0, 0, 0), (132, .getfield 26, 3, 9, 2, 0, 0), (135, .invokevirtual 139, 3, 0, 0, 0, 0), (138, .ireturn, 1, 0, 0, 0, 0), (139, .aload_n 0, 1, 0, 0, 0, 0), (140, .getfield 40, 3, 9, 4, 0, 0), (143, .getfield 142, 3, 3, 4, 0, 0), (146, .ireturn, 1, 0, 0, 0, 0), (147, .aload_n 0, 1, 0, 0, 0, 0), (148, .getfield 40, 3, 9, 4, 0, 0), (151, .getfield 145, 3, 3, 5, 0, 0), (154, .ireturn, 1, 0, 0, 0, 0), (155, .aload_n 0, 1, 0, 0, 0, 0), (156, .getfield 33, 3, 9, 3, 0, 0), (159, .getfield 148, 3, 4, 3, 0, 0), (162, .ireturn, 1, 0, 0, 0, 0), (163, .ldc 69, 2, 0, 0, (-1000000002), 0), (165, .ireturn, 1, 0, 0, 0, 0)])
set_option maxRecDepth 20000 in
theorem okX9_told : ab_ok mX9_told := ⟨by decide, by decide +kernel, trivial, trivial, trivial, fl_RX9_19, fl_RX9_114, trivial, trivial, fl_RX9_19, fl_RX9_117, trivial, trivial, fl_RX9_19, fl_RX9_120, trivial, trivial, fl_RX9_10, fl_RX9_70, fl_RX9_123, trivial, trivial, fl_RX9_26, trivial, trivial, trivial, fl_RX9_26, trivial, trivial, trivial, fl_RX9_26, trivial, trivial, trivial, fl_RX9_26, trivial, trivial, trivial, fl_RX9_26, trivial, trivial, trivial, fl_RX9_40, fl_RX9_142, trivial, trivial, fl_RX9_40, fl_RX9_145, trivial, trivial, fl_RX9_33, fl_RX9_148, trivial, ab_in (i := 364) rfl rfl, trivial, trivial⟩
def mX9_limb : MI := (yX9_limb, cX9_limb, 3, (some .int), [(0, .aload_n 0, 1, 0, 0, 0, 0), (1, .getfield 19, 3, 9, 1, 0, 0), (4, .iload_n 1, 1, 1, 0, 0, 0), (5, .invokevirtual 151, 3, 0, 0, 0, 0), (8, .ifCond .ne 6, 3, 14, 0, 0, 0), (11, .ldc 155, 2, 0, 0, (-1000000001), 0), (13, .ireturn, 1, 0, 0, 0, 0), (14, .iload_n 2, 1, 2, 0, 0, 0), (15, .tableswitch 119 0 8 #[49, 58, 71, 81, 98, 107, 107, 107, 107], 49, 0, 0, 0, 0), (64, .aload_n 0, 1, 0, 0, 0, 0), (65, .getfield 26, 3, 9, 2, 0, 0), (68, .iload_n 1, 1, 1, 0, 0, 0), (69, .invokevirtual 156, 3, 0, 0, 0, 0), (72, .ireturn, 1, 0, 0, 0, 0), (73, .aload_n 0, 1, 0, 0, 0, 0), (74, .getfield 26, 3, 9, 2, 0, 0), (77, .aload_n 0, 1, 0, 0, 0, 0), (78, .getfield 19, 3, 9, 1, 0, 0), (81, .iload_n 1, 1, 1, 0, 0, 0), (82, .invokevirtual 159, 3, 0, 0, 0, 0), (85, .ireturn, 1, 0, 0, 0, 0), (86, .aload_n 0, 1, 0, 0, 0, 0), (87, .getfield 19, 3, 9, 1, 0, 0), (90, .getfield 163, 3, 5, 5, 0, 0), (93, .iload_n 1, 1, 1, 0, 0, 0), (94, .iaload, 1, 0, 0, 0, 0), (95, .ireturn, 1, 0, 0, 0, 0), (96, .aload_n 0, 1, 0, 0, 0, 0), (97, .getfield 26, 3, 9, 2, 0, 0), (100, .iload_n 1, 1, 1, 0, 0, 0), (101, .invokevirtual 167, 3, 0, 0, 0, 0), (104, .ifCond .eq 7, 3, 111, 0, 0, 0), (107, .iconst 1, 1, 0, 0, 1, 0), (108, .goto 4, 3, 112, 0, 0, 0), (111, .iconst 0, 1, 0, 0, 0, 0), (112, .ireturn, 1, 0, 0, 0, 0), (113, .aload_n 0, 1, 0, 0, 0, 0), (114, .getfield 26, 3, 9, 2, 0, 0), (117, .iload_n 1, 1, 1, 0, 0, 0), (118, .invokevirtual 170, 3, 0, 0, 0, 0), (121, .ireturn, 1, 0, 0, 0, 0), (122, .aload_n 0, 1, 0, 0, 0, 0), (123, .getfield 19, 3, 9, 1, 0, 0), (126, .iload_n 1, 1, 1, 0, 0, 0), (127, .iload_n 2, 1, 2, 0, 0, 0), (128, .iconst 5, 1, 0, 0, 5, 0), (129, .isub, 1, 0, 0, 0, 0), (130, .invokevirtual 173, 3, 0, 0, 0, 0), (133, .ireturn, 1, 0, 0, 0, 0), (134, .ldc 69, 2, 0, 0, (-1000000002), 0), (136, .ireturn, 1, 0, 0, 0, 0)])
set_option maxRecDepth 20000 in
theorem okX9_limb : ab_ok mX9_limb := ⟨by decide, by decide +kernel, trivial, fl_RX9_19, trivial, trivial, trivial, ab_in (i := 531) rfl rfl, trivial, trivial, trivial, trivial, fl_RX9_26, trivial, trivial, trivial, trivial, fl_RX9_26, trivial, fl_RX9_19, trivial, trivial, trivial, trivial, fl_RX9_19, fl_RX9_163, trivial, trivial, trivial, trivial, fl_RX9_26, trivial, trivial, trivial, trivial, trivial, trivial, trivial, trivial, fl_RX9_26, trivial, trivial, trivial, trivial, fl_RX9_19, trivial, trivial, trivial, trivial, trivial, trivial, ab_in (i := 364) rfl rfl, trivial, trivial⟩
def mX9_contract : MI := (yX9_contract, cX9_contract, 3, (some .int), [(0, .aload_n 0, 1, 0, 0, 0, 0), (1, .getfield 19, 3, 9, 1, 0, 0), (4, .iload_n 1, 1, 1, 0, 0, 0), (5, .invokevirtual 177, 3, 0, 0, 0, 0), (8, .ifCond .ne 6, 3, 14, 0, 0, 0), (11, .ldc 155, 2, 0, 0, (-1000000001), 0), (13, .ireturn, 1, 0, 0, 0, 0), (14, .iload_n 2, 1, 2, 0, 0, 0), (15, .tableswitch 68 0 3 #[29, 39, 49, 59], 29, 0, 0, 0, 0), (44, .aload_n 0, 1, 0, 0, 0, 0), (45, .getfield 19, 3, 9, 1, 0, 0), (48, .getfield 180, 3, 5, 6, 0, 0), (51, .iload_n 1, 1, 1, 0, 0, 0), (52, .iaload, 1, 0, 0, 0, 0), (53, .ireturn, 1, 0, 0, 0, 0), (54, .aload_n 0, 1, 0, 0, 0, 0), (55, .getfield 19, 3, 9, 1, 0, 0), (58, .getfield 183, 3, 5, 7, 0, 0), (61, .iload_n 1, 1, 1, 0, 0, 0), (62, .iaload, 1, 0, 0, 0, 0), (63, .ireturn, 1, 0, 0, 0, 0), (64, .aload_n 0, 1, 0, 0, 0, 0), (65, .getfield 19, 3, 9, 1, 0, 0), (68, .getfield 186, 3, 5, 8, 0, 0), (71, .iload_n 1, 1, 1, 0, 0, 0), (72, .iaload, 1, 0, 0, 0, 0), (73, .ireturn, 1, 0, 0, 0, 0), (74, .aload_n 0, 1, 0, 0, 0, 0), (75, .getfield 26, 3, 9, 2, 0, 0), (78, .iload_n 1, 1, 1, 0, 0, 0), (79, .invokevirtual 189, 3, 0, 0, 0, 0), (82, .ireturn, 1, 0, 0, 0, 0), (83, .ldc 69, 2, 0, 0, (-1000000002), 0), (85, .ireturn, 1, 0, 0, 0, 0)])
set_option maxRecDepth 20000 in
theorem okX9_contract : ab_ok mX9_contract := ⟨by decide, by decide +kernel, trivial, fl_RX9_19, trivial, trivial, trivial, ab_in (i := 531) rfl rfl, trivial, trivial, trivial, trivial, fl_RX9_19, fl_RX9_180, trivial, trivial, trivial, trivial, fl_RX9_19, fl_RX9_183, trivial, trivial, trivial, trivial, fl_RX9_19, fl_RX9_186, trivial, trivial, trivial, trivial, fl_RX9_26, trivial, trivial, trivial, ab_in (i := 364) rfl rfl, trivial, trivial⟩
def mX9_rate : MI := (yX9_rate, cX9_rate, 3, (some .int), [(0, .aload_n 0, 1, 0, 0, 0, 0), (1, .getfield 19, 3, 9, 1, 0, 0), (4, .iload_n 1, 1, 1, 0, 0, 0), (5, .invokevirtual 192, 3, 0, 0, 0, 0), (8, .ifCond .ne 6, 3, 14, 0, 0, 0), (11, .ldc 155, 2, 0, 0, (-1000000001), 0), (13, .ireturn, 1, 0, 0, 0, 0), (14, .iload_n 2, 1, 2, 0, 0, 0), (15, .tableswitch 69 0 3 #[29, 39, 49, 59], 29, 0, 0, 0, 0), (44, .aload_n 0, 1, 0, 0, 0, 0), (45, .getfield 19, 3, 9, 1, 0, 0), (48, .getfield 195, 3, 5, 9, 0, 0), (51, .iload_n 1, 1, 1, 0, 0, 0), (52, .iaload, 1, 0, 0, 0, 0), (53, .ireturn, 1, 0, 0, 0, 0), (54, .aload_n 0, 1, 0, 0, 0, 0), (55, .getfield 19, 3, 9, 1, 0, 0), (58, .getfield 198, 3, 5, 10, 0, 0), (61, .iload_n 1, 1, 1, 0, 0, 0), (62, .iaload, 1, 0, 0, 0, 0), (63, .ireturn, 1, 0, 0, 0, 0), (64, .aload_n 0, 1, 0, 0, 0, 0), (65, .getfield 19, 3, 9, 1, 0, 0), (68, .getfield 201, 3, 5, 11, 0, 0), (71, .iload_n 1, 1, 1, 0, 0, 0), (72, .iaload, 1, 0, 0, 0, 0), (73, .ireturn, 1, 0, 0, 0, 0), (74, .aload_n 0, 1, 0, 0, 0, 0), (75, .getfield 19, 3, 9, 1, 0, 0), (78, .getfield 204, 3, 5, 12, 0, 0), (81, .iload_n 1, 1, 1, 0, 0, 0), (82, .iaload, 1, 0, 0, 0, 0), (83, .ireturn, 1, 0, 0, 0, 0), (84, .ldc 69, 2, 0, 0, (-1000000002), 0), (86, .ireturn, 1, 0, 0, 0, 0)])
set_option maxRecDepth 20000 in
theorem okX9_rate : ab_ok mX9_rate := ⟨by decide, by decide +kernel, trivial, fl_RX9_19, trivial, trivial, trivial, ab_in (i := 531) rfl rfl, trivial, trivial, trivial, trivial, fl_RX9_19, fl_RX9_195, trivial, trivial, trivial, trivial, fl_RX9_19, fl_RX9_198, trivial, trivial, trivial, trivial, fl_RX9_19, fl_RX9_201, trivial, trivial, trivial, trivial, fl_RX9_19, fl_RX9_204, trivial, trivial, trivial, ab_in (i := 364) rfl rfl, trivial, trivial⟩
def mX9_season : MI := (yX9_season, cX9_season, 4, (some .int), [(0, .aload_n 0, 1, 0, 0, 0, 0), (1, .iload_n 1, 1, 1, 0, 0, 0), (2, .invokevirtual 207, 3, 0, 0, 0, 0), (5, .istore_n 2, 1, 2, 0, 0, 0), (6, .iload_n 2, 1, 2, 0, 0, 0), (7, .ifCond .eq 5, 3, 12, 0, 0, 0), (10, .iload_n 2, 1, 2, 0, 0, 0), (11, .ireturn, 1, 0, 0, 0, 0), (12, .aload_n 0, 1, 0, 0, 0, 0), (13, .getfield 33, 3, 9, 3, 0, 0), (16, .aload_n 0, 1, 0, 0, 0, 0), (17, .getfield 26, 3, 9, 2, 0, 0), (20, .invokevirtual 210, 3, 0, 0, 0, 0), (23, .iconst 0, 1, 0, 0, 0, 0), (24, .istore_n 3, 1, 3, 0, 0, 0), (25, .iload_n 3, 1, 3, 0, 0, 0), (26, .iload_n 1, 1, 1, 0, 0, 0), (27, .if_icmp .ge 20, 3, 47, 0, 0, 0), (30, .aload_n 0, 1, 0, 0, 0, 0), (31, .getfield 26, 3, 9, 2, 0, 0), (34, .aload_n 0, 1, 0, 0, 0, 0), (35, .getfield 19, 3, 9, 1, 0, 0), (38, .invokevirtual 214, 3, 0, 0, 0, 0), (41, .iinc 3 1, 3, 3, 0, 1, 0), (44, .goto (-19), 3, 25, 0, 0, 0), (47, .aload_n 0, 1, 0, 0, 0, 0), (48, .getfield 26, 3, 9, 2, 0, 0), (51, .invokevirtual 126, 3, 0, 0, 0, 0), (54, .ireturn, 1, 0, 0, 0, 0)])
set_option maxRecDepth 20000 in
theorem okX9_season : ab_ok mX9_season := ⟨by decide, by decide +kernel, trivial, trivial, trivial, trivial, trivial, trivial, trivial, trivial, trivial, fl_RX9_33, trivial, fl_RX9_26, trivial, trivial, trivial, trivial, trivial, trivial, trivial, fl_RX9_26, trivial, fl_RX9_19, trivial, trivial, trivial, trivial, fl_RX9_26, trivial, trivial, trivial⟩
end
section
/-! method tables (by program) -/
def mX9_gout : MI := (yX9_gout, cX9_gout, 3, (some .int), [(0, .aload_n 0, 1, 0, 0, 0, 0), (1, .getfield 19, 3, 9, 1, 0, 0), (4, .iload_n 1, 1, 1, 0, 0, 0), (5, .invokevirtual 151, 3, 0, 0, 0, 0), (8, .ifCond .ne 6, 3, 14, 0, 0, 0), (11, .ldc 155, 2, 0, 0, (-1000000001), 0), (13, .ireturn, 1, 0, 0, 0, 0), (14, .iload_n 2, 1, 2, 0, 0, 0), (15, .iconst 1, 1, 0, 0, 1, 0), (16, .if_icmp .lt 9, 3, 25, 0, 0, 0), (19, .iload_n 2, 1, 2, 0, 0, 0), (20, .bipush 20, 2, 0, 0, 20, 0), (22, .if_icmp .le 6, 3, 28, 0, 0, 0), (25, .ldc 69, 2, 0, 0, (-1000000002), 0), (27, .ireturn, 1, 0, 0, 0, 0), (28, .aload_n 0, 1, 0, 0, 0, 0), (29, .getfield 26, 3, 9, 2, 0, 0), (32, .iload_n 1, 1, 1, 0, 0, 0), (33, .invokevirtual 167, 3, 0, 0, 0, 0), (36, .ifCond .ne 6, 3, 42, 0, 0, 0), (39, .ldc 217, 2, 0, 0, (-1000000003), 0), (41, .ireturn, 1, 0, 0, 0, 0), (42, .aload_n 0, 1, 0, 0, 0, 0), (43, .getfield 33, 3, 9, 3, 0, 0), (46, .aload_n 0, 1, 0, 0, 0, 0), (47, .getfield 26, 3, 9, 2, 0, 0), (50, .invokevirtual 210, 3, 0, 0, 0, 0), (53, .aload_n 0, 1, 0, 0, 0, 0), (54, .getfield 26, 3, 9, 2, 0, 0), (57, .iload_n 1, 1, 1, 0, 0, 0), (58, .iload_n 2, 1, 2, 0, 0, 0), (59, .invokevirtual 218, 3, 0, 0, 0, 0), (62, .aload_n 0, 1, 0, 0, 0, 0), (63, .getfield 26, 3, 9, 2, 0, 0), (66, .iload_n 1, 1, 1, 0, 0, 0), (67, .invokevirtual 156, 3, 0, 0, 0, 0), (70, .ireturn, 1, 0, 0, 0, 0)])
set_option maxRecDepth 20000 in
theorem okX9_gout : ab_ok mX9_gout := ⟨by decide, by decide +kernel, trivial, fl_RX9_19, trivial, trivial, trivial, ab_in (i := 531) rfl rfl, trivial, trivial, trivial, trivial, trivial, trivial, trivial, ab_in (i := 364) rfl rfl, trivial, trivial, fl_RX9_26, trivial, trivial, trivial, ab_in (i := 593) rfl rfl, trivial, trivial, fl_RX9_33, trivial, fl_RX9_26, trivial, trivial, fl_RX9_26, trivial, trivial, trivial, trivial, fl_RX9_26, trivial, trivial, trivial, trivial⟩
def mX9_stub : MI := (yX9_stub, cX9_stub, 3, (some .int), [(0, .aload_n 0, 1, 0, 0, 0, 0), (1, .iload_n 1, 1, 1, 0, 0, 0), (2, .invokevirtual 222, 3, 0, 0, 0, 0), (5, .istore_n 2, 1, 2, 0, 0, 0), (6, .iload_n 2, 1, 2, 0, 0, 0), (7, .ifCond .eq 5, 3, 12, 0, 0, 0), (10, .iload_n 2, 1, 2, 0, 0, 0), (11, .ireturn, 1, 0, 0, 0, 0), (12, .aload_n 0, 1, 0, 0, 0, 0), (13, .getfield 33, 3, 9, 3, 0, 0), (16, .aload_n 0, 1, 0, 0, 0, 0), (17, .getfield 26, 3, 9, 2, 0, 0), (20, .invokevirtual 210, 3, 0, 0, 0, 0), (23, .aload_n 0, 1, 0, 0, 0, 0), (24, .getfield 26, 3, 9, 2, 0, 0), (27, .iload_n 1, 1, 1, 0, 0, 0), (28, .invokevirtual 225, 3, 0, 0, 0, 0), (31, .aload_n 0, 1, 0, 0, 0, 0), (32, .getfield 26, 3, 9, 2, 0, 0), (35, .iload_n 1, 1, 1, 0, 0, 0), (36, .invokevirtual 156, 3, 0, 0, 0, 0), (39, .ireturn, 1, 0, 0, 0, 0)])
set_option maxRecDepth 20000 in
theorem okX9_stub : ab_ok mX9_stub := ⟨by decide, by decide +kernel, trivial, trivial, trivial, trivial, trivial, trivial, trivial, trivial, trivial, fl_RX9_33, trivial, fl_RX9_26, trivial, trivial, fl_RX9_26, trivial, trivial, trivial, fl_RX9_26, trivial, trivial, trivial, trivial⟩
def mX9_dies : MI := (yX9_dies, cX9_dies, 3, (some .int), [(0, .aload_n 0, 1, 0, 0, 0, 0), (1, .iload_n 1, 1, 1, 0, 0, 0), (2, .invokevirtual 222, 3, 0, 0, 0, 0), (5, .istore_n 2, 1, 2, 0, 0, 0), (6, .iload_n 2, 1, 2, 0, 0, 0), (7, .ifCond .eq 5, 3, 12, 0, 0, 0), (10, .iload_n 2, 1, 2, 0, 0, 0), (11, .ireturn, 1, 0, 0, 0, 0), (12, .aload_n 0, 1, 0, 0, 0, 0), (13, .getfield 33, 3, 9, 3, 0, 0), (16, .aload_n 0, 1, 0, 0, 0, 0), (17, .getfield 26, 3, 9, 2, 0, 0), (20, .invokevirtual 210, 3, 0, 0, 0, 0), (23, .aload_n 0, 1, 0, 0, 0, 0), (24, .getfield 26, 3, 9, 2, 0, 0), (27, .iload_n 1, 1, 1, 0, 0, 0), (28, .invokevirtual 229, 3, 0, 0, 0, 0), (31, .aload_n 0, 1, 0, 0, 0, 0), (32, .getfield 26, 3, 9, 2, 0, 0), (35, .aload_n 0, 1, 0, 0, 0, 0), (36, .getfield 19, 3, 9, 1, 0, 0), (39, .iload_n 1, 1, 1, 0, 0, 0), (40, .invokevirtual 159, 3, 0, 0, 0, 0), (43, .ireturn, 1, 0, 0, 0, 0)])
set_option maxRecDepth 20000 in
theorem okX9_dies : ab_ok mX9_dies := ⟨by decide, by decide +kernel, trivial, trivial, trivial, trivial, trivial, trivial, trivial, trivial, trivial, fl_RX9_33, trivial, fl_RX9_26, trivial, trivial, fl_RX9_26, trivial, trivial, trivial, fl_RX9_26, trivial, fl_RX9_19, trivial, trivial, trivial, trivial⟩
def mX9_copy : MI := (yX9_copy, cX9_copy, 3, (some .int), [(0, .aload_n 0, 1, 0, 0, 0, 0), (1, .iload_n 1, 1, 1, 0, 0, 0), (2, .invokevirtual 222, 3, 0, 0, 0, 0), (5, .istore_n 2, 1, 2, 0, 0, 0), (6, .iload_n 2, 1, 2, 0, 0, 0), (7, .ifCond .eq 5, 3, 12, 0, 0, 0), (10, .iload_n 2, 1, 2, 0, 0, 0), (11, .ireturn, 1, 0, 0, 0, 0), (12, .aload_n 0, 1, 0, 0, 0, 0), (13, .getfield 33, 3, 9, 3, 0, 0), (16, .aload_n 0, 1, 0, 0, 0, 0), (17, .getfield 26, 3, 9, 2, 0, 0), (20, .invokevirtual 210, 3, 0, 0, 0, 0), (23, .aload_n 0, 1, 0, 0, 0, 0), (24, .getfield 26, 3, 9, 2, 0, 0), (27, .aload_n 0, 1, 0, 0, 0, 0), (28, .getfield 19, 3, 9, 1, 0, 0), (31, .iload_n 1, 1, 1, 0, 0, 0), (32, .invokevirtual 232, 3, 0, 0, 0, 0), (35, .aload_n 0, 1, 0, 0, 0, 0), (36, .getfield 26, 3, 9, 2, 0, 0), (39, .iload_n 1, 1, 1, 0, 0, 0), (40, .invokevirtual 170, 3, 0, 0, 0, 0), (43, .ireturn, 1, 0, 0, 0, 0)])
set_option maxRecDepth 20000 in
theorem okX9_copy : ab_ok mX9_copy := ⟨by decide, by decide +kernel, trivial, trivial, trivial, trivial, trivial, trivial, trivial, trivial, trivial, fl_RX9_33, trivial, fl_RX9_26, trivial, trivial, fl_RX9_26, trivial, fl_RX9_19, trivial, trivial, trivial, fl_RX9_26, trivial, trivial, trivial, trivial⟩
def mX9_drift : MI := (yX9_drift, cX9_drift, 4, (some .int), [(0, .aload_n 0, 1, 0, 0, 0, 0), (1, .iload_n 1, 1, 1, 0, 0, 0), (2, .invokevirtual 207, 3, 0, 0, 0, 0), (5, .istore_n 2, 1, 2, 0, 0, 0), (6, .iload_n 2, 1, 2, 0, 0, 0), (7, .ifCond .eq 5, 3, 12, 0, 0, 0), (10, .iload_n 2, 1, 2, 0, 0, 0), (11, .ireturn, 1, 0, 0, 0, 0), (12, .aload_n 0, 1, 0, 0, 0, 0), (13, .getfield 33, 3, 9, 3, 0, 0), (16, .aload_n 0, 1, 0, 0, 0, 0), (17, .getfield 26, 3, 9, 2, 0, 0), (20, .invokevirtual 210, 3, 0, 0, 0, 0), (23, .iconst 0, 1, 0, 0, 0, 0), (24, .istore_n 3, 1, 3, 0, 0, 0), (25, .iload_n 3, 1, 3, 0, 0, 0), (26, .iload_n 1, 1, 1, 0, 0, 0), (27, .if_icmp .ge 31, 3, 58, 0, 0, 0), (30, .aload_n 0, 1, 0, 0, 0, 0), (31, .getfield 26, 3, 9, 2, 0, 0), (34, .aload_n 0, 1, 0, 0, 0, 0), (35, .getfield 19, 3, 9, 1, 0, 0), (38, .invokevirtual 236, 3, 0, 0, 0, 0), (41, .aload_n 0, 1, 0, 0, 0, 0), (42, .getfield 26, 3, 9, 2, 0, 0), (45, .aload_n 0, 1, 0, 0, 0, 0), (46, .getfield 19, 3, 9, 1, 0, 0), (49, .invokevirtual 214, 3, 0, 0, 0, 0), (52, .iinc 3 1, 3, 3, 0, 1, 0), (55, .goto (-30), 3, 25, 0, 0, 0), (58, .aload_n 0, 1, 0, 0, 0, 0), (59, .getfield 26, 3, 9, 2, 0, 0), (62, .invokevirtual 126, 3, 0, 0, 0, 0), (65, .ireturn, 1, 0, 0, 0, 0)])
set_option maxRecDepth 20000 in
theorem okX9_drift : ab_ok mX9_drift := ⟨by decide, by decide +kernel, trivial, trivial, trivial, trivial, trivial, trivial, trivial, trivial, trivial, fl_RX9_33, trivial, fl_RX9_26, trivial, trivial, trivial, trivial, trivial, trivial, trivial, fl_RX9_26, trivial, fl_RX9_19, trivial, trivial, fl_RX9_26, trivial, fl_RX9_19, trivial, trivial, trivial, trivial, fl_RX9_26, trivial, trivial, trivial⟩
def mX9_undo : MI := (yX9_undo, cX9_undo, 1, (some .int), [(0, .aload_n 0, 1, 0, 0, 0, 0), (1, .getfield 33, 3, 9, 3, 0, 0), (4, .getfield 148, 3, 4, 3, 0, 0), (7, .ifCond .ne 6, 3, 13, 0, 0, 0), (10, .ldc 217, 2, 0, 0, (-1000000003), 0), (12, .ireturn, 1, 0, 0, 0, 0), (13, .aload_n 0, 1, 0, 0, 0, 0), (14, .getfield 33, 3, 9, 3, 0, 0), (17, .aload_n 0, 1, 0, 0, 0, 0), (18, .getfield 26, 3, 9, 2, 0, 0), (21, .invokevirtual 239, 3, 0, 0, 0, 0), (24, .aload_n 0, 1, 0, 0, 0, 0), (25, .getfield 33, 3, 9, 3, 0, 0), (28, .getfield 148, 3, 4, 3, 0, 0), (31, .ireturn, 1, 0, 0, 0, 0)])
set_option maxRecDepth 20000 in
theorem okX9_undo : ab_ok mX9_undo := ⟨by decide, by decide +kernel, trivial, fl_RX9_33, fl_RX9_148, trivial, ab_in (i := 593) rfl rfl, trivial, trivial, fl_RX9_33, trivial, fl_RX9_26, trivial, trivial, fl_RX9_33, fl_RX9_148, trivial, trivial⟩
def mX9_refusalOfSeasons : MI := (yX9_refusalOfSeasons, cX9_refusalOfSeasons, 2, (some .int), [(0, .iload_n 1, 1, 1, 0, 0, 0), (1, .iconst 1, 1, 0, 0, 1, 0), (2, .if_icmp .lt 9, 3, 11, 0, 0, 0), (5, .iload_n 1, 1, 1, 0, 0, 0), (6, .bipush 40, 2, 0, 0, 40, 0), (8, .if_icmp .le 6, 3, 14, 0, 0, 0), (11, .ldc 69, 2, 0, 0, (-1000000002), 0), (13, .ireturn, 1, 0, 0, 0, 0), (14, .aload_n 0, 1, 0, 0, 0, 0), (15, .getfield 19, 3, 9, 1, 0, 0), (18, .getfield 114, 3, 5, 0, 0, 0), (21, .ifCond .ne 6, 3, 27, 0, 0, 0), (24, .ldc 217, 2, 0, 0, (-1000000003), 0), (26, .ireturn, 1, 0, 0, 0, 0), (27, .aload_n 0, 1, 0, 0, 0, 0), (28, .getfield 26, 3, 9, 2, 0, 0), (31, .invokevirtual 126, 3, 0, 0, 0, 0), (34, .sipush 9000, 3, 0, 0, 9000, 0), (37, .if_icmp .le 8, 3, 45, 0, 0, 0), (40, .ldc 80, 2, 0, 0, (-1000000004), 0), (42, .goto 4, 3, 46, 0, 0, 0), (45, .iconst 0, 1, 0, 0, 0, 0), (46, .ireturn, 1, 0, 0, 0, 0)])
set_option maxRecDepth 20000 in
theorem okX9_refusalOfSeasons : ab_ok mX9_refusalOfSeasons := ⟨by decide, by decide +kernel, trivial, trivial, trivial, trivial, trivial, trivial, ab_in (i := 364) rfl rfl, trivial, trivial, fl_RX9_19, fl_RX9_114, trivial, ab_in (i := 593) rfl rfl, trivial, trivial, fl_RX9_26, trivial, trivial, trivial, ab_in (i := 369) rfl rfl, trivial, trivial, trivial, trivial⟩
def mX9_refusalOfLiving : MI := (yX9_refusalOfLiving, cX9_refusalOfLiving, 2, (some .int), [(0, .aload_n 0, 1, 0, 0, 0, 0), (1, .getfield 19, 3, 9, 1, 0, 0), (4, .iload_n 1, 1, 1, 0, 0, 0), (5, .invokevirtual 151, 3, 0, 0, 0, 0), (8, .ifCond .ne 6, 3, 14, 0, 0, 0), (11, .ldc 155, 2, 0, 0, (-1000000001), 0), (13, .ireturn, 1, 0, 0, 0, 0), (14, .aload_n 0, 1, 0, 0, 0, 0), (15, .getfield 26, 3, 9, 2, 0, 0), (18, .iload_n 1, 1, 1, 0, 0, 0), (19, .invokevirtual 167, 3, 0, 0, 0, 0), (22, .ifCond .eq 7, 3, 29, 0, 0, 0), (25, .iconst 0, 1, 0, 0, 0, 0), (26, .goto 5, 3, 31, 0, 0, 0), (29, .ldc 217, 2, 0, 0, (-1000000003), 0), (31, .ireturn, 1, 0, 0, 0, 0)])
set_option maxRecDepth 20000 in
theorem okX9_refusalOfLiving : ab_ok mX9_refusalOfLiving := ⟨by decide, by decide +kernel, trivial, fl_RX9_19, trivial, trivial, trivial, ab_in (i := 531) rfl rfl, trivial, trivial, fl_RX9_26, trivial, trivial, trivial, trivial, trivial, ab_in (i := 593) rfl rfl, trivial, trivial⟩
def mX9_firstNought : MI := (yX9_firstNought, cX9_firstNought, 5, (some .int), [(0, .iconst (-1), 1, 0, 0, (-1), 0), (1, .istore_n 1, 1, 1, 0, 0, 0), (2, .iconst 0, 1, 0, 0, 0, 0), (3, .istore_n 2, 1, 2, 0, 0, 0), (4, .iload_n 2, 1, 2, 0, 0, 0), (5, .aload_n 0, 1, 0, 0, 0, 0), (6, .getfield 19, 3, 9, 1, 0, 0), (9, .getfield 117, 3, 5, 1, 0, 0), (12, .if_icmp .ge 78, 3, 90, 0, 0, 0), (15, .aload_n 0, 1, 0, 0, 0, 0), (16, .getfield 19, 3, 9, 1, 0, 0), (19, .getfield 180, 3, 5, 6, 0, 0), (22, .iload_n 2, 1, 2, 0, 0, 0), (23, .iaload, 1, 0, 0, 0, 0), (24, .istore_n 3, 1, 3, 0, 0, 0), (25, .iload_n 1, 1, 1, 0, 0, 0), (26, .iconst (-1), 1, 0, 0, (-1), 0), (27, .if_icmp .eq 16, 3, 43, 0, 0, 0), (30, .iload_n 3, 1, 3, 0, 0, 0), (31, .aload_n 0, 1, 0, 0, 0, 0), (32, .getfield 19, 3, 9, 1, 0, 0), (35, .getfield 180, 3, 5, 6, 0, 0), (38, .iload_n 1, 1, 1, 0, 0, 0), (39, .iaload, 1, 0, 0, 0, 0), (40, .if_icmp .ge 7, 3, 47, 0, 0, 0), (43, .iconst 1, 1, 0, 0, 1, 0), (44, .goto 4, 3, 48, 0, 0, 0), (47, .iconst 0, 1, 0, 0, 0, 0), (48, .istore 4, 2, 4, 0, 0, 0), (50, .iload_n 3, 1, 3, 0, 0, 0), (51, .aload_n 0, 1, 0, 0, 0, 0), (52, .getfield 26, 3, 9, 2, 0, 0), (55, .invokevirtual 126, 3, 0, 0, 0, 0), (58, .if_icmp .lt 26, 3, 84, 0, 0, 0), (61, .iload 4, 2, 4, 0, 0, 0), (63, .ifCond .eq 21, 3, 84, 0, 0, 0), (66, .aload_n 0, 1, 0, 0, 0, 0), (67, .getfield 26, 3, 9, 2, 0, 0), (70, .aload_n 0, 1, 0, 0, 0, 0), (71, .getfield 19, 3, 9, 1, 0, 0), (74, .iload_n 2, 1, 2, 0, 0, 0), (75, .iload_n 3, 1, 3, 0, 0, 0), (76, .invokevirtual 242, 3, 0, 0, 0, 0), (79, .ifCond .ne 5, 3, 84, 0, 0, 0), (82, .iload_n 2, 1, 2, 0, 0, 0), (83, .istore_n 1, 1, 1, 0, 0, 0), (84, .iinc 2 1, 3, 2, 0, 1, 0), (87, .goto (-83), 3, 4, 0, 0, 0), (90, .iload_n 1, 1, 1, 0, 0, 0), (91, .ireturn, 1, 0, 0, 0, 0)])
set_option maxRecDepth 20000 in
theorem okX9_firstNought : ab_ok mX9_firstNought := ⟨by decide, by decide +kernel, trivial, trivial, trivial, trivial, trivial, trivial, fl_RX9_19, fl_RX9_117, trivial, trivial, fl_RX9_19, fl_RX9_180, trivial, trivial, trivial, trivial, trivial, trivial, trivial, trivial, fl_RX9_19, fl_RX9_180, trivial, trivial, trivial, trivial, trivial, trivial, trivial, trivial, trivial, fl_RX9_26, trivial, trivial, trivial, trivial, trivial, fl_RX9_26, trivial, fl_RX9_19, trivial, trivial, trivial, trivial, trivial, trivial, trivial, trivial, trivial, trivial, trivial⟩
def mX9_means : MI := (yX9_means, cX9_means, 3, (some .int), [(0, .aload_n 0, 1, 0, 0, 0, 0), (1, .getfield 19, 3, 9, 1, 0, 0), (4, .iload_n 1, 1, 1, 0, 0, 0), (5, .invokevirtual 177, 3, 0, 0, 0, 0), (8, .ifCond .ne 6, 3, 14, 0, 0, 0), (11, .ldc 155, 2, 0, 0, (-1000000001), 0), (13, .ireturn, 1, 0, 0, 0, 0), (14, .iload_n 2, 1, 2, 0, 0, 0), (15, .ifCond .lt 9, 3, 24, 0, 0, 0), (18, .iload_n 2, 1, 2, 0, 0, 0), (19, .bipush 99, 2, 0, 0, 99, 0), (21, .if_icmp .le 6, 3, 27, 0, 0, 0), (24, .ldc 69, 2, 0, 0, (-1000000002), 0), (26, .ireturn, 1, 0, 0, 0, 0), (27, .aload_n 0, 1, 0, 0, 0, 0), (28, .getfield 26, 3, 9, 2, 0, 0), (31, .aload_n 0, 1, 0, 0, 0, 0), (32, .getfield 19, 3, 9, 1, 0, 0), (35, .iload_n 1, 1, 1, 0, 0, 0), (36, .iload_n 2, 1, 2, 0, 0, 0), (37, .invokevirtual 242, 3, 0, 0, 0, 0), (40, .ireturn, 1, 0, 0, 0, 0)])
set_option maxRecDepth 20000 in
theorem okX9_means : ab_ok mX9_means := ⟨by decide, by decide +kernel, trivial, fl_RX9_19, trivial, trivial, trivial, ab_in (i := 531) rfl rfl, trivial, trivial, trivial, trivial, trivial, trivial, ab_in (i := 364) rfl rfl, trivial, trivial, fl_RX9_26, trivial, fl_RX9_19, trivial, trivial, trivial, trivial, trivial⟩
def mX9_basket : MI := (yX9_basket, cX9_basket, 2, (some .int), [(0, .iload_n 1, 1, 1, 0, 0, 0), (1, .iconst (-1), 1, 0, 0, (-1), 0), (2, .if_icmp .eq 17, 3, 19, 0, 0, 0), (5, .aload_n 0, 1, 0, 0, 0, 0), (6, .getfield 19, 3, 9, 1, 0, 0), (9, .iload_n 1, 1, 1, 0, 0, 0), (10, .invokevirtual 151, 3, 0, 0, 0, 0), (13, .ifCond .ne 6, 3, 19, 0, 0, 0), (16, .ldc 155, 2, 0, 0, (-1000000001), 0), (18, .ireturn, 1, 0, 0, 0, 0), (19, .aload_n 0, 1, 0, 0, 0, 0), (20, .getfield 47, 3, 9, 5, 0, 0), (23, .aload_n 0, 1, 0, 0, 0, 0), (24, .getfield 19, 3, 9, 1, 0, 0), (27, .aload_n 0, 1, 0, 0, 0, 0), (28, .getfield 26, 3, 9, 2, 0, 0), (31, .invokevirtual 246, 3, 0, 0, 0, 0), (34, .aload_n 0, 1, 0, 0, 0, 0), (35, .getfield 47, 3, 9, 5, 0, 0), (38, .invokevirtual 250, 3, 0, 0, 0, 0), (41, .ifCond .ne 5, 3, 46, 0, 0, 0), (44, .iconst (-1), 1, 0, 0, (-1), 0), (45, .ireturn, 1, 0, 0, 0, 0), (46, .iload_n 1, 1, 1, 0, 0, 0), (47, .iconst (-1), 1, 0, 0, (-1), 0), (48, .if_icmp .ne 13, 3, 61, 0, 0, 0), (51, .aload_n 0, 1, 0, 0, 0, 0), (52, .getfield 47, 3, 9, 5, 0, 0), (55, .getfield 253, 3, 0, 5, 0, 0), (58, .goto 12, 3, 70, 0, 0, 0), (61, .aload_n 0, 1, 0, 0, 0, 0), (62, .getfield 47, 3, 9, 5, 0, 0), (65, .getfield 256, 3, 0, 4, 0, 0), (68, .iload_n 1, 1, 1, 0, 0, 0), (69, .iaload, 1, 0, 0, 0, 0), (70, .ireturn, 1, 0, 0, 0, 0)])
set_option maxRecDepth 20000 in
theorem okX9_basket : ab_ok mX9_basket := ⟨by decide, by decide +kernel, trivial, trivial, trivial, trivial, fl_RX9_19, trivial, trivial, trivial, ab_in (i := 531) rfl rfl, trivial, trivial, fl_RX9_47, trivial, fl_RX9_19, trivial, fl_RX9_26, trivial, trivial, fl_RX9_47, trivial, trivial, trivial, trivial, trivial, trivial, trivial, trivial, fl_RX9_47, fl_RX9_253, trivial, trivial, fl_RX9_47, fl_RX9_256, trivial, trivial, trivial, trivial⟩
def mX9_ring : MI := (yX9_ring, cX9_ring, 2, (some .int), [(0, .aload_n 0, 1, 0, 0, 0, 0), (1, .getfield 54, 3, 9, 6, 0, 0), (4, .aload_n 0, 1, 0, 0, 0, 0), (5, .getfield 19, 3, 9, 1, 0, 0), (8, .invokevirtual 259, 3, 0, 0, 0, 0), (11, .aload_n 0, 1, 0, 0, 0, 0), (12, .getfield 54, 3, 9, 6, 0, 0), (15, .getfield 261, 3, 7, 1, 0, 0), (18, .ifCond .ne 5, 3, 23, 0, 0, 0), (21, .iconst (-1), 1, 0, 0, (-1), 0), (22, .ireturn, 1, 0, 0, 0, 0), (23, .iload_n 1, 1, 1, 0, 0, 0), (24, .iconst (-1), 1, 0, 0, (-1), 0), (25, .if_icmp .ne 11, 3, 36, 0, 0, 0), (28, .aload_n 0, 1, 0, 0, 0, 0), (29, .getfield 54, 3, 9, 6, 0, 0), (32, .getfield 261, 3, 7, 1, 0, 0), (35, .ireturn, 1, 0, 0, 0, 0), (36, .iload_n 1, 1, 1, 0, 0, 0), (37, .ifCond .lt 14, 3, 51, 0, 0, 0), (40, .iload_n 1, 1, 1, 0, 0, 0), (41, .aload_n 0, 1, 0, 0, 0, 0), (42, .getfield 54, 3, 9, 6, 0, 0), (45, .getfield 261, 3, 7, 1, 0, 0), (48, .if_icmp .lt 7, 3, 55, 0, 0, 0), (51, .iconst (-1), 1, 0, 0, (-1), 0), (52, .goto 12, 3, 64, 0, 0, 0), (55, .aload_n 0, 1, 0, 0, 0, 0), (56, .getfield 54, 3, 9, 6, 0, 0), (59, .getfield 264, 3, 7, 0, 0, 0), (62, .iload_n 1, 1, 1, 0, 0, 0), (63, .iaload, 1, 0, 0, 0, 0), (64, .ireturn, 1, 0, 0, 0, 0)])
set_option maxRecDepth 20000 in
theorem okX9_ring : ab_ok mX9_ring := ⟨by decide, by decide +kernel, trivial, fl_RX9_54, trivial, fl_RX9_19, trivial, trivial, fl_RX9_54, fl_RX9_261, trivial, trivial, trivial, trivial, trivial, trivial, trivial, fl_RX9_54, fl_RX9_261, trivial, trivial, trivial, trivial, trivial, fl_RX9_54, fl_RX9_261, trivial, trivial, trivial, trivial, fl_RX9_54, fl_RX9_264, trivial, trivial, trivial, trivial⟩
def mX9_mended : MI := (yX9_mended, cX9_mended, 1, (some .int), [(0, .aload_n 0, 1, 0, 0, 0, 0), (1, .getfield 54, 3, 9, 6, 0, 0), (4, .aload_n 0, 1, 0, 0, 0, 0), (5, .getfield 19, 3, 9, 1, 0, 0), (8, .invokevirtual 259, 3, 0, 0, 0, 0), (11, .aload_n 0, 1, 0, 0, 0, 0), (12, .getfield 54, 3, 9, 6, 0, 0), (15, .aload_n 0, 1, 0, 0, 0, 0), (16, .getfield 19, 3, 9, 1, 0, 0), (19, .invokevirtual 267, 3, 0, 0, 0, 0), (22, .ireturn, 1, 0, 0, 0, 0)])
set_option maxRecDepth 20000 in
theorem okX9_mended : ab_ok mX9_mended := ⟨by decide, by decide +kernel, trivial, fl_RX9_54, trivial, fl_RX9_19, trivial, trivial, fl_RX9_54, trivial, fl_RX9_19, trivial, trivial, trivial⟩
def mX9_heirs : MI := (yX9_heirs, cX9_heirs, 2, (some .int), [(0, .iload_n 1, 1, 1, 0, 0, 0), (1, .iconst (-1), 1, 0, 0, (-1), 0), (2, .if_icmp .eq 17, 3, 19, 0, 0, 0), (5, .aload_n 0, 1, 0, 0, 0, 0), (6, .getfield 19, 3, 9, 1, 0, 0), (9, .iload_n 1, 1, 1, 0, 0, 0), (10, .invokevirtual 151, 3, 0, 0, 0, 0), (13, .ifCond .ne 6, 3, 19, 0, 0, 0), (16, .ldc 155, 2, 0, 0, (-1000000001), 0), (18, .ireturn, 1, 0, 0, 0, 0), (19, .aload_n 0, 1, 0, 0, 0, 0), (20, .getfield 26, 3, 9, 2, 0, 0), (23, .invokevirtual 130, 3, 0, 0, 0, 0), (26, .invokestatic 271, 3, 0, 0, 0, 0), (29, .iconst 2, 1, 0, 0, 2, 0), (30, .if_icmp .ge 5, 3, 35, 0, 0, 0), (33, .iconst (-1), 1, 0, 0, (-1), 0), (34, .ireturn, 1, 0, 0, 0, 0), (35, .aload_n 0, 1, 0, 0, 0, 0), (36, .getfield 61, 3, 9, 7, 0, 0), (39, .aload_n 0, 1, 0, 0, 0, 0), (40, .getfield 26, 3, 9, 2, 0, 0), (43, .invokevirtual 276, 3, 0, 0, 0, 0), (46, .iload_n 1, 1, 1, 0, 0, 0), (47, .iconst (-1), 1, 0, 0, (-1), 0), (48, .if_icmp .ne 13, 3, 61, 0, 0, 0), (51, .aload_n 0, 1, 0, 0, 0, 0), (52, .getfield 61, 3, 9, 7, 0, 0), (55, .invokevirtual 278, 3, 0, 0, 0, 0), (58, .goto 12, 3, 70, 0, 0, 0), (61, .aload_n 0, 1, 0, 0, 0, 0), (62, .getfield 61, 3, 9, 7, 0, 0), (65, .getfield 281, 3, 1, 1, 0, 0), (68, .iload_n 1, 1, 1, 0, 0, 0), (69, .iaload, 1, 0, 0, 0, 0), (70, .ireturn, 1, 0, 0, 0, 0)])
set_option maxRecDepth 20000 in
theorem okX9_heirs : ab_ok mX9_heirs := ⟨by decide, by decide +kernel, trivial, trivial, trivial, trivial, fl_RX9_19, trivial, trivial, trivial, ab_in (i := 531) rfl rfl, trivial, trivial, fl_RX9_26, trivial, ⟨fun z => absurd z (by decide), fun z => absurd z (by decide), fun z => absurd z (by decide), fun z => absurd z (by decide)⟩, trivial, trivial, trivial, trivial, trivial, fl_RX9_61, trivial, fl_RX9_26, trivial, trivial, trivial, trivial, trivial, fl_RX9_61, trivial, trivial, trivial, fl_RX9_61, fl_RX9_281, trivial, trivial, trivial, trivial⟩
def mX9_reach : MI := (yX9_reach, cX9_reach, 6, (some .int), [(0, .aload_n 0, 1, 0, 0, 0, 0), (1, .getfield 19, 3, 9, 1, 0, 0), (4, .iload_n 1, 1, 1, 0, 0, 0), (5, .invokevirtual 151, 3, 0, 0, 0, 0), (8, .ifCond .ne 6, 3, 14, 0, 0, 0), (11, .ldc 155, 2, 0, 0, (-1000000001), 0), (13, .ireturn, 1, 0, 0, 0, 0), (14, .iload_n 2, 1, 2, 0, 0, 0), (15, .ifCond .eq 11, 3, 26, 0, 0, 0), (18, .iload_n 2, 1, 2, 0, 0, 0), (19, .iconst 1, 1, 0, 0, 1, 0), (20, .if_icmp .eq 6, 3, 26, 0, 0, 0), (23, .ldc 69, 2, 0, 0, (-1000000002), 0), (25, .ireturn, 1, 0, 0, 0, 0), (26, .aload_n 0, 1, 0, 0, 0, 0), (27, .getfield 26, 3, 9, 2, 0, 0), (30, .aload_n 0, 1, 0, 0, 0, 0), (31, .getfield 19, 3, 9, 1, 0, 0), (34, .iload_n 1, 1, 1, 0, 0, 0), (35, .iconst 0, 1, 0, 0, 0, 0), (36, .invokevirtual 284, 3, 0, 0, 0, 0), (39, .istore_n 3, 1, 3, 0, 0, 0), (40, .iconst 1, 1, 0, 0, 1, 0), (41, .istore 4, 2, 4, 0, 0, 0), (43, .iload 4, 2, 4, 0, 0, 0), (45, .iconst 4, 1, 0, 0, 4, 0), (46, .if_icmp .ge 45, 3, 91, 0, 0, 0), (49, .aload_n 0, 1, 0, 0, 0, 0), (50, .getfield 26, 3, 9, 2, 0, 0), (53, .aload_n 0, 1, 0, 0, 0, 0), (54, .getfield 19, 3, 9, 1, 0, 0), (57, .iload_n 1, 1, 1, 0, 0, 0), (58, .iload 4, 2, 4, 0, 0, 0), (60, .invokevirtual 284, 3, 0, 0, 0, 0), (63, .istore 5, 2, 5, 0, 0, 0), (65, .iload_n 2, 1, 2, 0, 0, 0), (66, .ifCond .ne 12, 3, 78, 0, 0, 0), (69, .iload_n 3, 1, 3, 0, 0, 0), (70, .iload 5, 2, 5, 0, 0, 0), (72, .invokestatic 287, 3, 3, 0, 0, 0), (75, .goto 9, 3, 84, 0, 0, 0), (78, .iload_n 3, 1, 3, 0, 0, 0), (79, .iload 5, 2, 5, 0, 0, 0), (81, .invokestatic 292, 3, 2, 0, 0, 0), (84, .istore_n 3, 1, 3, 0, 0, 0), (85, .iinc 4 1, 3, 4, 0, 1, 0), (88, .goto (-45), 3, 43, 0, 0, 0), (91, .iload_n 3, 1, 3, 0, 0, 0), (92, .ireturn, 1, 0, 0, 0, 0)])
set_option maxRecDepth 20000 in
theorem okX9_reach : ab_ok mX9_reach := ⟨by decide, by decide +kernel, trivial, fl_RX9_19, trivial, trivial, trivial, ab_in (i := 531) rfl rfl, trivial, trivial, trivial, trivial, trivial, trivial, ab_in (i := 364) rfl rfl, trivial, trivial, fl_RX9_26, trivial, fl_RX9_19, trivial, trivial, trivial, trivial, trivial, trivial, trivial, trivial, trivial, trivial, fl_RX9_26, trivial, fl_RX9_19, trivial, trivial, trivial, trivial, trivial, trivial, trivial, trivial, ⟨fun z => absurd z (by decide), fun z => absurd z (by decide), fun _ => ab_in (i := 776) rfl rfl, fun z => absurd z (by decide)⟩, trivial, trivial, trivial, ⟨fun z => absurd z (by decide), fun _ => ab_in (i := 777) rfl rfl, fun z => absurd z (by decide), fun z => absurd z (by decide)⟩, trivial, trivial, trivial, trivial, trivial, trivial⟩
def mX9_bestCopy : MI := (yX9_bestCopy, cX9_bestCopy, 5, (some .int), [(0, .aload_n 0, 1, 0, 0, 0, 0), (1, .getfield 19, 3, 9, 1, 0, 0), (4, .iload_n 1, 1, 1, 0, 0, 0), (5, .invokevirtual 151, 3, 0, 0, 0, 0), (8, .ifCond .ne 6, 3, 14, 0, 0, 0), (11, .ldc 155, 2, 0, 0, (-1000000001), 0), (13, .ireturn, 1, 0, 0, 0, 0), (14, .iload_n 2, 1, 2, 0, 0, 0), (15, .ifCond .eq 11, 3, 26, 0, 0, 0), (18, .iload_n 2, 1, 2, 0, 0, 0), (19, .iconst 1, 1, 0, 0, 1, 0), (20, .if_icmp .eq 6, 3, 26, 0, 0, 0), (23, .ldc 69, 2, 0, 0, (-1000000002), 0), (25, .ireturn, 1, 0, 0, 0, 0), (26, .aload_n 0, 1, 0, 0, 0, 0), (27, .getfield 26, 3, 9, 2, 0, 0), (30, .iload_n 1, 1, 1, 0, 0, 0), (31, .invokevirtual 167, 3, 0, 0, 0, 0), (34, .ifCond .ne 5, 3, 39, 0, 0, 0), (37, .iconst (-1), 1, 0, 0, (-1), 0), (38, .ireturn, 1, 0, 0, 0, 0), (39, .iconst 0, 1, 0, 0, 0, 0), (40, .istore_n 3, 1, 3, 0, 0, 0), (41, .iconst 1, 1, 0, 0, 1, 0), (42, .istore 4, 2, 4, 0, 0, 0), (44, .iload 4, 2, 4, 0, 0, 0), (46, .iconst 4, 1, 0, 0, 4, 0), (47, .if_icmp .ge 42, 3, 89, 0, 0, 0), (50, .aload_n 0, 1, 0, 0, 0, 0), (51, .getfield 26, 3, 9, 2, 0, 0), (54, .aload_n 0, 1, 0, 0, 0, 0), (55, .getfield 19, 3, 9, 1, 0, 0), (58, .iload_n 1, 1, 1, 0, 0, 0), (59, .iload 4, 2, 4, 0, 0, 0), (61, .invokevirtual 295, 3, 0, 0, 0, 0), (64, .aload_n 0, 1, 0, 0, 0, 0), (65, .getfield 26, 3, 9, 2, 0, 0), (68, .aload_n 0, 1, 0, 0, 0, 0), (69, .getfield 19, 3, 9, 1, 0, 0), (72, .iload_n 1, 1, 1, 0, 0, 0), (73, .iload_n 3, 1, 3, 0, 0, 0), (74, .invokevirtual 295, 3, 0, 0, 0, 0), (77, .if_icmp .ge 6, 3, 83, 0, 0, 0), (80, .iload 4, 2, 4, 0, 0, 0), (82, .istore_n 3, 1, 3, 0, 0, 0), (83, .iinc 4 1, 3, 4, 0, 1, 0), (86, .goto (-42), 3, 44, 0, 0, 0), (89, .iload_n 2, 1, 2, 0, 0, 0), (90, .ifCond .ne 7, 3, 97, 0, 0, 0), (93, .iload_n 3, 1, 3, 0, 0, 0), (94, .goto 16, 3, 110, 0, 0, 0), (97, .aload_n 0, 1, 0, 0, 0, 0), (98, .getfield 26, 3, 9, 2, 0, 0), (101, .aload_n 0, 1, 0, 0, 0, 0), (102, .getfield 19, 3, 9, 1, 0, 0), (105, .iload_n 1, 1, 1, 0, 0, 0), (106, .iload_n 3, 1, 3, 0, 0, 0), (107, .invokevirtual 295, 3, 0, 0, 0, 0), (110, .ireturn, 1, 0, 0, 0, 0)])
set_option maxRecDepth 20000 in
theorem okX9_bestCopy : ab_ok mX9_bestCopy := ⟨by decide, by decide +kernel, trivial, fl_RX9_19, trivial, trivial, trivial, ab_in (i := 531) rfl rfl, trivial, trivial, trivial, trivial, trivial, trivial, ab_in (i := 364) rfl rfl, trivial, trivial, fl_RX9_26, trivial, trivial, trivial, trivial, trivial, trivial, trivial, trivial, trivial, trivial, trivial, trivial, trivial, fl_RX9_26, trivial, fl_RX9_19, trivial, trivial, trivial, trivial, fl_RX9_26, trivial, fl_RX9_19, trivial, trivial, trivial, trivial, trivial, trivial, trivial, trivial, trivial, trivial, trivial, trivial, trivial, fl_RX9_26, trivial, fl_RX9_19, trivial, trivial, trivial, trivial, trivial⟩
def mX9_nearest : MI := (yX9_nearest, cX9_nearest, 6, (some .int), [(0, .iload_n 1, 1, 1, 0, 0, 0), (1, .ifCond .lt 10, 3, 11, 0, 0, 0), (4, .iload_n 1, 1, 1, 0, 0, 0), (5, .sipush 999, 3, 0, 0, 999, 0), (8, .if_icmp .le 6, 3, 14, 0, 0, 0), (11, .ldc 69, 2, 0, 0, (-1000000002), 0), (13, .ireturn, 1, 0, 0, 0, 0), (14, .iconst (-1), 1, 0, 0, (-1), 0), (15, .istore_n 2, 1, 2, 0, 0, 0), (16, .iconst 0, 1, 0, 0, 0, 0), (17, .istore_n 3, 1, 3, 0, 0, 0), (18, .iconst 0, 1, 0, 0, 0, 0), (19, .istore 4, 2, 4, 0, 0, 0), (21, .iload 4, 2, 4, 0, 0, 0), (23, .aload_n 0, 1, 0, 0, 0, 0), (24, .getfield 19, 3, 9, 1, 0, 0), (27, .getfield 114, 3, 5, 0, 0, 0), (30, .if_icmp .ge 46, 3, 76, 0, 0, 0), (33, .aload_n 0, 1, 0, 0, 0, 0), (34, .getfield 26, 3, 9, 2, 0, 0), (37, .aload_n 0, 1, 0, 0, 0, 0), (38, .getfield 19, 3, 9, 1, 0, 0), (41, .iload 4, 2, 4, 0, 0, 0), (43, .invokevirtual 159, 3, 0, 0, 0, 0), (46, .iload_n 1, 1, 1, 0, 0, 0), (47, .isub, 1, 0, 0, 0, 0), (48, .invokestatic 298, 3, 4, 0, 0, 0), (51, .istore 5, 2, 5, 0, 0, 0), (53, .iload_n 2, 1, 2, 0, 0, 0), (54, .iconst (-1), 1, 0, 0, (-1), 0), (55, .if_icmp .eq 9, 3, 64, 0, 0, 0), (58, .iload 5, 2, 5, 0, 0, 0), (60, .iload_n 3, 1, 3, 0, 0, 0), (61, .if_icmp .ge 9, 3, 70, 0, 0, 0), (64, .iload 4, 2, 4, 0, 0, 0), (66, .istore_n 2, 1, 2, 0, 0, 0), (67, .iload 5, 2, 5, 0, 0, 0), (69, .istore_n 3, 1, 3, 0, 0, 0), (70, .iinc 4 1, 3, 4, 0, 1, 0), (73, .goto (-52), 3, 21, 0, 0, 0), (76, .iload_n 2, 1, 2, 0, 0, 0), (77, .ireturn, 1, 0, 0, 0, 0)])
set_option maxRecDepth 20000 in
theorem okX9_nearest : ab_ok mX9_nearest := ⟨by decide, by decide +kernel, trivial, trivial, trivial, trivial, trivial, ab_in (i := 364) rfl rfl, trivial, trivial, trivial, trivial, trivial, trivial, trivial, trivial, trivial, fl_RX9_19, fl_RX9_114, trivial, trivial, fl_RX9_26, trivial, fl_RX9_19, trivial, trivial, trivial, trivial, ⟨fun z => absurd z (by decide), fun z => absurd z (by decide), fun z => absurd z (by decide), fun _ => ab_in (i := 791) rfl rfl⟩, trivial, trivial, trivial, trivial, trivial, trivial, trivial, trivial, trivial, trivial, trivial, trivial, trivial, trivial, trivial, trivial⟩
def mX9_odds : MI := (yX9_odds, cX9_odds, 9, (some .int), [(0, .aload_n 0, 1, 0, 0, 0, 0), (1, .getfield 19, 3, 9, 1, 0, 0), (4, .iload_n 1, 1, 1, 0, 0, 0), (5, .invokevirtual 151, 3, 0, 0, 0, 0), (8, .ifCond .ne 6, 3, 14, 0, 0, 0), (11, .ldc 155, 2, 0, 0, (-1000000001), 0), (13, .ireturn, 1, 0, 0, 0, 0), (14, .iload_n 2, 1, 2, 0, 0, 0), (15, .ifCond .lt 19, 3, 34, 0, 0, 0), (18, .iload_n 2, 1, 2, 0, 0, 0), (19, .bipush 60, 2, 0, 0, 60, 0), (21, .if_icmp .gt 13, 3, 34, 0, 0, 0), (24, .iload_n 3, 1, 3, 0, 0, 0), (25, .ifCond .lt 9, 3, 34, 0, 0, 0), (28, .iload_n 3, 1, 3, 0, 0, 0), (29, .bipush 100, 2, 0, 0, 100, 0), (31, .if_icmp .le 6, 3, 37, 0, 0, 0), (34, .ldc 69, 2, 0, 0, (-1000000002), 0), (36, .ireturn, 1, 0, 0, 0, 0), (37, .bipush 100, 2, 0, 0, 100, 0), (39, .bipush 100, 2, 0, 0, 100, 0), (41, .iload_n 3, 1, 3, 0, 0, 0), (42, .iconst 2, 1, 0, 0, 2, 0), (43, .iload_n 1, 1, 1, 0, 0, 0), (44, .imul, 1, 0, 0, 0, 0), (45, .iadd, 1, 0, 0, 0, 0), (46, .invokestatic 287, 3, 3, 0, 0, 0), (49, .isub, 1, 0, 0, 0, 0), (50, .i2l, 1, 0, 0, 0, 0), (51, .lstore 4, 2, 4, 0, 0, 0), (53, .ldc2_w 301, 3, 0, 0, 0, 1000000000), (56, .lstore 6, 2, 6, 0, 0, 0), (58, .iconst 0, 1, 0, 0, 0, 0), (59, .istore 8, 2, 8, 0, 0, 0), (61, .iload 8, 2, 8, 0, 0, 0), (63, .iload_n 2, 1, 2, 0, 0, 0), (64, .if_icmp .ge 20, 3, 84, 0, 0, 0), (67, .lload 6, 2, 6, 0, 0, 0), (69, .lload 4, 2, 4, 0, 0, 0), (71, .lmul, 1, 0, 0, 0, 0), (72, .ldc2_w 303, 3, 0, 0, 0, 100), (75, .ldiv, 1, 0, 0, 0, 0), (76, .lstore 6, 2, 6, 0, 0, 0), (78, .iinc 8 1, 3, 8, 0, 1, 0), (81, .goto (-20), 3, 61, 0, 0, 0), (84, .lload 6, 2, 6, 0, 0, 0), (86, .l2i, 1, 0, 0, 0, 0), (87, .ireturn, 1, 0, 0, 0, 0)])
set_option maxRecDepth 20000 in
theorem okX9_odds : ab_ok mX9_odds := ⟨by decide, by decide +kernel, trivial, fl_RX9_19, trivial, trivial, trivial, ab_in (i := 531) rfl rfl, trivial, trivial, trivial, trivial, trivial, trivial, trivial, trivial, trivial, trivial, trivial, ab_in (i := 364) rfl rfl, trivial, trivial, trivial, trivial, trivial, trivial, trivial, trivial, ⟨fun z => absurd z (by decide), fun z => absurd z (by decide), fun _ => ab_in (i := 776) rfl rfl, fun z => absurd z (by decide)⟩, trivial, trivial, trivial, ab_in (i := 796) rfl rfl, trivial, trivial, trivial, trivial, trivial, trivial, trivial, trivial, trivial, ab_in (i := 797) rfl rfl, trivial, trivial, trivial, trivial, trivial, trivial, trivial, trivial⟩
def mX9_got : MI := (yX9_got, cX9_got, 3, (some .int), [(0, .iload_n 1, 1, 1, 0, 0, 0), (1, .iconst 1, 1, 0, 0, 1, 0), (2, .if_icmp .lt 20, 3, 22, 0, 0, 0), (5, .iload_n 1, 1, 1, 0, 0, 0), (6, .bipush 50, 2, 0, 0, 50, 0), (8, .if_icmp .gt 14, 3, 22, 0, 0, 0), (11, .iload_n 2, 1, 2, 0, 0, 0), (12, .ifCond .lt 10, 3, 22, 0, 0, 0), (15, .iload_n 2, 1, 2, 0, 0, 0), (16, .sipush 9999, 3, 0, 0, 9999, 0), (19, .if_icmp .le 6, 3, 25, 0, 0, 0), (22, .ldc 69, 2, 0, 0, (-1000000002), 0), (24, .ireturn, 1, 0, 0, 0, 0), (25, .aload_n 0, 1, 0, 0, 0, 0), (26, .getfield 40, 3, 9, 4, 0, 0), (29, .getfield 142, 3, 3, 4, 0, 0), (32, .bipush 8, 2, 0, 0, 8, 0), (34, .if_icmp .lt 6, 3, 40, 0, 0, 0), (37, .ldc 80, 2, 0, 0, (-1000000004), 0), (39, .ireturn, 1, 0, 0, 0, 0), (40, .aload_n 0, 1, 0, 0, 0, 0), (41, .getfield 40, 3, 9, 4, 0, 0), (44, .iload_n 1, 1, 1, 0, 0, 0), (45, .iload_n 2, 1, 2, 0, 0, 0), (46, .invokevirtual 305, 3, 0, 0, 0, 0), (49, .ireturn, 1, 0, 0, 0, 0)])
set_option maxRecDepth 20000 in
theorem okX9_got : ab_ok mX9_got := ⟨by decide, by decide +kernel, trivial, trivial, trivial, trivial, trivial, trivial, trivial, trivial, trivial, trivial, trivial, ab_in (i := 364) rfl rfl, trivial, trivial, fl_RX9_40, fl_RX9_142, trivial, trivial, ab_in (i := 369) rfl rfl, trivial, trivial, fl_RX9_40, trivial, trivial, trivial, trivial, trivial⟩
def mX9_used : MI := (yX9_used, cX9_used, 1, (some .int), [(0, .aload_n 0, 1, 0, 0, 0, 0), (1, .getfield 40, 3, 9, 4, 0, 0), (4, .aload_n 0, 1, 0, 0, 0, 0), (5, .getfield 19, 3, 9, 1, 0, 0), (8, .aload_n 0, 1, 0, 0, 0, 0), (9, .getfield 26, 3, 9, 2, 0, 0), (12, .invokevirtual 308, 3, 0, 0, 0, 0), (15, .ireturn, 1, 0, 0, 0, 0)])
set_option maxRecDepth 20000 in
theorem okX9_used : ab_ok mX9_used := ⟨by decide, by decide +kernel, trivial, fl_RX9_40, trivial, fl_RX9_19, trivial, fl_RX9_26, trivial, trivial, trivial⟩
def mX9_bale : MI := (yX9_bale, cX9_bale, 3, (some .int), [(0, .aload_n 0, 1, 0, 0, 0, 0), (1, .getfield 40, 3, 9, 4, 0, 0), (4, .aload_n 0, 1, 0, 0, 0, 0), (5, .getfield 19, 3, 9, 1, 0, 0), (8, .aload_n 0, 1, 0, 0, 0, 0), (9, .getfield 26, 3, 9, 2, 0, 0), (12, .invokevirtual 308, 3, 0, 0, 0, 0), (15, .istore_n 1, 1, 1, 0, 0, 0), (16, .iload_n 1, 1, 1, 0, 0, 0), (17, .invokestatic 271, 3, 0, 0, 0, 0), (20, .iconst 2, 1, 0, 0, 2, 0), (21, .if_icmp .ge 5, 3, 26, 0, 0, 0), (24, .iconst (-1), 1, 0, 0, (-1), 0), (25, .ireturn, 1, 0, 0, 0, 0), (26, .iconst 0, 1, 0, 0, 0, 0), (27, .istore_n 2, 1, 2, 0, 0, 0), (28, .iload_n 2, 1, 2, 0, 0, 0), (29, .iconst 4, 1, 0, 0, 4, 0), (30, .if_icmp .ge 35, 3, 65, 0, 0, 0), (33, .aload_n 0, 1, 0, 0, 0, 0), (34, .getfield 26, 3, 9, 2, 0, 0), (37, .aload_n 0, 1, 0, 0, 0, 0), (38, .getfield 19, 3, 9, 1, 0, 0), (41, .iload_n 1, 1, 1, 0, 0, 0), (42, .aload_n 0, 1, 0, 0, 0, 0), (43, .getfield 26, 3, 9, 2, 0, 0), (46, .invokevirtual 126, 3, 0, 0, 0, 0), (49, .iload_n 2, 1, 2, 0, 0, 0), (50, .iadd, 1, 0, 0, 0, 0), (51, .invokevirtual 312, 3, 0, 0, 0, 0), (54, .ifCond .eq 5, 3, 59, 0, 0, 0), (57, .iload_n 2, 1, 2, 0, 0, 0), (58, .ireturn, 1, 0, 0, 0, 0), (59, .iinc 2 1, 3, 2, 0, 1, 0), (62, .goto (-34), 3, 28, 0, 0, 0), (65, .iconst (-1), 1, 0, 0, (-1), 0), (66, .ireturn, 1, 0, 0, 0, 0)])
set_option maxRecDepth 20000 in
theorem okX9_bale : ab_ok mX9_bale := ⟨by decide, by decide +kernel, trivial, fl_RX9_40, trivial, fl_RX9_19, trivial, fl_RX9_26, trivial, trivial, trivial, ⟨fun z => absurd z (by decide), fun z => absurd z (by decide), fun z => absurd z (by decide), fun z => absurd z (by decide)⟩, trivial, trivial, trivial, trivial, trivial, trivial, trivial, trivial, trivial, trivial, fl_RX9_26, trivial, fl_RX9_19, trivial, trivial, fl_RX9_26, trivial, trivial, trivial, trivial, trivial, trivial, trivial, trivial, trivial, trivial, trivial, trivial⟩
def mX9_write : MI := (yX9_write, cX9_write, 3, (some .int), [(0, .aload_n 0, 1, 0, 0, 0, 0), (1, .getfield 19, 3, 9, 1, 0, 0), (4, .iload_n 1, 1, 1, 0, 0, 0), (5, .invokevirtual 151, 3, 0, 0, 0, 0), (8, .ifCond .ne 6, 3, 14, 0, 0, 0), (11, .ldc 155, 2, 0, 0, (-1000000001), 0), (13, .ireturn, 1, 0, 0, 0, 0), (14, .iload_n 2, 1, 2, 0, 0, 0), (15, .ifCond .lt 10, 3, 25, 0, 0, 0), (18, .iload_n 2, 1, 2, 0, 0, 0), (19, .sipush 999, 3, 0, 0, 999, 0), (22, .if_icmp .le 6, 3, 28, 0, 0, 0), (25, .ldc 69, 2, 0, 0, (-1000000002), 0), (27, .ireturn, 1, 0, 0, 0, 0), (28, .aload_n 0, 1, 0, 0, 0, 0), (29, .getfield 40, 3, 9, 4, 0, 0), (32, .getfield 145, 3, 3, 5, 0, 0), (35, .bipush 15, 2, 0, 0, 15, 0), (37, .if_icmp .lt 6, 3, 43, 0, 0, 0), (40, .ldc 80, 2, 0, 0, (-1000000004), 0), (42, .ireturn, 1, 0, 0, 0, 0), (43, .aload_n 0, 1, 0, 0, 0, 0), (44, .getfield 40, 3, 9, 4, 0, 0), (47, .iload_n 1, 1, 1, 0, 0, 0), (48, .iload_n 2, 1, 2, 0, 0, 0), (49, .invokevirtual 316, 3, 0, 0, 0, 0), (52, .ireturn, 1, 0, 0, 0, 0)])
set_option maxRecDepth 20000 in
theorem okX9_write : ab_ok mX9_write := ⟨by decide, by decide +kernel, trivial, fl_RX9_19, trivial, trivial, trivial, ab_in (i := 531) rfl rfl, trivial, trivial, trivial, trivial, trivial, trivial, ab_in (i := 364) rfl rfl, trivial, trivial, fl_RX9_40, fl_RX9_145, trivial, trivial, ab_in (i := 369) rfl rfl, trivial, trivial, fl_RX9_40, trivial, trivial, trivial, trivial, trivial⟩
def mX9_tear : MI := (yX9_tear, cX9_tear, 2, (some .int), [(0, .aload_n 0, 1, 0, 0, 0, 0), (1, .getfield 40, 3, 9, 4, 0, 0), (4, .getfield 142, 3, 3, 4, 0, 0), (7, .aload_n 0, 1, 0, 0, 0, 0), (8, .getfield 40, 3, 9, 4, 0, 0), (11, .getfield 145, 3, 3, 5, 0, 0), (14, .iadd, 1, 0, 0, 0, 0), (15, .istore_n 1, 1, 1, 0, 0, 0), (16, .aload_n 0, 1, 0, 0, 0, 0), (17, .getfield 40, 3, 9, 4, 0, 0), (20, .invokevirtual 105, 3, 0, 0, 0, 0), (23, .iload_n 1, 1, 1, 0, 0, 0), (24, .ireturn, 1, 0, 0, 0, 0)])
set_option maxRecDepth 20000 in
theorem okX9_tear : ab_ok mX9_tear := ⟨by decide, by decide +kernel, trivial, fl_RX9_40, fl_RX9_142, trivial, fl_RX9_40, fl_RX9_145, trivial, trivial, trivial, fl_RX9_40, trivial, trivial, trivial, trivial⟩
def mX9_judge : MI := (yX9_judge, cX9_judge, 1, (some .int), [(0, .aload_n 0, 1, 0, 0, 0, 0), (1, .getfield 40, 3, 9, 4, 0, 0), (4, .aload_n 0, 1, 0, 0, 0, 0), (5, .getfield 19, 3, 9, 1, 0, 0), (8, .aload_n 0, 1, 0, 0, 0, 0), (9, .getfield 26, 3, 9, 2, 0, 0), (12, .invokevirtual 319, 3, 0, 0, 0, 0), (15, .ireturn, 1, 0, 0, 0, 0)])
set_option maxRecDepth 20000 in
theorem okX9_judge : ab_ok mX9_judge := ⟨by decide, by decide +kernel, trivial, fl_RX9_40, trivial, fl_RX9_19, trivial, fl_RX9_26, trivial, trivial, trivial⟩
def mX9_seed : MI := (yX9_seed, cX9_seed, 3, (some .int), [(0, .iload_n 1, 1, 1, 0, 0, 0), (1, .ifCond .ge 6, 3, 7, 0, 0, 0), (4, .ldc 69, 2, 0, 0, (-1000000002), 0), (6, .ireturn, 1, 0, 0, 0, 0), (7, .aload_n 0, 1, 0, 0, 0, 0), (8, .getfield 26, 3, 9, 2, 0, 0), (11, .invokevirtual 322, 3, 0, 0, 0, 0), (14, .istore_n 2, 1, 2, 0, 0, 0), (15, .aload_n 0, 1, 0, 0, 0, 0), (16, .getfield 26, 3, 9, 2, 0, 0), (19, .iload_n 1, 1, 1, 0, 0, 0), (20, .invokevirtual 325, 3, 0, 0, 0, 0), (23, .iload_n 2, 1, 2, 0, 0, 0), (24, .ireturn, 1, 0, 0, 0, 0)])
set_option maxRecDepth 20000 in
theorem okX9_seed : ab_ok mX9_seed := ⟨by decide, by decide +kernel, trivial, trivial, ab_in (i := 364) rfl rfl, trivial, trivial, fl_RX9_26, trivial, trivial, trivial, fl_RX9_26, trivial, trivial, trivial, trivial, trivial⟩
def mX9_keep : MI := (yX9_keep, cX9_keep, 2, (some .int), [(0, .iload_n 1, 1, 1, 0, 0, 0), (1, .invokestatic 328, 3, 0, 0, 0, 0), (4, .ifCond .ne 6, 3, 10, 0, 0, 0), (7, .ldc 155, 2, 0, 0, (-1000000001), 0), (9, .ireturn, 1, 0, 0, 0, 0), (10, .aload_n 0, 1, 0, 0, 0, 0), (11, .getfield 33, 3, 9, 3, 0, 0), (14, .iload_n 1, 1, 1, 0, 0, 0), (15, .aload_n 0, 1, 0, 0, 0, 0), (16, .getfield 26, 3, 9, 2, 0, 0), (19, .invokevirtual 331, 3, 0, 0, 0, 0), (22, .aload_n 0, 1, 0, 0, 0, 0), (23, .getfield 33, 3, 9, 3, 0, 0), (26, .invokevirtual 108, 3, 0, 0, 0, 0), (29, .iconst 1, 1, 0, 0, 1, 0), (30, .ireturn, 1, 0, 0, 0, 0)])
set_option maxRecDepth 20000 in
theorem okX9_keep : ab_ok mX9_keep := ⟨by decide, by decide +kernel, trivial, ⟨fun z => absurd z (by decide), fun z => absurd z (by decide), fun z => absurd z (by decide), fun z => absurd z (by decide)⟩, trivial, ab_in (i := 531) rfl rfl, trivial, trivial, fl_RX9_33, trivial, trivial, fl_RX9_26, trivial, trivial, fl_RX9_33, trivial, trivial, trivial, trivial⟩
def mX9_goBack : MI := (yX9_goBack, cX9_goBack, 2, (some .int), [(0, .iload_n 1, 1, 1, 0, 0, 0), (1, .invokestatic 328, 3, 0, 0, 0, 0), (4, .ifCond .ne 6, 3, 10, 0, 0, 0), (7, .ldc 155, 2, 0, 0, (-1000000001), 0), (9, .ireturn, 1, 0, 0, 0, 0), (10, .aload_n 0, 1, 0, 0, 0, 0), (11, .getfield 33, 3, 9, 3, 0, 0), (14, .iload_n 1, 1, 1, 0, 0, 0), (15, .invokevirtual 335, 3, 0, 0, 0, 0), (18, .ifCond .ne 6, 3, 24, 0, 0, 0), (21, .ldc 217, 2, 0, 0, (-1000000003), 0), (23, .ireturn, 1, 0, 0, 0, 0), (24, .aload_n 0, 1, 0, 0, 0, 0), (25, .getfield 33, 3, 9, 3, 0, 0), (28, .iload_n 1, 1, 1, 0, 0, 0), (29, .aload_n 0, 1, 0, 0, 0, 0), (30, .getfield 26, 3, 9, 2, 0, 0), (33, .invokevirtual 338, 3, 0, 0, 0, 0), (36, .aload_n 0, 1, 0, 0, 0, 0), (37, .getfield 33, 3, 9, 3, 0, 0), (40, .invokevirtual 108, 3, 0, 0, 0, 0), (43, .iconst 1, 1, 0, 0, 1, 0), (44, .ireturn, 1, 0, 0, 0, 0)])
set_option maxRecDepth 20000 in
theorem okX9_goBack : ab_ok mX9_goBack := ⟨by decide, by decide +kernel, trivial, ⟨fun z => absurd z (by decide), fun z => absurd z (by decide), fun z => absurd z (by decide), fun z => absurd z (by decide)⟩, trivial, ab_in (i := 531) rfl rfl, trivial, trivial, fl_RX9_33, trivial, trivial, trivial, ab_in (i := 593) rfl rfl, trivial, trivial, fl_RX9_33, trivial, trivial, fl_RX9_26, trivial, trivial, fl_RX9_33, trivial, trivial, trivial, trivial⟩
def mX9_isImage : MI := (yX9_isImage, cX9_isImage, 1, (some .boolean), [(0, .iload_n 0, 1, 0, 0, 0, 0), (1, .ifCond .lt 12, 3, 13, 0, 0, 0), (4, .iload_n 0, 1, 0, 0, 0, 0), (5, .iconst 2, 1, 0, 0, 2, 0), (6, .if_icmp .ge 7, 3, 13, 0, 0, 0), (9, .iconst 1, 1, 0, 0, 1, 0), (10, .goto 4, 3, 14, 0, 0, 0), (13, .iconst 0, 1, 0, 0, 0, 0), (14, .ireturn, 1, 0, 0, 0, 0)])
set_option maxRecDepth 20000 in
theorem okX9_isImage : ab_ok mX9_isImage := ⟨by decide, by decide +kernel, trivial, trivial, trivial, trivial, trivial, trivial, trivial, trivial, trivial, trivial⟩
def mX10_init : MI := (yX10_init, cX10_init, 1, none, [(0, .aload_n 0, 1, 0, 0, 0, 0), (1, .invokespecial 1, 3, 1, 0, 0, 0), (4, .aload_n 0, 1, 0, 0, 0, 0), (5, .bipush 24, 2, 0, 0, 24, 0), (7, .newarray .int, 2, 0, 0, 0, 0), (9, .putfield 7, 3, 10, 1, 1, 0), (12, .aload_n 0, 1, 0, 0, 0, 0), (13, .bipush 6, 2, 0, 0, 6, 0), (15, .newarray .int, 2, 0, 0, 0, 0), (17, .putfield 13, 3, 10, 2, 1, 0), (20, .aload_n 0, 1, 0, 0, 0, 0), (21, .bipush 6, 2, 0, 0, 6, 0), (23, .newarray .int, 2, 0, 0, 0, 0), (25, .putfield 16, 3, 10, 4, 1, 0), (28, .aload_n 0, 1, 0, 0, 0, 0), (29, .bipush 6, 2, 0, 0, 6, 0), (31, .newarray .int, 2, 0, 0, 0, 0), (33, .putfield 19, 3, 10, 5, 1, 0), (36, .aload_n 0, 1, 0, 0, 0, 0), (37, .bipush 6, 2, 0, 0, 6, 0), (39, .newarray .int, 2, 0, 0, 0, 0), (41, .putfield 22, 3, 10, 6, 1, 0), (44, .aload_n 0, 1, 0, 0, 0, 0), (45, .bipush 8, 2, 0, 0, 8, 0), (47, .newarray .int, 2, 0, 0, 0, 0), (49, .putfield 25, 3, 10, 8, 1, 0), (52, .aload_n 0, 1, 0, 0, 0, 0), (53, .bipush 8, 2, 0, 0, 8, 0), (55, .newarray .int, 2, 0, 0, 0, 0), (57, .putfield 28, 3, 10, 9, 1, 0), (60, .aload_n 0, 1, 0, 0, 0, 0), (61, .bipush 8, 2, 0, 0, 8, 0), (63, .newarray .int, 2, 0, 0, 0, 0), (65, .putfield 31, 3, 10, 10, 1, 0), (68, .aload_n 0, 1, 0, 0, 0, 0), (69, .bipush 8, 2, 0, 0, 8, 0), (71, .newarray .int, 2, 0, 0, 0, 0), (73, .putfield 34, 3, 10, 11, 1, 0), (76, .aload_n 0, 1, 0, 0, 0, 0), (77, .bipush 22, 2, 0, 0, 22, 0), (79, .newarray .int, 2, 0, 0, 0, 0), (81, .putfield 37, 3, 10, 12, 1, 0), (84, .aload_n 0, 1, 0, 0, 0, 0), (85, .sipush 250, 3, 0, 0, 250, 0), (88, .newarray .int, 2, 0, 0, 0, 0), (90, .putfield 40, 3, 10, 14, 1, 0), (93, .aload_n 0, 1, 0, 0, 0, 0), (94, .iconst (-1), 1, 0, 0, (-1), 0), (95, .putfield 43, 3, 10, 16, 0, 0), (98, .aload_n 0, 1, 0, 0, 0, 0), (99, .bipush 6, 2, 0, 0, 6, 0), (101, .newarray .int, 2, 0, 0, 0, 0), (103, .putfield 47, 3, 10, 21, 1, 0), (106, .aload_n 0, 1, 0, 0, 0, 0), (107, .bipush 24, 2, 0, 0, 24, 0), (109, .newarray .int, 2, 0, 0, 0, 0), (111, .putfield 50, 3, 10, 22, 1, 0), (114, .aload_n 0, 1, 0, 0, 0, 0), (115, .bipush 6, 2, 0, 0, 6, 0), (117, .newarray .int, 2, 0, 0, 0, 0), (119, .putfield 53, 3, 10, 23, 1, 0), (122, .aload_n 0, 1, 0, 0, 0, 0), (123, .bipush 6, 2, 0, 0, 6, 0), (125, .newarray .int, 2, 0, 0, 0, 0), (127, .putfield 56, 3, 10, 25, 1, 0), (130, .aload_n 0, 1, 0, 0, 0, 0), (131, .bipush 6, 2, 0, 0, 6, 0), (133, .newarray .int, 2, 0, 0, 0, 0), (135, .putfield 59, 3, 10, 26, 1, 0), (138, .aload_n 0, 1, 0, 0, 0, 0), (139, .bipush 6, 2, 0, 0, 6, 0), (141, .newarray .int, 2, 0, 0, 0, 0), (143, .putfield 62, 3, 10, 27, 1, 0), (146, .aload_n 0, 1, 0, 0, 0, 0), (147, .bipush 8, 2, 0, 0, 8, 0), (149, .newarray .int, 2, 0, 0, 0, 0), (151, .putfield 65, 3, 10, 29, 1, 0), (154, .aload_n 0, 1, 0, 0, 0, 0), (155, .bipush 8, 2, 0, 0, 8, 0), (157, .newarray .int, 2, 0, 0, 0, 0), (159, .putfield 68, 3, 10, 30, 1, 0), (162, .aload_n 0, 1, 0, 0, 0, 0), (163, .bipush 8, 2, 0, 0, 8, 0), (165, .newarray .int, 2, 0, 0, 0, 0), (167, .putfield 71, 3, 10, 31, 1, 0), (170, .aload_n 0, 1, 0, 0, 0, 0), (171, .bipush 8, 2, 0, 0, 8, 0), (173, .newarray .int, 2, 0, 0, 0, 0), (175, .putfield 74, 3, 10, 32, 1, 0), (178, .aload_n 0, 1, 0, 0, 0, 0), (179, .sipush 440, 3, 0, 0, 440, 0), (182, .newarray .int, 2, 0, 0, 0, 0), (184, .putfield 77, 3, 10, 34, 1, 0), (187, .aload_n 0, 1, 0, 0, 0, 0), (188, .bipush 8, 2, 0, 0, 8, 0), (190, .newarray .int, 2, 0, 0, 0, 0), (192, .putfield 80, 3, 10, 38, 1, 0), (195, .aload_n 0, 1, 0, 0, 0, 0), (196, .bipush 8, 2, 0, 0, 8, 0), (198, .newarray .int, 2, 0, 0, 0, 0), (200, .putfield 83, 3, 10, 39, 1, 0), (203, .aload_n 0, 1, 0, 0, 0, 0), (204, .bipush 15, 2, 0, 0, 15, 0), (206, .newarray .int, 2, 0, 0, 0, 0), (208, .putfield 86, 3, 10, 41, 1, 0), (211, .aload_n 0, 1, 0, 0, 0, 0), (212, .bipush 15, 2, 0, 0, 15, 0), (214, .newarray .int, 2, 0, 0, 0, 0), (216, .putfield 89, 3, 10, 42, 1, 0), (219, .aload_n 0, 1, 0, 0, 0, 0), (220, .bipush 46, 2, 0, 0, 46, 0), (222, .newarray .int, 2, 0, 0, 0, 0), (224, .putfield 92, 3, 10, 43, 1, 0), (227, .aload_n 0, 1, 0, 0, 0, 0), (228, .iconst 2, 1, 0, 0, 2, 0), (229, .newarray .boolean, 2, 0, 0, 0, 0), (231, .putfield 95, 3, 10, 44, 1, 0), (234, .aload_n 0, 1, 0, 0, 0, 0), (235, .iconst 0, 1, 0, 0, 0, 0), (236, .putfield 99, 3, 10, 0, 0, 0), (239, .return_, 1, 0, 0, 0, 0)])
set_option maxRecDepth 20000 in
theorem okX10_init : ab_ok mX10_init := ⟨by decide, by decide +kernel, trivial, fun _ => ab_in (i := 887) rfl rfl, trivial, trivial, trivial, gl_RX10_7, trivial, trivial, trivial, gl_RX10_13, trivial, trivial, trivial, gl_RX10_16, trivial, trivial, trivial, gl_RX10_19, trivial, trivial, trivial, gl_RX10_22, trivial, trivial, trivial, gl_RX10_25, trivial, trivial, trivial, gl_RX10_28, trivial, trivial, trivial, gl_RX10_31, trivial, trivial, trivial, gl_RX10_34, trivial, trivial, trivial, gl_RX10_37, trivial, trivial, trivial, gl_RX10_40, trivial, trivial, (gl_RX10_43 _), trivial, trivial, trivial, gl_RX10_47, trivial, trivial, trivial, gl_RX10_50, trivial, trivial, trivial, gl_RX10_53, trivial, trivial, trivial, gl_RX10_56, trivial, trivial, trivial, gl_RX10_59, trivial, trivial, trivial, gl_RX10_62, trivial, trivial, trivial, gl_RX10_65, trivial, trivial, trivial, gl_RX10_68, trivial, trivial, trivial, gl_RX10_71, trivial, trivial, trivial, gl_RX10_74, trivial, trivial, trivial, gl_RX10_77, trivial, trivial, trivial, gl_RX10_80, trivial, trivial, trivial, gl_RX10_83, trivial, trivial, trivial, gl_RX10_86, trivial, trivial, trivial, gl_RX10_89, trivial, trivial, trivial, gl_RX10_92, trivial, trivial, trivial, gl_RX10_95, trivial, trivial, (gl_RX10_99 _), trivial, trivial⟩
def mX10_in : MI := (yX10_in, cX10_in, 6, (some .boolean), [(0, .lload_n 0, 1, 0, 0, 0, 0), (1, .lload_n 2, 1, 2, 0, 0, 0), (2, .lcmp, 1, 0, 0, 0, 0), (3, .ifCond .lt 14, 3, 17, 0, 0, 0), (6, .lload_n 0, 1, 0, 0, 0, 0), (7, .lload 4, 2, 4, 0, 0, 0), (9, .lcmp, 1, 0, 0, 0, 0), (10, .ifCond .gt 7, 3, 17, 0, 0, 0), (13, .iconst 1, 1, 0, 0, 1, 0), (14, .goto 4, 3, 18, 0, 0, 0), (17, .iconst 0, 1, 0, 0, 0, 0), (18, .ireturn, 1, 0, 0, 0, 0)])
set_option maxRecDepth 20000 in
theorem okX10_in : ab_ok mX10_in := ⟨by decide, by decide +kernel, trivial, trivial, trivial, trivial, trivial, trivial, trivial, trivial, trivial, trivial, trivial, trivial, trivial⟩
def mX10_has : MI := (yX10_has, cX10_has, 2, (some .boolean), [(0, .iload_n 0, 1, 0, 0, 0, 0), (1, .iload_n 1, 1, 1, 0, 0, 0), (2, .ishr, 1, 0, 0, 0, 0), (3, .iconst 1, 1, 0, 0, 1, 0), (4, .iand, 1, 0, 0, 0, 0), (5, .iconst 1, 1, 0, 0, 1, 0), (6, .if_icmp .ne 7, 3, 13, 0, 0, 0), (9, .iconst 1, 1, 0, 0, 1, 0), (10, .goto 4, 3, 14, 0, 0, 0), (13, .iconst 0, 1, 0, 0, 0, 0), (14, .ireturn, 1, 0, 0, 0, 0)])
set_option maxRecDepth 20000 in
theorem okX10_has : ab_ok mX10_has := ⟨by decide, by decide +kernel, trivial, trivial, trivial, trivial, trivial, trivial, trivial, trivial, trivial, trivial, trivial, trivial⟩
def mX10_bits : MI := (yX10_bits, cX10_bits, 3, (some .int), [(0, .iconst 0, 1, 0, 0, 0, 0), (1, .istore_n 1, 1, 1, 0, 0, 0), (2, .iconst 0, 1, 0, 0, 0, 0), (3, .istore_n 2, 1, 2, 0, 0, 0), (4, .iload_n 2, 1, 2, 0, 0, 0), (5, .bipush 6, 2, 0, 0, 6, 0), (7, .if_icmp .ge 17, 3, 24, 0, 0, 0), (10, .iload_n 1, 1, 1, 0, 0, 0), (11, .iload_n 0, 1, 0, 0, 0, 0), (12, .iload_n 2, 1, 2, 0, 0, 0), (13, .ishr, 1, 0, 0, 0, 0), (14, .iconst 1, 1, 0, 0, 1, 0), (15, .iand, 1, 0, 0, 0, 0), (16, .iadd, 1, 0, 0, 0, 0), (17, .istore_n 1, 1, 1, 0, 0, 0), (18, .iinc 2 1, 3, 2, 0, 1, 0), (21, .goto (-17), 3, 4, 0, 0, 0), (24, .iload_n 1, 1, 1, 0, 0, 0), (25, .ireturn, 1, 0, 0, 0, 0)])
set_option maxRecDepth 20000 in
theorem okX10_bits : ab_ok mX10_bits := ⟨by decide, by decide +kernel, trivial, trivial, trivial, trivial, trivial, trivial, trivial, trivial, trivial, trivial, trivial, trivial, trivial, trivial, trivial, trivial, trivial, trivial, trivial, trivial⟩
def mX10_apart : MI := (yX10_apart, cX10_apart, 2, (some .int), [(0, .iload_n 0, 1, 0, 0, 0, 0), (1, .iload_n 1, 1, 1, 0, 0, 0), (2, .if_icmp .le 9, 3, 11, 0, 0, 0), (5, .iload_n 0, 1, 0, 0, 0, 0), (6, .iload_n 1, 1, 1, 0, 0, 0), (7, .isub, 1, 0, 0, 0, 0), (8, .goto 6, 3, 14, 0, 0, 0), (11, .iload_n 1, 1, 1, 0, 0, 0), (12, .iload_n 0, 1, 0, 0, 0, 0), (13, .isub, 1, 0, 0, 0, 0), (14, .ireturn, 1, 0, 0, 0, 0)])
set_option maxRecDepth 20000 in
theorem okX10_apart : ab_ok mX10_apart := ⟨by decide, by decide +kernel, trivial, trivial, trivial, trivial, trivial, trivial, trivial, trivial, trivial, trivial, trivial, trivial⟩
def mX10_isLimb : MI := (yX10_isLimb, cX10_isLimb, 2, (some .boolean), [(0, .iload_n 1, 1, 1, 0, 0, 0), (1, .i2l, 1, 0, 0, 0, 0), (2, .lconst 0, 1, 0, 0, 0, 0), (3, .aload_n 0, 1, 0, 0, 0, 0), (4, .getfield 99, 3, 10, 0, 0, 0), (7, .iconst 1, 1, 0, 0, 1, 0), (8, .isub, 1, 0, 0, 0, 0), (9, .i2l, 1, 0, 0, 0, 0), (10, .invokestatic 102, 3, 0, 0, 0, 0), (13, .ireturn, 1, 0, 0, 0, 0)])
set_option maxRecDepth 20000 in
theorem okX10_isLimb : ab_ok mX10_isLimb := ⟨by decide, by decide +kernel, trivial, trivial, trivial, trivial, fl_RX10_99, trivial, trivial, trivial, ⟨fun z => absurd z (by decide), fun z => absurd z (by decide), fun z => absurd z (by decide), fun z => absurd z (by decide)⟩, trivial, trivial⟩
def mX10_lives : MI := (yX10_lives, cX10_lives, 2, (some .boolean), [(0, .aload_n 0, 1, 0, 0, 0, 0), (1, .getfield 37, 3, 10, 12, 0, 0), (4, .bipush 18, 2, 0, 0, 18, 0), (6, .iaload, 1, 0, 0, 0, 0), (7, .iload_n 1, 1, 1, 0, 0, 0), (8, .invokestatic 106, 3, 0, 0, 0, 0), (11, .ireturn, 1, 0, 0, 0, 0)])
set_option maxRecDepth 20000 in
theorem okX10_lives : ab_ok mX10_lives := ⟨by decide, by decide +kernel, trivial, fl_RX10_37, trivial, trivial, trivial, ⟨fun z => absurd z (by decide), fun z => absurd z (by decide), fun z => absurd z (by decide), fun z => absurd z (by decide)⟩, trivial, trivial⟩
def mX10_feed : MI := (yX10_feed, cX10_feed, 2, (some .int), [(0, .iload_n 1, 1, 1, 0, 0, 0), (1, .i2l, 1, 0, 0, 0, 0), (2, .lconst 0, 1, 0, 0, 0, 0), (3, .ldc2_w 110, 3, 0, 0, 0, 255), (6, .invokestatic 102, 3, 0, 0, 0, 0), (9, .ifCond .ne 6, 3, 15, 0, 0, 0), (12, .ldc 112, 2, 0, 0, (-1000000002), 0), (14, .ireturn, 1, 0, 0, 0, 0), (15, .aload_n 0, 1, 0, 0, 0, 0), (16, .getfield 113, 3, 10, 15, 0, 0), (19, .sipush 250, 3, 0, 0, 250, 0), (22, .if_icmp .ne 6, 3, 28, 0, 0, 0), (25, .ldc 116, 2, 0, 0, (-1000000004), 0), (27, .ireturn, 1, 0, 0, 0, 0), (28, .aload_n 0, 1, 0, 0, 0, 0), (29, .getfield 40, 3, 10, 14, 0, 0), (32, .aload_n 0, 1, 0, 0, 0, 0), (33, .getfield 113, 3, 10, 15, 0, 0), (36, .iload_n 1, 1, 1, 0, 0, 0), (37, .iastore, 1, 0, 0, 0, 0), (38, .aload_n 0, 1, 0, 0, 0, 0), (39, .dup, 1, 0, 0, 0, 0), (40, .getfield 113, 3, 10, 15, 0, 0), (43, .iconst 1, 1, 0, 0, 1, 0), (44, .iadd, 1, 0, 0, 0, 0), (45, .putfield 113, 3, 10, 15, 0, 0), (48, .aload_n 0, 1, 0, 0, 0, 0), (49, .getfield 113, 3, 10, 15, 0, 0), (52, .ireturn, 1, 0, 0, 0, 0)])
set_option maxRecDepth 20000 in
theorem okX10_feed : ab_ok mX10_feed := ⟨by decide, by decide +kernel, trivial, trivial, trivial, ab_in (i := 1029) rfl rfl, ⟨fun z => absurd z (by decide), fun z => absurd z (by decide), fun z => absurd z (by decide), fun z => absurd z (by decide)⟩, trivial, ab_in (i := 1033) rfl rfl, trivial, trivial, fl_RX10_113, trivial, trivial, ab_in (i := 1034) rfl rfl, trivial, trivial, fl_RX10_40, trivial, fl_RX10_113, trivial, trivial, trivial, trivial, fl_RX10_113, trivial, trivial, (gl_RX10_113 _), trivial, fl_RX10_113, trivial, trivial⟩
def mX10_here : MI := (yX10_here, cX10_here, 1, (some .int), [(0, .aload_n 0, 1, 0, 0, 0, 0), (1, .getfield 117, 3, 10, 17, 0, 0), (4, .aload_n 0, 1, 0, 0, 0, 0), (5, .getfield 113, 3, 10, 15, 0, 0), (8, .if_icmp .ge 30, 3, 38, 0, 0, 0), (11, .aload_n 0, 1, 0, 0, 0, 0), (12, .getfield 40, 3, 10, 14, 0, 0), (15, .aload_n 0, 1, 0, 0, 0, 0), (16, .getfield 117, 3, 10, 17, 0, 0), (19, .iaload, 1, 0, 0, 0, 0), (20, .bipush 32, 2, 0, 0, 32, 0), (22, .if_icmp .ne 16, 3, 38, 0, 0, 0), (25, .aload_n 0, 1, 0, 0, 0, 0), (26, .dup, 1, 0, 0, 0, 0), (27, .getfield 117, 3, 10, 17, 0, 0), (30, .iconst 1, 1, 0, 0, 1, 0), (31, .iadd, 1, 0, 0, 0, 0), (32, .putfield 117, 3, 10, 17, 0, 0), (35, .goto (-35), 3, 0, 0, 0, 0), (38, .aload_n 0, 1, 0, 0, 0, 0), (39, .getfield 117, 3, 10, 17, 0, 0), (42, .aload_n 0, 1, 0, 0, 0, 0), (43, .getfield 113, 3, 10, 15, 0, 0), (46, .if_icmp .ge 15, 3, 61, 0, 0, 0), (49, .aload_n 0, 1, 0, 0, 0, 0), (50, .getfield 40, 3, 10, 14, 0, 0), (53, .aload_n 0, 1, 0, 0, 0, 0), (54, .getfield 117, 3, 10, 17, 0, 0), (57, .iaload, 1, 0, 0, 0, 0), (58, .goto 4, 3, 62, 0, 0, 0), (61, .iconst (-1), 1, 0, 0, (-1), 0), (62, .ireturn, 1, 0, 0, 0, 0)])
set_option maxRecDepth 20000 in
theorem okX10_here : ab_ok mX10_here := ⟨by decide, by decide +kernel, trivial, fl_RX10_117, trivial, fl_RX10_113, trivial, trivial, fl_RX10_40, trivial, fl_RX10_117, trivial, trivial, trivial, trivial, trivial, fl_RX10_117, trivial, trivial, (gl_RX10_117 _), trivial, trivial, fl_RX10_117, trivial, fl_RX10_113, trivial, trivial, fl_RX10_40, trivial, fl_RX10_117, trivial, trivial, trivial, trivial, trivial⟩
def mX10_fails : MI := (yX10_fails, cX10_fails, 3, (some .int), [(0, .aload_n 0, 1, 0, 0, 0, 0), (1, .iload_n 2, 1, 2, 0, 0, 0), (2, .putfield 43, 3, 10, 16, 0, 0), (5, .iload_n 1, 1, 1, 0, 0, 0), (6, .ireturn, 1, 0, 0, 0, 0)])
set_option maxRecDepth 20000 in
theorem okX10_fails : ab_ok mX10_fails := ⟨by decide, by decide +kernel, trivial, trivial, (gl_RX10_43 _), trivial, trivial, trivial⟩
def mX10_takeNumber : MI := (yX10_takeNumber, cX10_takeNumber, 4, (some .int), [(0, .aload_n 0, 1, 0, 0, 0, 0), (1, .invokevirtual 120, 3, 0, 0, 0, 0), (4, .istore_n 3, 1, 3, 0, 0, 0), (5, .iload_n 3, 1, 3, 0, 0, 0), (6, .i2l, 1, 0, 0, 0, 0), (7, .ldc2_w 124, 3, 0, 0, 0, 48), (10, .ldc2_w 126, 3, 0, 0, 0, 57), (13, .invokestatic 102, 3, 0, 0, 0, 0), (16, .ifCond .ne 13, 3, 29, 0, 0, 0), (19, .aload_n 0, 1, 0, 0, 0, 0), (20, .iconst 1, 1, 0, 0, 1, 0), (21, .aload_n 0, 1, 0, 0, 0, 0), (22, .getfield 117, 3, 10, 17, 0, 0), (25, .invokevirtual 128, 3, 0, 0, 0, 0), (28, .ireturn, 1, 0, 0, 0, 0), (29, .aload_n 0, 1, 0, 0, 0, 0), (30, .aload_n 0, 1, 0, 0, 0, 0), (31, .getfield 117, 3, 10, 17, 0, 0), (34, .putfield 132, 3, 10, 19, 0, 0), (37, .aload_n 0, 1, 0, 0, 0, 0), (38, .iconst 0, 1, 0, 0, 0, 0), (39, .putfield 135, 3, 10, 18, 0, 0), (42, .aload_n 0, 1, 0, 0, 0, 0), (43, .getfield 117, 3, 10, 17, 0, 0), (46, .aload_n 0, 1, 0, 0, 0, 0), (47, .getfield 113, 3, 10, 15, 0, 0), (50, .if_icmp .ge 79, 3, 129, 0, 0, 0), (53, .aload_n 0, 1, 0, 0, 0, 0), (54, .getfield 40, 3, 10, 14, 0, 0), (57, .aload_n 0, 1, 0, 0, 0, 0), (58, .getfield 117, 3, 10, 17, 0, 0), (61, .iaload, 1, 0, 0, 0, 0), (62, .i2l, 1, 0, 0, 0, 0), (63, .ldc2_w 124, 3, 0, 0, 0, 48), (66, .ldc2_w 126, 3, 0, 0, 0, 57), (69, .invokestatic 102, 3, 0, 0, 0, 0), (72, .ifCond .eq 57, 3, 129, 0, 0, 0), (75, .aload_n 0, 1, 0, 0, 0, 0), (76, .aload_n 0, 1, 0, 0, 0, 0), (77, .getfield 135, 3, 10, 18, 0, 0), (80, .sipush 10000, 3, 0, 0, 10000, 0), (83, .if_icmp .le 10, 3, 93, 0, 0, 0), (86, .aload_n 0, 1, 0, 0, 0, 0), (87, .getfield 135, 3, 10, 18, 0, 0), (90, .goto 23, 3, 113, 0, 0, 0), (93, .bipush 10, 2, 0, 0, 10, 0), (95, .aload_n 0, 1, 0, 0, 0, 0), (96, .getfield 135, 3, 10, 18, 0, 0), (99, .imul, 1, 0, 0, 0, 0), (100, .aload_n 0, 1, 0, 0, 0, 0), (101, .getfield 40, 3, 10, 14, 0, 0), (104, .aload_n 0, 1, 0, 0, 0, 0), (105, .getfield 117, 3, 10, 17, 0, 0), (108, .iaload, 1, 0, 0, 0, 0), (109, .iadd, 1, 0, 0, 0, 0), (110, .bipush 48, 2, 0, 0, 48, 0), (112, .isub, 1, 0, 0, 0, 0), (113, .putfield 135, 3, 10, 18, 0, 0), (116, .aload_n 0, 1, 0, 0, 0, 0), (117, .dup, 1, 0, 0, 0, 0), (118, .getfield 117, 3, 10, 17, 0, 0), (121, .iconst 1, 1, 0, 0, 1, 0), (122, .iadd, 1, 0, 0, 0, 0), (123, .putfield 117, 3, 10, 17, 0, 0), (126, .goto (-84), 3, 42, 0, 0, 0), (129, .aload_n 0, 1, 0, 0, 0, 0), (130, .getfield 117, 3, 10, 17, 0, 0), (133, .aload_n 0, 1, 0, 0, 0, 0), (134, .getfield 132, 3, 10, 19, 0, 0), (137, .isub, 1, 0, 0, 0, 0), (138, .iconst 3, 1, 0, 0, 3, 0), (139, .if_icmp .gt 18, 3, 157, 0, 0, 0), (142, .aload_n 0, 1, 0, 0, 0, 0), (143, .getfield 135, 3, 10, 18, 0, 0), (146, .i2l, 1, 0, 0, 0, 0), (147, .iload_n 1, 1, 1, 0, 0, 0), (148, .i2l, 1, 0, 0, 0, 0), (149, .iload_n 2, 1, 2, 0, 0, 0), (150, .i2l, 1, 0, 0, 0, 0), (151, .invokestatic 102, 3, 0, 0, 0, 0), (154, .ifCond .ne 15, 3, 169, 0, 0, 0), (157, .aload_n 0, 1, 0, 0, 0, 0), (158, .iconst 2, 1, 0, 0, 2, 0), (159, .aload_n 0, 1, 0, 0, 0, 0), (160, .getfield 132, 3, 10, 19, 0, 0), (163, .invokevirtual 128, 3, 0, 0, 0, 0), (166, .goto 4, 3, 170, 0, 0, 0), (169, .iconst 0, 1, 0, 0, 0, 0), (170, .ireturn, 1, 0, 0, 0, 0)])
set_option maxRecDepth 20000 in
theorem okX10_takeNumber : ab_ok mX10_takeNumber := ⟨by decide, by decide +kernel, trivial, trivial, trivial, trivial, trivial, ab_in (i := 1063) rfl rfl, ab_in (i := 1064) rfl rfl, ⟨fun z => absurd z (by decide), fun z => absurd z (by decide), fun z => absurd z (by decide), fun z => absurd z (by decide)⟩, trivial, trivial, trivial, trivial, fl_RX10_117, trivial, trivial, trivial, trivial, fl_RX10_117, (gl_RX10_132 _), trivial, trivial, (gl_RX10_135 _), trivial, fl_RX10_117, trivial, fl_RX10_113, trivial, trivial, fl_RX10_40, trivial, fl_RX10_117, trivial, trivial, ab_in (i := 1063) rfl rfl, ab_in (i := 1064) rfl rfl, ⟨fun z => absurd z (by decide), fun z => absurd z (by decide), fun z => absurd z (by decide), fun z => absurd z (by decide)⟩, trivial, trivial, trivial, fl_RX10_135, trivial, trivial, trivial, fl_RX10_135, trivial, trivial, trivial, fl_RX10_135, trivial, trivial, fl_RX10_40, trivial, fl_RX10_117, trivial, trivial, trivial, trivial, (gl_RX10_135 _), trivial, trivial, fl_RX10_117, trivial, trivial, (gl_RX10_117 _), trivial, trivial, fl_RX10_117, trivial, fl_RX10_132, trivial, trivial, trivial, trivial, fl_RX10_135, trivial, trivial, trivial, trivial, trivial, ⟨fun z => absurd z (by decide), fun z => absurd z (by decide), fun z => absurd z (by decide), fun z => absurd z (by decide)⟩, trivial, trivial, trivial, trivial, fl_RX10_132, trivial, trivial, trivial, trivial, trivial⟩
def mX10_into : MI := (yX10_into, cX10_into, 6, (some .int), [(0, .aload_n 0, 1, 0, 0, 0, 0), (1, .iload_n 3, 1, 3, 0, 0, 0), (2, .iload 4, 2, 4, 0, 0, 0), (4, .invokevirtual 138, 3, 0, 0, 0, 0), (7, .istore 5, 2, 5, 0, 0, 0), (9, .aload_n 1, 1, 1, 0, 0, 0), (10, .iload_n 2, 1, 2, 0, 0, 0), (11, .aload_n 0, 1, 0, 0, 0, 0), (12, .getfield 135, 3, 10, 18, 0, 0), (15, .iastore, 1, 0, 0, 0, 0), (16, .iload 5, 2, 5, 0, 0, 0), (18, .ireturn, 1, 0, 0, 0, 0)])
set_option maxRecDepth 20000 in
theorem okX10_into : ab_ok mX10_into := ⟨by decide, by decide +kernel, trivial, trivial, trivial, trivial, trivial, trivial, trivial, trivial, fl_RX10_135, trivial, trivial, trivial, trivial⟩
def mX10_takeLimb : MI := (yX10_takeLimb, cX10_takeLimb, 4, (some .int), [(0, .aload_n 0, 1, 0, 0, 0, 0), (1, .getfield 141, 3, 10, 20, 0, 0), (4, .istore_n 1, 1, 1, 0, 0, 0), (5, .aload_n 0, 1, 0, 0, 0, 0), (6, .dup, 1, 0, 0, 0, 0), (7, .getfield 141, 3, 10, 20, 0, 0), (10, .iconst 1, 1, 0, 0, 1, 0), (11, .iadd, 1, 0, 0, 0, 0), (12, .putfield 141, 3, 10, 20, 0, 0), (15, .aload_n 0, 1, 0, 0, 0, 0), (16, .getfield 53, 3, 10, 23, 0, 0), (19, .iload_n 1, 1, 1, 0, 0, 0), (20, .iconst (-1), 1, 0, 0, (-1), 0), (21, .iastore, 1, 0, 0, 0, 0), (22, .aload_n 0, 1, 0, 0, 0, 0), (23, .aload_n 0, 1, 0, 0, 0, 0), (24, .getfield 47, 3, 10, 21, 0, 0), (27, .iload_n 1, 1, 1, 0, 0, 0), (28, .bipush 20, 2, 0, 0, 20, 0), (30, .bipush 99, 2, 0, 0, 99, 0), (32, .invokevirtual 144, 3, 0, 0, 0, 0), (35, .istore_n 2, 1, 2, 0, 0, 0), (36, .iconst 0, 1, 0, 0, 0, 0), (37, .istore_n 3, 1, 3, 0, 0, 0), (38, .iload_n 3, 1, 3, 0, 0, 0), (39, .iconst 4, 1, 0, 0, 4, 0), (40, .if_icmp .ge 30, 3, 70, 0, 0, 0), (43, .iload_n 2, 1, 2, 0, 0, 0), (44, .ifCond .ne 26, 3, 70, 0, 0, 0), (47, .aload_n 0, 1, 0, 0, 0, 0), (48, .aload_n 0, 1, 0, 0, 0, 0), (49, .getfield 50, 3, 10, 22, 0, 0), (52, .iconst 4, 1, 0, 0, 4, 0), (53, .iload_n 1, 1, 1, 0, 0, 0), (54, .imul, 1, 0, 0, 0, 0), (55, .iload_n 3, 1, 3, 0, 0, 0), (56, .iadd, 1, 0, 0, 0, 0), (57, .iconst 0, 1, 0, 0, 0, 0), (58, .bipush 18, 2, 0, 0, 18, 0), (60, .invokevirtual 144, 3, 0, 0, 0, 0), (63, .istore_n 2, 1, 2, 0, 0, 0), (64, .iinc 3 1, 3, 3, 0, 1, 0), (67, .goto (-29), 3, 38, 0, 0, 0), (70, .iload_n 2, 1, 2, 0, 0, 0), (71, .ireturn, 1, 0, 0, 0, 0)])
set_option maxRecDepth 20000 in
theorem okX10_takeLimb : ab_ok mX10_takeLimb := ⟨by decide, by decide +kernel, trivial, fl_RX10_141, trivial, trivial, trivial, fl_RX10_141, trivial, trivial, (gl_RX10_141 _), trivial, fl_RX10_53, trivial, trivial, trivial, trivial, trivial, fl_RX10_47, trivial, trivial, trivial, trivial, trivial, trivial, trivial, trivial, trivial, trivial, trivial, trivial, trivial, trivial, fl_RX10_50, trivial, trivial, trivial, trivial, trivial, trivial, trivial, trivial, trivial, trivial, trivial, trivial, trivial, trivial⟩
def mX10_takeContract : MI := (yX10_takeContract, cX10_takeContract, 3, (some .int), [(0, .aload_n 0, 1, 0, 0, 0, 0), (1, .getfield 148, 3, 10, 24, 0, 0), (4, .istore_n 1, 1, 1, 0, 0, 0), (5, .aload_n 0, 1, 0, 0, 0, 0), (6, .dup, 1, 0, 0, 0, 0), (7, .getfield 148, 3, 10, 24, 0, 0), (10, .iconst 1, 1, 0, 0, 1, 0), (11, .iadd, 1, 0, 0, 0, 0), (12, .putfield 148, 3, 10, 24, 0, 0), (15, .aload_n 0, 1, 0, 0, 0, 0), (16, .aload_n 0, 1, 0, 0, 0, 0), (17, .getfield 56, 3, 10, 25, 0, 0), (20, .iload_n 1, 1, 1, 0, 0, 0), (21, .iconst 0, 1, 0, 0, 0, 0), (22, .bipush 99, 2, 0, 0, 99, 0), (24, .invokevirtual 144, 3, 0, 0, 0, 0), (27, .istore_n 2, 1, 2, 0, 0, 0), (28, .iload_n 2, 1, 2, 0, 0, 0), (29, .ifCond .le 7, 3, 36, 0, 0, 0), (32, .iload_n 2, 1, 2, 0, 0, 0), (33, .goto 19, 3, 52, 0, 0, 0), (36, .aload_n 0, 1, 0, 0, 0, 0), (37, .aload_n 0, 1, 0, 0, 0, 0), (38, .getfield 59, 3, 10, 26, 0, 0), (41, .iload_n 1, 1, 1, 0, 0, 0), (42, .iconst 0, 1, 0, 0, 0, 0), (43, .aload_n 0, 1, 0, 0, 0, 0), (44, .getfield 141, 3, 10, 20, 0, 0), (47, .iconst 1, 1, 0, 0, 1, 0), (48, .isub, 1, 0, 0, 0, 0), (49, .invokevirtual 144, 3, 0, 0, 0, 0), (52, .istore_n 2, 1, 2, 0, 0, 0), (53, .iload_n 2, 1, 2, 0, 0, 0), (54, .ifCond .le 7, 3, 61, 0, 0, 0), (57, .iload_n 2, 1, 2, 0, 0, 0), (58, .goto 15, 3, 73, 0, 0, 0), (61, .aload_n 0, 1, 0, 0, 0, 0), (62, .aload_n 0, 1, 0, 0, 0, 0), (63, .getfield 62, 3, 10, 27, 0, 0), (66, .iload_n 1, 1, 1, 0, 0, 0), (67, .iconst 1, 1, 0, 0, 1, 0), (68, .bipush 50, 2, 0, 0, 50, 0), (70, .invokevirtual 144, 3, 0, 0, 0, 0), (73, .ireturn, 1, 0, 0, 0, 0)])
set_option maxRecDepth 20000 in
theorem okX10_takeContract : ab_ok mX10_takeContract := ⟨by decide, by decide +kernel, trivial, fl_RX10_148, trivial, trivial, trivial, fl_RX10_148, trivial, trivial, (gl_RX10_148 _), trivial, trivial, fl_RX10_56, trivial, trivial, trivial, trivial, trivial, trivial, trivial, trivial, trivial, trivial, trivial, fl_RX10_59, trivial, trivial, trivial, fl_RX10_141, trivial, trivial, trivial, trivial, trivial, trivial, trivial, trivial, trivial, trivial, fl_RX10_62, trivial, trivial, trivial, trivial, trivial, trivial⟩
def mX10_takeRate : MI := (yX10_takeRate, cX10_takeRate, 3, (some .int), [(0, .aload_n 0, 1, 0, 0, 0, 0), (1, .getfield 151, 3, 10, 28, 0, 0), (4, .istore_n 1, 1, 1, 0, 0, 0), (5, .aload_n 0, 1, 0, 0, 0, 0), (6, .dup, 1, 0, 0, 0, 0), (7, .getfield 151, 3, 10, 28, 0, 0), (10, .iconst 1, 1, 0, 0, 1, 0), (11, .iadd, 1, 0, 0, 0, 0), (12, .putfield 151, 3, 10, 28, 0, 0), (15, .aload_n 0, 1, 0, 0, 0, 0), (16, .aload_n 0, 1, 0, 0, 0, 0), (17, .getfield 65, 3, 10, 29, 0, 0), (20, .iload_n 1, 1, 1, 0, 0, 0), (21, .iconst 0, 1, 0, 0, 0, 0), (22, .aload_n 0, 1, 0, 0, 0, 0), (23, .getfield 141, 3, 10, 20, 0, 0), (26, .iconst 1, 1, 0, 0, 1, 0), (27, .isub, 1, 0, 0, 0, 0), (28, .invokevirtual 144, 3, 0, 0, 0, 0), (31, .istore_n 2, 1, 2, 0, 0, 0), (32, .iload_n 2, 1, 2, 0, 0, 0), (33, .ifCond .le 7, 3, 40, 0, 0, 0), (36, .iload_n 2, 1, 2, 0, 0, 0), (37, .goto 19, 3, 56, 0, 0, 0), (40, .aload_n 0, 1, 0, 0, 0, 0), (41, .aload_n 0, 1, 0, 0, 0, 0), (42, .getfield 68, 3, 10, 30, 0, 0), (45, .iload_n 1, 1, 1, 0, 0, 0), (46, .iconst 0, 1, 0, 0, 0, 0), (47, .aload_n 0, 1, 0, 0, 0, 0), (48, .getfield 141, 3, 10, 20, 0, 0), (51, .iconst 1, 1, 0, 0, 1, 0), (52, .isub, 1, 0, 0, 0, 0), (53, .invokevirtual 144, 3, 0, 0, 0, 0), (56, .istore_n 2, 1, 2, 0, 0, 0), (57, .iload_n 2, 1, 2, 0, 0, 0), (58, .ifCond .ne 28, 3, 86, 0, 0, 0), (61, .aload_n 0, 1, 0, 0, 0, 0), (62, .getfield 65, 3, 10, 29, 0, 0), (65, .iload_n 1, 1, 1, 0, 0, 0), (66, .iaload, 1, 0, 0, 0, 0), (67, .aload_n 0, 1, 0, 0, 0, 0), (68, .getfield 68, 3, 10, 30, 0, 0), (71, .iload_n 1, 1, 1, 0, 0, 0), (72, .iaload, 1, 0, 0, 0, 0), (73, .if_icmp .ne 13, 3, 86, 0, 0, 0), (76, .aload_n 0, 1, 0, 0, 0, 0), (77, .iconst 4, 1, 0, 0, 4, 0), (78, .aload_n 0, 1, 0, 0, 0, 0), (79, .getfield 132, 3, 10, 19, 0, 0), (82, .invokevirtual 128, 3, 0, 0, 0, 0), (85, .ireturn, 1, 0, 0, 0, 0), (86, .iload_n 2, 1, 2, 0, 0, 0), (87, .ifCond .le 7, 3, 94, 0, 0, 0), (90, .iload_n 2, 1, 2, 0, 0, 0), (91, .goto 15, 3, 106, 0, 0, 0), (94, .aload_n 0, 1, 0, 0, 0, 0), (95, .aload_n 0, 1, 0, 0, 0, 0), (96, .getfield 71, 3, 10, 31, 0, 0), (99, .iload_n 1, 1, 1, 0, 0, 0), (100, .iconst 1, 1, 0, 0, 1, 0), (101, .bipush 20, 2, 0, 0, 20, 0), (103, .invokevirtual 144, 3, 0, 0, 0, 0), (106, .istore_n 2, 1, 2, 0, 0, 0), (107, .iload_n 2, 1, 2, 0, 0, 0), (108, .ifCond .le 7, 3, 115, 0, 0, 0), (111, .iload_n 2, 1, 2, 0, 0, 0), (112, .goto 15, 3, 127, 0, 0, 0), (115, .aload_n 0, 1, 0, 0, 0, 0), (116, .aload_n 0, 1, 0, 0, 0, 0), (117, .getfield 74, 3, 10, 32, 0, 0), (120, .iload_n 1, 1, 1, 0, 0, 0), (121, .iconst 1, 1, 0, 0, 1, 0), (122, .bipush 20, 2, 0, 0, 20, 0), (124, .invokevirtual 144, 3, 0, 0, 0, 0), (127, .ireturn, 1, 0, 0, 0, 0)])
set_option maxRecDepth 20000 in
theorem okX10_takeRate : ab_ok mX10_takeRate := ⟨by decide, by decide +kernel, trivial, fl_RX10_151, trivial, trivial, trivial, fl_RX10_151, trivial, trivial, (gl_RX10_151 _), trivial, trivial, fl_RX10_65, trivial, trivial, trivial, fl_RX10_141, trivial, trivial, trivial, trivial, trivial, trivial, trivial, trivial, trivial, trivial, fl_RX10_68, trivial, trivial, trivial, fl_RX10_141, trivial, trivial, trivial, trivial, trivial, trivial, trivial, fl_RX10_65, trivial, trivial, trivial, fl_RX10_68, trivial, trivial, trivial, trivial, trivial, trivial, fl_RX10_132, trivial, trivial, trivial, trivial, trivial, trivial, trivial, trivial, fl_RX10_71, trivial, trivial, trivial, trivial, trivial, trivial, trivial, trivial, trivial, trivial, trivial, fl_RX10_74, trivial, trivial, trivial, trivial, trivial, trivial⟩
def mX10_takeHeir : MI := (yX10_takeHeir, cX10_takeHeir, 3, (some .int), [(0, .aload_n 0, 1, 0, 0, 0, 0), (1, .iconst 0, 1, 0, 0, 0, 0), (2, .aload_n 0, 1, 0, 0, 0, 0), (3, .getfield 141, 3, 10, 20, 0, 0), (6, .iconst 1, 1, 0, 0, 1, 0), (7, .isub, 1, 0, 0, 0, 0), (8, .invokevirtual 138, 3, 0, 0, 0, 0), (11, .istore_n 1, 1, 1, 0, 0, 0), (12, .aload_n 0, 1, 0, 0, 0, 0), (13, .getfield 135, 3, 10, 18, 0, 0), (16, .istore_n 2, 1, 2, 0, 0, 0), (17, .iload_n 1, 1, 1, 0, 0, 0), (18, .ifCond .ne 22, 3, 40, 0, 0, 0), (21, .aload_n 0, 1, 0, 0, 0, 0), (22, .getfield 53, 3, 10, 23, 0, 0), (25, .iload_n 2, 1, 2, 0, 0, 0), (26, .iaload, 1, 0, 0, 0, 0), (27, .ifCond .lt 13, 3, 40, 0, 0, 0), (30, .aload_n 0, 1, 0, 0, 0, 0), (31, .iconst 4, 1, 0, 0, 4, 0), (32, .aload_n 0, 1, 0, 0, 0, 0), (33, .getfield 132, 3, 10, 19, 0, 0), (36, .invokevirtual 128, 3, 0, 0, 0, 0), (39, .ireturn, 1, 0, 0, 0, 0), (40, .iload_n 1, 1, 1, 0, 0, 0), (41, .ifCond .le 7, 3, 48, 0, 0, 0), (44, .iload_n 1, 1, 1, 0, 0, 0), (45, .goto 14, 3, 59, 0, 0, 0), (48, .aload_n 0, 1, 0, 0, 0, 0), (49, .iconst 0, 1, 0, 0, 0, 0), (50, .aload_n 0, 1, 0, 0, 0, 0), (51, .getfield 141, 3, 10, 20, 0, 0), (54, .iconst 1, 1, 0, 0, 1, 0), (55, .isub, 1, 0, 0, 0, 0), (56, .invokevirtual 138, 3, 0, 0, 0, 0), (59, .istore_n 1, 1, 1, 0, 0, 0), (60, .iload_n 1, 1, 1, 0, 0, 0), (61, .ifCond .ne 21, 3, 82, 0, 0, 0), (64, .aload_n 0, 1, 0, 0, 0, 0), (65, .getfield 135, 3, 10, 18, 0, 0), (68, .iload_n 2, 1, 2, 0, 0, 0), (69, .if_icmp .ne 13, 3, 82, 0, 0, 0), (72, .aload_n 0, 1, 0, 0, 0, 0), (73, .iconst 4, 1, 0, 0, 4, 0), (74, .aload_n 0, 1, 0, 0, 0, 0), (75, .getfield 132, 3, 10, 19, 0, 0), (78, .invokevirtual 128, 3, 0, 0, 0, 0), (81, .ireturn, 1, 0, 0, 0, 0), (82, .iload_n 1, 1, 1, 0, 0, 0), (83, .ifCond .ne 13, 3, 96, 0, 0, 0), (86, .aload_n 0, 1, 0, 0, 0, 0), (87, .getfield 53, 3, 10, 23, 0, 0), (90, .iload_n 2, 1, 2, 0, 0, 0), (91, .aload_n 0, 1, 0, 0, 0, 0), (92, .getfield 135, 3, 10, 18, 0, 0), (95, .iastore, 1, 0, 0, 0, 0), (96, .iload_n 1, 1, 1, 0, 0, 0), (97, .ireturn, 1, 0, 0, 0, 0)])
set_option maxRecDepth 20000 in
theorem okX10_takeHeir : ab_ok mX10_takeHeir := ⟨by decide, by decide +kernel, trivial, trivial, trivial, fl_RX10_141, trivial, trivial, trivial, trivial, trivial, fl_RX10_135, trivial, trivial, trivial, trivial, fl_RX10_53, trivial, trivial, trivial, trivial, trivial, trivial, fl_RX10_132, trivial, trivial, trivial, trivial, trivial, trivial, trivial, trivial, trivial, fl_RX10_141, trivial, trivial, trivial, trivial, trivial, trivial, trivial, fl_RX10_135, trivial, trivial, trivial, trivial, trivial, fl_RX10_132, trivial, trivial, trivial, trivial, trivial, fl_RX10_53, trivial, trivial, fl_RX10_135, trivial, trivial, trivial, trivial⟩
end
section
/-! method tables (by program) -/
def mX10_takeClause : MI := (yX10_takeClause, cX10_takeClause, 5, (some .int), [(0, .aload_n 0, 1, 0, 0, 0, 0), (1, .invokevirtual 120, 3, 0, 0, 0, 0), (4, .istore_n 1, 1, 1, 0, 0, 0), (5, .iload_n 1, 1, 1, 0, 0, 0), (6, .bipush 108, 2, 0, 0, 108, 0), (8, .if_icmp .ne 7, 3, 15, 0, 0, 0), (11, .iconst 0, 1, 0, 0, 0, 0), (12, .goto 34, 3, 46, 0, 0, 0), (15, .iload_n 1, 1, 1, 0, 0, 0), (16, .bipush 99, 2, 0, 0, 99, 0), (18, .if_icmp .ne 7, 3, 25, 0, 0, 0), (21, .iconst 1, 1, 0, 0, 1, 0), (22, .goto 24, 3, 46, 0, 0, 0), (25, .iload_n 1, 1, 1, 0, 0, 0), (26, .bipush 114, 2, 0, 0, 114, 0), (28, .if_icmp .ne 7, 3, 35, 0, 0, 0), (31, .iconst 2, 1, 0, 0, 2, 0), (32, .goto 14, 3, 46, 0, 0, 0), (35, .iload_n 1, 1, 1, 0, 0, 0), (36, .bipush 104, 2, 0, 0, 104, 0), (38, .if_icmp .ne 7, 3, 45, 0, 0, 0), (41, .iconst 3, 1, 0, 0, 3, 0), (42, .goto 4, 3, 46, 0, 0, 0), (45, .iconst (-1), 1, 0, 0, (-1), 0), (46, .istore_n 2, 1, 2, 0, 0, 0), (47, .iload_n 2, 1, 2, 0, 0, 0), (48, .ifCond .lt 14, 3, 62, 0, 0, 0), (51, .iload_n 2, 1, 2, 0, 0, 0), (52, .ifCond .le 20, 3, 72, 0, 0, 0), (55, .aload_n 0, 1, 0, 0, 0, 0), (56, .getfield 141, 3, 10, 20, 0, 0), (59, .ifCond .ne 13, 3, 72, 0, 0, 0), (62, .aload_n 0, 1, 0, 0, 0, 0), (63, .iconst 1, 1, 0, 0, 1, 0), (64, .aload_n 0, 1, 0, 0, 0, 0), (65, .getfield 117, 3, 10, 17, 0, 0), (68, .invokevirtual 128, 3, 0, 0, 0, 0), (71, .ireturn, 1, 0, 0, 0, 0), (72, .iload_n 2, 1, 2, 0, 0, 0), (73, .ifCond .ne 20, 3, 93, 0, 0, 0), (76, .aload_n 0, 1, 0, 0, 0, 0), (77, .getfield 141, 3, 10, 20, 0, 0), (80, .bipush 6, 2, 0, 0, 6, 0), (82, .if_icmp .ne 7, 3, 89, 0, 0, 0), (85, .iconst 1, 1, 0, 0, 1, 0), (86, .goto 48, 3, 134, 0, 0, 0), (89, .iconst 0, 1, 0, 0, 0, 0), (90, .goto 44, 3, 134, 0, 0, 0), (93, .iload_n 2, 1, 2, 0, 0, 0), (94, .iconst 1, 1, 0, 0, 1, 0), (95, .if_icmp .ne 20, 3, 115, 0, 0, 0), (98, .aload_n 0, 1, 0, 0, 0, 0), (99, .getfield 148, 3, 10, 24, 0, 0), (102, .bipush 6, 2, 0, 0, 6, 0), (104, .if_icmp .ne 7, 3, 111, 0, 0, 0), (107, .iconst 1, 1, 0, 0, 1, 0), (108, .goto 26, 3, 134, 0, 0, 0), (111, .iconst 0, 1, 0, 0, 0, 0), (112, .goto 22, 3, 134, 0, 0, 0), (115, .iload_n 2, 1, 2, 0, 0, 0), (116, .iconst 2, 1, 0, 0, 2, 0), (117, .if_icmp .ne 16, 3, 133, 0, 0, 0), (120, .aload_n 0, 1, 0, 0, 0, 0), (121, .getfield 151, 3, 10, 28, 0, 0), (124, .bipush 8, 2, 0, 0, 8, 0), (126, .if_icmp .ne 7, 3, 133, 0, 0, 0), (129, .iconst 1, 1, 0, 0, 1, 0), (130, .goto 4, 3, 134, 0, 0, 0), (133, .iconst 0, 1, 0, 0, 0, 0), (134, .istore_n 3, 1, 3, 0, 0, 0), (135, .iload_n 3, 1, 3, 0, 0, 0), (136, .ifCond .eq 13, 3, 149, 0, 0, 0), (139, .aload_n 0, 1, 0, 0, 0, 0), (140, .iconst 3, 1, 0, 0, 3, 0), (141, .aload_n 0, 1, 0, 0, 0, 0), (142, .getfield 117, 3, 10, 17, 0, 0), (145, .invokevirtual 128, 3, 0, 0, 0, 0), (148, .ireturn, 1, 0, 0, 0, 0), (149, .aload_n 0, 1, 0, 0, 0, 0), (150, .dup, 1, 0, 0, 0, 0), (151, .getfield 117, 3, 10, 17, 0, 0), (154, .iconst 1, 1, 0, 0, 1, 0), (155, .iadd, 1, 0, 0, 0, 0), (156, .putfield 117, 3, 10, 17, 0, 0), (159, .iload_n 2, 1, 2, 0, 0, 0), (160, .ifCond .ne 10, 3, 170, 0, 0, 0), (163, .aload_n 0, 1, 0, 0, 0, 0), (164, .invokevirtual 154, 3, 0, 0, 0, 0), (167, .goto 31, 3, 198, 0, 0, 0), (170, .iload_n 2, 1, 2, 0, 0, 0), (171, .iconst 1, 1, 0, 0, 1, 0), (172, .if_icmp .ne 10, 3, 182, 0, 0, 0), (175, .aload_n 0, 1, 0, 0, 0, 0), (176, .invokevirtual 157, 3, 0, 0, 0, 0), (179, .goto 19, 3, 198, 0, 0, 0), (182, .iload_n 2, 1, 2, 0, 0, 0), (183, .iconst 2, 1, 0, 0, 2, 0), (184, .if_icmp .ne 10, 3, 194, 0, 0, 0), (187, .aload_n 0, 1, 0, 0, 0, 0), (188, .invokevirtual 160, 3, 0, 0, 0, 0), (191, .goto 7, 3, 198, 0, 0, 0), (194, .aload_n 0, 1, 0, 0, 0, 0), (195, .invokevirtual 163, 3, 0, 0, 0, 0), (198, .istore 4, 2, 4, 0, 0, 0), (200, .iload 4, 2, 4, 0, 0, 0), (202, .ifCond .ne 22, 3, 224, 0, 0, 0), (205, .aload_n 0, 1, 0, 0, 0, 0), (206, .invokevirtual 120, 3, 0, 0, 0, 0), (209, .bipush 59, 2, 0, 0, 59, 0), (211, .if_icmp .eq 13, 3, 224, 0, 0, 0), (214, .aload_n 0, 1, 0, 0, 0, 0), (215, .iconst 1, 1, 0, 0, 1, 0), (216, .aload_n 0, 1, 0, 0, 0, 0), (217, .getfield 117, 3, 10, 17, 0, 0), (220, .invokevirtual 128, 3, 0, 0, 0, 0), (223, .ireturn, 1, 0, 0, 0, 0), (224, .aload_n 0, 1, 0, 0, 0, 0), (225, .dup, 1, 0, 0, 0, 0), (226, .getfield 117, 3, 10, 17, 0, 0), (229, .iconst 1, 1, 0, 0, 1, 0), (230, .iadd, 1, 0, 0, 0, 0), (231, .putfield 117, 3, 10, 17, 0, 0), (234, .iload 4, 2, 4, 0, 0, 0), (236, .ireturn, 1, 0, 0, 0, 0)])
set_option maxRecDepth 20000 in
theorem okX10_takeClause : ab_ok mX10_takeClause := ⟨by decide, by decide +kernel, trivial, trivial, trivial, trivial, trivial, trivial, trivial, trivial, trivial, trivial, trivial, trivial, trivial, trivial, trivial, trivial, trivial, trivial, trivial, trivial, trivial, trivial, trivial, trivial, trivial, trivial, trivial, trivial, trivial, trivial, fl_RX10_141, trivial, trivial, trivial, trivial, fl_RX10_117, trivial, trivial, trivial, trivial, trivial, fl_RX10_141, trivial, trivial, trivial, trivial, trivial, trivial, trivial, trivial, trivial, trivial, fl_RX10_148, trivial, trivial, trivial, trivial, trivial, trivial, trivial, trivial, trivial, trivial, fl_RX10_151, trivial, trivial, trivial, trivial, trivial, trivial, trivial, trivial, trivial, trivial, trivial, fl_RX10_117, trivial, trivial, trivial, trivial, fl_RX10_117, trivial, trivial, (gl_RX10_117 _), trivial, trivial, trivial, trivial, trivial, trivial, trivial, trivial, trivial, trivial, trivial, trivial, trivial, trivial, trivial, trivial, trivial, trivial, trivial, trivial, trivial, trivial, trivial, trivial, trivial, trivial, trivial, trivial, trivial, fl_RX10_117, trivial, trivial, trivial, trivial, fl_RX10_117, trivial, trivial, (gl_RX10_117 _), trivial, trivial, trivial⟩
def mX10_takeRead : MI := (yX10_takeRead, cX10_takeRead, 2, none, [(0, .aload_n 0, 1, 0, 0, 0, 0), (1, .aload_n 0, 1, 0, 0, 0, 0), (2, .getfield 141, 3, 10, 20, 0, 0), (5, .putfield 99, 3, 10, 0, 0, 0), (8, .aload_n 0, 1, 0, 0, 0, 0), (9, .aload_n 0, 1, 0, 0, 0, 0), (10, .getfield 148, 3, 10, 24, 0, 0), (13, .putfield 166, 3, 10, 3, 0, 0), (16, .aload_n 0, 1, 0, 0, 0, 0), (17, .aload_n 0, 1, 0, 0, 0, 0), (18, .getfield 151, 3, 10, 28, 0, 0), (21, .putfield 169, 3, 10, 7, 0, 0), (24, .iconst 0, 1, 0, 0, 0, 0), (25, .istore_n 1, 1, 1, 0, 0, 0), (26, .iload_n 1, 1, 1, 0, 0, 0), (27, .bipush 12, 2, 0, 0, 12, 0), (29, .if_icmp .ge 43, 3, 72, 0, 0, 0), (32, .aload_n 0, 1, 0, 0, 0, 0), (33, .getfield 37, 3, 10, 12, 0, 0), (36, .iload_n 1, 1, 1, 0, 0, 0), (37, .iload_n 1, 1, 1, 0, 0, 0), (38, .aload_n 0, 1, 0, 0, 0, 0), (39, .getfield 99, 3, 10, 0, 0, 0), (42, .if_icmp .ge 12, 3, 54, 0, 0, 0), (45, .aload_n 0, 1, 0, 0, 0, 0), (46, .getfield 47, 3, 10, 21, 0, 0), (49, .iload_n 1, 1, 1, 0, 0, 0), (50, .iaload, 1, 0, 0, 0, 0), (51, .goto 14, 3, 65, 0, 0, 0), (54, .iload_n 1, 1, 1, 0, 0, 0), (55, .bipush 6, 2, 0, 0, 6, 0), (57, .if_icmp .ge 7, 3, 64, 0, 0, 0), (60, .iconst 0, 1, 0, 0, 0, 0), (61, .goto 4, 3, 65, 0, 0, 0), (64, .iconst (-1), 1, 0, 0, (-1), 0), (65, .iastore, 1, 0, 0, 0, 0), (66, .iinc 1 1, 3, 1, 0, 1, 0), (69, .goto (-43), 3, 26, 0, 0, 0), (72, .iconst 0, 1, 0, 0, 0, 0), (73, .istore_n 1, 1, 1, 0, 0, 0), (74, .iload_n 1, 1, 1, 0, 0, 0), (75, .bipush 6, 2, 0, 0, 6, 0), (77, .if_icmp .ge 43, 3, 120, 0, 0, 0), (80, .aload_n 0, 1, 0, 0, 0, 0), (81, .getfield 13, 3, 10, 2, 0, 0), (84, .iload_n 1, 1, 1, 0, 0, 0), (85, .iload_n 1, 1, 1, 0, 0, 0), (86, .aload_n 0, 1, 0, 0, 0, 0), (87, .getfield 99, 3, 10, 0, 0, 0), (90, .if_icmp .ge 12, 3, 102, 0, 0, 0), (93, .aload_n 0, 1, 0, 0, 0, 0), (94, .getfield 53, 3, 10, 23, 0, 0), (97, .iload_n 1, 1, 1, 0, 0, 0), (98, .iaload, 1, 0, 0, 0, 0), (99, .goto 4, 3, 103, 0, 0, 0), (102, .iconst (-1), 1, 0, 0, (-1), 0), (103, .iastore, 1, 0, 0, 0, 0), (104, .aload_n 0, 1, 0, 0, 0, 0), (105, .getfield 37, 3, 10, 12, 0, 0), (108, .bipush 12, 2, 0, 0, 12, 0), (110, .iload_n 1, 1, 1, 0, 0, 0), (111, .iadd, 1, 0, 0, 0, 0), (112, .iconst (-1), 1, 0, 0, (-1), 0), (113, .iastore, 1, 0, 0, 0, 0), (114, .iinc 1 1, 3, 1, 0, 1, 0), (117, .goto (-43), 3, 74, 0, 0, 0), (120, .iconst 0, 1, 0, 0, 0, 0), (121, .istore_n 1, 1, 1, 0, 0, 0), (122, .iload_n 1, 1, 1, 0, 0, 0), (123, .iconst 4, 1, 0, 0, 4, 0), (124, .aload_n 0, 1, 0, 0, 0, 0), (125, .getfield 99, 3, 10, 0, 0, 0), (128, .imul, 1, 0, 0, 0, 0), (129, .if_icmp .ge 24, 3, 153, 0, 0, 0), (132, .aload_n 0, 1, 0, 0, 0, 0), (133, .getfield 7, 3, 10, 1, 0, 0), (136, .iload_n 1, 1, 1, 0, 0, 0), (137, .aload_n 0, 1, 0, 0, 0, 0), (138, .getfield 50, 3, 10, 22, 0, 0), (141, .iload_n 1, 1, 1, 0, 0, 0), (142, .iaload, 1, 0, 0, 0, 0), (143, .bipush 9, 2, 0, 0, 9, 0), (145, .isub, 1, 0, 0, 0, 0), (146, .iastore, 1, 0, 0, 0, 0), (147, .iinc 1 1, 3, 1, 0, 1, 0), (150, .goto (-28), 3, 122, 0, 0, 0), (153, .aload_n 0, 1, 0, 0, 0, 0), (154, .getfield 37, 3, 10, 12, 0, 0), (157, .bipush 18, 2, 0, 0, 18, 0), (159, .iconst 1, 1, 0, 0, 1, 0), (160, .aload_n 0, 1, 0, 0, 0, 0), (161, .getfield 99, 3, 10, 0, 0, 0), (164, .ishl, 1, 0, 0, 0, 0), (165, .iconst 1, 1, 0, 0, 1, 0), (166, .isub, 1, 0, 0, 0, 0), (167, .iastore, 1, 0, 0, 0, 0), (168, .aload_n 0, 1, 0, 0, 0, 0), (169, .getfield 37, 3, 10, 12, 0, 0), (172, .bipush 19, 2, 0, 0, 19, 0), (174, .iconst 0, 1, 0, 0, 0, 0), (175, .iastore, 1, 0, 0, 0, 0), (176, .aload_n 0, 1, 0, 0, 0, 0), (177, .getfield 37, 3, 10, 12, 0, 0), (180, .bipush 20, 2, 0, 0, 20, 0), (182, .iconst 0, 1, 0, 0, 0, 0), (183, .iastore, 1, 0, 0, 0, 0), (184, .aload_n 0, 1, 0, 0, 0, 0), (185, .getfield 37, 3, 10, 12, 0, 0), (188, .bipush 21, 2, 0, 0, 21, 0), (190, .iconst 0, 1, 0, 0, 0, 0), (191, .iastore, 1, 0, 0, 0, 0), (192, .iconst 0, 1, 0, 0, 0, 0), (193, .istore_n 1, 1, 1, 0, 0, 0), (194, .iload_n 1, 1, 1, 0, 0, 0), (195, .aload_n 0, 1, 0, 0, 0, 0), (196, .getfield 166, 3, 10, 3, 0, 0), (199, .if_icmp .ge 45, 3, 244, 0, 0, 0), (202, .aload_n 0, 1, 0, 0, 0, 0), (203, .getfield 16, 3, 10, 4, 0, 0), (206, .iload_n 1, 1, 1, 0, 0, 0), (207, .aload_n 0, 1, 0, 0, 0, 0), (208, .getfield 56, 3, 10, 25, 0, 0), (211, .iload_n 1, 1, 1, 0, 0, 0), (212, .iaload, 1, 0, 0, 0, 0), (213, .iastore, 1, 0, 0, 0, 0), (214, .aload_n 0, 1, 0, 0, 0, 0), (215, .getfield 19, 3, 10, 5, 0, 0), (218, .iload_n 1, 1, 1, 0, 0, 0), (219, .aload_n 0, 1, 0, 0, 0, 0), (220, .getfield 59, 3, 10, 26, 0, 0), (223, .iload_n 1, 1, 1, 0, 0, 0), (224, .iaload, 1, 0, 0, 0, 0), (225, .iastore, 1, 0, 0, 0, 0), (226, .aload_n 0, 1, 0, 0, 0, 0), (227, .getfield 22, 3, 10, 6, 0, 0), (230, .iload_n 1, 1, 1, 0, 0, 0), (231, .aload_n 0, 1, 0, 0, 0, 0), (232, .getfield 62, 3, 10, 27, 0, 0), (235, .iload_n 1, 1, 1, 0, 0, 0), (236, .iaload, 1, 0, 0, 0, 0), (237, .iastore, 1, 0, 0, 0, 0), (238, .iinc 1 1, 3, 1, 0, 1, 0), (241, .goto (-47), 3, 194, 0, 0, 0), (244, .iconst 0, 1, 0, 0, 0, 0), (245, .istore_n 1, 1, 1, 0, 0, 0), (246, .iload_n 1, 1, 1, 0, 0, 0), (247, .aload_n 0, 1, 0, 0, 0, 0), (248, .getfield 169, 3, 10, 7, 0, 0), (251, .if_icmp .ge 57, 3, 308, 0, 0, 0), (254, .aload_n 0, 1, 0, 0, 0, 0), (255, .getfield 25, 3, 10, 8, 0, 0), (258, .iload_n 1, 1, 1, 0, 0, 0), (259, .aload_n 0, 1, 0, 0, 0, 0), (260, .getfield 65, 3, 10, 29, 0, 0), (263, .iload_n 1, 1, 1, 0, 0, 0), (264, .iaload, 1, 0, 0, 0, 0), (265, .iastore, 1, 0, 0, 0, 0), (266, .aload_n 0, 1, 0, 0, 0, 0), (267, .getfield 28, 3, 10, 9, 0, 0), (270, .iload_n 1, 1, 1, 0, 0, 0), (271, .aload_n 0, 1, 0, 0, 0, 0), (272, .getfield 68, 3, 10, 30, 0, 0), (275, .iload_n 1, 1, 1, 0, 0, 0), (276, .iaload, 1, 0, 0, 0, 0), (277, .iastore, 1, 0, 0, 0, 0), (278, .aload_n 0, 1, 0, 0, 0, 0), (279, .getfield 31, 3, 10, 10, 0, 0), (282, .iload_n 1, 1, 1, 0, 0, 0), (283, .aload_n 0, 1, 0, 0, 0, 0), (284, .getfield 71, 3, 10, 31, 0, 0), (287, .iload_n 1, 1, 1, 0, 0, 0), (288, .iaload, 1, 0, 0, 0, 0), (289, .iastore, 1, 0, 0, 0, 0), (290, .aload_n 0, 1, 0, 0, 0, 0), (291, .getfield 34, 3, 10, 11, 0, 0), (294, .iload_n 1, 1, 1, 0, 0, 0), (295, .aload_n 0, 1, 0, 0, 0, 0), (296, .getfield 74, 3, 10, 32, 0, 0), (299, .iload_n 1, 1, 1, 0, 0, 0), (300, .iaload, 1, 0, 0, 0, 0), (301, .iastore, 1, 0, 0, 0, 0), (302, .iinc 1 1, 3, 1, 0, 1, 0), (305, .goto (-59), 3, 246, 0, 0, 0), (308, .return_, 1, 0, 0, 0, 0)])
set_option maxRecDepth 20000 in
theorem okX10_takeRead : ab_ok mX10_takeRead := ⟨by decide, by decide +kernel, trivial, trivial, fl_RX10_141, (gl_RX10_99 _), trivial, trivial, fl_RX10_148, (gl_RX10_166 _), trivial, trivial, fl_RX10_151, (gl_RX10_169 _), trivial, trivial, trivial, trivial, trivial, trivial, fl_RX10_37, trivial, trivial, trivial, fl_RX10_99, trivial, trivial, fl_RX10_47, trivial, trivial, trivial, trivial, trivial, trivial, trivial, trivial, trivial, trivial, trivial, trivial, trivial, trivial, trivial, trivial, trivial, trivial, fl_RX10_13, trivial, trivial, trivial, fl_RX10_99, trivial, trivial, fl_RX10_53, trivial, trivial, trivial, trivial, trivial, trivial, fl_RX10_37, trivial, trivial, trivial, trivial, trivial, trivial, trivial, trivial, trivial, trivial, trivial, trivial, fl_RX10_99, trivial, trivial, trivial, fl_RX10_7, trivial, trivial, fl_RX10_50, trivial, trivial, trivial, trivial, trivial, trivial, trivial, trivial, fl_RX10_37, trivial, trivial, trivial, fl_RX10_99, trivial, trivial, trivial, trivial, trivial, fl_RX10_37, trivial, trivial, trivial, trivial, fl_RX10_37, trivial, trivial, trivial, trivial, fl_RX10_37, trivial, trivial, trivial, trivial, trivial, trivial, trivial, fl_RX10_166, trivial, trivial, fl_RX10_16, trivial, trivial, fl_RX10_56, trivial, trivial, trivial, trivial, fl_RX10_19, trivial, trivial, fl_RX10_59, trivial, trivial, trivial, trivial, fl_RX10_22, trivial, trivial, fl_RX10_62, trivial, trivial, trivial, trivial, trivial, trivial, trivial, trivial, trivial, fl_RX10_169, trivial, trivial, fl_RX10_25, trivial, trivial, fl_RX10_65, trivial, trivial, trivial, trivial, fl_RX10_28, trivial, trivial, fl_RX10_68, trivial, trivial, trivial, trivial, fl_RX10_31, trivial, trivial, fl_RX10_71, trivial, trivial, trivial, trivial, fl_RX10_34, trivial, trivial, fl_RX10_74, trivial, trivial, trivial, trivial, trivial, trivial, trivial⟩
def mX10_port : MI := (yX10_port, cX10_port, 2, (some .int), [(0, .aload_n 0, 1, 0, 0, 0, 0), (1, .iconst (-1), 1, 0, 0, (-1), 0), (2, .putfield 43, 3, 10, 16, 0, 0), (5, .aload_n 0, 1, 0, 0, 0, 0), (6, .iconst 0, 1, 0, 0, 0, 0), (7, .putfield 117, 3, 10, 17, 0, 0), (10, .aload_n 0, 1, 0, 0, 0, 0), (11, .iconst 0, 1, 0, 0, 0, 0), (12, .putfield 141, 3, 10, 20, 0, 0), (15, .aload_n 0, 1, 0, 0, 0, 0), (16, .iconst 0, 1, 0, 0, 0, 0), (17, .putfield 148, 3, 10, 24, 0, 0), (20, .aload_n 0, 1, 0, 0, 0, 0), (21, .iconst 0, 1, 0, 0, 0, 0), (22, .putfield 151, 3, 10, 28, 0, 0), (25, .iconst 0, 1, 0, 0, 0, 0), (26, .istore_n 1, 1, 1, 0, 0, 0), (27, .iload_n 1, 1, 1, 0, 0, 0), (28, .ifCond .ne 18, 3, 46, 0, 0, 0), (31, .aload_n 0, 1, 0, 0, 0, 0), (32, .invokevirtual 120, 3, 0, 0, 0, 0), (35, .ifCond .lt 11, 3, 46, 0, 0, 0), (38, .aload_n 0, 1, 0, 0, 0, 0), (39, .invokevirtual 172, 3, 0, 0, 0, 0), (42, .istore_n 1, 1, 1, 0, 0, 0), (43, .goto (-16), 3, 27, 0, 0, 0), (46, .aload_n 0, 1, 0, 0, 0, 0), (47, .iconst 0, 1, 0, 0, 0, 0), (48, .putfield 113, 3, 10, 15, 0, 0), (51, .iload_n 1, 1, 1, 0, 0, 0), (52, .ifCond .le 8, 3, 60, 0, 0, 0), (55, .bipush (-10), 2, 0, 0, (-10), 0), (57, .iload_n 1, 1, 1, 0, 0, 0), (58, .isub, 1, 0, 0, 0, 0), (59, .ireturn, 1, 0, 0, 0, 0), (60, .aload_n 0, 1, 0, 0, 0, 0), (61, .invokevirtual 175, 3, 0, 0, 0, 0), (64, .aload_n 0, 1, 0, 0, 0, 0), (65, .iconst 0, 1, 0, 0, 0, 0), (66, .putfield 178, 3, 10, 37, 0, 0), (69, .aload_n 0, 1, 0, 0, 0, 0), (70, .iconst 0, 1, 0, 0, 0, 0), (71, .putfield 181, 3, 10, 40, 0, 0), (74, .aload_n 0, 1, 0, 0, 0, 0), (75, .iconst 0, 1, 0, 0, 0, 0), (76, .putfield 184, 3, 10, 33, 0, 0), (79, .aload_n 0, 1, 0, 0, 0, 0), (80, .getfield 95, 3, 10, 44, 0, 0), (83, .iconst 0, 1, 0, 0, 0, 0), (84, .iconst 0, 1, 0, 0, 0, 0), (85, .bastore, 1, 0, 0, 0, 0), (86, .aload_n 0, 1, 0, 0, 0, 0), (87, .getfield 95, 3, 10, 44, 0, 0), (90, .iconst 1, 1, 0, 0, 1, 0), (91, .iconst 0, 1, 0, 0, 0, 0), (92, .bastore, 1, 0, 0, 0, 0), (93, .aload_n 0, 1, 0, 0, 0, 0), (94, .getfield 99, 3, 10, 0, 0, 0), (97, .ireturn, 1, 0, 0, 0, 0)])
set_option maxRecDepth 20000 in
theorem okX10_port : ab_ok mX10_port := ⟨by decide, by decide +kernel, trivial, trivial, (gl_RX10_43 _), trivial, trivial, (gl_RX10_117 _), trivial, trivial, (gl_RX10_141 _), trivial, trivial, (gl_RX10_148 _), trivial, trivial, (gl_RX10_151 _), trivial, trivial, trivial, trivial, trivial, trivial, trivial, trivial, trivial, trivial, trivial, trivial, trivial, (gl_RX10_113 _), trivial, trivial, trivial, trivial, trivial, trivial, trivial, trivial, trivial, trivial, (gl_RX10_178 _), trivial, trivial, (gl_RX10_181 _), trivial, trivial, (gl_RX10_184 _), trivial, fl_RX10_95, trivial, trivial, trivial, trivial, fl_RX10_95, trivial, trivial, trivial, trivial, fl_RX10_99, trivial, trivial⟩
def mX10_fault : MI := (yX10_fault, cX10_fault, 1, (some .int), [(0, .aload_n 0, 1, 0, 0, 0, 0), (1, .getfield 43, 3, 10, 16, 0, 0), (4, .ireturn, 1, 0, 0, 0, 0)])
set_option maxRecDepth 20000 in
theorem okX10_fault : ab_ok mX10_fault := ⟨by decide, by decide +kernel, trivial, fl_RX10_43, trivial, trivial⟩
def mX10_copied : MI := (yX10_copied, cX10_copied, 3, (some .int), [(0, .iconst 0, 1, 0, 0, 0, 0), (1, .istore_n 1, 1, 1, 0, 0, 0), (2, .iconst 0, 1, 0, 0, 0, 0), (3, .istore_n 2, 1, 2, 0, 0, 0), (4, .iload_n 2, 1, 2, 0, 0, 0), (5, .aload_n 0, 1, 0, 0, 0, 0), (6, .getfield 99, 3, 10, 0, 0, 0), (9, .if_icmp .ge 31, 3, 40, 0, 0, 0), (12, .iload_n 1, 1, 1, 0, 0, 0), (13, .aload_n 0, 1, 0, 0, 0, 0), (14, .getfield 37, 3, 10, 12, 0, 0), (17, .bipush 6, 2, 0, 0, 6, 0), (19, .iload_n 2, 1, 2, 0, 0, 0), (20, .iadd, 1, 0, 0, 0, 0), (21, .iaload, 1, 0, 0, 0, 0), (22, .ifCond .lt 9, 3, 31, 0, 0, 0), (25, .iconst 1, 1, 0, 0, 1, 0), (26, .iload_n 2, 1, 2, 0, 0, 0), (27, .ishl, 1, 0, 0, 0, 0), (28, .goto 4, 3, 32, 0, 0, 0), (31, .iconst 0, 1, 0, 0, 0, 0), (32, .ior, 1, 0, 0, 0, 0), (33, .istore_n 1, 1, 1, 0, 0, 0), (34, .iinc 2 1, 3, 2, 0, 1, 0), (37, .goto (-33), 3, 4, 0, 0, 0), (40, .iload_n 1, 1, 1, 0, 0, 0), (41, .ireturn, 1, 0, 0, 0, 0)])
set_option maxRecDepth 20000 in
theorem okX10_copied : ab_ok mX10_copied := ⟨by decide, by decide +kernel, trivial, trivial, trivial, trivial, trivial, trivial, fl_RX10_99, trivial, trivial, trivial, fl_RX10_37, trivial, trivial, trivial, trivial, trivial, trivial, trivial, trivial, trivial, trivial, trivial, trivial, trivial, trivial, trivial, trivial, trivial⟩
def mX10_told : MI := (yX10_told, cX10_told, 2, (some .int), [(0, .iload_n 1, 1, 1, 0, 0, 0), (1, .tableswitch 135 0 11 #[63, 68, 73, 78, 83, 91, 99, 104, 112, 120, 125, 130], 63, 0, 0, 0, 0), (64, .aload_n 0, 1, 0, 0, 0, 0), (65, .getfield 99, 3, 10, 0, 0, 0), (68, .ireturn, 1, 0, 0, 0, 0), (69, .aload_n 0, 1, 0, 0, 0, 0), (70, .getfield 166, 3, 10, 3, 0, 0), (73, .ireturn, 1, 0, 0, 0, 0), (74, .aload_n 0, 1, 0, 0, 0, 0), (75, .getfield 169, 3, 10, 7, 0, 0), (78, .ireturn, 1, 0, 0, 0, 0), (79, .aload_n 0, 1, 0, 0, 0, 0), (80, .getfield 113, 3, 10, 15, 0, 0), (83, .ireturn, 1, 0, 0, 0, 0), (84, .aload_n 0, 1, 0, 0, 0, 0), (85, .getfield 37, 3, 10, 12, 0, 0), (88, .bipush 19, 2, 0, 0, 19, 0), (90, .iaload, 1, 0, 0, 0, 0), (91, .ireturn, 1, 0, 0, 0, 0), (92, .aload_n 0, 1, 0, 0, 0, 0), (93, .getfield 37, 3, 10, 12, 0, 0), (96, .bipush 18, 2, 0, 0, 18, 0), (98, .iaload, 1, 0, 0, 0, 0), (99, .ireturn, 1, 0, 0, 0, 0), (100, .aload_n 0, 1, 0, 0, 0, 0), (101, .invokevirtual 187, 3, 0, 0, 0, 0), (104, .ireturn, 1, 0, 0, 0, 0), (105, .aload_n 0, 1, 0, 0, 0, 0), (106, .getfield 37, 3, 10, 12, 0, 0), (109, .bipush 20, 2, 0, 0, 20, 0), (111, .iaload, 1, 0, 0, 0, 0), (112, .ireturn, 1, 0, 0, 0, 0), (113, .aload_n 0, 1, 0, 0, 0, 0), (114, .getfield 37, 3, 10, 12, 0, 0), (117, .bipush 21, 2, 0, 0, 21, 0), (119, .iaload, 1, 0, 0, 0, 0), (120, .ireturn, 1, 0, 0, 0, 0), (121, .aload_n 0, 1, 0, 0, 0, 0), (122, .getfield 178, 3, 10, 37, 0, 0), (125, .ireturn, 1, 0, 0, 0, 0), (126, .aload_n 0, 1, 0, 0, 0, 0), (127, .getfield 181, 3, 10, 40, 0, 0), (130, .ireturn, 1, 0, 0, 0, 0), (131, .aload_n 0, 1, 0, 0, 0, 0), (132, .getfield 184, 3, 10, 33, 0, 0), (135, .ireturn, 1, 0, 0, 0, 0), (136, .ldc 112, 2, 0, 0, (-1000000002), 0), (138, .ireturn, 1, 0, 0, 0, 0)])
set_option maxRecDepth 20000 in
theorem okX10_told : ab_ok mX10_told := ⟨by decide, by decide +kernel, trivial, trivial, trivial, fl_RX10_99, trivial, trivial, fl_RX10_166, trivial, trivial, fl_RX10_169, trivial, trivial, fl_RX10_113, trivial, trivial, fl_RX10_37, trivial, trivial, trivial, trivial, fl_RX10_37, trivial, trivial, trivial, trivial, trivial, trivial, trivial, fl_RX10_37, trivial, trivial, trivial, trivial, fl_RX10_37, trivial, trivial, trivial, trivial, fl_RX10_178, trivial, trivial, fl_RX10_181, trivial, trivial, fl_RX10_184, trivial, ab_in (i := 1033) rfl rfl, trivial, trivial⟩
def mX10_grown : MI := (yX10_grown, cX10_grown, 4, (some .int), [(0, .aload_n 0, 1, 0, 0, 0, 0), (1, .getfield 37, 3, 10, 12, 0, 0), (4, .iload_n 1, 1, 1, 0, 0, 0), (5, .iaload, 1, 0, 0, 0, 0), (6, .aload_n 0, 1, 0, 0, 0, 0), (7, .getfield 7, 3, 10, 1, 0, 0), (10, .iconst 4, 1, 0, 0, 4, 0), (11, .iload_n 1, 1, 1, 0, 0, 0), (12, .imul, 1, 0, 0, 0, 0), (13, .iload_n 2, 1, 2, 0, 0, 0), (14, .iconst 4, 1, 0, 0, 4, 0), (15, .irem, 1, 0, 0, 0, 0), (16, .iadd, 1, 0, 0, 0, 0), (17, .iaload, 1, 0, 0, 0, 0), (18, .iadd, 1, 0, 0, 0, 0), (19, .istore_n 3, 1, 3, 0, 0, 0), (20, .iload_n 3, 1, 3, 0, 0, 0), (21, .ifCond .le 7, 3, 28, 0, 0, 0), (24, .iload_n 3, 1, 3, 0, 0, 0), (25, .goto 4, 3, 29, 0, 0, 0), (28, .iconst 0, 1, 0, 0, 0, 0), (29, .ireturn, 1, 0, 0, 0, 0)])
set_option maxRecDepth 20000 in
theorem okX10_grown : ab_ok mX10_grown := ⟨by decide, by decide +kernel, trivial, fl_RX10_37, trivial, trivial, trivial, fl_RX10_7, trivial, trivial, trivial, trivial, trivial, trivial, trivial, trivial, trivial, trivial, trivial, trivial, trivial, trivial, trivial, trivial, trivial⟩
def mX10_measure : MI := (yX10_measure, cX10_measure, 5, (some .int), [(0, .iload_n 1, 1, 1, 0, 0, 0), (1, .istore_n 3, 1, 3, 0, 0, 0), (2, .iconst 0, 1, 0, 0, 0, 0), (3, .istore 4, 2, 4, 0, 0, 0), (5, .iload 4, 2, 4, 0, 0, 0), (7, .bipush 6, 2, 0, 0, 6, 0), (9, .if_icmp .gt 57, 3, 66, 0, 0, 0), (12, .iload_n 3, 1, 3, 0, 0, 0), (13, .ifCond .lt 53, 3, 66, 0, 0, 0), (16, .aload_n 0, 1, 0, 0, 0, 0), (17, .getfield 37, 3, 10, 12, 0, 0), (20, .bipush 6, 2, 0, 0, 6, 0), (22, .iload_n 3, 1, 3, 0, 0, 0), (23, .iadd, 1, 0, 0, 0, 0), (24, .iaload, 1, 0, 0, 0, 0), (25, .ifCond .lt 13, 3, 38, 0, 0, 0), (28, .aload_n 0, 1, 0, 0, 0, 0), (29, .getfield 37, 3, 10, 12, 0, 0), (32, .bipush 6, 2, 0, 0, 6, 0), (34, .iload_n 3, 1, 3, 0, 0, 0), (35, .iadd, 1, 0, 0, 0, 0), (36, .iaload, 1, 0, 0, 0, 0), (37, .ireturn, 1, 0, 0, 0, 0), (38, .aload_n 0, 1, 0, 0, 0, 0), (39, .iload_n 3, 1, 3, 0, 0, 0), (40, .invokevirtual 190, 3, 0, 0, 0, 0), (43, .ifCond .eq 10, 3, 53, 0, 0, 0), (46, .aload_n 0, 1, 0, 0, 0, 0), (47, .iload_n 3, 1, 3, 0, 0, 0), (48, .iload_n 2, 1, 2, 0, 0, 0), (49, .invokevirtual 194, 3, 0, 0, 0, 0), (52, .ireturn, 1, 0, 0, 0, 0), (53, .aload_n 0, 1, 0, 0, 0, 0), (54, .getfield 13, 3, 10, 2, 0, 0), (57, .iload_n 3, 1, 3, 0, 0, 0), (58, .iaload, 1, 0, 0, 0, 0), (59, .istore_n 3, 1, 3, 0, 0, 0), (60, .iinc 4 1, 3, 4, 0, 1, 0), (63, .goto (-58), 3, 5, 0, 0, 0), (66, .iconst 0, 1, 0, 0, 0, 0), (67, .ireturn, 1, 0, 0, 0, 0)])
set_option maxRecDepth 20000 in
theorem okX10_measure : ab_ok mX10_measure := ⟨by decide, by decide +kernel, trivial, trivial, trivial, trivial, trivial, trivial, trivial, trivial, trivial, trivial, fl_RX10_37, trivial, trivial, trivial, trivial, trivial, trivial, fl_RX10_37, trivial, trivial, trivial, trivial, trivial, trivial, trivial, trivial, trivial, trivial, trivial, trivial, trivial, trivial, trivial, fl_RX10_13, trivial, trivial, trivial, trivial, trivial, trivial, trivial, trivial⟩
def mX10_measureNow : MI := (yX10_measureNow, cX10_measureNow, 2, (some .int), [(0, .aload_n 0, 1, 0, 0, 0, 0), (1, .iload_n 1, 1, 1, 0, 0, 0), (2, .aload_n 0, 1, 0, 0, 0, 0), (3, .getfield 37, 3, 10, 12, 0, 0), (6, .bipush 19, 2, 0, 0, 19, 0), (8, .iaload, 1, 0, 0, 0, 0), (9, .invokevirtual 197, 3, 0, 0, 0, 0), (12, .ireturn, 1, 0, 0, 0, 0)])
set_option maxRecDepth 20000 in
theorem okX10_measureNow : ab_ok mX10_measureNow := ⟨by decide, by decide +kernel, trivial, trivial, trivial, fl_RX10_37, trivial, trivial, trivial, trivial, trivial⟩
def mX10_limb : MI := (yX10_limb, cX10_limb, 3, (some .int), [(0, .aload_n 0, 1, 0, 0, 0, 0), (1, .iload_n 1, 1, 1, 0, 0, 0), (2, .invokevirtual 200, 3, 0, 0, 0, 0), (5, .ifCond .ne 6, 3, 11, 0, 0, 0), (8, .ldc 203, 2, 0, 0, (-1000000001), 0), (10, .ireturn, 1, 0, 0, 0, 0), (11, .iload_n 2, 1, 2, 0, 0, 0), (12, .tableswitch 80 0 4 #[36, 43, 49, 56, 70], 36, 0, 0, 0, 0), (48, .aload_n 0, 1, 0, 0, 0, 0), (49, .getfield 37, 3, 10, 12, 0, 0), (52, .iload_n 1, 1, 1, 0, 0, 0), (53, .iaload, 1, 0, 0, 0, 0), (54, .ireturn, 1, 0, 0, 0, 0), (55, .aload_n 0, 1, 0, 0, 0, 0), (56, .iload_n 1, 1, 1, 0, 0, 0), (57, .invokevirtual 204, 3, 0, 0, 0, 0), (60, .ireturn, 1, 0, 0, 0, 0), (61, .aload_n 0, 1, 0, 0, 0, 0), (62, .getfield 13, 3, 10, 2, 0, 0), (65, .iload_n 1, 1, 1, 0, 0, 0), (66, .iaload, 1, 0, 0, 0, 0), (67, .ireturn, 1, 0, 0, 0, 0), (68, .aload_n 0, 1, 0, 0, 0, 0), (69, .iload_n 1, 1, 1, 0, 0, 0), (70, .invokevirtual 190, 3, 0, 0, 0, 0), (73, .ifCond .eq 7, 3, 80, 0, 0, 0), (76, .iconst 1, 1, 0, 0, 1, 0), (77, .goto 4, 3, 81, 0, 0, 0), (80, .iconst 0, 1, 0, 0, 0, 0), (81, .ireturn, 1, 0, 0, 0, 0), (82, .aload_n 0, 1, 0, 0, 0, 0), (83, .getfield 37, 3, 10, 12, 0, 0), (86, .bipush 6, 2, 0, 0, 6, 0), (88, .iload_n 1, 1, 1, 0, 0, 0), (89, .iadd, 1, 0, 0, 0, 0), (90, .iaload, 1, 0, 0, 0, 0), (91, .ireturn, 1, 0, 0, 0, 0), (92, .iload_n 2, 1, 2, 0, 0, 0), (93, .i2l, 1, 0, 0, 0, 0), (94, .ldc2_w 208, 3, 0, 0, 0, 5), (97, .ldc2_w 210, 3, 0, 0, 0, 8), (100, .invokestatic 102, 3, 0, 0, 0, 0), (103, .ifCond .eq 21, 3, 124, 0, 0, 0), (106, .aload_n 0, 1, 0, 0, 0, 0), (107, .getfield 7, 3, 10, 1, 0, 0), (110, .iconst 4, 1, 0, 0, 4, 0), (111, .iload_n 1, 1, 1, 0, 0, 0), (112, .imul, 1, 0, 0, 0, 0), (113, .iload_n 2, 1, 2, 0, 0, 0), (114, .iadd, 1, 0, 0, 0, 0), (115, .iconst 5, 1, 0, 0, 5, 0), (116, .isub, 1, 0, 0, 0, 0), (117, .iaload, 1, 0, 0, 0, 0), (118, .bipush 9, 2, 0, 0, 9, 0), (120, .iadd, 1, 0, 0, 0, 0), (121, .goto 5, 3, 126, 0, 0, 0), (124, .ldc 112, 2, 0, 0, (-1000000002), 0), (126, .ireturn, 1, 0, 0, 0, 0)])
set_option maxRecDepth 20000 in
theorem okX10_limb : ab_ok mX10_limb := ⟨by decide, by decide +kernel, trivial, trivial, trivial, trivial, ab_in (i := 1101) rfl rfl, trivial, trivial, trivial, trivial, fl_RX10_37, trivial, trivial, trivial, trivial, trivial, trivial, trivial, trivial, fl_RX10_13, trivial, trivial, trivial, trivial, trivial, trivial, trivial, trivial, trivial, trivial, trivial, trivial, fl_RX10_37, trivial, trivial, trivial, trivial, trivial, trivial, trivial, ab_in (i := 1121) rfl rfl, ab_in (i := 1122) rfl rfl, ⟨fun z => absurd z (by decide), fun z => absurd z (by decide), fun z => absurd z (by decide), fun z => absurd z (by decide)⟩, trivial, trivial, fl_RX10_7, trivial, trivial, trivial, trivial, trivial, trivial, trivial, trivial, trivial, trivial, trivial, ab_in (i := 1033) rfl rfl, trivial, trivial⟩
def mX10_contract : MI := (yX10_contract, cX10_contract, 3, (some .int), [(0, .iload_n 1, 1, 1, 0, 0, 0), (1, .i2l, 1, 0, 0, 0, 0), (2, .lconst 0, 1, 0, 0, 0, 0), (3, .aload_n 0, 1, 0, 0, 0, 0), (4, .getfield 166, 3, 10, 3, 0, 0), (7, .iconst 1, 1, 0, 0, 1, 0), (8, .isub, 1, 0, 0, 0, 0), (9, .i2l, 1, 0, 0, 0, 0), (10, .invokestatic 102, 3, 0, 0, 0, 0), (13, .ifCond .ne 6, 3, 19, 0, 0, 0), (16, .ldc 203, 2, 0, 0, (-1000000001), 0), (18, .ireturn, 1, 0, 0, 0, 0), (19, .iload_n 2, 1, 2, 0, 0, 0), (20, .tableswitch 63 0 3 #[32, 39, 46, 53], 32, 0, 0, 0, 0), (52, .aload_n 0, 1, 0, 0, 0, 0), (53, .getfield 16, 3, 10, 4, 0, 0), (56, .iload_n 1, 1, 1, 0, 0, 0), (57, .iaload, 1, 0, 0, 0, 0), (58, .ireturn, 1, 0, 0, 0, 0), (59, .aload_n 0, 1, 0, 0, 0, 0), (60, .getfield 19, 3, 10, 5, 0, 0), (63, .iload_n 1, 1, 1, 0, 0, 0), (64, .iaload, 1, 0, 0, 0, 0), (65, .ireturn, 1, 0, 0, 0, 0), (66, .aload_n 0, 1, 0, 0, 0, 0), (67, .getfield 22, 3, 10, 6, 0, 0), (70, .iload_n 1, 1, 1, 0, 0, 0), (71, .iaload, 1, 0, 0, 0, 0), (72, .ireturn, 1, 0, 0, 0, 0), (73, .aload_n 0, 1, 0, 0, 0, 0), (74, .getfield 37, 3, 10, 12, 0, 0), (77, .bipush 12, 2, 0, 0, 12, 0), (79, .iload_n 1, 1, 1, 0, 0, 0), (80, .iadd, 1, 0, 0, 0, 0), (81, .iaload, 1, 0, 0, 0, 0), (82, .ireturn, 1, 0, 0, 0, 0), (83, .ldc 112, 2, 0, 0, (-1000000002), 0), (85, .ireturn, 1, 0, 0, 0, 0)])
set_option maxRecDepth 20000 in
theorem okX10_contract : ab_ok mX10_contract := ⟨by decide, by decide +kernel, trivial, trivial, trivial, trivial, fl_RX10_166, trivial, trivial, trivial, ⟨fun z => absurd z (by decide), fun z => absurd z (by decide), fun z => absurd z (by decide), fun z => absurd z (by decide)⟩, trivial, ab_in (i := 1101) rfl rfl, trivial, trivial, trivial, trivial, fl_RX10_16, trivial, trivial, trivial, trivial, fl_RX10_19, trivial, trivial, trivial, trivial, fl_RX10_22, trivial, trivial, trivial, trivial, fl_RX10_37, trivial, trivial, trivial, trivial, trivial, ab_in (i := 1033) rfl rfl, trivial, trivial⟩
def mX10_rate : MI := (yX10_rate, cX10_rate, 3, (some .int), [(0, .iload_n 1, 1, 1, 0, 0, 0), (1, .i2l, 1, 0, 0, 0, 0), (2, .lconst 0, 1, 0, 0, 0, 0), (3, .aload_n 0, 1, 0, 0, 0, 0), (4, .getfield 169, 3, 10, 7, 0, 0), (7, .iconst 1, 1, 0, 0, 1, 0), (8, .isub, 1, 0, 0, 0, 0), (9, .i2l, 1, 0, 0, 0, 0), (10, .invokestatic 102, 3, 0, 0, 0, 0), (13, .ifCond .ne 6, 3, 19, 0, 0, 0), (16, .ldc 203, 2, 0, 0, (-1000000001), 0), (18, .ireturn, 1, 0, 0, 0, 0), (19, .iload_n 2, 1, 2, 0, 0, 0), (20, .tableswitch 60 0 3 #[32, 39, 46, 53], 32, 0, 0, 0, 0), (52, .aload_n 0, 1, 0, 0, 0, 0), (53, .getfield 25, 3, 10, 8, 0, 0), (56, .iload_n 1, 1, 1, 0, 0, 0), (57, .iaload, 1, 0, 0, 0, 0), (58, .ireturn, 1, 0, 0, 0, 0), (59, .aload_n 0, 1, 0, 0, 0, 0), (60, .getfield 28, 3, 10, 9, 0, 0), (63, .iload_n 1, 1, 1, 0, 0, 0), (64, .iaload, 1, 0, 0, 0, 0), (65, .ireturn, 1, 0, 0, 0, 0), (66, .aload_n 0, 1, 0, 0, 0, 0), (67, .getfield 31, 3, 10, 10, 0, 0), (70, .iload_n 1, 1, 1, 0, 0, 0), (71, .iaload, 1, 0, 0, 0, 0), (72, .ireturn, 1, 0, 0, 0, 0), (73, .aload_n 0, 1, 0, 0, 0, 0), (74, .getfield 34, 3, 10, 11, 0, 0), (77, .iload_n 1, 1, 1, 0, 0, 0), (78, .iaload, 1, 0, 0, 0, 0), (79, .ireturn, 1, 0, 0, 0, 0), (80, .ldc 112, 2, 0, 0, (-1000000002), 0), (82, .ireturn, 1, 0, 0, 0, 0)])
set_option maxRecDepth 20000 in
theorem okX10_rate : ab_ok mX10_rate := ⟨by decide, by decide +kernel, trivial, trivial, trivial, trivial, fl_RX10_169, trivial, trivial, trivial, ⟨fun z => absurd z (by decide), fun z => absurd z (by decide), fun z => absurd z (by decide), fun z => absurd z (by decide)⟩, trivial, ab_in (i := 1101) rfl rfl, trivial, trivial, trivial, trivial, fl_RX10_25, trivial, trivial, trivial, trivial, fl_RX10_28, trivial, trivial, trivial, trivial, fl_RX10_31, trivial, trivial, trivial, trivial, fl_RX10_34, trivial, trivial, trivial, ab_in (i := 1033) rfl rfl, trivial, trivial⟩
def mX10_remember : MI := (yX10_remember, cX10_remember, 2, none, [(0, .aload_n 0, 1, 0, 0, 0, 0), (1, .getfield 184, 3, 10, 33, 0, 0), (4, .bipush 20, 2, 0, 0, 20, 0), (6, .if_icmp .ne 44, 3, 50, 0, 0, 0), (9, .bipush 22, 2, 0, 0, 22, 0), (11, .istore_n 1, 1, 1, 0, 0, 0), (12, .iload_n 1, 1, 1, 0, 0, 0), (13, .sipush 440, 3, 0, 0, 440, 0), (16, .if_icmp .ge 24, 3, 40, 0, 0, 0), (19, .aload_n 0, 1, 0, 0, 0, 0), (20, .getfield 77, 3, 10, 34, 0, 0), (23, .iload_n 1, 1, 1, 0, 0, 0), (24, .bipush 22, 2, 0, 0, 22, 0), (26, .isub, 1, 0, 0, 0, 0), (27, .aload_n 0, 1, 0, 0, 0, 0), (28, .getfield 77, 3, 10, 34, 0, 0), (31, .iload_n 1, 1, 1, 0, 0, 0), (32, .iaload, 1, 0, 0, 0, 0), (33, .iastore, 1, 0, 0, 0, 0), (34, .iinc 1 1, 3, 1, 0, 1, 0), (37, .goto (-25), 3, 12, 0, 0, 0), (40, .aload_n 0, 1, 0, 0, 0, 0), (41, .dup, 1, 0, 0, 0, 0), (42, .getfield 184, 3, 10, 33, 0, 0), (45, .iconst 1, 1, 0, 0, 1, 0), (46, .isub, 1, 0, 0, 0, 0), (47, .putfield 184, 3, 10, 33, 0, 0), (50, .iconst 0, 1, 0, 0, 0, 0), (51, .istore_n 1, 1, 1, 0, 0, 0), (52, .iload_n 1, 1, 1, 0, 0, 0), (53, .bipush 22, 2, 0, 0, 22, 0), (55, .if_icmp .ge 29, 3, 84, 0, 0, 0), (58, .aload_n 0, 1, 0, 0, 0, 0), (59, .getfield 77, 3, 10, 34, 0, 0), (62, .bipush 22, 2, 0, 0, 22, 0), (64, .aload_n 0, 1, 0, 0, 0, 0), (65, .getfield 184, 3, 10, 33, 0, 0), (68, .imul, 1, 0, 0, 0, 0), (69, .iload_n 1, 1, 1, 0, 0, 0), (70, .iadd, 1, 0, 0, 0, 0), (71, .aload_n 0, 1, 0, 0, 0, 0), (72, .getfield 37, 3, 10, 12, 0, 0), (75, .iload_n 1, 1, 1, 0, 0, 0), (76, .iaload, 1, 0, 0, 0, 0), (77, .iastore, 1, 0, 0, 0, 0), (78, .iinc 1 1, 3, 1, 0, 1, 0), (81, .goto (-29), 3, 52, 0, 0, 0), (84, .aload_n 0, 1, 0, 0, 0, 0), (85, .dup, 1, 0, 0, 0, 0), (86, .getfield 184, 3, 10, 33, 0, 0), (89, .iconst 1, 1, 0, 0, 1, 0), (90, .iadd, 1, 0, 0, 0, 0), (91, .putfield 184, 3, 10, 33, 0, 0), (94, .return_, 1, 0, 0, 0, 0)])
set_option maxRecDepth 20000 in
theorem okX10_remember : ab_ok mX10_remember := ⟨by decide, by decide +kernel, trivial, fl_RX10_184, trivial, trivial, trivial, trivial, trivial, trivial, trivial, trivial, fl_RX10_77, trivial, trivial, trivial, trivial, fl_RX10_77, trivial, trivial, trivial, trivial, trivial, trivial, trivial, fl_RX10_184, trivial, trivial, (gl_RX10_184 _), trivial, trivial, trivial, trivial, trivial, trivial, fl_RX10_77, trivial, trivial, fl_RX10_184, trivial, trivial, trivial, trivial, fl_RX10_37, trivial, trivial, trivial, trivial, trivial, trivial, trivial, fl_RX10_184, trivial, trivial, (gl_RX10_184 _), trivial, trivial⟩
def mX10_pass : MI := (yX10_pass, cX10_pass, 3, none, [(0, .iconst 0, 1, 0, 0, 0, 0), (1, .istore_n 1, 1, 1, 0, 0, 0), (2, .iload_n 1, 1, 1, 0, 0, 0), (3, .aload_n 0, 1, 0, 0, 0, 0), (4, .getfield 166, 3, 10, 3, 0, 0), (7, .if_icmp .ge 85, 3, 92, 0, 0, 0), (10, .aload_n 0, 1, 0, 0, 0, 0), (11, .getfield 16, 3, 10, 4, 0, 0), (14, .iload_n 1, 1, 1, 0, 0, 0), (15, .iaload, 1, 0, 0, 0, 0), (16, .aload_n 0, 1, 0, 0, 0, 0), (17, .getfield 37, 3, 10, 12, 0, 0), (20, .bipush 19, 2, 0, 0, 19, 0), (22, .iaload, 1, 0, 0, 0, 0), (23, .if_icmp .ne 63, 3, 86, 0, 0, 0), (26, .aload_n 0, 1, 0, 0, 0, 0), (27, .getfield 22, 3, 10, 6, 0, 0), (30, .iload_n 1, 1, 1, 0, 0, 0), (31, .iaload, 1, 0, 0, 0, 0), (32, .aload_n 0, 1, 0, 0, 0, 0), (33, .aload_n 0, 1, 0, 0, 0, 0), (34, .getfield 19, 3, 10, 5, 0, 0), (37, .iload_n 1, 1, 1, 0, 0, 0), (38, .iaload, 1, 0, 0, 0, 0), (39, .invokevirtual 204, 3, 0, 0, 0, 0), (42, .imul, 1, 0, 0, 0, 0), (43, .istore_n 2, 1, 2, 0, 0, 0), (44, .aload_n 0, 1, 0, 0, 0, 0), (45, .getfield 37, 3, 10, 12, 0, 0), (48, .bipush 12, 2, 0, 0, 12, 0), (50, .iload_n 1, 1, 1, 0, 0, 0), (51, .iadd, 1, 0, 0, 0, 0), (52, .iload_n 2, 1, 2, 0, 0, 0), (53, .iastore, 1, 0, 0, 0, 0), (54, .aload_n 0, 1, 0, 0, 0, 0), (55, .getfield 37, 3, 10, 12, 0, 0), (58, .bipush 20, 2, 0, 0, 20, 0), (60, .dup2, 1, 0, 0, 0, 0), (61, .iaload, 1, 0, 0, 0, 0), (62, .iload_n 2, 1, 2, 0, 0, 0), (63, .iadd, 1, 0, 0, 0, 0), (64, .iastore, 1, 0, 0, 0, 0), (65, .aload_n 0, 1, 0, 0, 0, 0), (66, .getfield 37, 3, 10, 12, 0, 0), (69, .bipush 21, 2, 0, 0, 21, 0), (71, .dup2, 1, 0, 0, 0, 0), (72, .iaload, 1, 0, 0, 0, 0), (73, .iload_n 2, 1, 2, 0, 0, 0), (74, .ifCond .ne 9, 3, 83, 0, 0, 0), (77, .iconst 1, 1, 0, 0, 1, 0), (78, .iload_n 1, 1, 1, 0, 0, 0), (79, .ishl, 1, 0, 0, 0, 0), (80, .goto 4, 3, 84, 0, 0, 0), (83, .iconst 0, 1, 0, 0, 0, 0), (84, .ior, 1, 0, 0, 0, 0), (85, .iastore, 1, 0, 0, 0, 0), (86, .iinc 1 1, 3, 1, 0, 1, 0), (89, .goto (-87), 3, 2, 0, 0, 0), (92, .aload_n 0, 1, 0, 0, 0, 0), (93, .getfield 37, 3, 10, 12, 0, 0), (96, .bipush 19, 2, 0, 0, 19, 0), (98, .dup2, 1, 0, 0, 0, 0), (99, .iaload, 1, 0, 0, 0, 0), (100, .iconst 1, 1, 0, 0, 1, 0), (101, .iadd, 1, 0, 0, 0, 0), (102, .iastore, 1, 0, 0, 0, 0), (103, .return_, 1, 0, 0, 0, 0)])
set_option maxRecDepth 20000 in
theorem okX10_pass : ab_ok mX10_pass := ⟨by decide, by decide +kernel, trivial, trivial, trivial, trivial, fl_RX10_166, trivial, trivial, fl_RX10_16, trivial, trivial, trivial, fl_RX10_37, trivial, trivial, trivial, trivial, fl_RX10_22, trivial, trivial, trivial, trivial, fl_RX10_19, trivial, trivial, trivial, trivial, trivial, trivial, fl_RX10_37, trivial, trivial, trivial, trivial, trivial, trivial, fl_RX10_37, trivial, trivial, trivial, trivial, trivial, trivial, trivial, fl_RX10_37, trivial, trivial, trivial, trivial, trivial, trivial, trivial, trivial, trivial, trivial, trivial, trivial, trivial, trivial, trivial, fl_RX10_37, trivial, trivial, trivial, trivial, trivial, trivial, trivial, trivial⟩
def mX10_seasonsRefused : MI := (yX10_seasonsRefused, cX10_seasonsRefused, 2, (some .int), [(0, .iload_n 1, 1, 1, 0, 0, 0), (1, .i2l, 1, 0, 0, 0, 0), (2, .lconst 1, 1, 0, 0, 0, 1), (3, .ldc2_w 212, 3, 0, 0, 0, 40), (6, .invokestatic 102, 3, 0, 0, 0, 0), (9, .ifCond .ne 6, 3, 15, 0, 0, 0), (12, .ldc 112, 2, 0, 0, (-1000000002), 0), (14, .ireturn, 1, 0, 0, 0, 0), (15, .aload_n 0, 1, 0, 0, 0, 0), (16, .getfield 99, 3, 10, 0, 0, 0), (19, .ifCond .ne 8, 3, 27, 0, 0, 0), (22, .ldc 214, 2, 0, 0, (-1000000003), 0), (24, .goto 22, 3, 46, 0, 0, 0), (27, .aload_n 0, 1, 0, 0, 0, 0), (28, .getfield 37, 3, 10, 12, 0, 0), (31, .bipush 19, 2, 0, 0, 19, 0), (33, .iaload, 1, 0, 0, 0, 0), (34, .sipush 9000, 3, 0, 0, 9000, 0), (37, .if_icmp .le 8, 3, 45, 0, 0, 0), (40, .ldc 116, 2, 0, 0, (-1000000004), 0), (42, .goto 4, 3, 46, 0, 0, 0), (45, .iconst 0, 1, 0, 0, 0, 0), (46, .ireturn, 1, 0, 0, 0, 0)])
set_option maxRecDepth 20000 in
theorem okX10_seasonsRefused : ab_ok mX10_seasonsRefused := ⟨by decide, by decide +kernel, trivial, trivial, trivial, ab_in (i := 1139) rfl rfl, ⟨fun z => absurd z (by decide), fun z => absurd z (by decide), fun z => absurd z (by decide), fun z => absurd z (by decide)⟩, trivial, ab_in (i := 1033) rfl rfl, trivial, trivial, fl_RX10_99, trivial, ab_in (i := 1140) rfl rfl, trivial, trivial, fl_RX10_37, trivial, trivial, trivial, trivial, ab_in (i := 1034) rfl rfl, trivial, trivial, trivial, trivial⟩
def mX10_season : MI := (yX10_season, cX10_season, 4, (some .int), [(0, .aload_n 0, 1, 0, 0, 0, 0), (1, .iload_n 1, 1, 1, 0, 0, 0), (2, .invokevirtual 215, 3, 0, 0, 0, 0), (5, .istore_n 2, 1, 2, 0, 0, 0), (6, .iload_n 2, 1, 2, 0, 0, 0), (7, .ifCond .eq 5, 3, 12, 0, 0, 0), (10, .iload_n 2, 1, 2, 0, 0, 0), (11, .ireturn, 1, 0, 0, 0, 0), (12, .aload_n 0, 1, 0, 0, 0, 0), (13, .invokevirtual 218, 3, 0, 0, 0, 0), (16, .iconst 0, 1, 0, 0, 0, 0), (17, .istore_n 3, 1, 3, 0, 0, 0), (18, .iload_n 3, 1, 3, 0, 0, 0), (19, .iload_n 1, 1, 1, 0, 0, 0), (20, .if_icmp .ge 13, 3, 33, 0, 0, 0), (23, .aload_n 0, 1, 0, 0, 0, 0), (24, .invokevirtual 221, 3, 0, 0, 0, 0), (27, .iinc 3 1, 3, 3, 0, 1, 0), (30, .goto (-12), 3, 18, 0, 0, 0), (33, .aload_n 0, 1, 0, 0, 0, 0), (34, .getfield 37, 3, 10, 12, 0, 0), (37, .bipush 19, 2, 0, 0, 19, 0), (39, .iaload, 1, 0, 0, 0, 0), (40, .ireturn, 1, 0, 0, 0, 0)])
set_option maxRecDepth 20000 in
theorem okX10_season : ab_ok mX10_season := ⟨by decide, by decide +kernel, trivial, trivial, trivial, trivial, trivial, trivial, trivial, trivial, trivial, trivial, trivial, trivial, trivial, trivial, trivial, trivial, trivial, trivial, trivial, trivial, fl_RX10_37, trivial, trivial, trivial, trivial⟩
def mX10_swell : MI := (yX10_swell, cX10_swell, 3, none, [(0, .aload_n 0, 1, 0, 0, 0, 0), (1, .getfield 37, 3, 10, 12, 0, 0), (4, .iload_n 1, 1, 1, 0, 0, 0), (5, .aload_n 0, 1, 0, 0, 0, 0), (6, .getfield 37, 3, 10, 12, 0, 0), (9, .iload_n 1, 1, 1, 0, 0, 0), (10, .iaload, 1, 0, 0, 0, 0), (11, .iload_n 2, 1, 2, 0, 0, 0), (12, .iadd, 1, 0, 0, 0, 0), (13, .sipush 140, 3, 0, 0, 140, 0), (16, .if_icmp .ge 14, 3, 30, 0, 0, 0), (19, .aload_n 0, 1, 0, 0, 0, 0), (20, .getfield 37, 3, 10, 12, 0, 0), (23, .iload_n 1, 1, 1, 0, 0, 0), (24, .iaload, 1, 0, 0, 0, 0), (25, .iload_n 2, 1, 2, 0, 0, 0), (26, .iadd, 1, 0, 0, 0, 0), (27, .goto 6, 3, 33, 0, 0, 0), (30, .sipush 140, 3, 0, 0, 140, 0), (33, .iastore, 1, 0, 0, 0, 0), (34, .return_, 1, 0, 0, 0, 0)])
set_option maxRecDepth 20000 in
theorem okX10_swell : ab_ok mX10_swell := ⟨by decide, by decide +kernel, trivial, fl_RX10_37, trivial, trivial, fl_RX10_37, trivial, trivial, trivial, trivial, trivial, trivial, trivial, fl_RX10_37, trivial, trivial, trivial, trivial, trivial, trivial, trivial, trivial, trivial⟩
def mX10_shrink : MI := (yX10_shrink, cX10_shrink, 2, none, [(0, .aload_n 0, 1, 0, 0, 0, 0), (1, .getfield 37, 3, 10, 12, 0, 0), (4, .iload_n 1, 1, 1, 0, 0, 0), (5, .aload_n 0, 1, 0, 0, 0, 0), (6, .getfield 37, 3, 10, 12, 0, 0), (9, .iload_n 1, 1, 1, 0, 0, 0), (10, .iaload, 1, 0, 0, 0, 0), (11, .iconst 4, 1, 0, 0, 4, 0), (12, .if_icmp .le 14, 3, 26, 0, 0, 0), (15, .aload_n 0, 1, 0, 0, 0, 0), (16, .getfield 37, 3, 10, 12, 0, 0), (19, .iload_n 1, 1, 1, 0, 0, 0), (20, .iaload, 1, 0, 0, 0, 0), (21, .iconst 3, 1, 0, 0, 3, 0), (22, .isub, 1, 0, 0, 0, 0), (23, .goto 4, 3, 27, 0, 0, 0), (26, .iconst 1, 1, 0, 0, 1, 0), (27, .iastore, 1, 0, 0, 0, 0), (28, .return_, 1, 0, 0, 0, 0)])
set_option maxRecDepth 20000 in
theorem okX10_shrink : ab_ok mX10_shrink := ⟨by decide, by decide +kernel, trivial, fl_RX10_37, trivial, trivial, fl_RX10_37, trivial, trivial, trivial, trivial, trivial, fl_RX10_37, trivial, trivial, trivial, trivial, trivial, trivial, trivial, trivial, trivial⟩
def mX10_gout : MI := (yX10_gout, cX10_gout, 3, (some .int), [(0, .aload_n 0, 1, 0, 0, 0, 0), (1, .iload_n 1, 1, 1, 0, 0, 0), (2, .invokevirtual 200, 3, 0, 0, 0, 0), (5, .ifCond .ne 6, 3, 11, 0, 0, 0), (8, .ldc 203, 2, 0, 0, (-1000000001), 0), (10, .ireturn, 1, 0, 0, 0, 0), (11, .iload_n 2, 1, 2, 0, 0, 0), (12, .i2l, 1, 0, 0, 0, 0), (13, .lconst 1, 1, 0, 0, 0, 1), (14, .ldc2_w 224, 3, 0, 0, 0, 20), (17, .invokestatic 102, 3, 0, 0, 0, 0), (20, .ifCond .ne 6, 3, 26, 0, 0, 0), (23, .ldc 112, 2, 0, 0, (-1000000002), 0), (25, .ireturn, 1, 0, 0, 0, 0), (26, .aload_n 0, 1, 0, 0, 0, 0), (27, .iload_n 1, 1, 1, 0, 0, 0), (28, .invokevirtual 190, 3, 0, 0, 0, 0), (31, .ifCond .ne 6, 3, 37, 0, 0, 0), (34, .ldc 214, 2, 0, 0, (-1000000003), 0), (36, .ireturn, 1, 0, 0, 0, 0), (37, .aload_n 0, 1, 0, 0, 0, 0), (38, .invokevirtual 218, 3, 0, 0, 0, 0), (41, .aload_n 0, 1, 0, 0, 0, 0), (42, .iload_n 1, 1, 1, 0, 0, 0), (43, .iload_n 2, 1, 2, 0, 0, 0), (44, .invokevirtual 226, 3, 0, 0, 0, 0), (47, .aload_n 0, 1, 0, 0, 0, 0), (48, .getfield 37, 3, 10, 12, 0, 0), (51, .iload_n 1, 1, 1, 0, 0, 0), (52, .iaload, 1, 0, 0, 0, 0), (53, .ireturn, 1, 0, 0, 0, 0)])
set_option maxRecDepth 20000 in
theorem okX10_gout : ab_ok mX10_gout := ⟨by decide, by decide +kernel, trivial, trivial, trivial, trivial, ab_in (i := 1101) rfl rfl, trivial, trivial, trivial, trivial, ab_in (i := 1153) rfl rfl, ⟨fun z => absurd z (by decide), fun z => absurd z (by decide), fun z => absurd z (by decide), fun z => absurd z (by decide)⟩, trivial, ab_in (i := 1033) rfl rfl, trivial, trivial, trivial, trivial, trivial, ab_in (i := 1140) rfl rfl, trivial, trivial, trivial, trivial, trivial, trivial, trivial, trivial, fl_RX10_37, trivial, trivial, trivial, trivial⟩
def mX10_stub : MI := (yX10_stub, cX10_stub, 2, (some .int), [(0, .aload_n 0, 1, 0, 0, 0, 0), (1, .iload_n 1, 1, 1, 0, 0, 0), (2, .invokevirtual 200, 3, 0, 0, 0, 0), (5, .ifCond .ne 6, 3, 11, 0, 0, 0), (8, .ldc 203, 2, 0, 0, (-1000000001), 0), (10, .ireturn, 1, 0, 0, 0, 0), (11, .aload_n 0, 1, 0, 0, 0, 0), (12, .iload_n 1, 1, 1, 0, 0, 0), (13, .invokevirtual 190, 3, 0, 0, 0, 0), (16, .ifCond .ne 6, 3, 22, 0, 0, 0), (19, .ldc 214, 2, 0, 0, (-1000000003), 0), (21, .ireturn, 1, 0, 0, 0, 0), (22, .aload_n 0, 1, 0, 0, 0, 0), (23, .invokevirtual 218, 3, 0, 0, 0, 0), (26, .aload_n 0, 1, 0, 0, 0, 0), (27, .iload_n 1, 1, 1, 0, 0, 0), (28, .invokevirtual 230, 3, 0, 0, 0, 0), (31, .aload_n 0, 1, 0, 0, 0, 0), (32, .getfield 37, 3, 10, 12, 0, 0), (35, .iload_n 1, 1, 1, 0, 0, 0), (36, .iaload, 1, 0, 0, 0, 0), (37, .ireturn, 1, 0, 0, 0, 0)])
set_option maxRecDepth 20000 in
theorem okX10_stub : ab_ok mX10_stub := ⟨by decide, by decide +kernel, trivial, trivial, trivial, trivial, ab_in (i := 1101) rfl rfl, trivial, trivial, trivial, trivial, trivial, ab_in (i := 1140) rfl rfl, trivial, trivial, trivial, trivial, trivial, trivial, trivial, fl_RX10_37, trivial, trivial, trivial, trivial⟩
def mX10_dies : MI := (yX10_dies, cX10_dies, 2, (some .int), [(0, .aload_n 0, 1, 0, 0, 0, 0), (1, .iload_n 1, 1, 1, 0, 0, 0), (2, .invokevirtual 200, 3, 0, 0, 0, 0), (5, .ifCond .ne 6, 3, 11, 0, 0, 0), (8, .ldc 203, 2, 0, 0, (-1000000001), 0), (10, .ireturn, 1, 0, 0, 0, 0), (11, .aload_n 0, 1, 0, 0, 0, 0), (12, .iload_n 1, 1, 1, 0, 0, 0), (13, .invokevirtual 190, 3, 0, 0, 0, 0), (16, .ifCond .ne 6, 3, 22, 0, 0, 0), (19, .ldc 214, 2, 0, 0, (-1000000003), 0), (21, .ireturn, 1, 0, 0, 0, 0), (22, .aload_n 0, 1, 0, 0, 0, 0), (23, .invokevirtual 218, 3, 0, 0, 0, 0), (26, .aload_n 0, 1, 0, 0, 0, 0), (27, .getfield 37, 3, 10, 12, 0, 0), (30, .bipush 18, 2, 0, 0, 18, 0), (32, .dup2, 1, 0, 0, 0, 0), (33, .iaload, 1, 0, 0, 0, 0), (34, .iconst 1, 1, 0, 0, 1, 0), (35, .iload_n 1, 1, 1, 0, 0, 0), (36, .ishl, 1, 0, 0, 0, 0), (37, .iconst (-1), 1, 0, 0, (-1), 0), (38, .ixor, 1, 0, 0, 0, 0), (39, .iand, 1, 0, 0, 0, 0), (40, .iastore, 1, 0, 0, 0, 0), (41, .aload_n 0, 1, 0, 0, 0, 0), (42, .iload_n 1, 1, 1, 0, 0, 0), (43, .invokevirtual 204, 3, 0, 0, 0, 0), (46, .ireturn, 1, 0, 0, 0, 0)])
set_option maxRecDepth 20000 in
theorem okX10_dies : ab_ok mX10_dies := ⟨by decide, by decide +kernel, trivial, trivial, trivial, trivial, ab_in (i := 1101) rfl rfl, trivial, trivial, trivial, trivial, trivial, ab_in (i := 1140) rfl rfl, trivial, trivial, trivial, trivial, fl_RX10_37, trivial, trivial, trivial, trivial, trivial, trivial, trivial, trivial, trivial, trivial, trivial, trivial, trivial, trivial, trivial⟩
def mX10_copy : MI := (yX10_copy, cX10_copy, 2, (some .int), [(0, .aload_n 0, 1, 0, 0, 0, 0), (1, .iload_n 1, 1, 1, 0, 0, 0), (2, .invokevirtual 200, 3, 0, 0, 0, 0), (5, .ifCond .ne 6, 3, 11, 0, 0, 0), (8, .ldc 203, 2, 0, 0, (-1000000001), 0), (10, .ireturn, 1, 0, 0, 0, 0), (11, .aload_n 0, 1, 0, 0, 0, 0), (12, .iload_n 1, 1, 1, 0, 0, 0), (13, .invokevirtual 190, 3, 0, 0, 0, 0), (16, .ifCond .ne 6, 3, 22, 0, 0, 0), (19, .ldc 214, 2, 0, 0, (-1000000003), 0), (21, .ireturn, 1, 0, 0, 0, 0), (22, .aload_n 0, 1, 0, 0, 0, 0), (23, .invokevirtual 218, 3, 0, 0, 0, 0), (26, .aload_n 0, 1, 0, 0, 0, 0), (27, .getfield 37, 3, 10, 12, 0, 0), (30, .bipush 6, 2, 0, 0, 6, 0), (32, .iload_n 1, 1, 1, 0, 0, 0), (33, .iadd, 1, 0, 0, 0, 0), (34, .aload_n 0, 1, 0, 0, 0, 0), (35, .iload_n 1, 1, 1, 0, 0, 0), (36, .aload_n 0, 1, 0, 0, 0, 0), (37, .getfield 37, 3, 10, 12, 0, 0), (40, .bipush 19, 2, 0, 0, 19, 0), (42, .iaload, 1, 0, 0, 0, 0), (43, .invokevirtual 194, 3, 0, 0, 0, 0), (46, .iastore, 1, 0, 0, 0, 0), (47, .aload_n 0, 1, 0, 0, 0, 0), (48, .getfield 37, 3, 10, 12, 0, 0), (51, .bipush 6, 2, 0, 0, 6, 0), (53, .iload_n 1, 1, 1, 0, 0, 0), (54, .iadd, 1, 0, 0, 0, 0), (55, .iaload, 1, 0, 0, 0, 0), (56, .ireturn, 1, 0, 0, 0, 0)])
set_option maxRecDepth 20000 in
theorem okX10_copy : ab_ok mX10_copy := ⟨by decide, by decide +kernel, trivial, trivial, trivial, trivial, ab_in (i := 1101) rfl rfl, trivial, trivial, trivial, trivial, trivial, ab_in (i := 1140) rfl rfl, trivial, trivial, trivial, trivial, fl_RX10_37, trivial, trivial, trivial, trivial, trivial, trivial, fl_RX10_37, trivial, trivial, trivial, trivial, trivial, fl_RX10_37, trivial, trivial, trivial, trivial, trivial, trivial⟩
def mX10_draw : MI := (yX10_draw, cX10_draw, 2, (some .int), [(0, .aload_n 0, 1, 0, 0, 0, 0), (1, .aload_n 0, 1, 0, 0, 0, 0), (2, .getfield 234, 3, 10, 13, 0, 0), (5, .i2l, 1, 0, 0, 0, 0), (6, .ldc2_w 237, 3, 0, 0, 0, 1103515245), (9, .lmul, 1, 0, 0, 0, 0), (10, .ldc2_w 239, 3, 0, 0, 0, 12345), (13, .ladd, 1, 0, 0, 0, 0), (14, .ldc2_w 241, 3, 0, 0, 0, 2147483648), (17, .lrem, 1, 0, 0, 0, 0), (18, .l2i, 1, 0, 0, 0, 0), (19, .putfield 234, 3, 10, 13, 0, 0), (22, .aload_n 0, 1, 0, 0, 0, 0), (23, .getfield 234, 3, 10, 13, 0, 0), (26, .ldc 243, 2, 0, 0, 65536, 0), (28, .idiv, 1, 0, 0, 0, 0), (29, .iload_n 1, 1, 1, 0, 0, 0), (30, .irem, 1, 0, 0, 0, 0), (31, .ireturn, 1, 0, 0, 0, 0)])
set_option maxRecDepth 20000 in
theorem okX10_draw : ab_ok mX10_draw := ⟨by decide, by decide +kernel, trivial, trivial, fl_RX10_234, trivial, ab_in (i := 1186) rfl rfl, trivial, ab_in (i := 1187) rfl rfl, trivial, ab_in (i := 1188) rfl rfl, trivial, trivial, (gl_RX10_234 _), trivial, fl_RX10_234, ab_in (i := 1189) rfl rfl, trivial, trivial, trivial, trivial, trivial⟩
def mX10_drawn : MI := (yX10_drawn, cX10_drawn, 4, none, [(0, .aload_n 0, 1, 0, 0, 0, 0), (1, .bipush 6, 2, 0, 0, 6, 0), (3, .invokevirtual 244, 3, 0, 0, 0, 0), (6, .istore_n 1, 1, 1, 0, 0, 0), (7, .iload_n 1, 1, 1, 0, 0, 0), (8, .iconst 1, 1, 0, 0, 1, 0), (9, .if_icmp .le 4, 3, 13, 0, 0, 0), (12, .return_, 1, 0, 0, 0, 0), (13, .aload_n 0, 1, 0, 0, 0, 0), (14, .aload_n 0, 1, 0, 0, 0, 0), (15, .getfield 99, 3, 10, 0, 0, 0), (18, .invokevirtual 244, 3, 0, 0, 0, 0), (21, .istore_n 2, 1, 2, 0, 0, 0), (22, .iload_n 1, 1, 1, 0, 0, 0), (23, .ifCond .ne 14, 3, 37, 0, 0, 0), (26, .aload_n 0, 1, 0, 0, 0, 0), (27, .bipush 20, 2, 0, 0, 20, 0), (29, .invokevirtual 244, 3, 0, 0, 0, 0), (32, .iconst 1, 1, 0, 0, 1, 0), (33, .iadd, 1, 0, 0, 0, 0), (34, .goto 4, 3, 38, 0, 0, 0), (37, .iconst 0, 1, 0, 0, 0, 0), (38, .istore_n 3, 1, 3, 0, 0, 0), (39, .aload_n 0, 1, 0, 0, 0, 0), (40, .iload_n 2, 1, 2, 0, 0, 0), (41, .invokevirtual 190, 3, 0, 0, 0, 0), (44, .ifCond .eq 16, 3, 60, 0, 0, 0), (47, .iload_n 1, 1, 1, 0, 0, 0), (48, .ifCond .ne 12, 3, 60, 0, 0, 0), (51, .aload_n 0, 1, 0, 0, 0, 0), (52, .iload_n 2, 1, 2, 0, 0, 0), (53, .iload_n 3, 1, 3, 0, 0, 0), (54, .invokevirtual 226, 3, 0, 0, 0, 0), (57, .goto 16, 3, 73, 0, 0, 0), (60, .aload_n 0, 1, 0, 0, 0, 0), (61, .iload_n 2, 1, 2, 0, 0, 0), (62, .invokevirtual 190, 3, 0, 0, 0, 0), (65, .ifCond .eq 8, 3, 73, 0, 0, 0), (68, .aload_n 0, 1, 0, 0, 0, 0), (69, .iload_n 2, 1, 2, 0, 0, 0), (70, .invokevirtual 230, 3, 0, 0, 0, 0), (73, .return_, 1, 0, 0, 0, 0)])
set_option maxRecDepth 20000 in
theorem okX10_drawn : ab_ok mX10_drawn := ⟨by decide, by decide +kernel, trivial, trivial, trivial, trivial, trivial, trivial, trivial, trivial, trivial, trivial, fl_RX10_99, trivial, trivial, trivial, trivial, trivial, trivial, trivial, trivial, trivial, trivial, trivial, trivial, trivial, trivial, trivial, trivial, trivial, trivial, trivial, trivial, trivial, trivial, trivial, trivial, trivial, trivial, trivial, trivial, trivial, trivial, trivial, trivial⟩
def mX10_drift : MI := (yX10_drift, cX10_drift, 4, (some .int), [(0, .aload_n 0, 1, 0, 0, 0, 0), (1, .iload_n 1, 1, 1, 0, 0, 0), (2, .invokevirtual 215, 3, 0, 0, 0, 0), (5, .istore_n 2, 1, 2, 0, 0, 0), (6, .iload_n 2, 1, 2, 0, 0, 0), (7, .ifCond .eq 5, 3, 12, 0, 0, 0), (10, .iload_n 2, 1, 2, 0, 0, 0), (11, .ireturn, 1, 0, 0, 0, 0), (12, .aload_n 0, 1, 0, 0, 0, 0), (13, .invokevirtual 218, 3, 0, 0, 0, 0), (16, .iconst 0, 1, 0, 0, 0, 0), (17, .istore_n 3, 1, 3, 0, 0, 0), (18, .iload_n 3, 1, 3, 0, 0, 0), (19, .iload_n 1, 1, 1, 0, 0, 0), (20, .if_icmp .ge 17, 3, 37, 0, 0, 0), (23, .aload_n 0, 1, 0, 0, 0, 0), (24, .invokevirtual 247, 3, 0, 0, 0, 0), (27, .aload_n 0, 1, 0, 0, 0, 0), (28, .invokevirtual 221, 3, 0, 0, 0, 0), (31, .iinc 3 1, 3, 3, 0, 1, 0), (34, .goto (-16), 3, 18, 0, 0, 0), (37, .aload_n 0, 1, 0, 0, 0, 0), (38, .getfield 37, 3, 10, 12, 0, 0), (41, .bipush 19, 2, 0, 0, 19, 0), (43, .iaload, 1, 0, 0, 0, 0), (44, .ireturn, 1, 0, 0, 0, 0)])
set_option maxRecDepth 20000 in
theorem okX10_drift : ab_ok mX10_drift := ⟨by decide, by decide +kernel, trivial, trivial, trivial, trivial, trivial, trivial, trivial, trivial, trivial, trivial, trivial, trivial, trivial, trivial, trivial, trivial, trivial, trivial, trivial, trivial, trivial, trivial, fl_RX10_37, trivial, trivial, trivial, trivial⟩
def mX10_undo : MI := (yX10_undo, cX10_undo, 2, (some .int), [(0, .aload_n 0, 1, 0, 0, 0, 0), (1, .getfield 184, 3, 10, 33, 0, 0), (4, .ifCond .ne 6, 3, 10, 0, 0, 0), (7, .ldc 214, 2, 0, 0, (-1000000003), 0), (9, .ireturn, 1, 0, 0, 0, 0), (10, .aload_n 0, 1, 0, 0, 0, 0), (11, .dup, 1, 0, 0, 0, 0), (12, .getfield 184, 3, 10, 33, 0, 0), (15, .iconst 1, 1, 0, 0, 1, 0), (16, .isub, 1, 0, 0, 0, 0), (17, .putfield 184, 3, 10, 33, 0, 0), (20, .iconst 0, 1, 0, 0, 0, 0), (21, .istore_n 1, 1, 1, 0, 0, 0), (22, .iload_n 1, 1, 1, 0, 0, 0), (23, .bipush 22, 2, 0, 0, 22, 0), (25, .if_icmp .ge 29, 3, 54, 0, 0, 0), (28, .aload_n 0, 1, 0, 0, 0, 0), (29, .getfield 37, 3, 10, 12, 0, 0), (32, .iload_n 1, 1, 1, 0, 0, 0), (33, .aload_n 0, 1, 0, 0, 0, 0), (34, .getfield 77, 3, 10, 34, 0, 0), (37, .bipush 22, 2, 0, 0, 22, 0), (39, .aload_n 0, 1, 0, 0, 0, 0), (40, .getfield 184, 3, 10, 33, 0, 0), (43, .imul, 1, 0, 0, 0, 0), (44, .iload_n 1, 1, 1, 0, 0, 0), (45, .iadd, 1, 0, 0, 0, 0), (46, .iaload, 1, 0, 0, 0, 0), (47, .iastore, 1, 0, 0, 0, 0), (48, .iinc 1 1, 3, 1, 0, 1, 0), (51, .goto (-29), 3, 22, 0, 0, 0), (54, .aload_n 0, 1, 0, 0, 0, 0), (55, .getfield 184, 3, 10, 33, 0, 0), (58, .ireturn, 1, 0, 0, 0, 0)])
set_option maxRecDepth 20000 in
theorem okX10_undo : ab_ok mX10_undo := ⟨by decide, by decide +kernel, trivial, fl_RX10_184, trivial, ab_in (i := 1140) rfl rfl, trivial, trivial, trivial, fl_RX10_184, trivial, trivial, (gl_RX10_184 _), trivial, trivial, trivial, trivial, trivial, trivial, fl_RX10_37, trivial, trivial, fl_RX10_77, trivial, trivial, fl_RX10_184, trivial, trivial, trivial, trivial, trivial, trivial, trivial, trivial, fl_RX10_184, trivial, trivial⟩
def mX10_firstNought : MI := (yX10_firstNought, cX10_firstNought, 4, (some .int), [(0, .iconst (-1), 1, 0, 0, (-1), 0), (1, .istore_n 1, 1, 1, 0, 0, 0), (2, .iconst 0, 1, 0, 0, 0, 0), (3, .istore_n 2, 1, 2, 0, 0, 0), (4, .iload_n 2, 1, 2, 0, 0, 0), (5, .aload_n 0, 1, 0, 0, 0, 0), (6, .getfield 166, 3, 10, 3, 0, 0), (9, .if_icmp .ge 79, 3, 88, 0, 0, 0), (12, .aload_n 0, 1, 0, 0, 0, 0), (13, .getfield 16, 3, 10, 4, 0, 0), (16, .iload_n 2, 1, 2, 0, 0, 0), (17, .iaload, 1, 0, 0, 0, 0), (18, .aload_n 0, 1, 0, 0, 0, 0), (19, .getfield 37, 3, 10, 12, 0, 0), (22, .bipush 19, 2, 0, 0, 19, 0), (24, .iaload, 1, 0, 0, 0, 0), (25, .if_icmp .lt 26, 3, 51, 0, 0, 0), (28, .aload_n 0, 1, 0, 0, 0, 0), (29, .aload_n 0, 1, 0, 0, 0, 0), (30, .getfield 19, 3, 10, 5, 0, 0), (33, .iload_n 2, 1, 2, 0, 0, 0), (34, .iaload, 1, 0, 0, 0, 0), (35, .aload_n 0, 1, 0, 0, 0, 0), (36, .getfield 16, 3, 10, 4, 0, 0), (39, .iload_n 2, 1, 2, 0, 0, 0), (40, .iaload, 1, 0, 0, 0, 0), (41, .invokevirtual 197, 3, 0, 0, 0, 0), (44, .ifCond .ne 7, 3, 51, 0, 0, 0), (47, .iconst 1, 1, 0, 0, 1, 0), (48, .goto 4, 3, 52, 0, 0, 0), (51, .iconst 0, 1, 0, 0, 0, 0), (52, .istore_n 3, 1, 3, 0, 0, 0), (53, .iload_n 3, 1, 3, 0, 0, 0), (54, .ifCond .eq 26, 3, 80, 0, 0, 0), (57, .iload_n 1, 1, 1, 0, 0, 0), (58, .ifCond .lt 18, 3, 76, 0, 0, 0), (61, .aload_n 0, 1, 0, 0, 0, 0), (62, .getfield 16, 3, 10, 4, 0, 0), (65, .iload_n 2, 1, 2, 0, 0, 0), (66, .iaload, 1, 0, 0, 0, 0), (67, .aload_n 0, 1, 0, 0, 0, 0), (68, .getfield 16, 3, 10, 4, 0, 0), (71, .iload_n 1, 1, 1, 0, 0, 0), (72, .iaload, 1, 0, 0, 0, 0), (73, .if_icmp .ge 7, 3, 80, 0, 0, 0), (76, .iload_n 2, 1, 2, 0, 0, 0), (77, .goto 4, 3, 81, 0, 0, 0), (80, .iload_n 1, 1, 1, 0, 0, 0), (81, .istore_n 1, 1, 1, 0, 0, 0), (82, .iinc 2 1, 3, 2, 0, 1, 0), (85, .goto (-81), 3, 4, 0, 0, 0), (88, .iload_n 1, 1, 1, 0, 0, 0), (89, .ireturn, 1, 0, 0, 0, 0)])
set_option maxRecDepth 20000 in
theorem okX10_firstNought : ab_ok mX10_firstNought := ⟨by decide, by decide +kernel, trivial, trivial, trivial, trivial, trivial, trivial, fl_RX10_166, trivial, trivial, fl_RX10_16, trivial, trivial, trivial, fl_RX10_37, trivial, trivial, trivial, trivial, trivial, fl_RX10_19, trivial, trivial, trivial, fl_RX10_16, trivial, trivial, trivial, trivial, trivial, trivial, trivial, trivial, trivial, trivial, trivial, trivial, trivial, fl_RX10_16, trivial, trivial, trivial, fl_RX10_16, trivial, trivial, trivial, trivial, trivial, trivial, trivial, trivial, trivial, trivial, trivial, trivial⟩
def mX10_means : MI := (yX10_means, cX10_means, 3, (some .int), [(0, .iload_n 1, 1, 1, 0, 0, 0), (1, .i2l, 1, 0, 0, 0, 0), (2, .lconst 0, 1, 0, 0, 0, 0), (3, .aload_n 0, 1, 0, 0, 0, 0), (4, .getfield 166, 3, 10, 3, 0, 0), (7, .iconst 1, 1, 0, 0, 1, 0), (8, .isub, 1, 0, 0, 0, 0), (9, .i2l, 1, 0, 0, 0, 0), (10, .invokestatic 102, 3, 0, 0, 0, 0), (13, .ifCond .ne 6, 3, 19, 0, 0, 0), (16, .ldc 203, 2, 0, 0, (-1000000001), 0), (18, .ireturn, 1, 0, 0, 0, 0), (19, .iload_n 2, 1, 2, 0, 0, 0), (20, .i2l, 1, 0, 0, 0, 0), (21, .lconst 0, 1, 0, 0, 0, 0), (22, .ldc2_w 250, 3, 0, 0, 0, 99), (25, .invokestatic 102, 3, 0, 0, 0, 0), (28, .ifCond .eq 24, 3, 52, 0, 0, 0), (31, .aload_n 0, 1, 0, 0, 0, 0), (32, .getfield 22, 3, 10, 6, 0, 0), (35, .iload_n 1, 1, 1, 0, 0, 0), (36, .iaload, 1, 0, 0, 0, 0), (37, .aload_n 0, 1, 0, 0, 0, 0), (38, .aload_n 0, 1, 0, 0, 0, 0), (39, .getfield 19, 3, 10, 5, 0, 0), (42, .iload_n 1, 1, 1, 0, 0, 0), (43, .iaload, 1, 0, 0, 0, 0), (44, .iload_n 2, 1, 2, 0, 0, 0), (45, .invokevirtual 197, 3, 0, 0, 0, 0), (48, .imul, 1, 0, 0, 0, 0), (49, .goto 5, 3, 54, 0, 0, 0), (52, .ldc 112, 2, 0, 0, (-1000000002), 0), (54, .ireturn, 1, 0, 0, 0, 0)])
set_option maxRecDepth 20000 in
theorem okX10_means : ab_ok mX10_means := ⟨by decide, by decide +kernel, trivial, trivial, trivial, trivial, fl_RX10_166, trivial, trivial, trivial, ⟨fun z => absurd z (by decide), fun z => absurd z (by decide), fun z => absurd z (by decide), fun z => absurd z (by decide)⟩, trivial, ab_in (i := 1101) rfl rfl, trivial, trivial, trivial, trivial, ab_in (i := 1202) rfl rfl, ⟨fun z => absurd z (by decide), fun z => absurd z (by decide), fun z => absurd z (by decide), fun z => absurd z (by decide)⟩, trivial, trivial, fl_RX10_22, trivial, trivial, trivial, trivial, fl_RX10_19, trivial, trivial, trivial, trivial, trivial, trivial, ab_in (i := 1033) rfl rfl, trivial, trivial⟩
def mX10_times : MI := (yX10_times, cX10_times, 4, (some .int), [(0, .iload_n 0, 1, 0, 0, 0, 0), (1, .istore_n 2, 1, 2, 0, 0, 0), (2, .iconst 5, 1, 0, 0, 5, 0), (3, .istore_n 3, 1, 3, 0, 0, 0), (4, .iload_n 3, 1, 3, 0, 0, 0), (5, .iload_n 1, 1, 1, 0, 0, 0), (6, .if_icmp .le 13, 3, 19, 0, 0, 0), (9, .iload_n 2, 1, 2, 0, 0, 0), (10, .iconst 5, 1, 0, 0, 5, 0), (11, .idiv, 1, 0, 0, 0, 0), (12, .istore_n 2, 1, 2, 0, 0, 0), (13, .iinc 3 (-1), 3, 3, 0, (-1), 0), (16, .goto (-12), 3, 4, 0, 0, 0), (19, .iload_n 2, 1, 2, 0, 0, 0), (20, .iconst 5, 1, 0, 0, 5, 0), (21, .irem, 1, 0, 0, 0, 0), (22, .ireturn, 1, 0, 0, 0, 0)])
set_option maxRecDepth 20000 in
theorem okX10_times : ab_ok mX10_times := ⟨by decide, by decide +kernel, trivial, trivial, trivial, trivial, trivial, trivial, trivial, trivial, trivial, trivial, trivial, trivial, trivial, trivial, trivial, trivial, trivial, trivial⟩
def mX10_isFree : MI := (yX10_isFree, cX10_isFree, 2, (some .boolean), [(0, .aload_n 0, 1, 0, 0, 0, 0), (1, .iload_n 1, 1, 1, 0, 0, 0), (2, .invokevirtual 200, 3, 0, 0, 0, 0), (5, .ifCond .eq 27, 3, 32, 0, 0, 0), (8, .aload_n 0, 1, 0, 0, 0, 0), (9, .iload_n 1, 1, 1, 0, 0, 0), (10, .invokevirtual 190, 3, 0, 0, 0, 0), (13, .ifCond .eq 19, 3, 32, 0, 0, 0), (16, .aload_n 0, 1, 0, 0, 0, 0), (17, .getfield 37, 3, 10, 12, 0, 0), (20, .bipush 6, 2, 0, 0, 6, 0), (22, .iload_n 1, 1, 1, 0, 0, 0), (23, .iadd, 1, 0, 0, 0, 0), (24, .iaload, 1, 0, 0, 0, 0), (25, .ifCond .ge 7, 3, 32, 0, 0, 0), (28, .iconst 1, 1, 0, 0, 1, 0), (29, .goto 4, 3, 33, 0, 0, 0), (32, .iconst 0, 1, 0, 0, 0, 0), (33, .ireturn, 1, 0, 0, 0, 0)])
set_option maxRecDepth 20000 in
theorem okX10_isFree : ab_ok mX10_isFree := ⟨by decide, by decide +kernel, trivial, trivial, trivial, trivial, trivial, trivial, trivial, trivial, trivial, fl_RX10_37, trivial, trivial, trivial, trivial, trivial, trivial, trivial, trivial, trivial, trivial⟩
def mX10_basketAt : MI := (yX10_basketAt, cX10_basketAt, 5, (some .int), [(0, .iconst 0, 1, 0, 0, 0, 0), (1, .istore_n 3, 1, 3, 0, 0, 0), (2, .iconst 0, 1, 0, 0, 0, 0), (3, .istore 4, 2, 4, 0, 0, 0), (5, .iload 4, 2, 4, 0, 0, 0), (7, .aload_n 0, 1, 0, 0, 0, 0), (8, .getfield 99, 3, 10, 0, 0, 0), (11, .if_icmp .ge 26, 3, 37, 0, 0, 0), (14, .iload_n 3, 1, 3, 0, 0, 0), (15, .iload_n 1, 1, 1, 0, 0, 0), (16, .iload 4, 2, 4, 0, 0, 0), (18, .invokestatic 252, 3, 0, 0, 0, 0), (21, .aload_n 0, 1, 0, 0, 0, 0), (22, .iload 4, 2, 4, 0, 0, 0), (24, .iload_n 2, 1, 2, 0, 0, 0), (25, .invokevirtual 194, 3, 0, 0, 0, 0), (28, .imul, 1, 0, 0, 0, 0), (29, .iadd, 1, 0, 0, 0, 0), (30, .istore_n 3, 1, 3, 0, 0, 0), (31, .iinc 4 1, 3, 4, 0, 1, 0), (34, .goto (-29), 3, 5, 0, 0, 0), (37, .iload_n 3, 1, 3, 0, 0, 0), (38, .ireturn, 1, 0, 0, 0, 0)])
set_option maxRecDepth 20000 in
theorem okX10_basketAt : ab_ok mX10_basketAt := ⟨by decide, by decide +kernel, trivial, trivial, trivial, trivial, trivial, trivial, fl_RX10_99, trivial, trivial, trivial, trivial, ⟨fun z => absurd z (by decide), fun z => absurd z (by decide), fun z => absurd z (by decide), fun z => absurd z (by decide)⟩, trivial, trivial, trivial, trivial, trivial, trivial, trivial, trivial, trivial, trivial, trivial, trivial⟩
def mX10_timesOf : MI := (yX10_timesOf, cX10_timesOf, 3, (some .int), [(0, .iconst 0, 1, 0, 0, 0, 0), (1, .istore_n 1, 1, 1, 0, 0, 0), (2, .iconst 0, 1, 0, 0, 0, 0), (3, .istore_n 2, 1, 2, 0, 0, 0), (4, .iload_n 2, 1, 2, 0, 0, 0), (5, .bipush 6, 2, 0, 0, 6, 0), (7, .if_icmp .ge 17, 3, 24, 0, 0, 0), (10, .iload_n 1, 1, 1, 0, 0, 0), (11, .iload_n 0, 1, 0, 0, 0, 0), (12, .iload_n 2, 1, 2, 0, 0, 0), (13, .invokestatic 252, 3, 0, 0, 0, 0), (16, .iadd, 1, 0, 0, 0, 0), (17, .istore_n 1, 1, 1, 0, 0, 0), (18, .iinc 2 1, 3, 2, 0, 1, 0), (21, .goto (-17), 3, 4, 0, 0, 0), (24, .iload_n 1, 1, 1, 0, 0, 0), (25, .ireturn, 1, 0, 0, 0, 0)])
set_option maxRecDepth 20000 in
theorem okX10_timesOf : ab_ok mX10_timesOf := ⟨by decide, by decide +kernel, trivial, trivial, trivial, trivial, trivial, trivial, trivial, trivial, trivial, trivial, ⟨fun z => absurd z (by decide), fun z => absurd z (by decide), fun z => absurd z (by decide), fun z => absurd z (by decide)⟩, trivial, trivial, trivial, trivial, trivial, trivial, trivial⟩
def mX10_limbsOf : MI := (yX10_limbsOf, cX10_limbsOf, 3, (some .int), [(0, .iconst 0, 1, 0, 0, 0, 0), (1, .istore_n 1, 1, 1, 0, 0, 0), (2, .iconst 0, 1, 0, 0, 0, 0), (3, .istore_n 2, 1, 2, 0, 0, 0), (4, .iload_n 2, 1, 2, 0, 0, 0), (5, .bipush 6, 2, 0, 0, 6, 0), (7, .if_icmp .ge 25, 3, 32, 0, 0, 0), (10, .iload_n 1, 1, 1, 0, 0, 0), (11, .iload_n 0, 1, 0, 0, 0, 0), (12, .iload_n 2, 1, 2, 0, 0, 0), (13, .invokestatic 252, 3, 0, 0, 0, 0), (16, .ifCond .le 7, 3, 23, 0, 0, 0), (19, .iconst 1, 1, 0, 0, 1, 0), (20, .goto 4, 3, 24, 0, 0, 0), (23, .iconst 0, 1, 0, 0, 0, 0), (24, .iadd, 1, 0, 0, 0, 0), (25, .istore_n 1, 1, 1, 0, 0, 0), (26, .iinc 2 1, 3, 2, 0, 1, 0), (29, .goto (-25), 3, 4, 0, 0, 0), (32, .iload_n 1, 1, 1, 0, 0, 0), (33, .ireturn, 1, 0, 0, 0, 0)])
set_option maxRecDepth 20000 in
theorem okX10_limbsOf : ab_ok mX10_limbsOf := ⟨by decide, by decide +kernel, trivial, trivial, trivial, trivial, trivial, trivial, trivial, trivial, trivial, trivial, ⟨fun z => absurd z (by decide), fun z => absurd z (by decide), fun z => absurd z (by decide), fun z => absurd z (by decide)⟩, trivial, trivial, trivial, trivial, trivial, trivial, trivial, trivial, trivial, trivial, trivial⟩
def mX10_isBasket : MI := (yX10_isBasket, cX10_isBasket, 3, (some .boolean), [(0, .iconst 0, 1, 0, 0, 0, 0), (1, .istore_n 2, 1, 2, 0, 0, 0), (2, .iload_n 2, 1, 2, 0, 0, 0), (3, .bipush 6, 2, 0, 0, 6, 0), (5, .if_icmp .ge 27, 3, 32, 0, 0, 0), (8, .iload_n 1, 1, 1, 0, 0, 0), (9, .iload_n 2, 1, 2, 0, 0, 0), (10, .invokestatic 252, 3, 0, 0, 0, 0), (13, .ifCond .le 13, 3, 26, 0, 0, 0), (16, .aload_n 0, 1, 0, 0, 0, 0), (17, .iload_n 2, 1, 2, 0, 0, 0), (18, .invokevirtual 255, 3, 0, 0, 0, 0), (21, .ifCond .ne 5, 3, 26, 0, 0, 0), (24, .iconst 0, 1, 0, 0, 0, 0), (25, .ireturn, 1, 0, 0, 0, 0), (26, .iinc 2 1, 3, 2, 0, 1, 0), (29, .goto (-27), 3, 2, 0, 0, 0), (32, .aload_n 0, 1, 0, 0, 0, 0), (33, .iload_n 1, 1, 1, 0, 0, 0), (34, .iconst 0, 1, 0, 0, 0, 0), (35, .invokevirtual 258, 3, 0, 0, 0, 0), (38, .istore_n 2, 1, 2, 0, 0, 0), (39, .iload_n 1, 1, 1, 0, 0, 0), (40, .invokestatic 261, 3, 0, 0, 0, 0), (43, .i2l, 1, 0, 0, 0, 0), (44, .lconst 1, 1, 0, 0, 0, 1), (45, .ldc2_w 264, 3, 0, 0, 0, 3), (48, .invokestatic 102, 3, 0, 0, 0, 0), (51, .ifCond .eq 37, 3, 88, 0, 0, 0), (54, .iload_n 2, 1, 2, 0, 0, 0), (55, .aload_n 0, 1, 0, 0, 0, 0), (56, .iload_n 1, 1, 1, 0, 0, 0), (57, .iconst 1, 1, 0, 0, 1, 0), (58, .invokevirtual 258, 3, 0, 0, 0, 0), (61, .if_icmp .ne 27, 3, 88, 0, 0, 0), (64, .iload_n 2, 1, 2, 0, 0, 0), (65, .aload_n 0, 1, 0, 0, 0, 0), (66, .iload_n 1, 1, 1, 0, 0, 0), (67, .iconst 2, 1, 0, 0, 2, 0), (68, .invokevirtual 258, 3, 0, 0, 0, 0), (71, .if_icmp .ne 17, 3, 88, 0, 0, 0), (74, .iload_n 2, 1, 2, 0, 0, 0), (75, .aload_n 0, 1, 0, 0, 0, 0), (76, .iload_n 1, 1, 1, 0, 0, 0), (77, .iconst 3, 1, 0, 0, 3, 0), (78, .invokevirtual 258, 3, 0, 0, 0, 0), (81, .if_icmp .ne 7, 3, 88, 0, 0, 0), (84, .iconst 1, 1, 0, 0, 1, 0), (85, .goto 4, 3, 89, 0, 0, 0), (88, .iconst 0, 1, 0, 0, 0, 0), (89, .ireturn, 1, 0, 0, 0, 0)])
set_option maxRecDepth 20000 in
theorem okX10_isBasket : ab_ok mX10_isBasket := ⟨by decide, by decide +kernel, trivial, trivial, trivial, trivial, trivial, trivial, trivial, ⟨fun z => absurd z (by decide), fun z => absurd z (by decide), fun z => absurd z (by decide), fun z => absurd z (by decide)⟩, trivial, trivial, trivial, trivial, trivial, trivial, trivial, trivial, trivial, trivial, trivial, trivial, trivial, trivial, trivial, ⟨fun z => absurd z (by decide), fun z => absurd z (by decide), fun z => absurd z (by decide), fun z => absurd z (by decide)⟩, trivial, trivial, ab_in (i := 1229) rfl rfl, ⟨fun z => absurd z (by decide), fun z => absurd z (by decide), fun z => absurd z (by decide), fun z => absurd z (by decide)⟩, trivial, trivial, trivial, trivial, trivial, trivial, trivial, trivial, trivial, trivial, trivial, trivial, trivial, trivial, trivial, trivial, trivial, trivial, trivial, trivial, trivial, trivial, trivial, trivial⟩
end
section
/-! method tables (by program) -/
def mX10_isAhead : MI := (yX10_isAhead, cX10_isAhead, 5, (some .boolean), [(0, .iconst 0, 1, 0, 0, 0, 0), (1, .istore_n 2, 1, 2, 0, 0, 0), (2, .iload_n 2, 1, 2, 0, 0, 0), (3, .bipush 6, 2, 0, 0, 6, 0), (5, .if_icmp .ge 49, 3, 54, 0, 0, 0), (8, .iload_n 0, 1, 0, 0, 0, 0), (9, .iload_n 2, 1, 2, 0, 0, 0), (10, .invokestatic 252, 3, 0, 0, 0, 0), (13, .istore_n 3, 1, 3, 0, 0, 0), (14, .iload_n 1, 1, 1, 0, 0, 0), (15, .iload_n 2, 1, 2, 0, 0, 0), (16, .invokestatic 252, 3, 0, 0, 0, 0), (19, .istore 4, 2, 4, 0, 0, 0), (21, .iload_n 3, 1, 3, 0, 0, 0), (22, .iload 4, 2, 4, 0, 0, 0), (24, .if_icmp .eq 24, 3, 48, 0, 0, 0), (27, .iload_n 3, 1, 3, 0, 0, 0), (28, .ifCond .le 18, 3, 46, 0, 0, 0), (31, .iload 4, 2, 4, 0, 0, 0), (33, .ifCond .eq 9, 3, 42, 0, 0, 0), (36, .iload_n 3, 1, 3, 0, 0, 0), (37, .iload 4, 2, 4, 0, 0, 0), (39, .if_icmp .ge 7, 3, 46, 0, 0, 0), (42, .iconst 1, 1, 0, 0, 1, 0), (43, .goto 4, 3, 47, 0, 0, 0), (46, .iconst 0, 1, 0, 0, 0, 0), (47, .ireturn, 1, 0, 0, 0, 0), (48, .iinc 2 1, 3, 2, 0, 1, 0), (51, .goto (-49), 3, 2, 0, 0, 0), (54, .iconst 0, 1, 0, 0, 0, 0), (55, .ireturn, 1, 0, 0, 0, 0)])
set_option maxRecDepth 20000 in
theorem okX10_isAhead : ab_ok mX10_isAhead := ⟨by decide, by decide +kernel, trivial, trivial, trivial, trivial, trivial, trivial, trivial, ⟨fun z => absurd z (by decide), fun z => absurd z (by decide), fun z => absurd z (by decide), fun z => absurd z (by decide)⟩, trivial, trivial, trivial, ⟨fun z => absurd z (by decide), fun z => absurd z (by decide), fun z => absurd z (by decide), fun z => absurd z (by decide)⟩, trivial, trivial, trivial, trivial, trivial, trivial, trivial, trivial, trivial, trivial, trivial, trivial, trivial, trivial, trivial, trivial, trivial, trivial, trivial, trivial⟩
def mX10_findBasket : MI := (yX10_findBasket, cX10_findBasket, 3, none, [(0, .aload_n 0, 1, 0, 0, 0, 0), (1, .iconst (-1), 1, 0, 0, (-1), 0), (2, .putfield 266, 3, 10, 35, 0, 0), (5, .iconst 1, 1, 0, 0, 1, 0), (6, .istore_n 1, 1, 1, 0, 0, 0), (7, .iload_n 1, 1, 1, 0, 0, 0), (8, .sipush 15625, 3, 0, 0, 15625, 0), (11, .if_icmp .ge 93, 3, 104, 0, 0, 0), (14, .aload_n 0, 1, 0, 0, 0, 0), (15, .iload_n 1, 1, 1, 0, 0, 0), (16, .invokevirtual 269, 3, 0, 0, 0, 0), (19, .ifCond .eq 79, 3, 98, 0, 0, 0), (22, .aload_n 0, 1, 0, 0, 0, 0), (23, .getfield 266, 3, 10, 35, 0, 0), (26, .ifCond .ge 7, 3, 33, 0, 0, 0), (29, .iconst (-1), 1, 0, 0, (-1), 0), (30, .goto 15, 3, 45, 0, 0, 0), (33, .iload_n 1, 1, 1, 0, 0, 0), (34, .invokestatic 272, 3, 0, 0, 0, 0), (37, .aload_n 0, 1, 0, 0, 0, 0), (38, .getfield 266, 3, 10, 35, 0, 0), (41, .invokestatic 272, 3, 0, 0, 0, 0), (44, .isub, 1, 0, 0, 0, 0), (45, .istore_n 2, 1, 2, 0, 0, 0), (46, .iload_n 2, 1, 2, 0, 0, 0), (47, .ifCond .ne 18, 3, 65, 0, 0, 0), (50, .iload_n 1, 1, 1, 0, 0, 0), (51, .invokestatic 261, 3, 0, 0, 0, 0), (54, .aload_n 0, 1, 0, 0, 0, 0), (55, .getfield 266, 3, 10, 35, 0, 0), (58, .invokestatic 261, 3, 0, 0, 0, 0), (61, .isub, 1, 0, 0, 0, 0), (62, .goto 4, 3, 66, 0, 0, 0), (65, .iload_n 2, 1, 2, 0, 0, 0), (66, .istore_n 2, 1, 2, 0, 0, 0), (67, .aload_n 0, 1, 0, 0, 0, 0), (68, .iload_n 2, 1, 2, 0, 0, 0), (69, .ifCond .lt 18, 3, 87, 0, 0, 0), (72, .iload_n 2, 1, 2, 0, 0, 0), (73, .ifCond .ne 18, 3, 91, 0, 0, 0), (76, .iload_n 1, 1, 1, 0, 0, 0), (77, .aload_n 0, 1, 0, 0, 0, 0), (78, .getfield 266, 3, 10, 35, 0, 0), (81, .invokestatic 275, 3, 0, 0, 0, 0), (84, .ifCond .eq 7, 3, 91, 0, 0, 0), (87, .iload_n 1, 1, 1, 0, 0, 0), (88, .goto 7, 3, 95, 0, 0, 0), (91, .aload_n 0, 1, 0, 0, 0, 0), (92, .getfield 266, 3, 10, 35, 0, 0), (95, .putfield 266, 3, 10, 35, 0, 0), (98, .iinc 1 1, 3, 1, 0, 1, 0), (101, .goto (-94), 3, 7, 0, 0, 0), (104, .return_, 1, 0, 0, 0, 0)])
set_option maxRecDepth 20000 in
theorem okX10_findBasket : ab_ok mX10_findBasket := ⟨by decide, by decide +kernel, trivial, trivial, (gl_RX10_266 _), trivial, trivial, trivial, trivial, trivial, trivial, trivial, trivial, trivial, trivial, fl_RX10_266, trivial, trivial, trivial, trivial, ⟨fun z => absurd z (by decide), fun z => absurd z (by decide), fun z => absurd z (by decide), fun z => absurd z (by decide)⟩, trivial, fl_RX10_266, ⟨fun z => absurd z (by decide), fun z => absurd z (by decide), fun z => absurd z (by decide), fun z => absurd z (by decide)⟩, trivial, trivial, trivial, trivial, trivial, ⟨fun z => absurd z (by decide), fun z => absurd z (by decide), fun z => absurd z (by decide), fun z => absurd z (by decide)⟩, trivial, fl_RX10_266, ⟨fun z => absurd z (by decide), fun z => absurd z (by decide), fun z => absurd z (by decide), fun z => absurd z (by decide)⟩, trivial, trivial, trivial, trivial, trivial, trivial, trivial, trivial, trivial, trivial, trivial, fl_RX10_266, ⟨fun z => absurd z (by decide), fun z => absurd z (by decide), fun z => absurd z (by decide), fun z => absurd z (by decide)⟩, trivial, trivial, trivial, trivial, fl_RX10_266, (gl_RX10_266 _), trivial, trivial, trivial, trivial⟩
def mX10_basket : MI := (yX10_basket, cX10_basket, 2, (some .int), [(0, .iload_n 1, 1, 1, 0, 0, 0), (1, .iconst (-1), 1, 0, 0, (-1), 0), (2, .if_icmp .eq 14, 3, 16, 0, 0, 0), (5, .aload_n 0, 1, 0, 0, 0, 0), (6, .iload_n 1, 1, 1, 0, 0, 0), (7, .invokevirtual 200, 3, 0, 0, 0, 0), (10, .ifCond .ne 6, 3, 16, 0, 0, 0), (13, .ldc 203, 2, 0, 0, (-1000000001), 0), (15, .ireturn, 1, 0, 0, 0, 0), (16, .aload_n 0, 1, 0, 0, 0, 0), (17, .invokevirtual 278, 3, 0, 0, 0, 0), (20, .aload_n 0, 1, 0, 0, 0, 0), (21, .getfield 266, 3, 10, 35, 0, 0), (24, .ifCond .ge 7, 3, 31, 0, 0, 0), (27, .iconst (-1), 1, 0, 0, (-1), 0), (28, .goto 26, 3, 54, 0, 0, 0), (31, .iload_n 1, 1, 1, 0, 0, 0), (32, .iconst (-1), 1, 0, 0, (-1), 0), (33, .if_icmp .ne 13, 3, 46, 0, 0, 0), (36, .aload_n 0, 1, 0, 0, 0, 0), (37, .getfield 266, 3, 10, 35, 0, 0), (40, .invokestatic 272, 3, 0, 0, 0, 0), (43, .goto 11, 3, 54, 0, 0, 0), (46, .aload_n 0, 1, 0, 0, 0, 0), (47, .getfield 266, 3, 10, 35, 0, 0), (50, .iload_n 1, 1, 1, 0, 0, 0), (51, .invokestatic 252, 3, 0, 0, 0, 0), (54, .ireturn, 1, 0, 0, 0, 0)])
set_option maxRecDepth 20000 in
theorem okX10_basket : ab_ok mX10_basket := ⟨by decide, by decide +kernel, trivial, trivial, trivial, trivial, trivial, trivial, trivial, ab_in (i := 1101) rfl rfl, trivial, trivial, trivial, trivial, fl_RX10_266, trivial, trivial, trivial, trivial, trivial, trivial, trivial, fl_RX10_266, ⟨fun z => absurd z (by decide), fun z => absurd z (by decide), fun z => absurd z (by decide), fun z => absurd z (by decide)⟩, trivial, trivial, fl_RX10_266, trivial, ⟨fun z => absurd z (by decide), fun z => absurd z (by decide), fun z => absurd z (by decide), fun z => absurd z (by decide)⟩, trivial, trivial⟩
def mX10_figure : MI := (yX10_figure, cX10_figure, 3, (some .int), [(0, .iload_n 0, 1, 0, 0, 0, 0), (1, .iconst 3, 1, 0, 0, 3, 0), (2, .iload_n 1, 1, 1, 0, 0, 0), (3, .iconst 1, 1, 0, 0, 1, 0), (4, .isub, 1, 0, 0, 0, 0), (5, .iload_n 2, 1, 2, 0, 0, 0), (6, .isub, 1, 0, 0, 0, 0), (7, .imul, 1, 0, 0, 0, 0), (8, .ishr, 1, 0, 0, 0, 0), (9, .bipush 7, 2, 0, 0, 7, 0), (11, .iand, 1, 0, 0, 0, 0), (12, .ireturn, 1, 0, 0, 0, 0)])
set_option maxRecDepth 20000 in
theorem okX10_figure : ab_ok mX10_figure := ⟨by decide, by decide +kernel, trivial, trivial, trivial, trivial, trivial, trivial, trivial, trivial, trivial, trivial, trivial, trivial, trivial⟩
def mX10_isRow : MI := (yX10_isRow, cX10_isRow, 7, (some .boolean), [(0, .iconst 0, 1, 0, 0, 0, 0), (1, .istore_n 3, 1, 3, 0, 0, 0), (2, .iconst 0, 1, 0, 0, 0, 0), (3, .istore 4, 2, 4, 0, 0, 0), (5, .iload 4, 2, 4, 0, 0, 0), (7, .iload_n 2, 1, 2, 0, 0, 0), (8, .if_icmp .ge 94, 3, 102, 0, 0, 0), (11, .iload_n 1, 1, 1, 0, 0, 0), (12, .iload_n 2, 1, 2, 0, 0, 0), (13, .iload 4, 2, 4, 0, 0, 0), (15, .invokestatic 281, 3, 0, 0, 0, 0), (18, .istore 5, 2, 5, 0, 0, 0), (20, .iload_n 1, 1, 1, 0, 0, 0), (21, .iload_n 2, 1, 2, 0, 0, 0), (22, .iload 4, 2, 4, 0, 0, 0), (24, .iconst 1, 1, 0, 0, 1, 0), (25, .iadd, 1, 0, 0, 0, 0), (26, .iload_n 2, 1, 2, 0, 0, 0), (27, .irem, 1, 0, 0, 0, 0), (28, .invokestatic 281, 3, 0, 0, 0, 0), (31, .istore 6, 2, 6, 0, 0, 0), (33, .iload 5, 2, 5, 0, 0, 0), (35, .aload_n 0, 1, 0, 0, 0, 0), (36, .getfield 169, 3, 10, 7, 0, 0), (39, .if_icmp .ge 43, 3, 82, 0, 0, 0), (42, .iload 6, 2, 6, 0, 0, 0), (44, .aload_n 0, 1, 0, 0, 0, 0), (45, .getfield 169, 3, 10, 7, 0, 0), (48, .if_icmp .ge 34, 3, 82, 0, 0, 0), (51, .aload_n 0, 1, 0, 0, 0, 0), (52, .getfield 28, 3, 10, 9, 0, 0), (55, .iload 5, 2, 5, 0, 0, 0), (57, .iaload, 1, 0, 0, 0, 0), (58, .aload_n 0, 1, 0, 0, 0, 0), (59, .getfield 25, 3, 10, 8, 0, 0), (62, .iload 6, 2, 6, 0, 0, 0), (64, .iaload, 1, 0, 0, 0, 0), (65, .if_icmp .ne 17, 3, 82, 0, 0, 0), (68, .iload_n 3, 1, 3, 0, 0, 0), (69, .aload_n 0, 1, 0, 0, 0, 0), (70, .getfield 25, 3, 10, 8, 0, 0), (73, .iload 5, 2, 5, 0, 0, 0), (75, .iaload, 1, 0, 0, 0, 0), (76, .invokestatic 106, 3, 0, 0, 0, 0), (79, .ifCond .eq 5, 3, 84, 0, 0, 0), (82, .iconst 0, 1, 0, 0, 0, 0), (83, .ireturn, 1, 0, 0, 0, 0), (84, .iload_n 3, 1, 3, 0, 0, 0), (85, .iconst 1, 1, 0, 0, 1, 0), (86, .aload_n 0, 1, 0, 0, 0, 0), (87, .getfield 25, 3, 10, 8, 0, 0), (90, .iload 5, 2, 5, 0, 0, 0), (92, .iaload, 1, 0, 0, 0, 0), (93, .ishl, 1, 0, 0, 0, 0), (94, .ior, 1, 0, 0, 0, 0), (95, .istore_n 3, 1, 3, 0, 0, 0), (96, .iinc 4 1, 3, 4, 0, 1, 0), (99, .goto (-94), 3, 5, 0, 0, 0), (102, .iconst 1, 1, 0, 0, 1, 0), (103, .ireturn, 1, 0, 0, 0, 0)])
set_option maxRecDepth 20000 in
theorem okX10_isRow : ab_ok mX10_isRow := ⟨by decide, by decide +kernel, trivial, trivial, trivial, trivial, trivial, trivial, trivial, trivial, trivial, trivial, ⟨fun z => absurd z (by decide), fun z => absurd z (by decide), fun z => absurd z (by decide), fun z => absurd z (by decide)⟩, trivial, trivial, trivial, trivial, trivial, trivial, trivial, trivial, ⟨fun z => absurd z (by decide), fun z => absurd z (by decide), fun z => absurd z (by decide), fun z => absurd z (by decide)⟩, trivial, trivial, trivial, fl_RX10_169, trivial, trivial, trivial, fl_RX10_169, trivial, trivial, fl_RX10_28, trivial, trivial, trivial, fl_RX10_25, trivial, trivial, trivial, trivial, trivial, fl_RX10_25, trivial, trivial, ⟨fun z => absurd z (by decide), fun z => absurd z (by decide), fun z => absurd z (by decide), fun z => absurd z (by decide)⟩, trivial, trivial, trivial, trivial, trivial, trivial, fl_RX10_25, trivial, trivial, trivial, trivial, trivial, trivial, trivial, trivial, trivial, trivial⟩
def mX10_gains : MI := (yX10_gains, cX10_gains, 10, (some .boolean), [(0, .lconst 1, 1, 0, 0, 0, 1), (1, .lstore 4, 2, 4, 0, 0, 0), (3, .lconst 1, 1, 0, 0, 0, 1), (4, .lstore 6, 2, 6, 0, 0, 0), (6, .iconst 0, 1, 0, 0, 0, 0), (7, .istore 8, 2, 8, 0, 0, 0), (9, .iload 8, 2, 8, 0, 0, 0), (11, .iload_n 2, 1, 2, 0, 0, 0), (12, .if_icmp .ge 74, 3, 86, 0, 0, 0), (15, .iload_n 1, 1, 1, 0, 0, 0), (16, .iload_n 2, 1, 2, 0, 0, 0), (17, .iload 8, 2, 8, 0, 0, 0), (19, .invokestatic 281, 3, 0, 0, 0, 0), (22, .istore 9, 2, 9, 0, 0, 0), (24, .lload 4, 2, 4, 0, 0, 0), (26, .aload_n 0, 1, 0, 0, 0, 0), (27, .getfield 31, 3, 10, 10, 0, 0), (30, .iload 9, 2, 9, 0, 0, 0), (32, .iaload, 1, 0, 0, 0, 0), (33, .i2l, 1, 0, 0, 0, 0), (34, .lmul, 1, 0, 0, 0, 0), (35, .lstore 4, 2, 4, 0, 0, 0), (37, .lload 6, 2, 6, 0, 0, 0), (39, .iload 9, 2, 9, 0, 0, 0), (41, .iload_n 3, 1, 3, 0, 0, 0), (42, .if_icmp .ne 27, 3, 69, 0, 0, 0), (45, .aload_n 0, 1, 0, 0, 0, 0), (46, .getfield 34, 3, 10, 11, 0, 0), (49, .iload 9, 2, 9, 0, 0, 0), (51, .iaload, 1, 0, 0, 0, 0), (52, .iconst 1, 1, 0, 0, 1, 0), (53, .if_icmp .le 16, 3, 69, 0, 0, 0), (56, .aload_n 0, 1, 0, 0, 0, 0), (57, .getfield 34, 3, 10, 11, 0, 0), (60, .iload 9, 2, 9, 0, 0, 0), (62, .iaload, 1, 0, 0, 0, 0), (63, .iconst 1, 1, 0, 0, 1, 0), (64, .isub, 1, 0, 0, 0, 0), (65, .i2l, 1, 0, 0, 0, 0), (66, .goto 11, 3, 77, 0, 0, 0), (69, .aload_n 0, 1, 0, 0, 0, 0), (70, .getfield 34, 3, 10, 11, 0, 0), (73, .iload 9, 2, 9, 0, 0, 0), (75, .iaload, 1, 0, 0, 0, 0), (76, .i2l, 1, 0, 0, 0, 0), (77, .lmul, 1, 0, 0, 0, 0), (78, .lstore 6, 2, 6, 0, 0, 0), (80, .iinc 8 1, 3, 8, 0, 1, 0), (83, .goto (-74), 3, 9, 0, 0, 0), (86, .lload 6, 2, 6, 0, 0, 0), (88, .lload 4, 2, 4, 0, 0, 0), (90, .lcmp, 1, 0, 0, 0, 0), (91, .ifCond .le 7, 3, 98, 0, 0, 0), (94, .iconst 1, 1, 0, 0, 1, 0), (95, .goto 4, 3, 99, 0, 0, 0), (98, .iconst 0, 1, 0, 0, 0, 0), (99, .ireturn, 1, 0, 0, 0, 0)])
set_option maxRecDepth 20000 in
theorem okX10_gains : ab_ok mX10_gains := ⟨by decide, by decide +kernel, trivial, trivial, trivial, trivial, trivial, trivial, trivial, trivial, trivial, trivial, trivial, trivial, ⟨fun z => absurd z (by decide), fun z => absurd z (by decide), fun z => absurd z (by decide), fun z => absurd z (by decide)⟩, trivial, trivial, trivial, fl_RX10_31, trivial, trivial, trivial, trivial, trivial, trivial, trivial, trivial, trivial, trivial, fl_RX10_34, trivial, trivial, trivial, trivial, trivial, fl_RX10_34, trivial, trivial, trivial, trivial, trivial, trivial, trivial, fl_RX10_34, trivial, trivial, trivial, trivial, trivial, trivial, trivial, trivial, trivial, trivial, trivial, trivial, trivial, trivial, trivial, trivial⟩
def mX10_findRing : MI := (yX10_findRing, cX10_findRing, 3, (some .int), [(0, .iconst 2, 1, 0, 0, 2, 0), (1, .istore_n 1, 1, 1, 0, 0, 0), (2, .iload_n 1, 1, 1, 0, 0, 0), (3, .iconst 5, 1, 0, 0, 5, 0), (4, .if_icmp .ge 52, 3, 56, 0, 0, 0), (7, .aload_n 0, 1, 0, 0, 0, 0), (8, .iload_n 1, 1, 1, 0, 0, 0), (9, .putfield 285, 3, 10, 36, 0, 0), (12, .iconst 0, 1, 0, 0, 0, 0), (13, .istore_n 2, 1, 2, 0, 0, 0), (14, .iload_n 2, 1, 2, 0, 0, 0), (15, .iconst 1, 1, 0, 0, 1, 0), (16, .iconst 3, 1, 0, 0, 3, 0), (17, .iload_n 1, 1, 1, 0, 0, 0), (18, .imul, 1, 0, 0, 0, 0), (19, .ishl, 1, 0, 0, 0, 0), (20, .if_icmp .ge 30, 3, 50, 0, 0, 0), (23, .aload_n 0, 1, 0, 0, 0, 0), (24, .iload_n 2, 1, 2, 0, 0, 0), (25, .iload_n 1, 1, 1, 0, 0, 0), (26, .invokevirtual 288, 3, 0, 0, 0, 0), (29, .ifCond .eq 15, 3, 44, 0, 0, 0), (32, .aload_n 0, 1, 0, 0, 0, 0), (33, .iload_n 2, 1, 2, 0, 0, 0), (34, .iload_n 1, 1, 1, 0, 0, 0), (35, .iconst (-1), 1, 0, 0, (-1), 0), (36, .invokevirtual 291, 3, 0, 0, 0, 0), (39, .ifCond .eq 5, 3, 44, 0, 0, 0), (42, .iload_n 2, 1, 2, 0, 0, 0), (43, .ireturn, 1, 0, 0, 0, 0), (44, .iinc 2 1, 3, 2, 0, 1, 0), (47, .goto (-33), 3, 14, 0, 0, 0), (50, .iinc 1 1, 3, 1, 0, 1, 0), (53, .goto (-51), 3, 2, 0, 0, 0), (56, .iconst (-1), 1, 0, 0, (-1), 0), (57, .ireturn, 1, 0, 0, 0, 0)])
set_option maxRecDepth 20000 in
theorem okX10_findRing : ab_ok mX10_findRing := ⟨by decide, by decide +kernel, trivial, trivial, trivial, trivial, trivial, trivial, trivial, (gl_RX10_285 _), trivial, trivial, trivial, trivial, trivial, trivial, trivial, trivial, trivial, trivial, trivial, trivial, trivial, trivial, trivial, trivial, trivial, trivial, trivial, trivial, trivial, trivial, trivial, trivial, trivial, trivial, trivial, trivial, trivial⟩
def mX10_ring : MI := (yX10_ring, cX10_ring, 3, (some .int), [(0, .aload_n 0, 1, 0, 0, 0, 0), (1, .invokevirtual 295, 3, 0, 0, 0, 0), (4, .istore_n 2, 1, 2, 0, 0, 0), (5, .iload_n 2, 1, 2, 0, 0, 0), (6, .ifCond .lt 8, 3, 14, 0, 0, 0), (9, .iload_n 1, 1, 1, 0, 0, 0), (10, .iconst (-1), 1, 0, 0, (-1), 0), (11, .if_icmp .ne 16, 3, 27, 0, 0, 0), (14, .iload_n 2, 1, 2, 0, 0, 0), (15, .ifCond .ge 7, 3, 22, 0, 0, 0), (18, .iconst (-1), 1, 0, 0, (-1), 0), (19, .goto 7, 3, 26, 0, 0, 0), (22, .aload_n 0, 1, 0, 0, 0, 0), (23, .getfield 285, 3, 10, 36, 0, 0), (26, .ireturn, 1, 0, 0, 0, 0), (27, .iload_n 1, 1, 1, 0, 0, 0), (28, .i2l, 1, 0, 0, 0, 0), (29, .lconst 0, 1, 0, 0, 0, 0), (30, .aload_n 0, 1, 0, 0, 0, 0), (31, .getfield 285, 3, 10, 36, 0, 0), (34, .iconst 1, 1, 0, 0, 1, 0), (35, .isub, 1, 0, 0, 0, 0), (36, .i2l, 1, 0, 0, 0, 0), (37, .invokestatic 102, 3, 0, 0, 0, 0), (40, .ifCond .eq 15, 3, 55, 0, 0, 0), (43, .iload_n 2, 1, 2, 0, 0, 0), (44, .aload_n 0, 1, 0, 0, 0, 0), (45, .getfield 285, 3, 10, 36, 0, 0), (48, .iload_n 1, 1, 1, 0, 0, 0), (49, .invokestatic 281, 3, 0, 0, 0, 0), (52, .goto 4, 3, 56, 0, 0, 0), (55, .iconst (-1), 1, 0, 0, (-1), 0), (56, .ireturn, 1, 0, 0, 0, 0)])
set_option maxRecDepth 20000 in
theorem okX10_ring : ab_ok mX10_ring := ⟨by decide, by decide +kernel, trivial, trivial, trivial, trivial, trivial, trivial, trivial, trivial, trivial, trivial, trivial, trivial, trivial, fl_RX10_285, trivial, trivial, trivial, trivial, trivial, fl_RX10_285, trivial, trivial, trivial, ⟨fun z => absurd z (by decide), fun z => absurd z (by decide), fun z => absurd z (by decide), fun z => absurd z (by decide)⟩, trivial, trivial, trivial, fl_RX10_285, trivial, ⟨fun z => absurd z (by decide), fun z => absurd z (by decide), fun z => absurd z (by decide), fun z => absurd z (by decide)⟩, trivial, trivial, trivial, trivial⟩
def mX10_mended : MI := (yX10_mended, cX10_mended, 5, (some .int), [(0, .aload_n 0, 1, 0, 0, 0, 0), (1, .invokevirtual 295, 3, 0, 0, 0, 0), (4, .istore_n 1, 1, 1, 0, 0, 0), (5, .iconst (-1), 1, 0, 0, (-1), 0), (6, .istore_n 2, 1, 2, 0, 0, 0), (7, .iconst 0, 1, 0, 0, 0, 0), (8, .istore_n 3, 1, 3, 0, 0, 0), (9, .iload_n 3, 1, 3, 0, 0, 0), (10, .aload_n 0, 1, 0, 0, 0, 0), (11, .getfield 285, 3, 10, 36, 0, 0), (14, .if_icmp .ge 55, 3, 69, 0, 0, 0), (17, .iload_n 1, 1, 1, 0, 0, 0), (18, .ifCond .lt 51, 3, 69, 0, 0, 0), (21, .iload_n 1, 1, 1, 0, 0, 0), (22, .aload_n 0, 1, 0, 0, 0, 0), (23, .getfield 285, 3, 10, 36, 0, 0), (26, .iload_n 3, 1, 3, 0, 0, 0), (27, .invokestatic 281, 3, 0, 0, 0, 0), (30, .istore 4, 2, 4, 0, 0, 0), (32, .aload_n 0, 1, 0, 0, 0, 0), (33, .iload_n 1, 1, 1, 0, 0, 0), (34, .aload_n 0, 1, 0, 0, 0, 0), (35, .getfield 285, 3, 10, 36, 0, 0), (38, .iload 4, 2, 4, 0, 0, 0), (40, .invokevirtual 291, 3, 0, 0, 0, 0), (43, .ifCond .ne 18, 3, 61, 0, 0, 0), (46, .iload_n 2, 1, 2, 0, 0, 0), (47, .ifCond .lt 9, 3, 56, 0, 0, 0), (50, .iload 4, 2, 4, 0, 0, 0), (52, .iload_n 2, 1, 2, 0, 0, 0), (53, .if_icmp .ge 8, 3, 61, 0, 0, 0), (56, .iload 4, 2, 4, 0, 0, 0), (58, .goto 4, 3, 62, 0, 0, 0), (61, .iload_n 2, 1, 2, 0, 0, 0), (62, .istore_n 2, 1, 2, 0, 0, 0), (63, .iinc 3 1, 3, 3, 0, 1, 0), (66, .goto (-57), 3, 9, 0, 0, 0), (69, .iload_n 2, 1, 2, 0, 0, 0), (70, .ireturn, 1, 0, 0, 0, 0)])
set_option maxRecDepth 20000 in
theorem okX10_mended : ab_ok mX10_mended := ⟨by decide, by decide +kernel, trivial, trivial, trivial, trivial, trivial, trivial, trivial, trivial, trivial, fl_RX10_285, trivial, trivial, trivial, trivial, trivial, fl_RX10_285, trivial, ⟨fun z => absurd z (by decide), fun z => absurd z (by decide), fun z => absurd z (by decide), fun z => absurd z (by decide)⟩, trivial, trivial, trivial, trivial, fl_RX10_285, trivial, trivial, trivial, trivial, trivial, trivial, trivial, trivial, trivial, trivial, trivial, trivial, trivial, trivial, trivial, trivial, trivial⟩
def mX10_heirOf : MI := (yX10_heirOf, cX10_heirOf, 4, (some .int), [(0, .iload_n 0, 1, 0, 0, 0, 0), (1, .istore_n 2, 1, 2, 0, 0, 0), (2, .iconst 5, 1, 0, 0, 5, 0), (3, .istore_n 3, 1, 3, 0, 0, 0), (4, .iload_n 3, 1, 3, 0, 0, 0), (5, .iload_n 1, 1, 1, 0, 0, 0), (6, .if_icmp .le 14, 3, 20, 0, 0, 0), (9, .iload_n 2, 1, 2, 0, 0, 0), (10, .bipush 6, 2, 0, 0, 6, 0), (12, .idiv, 1, 0, 0, 0, 0), (13, .istore_n 2, 1, 2, 0, 0, 0), (14, .iinc 3 (-1), 3, 3, 0, (-1), 0), (17, .goto (-13), 3, 4, 0, 0, 0), (20, .iload_n 2, 1, 2, 0, 0, 0), (21, .bipush 6, 2, 0, 0, 6, 0), (23, .irem, 1, 0, 0, 0, 0), (24, .ireturn, 1, 0, 0, 0, 0)])
set_option maxRecDepth 20000 in
theorem okX10_heirOf : ab_ok mX10_heirOf := ⟨by decide, by decide +kernel, trivial, trivial, trivial, trivial, trivial, trivial, trivial, trivial, trivial, trivial, trivial, trivial, trivial, trivial, trivial, trivial, trivial, trivial⟩
def mX10_apartBy : MI := (yX10_apartBy, cX10_apartBy, 6, (some .int), [(0, .iconst 0, 1, 0, 0, 0, 0), (1, .istore_n 2, 1, 2, 0, 0, 0), (2, .iconst 0, 1, 0, 0, 0, 0), (3, .istore_n 3, 1, 3, 0, 0, 0), (4, .iconst 0, 1, 0, 0, 0, 0), (5, .istore 4, 2, 4, 0, 0, 0), (7, .iload 4, 2, 4, 0, 0, 0), (9, .bipush 6, 2, 0, 0, 6, 0), (11, .if_icmp .ge 87, 3, 98, 0, 0, 0), (14, .iload_n 1, 1, 1, 0, 0, 0), (15, .iload 4, 2, 4, 0, 0, 0), (17, .invokestatic 298, 3, 0, 0, 0, 0), (20, .istore 5, 2, 5, 0, 0, 0), (22, .aload_n 0, 1, 0, 0, 0, 0), (23, .iload 4, 2, 4, 0, 0, 0), (25, .invokevirtual 190, 3, 0, 0, 0, 0), (28, .ifCond .ne 10, 3, 38, 0, 0, 0), (31, .iload 5, 2, 5, 0, 0, 0), (33, .ifCond .le 59, 3, 92, 0, 0, 0), (36, .iconst (-1), 1, 0, 0, (-1), 0), (37, .ireturn, 1, 0, 0, 0, 0), (38, .iload 5, 2, 5, 0, 0, 0), (40, .iload 4, 2, 4, 0, 0, 0), (42, .if_icmp .eq 21, 3, 63, 0, 0, 0), (45, .aload_n 0, 1, 0, 0, 0, 0), (46, .iload 5, 2, 5, 0, 0, 0), (48, .invokevirtual 190, 3, 0, 0, 0, 0), (51, .ifCond .eq 12, 3, 63, 0, 0, 0), (54, .iload_n 3, 1, 3, 0, 0, 0), (55, .iload 5, 2, 5, 0, 0, 0), (57, .invokestatic 106, 3, 0, 0, 0, 0), (60, .ifCond .eq 5, 3, 65, 0, 0, 0), (63, .iconst (-1), 1, 0, 0, (-1), 0), (64, .ireturn, 1, 0, 0, 0, 0), (65, .iload_n 3, 1, 3, 0, 0, 0), (66, .iconst 1, 1, 0, 0, 1, 0), (67, .iload 5, 2, 5, 0, 0, 0), (69, .ishl, 1, 0, 0, 0, 0), (70, .ior, 1, 0, 0, 0, 0), (71, .istore_n 3, 1, 3, 0, 0, 0), (72, .iload_n 2, 1, 2, 0, 0, 0), (73, .aload_n 0, 1, 0, 0, 0, 0), (74, .getfield 37, 3, 10, 12, 0, 0), (77, .iload 4, 2, 4, 0, 0, 0), (79, .iaload, 1, 0, 0, 0, 0), (80, .aload_n 0, 1, 0, 0, 0, 0), (81, .getfield 37, 3, 10, 12, 0, 0), (84, .iload 5, 2, 5, 0, 0, 0), (86, .iaload, 1, 0, 0, 0, 0), (87, .invokestatic 301, 3, 0, 0, 0, 0), (90, .iadd, 1, 0, 0, 0, 0), (91, .istore_n 2, 1, 2, 0, 0, 0), (92, .iinc 4 1, 3, 4, 0, 1, 0), (95, .goto (-88), 3, 7, 0, 0, 0), (98, .iload_n 2, 1, 2, 0, 0, 0), (99, .ireturn, 1, 0, 0, 0, 0)])
set_option maxRecDepth 20000 in
theorem okX10_apartBy : ab_ok mX10_apartBy := ⟨by decide, by decide +kernel, trivial, trivial, trivial, trivial, trivial, trivial, trivial, trivial, trivial, trivial, trivial, ⟨fun z => absurd z (by decide), fun z => absurd z (by decide), fun z => absurd z (by decide), fun z => absurd z (by decide)⟩, trivial, trivial, trivial, trivial, trivial, trivial, trivial, trivial, trivial, trivial, trivial, trivial, trivial, trivial, trivial, trivial, trivial, trivial, ⟨fun z => absurd z (by decide), fun z => absurd z (by decide), fun z => absurd z (by decide), fun z => absurd z (by decide)⟩, trivial, trivial, trivial, trivial, trivial, trivial, trivial, trivial, trivial, trivial, trivial, fl_RX10_37, trivial, trivial, trivial, fl_RX10_37, trivial, trivial, ⟨fun z => absurd z (by decide), fun z => absurd z (by decide), fun z => absurd z (by decide), fun z => absurd z (by decide)⟩, trivial, trivial, trivial, trivial, trivial, trivial, trivial⟩
def mX10_heirs : MI := (yX10_heirs, cX10_heirs, 7, (some .int), [(0, .iload_n 1, 1, 1, 0, 0, 0), (1, .iconst (-1), 1, 0, 0, (-1), 0), (2, .if_icmp .eq 14, 3, 16, 0, 0, 0), (5, .aload_n 0, 1, 0, 0, 0, 0), (6, .iload_n 1, 1, 1, 0, 0, 0), (7, .invokevirtual 200, 3, 0, 0, 0, 0), (10, .ifCond .ne 6, 3, 16, 0, 0, 0), (13, .ldc 203, 2, 0, 0, (-1000000001), 0), (15, .ireturn, 1, 0, 0, 0, 0), (16, .aload_n 0, 1, 0, 0, 0, 0), (17, .getfield 37, 3, 10, 12, 0, 0), (20, .bipush 18, 2, 0, 0, 18, 0), (22, .iaload, 1, 0, 0, 0, 0), (23, .invokestatic 304, 3, 0, 0, 0, 0), (26, .iconst 2, 1, 0, 0, 2, 0), (27, .if_icmp .lt 16, 3, 43, 0, 0, 0), (30, .iload_n 1, 1, 1, 0, 0, 0), (31, .iconst (-1), 1, 0, 0, (-1), 0), (32, .if_icmp .eq 13, 3, 45, 0, 0, 0), (35, .aload_n 0, 1, 0, 0, 0, 0), (36, .iload_n 1, 1, 1, 0, 0, 0), (37, .invokevirtual 190, 3, 0, 0, 0, 0), (40, .ifCond .ne 5, 3, 45, 0, 0, 0), (43, .iconst (-1), 1, 0, 0, (-1), 0), (44, .ireturn, 1, 0, 0, 0, 0), (45, .iconst (-1), 1, 0, 0, (-1), 0), (46, .istore_n 2, 1, 2, 0, 0, 0), (47, .ldc_w 307, 3, 0, 0, 1000000, 0), (50, .istore_n 3, 1, 3, 0, 0, 0), (51, .iconst 0, 1, 0, 0, 0, 0), (52, .istore 4, 2, 4, 0, 0, 0), (54, .iload 4, 2, 4, 0, 0, 0), (56, .ldc_w 308, 3, 0, 0, 46656, 0), (59, .if_icmp .ge 59, 3, 118, 0, 0, 0), (62, .aload_n 0, 1, 0, 0, 0, 0), (63, .iload 4, 2, 4, 0, 0, 0), (65, .invokevirtual 309, 3, 0, 0, 0, 0), (68, .istore 5, 2, 5, 0, 0, 0), (70, .iload 5, 2, 5, 0, 0, 0), (72, .ifCond .lt 13, 3, 85, 0, 0, 0), (75, .iload 5, 2, 5, 0, 0, 0), (77, .iload_n 3, 1, 3, 0, 0, 0), (78, .if_icmp .ge 7, 3, 85, 0, 0, 0), (81, .iconst 1, 1, 0, 0, 1, 0), (82, .goto 4, 3, 86, 0, 0, 0), (85, .iconst 0, 1, 0, 0, 0, 0), (86, .istore 6, 2, 6, 0, 0, 0), (88, .iload 6, 2, 6, 0, 0, 0), (90, .ifCond .eq 8, 3, 98, 0, 0, 0), (93, .iload 4, 2, 4, 0, 0, 0), (95, .goto 4, 3, 99, 0, 0, 0), (98, .iload_n 2, 1, 2, 0, 0, 0), (99, .istore_n 2, 1, 2, 0, 0, 0), (100, .iload 6, 2, 6, 0, 0, 0), (102, .ifCond .eq 8, 3, 110, 0, 0, 0), (105, .iload 5, 2, 5, 0, 0, 0), (107, .goto 4, 3, 111, 0, 0, 0), (110, .iload_n 3, 1, 3, 0, 0, 0), (111, .istore_n 3, 1, 3, 0, 0, 0), (112, .iinc 4 1, 3, 4, 0, 1, 0), (115, .goto (-61), 3, 54, 0, 0, 0), (118, .iload_n 1, 1, 1, 0, 0, 0), (119, .iconst (-1), 1, 0, 0, (-1), 0), (120, .if_icmp .ne 7, 3, 127, 0, 0, 0), (123, .iload_n 3, 1, 3, 0, 0, 0), (124, .goto 8, 3, 132, 0, 0, 0), (127, .iload_n 2, 1, 2, 0, 0, 0), (128, .iload_n 1, 1, 1, 0, 0, 0), (129, .invokestatic 298, 3, 0, 0, 0, 0), (132, .ireturn, 1, 0, 0, 0, 0)])
set_option maxRecDepth 20000 in
theorem okX10_heirs : ab_ok mX10_heirs := ⟨by decide, by decide +kernel, trivial, trivial, trivial, trivial, trivial, trivial, trivial, ab_in (i := 1101) rfl rfl, trivial, trivial, fl_RX10_37, trivial, trivial, ⟨fun z => absurd z (by decide), fun z => absurd z (by decide), fun z => absurd z (by decide), fun z => absurd z (by decide)⟩, trivial, trivial, trivial, trivial, trivial, trivial, trivial, trivial, trivial, trivial, trivial, trivial, trivial, ab_in (i := 1266) rfl rfl, trivial, trivial, trivial, trivial, ab_in (i := 1267) rfl rfl, trivial, trivial, trivial, trivial, trivial, trivial, trivial, trivial, trivial, trivial, trivial, trivial, trivial, trivial, trivial, trivial, trivial, trivial, trivial, trivial, trivial, trivial, trivial, trivial, trivial, trivial, trivial, trivial, trivial, trivial, trivial, trivial, trivial, trivial, trivial, ⟨fun z => absurd z (by decide), fun z => absurd z (by decide), fun z => absurd z (by decide), fun z => absurd z (by decide)⟩, trivial, trivial⟩
def mX10_reach : MI := (yX10_reach, cX10_reach, 7, (some .int), [(0, .aload_n 0, 1, 0, 0, 0, 0), (1, .iload_n 1, 1, 1, 0, 0, 0), (2, .invokevirtual 200, 3, 0, 0, 0, 0), (5, .ifCond .ne 6, 3, 11, 0, 0, 0), (8, .ldc 203, 2, 0, 0, (-1000000001), 0), (10, .ireturn, 1, 0, 0, 0, 0), (11, .iload_n 2, 1, 2, 0, 0, 0), (12, .i2l, 1, 0, 0, 0, 0), (13, .lconst 0, 1, 0, 0, 0, 0), (14, .lconst 1, 1, 0, 0, 0, 1), (15, .invokestatic 102, 3, 0, 0, 0, 0), (18, .ifCond .ne 6, 3, 24, 0, 0, 0), (21, .ldc 112, 2, 0, 0, (-1000000002), 0), (23, .ireturn, 1, 0, 0, 0, 0), (24, .aload_n 0, 1, 0, 0, 0, 0), (25, .iload_n 1, 1, 1, 0, 0, 0), (26, .iconst 0, 1, 0, 0, 0, 0), (27, .invokevirtual 197, 3, 0, 0, 0, 0), (30, .istore_n 3, 1, 3, 0, 0, 0), (31, .iload_n 3, 1, 3, 0, 0, 0), (32, .istore 4, 2, 4, 0, 0, 0), (34, .iconst 1, 1, 0, 0, 1, 0), (35, .istore 5, 2, 5, 0, 0, 0), (37, .iload 5, 2, 5, 0, 0, 0), (39, .iconst 4, 1, 0, 0, 4, 0), (40, .if_icmp .ge 47, 3, 87, 0, 0, 0), (43, .aload_n 0, 1, 0, 0, 0, 0), (44, .iload_n 1, 1, 1, 0, 0, 0), (45, .iload 5, 2, 5, 0, 0, 0), (47, .invokevirtual 197, 3, 0, 0, 0, 0), (50, .istore 6, 2, 6, 0, 0, 0), (52, .iload 6, 2, 6, 0, 0, 0), (54, .iload_n 3, 1, 3, 0, 0, 0), (55, .if_icmp .ge 8, 3, 63, 0, 0, 0), (58, .iload 6, 2, 6, 0, 0, 0), (60, .goto 4, 3, 64, 0, 0, 0), (63, .iload_n 3, 1, 3, 0, 0, 0), (64, .istore_n 3, 1, 3, 0, 0, 0), (65, .iload 6, 2, 6, 0, 0, 0), (67, .iload 4, 2, 4, 0, 0, 0), (69, .if_icmp .le 8, 3, 77, 0, 0, 0), (72, .iload 6, 2, 6, 0, 0, 0), (74, .goto 5, 3, 79, 0, 0, 0), (77, .iload 4, 2, 4, 0, 0, 0), (79, .istore 4, 2, 4, 0, 0, 0), (81, .iinc 5 1, 3, 5, 0, 1, 0), (84, .goto (-47), 3, 37, 0, 0, 0), (87, .iload_n 2, 1, 2, 0, 0, 0), (88, .ifCond .ne 7, 3, 95, 0, 0, 0), (91, .iload_n 3, 1, 3, 0, 0, 0), (92, .goto 5, 3, 97, 0, 0, 0), (95, .iload 4, 2, 4, 0, 0, 0), (97, .ireturn, 1, 0, 0, 0, 0)])
set_option maxRecDepth 20000 in
theorem okX10_reach : ab_ok mX10_reach := ⟨by decide, by decide +kernel, trivial, trivial, trivial, trivial, ab_in (i := 1101) rfl rfl, trivial, trivial, trivial, trivial, trivial, ⟨fun z => absurd z (by decide), fun z => absurd z (by decide), fun z => absurd z (by decide), fun z => absurd z (by decide)⟩, trivial, ab_in (i := 1033) rfl rfl, trivial, trivial, trivial, trivial, trivial, trivial, trivial, trivial, trivial, trivial, trivial, trivial, trivial, trivial, trivial, trivial, trivial, trivial, trivial, trivial, trivial, trivial, trivial, trivial, trivial, trivial, trivial, trivial, trivial, trivial, trivial, trivial, trivial, trivial, trivial, trivial, trivial, trivial, trivial, trivial, trivial⟩
def mX10_bestCopy : MI := (yX10_bestCopy, cX10_bestCopy, 8, (some .int), [(0, .aload_n 0, 1, 0, 0, 0, 0), (1, .iload_n 1, 1, 1, 0, 0, 0), (2, .invokevirtual 200, 3, 0, 0, 0, 0), (5, .ifCond .ne 6, 3, 11, 0, 0, 0), (8, .ldc 203, 2, 0, 0, (-1000000001), 0), (10, .ireturn, 1, 0, 0, 0, 0), (11, .iload_n 2, 1, 2, 0, 0, 0), (12, .i2l, 1, 0, 0, 0, 0), (13, .lconst 0, 1, 0, 0, 0, 0), (14, .lconst 1, 1, 0, 0, 0, 1), (15, .invokestatic 102, 3, 0, 0, 0, 0), (18, .ifCond .ne 6, 3, 24, 0, 0, 0), (21, .ldc 112, 2, 0, 0, (-1000000002), 0), (23, .ireturn, 1, 0, 0, 0, 0), (24, .iconst (-1), 1, 0, 0, (-1), 0), (25, .istore_n 3, 1, 3, 0, 0, 0), (26, .iconst (-1), 1, 0, 0, (-1), 0), (27, .istore 4, 2, 4, 0, 0, 0), (29, .iconst 0, 1, 0, 0, 0, 0), (30, .istore 5, 2, 5, 0, 0, 0), (32, .iload 5, 2, 5, 0, 0, 0), (34, .iconst 4, 1, 0, 0, 4, 0), (35, .if_icmp .ge 96, 3, 131, 0, 0, 0), (38, .aload_n 0, 1, 0, 0, 0, 0), (39, .iload_n 1, 1, 1, 0, 0, 0), (40, .invokevirtual 190, 3, 0, 0, 0, 0), (43, .ifCond .eq 88, 3, 131, 0, 0, 0), (46, .iconst 0, 1, 0, 0, 0, 0), (47, .istore 6, 2, 6, 0, 0, 0), (49, .iconst 0, 1, 0, 0, 0, 0), (50, .istore 7, 2, 7, 0, 0, 0), (52, .iload 7, 2, 7, 0, 0, 0), (54, .iconst 4, 1, 0, 0, 4, 0), (55, .if_icmp .ge 31, 3, 86, 0, 0, 0), (58, .iload 6, 2, 6, 0, 0, 0), (60, .aload_n 0, 1, 0, 0, 0, 0), (61, .iload_n 1, 1, 1, 0, 0, 0), (62, .iload 7, 2, 7, 0, 0, 0), (64, .invokevirtual 194, 3, 0, 0, 0, 0), (67, .aload_n 0, 1, 0, 0, 0, 0), (68, .iload_n 1, 1, 1, 0, 0, 0), (69, .iload 5, 2, 5, 0, 0, 0), (71, .invokevirtual 194, 3, 0, 0, 0, 0), (74, .invokestatic 301, 3, 0, 0, 0, 0), (77, .iadd, 1, 0, 0, 0, 0), (78, .istore 6, 2, 6, 0, 0, 0), (80, .iinc 7 1, 3, 7, 0, 1, 0), (83, .goto (-31), 3, 52, 0, 0, 0), (86, .iload_n 3, 1, 3, 0, 0, 0), (87, .ifCond .lt 10, 3, 97, 0, 0, 0), (90, .iload 6, 2, 6, 0, 0, 0), (92, .iload 4, 2, 4, 0, 0, 0), (94, .if_icmp .ge 8, 3, 102, 0, 0, 0), (97, .iload 5, 2, 5, 0, 0, 0), (99, .goto 4, 3, 103, 0, 0, 0), (102, .iload_n 3, 1, 3, 0, 0, 0), (103, .istore_n 3, 1, 3, 0, 0, 0), (104, .iload 4, 2, 4, 0, 0, 0), (106, .ifCond .lt 10, 3, 116, 0, 0, 0), (109, .iload 6, 2, 6, 0, 0, 0), (111, .iload 4, 2, 4, 0, 0, 0), (113, .if_icmp .ge 8, 3, 121, 0, 0, 0), (116, .iload 6, 2, 6, 0, 0, 0), (118, .goto 5, 3, 123, 0, 0, 0), (121, .iload 4, 2, 4, 0, 0, 0), (123, .istore 4, 2, 4, 0, 0, 0), (125, .iinc 5 1, 3, 5, 0, 1, 0), (128, .goto (-96), 3, 32, 0, 0, 0), (131, .iload_n 2, 1, 2, 0, 0, 0), (132, .ifCond .ne 7, 3, 139, 0, 0, 0), (135, .iload_n 3, 1, 3, 0, 0, 0), (136, .goto 5, 3, 141, 0, 0, 0), (139, .iload 4, 2, 4, 0, 0, 0), (141, .ireturn, 1, 0, 0, 0, 0)])
set_option maxRecDepth 20000 in
theorem okX10_bestCopy : ab_ok mX10_bestCopy := ⟨by decide, by decide +kernel, trivial, trivial, trivial, trivial, ab_in (i := 1101) rfl rfl, trivial, trivial, trivial, trivial, trivial, ⟨fun z => absurd z (by decide), fun z => absurd z (by decide), fun z => absurd z (by decide), fun z => absurd z (by decide)⟩, trivial, ab_in (i := 1033) rfl rfl, trivial, trivial, trivial, trivial, trivial, trivial, trivial, trivial, trivial, trivial, trivial, trivial, trivial, trivial, trivial, trivial, trivial, trivial, trivial, trivial, trivial, trivial, trivial, trivial, trivial, trivial, trivial, trivial, trivial, trivial, ⟨fun z => absurd z (by decide), fun z => absurd z (by decide), fun z => absurd z (by decide), fun z => absurd z (by decide)⟩, trivial, trivial, trivial, trivial, trivial, trivial, trivial, trivial, trivial, trivial, trivial, trivial, trivial, trivial, trivial, trivial, trivial, trivial, trivial, trivial, trivial, trivial, trivial, trivial, trivial, trivial, trivial, trivial, trivial, trivial, trivial⟩
def mX10_nearest : MI := (yX10_nearest, cX10_nearest, 4, (some .int), [(0, .iload_n 1, 1, 1, 0, 0, 0), (1, .i2l, 1, 0, 0, 0, 0), (2, .lconst 0, 1, 0, 0, 0, 0), (3, .ldc2_w 312, 3, 0, 0, 0, 999), (6, .invokestatic 102, 3, 0, 0, 0, 0), (9, .ifCond .ne 6, 3, 15, 0, 0, 0), (12, .ldc 112, 2, 0, 0, (-1000000002), 0), (14, .ireturn, 1, 0, 0, 0, 0), (15, .iconst (-1), 1, 0, 0, (-1), 0), (16, .istore_n 2, 1, 2, 0, 0, 0), (17, .iconst 0, 1, 0, 0, 0, 0), (18, .istore_n 3, 1, 3, 0, 0, 0), (19, .iload_n 3, 1, 3, 0, 0, 0), (20, .aload_n 0, 1, 0, 0, 0, 0), (21, .getfield 99, 3, 10, 0, 0, 0), (24, .if_icmp .ge 40, 3, 64, 0, 0, 0), (27, .iload_n 2, 1, 2, 0, 0, 0), (28, .ifCond .lt 24, 3, 52, 0, 0, 0), (31, .aload_n 0, 1, 0, 0, 0, 0), (32, .iload_n 3, 1, 3, 0, 0, 0), (33, .invokevirtual 204, 3, 0, 0, 0, 0), (36, .iload_n 1, 1, 1, 0, 0, 0), (37, .invokestatic 301, 3, 0, 0, 0, 0), (40, .aload_n 0, 1, 0, 0, 0, 0), (41, .iload_n 2, 1, 2, 0, 0, 0), (42, .invokevirtual 204, 3, 0, 0, 0, 0), (45, .iload_n 1, 1, 1, 0, 0, 0), (46, .invokestatic 301, 3, 0, 0, 0, 0), (49, .if_icmp .ge 7, 3, 56, 0, 0, 0), (52, .iload_n 3, 1, 3, 0, 0, 0), (53, .goto 4, 3, 57, 0, 0, 0), (56, .iload_n 2, 1, 2, 0, 0, 0), (57, .istore_n 2, 1, 2, 0, 0, 0), (58, .iinc 3 1, 3, 3, 0, 1, 0), (61, .goto (-42), 3, 19, 0, 0, 0), (64, .iload_n 2, 1, 2, 0, 0, 0), (65, .ireturn, 1, 0, 0, 0, 0)])
set_option maxRecDepth 20000 in
theorem okX10_nearest : ab_ok mX10_nearest := ⟨by decide, by decide +kernel, trivial, trivial, trivial, ab_in (i := 1290) rfl rfl, ⟨fun z => absurd z (by decide), fun z => absurd z (by decide), fun z => absurd z (by decide), fun z => absurd z (by decide)⟩, trivial, ab_in (i := 1033) rfl rfl, trivial, trivial, trivial, trivial, trivial, trivial, trivial, fl_RX10_99, trivial, trivial, trivial, trivial, trivial, trivial, trivial, ⟨fun z => absurd z (by decide), fun z => absurd z (by decide), fun z => absurd z (by decide), fun z => absurd z (by decide)⟩, trivial, trivial, trivial, trivial, ⟨fun z => absurd z (by decide), fun z => absurd z (by decide), fun z => absurd z (by decide), fun z => absurd z (by decide)⟩, trivial, trivial, trivial, trivial, trivial, trivial, trivial, trivial, trivial, trivial⟩
def mX10_odds : MI := (yX10_odds, cX10_odds, 8, (some .int), [(0, .aload_n 0, 1, 0, 0, 0, 0), (1, .iload_n 1, 1, 1, 0, 0, 0), (2, .invokevirtual 200, 3, 0, 0, 0, 0), (5, .ifCond .ne 6, 3, 11, 0, 0, 0), (8, .ldc 203, 2, 0, 0, (-1000000001), 0), (10, .ireturn, 1, 0, 0, 0, 0), (11, .iload_n 2, 1, 2, 0, 0, 0), (12, .i2l, 1, 0, 0, 0, 0), (13, .lconst 0, 1, 0, 0, 0, 0), (14, .ldc2_w 314, 3, 0, 0, 0, 60), (17, .invokestatic 102, 3, 0, 0, 0, 0), (20, .ifCond .eq 15, 3, 35, 0, 0, 0), (23, .iload_n 3, 1, 3, 0, 0, 0), (24, .i2l, 1, 0, 0, 0, 0), (25, .lconst 0, 1, 0, 0, 0, 0), (26, .ldc2_w 316, 3, 0, 0, 0, 100), (29, .invokestatic 102, 3, 0, 0, 0, 0), (32, .ifCond .ne 6, 3, 38, 0, 0, 0), (35, .ldc 112, 2, 0, 0, (-1000000002), 0), (37, .ireturn, 1, 0, 0, 0, 0), (38, .iload_n 3, 1, 3, 0, 0, 0), (39, .iconst 2, 1, 0, 0, 2, 0), (40, .iload_n 1, 1, 1, 0, 0, 0), (41, .imul, 1, 0, 0, 0, 0), (42, .iadd, 1, 0, 0, 0, 0), (43, .bipush 100, 2, 0, 0, 100, 0), (45, .if_icmp .ge 11, 3, 56, 0, 0, 0), (48, .iload_n 3, 1, 3, 0, 0, 0), (49, .iconst 2, 1, 0, 0, 2, 0), (50, .iload_n 1, 1, 1, 0, 0, 0), (51, .imul, 1, 0, 0, 0, 0), (52, .iadd, 1, 0, 0, 0, 0), (53, .goto 5, 3, 58, 0, 0, 0), (56, .bipush 100, 2, 0, 0, 100, 0), (58, .istore 4, 2, 4, 0, 0, 0), (60, .ldc2_w 318, 3, 0, 0, 0, 1000000000), (63, .lstore 5, 2, 5, 0, 0, 0), (65, .iconst 0, 1, 0, 0, 0, 0), (66, .istore 7, 2, 7, 0, 0, 0), (68, .iload 7, 2, 7, 0, 0, 0), (70, .iload_n 2, 1, 2, 0, 0, 0), (71, .if_icmp .ge 24, 3, 95, 0, 0, 0), (74, .lload 5, 2, 5, 0, 0, 0), (76, .bipush 100, 2, 0, 0, 100, 0), (78, .iload 4, 2, 4, 0, 0, 0), (80, .isub, 1, 0, 0, 0, 0), (81, .i2l, 1, 0, 0, 0, 0), (82, .lmul, 1, 0, 0, 0, 0), (83, .ldc2_w 316, 3, 0, 0, 0, 100), (86, .ldiv, 1, 0, 0, 0, 0), (87, .lstore 5, 2, 5, 0, 0, 0), (89, .iinc 7 1, 3, 7, 0, 1, 0), (92, .goto (-24), 3, 68, 0, 0, 0), (95, .lload 5, 2, 5, 0, 0, 0), (97, .l2i, 1, 0, 0, 0, 0), (98, .ireturn, 1, 0, 0, 0, 0)])
set_option maxRecDepth 20000 in
theorem okX10_odds : ab_ok mX10_odds := ⟨by decide, by decide +kernel, trivial, trivial, trivial, trivial, ab_in (i := 1101) rfl rfl, trivial, trivial, trivial, trivial, ab_in (i := 1295) rfl rfl, ⟨fun z => absurd z (by decide), fun z => absurd z (by decide), fun z => absurd z (by decide), fun z => absurd z (by decide)⟩, trivial, trivial, trivial, trivial, ab_in (i := 1296) rfl rfl, ⟨fun z => absurd z (by decide), fun z => absurd z (by decide), fun z => absurd z (by decide), fun z => absurd z (by decide)⟩, trivial, ab_in (i := 1033) rfl rfl, trivial, trivial, trivial, trivial, trivial, trivial, trivial, trivial, trivial, trivial, trivial, trivial, trivial, trivial, trivial, trivial, ab_in (i := 1297) rfl rfl, trivial, trivial, trivial, trivial, trivial, trivial, trivial, trivial, trivial, trivial, trivial, trivial, ab_in (i := 1296) rfl rfl, trivial, trivial, trivial, trivial, trivial, trivial, trivial, trivial⟩
def mX10_got : MI := (yX10_got, cX10_got, 3, (some .int), [(0, .iload_n 1, 1, 1, 0, 0, 0), (1, .i2l, 1, 0, 0, 0, 0), (2, .lconst 1, 1, 0, 0, 0, 1), (3, .ldc2_w 320, 3, 0, 0, 0, 50), (6, .invokestatic 102, 3, 0, 0, 0, 0), (9, .ifCond .eq 15, 3, 24, 0, 0, 0), (12, .iload_n 2, 1, 2, 0, 0, 0), (13, .i2l, 1, 0, 0, 0, 0), (14, .lconst 0, 1, 0, 0, 0, 0), (15, .ldc2_w 322, 3, 0, 0, 0, 9999), (18, .invokestatic 102, 3, 0, 0, 0, 0), (21, .ifCond .ne 6, 3, 27, 0, 0, 0), (24, .ldc 112, 2, 0, 0, (-1000000002), 0), (26, .ireturn, 1, 0, 0, 0, 0), (27, .aload_n 0, 1, 0, 0, 0, 0), (28, .getfield 178, 3, 10, 37, 0, 0), (31, .bipush 8, 2, 0, 0, 8, 0), (33, .if_icmp .ne 6, 3, 39, 0, 0, 0), (36, .ldc 116, 2, 0, 0, (-1000000004), 0), (38, .ireturn, 1, 0, 0, 0, 0), (39, .aload_n 0, 1, 0, 0, 0, 0), (40, .getfield 80, 3, 10, 38, 0, 0), (43, .aload_n 0, 1, 0, 0, 0, 0), (44, .getfield 178, 3, 10, 37, 0, 0), (47, .iload_n 1, 1, 1, 0, 0, 0), (48, .iastore, 1, 0, 0, 0, 0), (49, .aload_n 0, 1, 0, 0, 0, 0), (50, .getfield 83, 3, 10, 39, 0, 0), (53, .aload_n 0, 1, 0, 0, 0, 0), (54, .getfield 178, 3, 10, 37, 0, 0), (57, .iload_n 2, 1, 2, 0, 0, 0), (58, .iastore, 1, 0, 0, 0, 0), (59, .aload_n 0, 1, 0, 0, 0, 0), (60, .dup, 1, 0, 0, 0, 0), (61, .getfield 178, 3, 10, 37, 0, 0), (64, .iconst 1, 1, 0, 0, 1, 0), (65, .iadd, 1, 0, 0, 0, 0), (66, .putfield 178, 3, 10, 37, 0, 0), (69, .aload_n 0, 1, 0, 0, 0, 0), (70, .getfield 178, 3, 10, 37, 0, 0), (73, .ireturn, 1, 0, 0, 0, 0)])
set_option maxRecDepth 20000 in
theorem okX10_got : ab_ok mX10_got := ⟨by decide, by decide +kernel, trivial, trivial, trivial, ab_in (i := 1302) rfl rfl, ⟨fun z => absurd z (by decide), fun z => absurd z (by decide), fun z => absurd z (by decide), fun z => absurd z (by decide)⟩, trivial, trivial, trivial, trivial, ab_in (i := 1303) rfl rfl, ⟨fun z => absurd z (by decide), fun z => absurd z (by decide), fun z => absurd z (by decide), fun z => absurd z (by decide)⟩, trivial, ab_in (i := 1033) rfl rfl, trivial, trivial, fl_RX10_178, trivial, trivial, ab_in (i := 1034) rfl rfl, trivial, trivial, fl_RX10_80, trivial, fl_RX10_178, trivial, trivial, trivial, fl_RX10_83, trivial, fl_RX10_178, trivial, trivial, trivial, trivial, fl_RX10_178, trivial, trivial, (gl_RX10_178 _), trivial, fl_RX10_178, trivial, trivial⟩
def mX10_used : MI := (yX10_used, cX10_used, 5, (some .int), [(0, .iconst 0, 1, 0, 0, 0, 0), (1, .istore_n 1, 1, 1, 0, 0, 0), (2, .iconst 0, 1, 0, 0, 0, 0), (3, .istore_n 2, 1, 2, 0, 0, 0), (4, .iload_n 2, 1, 2, 0, 0, 0), (5, .aload_n 0, 1, 0, 0, 0, 0), (6, .getfield 99, 3, 10, 0, 0, 0), (9, .if_icmp .ge 76, 3, 85, 0, 0, 0), (12, .iconst 1, 1, 0, 0, 1, 0), (13, .istore_n 3, 1, 3, 0, 0, 0), (14, .iconst 0, 1, 0, 0, 0, 0), (15, .istore 4, 2, 4, 0, 0, 0), (17, .iload 4, 2, 4, 0, 0, 0), (19, .aload_n 0, 1, 0, 0, 0, 0), (20, .getfield 178, 3, 10, 37, 0, 0), (23, .if_icmp .ge 42, 3, 65, 0, 0, 0), (26, .iload_n 3, 1, 3, 0, 0, 0), (27, .ifCond .eq 30, 3, 57, 0, 0, 0), (30, .aload_n 0, 1, 0, 0, 0, 0), (31, .getfield 80, 3, 10, 38, 0, 0), (34, .iload 4, 2, 4, 0, 0, 0), (36, .iaload, 1, 0, 0, 0, 0), (37, .aload_n 0, 1, 0, 0, 0, 0), (38, .iload_n 2, 1, 2, 0, 0, 0), (39, .invokevirtual 204, 3, 0, 0, 0, 0), (42, .imul, 1, 0, 0, 0, 0), (43, .aload_n 0, 1, 0, 0, 0, 0), (44, .getfield 83, 3, 10, 39, 0, 0), (47, .iload 4, 2, 4, 0, 0, 0), (49, .iaload, 1, 0, 0, 0, 0), (50, .if_icmp .ne 7, 3, 57, 0, 0, 0), (53, .iconst 1, 1, 0, 0, 1, 0), (54, .goto 4, 3, 58, 0, 0, 0), (57, .iconst 0, 1, 0, 0, 0, 0), (58, .istore_n 3, 1, 3, 0, 0, 0), (59, .iinc 4 1, 3, 4, 0, 1, 0), (62, .goto (-45), 3, 17, 0, 0, 0), (65, .iload_n 1, 1, 1, 0, 0, 0), (66, .iload_n 3, 1, 3, 0, 0, 0), (67, .ifCond .eq 9, 3, 76, 0, 0, 0), (70, .iconst 1, 1, 0, 0, 1, 0), (71, .iload_n 2, 1, 2, 0, 0, 0), (72, .ishl, 1, 0, 0, 0, 0), (73, .goto 4, 3, 77, 0, 0, 0), (76, .iconst 0, 1, 0, 0, 0, 0), (77, .ior, 1, 0, 0, 0, 0), (78, .istore_n 1, 1, 1, 0, 0, 0), (79, .iinc 2 1, 3, 2, 0, 1, 0), (82, .goto (-78), 3, 4, 0, 0, 0), (85, .iload_n 1, 1, 1, 0, 0, 0), (86, .ireturn, 1, 0, 0, 0, 0)])
set_option maxRecDepth 20000 in
theorem okX10_used : ab_ok mX10_used := ⟨by decide, by decide +kernel, trivial, trivial, trivial, trivial, trivial, trivial, fl_RX10_99, trivial, trivial, trivial, trivial, trivial, trivial, trivial, fl_RX10_178, trivial, trivial, trivial, trivial, fl_RX10_80, trivial, trivial, trivial, trivial, trivial, trivial, trivial, fl_RX10_83, trivial, trivial, trivial, trivial, trivial, trivial, trivial, trivial, trivial, trivial, trivial, trivial, trivial, trivial, trivial, trivial, trivial, trivial, trivial, trivial, trivial, trivial, trivial, trivial⟩
def mX10_bale : MI := (yX10_bale, cX10_bale, 7, (some .int), [(0, .aload_n 0, 1, 0, 0, 0, 0), (1, .invokevirtual 324, 3, 0, 0, 0, 0), (4, .istore_n 1, 1, 1, 0, 0, 0), (5, .iload_n 1, 1, 1, 0, 0, 0), (6, .invokestatic 304, 3, 0, 0, 0, 0), (9, .iconst 2, 1, 0, 0, 2, 0), (10, .if_icmp .ge 5, 3, 15, 0, 0, 0), (13, .iconst (-1), 1, 0, 0, (-1), 0), (14, .ireturn, 1, 0, 0, 0, 0), (15, .iconst 0, 1, 0, 0, 0, 0), (16, .istore_n 2, 1, 2, 0, 0, 0), (17, .iload_n 2, 1, 2, 0, 0, 0), (18, .iconst 4, 1, 0, 0, 4, 0), (19, .if_icmp .ge 124, 3, 143, 0, 0, 0), (22, .iconst 1, 1, 0, 0, 1, 0), (23, .istore_n 3, 1, 3, 0, 0, 0), (24, .iconst 0, 1, 0, 0, 0, 0), (25, .istore 4, 2, 4, 0, 0, 0), (27, .iload 4, 2, 4, 0, 0, 0), (29, .aload_n 0, 1, 0, 0, 0, 0), (30, .getfield 99, 3, 10, 0, 0, 0), (33, .if_icmp .ge 98, 3, 131, 0, 0, 0), (36, .iconst 0, 1, 0, 0, 0, 0), (37, .istore 5, 2, 5, 0, 0, 0), (39, .iload 5, 2, 5, 0, 0, 0), (41, .iload 4, 2, 4, 0, 0, 0), (43, .if_icmp .ge 82, 3, 125, 0, 0, 0), (46, .iload_n 1, 1, 1, 0, 0, 0), (47, .iload 4, 2, 4, 0, 0, 0), (49, .invokestatic 106, 3, 0, 0, 0, 0), (52, .ifCond .eq 16, 3, 68, 0, 0, 0), (55, .iload_n 1, 1, 1, 0, 0, 0), (56, .iload 5, 2, 5, 0, 0, 0), (58, .invokestatic 106, 3, 0, 0, 0, 0), (61, .ifCond .eq 7, 3, 68, 0, 0, 0), (64, .iconst 1, 1, 0, 0, 1, 0), (65, .goto 4, 3, 69, 0, 0, 0), (68, .iconst 0, 1, 0, 0, 0, 0), (69, .istore 6, 2, 6, 0, 0, 0), (71, .iload_n 3, 1, 3, 0, 0, 0), (72, .ifCond .eq 45, 3, 117, 0, 0, 0), (75, .iload 6, 2, 6, 0, 0, 0), (77, .ifCond .eq 36, 3, 113, 0, 0, 0), (80, .aload_n 0, 1, 0, 0, 0, 0), (81, .iload 4, 2, 4, 0, 0, 0), (83, .aload_n 0, 1, 0, 0, 0, 0), (84, .getfield 37, 3, 10, 12, 0, 0), (87, .bipush 19, 2, 0, 0, 19, 0), (89, .iaload, 1, 0, 0, 0, 0), (90, .iload_n 2, 1, 2, 0, 0, 0), (91, .iadd, 1, 0, 0, 0, 0), (92, .invokevirtual 197, 3, 0, 0, 0, 0), (95, .aload_n 0, 1, 0, 0, 0, 0), (96, .iload 5, 2, 5, 0, 0, 0), (98, .aload_n 0, 1, 0, 0, 0, 0), (99, .getfield 37, 3, 10, 12, 0, 0), (102, .bipush 19, 2, 0, 0, 19, 0), (104, .iaload, 1, 0, 0, 0, 0), (105, .iload_n 2, 1, 2, 0, 0, 0), (106, .iadd, 1, 0, 0, 0, 0), (107, .invokevirtual 197, 3, 0, 0, 0, 0), (110, .if_icmp .eq 7, 3, 117, 0, 0, 0), (113, .iconst 1, 1, 0, 0, 1, 0), (114, .goto 4, 3, 118, 0, 0, 0), (117, .iconst 0, 1, 0, 0, 0, 0), (118, .istore_n 3, 1, 3, 0, 0, 0), (119, .iinc 5 1, 3, 5, 0, 1, 0), (122, .goto (-83), 3, 39, 0, 0, 0), (125, .iinc 4 1, 3, 4, 0, 1, 0), (128, .goto (-101), 3, 27, 0, 0, 0), (131, .iload_n 3, 1, 3, 0, 0, 0), (132, .ifCond .eq 5, 3, 137, 0, 0, 0), (135, .iload_n 2, 1, 2, 0, 0, 0), (136, .ireturn, 1, 0, 0, 0, 0), (137, .iinc 2 1, 3, 2, 0, 1, 0), (140, .goto (-123), 3, 17, 0, 0, 0), (143, .iconst (-1), 1, 0, 0, (-1), 0), (144, .ireturn, 1, 0, 0, 0, 0)])
set_option maxRecDepth 20000 in
theorem okX10_bale : ab_ok mX10_bale := ⟨by decide, by decide +kernel, trivial, trivial, trivial, trivial, ⟨fun z => absurd z (by decide), fun z => absurd z (by decide), fun z => absurd z (by decide), fun z => absurd z (by decide)⟩, trivial, trivial, trivial, trivial, trivial, trivial, trivial, trivial, trivial, trivial, trivial, trivial, trivial, trivial, trivial, fl_RX10_99, trivial, trivial, trivial, trivial, trivial, trivial, trivial, trivial, ⟨fun z => absurd z (by decide), fun z => absurd z (by decide), fun z => absurd z (by decide), fun z => absurd z (by decide)⟩, trivial, trivial, trivial, ⟨fun z => absurd z (by decide), fun z => absurd z (by decide), fun z => absurd z (by decide), fun z => absurd z (by decide)⟩, trivial, trivial, trivial, trivial, trivial, trivial, trivial, trivial, trivial, trivial, trivial, trivial, fl_RX10_37, trivial, trivial, trivial, trivial, trivial, trivial, trivial, trivial, fl_RX10_37, trivial, trivial, trivial, trivial, trivial, trivial, trivial, trivial, trivial, trivial, trivial, trivial, trivial, trivial, trivial, trivial, trivial, trivial, trivial, trivial, trivial, trivial, trivial⟩
def mX10_write : MI := (yX10_write, cX10_write, 3, (some .int), [(0, .aload_n 0, 1, 0, 0, 0, 0), (1, .iload_n 1, 1, 1, 0, 0, 0), (2, .invokevirtual 200, 3, 0, 0, 0, 0), (5, .ifCond .ne 6, 3, 11, 0, 0, 0), (8, .ldc 203, 2, 0, 0, (-1000000001), 0), (10, .ireturn, 1, 0, 0, 0, 0), (11, .iload_n 2, 1, 2, 0, 0, 0), (12, .i2l, 1, 0, 0, 0, 0), (13, .lconst 0, 1, 0, 0, 0, 0), (14, .ldc2_w 312, 3, 0, 0, 0, 999), (17, .invokestatic 102, 3, 0, 0, 0, 0), (20, .ifCond .ne 6, 3, 26, 0, 0, 0), (23, .ldc 112, 2, 0, 0, (-1000000002), 0), (25, .ireturn, 1, 0, 0, 0, 0), (26, .aload_n 0, 1, 0, 0, 0, 0), (27, .getfield 181, 3, 10, 40, 0, 0), (30, .bipush 15, 2, 0, 0, 15, 0), (32, .if_icmp .ne 6, 3, 38, 0, 0, 0), (35, .ldc 116, 2, 0, 0, (-1000000004), 0), (37, .ireturn, 1, 0, 0, 0, 0), (38, .aload_n 0, 1, 0, 0, 0, 0), (39, .getfield 86, 3, 10, 41, 0, 0), (42, .aload_n 0, 1, 0, 0, 0, 0), (43, .getfield 181, 3, 10, 40, 0, 0), (46, .iload_n 1, 1, 1, 0, 0, 0), (47, .iastore, 1, 0, 0, 0, 0), (48, .aload_n 0, 1, 0, 0, 0, 0), (49, .getfield 89, 3, 10, 42, 0, 0), (52, .aload_n 0, 1, 0, 0, 0, 0), (53, .getfield 181, 3, 10, 40, 0, 0), (56, .iload_n 2, 1, 2, 0, 0, 0), (57, .iastore, 1, 0, 0, 0, 0), (58, .aload_n 0, 1, 0, 0, 0, 0), (59, .dup, 1, 0, 0, 0, 0), (60, .getfield 181, 3, 10, 40, 0, 0), (63, .iconst 1, 1, 0, 0, 1, 0), (64, .iadd, 1, 0, 0, 0, 0), (65, .putfield 181, 3, 10, 40, 0, 0), (68, .aload_n 0, 1, 0, 0, 0, 0), (69, .getfield 181, 3, 10, 40, 0, 0), (72, .ireturn, 1, 0, 0, 0, 0)])
set_option maxRecDepth 20000 in
theorem okX10_write : ab_ok mX10_write := ⟨by decide, by decide +kernel, trivial, trivial, trivial, trivial, ab_in (i := 1101) rfl rfl, trivial, trivial, trivial, trivial, ab_in (i := 1290) rfl rfl, ⟨fun z => absurd z (by decide), fun z => absurd z (by decide), fun z => absurd z (by decide), fun z => absurd z (by decide)⟩, trivial, ab_in (i := 1033) rfl rfl, trivial, trivial, fl_RX10_181, trivial, trivial, ab_in (i := 1034) rfl rfl, trivial, trivial, fl_RX10_86, trivial, fl_RX10_181, trivial, trivial, trivial, fl_RX10_89, trivial, fl_RX10_181, trivial, trivial, trivial, trivial, fl_RX10_181, trivial, trivial, (gl_RX10_181 _), trivial, fl_RX10_181, trivial, trivial⟩
def mX10_tear : MI := (yX10_tear, cX10_tear, 2, (some .int), [(0, .aload_n 0, 1, 0, 0, 0, 0), (1, .getfield 178, 3, 10, 37, 0, 0), (4, .aload_n 0, 1, 0, 0, 0, 0), (5, .getfield 181, 3, 10, 40, 0, 0), (8, .iadd, 1, 0, 0, 0, 0), (9, .istore_n 1, 1, 1, 0, 0, 0), (10, .aload_n 0, 1, 0, 0, 0, 0), (11, .iconst 0, 1, 0, 0, 0, 0), (12, .putfield 178, 3, 10, 37, 0, 0), (15, .aload_n 0, 1, 0, 0, 0, 0), (16, .iconst 0, 1, 0, 0, 0, 0), (17, .putfield 181, 3, 10, 40, 0, 0), (20, .iload_n 1, 1, 1, 0, 0, 0), (21, .ireturn, 1, 0, 0, 0, 0)])
set_option maxRecDepth 20000 in
theorem okX10_tear : ab_ok mX10_tear := ⟨by decide, by decide +kernel, trivial, fl_RX10_178, trivial, fl_RX10_181, trivial, trivial, trivial, trivial, (gl_RX10_178 _), trivial, trivial, (gl_RX10_181 _), trivial, trivial, trivial⟩
def mX10_judge : MI := (yX10_judge, cX10_judge, 2, (some .int), [(0, .iconst 0, 1, 0, 0, 0, 0), (1, .istore_n 1, 1, 1, 0, 0, 0), (2, .iload_n 1, 1, 1, 0, 0, 0), (3, .aload_n 0, 1, 0, 0, 0, 0), (4, .getfield 181, 3, 10, 40, 0, 0), (7, .if_icmp .ge 30, 3, 37, 0, 0, 0), (10, .aload_n 0, 1, 0, 0, 0, 0), (11, .aload_n 0, 1, 0, 0, 0, 0), (12, .getfield 86, 3, 10, 41, 0, 0), (15, .iload_n 1, 1, 1, 0, 0, 0), (16, .iaload, 1, 0, 0, 0, 0), (17, .invokevirtual 204, 3, 0, 0, 0, 0), (20, .aload_n 0, 1, 0, 0, 0, 0), (21, .getfield 89, 3, 10, 42, 0, 0), (24, .iload_n 1, 1, 1, 0, 0, 0), (25, .iaload, 1, 0, 0, 0, 0), (26, .if_icmp .eq 5, 3, 31, 0, 0, 0), (29, .iload_n 1, 1, 1, 0, 0, 0), (30, .ireturn, 1, 0, 0, 0, 0), (31, .iinc 1 1, 3, 1, 0, 1, 0), (34, .goto (-32), 3, 2, 0, 0, 0), (37, .iconst (-1), 1, 0, 0, (-1), 0), (38, .ireturn, 1, 0, 0, 0, 0)])
set_option maxRecDepth 20000 in
theorem okX10_judge : ab_ok mX10_judge := ⟨by decide, by decide +kernel, trivial, trivial, trivial, trivial, fl_RX10_181, trivial, trivial, trivial, fl_RX10_86, trivial, trivial, trivial, trivial, fl_RX10_89, trivial, trivial, trivial, trivial, trivial, trivial, trivial, trivial, trivial, trivial⟩
def mX10_seed : MI := (yX10_seed, cX10_seed, 3, (some .int), [(0, .iload_n 1, 1, 1, 0, 0, 0), (1, .ifCond .ge 6, 3, 7, 0, 0, 0), (4, .ldc 112, 2, 0, 0, (-1000000002), 0), (6, .ireturn, 1, 0, 0, 0, 0), (7, .aload_n 0, 1, 0, 0, 0, 0), (8, .getfield 234, 3, 10, 13, 0, 0), (11, .istore_n 2, 1, 2, 0, 0, 0), (12, .aload_n 0, 1, 0, 0, 0, 0), (13, .iload_n 1, 1, 1, 0, 0, 0), (14, .putfield 234, 3, 10, 13, 0, 0), (17, .iload_n 2, 1, 2, 0, 0, 0), (18, .ireturn, 1, 0, 0, 0, 0)])
set_option maxRecDepth 20000 in
theorem okX10_seed : ab_ok mX10_seed := ⟨by decide, by decide +kernel, trivial, trivial, ab_in (i := 1033) rfl rfl, trivial, trivial, fl_RX10_234, trivial, trivial, trivial, (gl_RX10_234 _), trivial, trivial, trivial⟩
def mX10_keep : MI := (yX10_keep, cX10_keep, 3, (some .int), [(0, .iload_n 1, 1, 1, 0, 0, 0), (1, .i2l, 1, 0, 0, 0, 0), (2, .lconst 0, 1, 0, 0, 0, 0), (3, .lconst 1, 1, 0, 0, 0, 1), (4, .invokestatic 102, 3, 0, 0, 0, 0), (7, .ifCond .ne 6, 3, 13, 0, 0, 0), (10, .ldc 203, 2, 0, 0, (-1000000001), 0), (12, .ireturn, 1, 0, 0, 0, 0), (13, .iconst 0, 1, 0, 0, 0, 0), (14, .istore_n 2, 1, 2, 0, 0, 0), (15, .iload_n 2, 1, 2, 0, 0, 0), (16, .bipush 22, 2, 0, 0, 22, 0), (18, .if_icmp .ge 26, 3, 44, 0, 0, 0), (21, .aload_n 0, 1, 0, 0, 0, 0), (22, .getfield 92, 3, 10, 43, 0, 0), (25, .bipush 23, 2, 0, 0, 23, 0), (27, .iload_n 1, 1, 1, 0, 0, 0), (28, .imul, 1, 0, 0, 0, 0), (29, .iload_n 2, 1, 2, 0, 0, 0), (30, .iadd, 1, 0, 0, 0, 0), (31, .aload_n 0, 1, 0, 0, 0, 0), (32, .getfield 37, 3, 10, 12, 0, 0), (35, .iload_n 2, 1, 2, 0, 0, 0), (36, .iaload, 1, 0, 0, 0, 0), (37, .iastore, 1, 0, 0, 0, 0), (38, .iinc 2 1, 3, 2, 0, 1, 0), (41, .goto (-26), 3, 15, 0, 0, 0), (44, .aload_n 0, 1, 0, 0, 0, 0), (45, .getfield 92, 3, 10, 43, 0, 0), (48, .bipush 23, 2, 0, 0, 23, 0), (50, .iload_n 1, 1, 1, 0, 0, 0), (51, .imul, 1, 0, 0, 0, 0), (52, .bipush 22, 2, 0, 0, 22, 0), (54, .iadd, 1, 0, 0, 0, 0), (55, .aload_n 0, 1, 0, 0, 0, 0), (56, .getfield 234, 3, 10, 13, 0, 0), (59, .iastore, 1, 0, 0, 0, 0), (60, .aload_n 0, 1, 0, 0, 0, 0), (61, .getfield 95, 3, 10, 44, 0, 0), (64, .iload_n 1, 1, 1, 0, 0, 0), (65, .iconst 1, 1, 0, 0, 1, 0), (66, .bastore, 1, 0, 0, 0, 0), (67, .aload_n 0, 1, 0, 0, 0, 0), (68, .iconst 0, 1, 0, 0, 0, 0), (69, .putfield 184, 3, 10, 33, 0, 0), (72, .iconst 1, 1, 0, 0, 1, 0), (73, .ireturn, 1, 0, 0, 0, 0)])
set_option maxRecDepth 20000 in
theorem okX10_keep : ab_ok mX10_keep := ⟨by decide, by decide +kernel, trivial, trivial, trivial, trivial, ⟨fun z => absurd z (by decide), fun z => absurd z (by decide), fun z => absurd z (by decide), fun z => absurd z (by decide)⟩, trivial, ab_in (i := 1101) rfl rfl, trivial, trivial, trivial, trivial, trivial, trivial, trivial, fl_RX10_92, trivial, trivial, trivial, trivial, trivial, trivial, fl_RX10_37, trivial, trivial, trivial, trivial, trivial, trivial, fl_RX10_92, trivial, trivial, trivial, trivial, trivial, trivial, fl_RX10_234, trivial, trivial, fl_RX10_95, trivial, trivial, trivial, trivial, trivial, (gl_RX10_184 _), trivial, trivial, trivial⟩
def mX10_goBack : MI := (yX10_goBack, cX10_goBack, 3, (some .int), [(0, .iload_n 1, 1, 1, 0, 0, 0), (1, .i2l, 1, 0, 0, 0, 0), (2, .lconst 0, 1, 0, 0, 0, 0), (3, .lconst 1, 1, 0, 0, 0, 1), (4, .invokestatic 102, 3, 0, 0, 0, 0), (7, .ifCond .ne 6, 3, 13, 0, 0, 0), (10, .ldc 203, 2, 0, 0, (-1000000001), 0), (12, .ireturn, 1, 0, 0, 0, 0), (13, .aload_n 0, 1, 0, 0, 0, 0), (14, .getfield 95, 3, 10, 44, 0, 0), (17, .iload_n 1, 1, 1, 0, 0, 0), (18, .baload, 1, 0, 0, 0, 0), (19, .ifCond .ne 6, 3, 25, 0, 0, 0), (22, .ldc 214, 2, 0, 0, (-1000000003), 0), (24, .ireturn, 1, 0, 0, 0, 0), (25, .iconst 0, 1, 0, 0, 0, 0), (26, .istore_n 2, 1, 2, 0, 0, 0), (27, .iload_n 2, 1, 2, 0, 0, 0), (28, .bipush 22, 2, 0, 0, 22, 0), (30, .if_icmp .ge 26, 3, 56, 0, 0, 0), (33, .aload_n 0, 1, 0, 0, 0, 0), (34, .getfield 37, 3, 10, 12, 0, 0), (37, .iload_n 2, 1, 2, 0, 0, 0), (38, .aload_n 0, 1, 0, 0, 0, 0), (39, .getfield 92, 3, 10, 43, 0, 0), (42, .bipush 23, 2, 0, 0, 23, 0), (44, .iload_n 1, 1, 1, 0, 0, 0), (45, .imul, 1, 0, 0, 0, 0), (46, .iload_n 2, 1, 2, 0, 0, 0), (47, .iadd, 1, 0, 0, 0, 0), (48, .iaload, 1, 0, 0, 0, 0), (49, .iastore, 1, 0, 0, 0, 0), (50, .iinc 2 1, 3, 2, 0, 1, 0), (53, .goto (-26), 3, 27, 0, 0, 0), (56, .aload_n 0, 1, 0, 0, 0, 0), (57, .aload_n 0, 1, 0, 0, 0, 0), (58, .getfield 92, 3, 10, 43, 0, 0), (61, .bipush 23, 2, 0, 0, 23, 0), (63, .iload_n 1, 1, 1, 0, 0, 0), (64, .imul, 1, 0, 0, 0, 0), (65, .bipush 22, 2, 0, 0, 22, 0), (67, .iadd, 1, 0, 0, 0, 0), (68, .iaload, 1, 0, 0, 0, 0), (69, .putfield 234, 3, 10, 13, 0, 0), (72, .aload_n 0, 1, 0, 0, 0, 0), (73, .iconst 0, 1, 0, 0, 0, 0), (74, .putfield 184, 3, 10, 33, 0, 0), (77, .iconst 1, 1, 0, 0, 1, 0), (78, .ireturn, 1, 0, 0, 0, 0)])
set_option maxRecDepth 20000 in
theorem okX10_goBack : ab_ok mX10_goBack := ⟨by decide, by decide +kernel, trivial, trivial, trivial, trivial, ⟨fun z => absurd z (by decide), fun z => absurd z (by decide), fun z => absurd z (by decide), fun z => absurd z (by decide)⟩, trivial, ab_in (i := 1101) rfl rfl, trivial, trivial, fl_RX10_95, trivial, trivial, trivial, ab_in (i := 1140) rfl rfl, trivial, trivial, trivial, trivial, trivial, trivial, trivial, fl_RX10_37, trivial, trivial, fl_RX10_92, trivial, trivial, trivial, trivial, trivial, trivial, trivial, trivial, trivial, trivial, trivial, fl_RX10_92, trivial, trivial, trivial, trivial, trivial, trivial, (gl_RX10_234 _), trivial, trivial, (gl_RX10_184 _), trivial, trivial, trivial⟩
def mJ6_bitCount_0f7a4 : MI := (yJ6_bitCount_0f7a4, cJ6_bitCount_0f7a4, 1, (some .int), [(0, .iload_n 0, 1, 0, 0, 0, 0), (1, .iload_n 0, 1, 0, 0, 0, 0), (2, .iconst 1, 1, 0, 0, 1, 0), (3, .iushr, 1, 0, 0, 0, 0), (4, .ldc_w 265, 3, 0, 0, 1431655765, 0), (7, .iand, 1, 0, 0, 0, 0), (8, .isub, 1, 0, 0, 0, 0), (9, .istore_n 0, 1, 0, 0, 0, 0), (10, .iload_n 0, 1, 0, 0, 0, 0), (11, .ldc_w 266, 3, 0, 0, 858993459, 0), (14, .iand, 1, 0, 0, 0, 0), (15, .iload_n 0, 1, 0, 0, 0, 0), (16, .iconst 2, 1, 0, 0, 2, 0), (17, .iushr, 1, 0, 0, 0, 0), (18, .ldc_w 266, 3, 0, 0, 858993459, 0), (21, .iand, 1, 0, 0, 0, 0), (22, .iadd, 1, 0, 0, 0, 0), (23, .istore_n 0, 1, 0, 0, 0, 0), (24, .iload_n 0, 1, 0, 0, 0, 0), (25, .iload_n 0, 1, 0, 0, 0, 0), (26, .iconst 4, 1, 0, 0, 4, 0), (27, .iushr, 1, 0, 0, 0, 0), (28, .iadd, 1, 0, 0, 0, 0), (29, .ldc_w 267, 3, 0, 0, 252645135, 0), (32, .iand, 1, 0, 0, 0, 0), (33, .istore_n 0, 1, 0, 0, 0, 0), (34, .iload_n 0, 1, 0, 0, 0, 0), (35, .iload_n 0, 1, 0, 0, 0, 0), (36, .bipush 8, 2, 0, 0, 8, 0), (38, .iushr, 1, 0, 0, 0, 0), (39, .iadd, 1, 0, 0, 0, 0), (40, .istore_n 0, 1, 0, 0, 0, 0), (41, .iload_n 0, 1, 0, 0, 0, 0), (42, .iload_n 0, 1, 0, 0, 0, 0), (43, .bipush 16, 2, 0, 0, 16, 0), (45, .iushr, 1, 0, 0, 0, 0), (46, .iadd, 1, 0, 0, 0, 0), (47, .istore_n 0, 1, 0, 0, 0, 0), (48, .iload_n 0, 1, 0, 0, 0, 0), (49, .bipush 63, 2, 0, 0, 63, 0), (51, .iand, 1, 0, 0, 0, 0), (52, .ireturn, 1, 0, 0, 0, 0)])
set_option maxRecDepth 20000 in
theorem okJ6_bitCount_0f7a4 : ab_ok mJ6_bitCount_0f7a4 := ⟨by decide, by decide +kernel, trivial, trivial, trivial, trivial, ab_in (i := 735) rfl rfl, trivial, trivial, trivial, trivial, ab_in (i := 736) rfl rfl, trivial, trivial, trivial, trivial, ab_in (i := 736) rfl rfl, trivial, trivial, trivial, trivial, trivial, trivial, trivial, trivial, ab_in (i := 737) rfl rfl, trivial, trivial, trivial, trivial, trivial, trivial, trivial, trivial, trivial, trivial, trivial, trivial, trivial, trivial, trivial, trivial, trivial, trivial, trivial⟩
end
section
/-! the law (by program) -/
def tL_0 : List (Nat × AE) := [(0, .new 7, 3, 0, 0, 0, 0), (3, .dup, 1, 0, 0, 0, 0), (4, .invokespecial 9, 3, 0, 0, 0, 0), (7, .astore_n 1, 1, 1, 0, 0, 0), (8, .new 10, 3, 0, 0, 0, 0), (11, .dup, 1, 0, 0, 0, 0), (12, .invokespecial 12, 3, 0, 0, 0, 0), (15, .astore_n 2, 1, 2, 0, 0, 0), (16, .iconst 0, 1, 0, 0, 0, 0), (17, .istore_n 3, 1, 3, 0, 0, 0), (18, .iload_n 3, 1, 3, 0, 0, 0), (19, .aload_n 0, 1, 0, 0, 0, 0), (20, .arraylength, 1, 0, 0, 0, 0), (21, .iconst 4, 1, 0, 0, 4, 0), (22, .isub, 1, 0, 0, 0, 0), (23, .if_icmp .gt 942, 3, 965, 0, 0, 0), (26, .aload_n 0, 1, 0, 0, 0, 0), (27, .iload_n 3, 1, 3, 0, 0, 0), (28, .iaload, 1, 0, 0, 0, 0), (29, .bipush 63, 2, 0, 0, 63, 0), (31, .iand, 1, 0, 0, 0, 0), (32, .tableswitch 927 0 32 #[148, 171, 184, 197, 220, 253, 286, 319, 342, 375, 398, 421, 444, 467, 480, 493, 526, 549, 572, 585, 608, 641, 674, 697, 740, 773, 786, 799, 832, 845, 858, 881, 904], 148, 0, 0, 0, 0), (180, .aload_n 1, 1, 1, 0, 0, 0), (181, .aload_n 0, 1, 0, 0, 0, 0), (182, .iload_n 3, 1, 3, 0, 0, 0), (183, .iconst 1, 1, 0, 0, 1, 0), (184, .iadd, 1, 0, 0, 0, 0), (185, .iaload, 1, 0, 0, 0, 0), (186, .invokevirtual 13, 3, 0, 0, 0, 0), (189, .aload_n 2, 1, 2, 0, 0, 0), (190, .aload_n 0, 1, 0, 0, 0, 0), (191, .iload_n 3, 1, 3, 0, 0, 0), (192, .iconst 1, 1, 0, 0, 1, 0), (193, .iadd, 1, 0, 0, 0, 0), (194, .iaload, 1, 0, 0, 0, 0), (195, .invokevirtual 17, 3, 0, 0, 0, 0), (198, .if_icmp .eq 761, 3, 959, 0, 0, 0), (201, .iconst 0, 1, 0, 0, 0, 0), (202, .ireturn, 1, 0, 0, 0, 0), (203, .aload_n 1, 1, 1, 0, 0, 0), (204, .invokevirtual 18, 3, 0, 0, 0, 0), (207, .aload_n 2, 1, 2, 0, 0, 0), (208, .invokevirtual 22, 3, 0, 0, 0, 0), (211, .if_icmp .eq 748, 3, 959, 0, 0, 0), (214, .iconst 0, 1, 0, 0, 0, 0), (215, .ireturn, 1, 0, 0, 0, 0), (216, .aload_n 1, 1, 1, 0, 0, 0), (217, .invokevirtual 23, 3, 0, 0, 0, 0), (220, .aload_n 2, 1, 2, 0, 0, 0), (221, .invokevirtual 26, 3, 0, 0, 0, 0), (224, .if_icmp .eq 735, 3, 959, 0, 0, 0), (227, .iconst 0, 1, 0, 0, 0, 0), (228, .ireturn, 1, 0, 0, 0, 0), (229, .aload_n 1, 1, 1, 0, 0, 0), (230, .aload_n 0, 1, 0, 0, 0, 0), (231, .iload_n 3, 1, 3, 0, 0, 0), (232, .iconst 1, 1, 0, 0, 1, 0), (233, .iadd, 1, 0, 0, 0, 0), (234, .iaload, 1, 0, 0, 0, 0), (235, .invokevirtual 27, 3, 0, 0, 0, 0), (238, .aload_n 2, 1, 2, 0, 0, 0), (239, .aload_n 0, 1, 0, 0, 0, 0), (240, .iload_n 3, 1, 3, 0, 0, 0), (241, .iconst 1, 1, 0, 0, 1, 0), (242, .iadd, 1, 0, 0, 0, 0), (243, .iaload, 1, 0, 0, 0, 0), (244, .invokevirtual 30, 3, 0, 0, 0, 0), (247, .if_icmp .eq 712, 3, 959, 0, 0, 0), (250, .iconst 0, 1, 0, 0, 0, 0), (251, .ireturn, 1, 0, 0, 0, 0), (252, .aload_n 1, 1, 1, 0, 0, 0), (253, .aload_n 0, 1, 0, 0, 0, 0), (254, .iload_n 3, 1, 3, 0, 0, 0), (255, .iconst 1, 1, 0, 0, 1, 0), (256, .iadd, 1, 0, 0, 0, 0), (257, .iaload, 1, 0, 0, 0, 0), (258, .aload_n 0, 1, 0, 0, 0, 0), (259, .iload_n 3, 1, 3, 0, 0, 0), (260, .iconst 2, 1, 0, 0, 2, 0), (261, .iadd, 1, 0, 0, 0, 0), (262, .iaload, 1, 0, 0, 0, 0), (263, .invokevirtual 31, 3, 0, 0, 0, 0), (266, .aload_n 2, 1, 2, 0, 0, 0), (267, .aload_n 0, 1, 0, 0, 0, 0), (268, .iload_n 3, 1, 3, 0, 0, 0), (269, .iconst 1, 1, 0, 0, 1, 0), (270, .iadd, 1, 0, 0, 0, 0), (271, .iaload, 1, 0, 0, 0, 0), (272, .aload_n 0, 1, 0, 0, 0, 0), (273, .iload_n 3, 1, 3, 0, 0, 0), (274, .iconst 2, 1, 0, 0, 2, 0), (275, .iadd, 1, 0, 0, 0, 0), (276, .iaload, 1, 0, 0, 0, 0), (277, .invokevirtual 35, 3, 0, 0, 0, 0), (280, .if_icmp .eq 679, 3, 959, 0, 0, 0), (283, .iconst 0, 1, 0, 0, 0, 0), (284, .ireturn, 1, 0, 0, 0, 0), (285, .aload_n 1, 1, 1, 0, 0, 0), (286, .aload_n 0, 1, 0, 0, 0, 0), (287, .iload_n 3, 1, 3, 0, 0, 0)]
set_option maxRecDepth 20000 in
theorem tL_0_ok : tL_0.all (fun q => decide (decode cL_law q.1 = .ok (q.2.1, q.2.2.1)) && ab_okd q.1 q.2) = true := by decide +kernel
end
section
/-! the law (by program) -/
def tL_1 : List (Nat × AE) := [(288, .iconst 1, 1, 0, 0, 1, 0), (289, .iadd, 1, 0, 0, 0, 0), (290, .iaload, 1, 0, 0, 0, 0), (291, .aload_n 0, 1, 0, 0, 0, 0), (292, .iload_n 3, 1, 3, 0, 0, 0), (293, .iconst 2, 1, 0, 0, 2, 0), (294, .iadd, 1, 0, 0, 0, 0), (295, .iaload, 1, 0, 0, 0, 0), (296, .invokevirtual 36, 3, 0, 0, 0, 0), (299, .aload_n 2, 1, 2, 0, 0, 0), (300, .aload_n 0, 1, 0, 0, 0, 0), (301, .iload_n 3, 1, 3, 0, 0, 0), (302, .iconst 1, 1, 0, 0, 1, 0), (303, .iadd, 1, 0, 0, 0, 0), (304, .iaload, 1, 0, 0, 0, 0), (305, .aload_n 0, 1, 0, 0, 0, 0), (306, .iload_n 3, 1, 3, 0, 0, 0), (307, .iconst 2, 1, 0, 0, 2, 0), (308, .iadd, 1, 0, 0, 0, 0), (309, .iaload, 1, 0, 0, 0, 0), (310, .invokevirtual 39, 3, 0, 0, 0, 0), (313, .if_icmp .eq 646, 3, 959, 0, 0, 0), (316, .iconst 0, 1, 0, 0, 0, 0), (317, .ireturn, 1, 0, 0, 0, 0), (318, .aload_n 1, 1, 1, 0, 0, 0), (319, .aload_n 0, 1, 0, 0, 0, 0), (320, .iload_n 3, 1, 3, 0, 0, 0), (321, .iconst 1, 1, 0, 0, 1, 0), (322, .iadd, 1, 0, 0, 0, 0), (323, .iaload, 1, 0, 0, 0, 0), (324, .aload_n 0, 1, 0, 0, 0, 0), (325, .iload_n 3, 1, 3, 0, 0, 0), (326, .iconst 2, 1, 0, 0, 2, 0), (327, .iadd, 1, 0, 0, 0, 0), (328, .iaload, 1, 0, 0, 0, 0), (329, .invokevirtual 40, 3, 0, 0, 0, 0), (332, .aload_n 2, 1, 2, 0, 0, 0), (333, .aload_n 0, 1, 0, 0, 0, 0), (334, .iload_n 3, 1, 3, 0, 0, 0), (335, .iconst 1, 1, 0, 0, 1, 0), (336, .iadd, 1, 0, 0, 0, 0), (337, .iaload, 1, 0, 0, 0, 0), (338, .aload_n 0, 1, 0, 0, 0, 0), (339, .iload_n 3, 1, 3, 0, 0, 0), (340, .iconst 2, 1, 0, 0, 2, 0), (341, .iadd, 1, 0, 0, 0, 0), (342, .iaload, 1, 0, 0, 0, 0), (343, .invokevirtual 43, 3, 0, 0, 0, 0), (346, .if_icmp .eq 613, 3, 959, 0, 0, 0), (349, .iconst 0, 1, 0, 0, 0, 0), (350, .ireturn, 1, 0, 0, 0, 0), (351, .aload_n 1, 1, 1, 0, 0, 0), (352, .aload_n 0, 1, 0, 0, 0, 0), (353, .iload_n 3, 1, 3, 0, 0, 0), (354, .iconst 1, 1, 0, 0, 1, 0), (355, .iadd, 1, 0, 0, 0, 0), (356, .iaload, 1, 0, 0, 0, 0), (357, .invokevirtual 44, 3, 0, 0, 0, 0), (360, .aload_n 2, 1, 2, 0, 0, 0), (361, .aload_n 0, 1, 0, 0, 0, 0), (362, .iload_n 3, 1, 3, 0, 0, 0), (363, .iconst 1, 1, 0, 0, 1, 0), (364, .iadd, 1, 0, 0, 0, 0), (365, .iaload, 1, 0, 0, 0, 0), (366, .invokevirtual 47, 3, 0, 0, 0, 0), (369, .if_icmp .eq 590, 3, 959, 0, 0, 0), (372, .iconst 0, 1, 0, 0, 0, 0), (373, .ireturn, 1, 0, 0, 0, 0), (374, .aload_n 1, 1, 1, 0, 0, 0), (375, .aload_n 0, 1, 0, 0, 0, 0), (376, .iload_n 3, 1, 3, 0, 0, 0), (377, .iconst 1, 1, 0, 0, 1, 0), (378, .iadd, 1, 0, 0, 0, 0), (379, .iaload, 1, 0, 0, 0, 0), (380, .aload_n 0, 1, 0, 0, 0, 0), (381, .iload_n 3, 1, 3, 0, 0, 0), (382, .iconst 2, 1, 0, 0, 2, 0), (383, .iadd, 1, 0, 0, 0, 0), (384, .iaload, 1, 0, 0, 0, 0), (385, .invokevirtual 48, 3, 0, 0, 0, 0), (388, .aload_n 2, 1, 2, 0, 0, 0), (389, .aload_n 0, 1, 0, 0, 0, 0), (390, .iload_n 3, 1, 3, 0, 0, 0), (391, .iconst 1, 1, 0, 0, 1, 0), (392, .iadd, 1, 0, 0, 0, 0), (393, .iaload, 1, 0, 0, 0, 0), (394, .aload_n 0, 1, 0, 0, 0, 0), (395, .iload_n 3, 1, 3, 0, 0, 0), (396, .iconst 2, 1, 0, 0, 2, 0), (397, .iadd, 1, 0, 0, 0, 0), (398, .iaload, 1, 0, 0, 0, 0), (399, .invokevirtual 51, 3, 0, 0, 0, 0), (402, .if_icmp .eq 557, 3, 959, 0, 0, 0), (405, .iconst 0, 1, 0, 0, 0, 0), (406, .ireturn, 1, 0, 0, 0, 0), (407, .aload_n 1, 1, 1, 0, 0, 0), (408, .aload_n 0, 1, 0, 0, 0, 0), (409, .iload_n 3, 1, 3, 0, 0, 0), (410, .iconst 1, 1, 0, 0, 1, 0), (411, .iadd, 1, 0, 0, 0, 0)]
set_option maxRecDepth 20000 in
theorem tL_1_ok : tL_1.all (fun q => decide (decode cL_law q.1 = .ok (q.2.1, q.2.2.1)) && ab_okd q.1 q.2) = true := by decide +kernel
end
section
/-! the law (by program) -/
def tL_2 : List (Nat × AE) := [(412, .iaload, 1, 0, 0, 0, 0), (413, .invokevirtual 52, 3, 0, 0, 0, 0), (416, .aload_n 2, 1, 2, 0, 0, 0), (417, .aload_n 0, 1, 0, 0, 0, 0), (418, .iload_n 3, 1, 3, 0, 0, 0), (419, .iconst 1, 1, 0, 0, 1, 0), (420, .iadd, 1, 0, 0, 0, 0), (421, .iaload, 1, 0, 0, 0, 0), (422, .invokevirtual 55, 3, 0, 0, 0, 0), (425, .if_icmp .eq 534, 3, 959, 0, 0, 0), (428, .iconst 0, 1, 0, 0, 0, 0), (429, .ireturn, 1, 0, 0, 0, 0), (430, .aload_n 1, 1, 1, 0, 0, 0), (431, .aload_n 0, 1, 0, 0, 0, 0), (432, .iload_n 3, 1, 3, 0, 0, 0), (433, .iconst 1, 1, 0, 0, 1, 0), (434, .iadd, 1, 0, 0, 0, 0), (435, .iaload, 1, 0, 0, 0, 0), (436, .invokevirtual 56, 3, 0, 0, 0, 0), (439, .aload_n 2, 1, 2, 0, 0, 0), (440, .aload_n 0, 1, 0, 0, 0, 0), (441, .iload_n 3, 1, 3, 0, 0, 0), (442, .iconst 1, 1, 0, 0, 1, 0), (443, .iadd, 1, 0, 0, 0, 0), (444, .iaload, 1, 0, 0, 0, 0), (445, .invokevirtual 59, 3, 0, 0, 0, 0), (448, .if_icmp .eq 511, 3, 959, 0, 0, 0), (451, .iconst 0, 1, 0, 0, 0, 0), (452, .ireturn, 1, 0, 0, 0, 0), (453, .aload_n 1, 1, 1, 0, 0, 0), (454, .aload_n 0, 1, 0, 0, 0, 0), (455, .iload_n 3, 1, 3, 0, 0, 0), (456, .iconst 1, 1, 0, 0, 1, 0), (457, .iadd, 1, 0, 0, 0, 0), (458, .iaload, 1, 0, 0, 0, 0), (459, .invokevirtual 60, 3, 0, 0, 0, 0), (462, .aload_n 2, 1, 2, 0, 0, 0), (463, .aload_n 0, 1, 0, 0, 0, 0), (464, .iload_n 3, 1, 3, 0, 0, 0), (465, .iconst 1, 1, 0, 0, 1, 0), (466, .iadd, 1, 0, 0, 0, 0), (467, .iaload, 1, 0, 0, 0, 0), (468, .invokevirtual 63, 3, 0, 0, 0, 0), (471, .if_icmp .eq 488, 3, 959, 0, 0, 0), (474, .iconst 0, 1, 0, 0, 0, 0), (475, .ireturn, 1, 0, 0, 0, 0), (476, .aload_n 1, 1, 1, 0, 0, 0), (477, .aload_n 0, 1, 0, 0, 0, 0), (478, .iload_n 3, 1, 3, 0, 0, 0), (479, .iconst 1, 1, 0, 0, 1, 0), (480, .iadd, 1, 0, 0, 0, 0), (481, .iaload, 1, 0, 0, 0, 0), (482, .invokevirtual 64, 3, 0, 0, 0, 0), (485, .aload_n 2, 1, 2, 0, 0, 0), (486, .aload_n 0, 1, 0, 0, 0, 0), (487, .iload_n 3, 1, 3, 0, 0, 0), (488, .iconst 1, 1, 0, 0, 1, 0), (489, .iadd, 1, 0, 0, 0, 0), (490, .iaload, 1, 0, 0, 0, 0), (491, .invokevirtual 67, 3, 0, 0, 0, 0), (494, .if_icmp .eq 465, 3, 959, 0, 0, 0), (497, .iconst 0, 1, 0, 0, 0, 0), (498, .ireturn, 1, 0, 0, 0, 0), (499, .aload_n 1, 1, 1, 0, 0, 0), (500, .invokevirtual 68, 3, 0, 0, 0, 0), (503, .aload_n 2, 1, 2, 0, 0, 0), (504, .invokevirtual 71, 3, 0, 0, 0, 0), (507, .if_icmp .eq 452, 3, 959, 0, 0, 0), (510, .iconst 0, 1, 0, 0, 0, 0), (511, .ireturn, 1, 0, 0, 0, 0), (512, .aload_n 1, 1, 1, 0, 0, 0), (513, .invokevirtual 72, 3, 0, 0, 0, 0), (516, .aload_n 2, 1, 2, 0, 0, 0), (517, .invokevirtual 75, 3, 0, 0, 0, 0), (520, .if_icmp .eq 439, 3, 959, 0, 0, 0), (523, .iconst 0, 1, 0, 0, 0, 0), (524, .ireturn, 1, 0, 0, 0, 0), (525, .aload_n 1, 1, 1, 0, 0, 0), (526, .aload_n 0, 1, 0, 0, 0, 0), (527, .iload_n 3, 1, 3, 0, 0, 0), (528, .iconst 1, 1, 0, 0, 1, 0), (529, .iadd, 1, 0, 0, 0, 0), (530, .iaload, 1, 0, 0, 0, 0), (531, .aload_n 0, 1, 0, 0, 0, 0), (532, .iload_n 3, 1, 3, 0, 0, 0), (533, .iconst 2, 1, 0, 0, 2, 0), (534, .iadd, 1, 0, 0, 0, 0), (535, .iaload, 1, 0, 0, 0, 0), (536, .invokevirtual 76, 3, 0, 0, 0, 0), (539, .aload_n 2, 1, 2, 0, 0, 0), (540, .aload_n 0, 1, 0, 0, 0, 0), (541, .iload_n 3, 1, 3, 0, 0, 0), (542, .iconst 1, 1, 0, 0, 1, 0), (543, .iadd, 1, 0, 0, 0, 0), (544, .iaload, 1, 0, 0, 0, 0), (545, .aload_n 0, 1, 0, 0, 0, 0), (546, .iload_n 3, 1, 3, 0, 0, 0), (547, .iconst 2, 1, 0, 0, 2, 0), (548, .iadd, 1, 0, 0, 0, 0), (549, .iaload, 1, 0, 0, 0, 0)]
set_option maxRecDepth 20000 in
theorem tL_2_ok : tL_2.all (fun q => decide (decode cL_law q.1 = .ok (q.2.1, q.2.2.1)) && ab_okd q.1 q.2) = true := by decide +kernel
end
section
/-! the law (by program) -/
def tL_3 : List (Nat × AE) := [(550, .invokevirtual 79, 3, 0, 0, 0, 0), (553, .if_icmp .eq 406, 3, 959, 0, 0, 0), (556, .iconst 0, 1, 0, 0, 0, 0), (557, .ireturn, 1, 0, 0, 0, 0), (558, .aload_n 1, 1, 1, 0, 0, 0), (559, .aload_n 0, 1, 0, 0, 0, 0), (560, .iload_n 3, 1, 3, 0, 0, 0), (561, .iconst 1, 1, 0, 0, 1, 0), (562, .iadd, 1, 0, 0, 0, 0), (563, .iaload, 1, 0, 0, 0, 0), (564, .invokevirtual 80, 3, 0, 0, 0, 0), (567, .aload_n 2, 1, 2, 0, 0, 0), (568, .aload_n 0, 1, 0, 0, 0, 0), (569, .iload_n 3, 1, 3, 0, 0, 0), (570, .iconst 1, 1, 0, 0, 1, 0), (571, .iadd, 1, 0, 0, 0, 0), (572, .iaload, 1, 0, 0, 0, 0), (573, .invokevirtual 83, 3, 0, 0, 0, 0), (576, .if_icmp .eq 383, 3, 959, 0, 0, 0), (579, .iconst 0, 1, 0, 0, 0, 0), (580, .ireturn, 1, 0, 0, 0, 0), (581, .aload_n 1, 1, 1, 0, 0, 0), (582, .aload_n 0, 1, 0, 0, 0, 0), (583, .iload_n 3, 1, 3, 0, 0, 0), (584, .iconst 1, 1, 0, 0, 1, 0), (585, .iadd, 1, 0, 0, 0, 0), (586, .iaload, 1, 0, 0, 0, 0), (587, .invokevirtual 84, 3, 0, 0, 0, 0), (590, .aload_n 2, 1, 2, 0, 0, 0), (591, .aload_n 0, 1, 0, 0, 0, 0), (592, .iload_n 3, 1, 3, 0, 0, 0), (593, .iconst 1, 1, 0, 0, 1, 0), (594, .iadd, 1, 0, 0, 0, 0), (595, .iaload, 1, 0, 0, 0, 0), (596, .invokevirtual 87, 3, 0, 0, 0, 0), (599, .if_icmp .eq 360, 3, 959, 0, 0, 0), (602, .iconst 0, 1, 0, 0, 0, 0), (603, .ireturn, 1, 0, 0, 0, 0), (604, .aload_n 1, 1, 1, 0, 0, 0), (605, .invokevirtual 88, 3, 0, 0, 0, 0), (608, .aload_n 2, 1, 2, 0, 0, 0), (609, .invokevirtual 91, 3, 0, 0, 0, 0), (612, .if_icmp .eq 347, 3, 959, 0, 0, 0), (615, .iconst 0, 1, 0, 0, 0, 0), (616, .ireturn, 1, 0, 0, 0, 0), (617, .aload_n 1, 1, 1, 0, 0, 0), (618, .aload_n 0, 1, 0, 0, 0, 0), (619, .iload_n 3, 1, 3, 0, 0, 0), (620, .iconst 1, 1, 0, 0, 1, 0), (621, .iadd, 1, 0, 0, 0, 0), (622, .iaload, 1, 0, 0, 0, 0), (623, .invokevirtual 92, 3, 0, 0, 0, 0), (626, .aload_n 2, 1, 2, 0, 0, 0), (627, .aload_n 0, 1, 0, 0, 0, 0), (628, .iload_n 3, 1, 3, 0, 0, 0), (629, .iconst 1, 1, 0, 0, 1, 0), (630, .iadd, 1, 0, 0, 0, 0), (631, .iaload, 1, 0, 0, 0, 0), (632, .invokevirtual 95, 3, 0, 0, 0, 0), (635, .if_icmp .eq 324, 3, 959, 0, 0, 0), (638, .iconst 0, 1, 0, 0, 0, 0), (639, .ireturn, 1, 0, 0, 0, 0), (640, .aload_n 1, 1, 1, 0, 0, 0), (641, .aload_n 0, 1, 0, 0, 0, 0), (642, .iload_n 3, 1, 3, 0, 0, 0), (643, .iconst 1, 1, 0, 0, 1, 0), (644, .iadd, 1, 0, 0, 0, 0), (645, .iaload, 1, 0, 0, 0, 0), (646, .aload_n 0, 1, 0, 0, 0, 0), (647, .iload_n 3, 1, 3, 0, 0, 0), (648, .iconst 2, 1, 0, 0, 2, 0), (649, .iadd, 1, 0, 0, 0, 0), (650, .iaload, 1, 0, 0, 0, 0), (651, .invokevirtual 96, 3, 0, 0, 0, 0), (654, .aload_n 2, 1, 2, 0, 0, 0), (655, .aload_n 0, 1, 0, 0, 0, 0), (656, .iload_n 3, 1, 3, 0, 0, 0), (657, .iconst 1, 1, 0, 0, 1, 0), (658, .iadd, 1, 0, 0, 0, 0), (659, .iaload, 1, 0, 0, 0, 0), (660, .aload_n 0, 1, 0, 0, 0, 0), (661, .iload_n 3, 1, 3, 0, 0, 0), (662, .iconst 2, 1, 0, 0, 2, 0), (663, .iadd, 1, 0, 0, 0, 0), (664, .iaload, 1, 0, 0, 0, 0), (665, .invokevirtual 99, 3, 0, 0, 0, 0), (668, .if_icmp .eq 291, 3, 959, 0, 0, 0), (671, .iconst 0, 1, 0, 0, 0, 0), (672, .ireturn, 1, 0, 0, 0, 0), (673, .aload_n 1, 1, 1, 0, 0, 0), (674, .aload_n 0, 1, 0, 0, 0, 0), (675, .iload_n 3, 1, 3, 0, 0, 0), (676, .iconst 1, 1, 0, 0, 1, 0), (677, .iadd, 1, 0, 0, 0, 0), (678, .iaload, 1, 0, 0, 0, 0), (679, .aload_n 0, 1, 0, 0, 0, 0), (680, .iload_n 3, 1, 3, 0, 0, 0), (681, .iconst 2, 1, 0, 0, 2, 0), (682, .iadd, 1, 0, 0, 0, 0), (683, .iaload, 1, 0, 0, 0, 0)]
set_option maxRecDepth 20000 in
theorem tL_3_ok : tL_3.all (fun q => decide (decode cL_law q.1 = .ok (q.2.1, q.2.2.1)) && ab_okd q.1 q.2) = true := by decide +kernel
end
section
/-! the law (by program) -/
def tL_4 : List (Nat × AE) := [(684, .invokevirtual 100, 3, 0, 0, 0, 0), (687, .aload_n 2, 1, 2, 0, 0, 0), (688, .aload_n 0, 1, 0, 0, 0, 0), (689, .iload_n 3, 1, 3, 0, 0, 0), (690, .iconst 1, 1, 0, 0, 1, 0), (691, .iadd, 1, 0, 0, 0, 0), (692, .iaload, 1, 0, 0, 0, 0), (693, .aload_n 0, 1, 0, 0, 0, 0), (694, .iload_n 3, 1, 3, 0, 0, 0), (695, .iconst 2, 1, 0, 0, 2, 0), (696, .iadd, 1, 0, 0, 0, 0), (697, .iaload, 1, 0, 0, 0, 0), (698, .invokevirtual 103, 3, 0, 0, 0, 0), (701, .if_icmp .eq 258, 3, 959, 0, 0, 0), (704, .iconst 0, 1, 0, 0, 0, 0), (705, .ireturn, 1, 0, 0, 0, 0), (706, .aload_n 1, 1, 1, 0, 0, 0), (707, .aload_n 0, 1, 0, 0, 0, 0), (708, .iload_n 3, 1, 3, 0, 0, 0), (709, .iconst 1, 1, 0, 0, 1, 0), (710, .iadd, 1, 0, 0, 0, 0), (711, .iaload, 1, 0, 0, 0, 0), (712, .invokevirtual 104, 3, 0, 0, 0, 0), (715, .aload_n 2, 1, 2, 0, 0, 0), (716, .aload_n 0, 1, 0, 0, 0, 0), (717, .iload_n 3, 1, 3, 0, 0, 0), (718, .iconst 1, 1, 0, 0, 1, 0), (719, .iadd, 1, 0, 0, 0, 0), (720, .iaload, 1, 0, 0, 0, 0), (721, .invokevirtual 107, 3, 0, 0, 0, 0), (724, .if_icmp .eq 235, 3, 959, 0, 0, 0), (727, .iconst 0, 1, 0, 0, 0, 0), (728, .ireturn, 1, 0, 0, 0, 0), (729, .aload_n 1, 1, 1, 0, 0, 0), (730, .aload_n 0, 1, 0, 0, 0, 0), (731, .iload_n 3, 1, 3, 0, 0, 0), (732, .iconst 1, 1, 0, 0, 1, 0), (733, .iadd, 1, 0, 0, 0, 0), (734, .iaload, 1, 0, 0, 0, 0), (735, .aload_n 0, 1, 0, 0, 0, 0), (736, .iload_n 3, 1, 3, 0, 0, 0), (737, .iconst 2, 1, 0, 0, 2, 0), (738, .iadd, 1, 0, 0, 0, 0), (739, .iaload, 1, 0, 0, 0, 0), (740, .aload_n 0, 1, 0, 0, 0, 0), (741, .iload_n 3, 1, 3, 0, 0, 0), (742, .iconst 3, 1, 0, 0, 3, 0), (743, .iadd, 1, 0, 0, 0, 0), (744, .iaload, 1, 0, 0, 0, 0), (745, .invokevirtual 108, 3, 0, 0, 0, 0), (748, .aload_n 2, 1, 2, 0, 0, 0), (749, .aload_n 0, 1, 0, 0, 0, 0), (750, .iload_n 3, 1, 3, 0, 0, 0), (751, .iconst 1, 1, 0, 0, 1, 0), (752, .iadd, 1, 0, 0, 0, 0), (753, .iaload, 1, 0, 0, 0, 0), (754, .aload_n 0, 1, 0, 0, 0, 0), (755, .iload_n 3, 1, 3, 0, 0, 0), (756, .iconst 2, 1, 0, 0, 2, 0), (757, .iadd, 1, 0, 0, 0, 0), (758, .iaload, 1, 0, 0, 0, 0), (759, .aload_n 0, 1, 0, 0, 0, 0), (760, .iload_n 3, 1, 3, 0, 0, 0), (761, .iconst 3, 1, 0, 0, 3, 0), (762, .iadd, 1, 0, 0, 0, 0), (763, .iaload, 1, 0, 0, 0, 0), (764, .invokevirtual 112, 3, 0, 0, 0, 0), (767, .if_icmp .eq 192, 3, 959, 0, 0, 0), (770, .iconst 0, 1, 0, 0, 0, 0), (771, .ireturn, 1, 0, 0, 0, 0), (772, .aload_n 1, 1, 1, 0, 0, 0), (773, .aload_n 0, 1, 0, 0, 0, 0), (774, .iload_n 3, 1, 3, 0, 0, 0), (775, .iconst 1, 1, 0, 0, 1, 0), (776, .iadd, 1, 0, 0, 0, 0), (777, .iaload, 1, 0, 0, 0, 0), (778, .aload_n 0, 1, 0, 0, 0, 0), (779, .iload_n 3, 1, 3, 0, 0, 0), (780, .iconst 2, 1, 0, 0, 2, 0), (781, .iadd, 1, 0, 0, 0, 0), (782, .iaload, 1, 0, 0, 0, 0), (783, .invokevirtual 113, 3, 0, 0, 0, 0), (786, .aload_n 2, 1, 2, 0, 0, 0), (787, .aload_n 0, 1, 0, 0, 0, 0), (788, .iload_n 3, 1, 3, 0, 0, 0), (789, .iconst 1, 1, 0, 0, 1, 0), (790, .iadd, 1, 0, 0, 0, 0), (791, .iaload, 1, 0, 0, 0, 0), (792, .aload_n 0, 1, 0, 0, 0, 0), (793, .iload_n 3, 1, 3, 0, 0, 0), (794, .iconst 2, 1, 0, 0, 2, 0), (795, .iadd, 1, 0, 0, 0, 0), (796, .iaload, 1, 0, 0, 0, 0), (797, .invokevirtual 116, 3, 0, 0, 0, 0), (800, .if_icmp .eq 159, 3, 959, 0, 0, 0), (803, .iconst 0, 1, 0, 0, 0, 0), (804, .ireturn, 1, 0, 0, 0, 0), (805, .aload_n 1, 1, 1, 0, 0, 0), (806, .invokevirtual 117, 3, 0, 0, 0, 0), (809, .aload_n 2, 1, 2, 0, 0, 0)]
set_option maxRecDepth 20000 in
theorem tL_4_ok : tL_4.all (fun q => decide (decode cL_law q.1 = .ok (q.2.1, q.2.2.1)) && ab_okd q.1 q.2) = true := by decide +kernel
end
section
/-! the law (by program) -/
def tL_5 : List (Nat × AE) := [(810, .invokevirtual 120, 3, 0, 0, 0, 0), (813, .if_icmp .eq 146, 3, 959, 0, 0, 0), (816, .iconst 0, 1, 0, 0, 0, 0), (817, .ireturn, 1, 0, 0, 0, 0), (818, .aload_n 1, 1, 1, 0, 0, 0), (819, .invokevirtual 121, 3, 0, 0, 0, 0), (822, .aload_n 2, 1, 2, 0, 0, 0), (823, .invokevirtual 124, 3, 0, 0, 0, 0), (826, .if_icmp .eq 133, 3, 959, 0, 0, 0), (829, .iconst 0, 1, 0, 0, 0, 0), (830, .ireturn, 1, 0, 0, 0, 0), (831, .aload_n 1, 1, 1, 0, 0, 0), (832, .aload_n 0, 1, 0, 0, 0, 0), (833, .iload_n 3, 1, 3, 0, 0, 0), (834, .iconst 1, 1, 0, 0, 1, 0), (835, .iadd, 1, 0, 0, 0, 0), (836, .iaload, 1, 0, 0, 0, 0), (837, .aload_n 0, 1, 0, 0, 0, 0), (838, .iload_n 3, 1, 3, 0, 0, 0), (839, .iconst 2, 1, 0, 0, 2, 0), (840, .iadd, 1, 0, 0, 0, 0), (841, .iaload, 1, 0, 0, 0, 0), (842, .invokevirtual 125, 3, 0, 0, 0, 0), (845, .aload_n 2, 1, 2, 0, 0, 0), (846, .aload_n 0, 1, 0, 0, 0, 0), (847, .iload_n 3, 1, 3, 0, 0, 0), (848, .iconst 1, 1, 0, 0, 1, 0), (849, .iadd, 1, 0, 0, 0, 0), (850, .iaload, 1, 0, 0, 0, 0), (851, .aload_n 0, 1, 0, 0, 0, 0), (852, .iload_n 3, 1, 3, 0, 0, 0), (853, .iconst 2, 1, 0, 0, 2, 0), (854, .iadd, 1, 0, 0, 0, 0), (855, .iaload, 1, 0, 0, 0, 0), (856, .invokevirtual 128, 3, 0, 0, 0, 0), (859, .if_icmp .eq 100, 3, 959, 0, 0, 0), (862, .iconst 0, 1, 0, 0, 0, 0), (863, .ireturn, 1, 0, 0, 0, 0), (864, .aload_n 1, 1, 1, 0, 0, 0), (865, .invokevirtual 129, 3, 0, 0, 0, 0), (868, .aload_n 2, 1, 2, 0, 0, 0), (869, .invokevirtual 132, 3, 0, 0, 0, 0), (872, .if_icmp .eq 87, 3, 959, 0, 0, 0), (875, .iconst 0, 1, 0, 0, 0, 0), (876, .ireturn, 1, 0, 0, 0, 0), (877, .aload_n 1, 1, 1, 0, 0, 0), (878, .invokevirtual 133, 3, 0, 0, 0, 0), (881, .aload_n 2, 1, 2, 0, 0, 0), (882, .invokevirtual 136, 3, 0, 0, 0, 0), (885, .if_icmp .eq 74, 3, 959, 0, 0, 0), (888, .iconst 0, 1, 0, 0, 0, 0), (889, .ireturn, 1, 0, 0, 0, 0), (890, .aload_n 1, 1, 1, 0, 0, 0), (891, .aload_n 0, 1, 0, 0, 0, 0), (892, .iload_n 3, 1, 3, 0, 0, 0), (893, .iconst 1, 1, 0, 0, 1, 0), (894, .iadd, 1, 0, 0, 0, 0), (895, .iaload, 1, 0, 0, 0, 0), (896, .invokevirtual 137, 3, 0, 0, 0, 0), (899, .aload_n 2, 1, 2, 0, 0, 0), (900, .aload_n 0, 1, 0, 0, 0, 0), (901, .iload_n 3, 1, 3, 0, 0, 0), (902, .iconst 1, 1, 0, 0, 1, 0), (903, .iadd, 1, 0, 0, 0, 0), (904, .iaload, 1, 0, 0, 0, 0), (905, .invokevirtual 140, 3, 0, 0, 0, 0), (908, .if_icmp .eq 51, 3, 959, 0, 0, 0), (911, .iconst 0, 1, 0, 0, 0, 0), (912, .ireturn, 1, 0, 0, 0, 0), (913, .aload_n 1, 1, 1, 0, 0, 0), (914, .aload_n 0, 1, 0, 0, 0, 0), (915, .iload_n 3, 1, 3, 0, 0, 0), (916, .iconst 1, 1, 0, 0, 1, 0), (917, .iadd, 1, 0, 0, 0, 0), (918, .iaload, 1, 0, 0, 0, 0), (919, .invokevirtual 141, 3, 0, 0, 0, 0), (922, .aload_n 2, 1, 2, 0, 0, 0), (923, .aload_n 0, 1, 0, 0, 0, 0), (924, .iload_n 3, 1, 3, 0, 0, 0), (925, .iconst 1, 1, 0, 0, 1, 0), (926, .iadd, 1, 0, 0, 0, 0), (927, .iaload, 1, 0, 0, 0, 0), (928, .invokevirtual 144, 3, 0, 0, 0, 0), (931, .if_icmp .eq 28, 3, 959, 0, 0, 0), (934, .iconst 0, 1, 0, 0, 0, 0), (935, .ireturn, 1, 0, 0, 0, 0), (936, .aload_n 1, 1, 1, 0, 0, 0), (937, .aload_n 0, 1, 0, 0, 0, 0), (938, .iload_n 3, 1, 3, 0, 0, 0), (939, .iconst 1, 1, 0, 0, 1, 0), (940, .iadd, 1, 0, 0, 0, 0), (941, .iaload, 1, 0, 0, 0, 0), (942, .invokevirtual 145, 3, 0, 0, 0, 0), (945, .aload_n 2, 1, 2, 0, 0, 0), (946, .aload_n 0, 1, 0, 0, 0, 0), (947, .iload_n 3, 1, 3, 0, 0, 0), (948, .iconst 1, 1, 0, 0, 1, 0), (949, .iadd, 1, 0, 0, 0, 0), (950, .iaload, 1, 0, 0, 0, 0), (951, .invokevirtual 148, 3, 0, 0, 0, 0)]
set_option maxRecDepth 20000 in
theorem tL_5_ok : tL_5.all (fun q => decide (decode cL_law q.1 = .ok (q.2.1, q.2.2.1)) && ab_okd q.1 q.2) = true := by decide +kernel
end
section
/-! the law (by program) -/
def tL_6 : List (Nat × AE) := [(954, .if_icmp .eq 5, 3, 959, 0, 0, 0), (957, .iconst 0, 1, 0, 0, 0, 0), (958, .ireturn, 1, 0, 0, 0, 0), (959, .iinc 3 4, 3, 3, 0, 4, 0), (962, .goto (-944), 3, 18, 0, 0, 0), (965, .iconst 1, 1, 0, 0, 1, 0), (966, .ireturn, 1, 0, 0, 0, 0)]
set_option maxRecDepth 20000 in
theorem tL_6_ok : tL_6.all (fun q => decide (decode cL_law q.1 = .ok (q.2.1, q.2.2.1)) && ab_okd q.1 q.2) = true := by decide +kernel
end
section
def mL_law : MI := (yL_law, cL_law, 4, (some .boolean), [(0, .new 7, 3, 0, 0, 0, 0), (3, .dup, 1, 0, 0, 0, 0), (4, .invokespecial 9, 3, 0, 0, 0, 0), (7, .astore_n 1, 1, 1, 0, 0, 0), (8, .new 10, 3, 0, 0, 0, 0), (11, .dup, 1, 0, 0, 0, 0), (12, .invokespecial 12, 3, 0, 0, 0, 0), (15, .astore_n 2, 1, 2, 0, 0, 0), (16, .iconst 0, 1, 0, 0, 0, 0), (17, .istore_n 3, 1, 3, 0, 0, 0), (18, .iload_n 3, 1, 3, 0, 0, 0), (19, .aload_n 0, 1, 0, 0, 0, 0), (20, .arraylength, 1, 0, 0, 0, 0), (21, .iconst 4, 1, 0, 0, 4, 0), (22, .isub, 1, 0, 0, 0, 0), (23, .if_icmp .gt 942, 3, 965, 0, 0, 0), (26, .aload_n 0, 1, 0, 0, 0, 0), (27, .iload_n 3, 1, 3, 0, 0, 0), (28, .iaload, 1, 0, 0, 0, 0), (29, .bipush 63, 2, 0, 0, 63, 0), (31, .iand, 1, 0, 0, 0, 0), (32, .tableswitch 927 0 32 #[148, 171, 184, 197, 220, 253, 286, 319, 342, 375, 398, 421, 444, 467, 480, 493, 526, 549, 572, 585, 608, 641, 674, 697, 740, 773, 786, 799, 832, 845, 858, 881, 904], 148, 0, 0, 0, 0), (180, .aload_n 1, 1, 1, 0, 0, 0), (181, .aload_n 0, 1, 0, 0, 0, 0), (182, .iload_n 3, 1, 3, 0, 0, 0), (183, .iconst 1, 1, 0, 0, 1, 0), (184, .iadd, 1, 0, 0, 0, 0), (185, .iaload, 1, 0, 0, 0, 0), (186, .invokevirtual 13, 3, 0, 0, 0, 0), (189, .aload_n 2, 1, 2, 0, 0, 0), (190, .aload_n 0, 1, 0, 0, 0, 0), (191, .iload_n 3, 1, 3, 0, 0, 0), (192, .iconst 1, 1, 0, 0, 1, 0), (193, .iadd, 1, 0, 0, 0, 0), (194, .iaload, 1, 0, 0, 0, 0), (195, .invokevirtual 17, 3, 0, 0, 0, 0), (198, .if_icmp .eq 761, 3, 959, 0, 0, 0), (201, .iconst 0, 1, 0, 0, 0, 0), (202, .ireturn, 1, 0, 0, 0, 0), (203, .aload_n 1, 1, 1, 0, 0, 0), (204, .invokevirtual 18, 3, 0, 0, 0, 0), (207, .aload_n 2, 1, 2, 0, 0, 0), (208, .invokevirtual 22, 3, 0, 0, 0, 0), (211, .if_icmp .eq 748, 3, 959, 0, 0, 0), (214, .iconst 0, 1, 0, 0, 0, 0), (215, .ireturn, 1, 0, 0, 0, 0), (216, .aload_n 1, 1, 1, 0, 0, 0), (217, .invokevirtual 23, 3, 0, 0, 0, 0), (220, .aload_n 2, 1, 2, 0, 0, 0), (221, .invokevirtual 26, 3, 0, 0, 0, 0), (224, .if_icmp .eq 735, 3, 959, 0, 0, 0), (227, .iconst 0, 1, 0, 0, 0, 0), (228, .ireturn, 1, 0, 0, 0, 0), (229, .aload_n 1, 1, 1, 0, 0, 0), (230, .aload_n 0, 1, 0, 0, 0, 0), (231, .iload_n 3, 1, 3, 0, 0, 0), (232, .iconst 1, 1, 0, 0, 1, 0), (233, .iadd, 1, 0, 0, 0, 0), (234, .iaload, 1, 0, 0, 0, 0), (235, .invokevirtual 27, 3, 0, 0, 0, 0), (238, .aload_n 2, 1, 2, 0, 0, 0), (239, .aload_n 0, 1, 0, 0, 0, 0), (240, .iload_n 3, 1, 3, 0, 0, 0), (241, .iconst 1, 1, 0, 0, 1, 0), (242, .iadd, 1, 0, 0, 0, 0), (243, .iaload, 1, 0, 0, 0, 0), (244, .invokevirtual 30, 3, 0, 0, 0, 0), (247, .if_icmp .eq 712, 3, 959, 0, 0, 0), (250, .iconst 0, 1, 0, 0, 0, 0), (251, .ireturn, 1, 0, 0, 0, 0), (252, .aload_n 1, 1, 1, 0, 0, 0), (253, .aload_n 0, 1, 0, 0, 0, 0), (254, .iload_n 3, 1, 3, 0, 0, 0), (255, .iconst 1, 1, 0, 0, 1, 0), (256, .iadd, 1, 0, 0, 0, 0), (257, .iaload, 1, 0, 0, 0, 0), (258, .aload_n 0, 1, 0, 0, 0, 0), (259, .iload_n 3, 1, 3, 0, 0, 0), (260, .iconst 2, 1, 0, 0, 2, 0), (261, .iadd, 1, 0, 0, 0, 0), (262, .iaload, 1, 0, 0, 0, 0), (263, .invokevirtual 31, 3, 0, 0, 0, 0), (266, .aload_n 2, 1, 2, 0, 0, 0), (267, .aload_n 0, 1, 0, 0, 0, 0), (268, .iload_n 3, 1, 3, 0, 0, 0), (269, .iconst 1, 1, 0, 0, 1, 0), (270, .iadd, 1, 0, 0, 0, 0), (271, .iaload, 1, 0, 0, 0, 0), (272, .aload_n 0, 1, 0, 0, 0, 0), (273, .iload_n 3, 1, 3, 0, 0, 0), (274, .iconst 2, 1, 0, 0, 2, 0), (275, .iadd, 1, 0, 0, 0, 0), (276, .iaload, 1, 0, 0, 0, 0), (277, .invokevirtual 35, 3, 0, 0, 0, 0), (280, .if_icmp .eq 679, 3, 959, 0, 0, 0), (283, .iconst 0, 1, 0, 0, 0, 0), (284, .ireturn, 1, 0, 0, 0, 0), (285, .aload_n 1, 1, 1, 0, 0, 0), (286, .aload_n 0, 1, 0, 0, 0, 0), (287, .iload_n 3, 1, 3, 0, 0, 0), (288, .iconst 1, 1, 0, 0, 1, 0), (289, .iadd, 1, 0, 0, 0, 0), (290, .iaload, 1, 0, 0, 0, 0), (291, .aload_n 0, 1, 0, 0, 0, 0), (292, .iload_n 3, 1, 3, 0, 0, 0), (293, .iconst 2, 1, 0, 0, 2, 0), (294, .iadd, 1, 0, 0, 0, 0), (295, .iaload, 1, 0, 0, 0, 0), (296, .invokevirtual 36, 3, 0, 0, 0, 0), (299, .aload_n 2, 1, 2, 0, 0, 0), (300, .aload_n 0, 1, 0, 0, 0, 0), (301, .iload_n 3, 1, 3, 0, 0, 0), (302, .iconst 1, 1, 0, 0, 1, 0), (303, .iadd, 1, 0, 0, 0, 0), (304, .iaload, 1, 0, 0, 0, 0), (305, .aload_n 0, 1, 0, 0, 0, 0), (306, .iload_n 3, 1, 3, 0, 0, 0), (307, .iconst 2, 1, 0, 0, 2, 0), (308, .iadd, 1, 0, 0, 0, 0), (309, .iaload, 1, 0, 0, 0, 0), (310, .invokevirtual 39, 3, 0, 0, 0, 0), (313, .if_icmp .eq 646, 3, 959, 0, 0, 0), (316, .iconst 0, 1, 0, 0, 0, 0), (317, .ireturn, 1, 0, 0, 0, 0), (318, .aload_n 1, 1, 1, 0, 0, 0), (319, .aload_n 0, 1, 0, 0, 0, 0), (320, .iload_n 3, 1, 3, 0, 0, 0), (321, .iconst 1, 1, 0, 0, 1, 0), (322, .iadd, 1, 0, 0, 0, 0), (323, .iaload, 1, 0, 0, 0, 0), (324, .aload_n 0, 1, 0, 0, 0, 0), (325, .iload_n 3, 1, 3, 0, 0, 0), (326, .iconst 2, 1, 0, 0, 2, 0), (327, .iadd, 1, 0, 0, 0, 0), (328, .iaload, 1, 0, 0, 0, 0), (329, .invokevirtual 40, 3, 0, 0, 0, 0), (332, .aload_n 2, 1, 2, 0, 0, 0), (333, .aload_n 0, 1, 0, 0, 0, 0), (334, .iload_n 3, 1, 3, 0, 0, 0), (335, .iconst 1, 1, 0, 0, 1, 0), (336, .iadd, 1, 0, 0, 0, 0), (337, .iaload, 1, 0, 0, 0, 0), (338, .aload_n 0, 1, 0, 0, 0, 0), (339, .iload_n 3, 1, 3, 0, 0, 0), (340, .iconst 2, 1, 0, 0, 2, 0), (341, .iadd, 1, 0, 0, 0, 0), (342, .iaload, 1, 0, 0, 0, 0), (343, .invokevirtual 43, 3, 0, 0, 0, 0), (346, .if_icmp .eq 613, 3, 959, 0, 0, 0), (349, .iconst 0, 1, 0, 0, 0, 0), (350, .ireturn, 1, 0, 0, 0, 0), (351, .aload_n 1, 1, 1, 0, 0, 0), (352, .aload_n 0, 1, 0, 0, 0, 0), (353, .iload_n 3, 1, 3, 0, 0, 0), (354, .iconst 1, 1, 0, 0, 1, 0), (355, .iadd, 1, 0, 0, 0, 0), (356, .iaload, 1, 0, 0, 0, 0), (357, .invokevirtual 44, 3, 0, 0, 0, 0), (360, .aload_n 2, 1, 2, 0, 0, 0), (361, .aload_n 0, 1, 0, 0, 0, 0), (362, .iload_n 3, 1, 3, 0, 0, 0), (363, .iconst 1, 1, 0, 0, 1, 0), (364, .iadd, 1, 0, 0, 0, 0), (365, .iaload, 1, 0, 0, 0, 0), (366, .invokevirtual 47, 3, 0, 0, 0, 0), (369, .if_icmp .eq 590, 3, 959, 0, 0, 0), (372, .iconst 0, 1, 0, 0, 0, 0), (373, .ireturn, 1, 0, 0, 0, 0), (374, .aload_n 1, 1, 1, 0, 0, 0), (375, .aload_n 0, 1, 0, 0, 0, 0), (376, .iload_n 3, 1, 3, 0, 0, 0), (377, .iconst 1, 1, 0, 0, 1, 0), (378, .iadd, 1, 0, 0, 0, 0), (379, .iaload, 1, 0, 0, 0, 0), (380, .aload_n 0, 1, 0, 0, 0, 0), (381, .iload_n 3, 1, 3, 0, 0, 0), (382, .iconst 2, 1, 0, 0, 2, 0), (383, .iadd, 1, 0, 0, 0, 0), (384, .iaload, 1, 0, 0, 0, 0), (385, .invokevirtual 48, 3, 0, 0, 0, 0), (388, .aload_n 2, 1, 2, 0, 0, 0), (389, .aload_n 0, 1, 0, 0, 0, 0), (390, .iload_n 3, 1, 3, 0, 0, 0), (391, .iconst 1, 1, 0, 0, 1, 0), (392, .iadd, 1, 0, 0, 0, 0), (393, .iaload, 1, 0, 0, 0, 0), (394, .aload_n 0, 1, 0, 0, 0, 0), (395, .iload_n 3, 1, 3, 0, 0, 0), (396, .iconst 2, 1, 0, 0, 2, 0), (397, .iadd, 1, 0, 0, 0, 0), (398, .iaload, 1, 0, 0, 0, 0), (399, .invokevirtual 51, 3, 0, 0, 0, 0), (402, .if_icmp .eq 557, 3, 959, 0, 0, 0), (405, .iconst 0, 1, 0, 0, 0, 0), (406, .ireturn, 1, 0, 0, 0, 0), (407, .aload_n 1, 1, 1, 0, 0, 0), (408, .aload_n 0, 1, 0, 0, 0, 0), (409, .iload_n 3, 1, 3, 0, 0, 0), (410, .iconst 1, 1, 0, 0, 1, 0), (411, .iadd, 1, 0, 0, 0, 0), (412, .iaload, 1, 0, 0, 0, 0), (413, .invokevirtual 52, 3, 0, 0, 0, 0), (416, .aload_n 2, 1, 2, 0, 0, 0), (417, .aload_n 0, 1, 0, 0, 0, 0), (418, .iload_n 3, 1, 3, 0, 0, 0), (419, .iconst 1, 1, 0, 0, 1, 0), (420, .iadd, 1, 0, 0, 0, 0), (421, .iaload, 1, 0, 0, 0, 0), (422, .invokevirtual 55, 3, 0, 0, 0, 0), (425, .if_icmp .eq 534, 3, 959, 0, 0, 0), (428, .iconst 0, 1, 0, 0, 0, 0), (429, .ireturn, 1, 0, 0, 0, 0), (430, .aload_n 1, 1, 1, 0, 0, 0), (431, .aload_n 0, 1, 0, 0, 0, 0), (432, .iload_n 3, 1, 3, 0, 0, 0), (433, .iconst 1, 1, 0, 0, 1, 0), (434, .iadd, 1, 0, 0, 0, 0), (435, .iaload, 1, 0, 0, 0, 0), (436, .invokevirtual 56, 3, 0, 0, 0, 0), (439, .aload_n 2, 1, 2, 0, 0, 0), (440, .aload_n 0, 1, 0, 0, 0, 0), (441, .iload_n 3, 1, 3, 0, 0, 0), (442, .iconst 1, 1, 0, 0, 1, 0), (443, .iadd, 1, 0, 0, 0, 0), (444, .iaload, 1, 0, 0, 0, 0), (445, .invokevirtual 59, 3, 0, 0, 0, 0), (448, .if_icmp .eq 511, 3, 959, 0, 0, 0), (451, .iconst 0, 1, 0, 0, 0, 0), (452, .ireturn, 1, 0, 0, 0, 0), (453, .aload_n 1, 1, 1, 0, 0, 0), (454, .aload_n 0, 1, 0, 0, 0, 0), (455, .iload_n 3, 1, 3, 0, 0, 0), (456, .iconst 1, 1, 0, 0, 1, 0), (457, .iadd, 1, 0, 0, 0, 0), (458, .iaload, 1, 0, 0, 0, 0), (459, .invokevirtual 60, 3, 0, 0, 0, 0), (462, .aload_n 2, 1, 2, 0, 0, 0), (463, .aload_n 0, 1, 0, 0, 0, 0), (464, .iload_n 3, 1, 3, 0, 0, 0), (465, .iconst 1, 1, 0, 0, 1, 0), (466, .iadd, 1, 0, 0, 0, 0), (467, .iaload, 1, 0, 0, 0, 0), (468, .invokevirtual 63, 3, 0, 0, 0, 0), (471, .if_icmp .eq 488, 3, 959, 0, 0, 0), (474, .iconst 0, 1, 0, 0, 0, 0), (475, .ireturn, 1, 0, 0, 0, 0), (476, .aload_n 1, 1, 1, 0, 0, 0), (477, .aload_n 0, 1, 0, 0, 0, 0), (478, .iload_n 3, 1, 3, 0, 0, 0), (479, .iconst 1, 1, 0, 0, 1, 0), (480, .iadd, 1, 0, 0, 0, 0), (481, .iaload, 1, 0, 0, 0, 0), (482, .invokevirtual 64, 3, 0, 0, 0, 0), (485, .aload_n 2, 1, 2, 0, 0, 0), (486, .aload_n 0, 1, 0, 0, 0, 0), (487, .iload_n 3, 1, 3, 0, 0, 0), (488, .iconst 1, 1, 0, 0, 1, 0), (489, .iadd, 1, 0, 0, 0, 0), (490, .iaload, 1, 0, 0, 0, 0), (491, .invokevirtual 67, 3, 0, 0, 0, 0), (494, .if_icmp .eq 465, 3, 959, 0, 0, 0), (497, .iconst 0, 1, 0, 0, 0, 0), (498, .ireturn, 1, 0, 0, 0, 0), (499, .aload_n 1, 1, 1, 0, 0, 0), (500, .invokevirtual 68, 3, 0, 0, 0, 0), (503, .aload_n 2, 1, 2, 0, 0, 0), (504, .invokevirtual 71, 3, 0, 0, 0, 0), (507, .if_icmp .eq 452, 3, 959, 0, 0, 0), (510, .iconst 0, 1, 0, 0, 0, 0), (511, .ireturn, 1, 0, 0, 0, 0), (512, .aload_n 1, 1, 1, 0, 0, 0), (513, .invokevirtual 72, 3, 0, 0, 0, 0), (516, .aload_n 2, 1, 2, 0, 0, 0), (517, .invokevirtual 75, 3, 0, 0, 0, 0), (520, .if_icmp .eq 439, 3, 959, 0, 0, 0), (523, .iconst 0, 1, 0, 0, 0, 0), (524, .ireturn, 1, 0, 0, 0, 0), (525, .aload_n 1, 1, 1, 0, 0, 0), (526, .aload_n 0, 1, 0, 0, 0, 0), (527, .iload_n 3, 1, 3, 0, 0, 0), (528, .iconst 1, 1, 0, 0, 1, 0), (529, .iadd, 1, 0, 0, 0, 0), (530, .iaload, 1, 0, 0, 0, 0), (531, .aload_n 0, 1, 0, 0, 0, 0), (532, .iload_n 3, 1, 3, 0, 0, 0), (533, .iconst 2, 1, 0, 0, 2, 0), (534, .iadd, 1, 0, 0, 0, 0), (535, .iaload, 1, 0, 0, 0, 0), (536, .invokevirtual 76, 3, 0, 0, 0, 0), (539, .aload_n 2, 1, 2, 0, 0, 0), (540, .aload_n 0, 1, 0, 0, 0, 0), (541, .iload_n 3, 1, 3, 0, 0, 0), (542, .iconst 1, 1, 0, 0, 1, 0), (543, .iadd, 1, 0, 0, 0, 0), (544, .iaload, 1, 0, 0, 0, 0), (545, .aload_n 0, 1, 0, 0, 0, 0), (546, .iload_n 3, 1, 3, 0, 0, 0), (547, .iconst 2, 1, 0, 0, 2, 0), (548, .iadd, 1, 0, 0, 0, 0), (549, .iaload, 1, 0, 0, 0, 0), (550, .invokevirtual 79, 3, 0, 0, 0, 0), (553, .if_icmp .eq 406, 3, 959, 0, 0, 0), (556, .iconst 0, 1, 0, 0, 0, 0), (557, .ireturn, 1, 0, 0, 0, 0), (558, .aload_n 1, 1, 1, 0, 0, 0), (559, .aload_n 0, 1, 0, 0, 0, 0), (560, .iload_n 3, 1, 3, 0, 0, 0), (561, .iconst 1, 1, 0, 0, 1, 0), (562, .iadd, 1, 0, 0, 0, 0), (563, .iaload, 1, 0, 0, 0, 0), (564, .invokevirtual 80, 3, 0, 0, 0, 0), (567, .aload_n 2, 1, 2, 0, 0, 0), (568, .aload_n 0, 1, 0, 0, 0, 0), (569, .iload_n 3, 1, 3, 0, 0, 0), (570, .iconst 1, 1, 0, 0, 1, 0), (571, .iadd, 1, 0, 0, 0, 0), (572, .iaload, 1, 0, 0, 0, 0), (573, .invokevirtual 83, 3, 0, 0, 0, 0), (576, .if_icmp .eq 383, 3, 959, 0, 0, 0), (579, .iconst 0, 1, 0, 0, 0, 0), (580, .ireturn, 1, 0, 0, 0, 0), (581, .aload_n 1, 1, 1, 0, 0, 0), (582, .aload_n 0, 1, 0, 0, 0, 0), (583, .iload_n 3, 1, 3, 0, 0, 0), (584, .iconst 1, 1, 0, 0, 1, 0), (585, .iadd, 1, 0, 0, 0, 0), (586, .iaload, 1, 0, 0, 0, 0), (587, .invokevirtual 84, 3, 0, 0, 0, 0), (590, .aload_n 2, 1, 2, 0, 0, 0), (591, .aload_n 0, 1, 0, 0, 0, 0), (592, .iload_n 3, 1, 3, 0, 0, 0), (593, .iconst 1, 1, 0, 0, 1, 0), (594, .iadd, 1, 0, 0, 0, 0), (595, .iaload, 1, 0, 0, 0, 0), (596, .invokevirtual 87, 3, 0, 0, 0, 0), (599, .if_icmp .eq 360, 3, 959, 0, 0, 0), (602, .iconst 0, 1, 0, 0, 0, 0), (603, .ireturn, 1, 0, 0, 0, 0), (604, .aload_n 1, 1, 1, 0, 0, 0), (605, .invokevirtual 88, 3, 0, 0, 0, 0), (608, .aload_n 2, 1, 2, 0, 0, 0), (609, .invokevirtual 91, 3, 0, 0, 0, 0), (612, .if_icmp .eq 347, 3, 959, 0, 0, 0), (615, .iconst 0, 1, 0, 0, 0, 0), (616, .ireturn, 1, 0, 0, 0, 0), (617, .aload_n 1, 1, 1, 0, 0, 0), (618, .aload_n 0, 1, 0, 0, 0, 0), (619, .iload_n 3, 1, 3, 0, 0, 0), (620, .iconst 1, 1, 0, 0, 1, 0), (621, .iadd, 1, 0, 0, 0, 0), (622, .iaload, 1, 0, 0, 0, 0), (623, .invokevirtual 92, 3, 0, 0, 0, 0), (626, .aload_n 2, 1, 2, 0, 0, 0), (627, .aload_n 0, 1, 0, 0, 0, 0), (628, .iload_n 3, 1, 3, 0, 0, 0), (629, .iconst 1, 1, 0, 0, 1, 0), (630, .iadd, 1, 0, 0, 0, 0), (631, .iaload, 1, 0, 0, 0, 0), (632, .invokevirtual 95, 3, 0, 0, 0, 0), (635, .if_icmp .eq 324, 3, 959, 0, 0, 0), (638, .iconst 0, 1, 0, 0, 0, 0), (639, .ireturn, 1, 0, 0, 0, 0), (640, .aload_n 1, 1, 1, 0, 0, 0), (641, .aload_n 0, 1, 0, 0, 0, 0), (642, .iload_n 3, 1, 3, 0, 0, 0), (643, .iconst 1, 1, 0, 0, 1, 0), (644, .iadd, 1, 0, 0, 0, 0), (645, .iaload, 1, 0, 0, 0, 0), (646, .aload_n 0, 1, 0, 0, 0, 0), (647, .iload_n 3, 1, 3, 0, 0, 0), (648, .iconst 2, 1, 0, 0, 2, 0), (649, .iadd, 1, 0, 0, 0, 0), (650, .iaload, 1, 0, 0, 0, 0), (651, .invokevirtual 96, 3, 0, 0, 0, 0), (654, .aload_n 2, 1, 2, 0, 0, 0), (655, .aload_n 0, 1, 0, 0, 0, 0), (656, .iload_n 3, 1, 3, 0, 0, 0), (657, .iconst 1, 1, 0, 0, 1, 0), (658, .iadd, 1, 0, 0, 0, 0), (659, .iaload, 1, 0, 0, 0, 0), (660, .aload_n 0, 1, 0, 0, 0, 0), (661, .iload_n 3, 1, 3, 0, 0, 0), (662, .iconst 2, 1, 0, 0, 2, 0), (663, .iadd, 1, 0, 0, 0, 0), (664, .iaload, 1, 0, 0, 0, 0), (665, .invokevirtual 99, 3, 0, 0, 0, 0), (668, .if_icmp .eq 291, 3, 959, 0, 0, 0), (671, .iconst 0, 1, 0, 0, 0, 0), (672, .ireturn, 1, 0, 0, 0, 0), (673, .aload_n 1, 1, 1, 0, 0, 0), (674, .aload_n 0, 1, 0, 0, 0, 0), (675, .iload_n 3, 1, 3, 0, 0, 0), (676, .iconst 1, 1, 0, 0, 1, 0), (677, .iadd, 1, 0, 0, 0, 0), (678, .iaload, 1, 0, 0, 0, 0), (679, .aload_n 0, 1, 0, 0, 0, 0), (680, .iload_n 3, 1, 3, 0, 0, 0), (681, .iconst 2, 1, 0, 0, 2, 0), (682, .iadd, 1, 0, 0, 0, 0), (683, .iaload, 1, 0, 0, 0, 0), (684, .invokevirtual 100, 3, 0, 0, 0, 0), (687, .aload_n 2, 1, 2, 0, 0, 0), (688, .aload_n 0, 1, 0, 0, 0, 0), (689, .iload_n 3, 1, 3, 0, 0, 0), (690, .iconst 1, 1, 0, 0, 1, 0), (691, .iadd, 1, 0, 0, 0, 0), (692, .iaload, 1, 0, 0, 0, 0), (693, .aload_n 0, 1, 0, 0, 0, 0), (694, .iload_n 3, 1, 3, 0, 0, 0), (695, .iconst 2, 1, 0, 0, 2, 0), (696, .iadd, 1, 0, 0, 0, 0), (697, .iaload, 1, 0, 0, 0, 0), (698, .invokevirtual 103, 3, 0, 0, 0, 0), (701, .if_icmp .eq 258, 3, 959, 0, 0, 0), (704, .iconst 0, 1, 0, 0, 0, 0), (705, .ireturn, 1, 0, 0, 0, 0), (706, .aload_n 1, 1, 1, 0, 0, 0), (707, .aload_n 0, 1, 0, 0, 0, 0), (708, .iload_n 3, 1, 3, 0, 0, 0), (709, .iconst 1, 1, 0, 0, 1, 0), (710, .iadd, 1, 0, 0, 0, 0), (711, .iaload, 1, 0, 0, 0, 0), (712, .invokevirtual 104, 3, 0, 0, 0, 0), (715, .aload_n 2, 1, 2, 0, 0, 0), (716, .aload_n 0, 1, 0, 0, 0, 0), (717, .iload_n 3, 1, 3, 0, 0, 0), (718, .iconst 1, 1, 0, 0, 1, 0), (719, .iadd, 1, 0, 0, 0, 0), (720, .iaload, 1, 0, 0, 0, 0), (721, .invokevirtual 107, 3, 0, 0, 0, 0), (724, .if_icmp .eq 235, 3, 959, 0, 0, 0), (727, .iconst 0, 1, 0, 0, 0, 0), (728, .ireturn, 1, 0, 0, 0, 0), (729, .aload_n 1, 1, 1, 0, 0, 0), (730, .aload_n 0, 1, 0, 0, 0, 0), (731, .iload_n 3, 1, 3, 0, 0, 0), (732, .iconst 1, 1, 0, 0, 1, 0), (733, .iadd, 1, 0, 0, 0, 0), (734, .iaload, 1, 0, 0, 0, 0), (735, .aload_n 0, 1, 0, 0, 0, 0), (736, .iload_n 3, 1, 3, 0, 0, 0), (737, .iconst 2, 1, 0, 0, 2, 0), (738, .iadd, 1, 0, 0, 0, 0), (739, .iaload, 1, 0, 0, 0, 0), (740, .aload_n 0, 1, 0, 0, 0, 0), (741, .iload_n 3, 1, 3, 0, 0, 0), (742, .iconst 3, 1, 0, 0, 3, 0), (743, .iadd, 1, 0, 0, 0, 0), (744, .iaload, 1, 0, 0, 0, 0), (745, .invokevirtual 108, 3, 0, 0, 0, 0), (748, .aload_n 2, 1, 2, 0, 0, 0), (749, .aload_n 0, 1, 0, 0, 0, 0), (750, .iload_n 3, 1, 3, 0, 0, 0), (751, .iconst 1, 1, 0, 0, 1, 0), (752, .iadd, 1, 0, 0, 0, 0), (753, .iaload, 1, 0, 0, 0, 0), (754, .aload_n 0, 1, 0, 0, 0, 0), (755, .iload_n 3, 1, 3, 0, 0, 0), (756, .iconst 2, 1, 0, 0, 2, 0), (757, .iadd, 1, 0, 0, 0, 0), (758, .iaload, 1, 0, 0, 0, 0), (759, .aload_n 0, 1, 0, 0, 0, 0), (760, .iload_n 3, 1, 3, 0, 0, 0), (761, .iconst 3, 1, 0, 0, 3, 0), (762, .iadd, 1, 0, 0, 0, 0), (763, .iaload, 1, 0, 0, 0, 0), (764, .invokevirtual 112, 3, 0, 0, 0, 0), (767, .if_icmp .eq 192, 3, 959, 0, 0, 0), (770, .iconst 0, 1, 0, 0, 0, 0), (771, .ireturn, 1, 0, 0, 0, 0), (772, .aload_n 1, 1, 1, 0, 0, 0), (773, .aload_n 0, 1, 0, 0, 0, 0), (774, .iload_n 3, 1, 3, 0, 0, 0), (775, .iconst 1, 1, 0, 0, 1, 0), (776, .iadd, 1, 0, 0, 0, 0), (777, .iaload, 1, 0, 0, 0, 0), (778, .aload_n 0, 1, 0, 0, 0, 0), (779, .iload_n 3, 1, 3, 0, 0, 0), (780, .iconst 2, 1, 0, 0, 2, 0), (781, .iadd, 1, 0, 0, 0, 0), (782, .iaload, 1, 0, 0, 0, 0), (783, .invokevirtual 113, 3, 0, 0, 0, 0), (786, .aload_n 2, 1, 2, 0, 0, 0), (787, .aload_n 0, 1, 0, 0, 0, 0), (788, .iload_n 3, 1, 3, 0, 0, 0), (789, .iconst 1, 1, 0, 0, 1, 0), (790, .iadd, 1, 0, 0, 0, 0), (791, .iaload, 1, 0, 0, 0, 0), (792, .aload_n 0, 1, 0, 0, 0, 0), (793, .iload_n 3, 1, 3, 0, 0, 0), (794, .iconst 2, 1, 0, 0, 2, 0), (795, .iadd, 1, 0, 0, 0, 0), (796, .iaload, 1, 0, 0, 0, 0), (797, .invokevirtual 116, 3, 0, 0, 0, 0), (800, .if_icmp .eq 159, 3, 959, 0, 0, 0), (803, .iconst 0, 1, 0, 0, 0, 0), (804, .ireturn, 1, 0, 0, 0, 0), (805, .aload_n 1, 1, 1, 0, 0, 0), (806, .invokevirtual 117, 3, 0, 0, 0, 0), (809, .aload_n 2, 1, 2, 0, 0, 0), (810, .invokevirtual 120, 3, 0, 0, 0, 0), (813, .if_icmp .eq 146, 3, 959, 0, 0, 0), (816, .iconst 0, 1, 0, 0, 0, 0), (817, .ireturn, 1, 0, 0, 0, 0), (818, .aload_n 1, 1, 1, 0, 0, 0), (819, .invokevirtual 121, 3, 0, 0, 0, 0), (822, .aload_n 2, 1, 2, 0, 0, 0), (823, .invokevirtual 124, 3, 0, 0, 0, 0), (826, .if_icmp .eq 133, 3, 959, 0, 0, 0), (829, .iconst 0, 1, 0, 0, 0, 0), (830, .ireturn, 1, 0, 0, 0, 0), (831, .aload_n 1, 1, 1, 0, 0, 0), (832, .aload_n 0, 1, 0, 0, 0, 0), (833, .iload_n 3, 1, 3, 0, 0, 0), (834, .iconst 1, 1, 0, 0, 1, 0), (835, .iadd, 1, 0, 0, 0, 0), (836, .iaload, 1, 0, 0, 0, 0), (837, .aload_n 0, 1, 0, 0, 0, 0), (838, .iload_n 3, 1, 3, 0, 0, 0), (839, .iconst 2, 1, 0, 0, 2, 0), (840, .iadd, 1, 0, 0, 0, 0), (841, .iaload, 1, 0, 0, 0, 0), (842, .invokevirtual 125, 3, 0, 0, 0, 0), (845, .aload_n 2, 1, 2, 0, 0, 0), (846, .aload_n 0, 1, 0, 0, 0, 0), (847, .iload_n 3, 1, 3, 0, 0, 0), (848, .iconst 1, 1, 0, 0, 1, 0), (849, .iadd, 1, 0, 0, 0, 0), (850, .iaload, 1, 0, 0, 0, 0), (851, .aload_n 0, 1, 0, 0, 0, 0), (852, .iload_n 3, 1, 3, 0, 0, 0), (853, .iconst 2, 1, 0, 0, 2, 0), (854, .iadd, 1, 0, 0, 0, 0), (855, .iaload, 1, 0, 0, 0, 0), (856, .invokevirtual 128, 3, 0, 0, 0, 0), (859, .if_icmp .eq 100, 3, 959, 0, 0, 0), (862, .iconst 0, 1, 0, 0, 0, 0), (863, .ireturn, 1, 0, 0, 0, 0), (864, .aload_n 1, 1, 1, 0, 0, 0), (865, .invokevirtual 129, 3, 0, 0, 0, 0), (868, .aload_n 2, 1, 2, 0, 0, 0), (869, .invokevirtual 132, 3, 0, 0, 0, 0), (872, .if_icmp .eq 87, 3, 959, 0, 0, 0), (875, .iconst 0, 1, 0, 0, 0, 0), (876, .ireturn, 1, 0, 0, 0, 0), (877, .aload_n 1, 1, 1, 0, 0, 0), (878, .invokevirtual 133, 3, 0, 0, 0, 0), (881, .aload_n 2, 1, 2, 0, 0, 0), (882, .invokevirtual 136, 3, 0, 0, 0, 0), (885, .if_icmp .eq 74, 3, 959, 0, 0, 0), (888, .iconst 0, 1, 0, 0, 0, 0), (889, .ireturn, 1, 0, 0, 0, 0), (890, .aload_n 1, 1, 1, 0, 0, 0), (891, .aload_n 0, 1, 0, 0, 0, 0), (892, .iload_n 3, 1, 3, 0, 0, 0), (893, .iconst 1, 1, 0, 0, 1, 0), (894, .iadd, 1, 0, 0, 0, 0), (895, .iaload, 1, 0, 0, 0, 0), (896, .invokevirtual 137, 3, 0, 0, 0, 0), (899, .aload_n 2, 1, 2, 0, 0, 0), (900, .aload_n 0, 1, 0, 0, 0, 0), (901, .iload_n 3, 1, 3, 0, 0, 0), (902, .iconst 1, 1, 0, 0, 1, 0), (903, .iadd, 1, 0, 0, 0, 0), (904, .iaload, 1, 0, 0, 0, 0), (905, .invokevirtual 140, 3, 0, 0, 0, 0), (908, .if_icmp .eq 51, 3, 959, 0, 0, 0), (911, .iconst 0, 1, 0, 0, 0, 0), (912, .ireturn, 1, 0, 0, 0, 0), (913, .aload_n 1, 1, 1, 0, 0, 0), (914, .aload_n 0, 1, 0, 0, 0, 0), (915, .iload_n 3, 1, 3, 0, 0, 0), (916, .iconst 1, 1, 0, 0, 1, 0), (917, .iadd, 1, 0, 0, 0, 0), (918, .iaload, 1, 0, 0, 0, 0), (919, .invokevirtual 141, 3, 0, 0, 0, 0), (922, .aload_n 2, 1, 2, 0, 0, 0), (923, .aload_n 0, 1, 0, 0, 0, 0), (924, .iload_n 3, 1, 3, 0, 0, 0), (925, .iconst 1, 1, 0, 0, 1, 0), (926, .iadd, 1, 0, 0, 0, 0), (927, .iaload, 1, 0, 0, 0, 0), (928, .invokevirtual 144, 3, 0, 0, 0, 0), (931, .if_icmp .eq 28, 3, 959, 0, 0, 0), (934, .iconst 0, 1, 0, 0, 0, 0), (935, .ireturn, 1, 0, 0, 0, 0), (936, .aload_n 1, 1, 1, 0, 0, 0), (937, .aload_n 0, 1, 0, 0, 0, 0), (938, .iload_n 3, 1, 3, 0, 0, 0), (939, .iconst 1, 1, 0, 0, 1, 0), (940, .iadd, 1, 0, 0, 0, 0), (941, .iaload, 1, 0, 0, 0, 0), (942, .invokevirtual 145, 3, 0, 0, 0, 0), (945, .aload_n 2, 1, 2, 0, 0, 0), (946, .aload_n 0, 1, 0, 0, 0, 0), (947, .iload_n 3, 1, 3, 0, 0, 0), (948, .iconst 1, 1, 0, 0, 1, 0), (949, .iadd, 1, 0, 0, 0, 0), (950, .iaload, 1, 0, 0, 0, 0), (951, .invokevirtual 148, 3, 0, 0, 0, 0), (954, .if_icmp .eq 5, 3, 959, 0, 0, 0), (957, .iconst 0, 1, 0, 0, 0, 0), (958, .ireturn, 1, 0, 0, 0, 0), (959, .iinc 3 4, 3, 3, 0, 4, 0), (962, .goto (-944), 3, 18, 0, 0, 0), (965, .iconst 1, 1, 0, 0, 1, 0), (966, .ireturn, 1, 0, 0, 0, 0)])
set_option maxRecDepth 20000 in
theorem okL_law_d : mL_law.2.2.2.2.all (fun q => decide (decode mL_law.2.1 q.1 = .ok (q.2.1, q.2.2.1)) && ab_okd q.1 q.2) = true := by
  rw [show mL_law.2.2.2.2 = tL_0 ++ (tL_1 ++ (tL_2 ++ (tL_3 ++ (tL_4 ++ (tL_5 ++ (tL_6)))))) from rfl]
  simp only [List.all_append, Bool.and_eq_true]
  exact ⟨tL_0_ok, tL_1_ok, tL_2_ok, tL_3_ok, tL_4_ok, tL_5_ok, tL_6_ok⟩
set_option maxRecDepth 20000 in
theorem okL_law : ab_ok mL_law := ⟨by decide, okL_law_d, trivial, trivial, fun z => absurd z (by decide), trivial, trivial, trivial, fun z => absurd z (by decide), trivial, trivial, trivial, trivial, trivial, trivial, trivial, trivial, trivial, trivial, trivial, trivial, trivial, trivial, trivial, trivial, trivial, trivial, trivial, trivial, trivial, trivial, trivial, trivial, trivial, trivial, trivial, trivial, trivial, trivial, trivial, trivial, trivial, trivial, trivial, trivial, trivial, trivial, trivial, trivial, trivial, trivial, trivial, trivial, trivial, trivial, trivial, trivial, trivial, trivial, trivial, trivial, trivial, trivial, trivial, trivial, trivial, trivial, trivial, trivial, trivial, trivial, trivial, trivial, trivial, trivial, trivial, trivial, trivial, trivial, trivial, trivial, trivial, trivial, trivial, trivial, trivial, trivial, trivial, trivial, trivial, trivial, trivial, trivial, trivial, trivial, trivial, trivial, trivial, trivial, trivial, trivial, trivial, trivial, trivial, trivial, trivial, trivial, trivial, trivial, trivial, trivial, trivial, trivial, trivial, trivial, trivial, trivial, trivial, trivial, trivial, trivial, trivial, trivial, trivial, trivial, trivial, trivial, trivial, trivial, trivial, trivial, trivial, trivial, trivial, trivial, trivial, trivial, trivial, trivial, trivial, trivial, trivial, trivial, trivial, trivial, trivial, trivial, trivial, trivial, trivial, trivial, trivial, trivial, trivial, trivial, trivial, trivial, trivial, trivial, trivial, trivial, trivial, trivial, trivial, trivial, trivial, trivial, trivial, trivial, trivial, trivial, trivial, trivial, trivial, trivial, trivial, trivial, trivial, trivial, trivial, trivial, trivial, trivial, trivial, trivial, trivial, trivial, trivial, trivial, trivial, trivial, trivial, trivial, trivial, trivial, trivial, trivial, trivial, trivial, trivial, trivial, trivial, trivial, trivial, trivial, trivial, trivial, trivial, trivial, trivial, trivial, trivial, trivial, trivial, trivial, trivial, trivial, trivial, trivial, trivial, trivial, trivial, trivial, trivial, trivial, trivial, trivial, trivial, trivial, trivial, trivial, trivial, trivial, trivial, trivial, trivial, trivial, trivial, trivial, trivial, trivial, trivial, trivial, trivial, trivial, trivial, trivial, trivial, trivial, trivial, trivial, trivial, trivial, trivial, trivial, trivial, trivial, trivial, trivial, trivial, trivial, trivial, trivial, trivial, trivial, trivial, trivial, trivial, trivial, trivial, trivial, trivial, trivial, trivial, trivial, trivial, trivial, trivial, trivial, trivial, trivial, trivial, trivial, trivial, trivial, trivial, trivial, trivial, trivial, trivial, trivial, trivial, trivial, trivial, trivial, trivial, trivial, trivial, trivial, trivial, trivial, trivial, trivial, trivial, trivial, trivial, trivial, trivial, trivial, trivial, trivial, trivial, trivial, trivial, trivial, trivial, trivial, trivial, trivial, trivial, trivial, trivial, trivial, trivial, trivial, trivial, trivial, trivial, trivial, trivial, trivial, trivial, trivial, trivial, trivial, trivial, trivial, trivial, trivial, trivial, trivial, trivial, trivial, trivial, trivial, trivial, trivial, trivial, trivial, trivial, trivial, trivial, trivial, trivial, trivial, trivial, trivial, trivial, trivial, trivial, trivial, trivial, trivial, trivial, trivial, trivial, trivial, trivial, trivial, trivial, trivial, trivial, trivial, trivial, trivial, trivial, trivial, trivial, trivial, trivial, trivial, trivial, trivial, trivial, trivial, trivial, trivial, trivial, trivial, trivial, trivial, trivial, trivial, trivial, trivial, trivial, trivial, trivial, trivial, trivial, trivial, trivial, trivial, trivial, trivial, trivial, trivial, trivial, trivial, trivial, trivial, trivial, trivial, trivial, trivial, trivial, trivial, trivial, trivial, trivial, trivial, trivial, trivial, trivial, trivial, trivial, trivial, trivial, trivial, trivial, trivial, trivial, trivial, trivial, trivial, trivial, trivial, trivial, trivial, trivial, trivial, trivial, trivial, trivial, trivial, trivial, trivial, trivial, trivial, trivial, trivial, trivial, trivial, trivial, trivial, trivial, trivial, trivial, trivial, trivial, trivial, trivial, trivial, trivial, trivial, trivial, trivial, trivial, trivial, trivial, trivial, trivial, trivial, trivial, trivial, trivial, trivial, trivial, trivial, trivial, trivial, trivial, trivial, trivial, trivial, trivial, trivial, trivial, trivial, trivial, trivial, trivial, trivial, trivial, trivial, trivial, trivial, trivial, trivial, trivial, trivial, trivial, trivial, trivial, trivial, trivial, trivial, trivial, trivial, trivial, trivial, trivial, trivial, trivial, trivial, trivial, trivial, trivial, trivial, trivial, trivial, trivial, trivial, trivial, trivial, trivial, trivial, trivial, trivial, trivial, trivial, trivial, trivial, trivial, trivial, trivial, trivial, trivial, trivial, trivial, trivial, trivial, trivial, trivial, trivial, trivial, trivial, trivial, trivial, trivial, trivial, trivial, trivial, trivial, trivial, trivial, trivial, trivial, trivial, trivial, trivial, trivial, trivial, trivial, trivial, trivial, trivial, trivial, trivial, trivial, trivial, trivial, trivial, trivial, trivial, trivial, trivial, trivial, trivial, trivial, trivial, trivial, trivial, trivial, trivial, trivial, trivial, trivial, trivial, trivial, trivial, trivial, trivial, trivial, trivial, trivial, trivial, trivial, trivial, trivial, trivial, trivial, trivial, trivial, trivial, trivial, trivial, trivial, trivial, trivial⟩
end
section
/-! call words (by program) -/
set_option maxRecDepth 20000 in
theorem cl_RX0_37 : ab_CV RX0 37 8 mX8_living 0 := ⟨⟨_, _, rfl⟩, ab_in (i := 691) rfl rfl, ab_in (i := 505) rfl rfl, ab_in (i := 506) rfl rfl, ab_in (i := 61) rfl rfl, ab_in (i := 507) rfl rfl, by decide +kernel, by decide +kernel, by decide +kernel, by decide +kernel⟩
set_option maxRecDepth 20000 in
theorem cl_RX0_43 : ab_CV RX0 43 8 mX8_copied 0 := ⟨⟨_, _, rfl⟩, ab_in (i := 692) rfl rfl, ab_in (i := 509) rfl rfl, ab_in (i := 510) rfl rfl, ab_in (i := 61) rfl rfl, ab_in (i := 511) rfl rfl, by decide +kernel, by decide +kernel, by decide +kernel, by decide +kernel⟩
set_option maxRecDepth 20000 in
theorem cl_RX0_49 : ab_CV RX0 49 8 mX8_measure 3 := ⟨⟨_, _, rfl⟩, ab_in (i := 693) rfl rfl, ab_in (i := 541) rfl rfl, ab_in (i := 542) rfl rfl, ab_in (i := 61) rfl rfl, ab_in (i := 543) rfl rfl, by decide +kernel, by decide +kernel, by decide +kernel, by decide +kernel⟩
set_option maxRecDepth 20000 in
theorem cl_RX0_53 : ab_CV RX0 53 0 mX0_extend 6 := ⟨⟨_, _, rfl⟩, ab_in (i := 694) rfl rfl, ab_in (i := 696) rfl rfl, ab_in (i := 17) rfl rfl, ab_in (i := 64) rfl rfl, ab_in (i := 697) rfl rfl, by decide +kernel, by decide +kernel, by decide +kernel, by decide +kernel⟩
set_option maxRecDepth 20000 in
theorem cl_RX1_25 : ab_CV RX1 25 8 mX8_lives 1 := ⟨⟨_, _, rfl⟩, ab_in (i := 742) rfl rfl, ab_in (i := 545) rfl rfl, ab_in (i := 546) rfl rfl, ab_in (i := 61) rfl rfl, ab_in (i := 547) rfl rfl, by decide +kernel, by decide +kernel, by decide +kernel, by decide +kernel⟩
set_option maxRecDepth 20000 in
theorem cl_RX1_31 : ab_CV RX1 31 8 mX8_living 0 := ⟨⟨_, _, rfl⟩, ab_in (i := 743) rfl rfl, ab_in (i := 505) rfl rfl, ab_in (i := 506) rfl rfl, ab_in (i := 61) rfl rfl, ab_in (i := 507) rfl rfl, by decide +kernel, by decide +kernel, by decide +kernel, by decide +kernel⟩
set_option maxRecDepth 20000 in
theorem cl_RX1_35 : ab_CV RX1 35 1 mX1_leastFrom 2 := ⟨⟨_, _, rfl⟩, ab_in (i := 744) rfl rfl, ab_in (i := 746) rfl rfl, ab_in (i := 20) rfl rfl, ab_in (i := 66) rfl rfl, ab_in (i := 747) rfl rfl, by decide +kernel, by decide +kernel, by decide +kernel, by decide +kernel⟩
set_option maxRecDepth 20000 in
theorem cl_RX1_39 : ab_CV RX1 39 1 mX1_chooseAll 1 := ⟨⟨_, _, rfl⟩, ab_in (i := 763) rfl rfl, ab_in (i := 765) rfl rfl, ab_in (i := 23) rfl rfl, ab_in (i := 66) rfl rfl, ab_in (i := 766) rfl rfl, by decide +kernel, by decide +kernel, by decide +kernel, by decide +kernel⟩
set_option maxRecDepth 20000 in
theorem cl_RX1_43 : ab_CS RX1 43 mJ6_bitCount_0f7a4 1 := ⟨ab_in (i := 748) rfl rfl, ab_in (i := 733) rfl rfl, ab_in (i := 70) rfl rfl, ab_in (i := 734) rfl rfl, by decide +kernel, by decide +kernel, by decide +kernel, by decide +kernel⟩
set_option maxRecDepth 20000 in
theorem cl_RX1_50 : ab_CV RX1 50 1 mX1_isFree 3 := ⟨⟨_, _, rfl⟩, ab_in (i := 750) rfl rfl, ab_in (i := 752) rfl rfl, ab_in (i := 21) rfl rfl, ab_in (i := 66) rfl rfl, ab_in (i := 753) rfl rfl, by decide +kernel, by decide +kernel, by decide +kernel, by decide +kernel⟩
set_option maxRecDepth 20000 in
theorem cl_RX1_54 : ab_CV RX1 54 1 mX1_apartBy 4 := ⟨⟨_, _, rfl⟩, ab_in (i := 754) rfl rfl, ab_in (i := 756) rfl rfl, ab_in (i := 22) rfl rfl, ab_in (i := 66) rfl rfl, ab_in (i := 757) rfl rfl, by decide +kernel, by decide +kernel, by decide +kernel, by decide +kernel⟩
set_option maxRecDepth 20000 in
theorem cl_RX1_64 : ab_CV RX1 64 8 mX8_lengthOf 1 := ⟨⟨_, _, rfl⟩, ab_in (i := 758) rfl rfl, ab_in (i := 533) rfl rfl, ab_in (i := 534) rfl rfl, ab_in (i := 61) rfl rfl, ab_in (i := 535) rfl rfl, by decide +kernel, by decide +kernel, by decide +kernel, by decide +kernel⟩
set_option maxRecDepth 20000 in
theorem cl_RX3_36 : ab_CV RX3 36 8 mX8_measureNow 2 := ⟨⟨_, _, rfl⟩, ab_in (i := 814) rfl rfl, ab_in (i := 537) rfl rfl, ab_in (i := 538) rfl rfl, ab_in (i := 61) rfl rfl, ab_in (i := 539) rfl rfl, by decide +kernel, by decide +kernel, by decide +kernel, by decide +kernel⟩
set_option maxRecDepth 20000 in
theorem cl_RX3_42 : ab_CV RX3 42 3 mX3_fitsAll 1 := ⟨⟨_, _, rfl⟩, ab_in (i := 815) rfl rfl, ab_in (i := 817) rfl rfl, ab_in (i := 24) rfl rfl, ab_in (i := 63) rfl rfl, ab_in (i := 818) rfl rfl, by decide +kernel, by decide +kernel, by decide +kernel, by decide +kernel⟩
set_option maxRecDepth 20000 in
theorem cl_RX4_30 : ab_CV RX4 30 4 mX4_latestPlace 0 := ⟨⟨_, _, rfl⟩, ab_in (i := 598) rfl rfl, ab_in (i := 600) rfl rfl, ab_in (i := 14) rfl rfl, ab_in (i := 62) rfl rfl, ab_in (i := 601) rfl rfl, by decide +kernel, by decide +kernel, by decide +kernel, by decide +kernel⟩
set_option maxRecDepth 20000 in
theorem cl_RX6_11 : ab_CI RX6 11 mX2_init 0 := ⟨Or.inr ⟨"LimbMeasures", ab_iu (i := 87) rfl rfl⟩, ab_in (i := 88) rfl rfl, rfl, rfl, ab_in (i := 59) rfl rfl, ab_in (i := 89) rfl rfl, by decide +kernel, by decide +kernel, by decide +kernel, by decide +kernel⟩
set_option maxRecDepth 20000 in
theorem cl_RX6_20 : ab_CI RX6 20 mX5_init 0 := ⟨Or.inr ⟨"LimbMeasures", ab_iu (i := 102) rfl rfl⟩, ab_in (i := 103) rfl rfl, rfl, rfl, ab_in (i := 60) rfl rfl, ab_in (i := 104) rfl rfl, by decide +kernel, by decide +kernel, by decide +kernel, by decide +kernel⟩
set_option maxRecDepth 20000 in
theorem cl_RX6_39 : ab_CV RX6 39 5 mX5_clearAll 0 := ⟨⟨_, _, rfl⟩, ab_in (i := 382) rfl rfl, ab_in (i := 383) rfl rfl, ab_in (i := 384) rfl rfl, ab_in (i := 60) rfl rfl, ab_in (i := 385) rfl rfl, by decide +kernel, by decide +kernel, by decide +kernel, by decide +kernel⟩
set_option maxRecDepth 20000 in
theorem cl_RX6_42 : ab_CV RX6 42 6 mX6_skipBlanks 0 := ⟨⟨_, _, rfl⟩, ab_in (i := 386) rfl rfl, ab_in (i := 388) rfl rfl, ab_in (i := 0) rfl rfl, ab_in (i := 58) rfl rfl, ab_in (i := 389) rfl rfl, by decide +kernel, by decide +kernel, by decide +kernel, by decide +kernel⟩
set_option maxRecDepth 20000 in
theorem cl_RX6_45 : ab_CV RX6 45 2 mX2_at 1 := ⟨⟨_, _, rfl⟩, ab_in (i := 390) rfl rfl, ab_in (i := 391) rfl rfl, ab_in (i := 392) rfl rfl, ab_in (i := 59) rfl rfl, ab_in (i := 393) rfl rfl, by decide +kernel, by decide +kernel, by decide +kernel, by decide +kernel⟩
set_option maxRecDepth 20000 in
theorem cl_RX6_49 : ab_CV RX6 49 6 mX6_readClause 0 := ⟨⟨_, _, rfl⟩, ab_in (i := 394) rfl rfl, ab_in (i := 396) rfl rfl, ab_in (i := 1) rfl rfl, ab_in (i := 58) rfl rfl, ab_in (i := 397) rfl rfl, by decide +kernel, by decide +kernel, by decide +kernel, by decide +kernel⟩
set_option maxRecDepth 20000 in
theorem cl_RX6_53 : ab_CV RX6 53 6 mX6_mayStart 1 := ⟨⟨_, _, rfl⟩, ab_in (i := 398) rfl rfl, ab_in (i := 400) rfl rfl, ab_in (i := 2) rfl rfl, ab_in (i := 58) rfl rfl, ab_in (i := 401) rfl rfl, by decide +kernel, by decide +kernel, by decide +kernel, by decide +kernel⟩
set_option maxRecDepth 20000 in
theorem cl_RX6_57 : ab_CV RX6 57 6 mX6_fail 2 := ⟨⟨_, _, rfl⟩, ab_in (i := 402) rfl rfl, ab_in (i := 404) rfl rfl, ab_in (i := 3) rfl rfl, ab_in (i := 58) rfl rfl, ab_in (i := 405) rfl rfl, by decide +kernel, by decide +kernel, by decide +kernel, by decide +kernel⟩
set_option maxRecDepth 20000 in
theorem cl_RX6_61 : ab_CV RX6 61 6 mX6_isOneTooMany 1 := ⟨⟨_, _, rfl⟩, ab_in (i := 406) rfl rfl, ab_in (i := 408) rfl rfl, ab_in (i := 4) rfl rfl, ab_in (i := 58) rfl rfl, ab_in (i := 409) rfl rfl, by decide +kernel, by decide +kernel, by decide +kernel, by decide +kernel⟩
set_option maxRecDepth 20000 in
theorem cl_RX6_64 : ab_CV RX6 64 6 mX6_readLimb 0 := ⟨⟨_, _, rfl⟩, ab_in (i := 410) rfl rfl, ab_in (i := 412) rfl rfl, ab_in (i := 5) rfl rfl, ab_in (i := 58) rfl rfl, ab_in (i := 413) rfl rfl, by decide +kernel, by decide +kernel, by decide +kernel, by decide +kernel⟩
set_option maxRecDepth 20000 in
theorem cl_RX6_67 : ab_CV RX6 67 6 mX6_readContract 0 := ⟨⟨_, _, rfl⟩, ab_in (i := 435) rfl rfl, ab_in (i := 437) rfl rfl, ab_in (i := 8) rfl rfl, ab_in (i := 58) rfl rfl, ab_in (i := 438) rfl rfl, by decide +kernel, by decide +kernel, by decide +kernel, by decide +kernel⟩
set_option maxRecDepth 20000 in
theorem cl_RX6_70 : ab_CV RX6 70 6 mX6_readRate 0 := ⟨⟨_, _, rfl⟩, ab_in (i := 443) rfl rfl, ab_in (i := 445) rfl rfl, ab_in (i := 9) rfl rfl, ab_in (i := 58) rfl rfl, ab_in (i := 446) rfl rfl, by decide +kernel, by decide +kernel, by decide +kernel, by decide +kernel⟩
set_option maxRecDepth 20000 in
theorem cl_RX6_73 : ab_CV RX6 73 6 mX6_readHeir 0 := ⟨⟨_, _, rfl⟩, ab_in (i := 455) rfl rfl, ab_in (i := 457) rfl rfl, ab_in (i := 11) rfl rfl, ab_in (i := 58) rfl rfl, ab_in (i := 458) rfl rfl, by decide +kernel, by decide +kernel, by decide +kernel, by decide +kernel⟩
set_option maxRecDepth 20000 in
theorem cl_RX6_85 : ab_CV RX6 85 6 mX6_readNumber 3 := ⟨⟨_, _, rfl⟩, ab_in (i := 414) rfl rfl, ab_in (i := 416) rfl rfl, ab_in (i := 6) rfl rfl, ab_in (i := 58) rfl rfl, ab_in (i := 417) rfl rfl, by decide +kernel, by decide +kernel, by decide +kernel, by decide +kernel⟩
set_option maxRecDepth 20000 in
theorem cl_RX6_89 : ab_CV RX6 89 6 mX6_readClose 0 := ⟨⟨_, _, rfl⟩, ab_in (i := 424) rfl rfl, ab_in (i := 426) rfl rfl, ab_in (i := 7) rfl rfl, ab_in (i := 58) rfl rfl, ab_in (i := 427) rfl rfl, by decide +kernel, by decide +kernel, by decide +kernel, by decide +kernel⟩
set_option maxRecDepth 20000 in
theorem cl_RX6_92 : ab_CV RX6 92 5 mX5_addLimb 1 := ⟨⟨_, _, rfl⟩, ab_in (i := 428) rfl rfl, ab_in (i := 429) rfl rfl, ab_in (i := 430) rfl rfl, ab_in (i := 60) rfl rfl, ab_in (i := 431) rfl rfl, by decide +kernel, by decide +kernel, by decide +kernel, by decide +kernel⟩
set_option maxRecDepth 20000 in
theorem cl_RX6_96 : ab_CV RX6 96 5 mX5_addContract 1 := ⟨⟨_, _, rfl⟩, ab_in (i := 439) rfl rfl, ab_in (i := 440) rfl rfl, ab_in (i := 441) rfl rfl, ab_in (i := 60) rfl rfl, ab_in (i := 442) rfl rfl, by decide +kernel, by decide +kernel, by decide +kernel, by decide +kernel⟩
set_option maxRecDepth 20000 in
theorem cl_RX6_99 : ab_CV RX6 99 6 mX6_isUnlike 0 := ⟨⟨_, _, rfl⟩, ab_in (i := 447) rfl rfl, ab_in (i := 449) rfl rfl, ab_in (i := 10) rfl rfl, ab_in (i := 58) rfl rfl, ab_in (i := 450) rfl rfl, by decide +kernel, by decide +kernel, by decide +kernel, by decide +kernel⟩
set_option maxRecDepth 20000 in
theorem cl_RX6_102 : ab_CV RX6 102 5 mX5_addRate 1 := ⟨⟨_, _, rfl⟩, ab_in (i := 451) rfl rfl, ab_in (i := 452) rfl rfl, ab_in (i := 453) rfl rfl, ab_in (i := 60) rfl rfl, ab_in (i := 454) rfl rfl, by decide +kernel, by decide +kernel, by decide +kernel, by decide +kernel⟩
set_option maxRecDepth 20000 in
theorem cl_RX6_105 : ab_CV RX6 105 6 mX6_isWithoutHeir 0 := ⟨⟨_, _, rfl⟩, ab_in (i := 459) rfl rfl, ab_in (i := 461) rfl rfl, ab_in (i := 12) rfl rfl, ab_in (i := 58) rfl rfl, ab_in (i := 462) rfl rfl, by decide +kernel, by decide +kernel, by decide +kernel, by decide +kernel⟩
set_option maxRecDepth 20000 in
theorem cl_RX6_108 : ab_CV RX6 108 5 mX5_addHeir 1 := ⟨⟨_, _, rfl⟩, ab_in (i := 463) rfl rfl, ab_in (i := 464) rfl rfl, ab_in (i := 465) rfl rfl, ab_in (i := 60) rfl rfl, ab_in (i := 466) rfl rfl, by decide +kernel, by decide +kernel, by decide +kernel, by decide +kernel⟩
set_option maxRecDepth 20000 in
theorem cl_RX6_117 : ab_CS RX6 117 mX6_isFigure 1 := ⟨ab_in (i := 418) rfl rfl, ab_in (i := 419) rfl rfl, ab_in (i := 58) rfl rfl, ab_in (i := 420) rfl rfl, by decide +kernel, by decide +kernel, by decide +kernel, by decide +kernel⟩
set_option maxRecDepth 20000 in
theorem cl_RX7_19 : ab_CV RX7 19 7 mX7_extend 5 := ⟨⟨_, _, rfl⟩, ab_in (i := 711) rfl rfl, ab_in (i := 713) rfl rfl, ab_in (i := 18) rfl rfl, ab_in (i := 65) rfl rfl, ab_in (i := 714) rfl rfl, by decide +kernel, by decide +kernel, by decide +kernel, by decide +kernel⟩
set_option maxRecDepth 20000 in
theorem cl_RX7_40 : ab_CV RX7 40 7 mX7_gainsWithLess 2 := ⟨⟨_, _, rfl⟩, ab_in (i := 723) rfl rfl, ab_in (i := 725) rfl rfl, ab_in (i := 19) rfl rfl, ab_in (i := 65) rfl rfl, ab_in (i := 726) rfl rfl, by decide +kernel, by decide +kernel, by decide +kernel, by decide +kernel⟩
set_option maxRecDepth 20000 in
theorem cl_RX8_36 : ab_CV RX8 36 5 mX5_addedIn 2 := ⟨⟨_, _, rfl⟩, ab_in (i := 552) rfl rfl, ab_in (i := 553) rfl rfl, ab_in (i := 554) rfl rfl, ab_in (i := 60) rfl rfl, ab_in (i := 555) rfl rfl, by decide +kernel, by decide +kernel, by decide +kernel, by decide +kernel⟩
set_option maxRecDepth 20000 in
theorem cl_RX8_39 : ab_CV RX8 39 8 mX8_lives 1 := ⟨⟨_, _, rfl⟩, ab_in (i := 544) rfl rfl, ab_in (i := 545) rfl rfl, ab_in (i := 546) rfl rfl, ab_in (i := 61) rfl rfl, ab_in (i := 547) rfl rfl, by decide +kernel, by decide +kernel, by decide +kernel, by decide +kernel⟩
set_option maxRecDepth 20000 in
theorem cl_RX8_43 : ab_CV RX8 43 8 mX8_ownMeasure 3 := ⟨⟨_, _, rfl⟩, ab_in (i := 548) rfl rfl, ab_in (i := 549) rfl rfl, ab_in (i := 550) rfl rfl, ab_in (i := 61) rfl rfl, ab_in (i := 551) rfl rfl, by decide +kernel, by decide +kernel, by decide +kernel, by decide +kernel⟩
set_option maxRecDepth 20000 in
theorem cl_RX8_50 : ab_CV RX8 50 8 mX8_measure 3 := ⟨⟨_, _, rfl⟩, ab_in (i := 540) rfl rfl, ab_in (i := 541) rfl rfl, ab_in (i := 542) rfl rfl, ab_in (i := 61) rfl rfl, ab_in (i := 543) rfl rfl, by decide +kernel, by decide +kernel, by decide +kernel, by decide +kernel⟩
set_option maxRecDepth 20000 in
theorem cl_RX8_69 : ab_CV RX8 69 8 mX8_payment 3 := ⟨⟨_, _, rfl⟩, ab_in (i := 607) rfl rfl, ab_in (i := 608) rfl rfl, ab_in (i := 609) rfl rfl, ab_in (i := 61) rfl rfl, ab_in (i := 610) rfl rfl, by decide +kernel, by decide +kernel, by decide +kernel, by decide +kernel⟩
set_option maxRecDepth 20000 in
theorem cl_RX8_75 : ab_CV RX8 75 8 mX8_nextDraw 1 := ⟨⟨_, _, rfl⟩, ab_in (i := 656) rfl rfl, ab_in (i := 658) rfl rfl, ab_in (i := 16) rfl rfl, ab_in (i := 61) rfl rfl, ab_in (i := 659) rfl rfl, by decide +kernel, by decide +kernel, by decide +kernel, by decide +kernel⟩
set_option maxRecDepth 20000 in
theorem cl_RX8_78 : ab_CV RX8 78 8 mX8_swell 2 := ⟨⟨_, _, rfl⟩, ab_in (i := 664) rfl rfl, ab_in (i := 616) rfl rfl, ab_in (i := 617) rfl rfl, ab_in (i := 61) rfl rfl, ab_in (i := 618) rfl rfl, by decide +kernel, by decide +kernel, by decide +kernel, by decide +kernel⟩
set_option maxRecDepth 20000 in
theorem cl_RX8_82 : ab_CV RX8 82 8 mX8_shorten 1 := ⟨⟨_, _, rfl⟩, ab_in (i := 665) rfl rfl, ab_in (i := 629) rfl rfl, ab_in (i := 630) rfl rfl, ab_in (i := 61) rfl rfl, ab_in (i := 631) rfl rfl, by decide +kernel, by decide +kernel, by decide +kernel, by decide +kernel⟩
set_option maxRecDepth 20000 in
theorem cl_RX9_9 : ab_CI RX9 9 mX6_init 0 := ⟨Or.inr ⟨"LimbMeasures", ab_iu (i := 81) rfl rfl⟩, ab_in (i := 82) rfl rfl, rfl, rfl, ab_in (i := 58) rfl rfl, ab_in (i := 83) rfl rfl, by decide +kernel, by decide +kernel, by decide +kernel, by decide +kernel⟩
set_option maxRecDepth 20000 in
theorem cl_RX9_18 : ab_CI RX9 18 mX5_init 0 := ⟨Or.inr ⟨"LimbMeasures", ab_iu (i := 202) rfl rfl⟩, ab_in (i := 103) rfl rfl, rfl, rfl, ab_in (i := 60) rfl rfl, ab_in (i := 104) rfl rfl, by decide +kernel, by decide +kernel, by decide +kernel, by decide +kernel⟩
set_option maxRecDepth 20000 in
theorem cl_RX9_25 : ab_CI RX9 25 mX8_init 0 := ⟨Or.inl (ab_in (i := 205) rfl rfl), ab_in (i := 206) rfl rfl, rfl, rfl, ab_in (i := 61) rfl rfl, ab_in (i := 207) rfl rfl, by decide +kernel, by decide +kernel, by decide +kernel, by decide +kernel⟩
set_option maxRecDepth 20000 in
theorem cl_RX9_32 : ab_CI RX9 32 mX4_init 0 := ⟨Or.inr ⟨"LimbMeasures", ab_iu (i := 216) rfl rfl⟩, ab_in (i := 217) rfl rfl, rfl, rfl, ab_in (i := 62) rfl rfl, ab_in (i := 218) rfl rfl, by decide +kernel, by decide +kernel, by decide +kernel, by decide +kernel⟩
set_option maxRecDepth 20000 in
theorem cl_RX9_39 : ab_CI RX9 39 mX3_init 0 := ⟨Or.inr ⟨"LimbMeasures", ab_iu (i := 239) rfl rfl⟩, ab_in (i := 240) rfl rfl, rfl, rfl, ab_in (i := 63) rfl rfl, ab_in (i := 241) rfl rfl, by decide +kernel, by decide +kernel, by decide +kernel, by decide +kernel⟩
set_option maxRecDepth 20000 in
theorem cl_RX9_46 : ab_CI RX9 46 mX0_init 0 := ⟨Or.inr ⟨"LimbMeasures", ab_iu (i := 266) rfl rfl⟩, ab_in (i := 267) rfl rfl, rfl, rfl, ab_in (i := 64) rfl rfl, ab_in (i := 268) rfl rfl, by decide +kernel, by decide +kernel, by decide +kernel, by decide +kernel⟩
set_option maxRecDepth 20000 in
theorem cl_RX9_53 : ab_CI RX9 53 mX7_init 0 := ⟨Or.inr ⟨"LimbMeasures", ab_iu (i := 299) rfl rfl⟩, ab_in (i := 300) rfl rfl, rfl, rfl, ab_in (i := 65) rfl rfl, ab_in (i := 301) rfl rfl, by decide +kernel, by decide +kernel, by decide +kernel, by decide +kernel⟩
set_option maxRecDepth 20000 in
theorem cl_RX9_60 : ab_CI RX9 60 mX1_init 0 := ⟨Or.inr ⟨"LimbMeasures", ab_iu (i := 314) rfl rfl⟩, ab_in (i := 315) rfl rfl, rfl, rfl, ab_in (i := 66) rfl rfl, ab_in (i := 316) rfl rfl, by decide +kernel, by decide +kernel, by decide +kernel, by decide +kernel⟩
set_option maxRecDepth 20000 in
theorem cl_RX9_74 : ab_CV RX9 74 2 mX2_isFull 0 := ⟨⟨_, _, rfl⟩, ab_in (i := 365) rfl rfl, ab_in (i := 366) rfl rfl, ab_in (i := 367) rfl rfl, ab_in (i := 59) rfl rfl, ab_in (i := 368) rfl rfl, by decide +kernel, by decide +kernel, by decide +kernel, by decide +kernel⟩
set_option maxRecDepth 20000 in
theorem cl_RX9_81 : ab_CV RX9 81 2 mX2_append 1 := ⟨⟨_, _, rfl⟩, ab_in (i := 370) rfl rfl, ab_in (i := 371) rfl rfl, ab_in (i := 372) rfl rfl, ab_in (i := 59) rfl rfl, ab_in (i := 373) rfl rfl, by decide +kernel, by decide +kernel, by decide +kernel, by decide +kernel⟩
set_option maxRecDepth 20000 in
theorem cl_RX9_85 : ab_CV RX9 85 6 mX6_readText 0 := ⟨⟨_, _, rfl⟩, ab_in (i := 378) rfl rfl, ab_in (i := 379) rfl rfl, ab_in (i := 380) rfl rfl, ab_in (i := 58) rfl rfl, ab_in (i := 381) rfl rfl, by decide +kernel, by decide +kernel, by decide +kernel, by decide +kernel⟩
set_option maxRecDepth 20000 in
theorem cl_RX9_88 : ab_CV RX9 88 2 mX2_empty 0 := ⟨⟨_, _, rfl⟩, ab_in (i := 467) rfl rfl, ab_in (i := 468) rfl rfl, ab_in (i := 469) rfl rfl, ab_in (i := 59) rfl rfl, ab_in (i := 470) rfl rfl, by decide +kernel, by decide +kernel, by decide +kernel, by decide +kernel⟩
set_option maxRecDepth 20000 in
theorem cl_RX9_98 : ab_CV RX9 98 5 mX5_takeOver 1 := ⟨⟨_, _, rfl⟩, ab_in (i := 471) rfl rfl, ab_in (i := 472) rfl rfl, ab_in (i := 473) rfl rfl, ab_in (i := 60) rfl rfl, ab_in (i := 474) rfl rfl, by decide +kernel, by decide +kernel, by decide +kernel, by decide +kernel⟩
set_option maxRecDepth 20000 in
theorem cl_RX9_102 : ab_CV RX9 102 8 mX8_begin 1 := ⟨⟨_, _, rfl⟩, ab_in (i := 475) rfl rfl, ab_in (i := 476) rfl rfl, ab_in (i := 477) rfl rfl, ab_in (i := 61) rfl rfl, ab_in (i := 478) rfl rfl, by decide +kernel, by decide +kernel, by decide +kernel, by decide +kernel⟩
set_option maxRecDepth 20000 in
theorem cl_RX9_105 : ab_CV RX9 105 3 mX3_clearAll 0 := ⟨⟨_, _, rfl⟩, ab_in (i := 480) rfl rfl, ab_in (i := 481) rfl rfl, ab_in (i := 482) rfl rfl, ab_in (i := 63) rfl rfl, ab_in (i := 483) rfl rfl, by decide +kernel, by decide +kernel, by decide +kernel, by decide +kernel⟩
set_option maxRecDepth 20000 in
theorem cl_RX9_108 : ab_CV RX9 108 4 mX4_forgetUndone 0 := ⟨⟨_, _, rfl⟩, ab_in (i := 484) rfl rfl, ab_in (i := 485) rfl rfl, ab_in (i := 486) rfl rfl, ab_in (i := 62) rfl rfl, ab_in (i := 487) rfl rfl, by decide +kernel, by decide +kernel, by decide +kernel, by decide +kernel⟩
set_option maxRecDepth 20000 in
theorem cl_RX9_111 : ab_CV RX9 111 4 mX4_forgetImages 0 := ⟨⟨_, _, rfl⟩, ab_in (i := 488) rfl rfl, ab_in (i := 489) rfl rfl, ab_in (i := 490) rfl rfl, ab_in (i := 62) rfl rfl, ab_in (i := 491) rfl rfl, by decide +kernel, by decide +kernel, by decide +kernel, by decide +kernel⟩
set_option maxRecDepth 20000 in
theorem cl_RX9_126 : ab_CV RX9 126 8 mX8_seasons 0 := ⟨⟨_, _, rfl⟩, ab_in (i := 500) rfl rfl, ab_in (i := 501) rfl rfl, ab_in (i := 502) rfl rfl, ab_in (i := 61) rfl rfl, ab_in (i := 503) rfl rfl, by decide +kernel, by decide +kernel, by decide +kernel, by decide +kernel⟩
set_option maxRecDepth 20000 in
theorem cl_RX9_130 : ab_CV RX9 130 8 mX8_living 0 := ⟨⟨_, _, rfl⟩, ab_in (i := 504) rfl rfl, ab_in (i := 505) rfl rfl, ab_in (i := 506) rfl rfl, ab_in (i := 61) rfl rfl, ab_in (i := 507) rfl rfl, by decide +kernel, by decide +kernel, by decide +kernel, by decide +kernel⟩
set_option maxRecDepth 20000 in
theorem cl_RX9_133 : ab_CV RX9 133 8 mX8_copied 0 := ⟨⟨_, _, rfl⟩, ab_in (i := 508) rfl rfl, ab_in (i := 509) rfl rfl, ab_in (i := 510) rfl rfl, ab_in (i := 61) rfl rfl, ab_in (i := 511) rfl rfl, by decide +kernel, by decide +kernel, by decide +kernel, by decide +kernel⟩
set_option maxRecDepth 20000 in
theorem cl_RX9_136 : ab_CV RX9 136 8 mX8_paidTogether 0 := ⟨⟨_, _, rfl⟩, ab_in (i := 512) rfl rfl, ab_in (i := 513) rfl rfl, ab_in (i := 514) rfl rfl, ab_in (i := 61) rfl rfl, ab_in (i := 515) rfl rfl, by decide +kernel, by decide +kernel, by decide +kernel, by decide +kernel⟩
set_option maxRecDepth 20000 in
theorem cl_RX9_139 : ab_CV RX9 139 8 mX8_noughts 0 := ⟨⟨_, _, rfl⟩, ab_in (i := 519) rfl rfl, ab_in (i := 520) rfl rfl, ab_in (i := 521) rfl rfl, ab_in (i := 61) rfl rfl, ab_in (i := 522) rfl rfl, by decide +kernel, by decide +kernel, by decide +kernel, by decide +kernel⟩
set_option maxRecDepth 20000 in
theorem cl_RX9_151 : ab_CV RX9 151 5 mX5_hasLimb 1 := ⟨⟨_, _, rfl⟩, ab_in (i := 527) rfl rfl, ab_in (i := 528) rfl rfl, ab_in (i := 529) rfl rfl, ab_in (i := 60) rfl rfl, ab_in (i := 530) rfl rfl, by decide +kernel, by decide +kernel, by decide +kernel, by decide +kernel⟩
set_option maxRecDepth 20000 in
theorem cl_RX9_156 : ab_CV RX9 156 8 mX8_lengthOf 1 := ⟨⟨_, _, rfl⟩, ab_in (i := 532) rfl rfl, ab_in (i := 533) rfl rfl, ab_in (i := 534) rfl rfl, ab_in (i := 61) rfl rfl, ab_in (i := 535) rfl rfl, by decide +kernel, by decide +kernel, by decide +kernel, by decide +kernel⟩
set_option maxRecDepth 20000 in
theorem cl_RX9_159 : ab_CV RX9 159 8 mX8_measureNow 2 := ⟨⟨_, _, rfl⟩, ab_in (i := 536) rfl rfl, ab_in (i := 537) rfl rfl, ab_in (i := 538) rfl rfl, ab_in (i := 61) rfl rfl, ab_in (i := 539) rfl rfl, by decide +kernel, by decide +kernel, by decide +kernel, by decide +kernel⟩
set_option maxRecDepth 20000 in
theorem cl_RX9_167 : ab_CV RX9 167 8 mX8_lives 1 := ⟨⟨_, _, rfl⟩, ab_in (i := 556) rfl rfl, ab_in (i := 545) rfl rfl, ab_in (i := 546) rfl rfl, ab_in (i := 61) rfl rfl, ab_in (i := 547) rfl rfl, by decide +kernel, by decide +kernel, by decide +kernel, by decide +kernel⟩
set_option maxRecDepth 20000 in
theorem cl_RX9_170 : ab_CV RX9 170 8 mX8_copyOf 1 := ⟨⟨_, _, rfl⟩, ab_in (i := 557) rfl rfl, ab_in (i := 558) rfl rfl, ab_in (i := 559) rfl rfl, ab_in (i := 61) rfl rfl, ab_in (i := 560) rfl rfl, by decide +kernel, by decide +kernel, by decide +kernel, by decide +kernel⟩
set_option maxRecDepth 20000 in
theorem cl_RX9_173 : ab_CV RX9 173 5 mX5_addedAsTold 2 := ⟨⟨_, _, rfl⟩, ab_in (i := 561) rfl rfl, ab_in (i := 562) rfl rfl, ab_in (i := 563) rfl rfl, ab_in (i := 60) rfl rfl, ab_in (i := 564) rfl rfl, by decide +kernel, by decide +kernel, by decide +kernel, by decide +kernel⟩
set_option maxRecDepth 20000 in
theorem cl_RX9_177 : ab_CV RX9 177 5 mX5_hasContract 1 := ⟨⟨_, _, rfl⟩, ab_in (i := 569) rfl rfl, ab_in (i := 570) rfl rfl, ab_in (i := 571) rfl rfl, ab_in (i := 60) rfl rfl, ab_in (i := 572) rfl rfl, by decide +kernel, by decide +kernel, by decide +kernel, by decide +kernel⟩
set_option maxRecDepth 20000 in
theorem cl_RX9_189 : ab_CV RX9 189 8 mX8_paidOf 1 := ⟨⟨_, _, rfl⟩, ab_in (i := 573) rfl rfl, ab_in (i := 574) rfl rfl, ab_in (i := 575) rfl rfl, ab_in (i := 61) rfl rfl, ab_in (i := 576) rfl rfl, by decide +kernel, by decide +kernel, by decide +kernel, by decide +kernel⟩
set_option maxRecDepth 20000 in
theorem cl_RX9_192 : ab_CV RX9 192 5 mX5_hasRate 1 := ⟨⟨_, _, rfl⟩, ab_in (i := 581) rfl rfl, ab_in (i := 582) rfl rfl, ab_in (i := 583) rfl rfl, ab_in (i := 60) rfl rfl, ab_in (i := 584) rfl rfl, by decide +kernel, by decide +kernel, by decide +kernel, by decide +kernel⟩
set_option maxRecDepth 20000 in
theorem cl_RX9_207 : ab_CV RX9 207 9 mX9_refusalOfSeasons 1 := ⟨⟨_, _, rfl⟩, ab_in (i := 589) rfl rfl, ab_in (i := 591) rfl rfl, ab_in (i := 13) rfl rfl, ab_in (i := 57) rfl rfl, ab_in (i := 592) rfl rfl, by decide +kernel, by decide +kernel, by decide +kernel, by decide +kernel⟩
set_option maxRecDepth 20000 in
theorem cl_RX9_210 : ab_CV RX9 210 4 mX4_remember 1 := ⟨⟨_, _, rfl⟩, ab_in (i := 594) rfl rfl, ab_in (i := 595) rfl rfl, ab_in (i := 596) rfl rfl, ab_in (i := 62) rfl rfl, ab_in (i := 597) rfl rfl, by decide +kernel, by decide +kernel, by decide +kernel, by decide +kernel⟩
set_option maxRecDepth 20000 in
theorem cl_RX9_214 : ab_CV RX9 214 8 mX8_passSeason 1 := ⟨⟨_, _, rfl⟩, ab_in (i := 603) rfl rfl, ab_in (i := 604) rfl rfl, ab_in (i := 605) rfl rfl, ab_in (i := 61) rfl rfl, ab_in (i := 606) rfl rfl, by decide +kernel, by decide +kernel, by decide +kernel, by decide +kernel⟩
set_option maxRecDepth 20000 in
theorem cl_RX9_218 : ab_CV RX9 218 8 mX8_swell 2 := ⟨⟨_, _, rfl⟩, ab_in (i := 615) rfl rfl, ab_in (i := 616) rfl rfl, ab_in (i := 617) rfl rfl, ab_in (i := 61) rfl rfl, ab_in (i := 618) rfl rfl, by decide +kernel, by decide +kernel, by decide +kernel, by decide +kernel⟩
set_option maxRecDepth 20000 in
theorem cl_RX9_222 : ab_CV RX9 222 9 mX9_refusalOfLiving 1 := ⟨⟨_, _, rfl⟩, ab_in (i := 624) rfl rfl, ab_in (i := 626) rfl rfl, ab_in (i := 15) rfl rfl, ab_in (i := 57) rfl rfl, ab_in (i := 627) rfl rfl, by decide +kernel, by decide +kernel, by decide +kernel, by decide +kernel⟩
set_option maxRecDepth 20000 in
theorem cl_RX9_225 : ab_CV RX9 225 8 mX8_shorten 1 := ⟨⟨_, _, rfl⟩, ab_in (i := 628) rfl rfl, ab_in (i := 629) rfl rfl, ab_in (i := 630) rfl rfl, ab_in (i := 61) rfl rfl, ab_in (i := 631) rfl rfl, by decide +kernel, by decide +kernel, by decide +kernel, by decide +kernel⟩
set_option maxRecDepth 20000 in
theorem cl_RX9_229 : ab_CV RX9 229 8 mX8_bury 1 := ⟨⟨_, _, rfl⟩, ab_in (i := 636) rfl rfl, ab_in (i := 637) rfl rfl, ab_in (i := 638) rfl rfl, ab_in (i := 61) rfl rfl, ab_in (i := 639) rfl rfl, by decide +kernel, by decide +kernel, by decide +kernel, by decide +kernel⟩
set_option maxRecDepth 20000 in
theorem cl_RX9_232 : ab_CV RX9 232 8 mX8_carve 2 := ⟨⟨_, _, rfl⟩, ab_in (i := 644) rfl rfl, ab_in (i := 645) rfl rfl, ab_in (i := 646) rfl rfl, ab_in (i := 61) rfl rfl, ab_in (i := 647) rfl rfl, by decide +kernel, by decide +kernel, by decide +kernel, by decide +kernel⟩
set_option maxRecDepth 20000 in
theorem cl_RX9_236 : ab_CV RX9 236 8 mX8_sufferByDraws 1 := ⟨⟨_, _, rfl⟩, ab_in (i := 652) rfl rfl, ab_in (i := 653) rfl rfl, ab_in (i := 654) rfl rfl, ab_in (i := 61) rfl rfl, ab_in (i := 655) rfl rfl, by decide +kernel, by decide +kernel, by decide +kernel, by decide +kernel⟩
set_option maxRecDepth 20000 in
theorem cl_RX9_239 : ab_CV RX9 239 4 mX4_restoreLatest 1 := ⟨⟨_, _, rfl⟩, ab_in (i := 670) rfl rfl, ab_in (i := 671) rfl rfl, ab_in (i := 672) rfl rfl, ab_in (i := 62) rfl rfl, ab_in (i := 673) rfl rfl, by decide +kernel, by decide +kernel, by decide +kernel, by decide +kernel⟩
set_option maxRecDepth 20000 in
theorem cl_RX9_242 : ab_CV RX9 242 8 mX8_payment 3 := ⟨⟨_, _, rfl⟩, ab_in (i := 678) rfl rfl, ab_in (i := 608) rfl rfl, ab_in (i := 609) rfl rfl, ab_in (i := 61) rfl rfl, ab_in (i := 610) rfl rfl, by decide +kernel, by decide +kernel, by decide +kernel, by decide +kernel⟩
set_option maxRecDepth 20000 in
theorem cl_RX9_246 : ab_CV RX9 246 0 mX0_search 2 := ⟨⟨_, _, rfl⟩, ab_in (i := 687) rfl rfl, ab_in (i := 688) rfl rfl, ab_in (i := 689) rfl rfl, ab_in (i := 64) rfl rfl, ab_in (i := 690) rfl rfl, by decide +kernel, by decide +kernel, by decide +kernel, by decide +kernel⟩
set_option maxRecDepth 20000 in
theorem cl_RX9_250 : ab_CV RX9 250 0 mX0_isFound 0 := ⟨⟨_, _, rfl⟩, ab_in (i := 699) rfl rfl, ab_in (i := 700) rfl rfl, ab_in (i := 701) rfl rfl, ab_in (i := 64) rfl rfl, ab_in (i := 702) rfl rfl, by decide +kernel, by decide +kernel, by decide +kernel, by decide +kernel⟩
set_option maxRecDepth 20000 in
theorem cl_RX9_259 : ab_CV RX9 259 7 mX7_search 1 := ⟨⟨_, _, rfl⟩, ab_in (i := 707) rfl rfl, ab_in (i := 708) rfl rfl, ab_in (i := 709) rfl rfl, ab_in (i := 65) rfl rfl, ab_in (i := 710) rfl rfl, by decide +kernel, by decide +kernel, by decide +kernel, by decide +kernel⟩
set_option maxRecDepth 20000 in
theorem cl_RX9_267 : ab_CV RX9 267 7 mX7_leastMending 1 := ⟨⟨_, _, rfl⟩, ab_in (i := 719) rfl rfl, ab_in (i := 720) rfl rfl, ab_in (i := 721) rfl rfl, ab_in (i := 65) rfl rfl, ab_in (i := 722) rfl rfl, by decide +kernel, by decide +kernel, by decide +kernel, by decide +kernel⟩
set_option maxRecDepth 20000 in
theorem cl_RX9_271 : ab_CS RX9 271 mJ6_bitCount_0f7a4 1 := ⟨ab_in (i := 732) rfl rfl, ab_in (i := 733) rfl rfl, ab_in (i := 70) rfl rfl, ab_in (i := 734) rfl rfl, by decide +kernel, by decide +kernel, by decide +kernel, by decide +kernel⟩
set_option maxRecDepth 20000 in
theorem cl_RX9_276 : ab_CV RX9 276 1 mX1_search 1 := ⟨⟨_, _, rfl⟩, ab_in (i := 738) rfl rfl, ab_in (i := 739) rfl rfl, ab_in (i := 740) rfl rfl, ab_in (i := 66) rfl rfl, ab_in (i := 741) rfl rfl, by decide +kernel, by decide +kernel, by decide +kernel, by decide +kernel⟩
set_option maxRecDepth 20000 in
theorem cl_RX9_278 : ab_CV RX9 278 1 mX1_apartTogether 0 := ⟨⟨_, _, rfl⟩, ab_in (i := 767) rfl rfl, ab_in (i := 768) rfl rfl, ab_in (i := 769) rfl rfl, ab_in (i := 66) rfl rfl, ab_in (i := 770) rfl rfl, by decide +kernel, by decide +kernel, by decide +kernel, by decide +kernel⟩
set_option maxRecDepth 20000 in
theorem cl_RX9_284 : ab_CV RX9 284 8 mX8_measure 3 := ⟨⟨_, _, rfl⟩, ab_in (i := 775) rfl rfl, ab_in (i := 541) rfl rfl, ab_in (i := 542) rfl rfl, ab_in (i := 61) rfl rfl, ab_in (i := 543) rfl rfl, by decide +kernel, by decide +kernel, by decide +kernel, by decide +kernel⟩
set_option maxRecDepth 20000 in
theorem cl_RX9_295 : ab_CV RX9 295 8 mX8_apartFrom 3 := ⟨⟨_, _, rfl⟩, ab_in (i := 782) rfl rfl, ab_in (i := 783) rfl rfl, ab_in (i := 784) rfl rfl, ab_in (i := 61) rfl rfl, ab_in (i := 785) rfl rfl, by decide +kernel, by decide +kernel, by decide +kernel, by decide +kernel⟩
set_option maxRecDepth 20000 in
theorem cl_RX9_305 : ab_CV RX9 305 3 mX3_addGot 2 := ⟨⟨_, _, rfl⟩, ab_in (i := 802) rfl rfl, ab_in (i := 803) rfl rfl, ab_in (i := 804) rfl rfl, ab_in (i := 63) rfl rfl, ab_in (i := 805) rfl rfl, by decide +kernel, by decide +kernel, by decide +kernel, by decide +kernel⟩
set_option maxRecDepth 20000 in
theorem cl_RX9_308 : ab_CV RX9 308 3 mX3_fitting 2 := ⟨⟨_, _, rfl⟩, ab_in (i := 810) rfl rfl, ab_in (i := 811) rfl rfl, ab_in (i := 812) rfl rfl, ab_in (i := 63) rfl rfl, ab_in (i := 813) rfl rfl, by decide +kernel, by decide +kernel, by decide +kernel, by decide +kernel⟩
set_option maxRecDepth 20000 in
theorem cl_RX9_312 : ab_CV RX9 312 8 mX8_areUnlike 3 := ⟨⟨_, _, rfl⟩, ab_in (i := 823) rfl rfl, ab_in (i := 824) rfl rfl, ab_in (i := 825) rfl rfl, ab_in (i := 61) rfl rfl, ab_in (i := 826) rfl rfl, by decide +kernel, by decide +kernel, by decide +kernel, by decide +kernel⟩
set_option maxRecDepth 20000 in
theorem cl_RX9_316 : ab_CV RX9 316 3 mX3_addEntry 2 := ⟨⟨_, _, rfl⟩, ab_in (i := 831) rfl rfl, ab_in (i := 832) rfl rfl, ab_in (i := 833) rfl rfl, ab_in (i := 63) rfl rfl, ab_in (i := 834) rfl rfl, by decide +kernel, by decide +kernel, by decide +kernel, by decide +kernel⟩
set_option maxRecDepth 20000 in
theorem cl_RX9_319 : ab_CV RX9 319 3 mX3_firstWrong 2 := ⟨⟨_, _, rfl⟩, ab_in (i := 843) rfl rfl, ab_in (i := 844) rfl rfl, ab_in (i := 845) rfl rfl, ab_in (i := 63) rfl rfl, ab_in (i := 846) rfl rfl, by decide +kernel, by decide +kernel, by decide +kernel, by decide +kernel⟩
set_option maxRecDepth 20000 in
theorem cl_RX9_322 : ab_CV RX9 322 8 mX8_seedNow 0 := ⟨⟨_, _, rfl⟩, ab_in (i := 851) rfl rfl, ab_in (i := 852) rfl rfl, ab_in (i := 853) rfl rfl, ab_in (i := 61) rfl rfl, ab_in (i := 854) rfl rfl, by decide +kernel, by decide +kernel, by decide +kernel, by decide +kernel⟩
set_option maxRecDepth 20000 in
theorem cl_RX9_325 : ab_CV RX9 325 8 mX8_sow 1 := ⟨⟨_, _, rfl⟩, ab_in (i := 855) rfl rfl, ab_in (i := 856) rfl rfl, ab_in (i := 857) rfl rfl, ab_in (i := 61) rfl rfl, ab_in (i := 858) rfl rfl, by decide +kernel, by decide +kernel, by decide +kernel, by decide +kernel⟩
set_option maxRecDepth 20000 in
theorem cl_RX9_328 : ab_CS RX9 328 mX9_isImage 1 := ⟨ab_in (i := 863) rfl rfl, ab_in (i := 864) rfl rfl, ab_in (i := 57) rfl rfl, ab_in (i := 865) rfl rfl, by decide +kernel, by decide +kernel, by decide +kernel, by decide +kernel⟩
set_option maxRecDepth 20000 in
theorem cl_RX9_331 : ab_CV RX9 331 4 mX4_keepImage 2 := ⟨⟨_, _, rfl⟩, ab_in (i := 866) rfl rfl, ab_in (i := 867) rfl rfl, ab_in (i := 868) rfl rfl, ab_in (i := 62) rfl rfl, ab_in (i := 869) rfl rfl, by decide +kernel, by decide +kernel, by decide +kernel, by decide +kernel⟩
set_option maxRecDepth 20000 in
theorem cl_RX9_335 : ab_CV RX9 335 4 mX4_hasImage 1 := ⟨⟨_, _, rfl⟩, ab_in (i := 874) rfl rfl, ab_in (i := 875) rfl rfl, ab_in (i := 876) rfl rfl, ab_in (i := 62) rfl rfl, ab_in (i := 877) rfl rfl, by decide +kernel, by decide +kernel, by decide +kernel, by decide +kernel⟩
set_option maxRecDepth 20000 in
theorem cl_RX9_338 : ab_CV RX9 338 4 mX4_restoreImage 2 := ⟨⟨_, _, rfl⟩, ab_in (i := 878) rfl rfl, ab_in (i := 879) rfl rfl, ab_in (i := 880) rfl rfl, ab_in (i := 62) rfl rfl, ab_in (i := 881) rfl rfl, by decide +kernel, by decide +kernel, by decide +kernel, by decide +kernel⟩
set_option maxRecDepth 20000 in
theorem cl_RX10_102 : ab_CS RX10 102 mX10_in 3 := ⟨ab_in (i := 1030) rfl rfl, ab_in (i := 1031) rfl rfl, ab_in (i := 67) rfl rfl, ab_in (i := 1032) rfl rfl, by decide +kernel, by decide +kernel, by decide +kernel, by decide +kernel⟩
set_option maxRecDepth 20000 in
theorem cl_RX10_106 : ab_CS RX10 106 mX10_has 2 := ⟨ab_in (i := 1114) rfl rfl, ab_in (i := 1115) rfl rfl, ab_in (i := 67) rfl rfl, ab_in (i := 1116) rfl rfl, by decide +kernel, by decide +kernel, by decide +kernel, by decide +kernel⟩
set_option maxRecDepth 20000 in
theorem cl_RX10_120 : ab_CV RX10 120 10 mX10_here 0 := ⟨⟨_, _, rfl⟩, ab_in (i := 1039) rfl rfl, ab_in (i := 1041) rfl rfl, ab_in (i := 25) rfl rfl, ab_in (i := 67) rfl rfl, ab_in (i := 1042) rfl rfl, by decide +kernel, by decide +kernel, by decide +kernel, by decide +kernel⟩
set_option maxRecDepth 20000 in
theorem cl_RX10_128 : ab_CV RX10 128 10 mX10_fails 2 := ⟨⟨_, _, rfl⟩, ab_in (i := 1047) rfl rfl, ab_in (i := 1049) rfl rfl, ab_in (i := 27) rfl rfl, ab_in (i := 67) rfl rfl, ab_in (i := 1050) rfl rfl, by decide +kernel, by decide +kernel, by decide +kernel, by decide +kernel⟩
set_option maxRecDepth 20000 in
theorem cl_RX10_138 : ab_CV RX10 138 10 mX10_takeNumber 2 := ⟨⟨_, _, rfl⟩, ab_in (i := 1059) rfl rfl, ab_in (i := 1061) rfl rfl, ab_in (i := 30) rfl rfl, ab_in (i := 67) rfl rfl, ab_in (i := 1062) rfl rfl, by decide +kernel, by decide +kernel, by decide +kernel, by decide +kernel⟩
set_option maxRecDepth 20000 in
theorem cl_RX10_144 : ab_CV RX10 144 10 mX10_into 4 := ⟨⟨_, _, rfl⟩, ab_in (i := 1055) rfl rfl, ab_in (i := 1057) rfl rfl, ab_in (i := 29) rfl rfl, ab_in (i := 67) rfl rfl, ab_in (i := 1058) rfl rfl, by decide +kernel, by decide +kernel, by decide +kernel, by decide +kernel⟩
set_option maxRecDepth 20000 in
theorem cl_RX10_154 : ab_CV RX10 154 10 mX10_takeLimb 0 := ⟨⟨_, _, rfl⟩, ab_in (i := 1051) rfl rfl, ab_in (i := 1053) rfl rfl, ab_in (i := 28) rfl rfl, ab_in (i := 67) rfl rfl, ab_in (i := 1054) rfl rfl, by decide +kernel, by decide +kernel, by decide +kernel, by decide +kernel⟩
set_option maxRecDepth 20000 in
theorem cl_RX10_157 : ab_CV RX10 157 10 mX10_takeContract 0 := ⟨⟨_, _, rfl⟩, ab_in (i := 1065) rfl rfl, ab_in (i := 1067) rfl rfl, ab_in (i := 31) rfl rfl, ab_in (i := 67) rfl rfl, ab_in (i := 1068) rfl rfl, by decide +kernel, by decide +kernel, by decide +kernel, by decide +kernel⟩
set_option maxRecDepth 20000 in
theorem cl_RX10_160 : ab_CV RX10 160 10 mX10_takeRate 0 := ⟨⟨_, _, rfl⟩, ab_in (i := 1069) rfl rfl, ab_in (i := 1071) rfl rfl, ab_in (i := 32) rfl rfl, ab_in (i := 67) rfl rfl, ab_in (i := 1072) rfl rfl, by decide +kernel, by decide +kernel, by decide +kernel, by decide +kernel⟩
set_option maxRecDepth 20000 in
theorem cl_RX10_163 : ab_CV RX10 163 10 mX10_takeHeir 0 := ⟨⟨_, _, rfl⟩, ab_in (i := 1073) rfl rfl, ab_in (i := 1075) rfl rfl, ab_in (i := 33) rfl rfl, ab_in (i := 67) rfl rfl, ab_in (i := 1076) rfl rfl, by decide +kernel, by decide +kernel, by decide +kernel, by decide +kernel⟩
set_option maxRecDepth 20000 in
theorem cl_RX10_172 : ab_CV RX10 172 10 mX10_takeClause 0 := ⟨⟨_, _, rfl⟩, ab_in (i := 1043) rfl rfl, ab_in (i := 1045) rfl rfl, ab_in (i := 26) rfl rfl, ab_in (i := 67) rfl rfl, ab_in (i := 1046) rfl rfl, by decide +kernel, by decide +kernel, by decide +kernel, by decide +kernel⟩
set_option maxRecDepth 20000 in
theorem cl_RX10_175 : ab_CV RX10 175 10 mX10_takeRead 0 := ⟨⟨_, _, rfl⟩, ab_in (i := 1077) rfl rfl, ab_in (i := 1079) rfl rfl, ab_in (i := 34) rfl rfl, ab_in (i := 67) rfl rfl, ab_in (i := 1080) rfl rfl, by decide +kernel, by decide +kernel, by decide +kernel, by decide +kernel⟩
set_option maxRecDepth 20000 in
theorem cl_RX10_187 : ab_CV RX10 187 10 mX10_copied 0 := ⟨⟨_, _, rfl⟩, ab_in (i := 1089) rfl rfl, ab_in (i := 1091) rfl rfl, ab_in (i := 35) rfl rfl, ab_in (i := 67) rfl rfl, ab_in (i := 1092) rfl rfl, by decide +kernel, by decide +kernel, by decide +kernel, by decide +kernel⟩
set_option maxRecDepth 20000 in
theorem cl_RX10_190 : ab_CV RX10 190 10 mX10_lives 1 := ⟨⟨_, _, rfl⟩, ab_in (i := 1110) rfl rfl, ab_in (i := 1112) rfl rfl, ab_in (i := 39) rfl rfl, ab_in (i := 67) rfl rfl, ab_in (i := 1113) rfl rfl, by decide +kernel, by decide +kernel, by decide +kernel, by decide +kernel⟩
set_option maxRecDepth 20000 in
theorem cl_RX10_194 : ab_CV RX10 194 10 mX10_grown 2 := ⟨⟨_, _, rfl⟩, ab_in (i := 1117) rfl rfl, ab_in (i := 1119) rfl rfl, ab_in (i := 40) rfl rfl, ab_in (i := 67) rfl rfl, ab_in (i := 1120) rfl rfl, by decide +kernel, by decide +kernel, by decide +kernel, by decide +kernel⟩
set_option maxRecDepth 20000 in
theorem cl_RX10_197 : ab_CV RX10 197 10 mX10_measure 2 := ⟨⟨_, _, rfl⟩, ab_in (i := 1106) rfl rfl, ab_in (i := 1108) rfl rfl, ab_in (i := 38) rfl rfl, ab_in (i := 67) rfl rfl, ab_in (i := 1109) rfl rfl, by decide +kernel, by decide +kernel, by decide +kernel, by decide +kernel⟩
set_option maxRecDepth 20000 in
theorem cl_RX10_200 : ab_CV RX10 200 10 mX10_isLimb 1 := ⟨⟨_, _, rfl⟩, ab_in (i := 1097) rfl rfl, ab_in (i := 1099) rfl rfl, ab_in (i := 36) rfl rfl, ab_in (i := 67) rfl rfl, ab_in (i := 1100) rfl rfl, by decide +kernel, by decide +kernel, by decide +kernel, by decide +kernel⟩
set_option maxRecDepth 20000 in
theorem cl_RX10_204 : ab_CV RX10 204 10 mX10_measureNow 1 := ⟨⟨_, _, rfl⟩, ab_in (i := 1102) rfl rfl, ab_in (i := 1104) rfl rfl, ab_in (i := 37) rfl rfl, ab_in (i := 67) rfl rfl, ab_in (i := 1105) rfl rfl, by decide +kernel, by decide +kernel, by decide +kernel, by decide +kernel⟩
set_option maxRecDepth 20000 in
theorem cl_RX10_215 : ab_CV RX10 215 10 mX10_seasonsRefused 1 := ⟨⟨_, _, rfl⟩, ab_in (i := 1135) rfl rfl, ab_in (i := 1137) rfl rfl, ab_in (i := 41) rfl rfl, ab_in (i := 67) rfl rfl, ab_in (i := 1138) rfl rfl, by decide +kernel, by decide +kernel, by decide +kernel, by decide +kernel⟩
set_option maxRecDepth 20000 in
theorem cl_RX10_218 : ab_CV RX10 218 10 mX10_remember 0 := ⟨⟨_, _, rfl⟩, ab_in (i := 1141) rfl rfl, ab_in (i := 1143) rfl rfl, ab_in (i := 42) rfl rfl, ab_in (i := 67) rfl rfl, ab_in (i := 1144) rfl rfl, by decide +kernel, by decide +kernel, by decide +kernel, by decide +kernel⟩
set_option maxRecDepth 20000 in
theorem cl_RX10_221 : ab_CV RX10 221 10 mX10_pass 0 := ⟨⟨_, _, rfl⟩, ab_in (i := 1145) rfl rfl, ab_in (i := 1147) rfl rfl, ab_in (i := 43) rfl rfl, ab_in (i := 67) rfl rfl, ab_in (i := 1148) rfl rfl, by decide +kernel, by decide +kernel, by decide +kernel, by decide +kernel⟩
set_option maxRecDepth 20000 in
theorem cl_RX10_226 : ab_CV RX10 226 10 mX10_swell 2 := ⟨⟨_, _, rfl⟩, ab_in (i := 1154) rfl rfl, ab_in (i := 1156) rfl rfl, ab_in (i := 44) rfl rfl, ab_in (i := 67) rfl rfl, ab_in (i := 1157) rfl rfl, by decide +kernel, by decide +kernel, by decide +kernel, by decide +kernel⟩
set_option maxRecDepth 20000 in
theorem cl_RX10_230 : ab_CV RX10 230 10 mX10_shrink 1 := ⟨⟨_, _, rfl⟩, ab_in (i := 1162) rfl rfl, ab_in (i := 1164) rfl rfl, ab_in (i := 45) rfl rfl, ab_in (i := 67) rfl rfl, ab_in (i := 1165) rfl rfl, by decide +kernel, by decide +kernel, by decide +kernel, by decide +kernel⟩
set_option maxRecDepth 20000 in
theorem cl_RX10_244 : ab_CV RX10 244 10 mX10_draw 1 := ⟨⟨_, _, rfl⟩, ab_in (i := 1182) rfl rfl, ab_in (i := 1184) rfl rfl, ab_in (i := 47) rfl rfl, ab_in (i := 67) rfl rfl, ab_in (i := 1185) rfl rfl, by decide +kernel, by decide +kernel, by decide +kernel, by decide +kernel⟩
set_option maxRecDepth 20000 in
theorem cl_RX10_247 : ab_CV RX10 247 10 mX10_drawn 0 := ⟨⟨_, _, rfl⟩, ab_in (i := 1178) rfl rfl, ab_in (i := 1180) rfl rfl, ab_in (i := 46) rfl rfl, ab_in (i := 67) rfl rfl, ab_in (i := 1181) rfl rfl, by decide +kernel, by decide +kernel, by decide +kernel, by decide +kernel⟩
set_option maxRecDepth 20000 in
theorem cl_RX10_252 : ab_CS RX10 252 mX10_times 2 := ⟨ab_in (i := 1215) rfl rfl, ab_in (i := 1216) rfl rfl, ab_in (i := 67) rfl rfl, ab_in (i := 1217) rfl rfl, by decide +kernel, by decide +kernel, by decide +kernel, by decide +kernel⟩
set_option maxRecDepth 20000 in
theorem cl_RX10_255 : ab_CV RX10 255 10 mX10_isFree 1 := ⟨⟨_, _, rfl⟩, ab_in (i := 1218) rfl rfl, ab_in (i := 1220) rfl rfl, ab_in (i := 50) rfl rfl, ab_in (i := 67) rfl rfl, ab_in (i := 1221) rfl rfl, by decide +kernel, by decide +kernel, by decide +kernel, by decide +kernel⟩
set_option maxRecDepth 20000 in
theorem cl_RX10_258 : ab_CV RX10 258 10 mX10_basketAt 2 := ⟨⟨_, _, rfl⟩, ab_in (i := 1222) rfl rfl, ab_in (i := 1224) rfl rfl, ab_in (i := 51) rfl rfl, ab_in (i := 67) rfl rfl, ab_in (i := 1225) rfl rfl, by decide +kernel, by decide +kernel, by decide +kernel, by decide +kernel⟩
set_option maxRecDepth 20000 in
theorem cl_RX10_261 : ab_CS RX10 261 mX10_limbsOf 1 := ⟨ab_in (i := 1226) rfl rfl, ab_in (i := 1227) rfl rfl, ab_in (i := 67) rfl rfl, ab_in (i := 1228) rfl rfl, by decide +kernel, by decide +kernel, by decide +kernel, by decide +kernel⟩
set_option maxRecDepth 20000 in
theorem cl_RX10_269 : ab_CV RX10 269 10 mX10_isBasket 1 := ⟨⟨_, _, rfl⟩, ab_in (i := 1211) rfl rfl, ab_in (i := 1213) rfl rfl, ab_in (i := 49) rfl rfl, ab_in (i := 67) rfl rfl, ab_in (i := 1214) rfl rfl, by decide +kernel, by decide +kernel, by decide +kernel, by decide +kernel⟩
set_option maxRecDepth 20000 in
theorem cl_RX10_272 : ab_CS RX10 272 mX10_timesOf 1 := ⟨ab_in (i := 1230) rfl rfl, ab_in (i := 1231) rfl rfl, ab_in (i := 67) rfl rfl, ab_in (i := 1232) rfl rfl, by decide +kernel, by decide +kernel, by decide +kernel, by decide +kernel⟩
set_option maxRecDepth 20000 in
theorem cl_RX10_275 : ab_CS RX10 275 mX10_isAhead 2 := ⟨ab_in (i := 1233) rfl rfl, ab_in (i := 1234) rfl rfl, ab_in (i := 67) rfl rfl, ab_in (i := 1235) rfl rfl, by decide +kernel, by decide +kernel, by decide +kernel, by decide +kernel⟩
set_option maxRecDepth 20000 in
theorem cl_RX10_278 : ab_CV RX10 278 10 mX10_findBasket 0 := ⟨⟨_, _, rfl⟩, ab_in (i := 1207) rfl rfl, ab_in (i := 1209) rfl rfl, ab_in (i := 48) rfl rfl, ab_in (i := 67) rfl rfl, ab_in (i := 1210) rfl rfl, by decide +kernel, by decide +kernel, by decide +kernel, by decide +kernel⟩
set_option maxRecDepth 20000 in
theorem cl_RX10_281 : ab_CS RX10 281 mX10_figure 3 := ⟨ab_in (i := 1248) rfl rfl, ab_in (i := 1249) rfl rfl, ab_in (i := 67) rfl rfl, ab_in (i := 1250) rfl rfl, by decide +kernel, by decide +kernel, by decide +kernel, by decide +kernel⟩
set_option maxRecDepth 20000 in
theorem cl_RX10_288 : ab_CV RX10 288 10 mX10_isRow 2 := ⟨⟨_, _, rfl⟩, ab_in (i := 1244) rfl rfl, ab_in (i := 1246) rfl rfl, ab_in (i := 53) rfl rfl, ab_in (i := 67) rfl rfl, ab_in (i := 1247) rfl rfl, by decide +kernel, by decide +kernel, by decide +kernel, by decide +kernel⟩
set_option maxRecDepth 20000 in
theorem cl_RX10_291 : ab_CV RX10 291 10 mX10_gains 3 := ⟨⟨_, _, rfl⟩, ab_in (i := 1251) rfl rfl, ab_in (i := 1253) rfl rfl, ab_in (i := 54) rfl rfl, ab_in (i := 67) rfl rfl, ab_in (i := 1254) rfl rfl, by decide +kernel, by decide +kernel, by decide +kernel, by decide +kernel⟩
set_option maxRecDepth 20000 in
theorem cl_RX10_295 : ab_CV RX10 295 10 mX10_findRing 0 := ⟨⟨_, _, rfl⟩, ab_in (i := 1240) rfl rfl, ab_in (i := 1242) rfl rfl, ab_in (i := 52) rfl rfl, ab_in (i := 67) rfl rfl, ab_in (i := 1243) rfl rfl, by decide +kernel, by decide +kernel, by decide +kernel, by decide +kernel⟩
set_option maxRecDepth 20000 in
theorem cl_RX10_298 : ab_CS RX10 298 mX10_heirOf 2 := ⟨ab_in (i := 1272) rfl rfl, ab_in (i := 1273) rfl rfl, ab_in (i := 67) rfl rfl, ab_in (i := 1274) rfl rfl, by decide +kernel, by decide +kernel, by decide +kernel, by decide +kernel⟩
set_option maxRecDepth 20000 in
theorem cl_RX10_301 : ab_CS RX10 301 mX10_apart 2 := ⟨ab_in (i := 1275) rfl rfl, ab_in (i := 1276) rfl rfl, ab_in (i := 67) rfl rfl, ab_in (i := 1277) rfl rfl, by decide +kernel, by decide +kernel, by decide +kernel, by decide +kernel⟩
set_option maxRecDepth 20000 in
theorem cl_RX10_304 : ab_CS RX10 304 mX10_bits 1 := ⟨ab_in (i := 1263) rfl rfl, ab_in (i := 1264) rfl rfl, ab_in (i := 67) rfl rfl, ab_in (i := 1265) rfl rfl, by decide +kernel, by decide +kernel, by decide +kernel, by decide +kernel⟩
set_option maxRecDepth 20000 in
theorem cl_RX10_309 : ab_CV RX10 309 10 mX10_apartBy 1 := ⟨⟨_, _, rfl⟩, ab_in (i := 1268) rfl rfl, ab_in (i := 1270) rfl rfl, ab_in (i := 55) rfl rfl, ab_in (i := 67) rfl rfl, ab_in (i := 1271) rfl rfl, by decide +kernel, by decide +kernel, by decide +kernel, by decide +kernel⟩
set_option maxRecDepth 20000 in
theorem cl_RX10_324 : ab_CV RX10 324 10 mX10_used 0 := ⟨⟨_, _, rfl⟩, ab_in (i := 1312) rfl rfl, ab_in (i := 1305) rfl rfl, ab_in (i := 1306) rfl rfl, ab_in (i := 67) rfl rfl, ab_in (i := 1307) rfl rfl, by decide +kernel, by decide +kernel, by decide +kernel, by decide +kernel⟩
set_option maxRecDepth 20000 in
theorem cl_RL_9 : ab_CI RL 9 mX9_init 0 := ⟨Or.inl (ab_in (i := 73) rfl rfl), ab_in (i := 74) rfl rfl, rfl, rfl, ab_in (i := 57) rfl rfl, ab_in (i := 75) rfl rfl, by decide +kernel, by decide +kernel, by decide +kernel, by decide +kernel⟩
set_option maxRecDepth 20000 in
theorem cl_RL_12 : ab_CI RL 12 mX10_init 0 := ⟨Or.inl (ab_in (i := 884) rfl rfl), ab_in (i := 885) rfl rfl, rfl, rfl, ab_in (i := 67) rfl rfl, ab_in (i := 886) rfl rfl, by decide +kernel, by decide +kernel, by decide +kernel, by decide +kernel⟩
set_option maxRecDepth 20000 in
theorem cl_RL_13 : ab_CV RL 13 9 mX9_feed 1 := ⟨⟨_, _, rfl⟩, ab_in (i := 360) rfl rfl, ab_in (i := 361) rfl rfl, ab_in (i := 362) rfl rfl, ab_in (i := 57) rfl rfl, ab_in (i := 363) rfl rfl, by decide +kernel, by decide +kernel, by decide +kernel, by decide +kernel⟩
set_option maxRecDepth 20000 in
theorem cl_RL_17 : ab_CV RL 17 10 mX10_feed 1 := ⟨⟨_, _, rfl⟩, ab_in (i := 1025) rfl rfl, ab_in (i := 1026) rfl rfl, ab_in (i := 1027) rfl rfl, ab_in (i := 67) rfl rfl, ab_in (i := 1028) rfl rfl, by decide +kernel, by decide +kernel, by decide +kernel, by decide +kernel⟩
set_option maxRecDepth 20000 in
theorem cl_RL_18 : ab_CV RL 18 9 mX9_port 0 := ⟨⟨_, _, rfl⟩, ab_in (i := 374) rfl rfl, ab_in (i := 375) rfl rfl, ab_in (i := 376) rfl rfl, ab_in (i := 57) rfl rfl, ab_in (i := 377) rfl rfl, by decide +kernel, by decide +kernel, by decide +kernel, by decide +kernel⟩
set_option maxRecDepth 20000 in
theorem cl_RL_22 : ab_CV RL 22 10 mX10_port 0 := ⟨⟨_, _, rfl⟩, ab_in (i := 1035) rfl rfl, ab_in (i := 1036) rfl rfl, ab_in (i := 1037) rfl rfl, ab_in (i := 67) rfl rfl, ab_in (i := 1038) rfl rfl, by decide +kernel, by decide +kernel, by decide +kernel, by decide +kernel⟩
set_option maxRecDepth 20000 in
theorem cl_RL_23 : ab_CV RL 23 9 mX9_fault 0 := ⟨⟨_, _, rfl⟩, ab_in (i := 492) rfl rfl, ab_in (i := 493) rfl rfl, ab_in (i := 494) rfl rfl, ab_in (i := 57) rfl rfl, ab_in (i := 495) rfl rfl, by decide +kernel, by decide +kernel, by decide +kernel, by decide +kernel⟩
set_option maxRecDepth 20000 in
theorem cl_RL_26 : ab_CV RL 26 10 mX10_fault 0 := ⟨⟨_, _, rfl⟩, ab_in (i := 1081) rfl rfl, ab_in (i := 1082) rfl rfl, ab_in (i := 1083) rfl rfl, ab_in (i := 67) rfl rfl, ab_in (i := 1084) rfl rfl, by decide +kernel, by decide +kernel, by decide +kernel, by decide +kernel⟩
set_option maxRecDepth 20000 in
theorem cl_RL_27 : ab_CV RL 27 9 mX9_told 1 := ⟨⟨_, _, rfl⟩, ab_in (i := 496) rfl rfl, ab_in (i := 497) rfl rfl, ab_in (i := 498) rfl rfl, ab_in (i := 57) rfl rfl, ab_in (i := 499) rfl rfl, by decide +kernel, by decide +kernel, by decide +kernel, by decide +kernel⟩
set_option maxRecDepth 20000 in
theorem cl_RL_30 : ab_CV RL 30 10 mX10_told 1 := ⟨⟨_, _, rfl⟩, ab_in (i := 1085) rfl rfl, ab_in (i := 1086) rfl rfl, ab_in (i := 1087) rfl rfl, ab_in (i := 67) rfl rfl, ab_in (i := 1088) rfl rfl, by decide +kernel, by decide +kernel, by decide +kernel, by decide +kernel⟩
set_option maxRecDepth 20000 in
theorem cl_RL_31 : ab_CV RL 31 9 mX9_limb 2 := ⟨⟨_, _, rfl⟩, ab_in (i := 523) rfl rfl, ab_in (i := 524) rfl rfl, ab_in (i := 525) rfl rfl, ab_in (i := 57) rfl rfl, ab_in (i := 526) rfl rfl, by decide +kernel, by decide +kernel, by decide +kernel, by decide +kernel⟩
set_option maxRecDepth 20000 in
theorem cl_RL_35 : ab_CV RL 35 10 mX10_limb 2 := ⟨⟨_, _, rfl⟩, ab_in (i := 1093) rfl rfl, ab_in (i := 1094) rfl rfl, ab_in (i := 1095) rfl rfl, ab_in (i := 67) rfl rfl, ab_in (i := 1096) rfl rfl, by decide +kernel, by decide +kernel, by decide +kernel, by decide +kernel⟩
set_option maxRecDepth 20000 in
theorem cl_RL_36 : ab_CV RL 36 9 mX9_contract 2 := ⟨⟨_, _, rfl⟩, ab_in (i := 565) rfl rfl, ab_in (i := 566) rfl rfl, ab_in (i := 567) rfl rfl, ab_in (i := 57) rfl rfl, ab_in (i := 568) rfl rfl, by decide +kernel, by decide +kernel, by decide +kernel, by decide +kernel⟩
set_option maxRecDepth 20000 in
theorem cl_RL_39 : ab_CV RL 39 10 mX10_contract 2 := ⟨⟨_, _, rfl⟩, ab_in (i := 1123) rfl rfl, ab_in (i := 1124) rfl rfl, ab_in (i := 1125) rfl rfl, ab_in (i := 67) rfl rfl, ab_in (i := 1126) rfl rfl, by decide +kernel, by decide +kernel, by decide +kernel, by decide +kernel⟩
set_option maxRecDepth 20000 in
theorem cl_RL_40 : ab_CV RL 40 9 mX9_rate 2 := ⟨⟨_, _, rfl⟩, ab_in (i := 577) rfl rfl, ab_in (i := 578) rfl rfl, ab_in (i := 579) rfl rfl, ab_in (i := 57) rfl rfl, ab_in (i := 580) rfl rfl, by decide +kernel, by decide +kernel, by decide +kernel, by decide +kernel⟩
set_option maxRecDepth 20000 in
theorem cl_RL_43 : ab_CV RL 43 10 mX10_rate 2 := ⟨⟨_, _, rfl⟩, ab_in (i := 1127) rfl rfl, ab_in (i := 1128) rfl rfl, ab_in (i := 1129) rfl rfl, ab_in (i := 67) rfl rfl, ab_in (i := 1130) rfl rfl, by decide +kernel, by decide +kernel, by decide +kernel, by decide +kernel⟩
set_option maxRecDepth 20000 in
theorem cl_RL_44 : ab_CV RL 44 9 mX9_season 1 := ⟨⟨_, _, rfl⟩, ab_in (i := 585) rfl rfl, ab_in (i := 586) rfl rfl, ab_in (i := 587) rfl rfl, ab_in (i := 57) rfl rfl, ab_in (i := 588) rfl rfl, by decide +kernel, by decide +kernel, by decide +kernel, by decide +kernel⟩
set_option maxRecDepth 20000 in
theorem cl_RL_47 : ab_CV RL 47 10 mX10_season 1 := ⟨⟨_, _, rfl⟩, ab_in (i := 1131) rfl rfl, ab_in (i := 1132) rfl rfl, ab_in (i := 1133) rfl rfl, ab_in (i := 67) rfl rfl, ab_in (i := 1134) rfl rfl, by decide +kernel, by decide +kernel, by decide +kernel, by decide +kernel⟩
set_option maxRecDepth 20000 in
theorem cl_RL_48 : ab_CV RL 48 9 mX9_gout 2 := ⟨⟨_, _, rfl⟩, ab_in (i := 611) rfl rfl, ab_in (i := 612) rfl rfl, ab_in (i := 613) rfl rfl, ab_in (i := 57) rfl rfl, ab_in (i := 614) rfl rfl, by decide +kernel, by decide +kernel, by decide +kernel, by decide +kernel⟩
set_option maxRecDepth 20000 in
theorem cl_RL_51 : ab_CV RL 51 10 mX10_gout 2 := ⟨⟨_, _, rfl⟩, ab_in (i := 1149) rfl rfl, ab_in (i := 1150) rfl rfl, ab_in (i := 1151) rfl rfl, ab_in (i := 67) rfl rfl, ab_in (i := 1152) rfl rfl, by decide +kernel, by decide +kernel, by decide +kernel, by decide +kernel⟩
set_option maxRecDepth 20000 in
theorem cl_RL_52 : ab_CV RL 52 9 mX9_stub 1 := ⟨⟨_, _, rfl⟩, ab_in (i := 620) rfl rfl, ab_in (i := 621) rfl rfl, ab_in (i := 622) rfl rfl, ab_in (i := 57) rfl rfl, ab_in (i := 623) rfl rfl, by decide +kernel, by decide +kernel, by decide +kernel, by decide +kernel⟩
set_option maxRecDepth 20000 in
theorem cl_RL_55 : ab_CV RL 55 10 mX10_stub 1 := ⟨⟨_, _, rfl⟩, ab_in (i := 1158) rfl rfl, ab_in (i := 1159) rfl rfl, ab_in (i := 1160) rfl rfl, ab_in (i := 67) rfl rfl, ab_in (i := 1161) rfl rfl, by decide +kernel, by decide +kernel, by decide +kernel, by decide +kernel⟩
set_option maxRecDepth 20000 in
theorem cl_RL_56 : ab_CV RL 56 9 mX9_dies 1 := ⟨⟨_, _, rfl⟩, ab_in (i := 632) rfl rfl, ab_in (i := 633) rfl rfl, ab_in (i := 634) rfl rfl, ab_in (i := 57) rfl rfl, ab_in (i := 635) rfl rfl, by decide +kernel, by decide +kernel, by decide +kernel, by decide +kernel⟩
set_option maxRecDepth 20000 in
theorem cl_RL_59 : ab_CV RL 59 10 mX10_dies 1 := ⟨⟨_, _, rfl⟩, ab_in (i := 1166) rfl rfl, ab_in (i := 1167) rfl rfl, ab_in (i := 1168) rfl rfl, ab_in (i := 67) rfl rfl, ab_in (i := 1169) rfl rfl, by decide +kernel, by decide +kernel, by decide +kernel, by decide +kernel⟩
set_option maxRecDepth 20000 in
theorem cl_RL_60 : ab_CV RL 60 9 mX9_copy 1 := ⟨⟨_, _, rfl⟩, ab_in (i := 640) rfl rfl, ab_in (i := 641) rfl rfl, ab_in (i := 642) rfl rfl, ab_in (i := 57) rfl rfl, ab_in (i := 643) rfl rfl, by decide +kernel, by decide +kernel, by decide +kernel, by decide +kernel⟩
set_option maxRecDepth 20000 in
theorem cl_RL_63 : ab_CV RL 63 10 mX10_copy 1 := ⟨⟨_, _, rfl⟩, ab_in (i := 1170) rfl rfl, ab_in (i := 1171) rfl rfl, ab_in (i := 1172) rfl rfl, ab_in (i := 67) rfl rfl, ab_in (i := 1173) rfl rfl, by decide +kernel, by decide +kernel, by decide +kernel, by decide +kernel⟩
set_option maxRecDepth 20000 in
theorem cl_RL_64 : ab_CV RL 64 9 mX9_drift 1 := ⟨⟨_, _, rfl⟩, ab_in (i := 648) rfl rfl, ab_in (i := 649) rfl rfl, ab_in (i := 650) rfl rfl, ab_in (i := 57) rfl rfl, ab_in (i := 651) rfl rfl, by decide +kernel, by decide +kernel, by decide +kernel, by decide +kernel⟩
set_option maxRecDepth 20000 in
theorem cl_RL_67 : ab_CV RL 67 10 mX10_drift 1 := ⟨⟨_, _, rfl⟩, ab_in (i := 1174) rfl rfl, ab_in (i := 1175) rfl rfl, ab_in (i := 1176) rfl rfl, ab_in (i := 67) rfl rfl, ab_in (i := 1177) rfl rfl, by decide +kernel, by decide +kernel, by decide +kernel, by decide +kernel⟩
set_option maxRecDepth 20000 in
theorem cl_RL_68 : ab_CV RL 68 9 mX9_undo 0 := ⟨⟨_, _, rfl⟩, ab_in (i := 666) rfl rfl, ab_in (i := 667) rfl rfl, ab_in (i := 668) rfl rfl, ab_in (i := 57) rfl rfl, ab_in (i := 669) rfl rfl, by decide +kernel, by decide +kernel, by decide +kernel, by decide +kernel⟩
set_option maxRecDepth 20000 in
theorem cl_RL_71 : ab_CV RL 71 10 mX10_undo 0 := ⟨⟨_, _, rfl⟩, ab_in (i := 1190) rfl rfl, ab_in (i := 1191) rfl rfl, ab_in (i := 1192) rfl rfl, ab_in (i := 67) rfl rfl, ab_in (i := 1193) rfl rfl, by decide +kernel, by decide +kernel, by decide +kernel, by decide +kernel⟩
set_option maxRecDepth 20000 in
theorem cl_RL_72 : ab_CV RL 72 9 mX9_firstNought 0 := ⟨⟨_, _, rfl⟩, ab_in (i := 674) rfl rfl, ab_in (i := 675) rfl rfl, ab_in (i := 676) rfl rfl, ab_in (i := 57) rfl rfl, ab_in (i := 677) rfl rfl, by decide +kernel, by decide +kernel, by decide +kernel, by decide +kernel⟩
set_option maxRecDepth 20000 in
theorem cl_RL_75 : ab_CV RL 75 10 mX10_firstNought 0 := ⟨⟨_, _, rfl⟩, ab_in (i := 1194) rfl rfl, ab_in (i := 1195) rfl rfl, ab_in (i := 1196) rfl rfl, ab_in (i := 67) rfl rfl, ab_in (i := 1197) rfl rfl, by decide +kernel, by decide +kernel, by decide +kernel, by decide +kernel⟩
set_option maxRecDepth 20000 in
theorem cl_RL_76 : ab_CV RL 76 9 mX9_means 2 := ⟨⟨_, _, rfl⟩, ab_in (i := 679) rfl rfl, ab_in (i := 680) rfl rfl, ab_in (i := 681) rfl rfl, ab_in (i := 57) rfl rfl, ab_in (i := 682) rfl rfl, by decide +kernel, by decide +kernel, by decide +kernel, by decide +kernel⟩
set_option maxRecDepth 20000 in
theorem cl_RL_79 : ab_CV RL 79 10 mX10_means 2 := ⟨⟨_, _, rfl⟩, ab_in (i := 1198) rfl rfl, ab_in (i := 1199) rfl rfl, ab_in (i := 1200) rfl rfl, ab_in (i := 67) rfl rfl, ab_in (i := 1201) rfl rfl, by decide +kernel, by decide +kernel, by decide +kernel, by decide +kernel⟩
set_option maxRecDepth 20000 in
theorem cl_RL_80 : ab_CV RL 80 9 mX9_basket 1 := ⟨⟨_, _, rfl⟩, ab_in (i := 683) rfl rfl, ab_in (i := 684) rfl rfl, ab_in (i := 685) rfl rfl, ab_in (i := 57) rfl rfl, ab_in (i := 686) rfl rfl, by decide +kernel, by decide +kernel, by decide +kernel, by decide +kernel⟩
set_option maxRecDepth 20000 in
theorem cl_RL_83 : ab_CV RL 83 10 mX10_basket 1 := ⟨⟨_, _, rfl⟩, ab_in (i := 1203) rfl rfl, ab_in (i := 1204) rfl rfl, ab_in (i := 1205) rfl rfl, ab_in (i := 67) rfl rfl, ab_in (i := 1206) rfl rfl, by decide +kernel, by decide +kernel, by decide +kernel, by decide +kernel⟩
set_option maxRecDepth 20000 in
theorem cl_RL_84 : ab_CV RL 84 9 mX9_ring 1 := ⟨⟨_, _, rfl⟩, ab_in (i := 703) rfl rfl, ab_in (i := 704) rfl rfl, ab_in (i := 705) rfl rfl, ab_in (i := 57) rfl rfl, ab_in (i := 706) rfl rfl, by decide +kernel, by decide +kernel, by decide +kernel, by decide +kernel⟩
set_option maxRecDepth 20000 in
theorem cl_RL_87 : ab_CV RL 87 10 mX10_ring 1 := ⟨⟨_, _, rfl⟩, ab_in (i := 1236) rfl rfl, ab_in (i := 1237) rfl rfl, ab_in (i := 1238) rfl rfl, ab_in (i := 67) rfl rfl, ab_in (i := 1239) rfl rfl, by decide +kernel, by decide +kernel, by decide +kernel, by decide +kernel⟩
set_option maxRecDepth 20000 in
theorem cl_RL_88 : ab_CV RL 88 9 mX9_mended 0 := ⟨⟨_, _, rfl⟩, ab_in (i := 715) rfl rfl, ab_in (i := 716) rfl rfl, ab_in (i := 717) rfl rfl, ab_in (i := 57) rfl rfl, ab_in (i := 718) rfl rfl, by decide +kernel, by decide +kernel, by decide +kernel, by decide +kernel⟩
set_option maxRecDepth 20000 in
theorem cl_RL_91 : ab_CV RL 91 10 mX10_mended 0 := ⟨⟨_, _, rfl⟩, ab_in (i := 1255) rfl rfl, ab_in (i := 1256) rfl rfl, ab_in (i := 1257) rfl rfl, ab_in (i := 67) rfl rfl, ab_in (i := 1258) rfl rfl, by decide +kernel, by decide +kernel, by decide +kernel, by decide +kernel⟩
set_option maxRecDepth 20000 in
theorem cl_RL_92 : ab_CV RL 92 9 mX9_heirs 1 := ⟨⟨_, _, rfl⟩, ab_in (i := 728) rfl rfl, ab_in (i := 729) rfl rfl, ab_in (i := 730) rfl rfl, ab_in (i := 57) rfl rfl, ab_in (i := 731) rfl rfl, by decide +kernel, by decide +kernel, by decide +kernel, by decide +kernel⟩
set_option maxRecDepth 20000 in
theorem cl_RL_95 : ab_CV RL 95 10 mX10_heirs 1 := ⟨⟨_, _, rfl⟩, ab_in (i := 1259) rfl rfl, ab_in (i := 1260) rfl rfl, ab_in (i := 1261) rfl rfl, ab_in (i := 67) rfl rfl, ab_in (i := 1262) rfl rfl, by decide +kernel, by decide +kernel, by decide +kernel, by decide +kernel⟩
set_option maxRecDepth 20000 in
theorem cl_RL_96 : ab_CV RL 96 9 mX9_reach 2 := ⟨⟨_, _, rfl⟩, ab_in (i := 771) rfl rfl, ab_in (i := 772) rfl rfl, ab_in (i := 773) rfl rfl, ab_in (i := 57) rfl rfl, ab_in (i := 774) rfl rfl, by decide +kernel, by decide +kernel, by decide +kernel, by decide +kernel⟩
set_option maxRecDepth 20000 in
theorem cl_RL_99 : ab_CV RL 99 10 mX10_reach 2 := ⟨⟨_, _, rfl⟩, ab_in (i := 1278) rfl rfl, ab_in (i := 1279) rfl rfl, ab_in (i := 1280) rfl rfl, ab_in (i := 67) rfl rfl, ab_in (i := 1281) rfl rfl, by decide +kernel, by decide +kernel, by decide +kernel, by decide +kernel⟩
set_option maxRecDepth 20000 in
theorem cl_RL_100 : ab_CV RL 100 9 mX9_bestCopy 2 := ⟨⟨_, _, rfl⟩, ab_in (i := 778) rfl rfl, ab_in (i := 779) rfl rfl, ab_in (i := 780) rfl rfl, ab_in (i := 57) rfl rfl, ab_in (i := 781) rfl rfl, by decide +kernel, by decide +kernel, by decide +kernel, by decide +kernel⟩
set_option maxRecDepth 20000 in
theorem cl_RL_103 : ab_CV RL 103 10 mX10_bestCopy 2 := ⟨⟨_, _, rfl⟩, ab_in (i := 1282) rfl rfl, ab_in (i := 1283) rfl rfl, ab_in (i := 1284) rfl rfl, ab_in (i := 67) rfl rfl, ab_in (i := 1285) rfl rfl, by decide +kernel, by decide +kernel, by decide +kernel, by decide +kernel⟩
set_option maxRecDepth 20000 in
theorem cl_RL_104 : ab_CV RL 104 9 mX9_nearest 1 := ⟨⟨_, _, rfl⟩, ab_in (i := 787) rfl rfl, ab_in (i := 788) rfl rfl, ab_in (i := 789) rfl rfl, ab_in (i := 57) rfl rfl, ab_in (i := 790) rfl rfl, by decide +kernel, by decide +kernel, by decide +kernel, by decide +kernel⟩
set_option maxRecDepth 20000 in
theorem cl_RL_107 : ab_CV RL 107 10 mX10_nearest 1 := ⟨⟨_, _, rfl⟩, ab_in (i := 1286) rfl rfl, ab_in (i := 1287) rfl rfl, ab_in (i := 1288) rfl rfl, ab_in (i := 67) rfl rfl, ab_in (i := 1289) rfl rfl, by decide +kernel, by decide +kernel, by decide +kernel, by decide +kernel⟩
set_option maxRecDepth 20000 in
theorem cl_RL_108 : ab_CV RL 108 9 mX9_odds 3 := ⟨⟨_, _, rfl⟩, ab_in (i := 792) rfl rfl, ab_in (i := 793) rfl rfl, ab_in (i := 794) rfl rfl, ab_in (i := 57) rfl rfl, ab_in (i := 795) rfl rfl, by decide +kernel, by decide +kernel, by decide +kernel, by decide +kernel⟩
set_option maxRecDepth 20000 in
theorem cl_RL_112 : ab_CV RL 112 10 mX10_odds 3 := ⟨⟨_, _, rfl⟩, ab_in (i := 1291) rfl rfl, ab_in (i := 1292) rfl rfl, ab_in (i := 1293) rfl rfl, ab_in (i := 67) rfl rfl, ab_in (i := 1294) rfl rfl, by decide +kernel, by decide +kernel, by decide +kernel, by decide +kernel⟩
set_option maxRecDepth 20000 in
theorem cl_RL_113 : ab_CV RL 113 9 mX9_got 2 := ⟨⟨_, _, rfl⟩, ab_in (i := 798) rfl rfl, ab_in (i := 799) rfl rfl, ab_in (i := 800) rfl rfl, ab_in (i := 57) rfl rfl, ab_in (i := 801) rfl rfl, by decide +kernel, by decide +kernel, by decide +kernel, by decide +kernel⟩
set_option maxRecDepth 20000 in
theorem cl_RL_116 : ab_CV RL 116 10 mX10_got 2 := ⟨⟨_, _, rfl⟩, ab_in (i := 1298) rfl rfl, ab_in (i := 1299) rfl rfl, ab_in (i := 1300) rfl rfl, ab_in (i := 67) rfl rfl, ab_in (i := 1301) rfl rfl, by decide +kernel, by decide +kernel, by decide +kernel, by decide +kernel⟩
set_option maxRecDepth 20000 in
theorem cl_RL_117 : ab_CV RL 117 9 mX9_used 0 := ⟨⟨_, _, rfl⟩, ab_in (i := 806) rfl rfl, ab_in (i := 807) rfl rfl, ab_in (i := 808) rfl rfl, ab_in (i := 57) rfl rfl, ab_in (i := 809) rfl rfl, by decide +kernel, by decide +kernel, by decide +kernel, by decide +kernel⟩
set_option maxRecDepth 20000 in
theorem cl_RL_120 : ab_CV RL 120 10 mX10_used 0 := ⟨⟨_, _, rfl⟩, ab_in (i := 1304) rfl rfl, ab_in (i := 1305) rfl rfl, ab_in (i := 1306) rfl rfl, ab_in (i := 67) rfl rfl, ab_in (i := 1307) rfl rfl, by decide +kernel, by decide +kernel, by decide +kernel, by decide +kernel⟩
set_option maxRecDepth 20000 in
theorem cl_RL_121 : ab_CV RL 121 9 mX9_bale 0 := ⟨⟨_, _, rfl⟩, ab_in (i := 819) rfl rfl, ab_in (i := 820) rfl rfl, ab_in (i := 821) rfl rfl, ab_in (i := 57) rfl rfl, ab_in (i := 822) rfl rfl, by decide +kernel, by decide +kernel, by decide +kernel, by decide +kernel⟩
set_option maxRecDepth 20000 in
theorem cl_RL_124 : ab_CV RL 124 10 mX10_bale 0 := ⟨⟨_, _, rfl⟩, ab_in (i := 1308) rfl rfl, ab_in (i := 1309) rfl rfl, ab_in (i := 1310) rfl rfl, ab_in (i := 67) rfl rfl, ab_in (i := 1311) rfl rfl, by decide +kernel, by decide +kernel, by decide +kernel, by decide +kernel⟩
set_option maxRecDepth 20000 in
theorem cl_RL_125 : ab_CV RL 125 9 mX9_write 2 := ⟨⟨_, _, rfl⟩, ab_in (i := 827) rfl rfl, ab_in (i := 828) rfl rfl, ab_in (i := 829) rfl rfl, ab_in (i := 57) rfl rfl, ab_in (i := 830) rfl rfl, by decide +kernel, by decide +kernel, by decide +kernel, by decide +kernel⟩
set_option maxRecDepth 20000 in
theorem cl_RL_128 : ab_CV RL 128 10 mX10_write 2 := ⟨⟨_, _, rfl⟩, ab_in (i := 1313) rfl rfl, ab_in (i := 1314) rfl rfl, ab_in (i := 1315) rfl rfl, ab_in (i := 67) rfl rfl, ab_in (i := 1316) rfl rfl, by decide +kernel, by decide +kernel, by decide +kernel, by decide +kernel⟩
set_option maxRecDepth 20000 in
theorem cl_RL_129 : ab_CV RL 129 9 mX9_tear 0 := ⟨⟨_, _, rfl⟩, ab_in (i := 835) rfl rfl, ab_in (i := 836) rfl rfl, ab_in (i := 837) rfl rfl, ab_in (i := 57) rfl rfl, ab_in (i := 838) rfl rfl, by decide +kernel, by decide +kernel, by decide +kernel, by decide +kernel⟩
set_option maxRecDepth 20000 in
theorem cl_RL_132 : ab_CV RL 132 10 mX10_tear 0 := ⟨⟨_, _, rfl⟩, ab_in (i := 1317) rfl rfl, ab_in (i := 1318) rfl rfl, ab_in (i := 1319) rfl rfl, ab_in (i := 67) rfl rfl, ab_in (i := 1320) rfl rfl, by decide +kernel, by decide +kernel, by decide +kernel, by decide +kernel⟩
set_option maxRecDepth 20000 in
theorem cl_RL_133 : ab_CV RL 133 9 mX9_judge 0 := ⟨⟨_, _, rfl⟩, ab_in (i := 839) rfl rfl, ab_in (i := 840) rfl rfl, ab_in (i := 841) rfl rfl, ab_in (i := 57) rfl rfl, ab_in (i := 842) rfl rfl, by decide +kernel, by decide +kernel, by decide +kernel, by decide +kernel⟩
set_option maxRecDepth 20000 in
theorem cl_RL_136 : ab_CV RL 136 10 mX10_judge 0 := ⟨⟨_, _, rfl⟩, ab_in (i := 1321) rfl rfl, ab_in (i := 1322) rfl rfl, ab_in (i := 1323) rfl rfl, ab_in (i := 67) rfl rfl, ab_in (i := 1324) rfl rfl, by decide +kernel, by decide +kernel, by decide +kernel, by decide +kernel⟩
set_option maxRecDepth 20000 in
theorem cl_RL_137 : ab_CV RL 137 9 mX9_seed 1 := ⟨⟨_, _, rfl⟩, ab_in (i := 847) rfl rfl, ab_in (i := 848) rfl rfl, ab_in (i := 849) rfl rfl, ab_in (i := 57) rfl rfl, ab_in (i := 850) rfl rfl, by decide +kernel, by decide +kernel, by decide +kernel, by decide +kernel⟩
set_option maxRecDepth 20000 in
theorem cl_RL_140 : ab_CV RL 140 10 mX10_seed 1 := ⟨⟨_, _, rfl⟩, ab_in (i := 1325) rfl rfl, ab_in (i := 1326) rfl rfl, ab_in (i := 1327) rfl rfl, ab_in (i := 67) rfl rfl, ab_in (i := 1328) rfl rfl, by decide +kernel, by decide +kernel, by decide +kernel, by decide +kernel⟩
set_option maxRecDepth 20000 in
theorem cl_RL_141 : ab_CV RL 141 9 mX9_keep 1 := ⟨⟨_, _, rfl⟩, ab_in (i := 859) rfl rfl, ab_in (i := 860) rfl rfl, ab_in (i := 861) rfl rfl, ab_in (i := 57) rfl rfl, ab_in (i := 862) rfl rfl, by decide +kernel, by decide +kernel, by decide +kernel, by decide +kernel⟩
set_option maxRecDepth 20000 in
theorem cl_RL_144 : ab_CV RL 144 10 mX10_keep 1 := ⟨⟨_, _, rfl⟩, ab_in (i := 1329) rfl rfl, ab_in (i := 1330) rfl rfl, ab_in (i := 1331) rfl rfl, ab_in (i := 67) rfl rfl, ab_in (i := 1332) rfl rfl, by decide +kernel, by decide +kernel, by decide +kernel, by decide +kernel⟩
set_option maxRecDepth 20000 in
theorem cl_RL_145 : ab_CV RL 145 9 mX9_goBack 1 := ⟨⟨_, _, rfl⟩, ab_in (i := 870) rfl rfl, ab_in (i := 871) rfl rfl, ab_in (i := 872) rfl rfl, ab_in (i := 57) rfl rfl, ab_in (i := 873) rfl rfl, by decide +kernel, by decide +kernel, by decide +kernel, by decide +kernel⟩
set_option maxRecDepth 20000 in
theorem cl_RL_148 : ab_CV RL 148 10 mX10_goBack 1 := ⟨⟨_, _, rfl⟩, ab_in (i := 1333) rfl rfl, ab_in (i := 1334) rfl rfl, ab_in (i := 1335) rfl rfl, ab_in (i := 67) rfl rfl, ab_in (i := 1336) rfl rfl, by decide +kernel, by decide +kernel, by decide +kernel, by decide +kernel⟩
set_option maxRecDepth 20000 in
theorem nl_RX6_9 : ab_N RX6 9 2 2 [.null, .int 0] := ⟨RX2, TX2, tyX2, rfl, uw_2, tyX2_ok, ab_in (i := 85) rfl rfl, ab_in (i := 86) rfl rfl, ab_in (i := 59) rfl rfl, by decide +kernel, by simp⟩
set_option maxRecDepth 20000 in
theorem nl_RX6_18 : ab_N RX6 18 5 13 [.int 0, .int 0, .int 0, .null, .null, .null, .null, .null, .null, .null, .null, .null, .null] := ⟨RX5, TX5, tyX5, rfl, uw_5, tyX5_ok, ab_in (i := 100) rfl rfl, ab_in (i := 101) rfl rfl, ab_in (i := 60) rfl rfl, by decide +kernel, by simp⟩
set_option maxRecDepth 20000 in
theorem nl_RX9_7 : ab_N RX9 7 6 7 [.null, .null, .null, .int 0, .int 0, .int 0, .int 0] := ⟨RX6, TX6, tyX6, rfl, uw_6, tyX6_ok, ab_in (i := 79) rfl rfl, ab_in (i := 80) rfl rfl, ab_in (i := 58) rfl rfl, by decide +kernel, by simp⟩
set_option maxRecDepth 20000 in
theorem nl_RX9_16 : ab_N RX9 16 5 13 [.int 0, .int 0, .int 0, .null, .null, .null, .null, .null, .null, .null, .null, .null, .null] := ⟨RX5, TX5, tyX5, rfl, uw_5, tyX5_ok, ab_in (i := 201) rfl rfl, ab_in (i := 101) rfl rfl, ab_in (i := 60) rfl rfl, by decide +kernel, by simp⟩
set_option maxRecDepth 20000 in
theorem nl_RX9_23 : ab_N RX9 23 8 1 [.null] := ⟨RX8, TX8, tyX8, rfl, uw_8, tyX8_ok, ab_in (i := 203) rfl rfl, ab_in (i := 204) rfl rfl, ab_in (i := 61) rfl rfl, by decide +kernel, by simp⟩
set_option maxRecDepth 20000 in
theorem nl_RX9_30 : ab_N RX9 30 4 5 [.null, .null, .int 0, .int 0, .int 0] := ⟨RX4, TX4, tyX4, rfl, uw_4, tyX4_ok, ab_in (i := 214) rfl rfl, ab_in (i := 215) rfl rfl, ab_in (i := 62) rfl rfl, by decide +kernel, by simp⟩
set_option maxRecDepth 20000 in
theorem nl_RX9_37 : ab_N RX9 37 3 6 [.null, .null, .null, .null, .int 0, .int 0] := ⟨RX3, TX3, tyX3, rfl, uw_3, tyX3_ok, ab_in (i := 237) rfl rfl, ab_in (i := 238) rfl rfl, ab_in (i := 63) rfl rfl, by decide +kernel, by simp⟩
set_option maxRecDepth 20000 in
theorem nl_RX9_44 : ab_N RX9 44 0 8 [.null, .null, .null, .null, .null, .int 0, .int 0, .int 0] := ⟨RX0, TX0, tyX0, rfl, uw_0, tyX0_ok, ab_in (i := 264) rfl rfl, ab_in (i := 265) rfl rfl, ab_in (i := 64) rfl rfl, by decide +kernel, by simp⟩
set_option maxRecDepth 20000 in
theorem nl_RX9_51 : ab_N RX9 51 7 2 [.null, .int 0] := ⟨RX7, TX7, tyX7, rfl, uw_7, tyX7_ok, ab_in (i := 297) rfl rfl, ab_in (i := 298) rfl rfl, ab_in (i := 65) rfl rfl, by decide +kernel, by simp⟩
set_option maxRecDepth 20000 in
theorem nl_RX9_58 : ab_N RX9 58 1 4 [.null, .null, .null, .int 0] := ⟨RX1, TX1, tyX1, rfl, uw_1, tyX1_ok, ab_in (i := 312) rfl rfl, ab_in (i := 313) rfl rfl, ab_in (i := 66) rfl rfl, by decide +kernel, by simp⟩
set_option maxRecDepth 20000 in
theorem nl_RL_7 : ab_N RL 7 9 9 [.null, .null, .null, .null, .null, .null, .null, .null, .int 0] := ⟨RX9, TX9, tyX9, rfl, uw_9, tyX9_ok, ab_in (i := 71) rfl rfl, ab_in (i := 72) rfl rfl, ab_in (i := 57) rfl rfl, by decide +kernel, by simp⟩
set_option maxRecDepth 20000 in
theorem nl_RL_10 : ab_N RL 10 10 45 [.int 0, .null, .null, .int 0, .null, .null, .null, .int 0, .null, .null, .null, .null, .null, .int 0, .null, .int 0, .int 0, .int 0, .int 0, .int 0, .int 0, .null, .null, .null, .int 0, .null, .null, .null, .int 0, .null, .null, .null, .null, .int 0, .null, .int 0, .int 0, .int 0, .null, .null, .int 0, .null, .null, .null, .null] := ⟨RX10, TX10, tyX10, rfl, uw_10, tyX10_ok, ab_in (i := 882) rfl rfl, ab_in (i := 883) rfl rfl, ab_in (i := 67) rfl rfl, by decide +kernel, by simp⟩
end
section
/-! THE STATE: all ints and all arrays of both objects, by number; the heap that it is -/
abbrev AI : Type := Nat → Int32
abbrev AF : Type := Nat → Nat → Int32
abbrev AQ : Type := Option (Int32 × AI × AF)
def hp (I : AI) (F : AF) : AH := [.inr (9, [.ref 1, .ref 16, .ref 27, .ref 29, .ref 32, .ref 37, .ref 43, .ref 45, .int (I 0)]), .inr (6, [.ref 2, .ref 4, .ref 15, .int (I 1), .int (I 2), .int (I 3), .int (I 4)]), .inr (2, [.ref 3, .int (I 5)]), .inl (0, 250, F 0), .inr (5, [.int (I 6), .int (I 7), .int (I 8), .ref 5, .ref 6, .ref 7, .ref 8, .ref 9, .ref 10, .ref 11, .ref 12, .ref 13, .ref 14]), .inl (0, 6, F 1), .inl (0, 24, F 2), .inl (0, 6, F 3), .inl (0, 6, F 4), .inl (0, 6, F 5), .inl (0, 6, F 6), .inl (0, 8, F 7), .inl (0, 8, F 8), .inl (0, 8, F 9), .inl (0, 8, F 10), .inl (0, 5, F 11), .inr (5, [.int (I 9), .int (I 10), .int (I 11), .ref 17, .ref 18, .ref 19, .ref 20, .ref 21, .ref 22, .ref 23, .ref 24, .ref 25, .ref 26]), .inl (0, 6, F 12), .inl (0, 24, F 13), .inl (0, 6, F 14), .inl (0, 6, F 15), .inl (0, 6, F 16), .inl (0, 6, F 17), .inl (0, 8, F 18), .inl (0, 8, F 19), .inl (0, 8, F 20), .inl (0, 8, F 21), .inr (8, [.ref 28]), .inl (0, 21, F 22), .inr (4, [.ref 30, .ref 31, .int (I 12), .int (I 13), .int (I 14)]), .inl (0, 400, F 23), .inl (0, 42, F 24), .inr (3, [.ref 33, .ref 34, .ref 35, .ref 36, .int (I 15), .int (I 16)]), .inl (0, 8, F 25), .inl (0, 8, F 26), .inl (0, 15, F 27), .inl (0, 15, F 28), .inr (0, [.ref 38, .ref 39, .ref 40, .ref 41, .ref 42, .int (I 17), .int (I 18), .int (I 19)]), .inl (0, 6, F 29), .inl (0, 6, F 30), .inl (0, 6, F 31), .inl (0, 6, F 32), .inl (0, 6, F 33), .inr (7, [.ref 44, .int (I 20)]), .inl (0, 4, F 34), .inr (1, [.ref 46, .ref 47, .ref 48, .int (I 21)]), .inl (0, 64, F 35), .inl (0, 6, F 36), .inl (0, 6, F 37), .inr (10, [.int (I 22), .ref 50, .ref 51, .int (I 23), .ref 52, .ref 53, .ref 54, .int (I 24), .ref 55, .ref 56, .ref 57, .ref 58, .ref 59, .int (I 25), .ref 60, .int (I 26), .int (I 27), .int (I 28), .int (I 29), .int (I 30), .int (I 31), .ref 61, .ref 62, .ref 63, .int (I 32), .ref 64, .ref 65, .ref 66, .int (I 33), .ref 67, .ref 68, .ref 69, .ref 70, .int (I 34), .ref 71, .int (I 35), .int (I 36), .int (I 37), .ref 72, .ref 73, .int (I 38), .ref 74, .ref 75, .ref 76, .ref 77]), .inl (0, 24, F 38), .inl (0, 6, F 39), .inl (0, 6, F 40), .inl (0, 6, F 41), .inl (0, 6, F 42), .inl (0, 8, F 43), .inl (0, 8, F 44), .inl (0, 8, F 45), .inl (0, 8, F 46), .inl (0, 22, F 47), .inl (0, 250, F 48), .inl (0, 6, F 49), .inl (0, 24, F 50), .inl (0, 6, F 51), .inl (0, 6, F 52), .inl (0, 6, F 53), .inl (0, 6, F 54), .inl (0, 8, F 55), .inl (0, 8, F 56), .inl (0, 8, F 57), .inl (0, 8, F 58), .inl (0, 440, F 59), .inl (0, 8, F 60), .inl (0, 8, F 61), .inl (0, 15, F 62), .inl (0, 15, F 63), .inl (0, 46, F 64), .inl (1, 2, F 65)]
def ab_lt {α : Type} (e : α) (g : α → AQ) : AQ := g e
def ab_bd (o : AQ) (g : Int32 → AI → AF → AQ) : AQ := match o with
  | some (r, I, F) => g r I F
  | none => none
def ab_fu : Nat := 100000
def ab_vin (i : Int32) (n : Nat) : Bool := !(decide (i < 0) || decide (n ≤ i.toNatClampNeg))
theorem ab_vo {i : Int32} {n : Nat} (h : ab_vin i n = true) : vp_in i n := by
  intro q
  simp only [ab_vin, Bool.not_eq_true', Bool.or_eq_false_iff, decide_eq_false_iff_not] at h
  rcases q with q | q
  · exact h.1 q
  · exact h.2 q
def ab_nz (y : Int32) : Bool := !(decide (y = 0))
theorem ab_nzo {y : Int32} (h : ab_nz y = true) : ¬ y = 0 := by simpa [ab_nz] using h
def ab_bt (x : Int32) : Bool := decide (x = 0) || decide (x = 1)
theorem ab_bto {x : Int32} (h : ab_bt x = true) : x = 0 ∨ x = 1 := by simpa [ab_bt] using h
def ab_cg (sp dp n : Int32) (n0 n1 : Nat) : Bool := !(decide (sp < 0)) && !(decide (dp < 0)) && !(decide (n < 0)) && decide (sp.toNatClampNeg + n.toNatClampNeg ≤ n0) && decide (dp.toNatClampNeg + n.toNatClampNeg ≤ n1)
theorem ab_cgo {sp dp n : Int32} {n0 n1 : Nat} {P : Prop} (h : ab_cg sp dp n n0 n1 = true) (hP : P) : ¬ sp < 0 ∧ ¬ dp < 0 ∧ ¬ n < 0 ∧ sp.toNatClampNeg + n.toNatClampNeg ≤ n0 ∧ dp.toNatClampNeg + n.toNatClampNeg ≤ n1 ∧ P := by
  simp only [ab_cg, Bool.and_eq_true, Bool.not_eq_true', decide_eq_false_iff_not, decide_eq_true_eq] at h
  exact ⟨h.1.1.1.1, h.1.1.1.2, h.1.1.2, h.1.2, h.2, hP⟩
/-! the rules, of ab_E -/
theorem ab_Es {X : AX} {d k n : Nat} {M : MI} {R : AR} (hok : ab_ok M) : ∀ (j : Nat) (S S' : AS) (C : Prop), ab_iter X M j S = some (S', C) → C → ab_E X d k n M S' R → ab_E X d k n M S R
  | 0, S, S', C, h, _, hE => by
    cases h
    exact hE
  | j + 1, S, S', C, h, hC, hE => by
    intro P hP
    unfold ab_iter at h
    split at h
    · next e he =>
      split at h
      · next S1 C1 hs =>
        split at h
        · next S2 C2 hi =>
          cases h
          exact hP.1 X d k n M S R e S1 C1 hok he hs hC.1 (ab_Es hok j S1 _ C2 hi hC.2 hE P hP)
        · cases h
      · cases h
    · cases h
theorem ab_Ecv {X : AX} {d k n d1 k1 n1 k2 n2 : Nat} {M M' : MI} {R : AR} {pc : Nat} {lv : List (Nat × Value)} {As rest : List Value} {h h1 : AH} {v : Option Value} {e : AE} {idx ci a c0 : Nat} {f0 : List Value} (a1 : ab_ok M) (a2 : ab_ok M') (a3 : ab_lk M.2.2.2.2 pc = some e) (a4 : e.1 = .invokevirtual idx) (a5 : ab_CV M.1.cls idx ci M' As.length) (a6 : ab_nt h a = some (.inr (c0, f0))) (a7 : c0 = ci)
    (a8 : (lg_sl (Value.ref a :: As)).length ≤ M'.2.2.1) (a9 : d1 + 1 ≤ d) (b1 : k1 + k2 ≤ k) (b2 : n1 + n2 ≤ n) (b3 : (rest.map fun v => v.category).sum ≤ 8) (b4 : h.length ≤ h1.length) (b5 : k1 = 0 ∨ (ab_wl h.length lv = true ∧ ab_ws h.length rest = true)) (b6 : ab_vi v)
    (b7 : ab_E none d1 k1 n1 M' (0, ab_lz 0 (Value.ref a :: As), [], h) (v, h1)) (b8 : ab_E X d k2 n2 M (pc + 3, lv, v.toList ++ rest, h1) R) : ab_E X d k n M (pc, lv, As.reverse ++ .ref a :: rest, h) R :=
  fun P hP => hP.2.2.1 X d k n d1 k1 n1 k2 n2 M M' R pc lv As rest h h1 v e idx ci a c0 f0 a1 a2 a3 a4 a5 a6 a7 a8 a9 b1 b2 b3 b4 b5 b6 (b7 P hP) (b8 P hP)
theorem ab_Ecs {X : AX} {d k n d1 k1 n1 k2 n2 : Nat} {M M' : MI} {R : AR} {pc : Nat} {lv : List (Nat × Value)} {As rest : List Value} {h h1 : AH} {v : Option Value} {e : AE} {idx : Nat} (a1 : ab_ok M) (a2 : ab_ok M') (a3 : ab_lk M.2.2.2.2 pc = some e) (a4 : e.1 = .invokestatic idx) (a5 : ab_CS M.1.cls idx M' As.length)
    (a8 : (lg_sl As).length ≤ M'.2.2.1) (a9 : d1 + 1 ≤ d) (b1 : k1 + k2 ≤ k) (b2 : n1 + n2 ≤ n) (b3 : (rest.map fun v => v.category).sum ≤ 8) (b4 : h.length ≤ h1.length) (b5 : k1 = 0 ∨ (ab_wl h.length lv = true ∧ ab_ws h.length rest = true)) (b6 : ab_vi v)
    (b7 : ab_E none d1 k1 n1 M' (0, ab_lz 0 As, [], h) (v, h1)) (b8 : ab_E X d k2 n2 M (pc + 3, lv, v.toList ++ rest, h1) R) : ab_E X d k n M (pc, lv, As.reverse ++ rest, h) R :=
  fun P hP => hP.2.2.2.1 X d k n d1 k1 n1 k2 n2 M M' R pc lv As rest h h1 v e idx a1 a2 a3 a4 a5 a8 a9 b1 b2 b3 b4 b5 b6 (b7 P hP) (b8 P hP)
theorem ab_Eci {X : AX} {d k n d1 k1 n1 k2 n2 : Nat} {M M' : MI} {R : AR} {pc : Nat} {lv : List (Nat × Value)} {As rest : List Value} {h h1 : AH} {e : AE} {idx a : Nat} (a1 : ab_ok M) (a2 : ab_ok M') (a3 : ab_lk M.2.2.2.2 pc = some e) (a4 : e.1 = .invokespecial idx) (a5 : ab_CI M.1.cls idx M' As.length)
    (a8 : (lg_sl (Value.ref a :: As)).length ≤ M'.2.2.1) (a9 : d1 + 1 ≤ d) (b1 : k1 + k2 ≤ k) (b2 : n1 + n2 ≤ n) (b3 : (rest.map fun v => v.category).sum ≤ 8) (b4 : h.length ≤ h1.length) (b5 : k1 = 0 ∨ (ab_wl h.length lv = true ∧ ab_ws h.length rest = true))
    (b7 : ab_E none d1 k1 n1 M' (0, ab_lz 0 (Value.ref a :: As), [], h) (none, h1)) (b8 : ab_E X d k2 n2 M (pc + 3, lv, rest, h1) R) : ab_E X d k n M (pc, lv, As.reverse ++ .ref a :: rest, h) R :=
  fun P hP => hP.2.2.2.2.1 X d k n d1 k1 n1 k2 n2 M M' R pc lv As rest h h1 e idx a a1 a2 a3 a4 a5 a8 a9 b1 b2 b3 b4 b5 (b7 P hP) (b8 P hP)
theorem ab_En {X : AX} {d k n k2 n2 : Nat} {M : MI} {R : AR} {pc : Nat} {lv : List (Nat × Value)} {st : List Value} {h : AH} {e : AE} {idx ci N : Nat} {fs : List Value} (a1 : ab_ok M) (a2 : ab_lk M.2.2.2.2 pc = some e) (a3 : e.1 = .new idx) (a4 : ab_N M.1.cls idx ci N fs) (a5 : ab_wf (pc, lv, st, h) = true) (a6 : k2 + 1 ≤ k) (a7 : n2 + N ≤ n)
    (a8 : ab_E X d k2 n2 M (pc + 3, lv, .ref h.length :: st, h ++ [.inr (ci, fs)]) R) : ab_E X d k n M (pc, lv, st, h) R :=
  fun P hP => hP.2.2.2.2.2.1 X d k n k2 n2 M R pc lv st h e idx ci N fs a1 a2 a3 a4 a5 a6 a7 (a8 P hP)
theorem ab_Ea {X : AX} {d k n k2 n2 : Nat} {M : MI} {R : AR} {pc : Nat} {lv : List (Nat × Value)} {st : List Value} {h : AH} {e : AE} {t : Nat} {ty : ArrayType} {N : Nat} {x : Int32} (a1 : ab_ok M) (a2 : ab_lk M.2.2.2.2 pc = some e) (a3 : e.1 = .newarray ty) (a4 : (ty = .int ∧ t = 0) ∨ (ty = .boolean ∧ t = 1)) (a5 : ab_wf (pc, lv, st, h) = true) (a6 : ¬ x < 0) (a7 : x.toNatClampNeg = N) (a8 : N ≤ 1000) (a9 : k2 + 1 ≤ k) (b1 : n2 + N ≤ n)
    (b2 : ab_E X d k2 n2 M (pc + 2, lv, .ref h.length :: st, h ++ [.inl (t, N, fun _ => 0)]) R) : ab_E X d k n M (pc, lv, .int x :: st, h) R :=
  fun P hP => hP.2.2.2.2.2.2.1 X d k n k2 n2 M R pc lv st h e t ty N x a1 a2 a3 a4 a5 a6 a7 a8 a9 b1 (b2 P hP)
theorem ab_Ep {X : AX} {d k n : Nat} {M : MI} {R : AR} {pc : Nat} {lv lv' : List (Nat × Value)} {st : List Value} {h : AH} (ks : List Nat) (a1 : lv_pick lv ks = lv') (a2 : ab_E X d k n M (pc, lv', st, h) R) : ab_E X d k n M (pc, lv, st, h) R :=
  fun P hP => hP.2.2.2.2.2.2.2 X d k n M R pc lv lv' st h ks a1 (a2 P hP)
theorem ab_Er {X : AX} {d k n : Nat} {M : MI} {pc : Nat} {lv : List (Nat × Value)} {v : Option Value} {h : AH} {e : AE} (a1 : ab_ok M) (a2 : ab_lk M.2.2.2.2 pc = some e) (a3 : ab_rt M e.1 v) : ab_E X d k n M (pc, lv, v.toList, h) (v, h) :=
  fun P hP => hP.2.1 X d k n M pc lv v h e a1 a2 a3
/-! what a method's function says of it -/
def OK (d : Nat) (M : MI) (b : Bool) (o : AQ) (S : AS) : Prop := ∀ r I F, o = some (r, I, F) → ab_E none d 0 0 M S (bif b then some (.int r) else none, hp I F)
theorem OK_no {d : Nat} {M : MI} {b : Bool} {S : AS} : OK d M b none S := fun _ _ _ h => by cases h
theorem OK_st {d : Nat} {M : MI} {b : Bool} {o : AQ} {S S' : AS} {C : Prop} (j : Nat) (hok : ab_ok M) (h : ab_iter none M j S = some (S', C)) (hC : C) (hO : OK d M b o S') : OK d M b o S := fun r I F e => ab_Es hok j S S' C h hC (hO r I F e)
theorem OK_if {d : Nat} {M : MI} {b : Bool} {o1 o2 : AQ} {c : Prop} [Decidable c] {x y : Nat} {lv : List (Nat × Value)} {st : List Value} {h : AH} (h1 : c → OK d M b o1 (x, lv, st, h)) (h2 : ¬ c → OK d M b o2 (y, lv, st, h)) : OK d M b (if c then o1 else o2) (if c then x else y, lv, st, h) := by
  by_cases q : c
  · rw [if_pos q, if_pos q]; exact h1 q
  · rw [if_neg q, if_neg q]; exact h2 q
theorem OK_ci {d : Nat} {M : MI} {b : Bool} {o1 o2 : AQ} {c : Prop} [Decidable c] {S : AS} (h1 : c → OK d M b o1 S) (h2 : ¬ c → OK d M b o2 S) : OK d M b (if c then o1 else o2) S := by
  by_cases q : c
  · rw [if_pos q]; exact h1 q
  · rw [if_neg q]; exact h2 q
theorem OK_gd {d : Nat} {M : MI} {b : Bool} {o : AQ} {g : Bool} {S : AS} (h1 : g = true → OK d M b o S) : OK d M b (bif g then o else none) S := by
  cases g with
  | true => exact h1 rfl
  | false => exact OK_no
theorem OK_lt {d : Nat} {M : MI} {b : Bool} {α : Type} {e : α} {g : α → AQ} (S : α → AS) (h : ∀ x, OK d M b (g x) (S x)) : OK d M b (ab_lt e g) (S e) := h e
theorem OK_pk {d : Nat} {M : MI} {b : Bool} {o : AQ} {pc : Nat} {lv lv' : List (Nat × Value)} {st : List Value} {h : AH} (ks : List Nat) (a1 : lv_pick lv ks = lv') (a2 : OK d M b o (pc, lv', st, h)) : OK d M b o (pc, lv, st, h) := fun r I F e => ab_Ep ks a1 (a2 r I F e)
theorem OK_pc {d : Nat} {M : MI} {b : Bool} {o : AQ} {pc pc' : Nat} {lv : List (Nat × Value)} {st : List Value} {h : AH} (e : pc = pc') (a : OK d M b o (pc', lv, st, h)) : OK d M b o (pc, lv, st, h) := by rw [e]; exact a
theorem OK_ri {d : Nat} {M : MI} {r : Int32} {I : AI} {F : AF} {pc : Nat} {lv : List (Nat × Value)} {e : AE} (hok : ab_ok M) (hlk : ab_lk M.2.2.2.2 pc = some e) (he : e.1 = .ireturn) (hr : M.2.2.2.1 = some .int ∨ (M.2.2.2.1 = some .boolean ∧ (r = 0 ∨ r = 1))) : OK d M true (some (r, I, F)) (pc, lv, [.int r], hp I F) := fun r' I' F' q => by
  cases q
  exact ab_Er (v := some (.int r)) hok hlk ⟨he, hr⟩
theorem OK_rv {d : Nat} {M : MI} {r : Int32} {I : AI} {F : AF} {pc : Nat} {lv : List (Nat × Value)} {e : AE} (hok : ab_ok M) (hlk : ab_lk M.2.2.2.2 pc = some e) (he : e.1 = .return_) (hr : M.2.2.2.1 = none) : OK d M false (some (r, I, F)) (pc, lv, [], hp I F) := fun r' I' F' q => by
  cases q
  exact ab_Er (v := none) hok hlk ⟨he, hr⟩
theorem OK_cv {d d1 : Nat} {M M' : MI} {b b' : Bool} {o : AQ} {g : Int32 → AI → AF → AQ} {I : AI} {F : AF} {pc : Nat} {lv : List (Nat × Value)} (As rest : List Value) {e : AE} {idx ci a c0 : Nat} {f0 : List Value} (a1 : ab_ok M) (a2 : ab_ok M') (a3 : ab_lk M.2.2.2.2 pc = some e) (a4 : e.1 = .invokevirtual idx) (a5 : ab_CV M.1.cls idx ci M' As.length) (a6 : ab_nt (hp I F) a = some (.inr (c0, f0))) (a7 : c0 = ci)
    (a8 : (lg_sl (Value.ref a :: As)).length ≤ M'.2.2.1) (a9 : d1 + 1 ≤ d) (b3 : (rest.map fun v => v.category).sum ≤ 8)
    (b7 : OK d1 M' b' o (0, ab_lz 0 (Value.ref a :: As), [], hp I F)) (b8 : ∀ r I' F', OK d M b (g r I' F') (pc + 3, lv, (bif b' then [.int r] else []) ++ rest, hp I' F')) : OK d M b (ab_bd o g) (pc, lv, As.reverse ++ .ref a :: rest, hp I F) := by
  intro r I2 F2 q
  match o, b7, q with
  | some (r1, I1, F1), b7, q =>
    have k7 := b7 r1 I1 F1 rfl
    have k8 := b8 r1 I1 F1 r I2 F2 q
    cases b' with
    | true => exact ab_Ecv (h1 := hp I1 F1) (v := some (.int r1)) a1 a2 a3 a4 a5 a6 a7 a8 a9 (Nat.le_refl 0) (Nat.le_refl 0) b3 (Nat.le_refl _) (Or.inl rfl) trivial k7 k8
    | false => exact ab_Ecv (h1 := hp I1 F1) (v := none) a1 a2 a3 a4 a5 a6 a7 a8 a9 (Nat.le_refl 0) (Nat.le_refl 0) b3 (Nat.le_refl _) (Or.inl rfl) trivial k7 k8
  | none, _, q => cases q
theorem OK_cs {d d1 : Nat} {M M' : MI} {b b' : Bool} {o : AQ} {g : Int32 → AI → AF → AQ} {I : AI} {F : AF} {pc : Nat} {lv : List (Nat × Value)} (As rest : List Value) {e : AE} {idx : Nat} (a1 : ab_ok M) (a2 : ab_ok M') (a3 : ab_lk M.2.2.2.2 pc = some e) (a4 : e.1 = .invokestatic idx) (a5 : ab_CS M.1.cls idx M' As.length)
    (a8 : (lg_sl As).length ≤ M'.2.2.1) (a9 : d1 + 1 ≤ d) (b3 : (rest.map fun v => v.category).sum ≤ 8)
    (b7 : OK d1 M' b' o (0, ab_lz 0 As, [], hp I F)) (b8 : ∀ r I' F', OK d M b (g r I' F') (pc + 3, lv, (bif b' then [.int r] else []) ++ rest, hp I' F')) : OK d M b (ab_bd o g) (pc, lv, As.reverse ++ rest, hp I F) := by
  intro r I2 F2 q
  match o, b7, q with
  | some (r1, I1, F1), b7, q =>
    have k7 := b7 r1 I1 F1 rfl
    have k8 := b8 r1 I1 F1 r I2 F2 q
    cases b' with
    | true => exact ab_Ecs (h1 := hp I1 F1) (v := some (.int r1)) a1 a2 a3 a4 a5 a8 a9 (Nat.le_refl 0) (Nat.le_refl 0) b3 (Nat.le_refl _) (Or.inl rfl) trivial k7 k8
    | false => exact ab_Ecs (h1 := hp I1 F1) (v := none) a1 a2 a3 a4 a5 a8 a9 (Nat.le_refl 0) (Nat.le_refl 0) b3 (Nat.le_refl _) (Or.inl rfl) trivial k7 k8
  | none, _, q => cases q
end
section
/-! methods as functions (by program) -/
def f_X2_isFull (I : AI) (F : AF) : AQ :=
  if (I 5) < (250 : Int32) then
    some ((0 : Int32), I, F)
  else
    some ((1 : Int32), I, F)
set_option maxRecDepth 20000 in
set_option maxHeartbeats 4000000 in
theorem kf_X2_isFull (I : AI) (F : AF) : OK 0 mX2_isFull true (f_X2_isFull I F) (0, [(0, .ref 2)], [], hp I F) := by
  rw [f_X2_isFull]
  refine OK_st 4 okX2_isFull (S' := ((if (I 5) < (250 : Int32) then 14 else 10), [(0, .ref 2)], [], hp I F)) rfl ⟨trivial, trivial, trivial, trivial, trivial⟩ ?_
  refine OK_if (fun h3 => ?_) (fun h3 => ?_)
  · refine OK_st 1 okX2_isFull (S' := (15, [(0, .ref 2)], [.int (0 : Int32)], hp I F)) rfl ⟨trivial, trivial⟩ ?_
    exact OK_ri okX2_isFull rfl rfl (Or.inr ⟨rfl, Or.inl rfl⟩)
  · refine OK_st 2 okX2_isFull (S' := (15, [(0, .ref 2)], [.int (1 : Int32)], hp I F)) rfl ⟨trivial, trivial, trivial⟩ ?_
    exact OK_ri okX2_isFull rfl rfl (Or.inr ⟨rfl, Or.inr rfl⟩)

def f_X2_append (v1 : Int32) (I : AI) (F : AF) : AQ :=
  if (250 : Int32) ≤ (I 5) then
    some ((I 5), I, F)
  else
    bif ab_vin (I 5) 250 then
      some (((I 5) + (1 : Int32)), (va_up I 5 ((I 5) + (1 : Int32))), (va_up F 0 (upd (F 0) (I 5).toNatClampNeg v1)))
    else none
set_option maxRecDepth 20000 in
set_option maxHeartbeats 4000000 in
theorem kf_X2_append (v1 : Int32) (I : AI) (F : AF) : OK 0 mX2_append true (f_X2_append v1 I F) (0, [(0, .ref 2), (1, .int v1)], [], hp I F) := by
  rw [f_X2_append]
  refine OK_st 4 okX2_append (S' := ((if (250 : Int32) ≤ (I 5) then 30 else 10), [(0, .ref 2), (1, .int v1)], [], hp I F)) rfl ⟨trivial, trivial, trivial, trivial, trivial⟩ ?_
  refine OK_if (fun h8 => ?_) (fun h8 => ?_)
  · refine OK_st 2 okX2_append (S' := (34, [(0, .ref 2), (1, .int v1)], [.int (I 5)], hp I F)) rfl ⟨trivial, trivial, trivial⟩ ?_
    exact OK_ri okX2_append rfl rfl (Or.inl rfl)
  · refine OK_gd (fun g9 => ?_)
    refine OK_st 14 okX2_append (S' := (34, [(0, .ref 2), (1, .int v1)], [.int ((I 5) + (1 : Int32))], hp (va_up I 5 ((I 5) + (1 : Int32))) (va_up F 0 (upd (F 0) (I 5).toNatClampNeg v1)))) rfl ⟨trivial, trivial, trivial, trivial, trivial, (ab_vo g9), trivial, rfl, trivial, trivial, trivial, trivial, trivial, trivial, trivial⟩ ?_
    exact OK_ri okX2_append rfl rfl (Or.inl rfl)

def f_X9_feed (v1 : Int32) (I : AI) (F : AF) : AQ :=
  if v1 < 0 then
    some ((-1000000002 : Int32), I, F)
  else
    if v1 ≤ (255 : Int32) then
      ab_bd (f_X2_isFull I F) (fun r4 I5 F6 =>
        if r4 = 0 then
          ab_bd (f_X2_append v1 I5 F6) (fun r10 I11 F12 =>
            some (r10, I11, F12))
        else
          some ((-1000000004 : Int32), I5, F6))
    else
      some ((-1000000002 : Int32), I, F)
set_option maxRecDepth 20000 in
set_option maxHeartbeats 4000000 in
theorem kf_X9_feed (v1 : Int32) (I : AI) (F : AF) : OK 1 mX9_feed true (f_X9_feed v1 I F) (0, [(0, .ref 0), (1, .int v1)], [], hp I F) := by
  rw [f_X9_feed]
  refine OK_st 2 okX9_feed (S' := ((if v1 < 0 then 11 else 4), [(0, .ref 0), (1, .int v1)], [], hp I F)) rfl ⟨trivial, trivial, trivial⟩ ?_
  refine OK_if (fun h1 => ?_) (fun h1 => ?_)
  · refine OK_st 1 okX9_feed (S' := (13, [(0, .ref 0), (1, .int v1)], [.int (-1000000002 : Int32)], hp I F)) rfl ⟨trivial, trivial⟩ ?_
    exact OK_ri okX9_feed rfl rfl (Or.inl rfl)
  · refine OK_st 3 okX9_feed (S' := ((if v1 ≤ (255 : Int32) then 14 else 11), [(0, .ref 0), (1, .int v1)], [], hp I F)) rfl ⟨trivial, trivial, trivial, trivial⟩ ?_
    refine OK_if (fun h2 => ?_) (fun h2 => ?_)
    · refine OK_st 3 okX9_feed (S' := (21, [(0, .ref 0), (1, .int v1)], [.ref 2], hp I F)) rfl ⟨trivial, trivial, trivial, trivial⟩ ?_
      refine OK_cv [] [] okX9_feed okX2_isFull rfl rfl cl_RX9_74 rfl rfl (Nat.le_of_ble_eq_true rfl) (by decide) (Nat.le_of_ble_eq_true rfl) (kf_X2_isFull I F) (fun r4 I5 F6 => ?_)
      refine OK_st 1 okX9_feed (S' := ((if r4 = 0 then 30 else 27), [(0, .ref 0), (1, .int v1)], [], hp I5 F6)) rfl ⟨trivial, trivial⟩ ?_
      refine OK_if (fun h7 => ?_) (fun h7 => ?_)
      · refine OK_st 4 okX9_feed (S' := (38, [(0, .ref 0), (1, .int v1)], [.int v1, .ref 2], hp I5 F6)) rfl ⟨trivial, trivial, trivial, trivial, trivial⟩ ?_
        refine OK_cv [.int v1] [] okX9_feed okX2_append rfl rfl cl_RX9_81 rfl rfl (Nat.le_of_ble_eq_true rfl) (by decide) (Nat.le_of_ble_eq_true rfl) (kf_X2_append v1 I5 F6) (fun r10 I11 F12 => ?_)
        exact OK_ri okX9_feed rfl rfl (Or.inl rfl)
      · refine OK_st 1 okX9_feed (S' := (29, [(0, .ref 0), (1, .int v1)], [.int (-1000000004 : Int32)], hp I5 F6)) rfl ⟨trivial, trivial⟩ ?_
        exact OK_ri okX9_feed rfl rfl (Or.inl rfl)
    · refine OK_st 1 okX9_feed (S' := (13, [(0, .ref 0), (1, .int v1)], [.int (-1000000002 : Int32)], hp I F)) rfl ⟨trivial, trivial⟩ ?_
      exact OK_ri okX9_feed rfl rfl (Or.inl rfl)

def f_X5_clearAll (I : AI) (F : AF) : AQ :=
  some (0, (va_up (va_up (va_up I 6 (0 : Int32)) 7 (0 : Int32)) 8 (0 : Int32)), F)
set_option maxRecDepth 20000 in
set_option maxHeartbeats 4000000 in
theorem kf_X5_clearAll (I : AI) (F : AF) : OK 0 mX5_clearAll false (f_X5_clearAll I F) (0, [(0, .ref 4)], [], hp I F) := by
  rw [f_X5_clearAll]
  refine OK_st 9 okX5_clearAll (S' := (15, [(0, .ref 4)], [], hp (va_up (va_up (va_up I 6 (0 : Int32)) 7 (0 : Int32)) 8 (0 : Int32)) F)) rfl ⟨trivial, trivial, trivial, trivial, trivial, trivial, trivial, trivial, trivial, trivial⟩ ?_
  exact OK_rv okX5_clearAll rfl rfl rfl

def f_X2_at (v1 : Int32) (I : AI) (F : AF) : AQ :=
  if v1 < 0 then
    some ((-1 : Int32), I, F)
  else
    if (I 5) ≤ v1 then
      some ((-1 : Int32), I, F)
    else
      bif ab_vin v1 250 then
        some (((F 0) v1.toNatClampNeg), I, F)
      else none
set_option maxRecDepth 20000 in
set_option maxHeartbeats 4000000 in
theorem kf_X2_at (v1 : Int32) (I : AI) (F : AF) : OK 0 mX2_at true (f_X2_at v1 I F) (0, [(0, .ref 2), (1, .int v1)], [], hp I F) := by
  rw [f_X2_at]
  refine OK_st 2 okX2_at (S' := ((if v1 < 0 then 21 else 4), [(0, .ref 2), (1, .int v1)], [], hp I F)) rfl ⟨trivial, trivial, trivial⟩ ?_
  refine OK_if (fun h20 => ?_) (fun h20 => ?_)
  · refine OK_st 1 okX2_at (S' := (22, [(0, .ref 2), (1, .int v1)], [.int (-1 : Int32)], hp I F)) rfl ⟨trivial, trivial⟩ ?_
    exact OK_ri okX2_at rfl rfl (Or.inl rfl)
  · refine OK_st 4 okX2_at (S' := ((if (I 5) ≤ v1 then 21 else 12), [(0, .ref 2), (1, .int v1)], [], hp I F)) rfl ⟨trivial, trivial, trivial, trivial, trivial⟩ ?_
    refine OK_if (fun h21 => ?_) (fun h21 => ?_)
    · refine OK_st 1 okX2_at (S' := (22, [(0, .ref 2), (1, .int v1)], [.int (-1 : Int32)], hp I F)) rfl ⟨trivial, trivial⟩ ?_
      exact OK_ri okX2_at rfl rfl (Or.inl rfl)
    · refine OK_gd (fun g22 => ?_)
      refine OK_st 5 okX2_at (S' := (22, [(0, .ref 2), (1, .int v1)], [.int ((F 0) v1.toNatClampNeg)], hp I F)) rfl ⟨trivial, trivial, trivial, (ab_vo g22), trivial, trivial⟩ ?_
      exact OK_ri okX2_at rfl rfl (Or.inl rfl)

def f_X6_skipBlanks_2 (ko : Int32 → AI → AF → AQ) : Nat → Int32 → AI → AF → AQ
  | 0, _, _, _ => none
  | n + 1, v1, I, F =>
    if (250 : Int32) ≤ v1 then
      ko v1 I F
    else
      ab_bd (f_X2_at (I 1) I F) (fun r23 I24 F25 =>
        if ¬ r23 = (32 : Int32) then
          ko v1 I24 F25
        else
          ab_lt (va_up I24 1 ((I24 1) + (1 : Int32))) (fun I27 =>
            f_X6_skipBlanks_2 ko n (v1 + (1 : Int32)) I27 F25))
set_option maxRecDepth 20000 in
set_option maxHeartbeats 4000000 in
theorem kf_X6_skipBlanks_2 (ko : Int32 → AI → AF → AQ) (hko : ∀ v1 I F, OK 1 mX6_skipBlanks false (ko v1 I F) (41, [(0, .ref 1), (1, .int v1)], [], hp I F)) : ∀ n v1 I F, OK 1 mX6_skipBlanks false (f_X6_skipBlanks_2 ko n v1 I F) (2, [(0, .ref 1), (1, .int v1)], [], hp I F) := by
  intro n
  induction n with
  | zero =>
    intro v1 I F
    exact OK_no
  | succ n ih =>
    intro v1 I F
    rw [f_X6_skipBlanks_2]
    refine OK_st 3 okX6_skipBlanks (S' := ((if (250 : Int32) ≤ v1 then 41 else 9), [(0, .ref 1), (1, .int v1)], [], hp I F)) rfl ⟨trivial, trivial, trivial, trivial⟩ ?_
    refine OK_if (fun h19 => ?_) (fun h19 => ?_)
    · exact hko v1 I F
    · refine OK_st 4 okX6_skipBlanks (S' := (17, [(0, .ref 1), (1, .int v1)], [.int (I 1), .ref 2], hp I F)) rfl ⟨trivial, trivial, trivial, trivial, trivial⟩ ?_
      refine OK_cv [.int (I 1)] [] okX6_skipBlanks okX2_at rfl rfl cl_RX6_45 rfl rfl (Nat.le_of_ble_eq_true rfl) (by decide) (Nat.le_of_ble_eq_true rfl) (kf_X2_at (I 1) I F) (fun r23 I24 F25 => ?_)
      refine OK_st 2 okX6_skipBlanks (S' := ((if ¬ r23 = (32 : Int32) then 41 else 25), [(0, .ref 1), (1, .int v1)], [], hp I24 F25)) rfl ⟨trivial, trivial, trivial⟩ ?_
      refine OK_if (fun h26 => ?_) (fun h26 => ?_)
      · exact hko v1 I24 F25
      · refine OK_st 8 okX6_skipBlanks (S' := (2, [(1, .int (v1 + (1 : Int32))), (0, .ref 1)], [], hp (va_up I24 1 ((I24 1) + (1 : Int32))) F25)) rfl ⟨trivial, rfl, trivial, trivial, trivial, trivial, (by decide), trivial, trivial⟩ ?_
        refine OK_lt (fun I27 => (2, [(1, .int (v1 + (1 : Int32))), (0, .ref 1)], [], hp I27 F25)) (fun I27 => ?_)
        refine OK_pk [1, 0] rfl ?_
        exact ih (v1 + (1 : Int32)) I27 F25

def f_X6_skipBlanks (I : AI) (F : AF) : AQ :=
  f_X6_skipBlanks_2 (fun v1_28 I29 F30 =>
    some (0, I29, F30)) ab_fu (0 : Int32) I F
set_option maxRecDepth 20000 in
set_option maxHeartbeats 4000000 in
theorem kf_X6_skipBlanks (I : AI) (F : AF) : OK 1 mX6_skipBlanks false (f_X6_skipBlanks I F) (0, [(0, .ref 1)], [], hp I F) := by
  rw [f_X6_skipBlanks]
  refine OK_st 2 okX6_skipBlanks (S' := (2, [(1, .int (0 : Int32)), (0, .ref 1)], [], hp I F)) rfl ⟨trivial, (by decide), trivial⟩ ?_
  refine OK_pk [1, 0] rfl ?_
  refine kf_X6_skipBlanks_2 _ (fun v1_28 I29 F30 => ?_) ab_fu (0 : Int32) I F
  exact OK_rv okX6_skipBlanks rfl rfl rfl

def f_X6_mayStart (v1 : Int32) (I : AI) (F : AF) : AQ :=
  if ¬ v1 = (108 : Int32) then
    if (I 6) ≤ 0 then
      some ((0 : Int32), I, F)
    else
      if v1 = (99 : Int32) then
        some ((1 : Int32), I, F)
      else
        if v1 = (114 : Int32) then
          some ((1 : Int32), I, F)
        else
          if ¬ v1 = (104 : Int32) then
            some ((0 : Int32), I, F)
          else
            some ((1 : Int32), I, F)
  else
    some ((1 : Int32), I, F)
set_option maxRecDepth 20000 in
set_option maxHeartbeats 4000000 in
theorem kf_X6_mayStart (v1 : Int32) (I : AI) (F : AF) : OK 0 mX6_mayStart true (f_X6_mayStart v1 I F) (0, [(0, .ref 1), (1, .int v1)], [], hp I F) := by
  rw [f_X6_mayStart]
  refine OK_st 3 okX6_mayStart (S' := ((if ¬ v1 = (108 : Int32) then 8 else 6), [(0, .ref 1), (1, .int v1)], [], hp I F)) rfl ⟨trivial, trivial, trivial, trivial⟩ ?_
  refine OK_if (fun h41 => ?_) (fun h41 => ?_)
  · refine OK_st 4 okX6_mayStart (S' := ((if (I 6) ≤ 0 then 40 else 18), [(0, .ref 1), (1, .int v1)], [], hp I F)) rfl ⟨trivial, trivial, trivial, trivial, trivial⟩ ?_
    refine OK_if (fun h42 => ?_) (fun h42 => ?_)
    · refine OK_st 1 okX6_mayStart (S' := (41, [(0, .ref 1), (1, .int v1)], [.int (0 : Int32)], hp I F)) rfl ⟨trivial, trivial⟩ ?_
      exact OK_ri okX6_mayStart rfl rfl (Or.inr ⟨rfl, Or.inl rfl⟩)
    · refine OK_st 3 okX6_mayStart (S' := ((if v1 = (99 : Int32) then 36 else 24), [(0, .ref 1), (1, .int v1)], [], hp I F)) rfl ⟨trivial, trivial, trivial, trivial⟩ ?_
      refine OK_if (fun h43 => ?_) (fun h43 => ?_)
      · refine OK_st 2 okX6_mayStart (S' := (41, [(0, .ref 1), (1, .int v1)], [.int (1 : Int32)], hp I F)) rfl ⟨trivial, trivial, trivial⟩ ?_
        exact OK_ri okX6_mayStart rfl rfl (Or.inr ⟨rfl, Or.inr rfl⟩)
      · refine OK_st 3 okX6_mayStart (S' := ((if v1 = (114 : Int32) then 36 else 30), [(0, .ref 1), (1, .int v1)], [], hp I F)) rfl ⟨trivial, trivial, trivial, trivial⟩ ?_
        refine OK_if (fun h44 => ?_) (fun h44 => ?_)
        · refine OK_st 2 okX6_mayStart (S' := (41, [(0, .ref 1), (1, .int v1)], [.int (1 : Int32)], hp I F)) rfl ⟨trivial, trivial, trivial⟩ ?_
          exact OK_ri okX6_mayStart rfl rfl (Or.inr ⟨rfl, Or.inr rfl⟩)
        · refine OK_st 3 okX6_mayStart (S' := ((if ¬ v1 = (104 : Int32) then 40 else 36), [(0, .ref 1), (1, .int v1)], [], hp I F)) rfl ⟨trivial, trivial, trivial, trivial⟩ ?_
          refine OK_if (fun h45 => ?_) (fun h45 => ?_)
          · refine OK_st 1 okX6_mayStart (S' := (41, [(0, .ref 1), (1, .int v1)], [.int (0 : Int32)], hp I F)) rfl ⟨trivial, trivial⟩ ?_
            exact OK_ri okX6_mayStart rfl rfl (Or.inr ⟨rfl, Or.inl rfl⟩)
          · refine OK_st 2 okX6_mayStart (S' := (41, [(0, .ref 1), (1, .int v1)], [.int (1 : Int32)], hp I F)) rfl ⟨trivial, trivial, trivial⟩ ?_
            exact OK_ri okX6_mayStart rfl rfl (Or.inr ⟨rfl, Or.inr rfl⟩)
  · refine OK_st 1 okX6_mayStart (S' := (7, [(0, .ref 1), (1, .int v1)], [.int (1 : Int32)], hp I F)) rfl ⟨trivial, trivial⟩ ?_
    exact OK_ri okX6_mayStart rfl rfl (Or.inr ⟨rfl, Or.inr rfl⟩)

def f_X6_isOneTooMany (v1 : Int32) (I : AI) (F : AF) : AQ :=
  if v1 = (99 : Int32) then
    if (I 7) < (6 : Int32) then
      some ((0 : Int32), I, F)
    else
      some ((1 : Int32), I, F)
  else if v1 = (108 : Int32) then
    if (I 6) < (6 : Int32) then
      some ((0 : Int32), I, F)
    else
      some ((1 : Int32), I, F)
  else if v1 = (114 : Int32) then
    if (I 8) < (8 : Int32) then
      some ((0 : Int32), I, F)
    else
      some ((1 : Int32), I, F)
  else 
    some ((0 : Int32), I, F)
set_option maxRecDepth 20000 in
set_option maxHeartbeats 4000000 in
theorem kf_X6_isOneTooMany (v1 : Int32) (I : AI) (F : AF) : OK 0 mX6_isOneTooMany true (f_X6_isOneTooMany v1 I F) (0, [(0, .ref 1), (1, .int v1)], [], hp I F) := by
  rw [f_X6_isOneTooMany]
  refine OK_st 1 okX6_isOneTooMany (S' := (1, [(0, .ref 1), (1, .int v1)], [.int v1], hp I F)) rfl ⟨trivial, trivial⟩ ?_
  refine OK_ci (fun h50 => ?_) (fun h50 => ?_)
  · subst h50
    refine OK_st 1 okX6_isOneTooMany (S' := (54, [(0, .ref 1), (1, .int (99 : Int32))], [], hp I F)) rfl ⟨(by decide +kernel), trivial⟩ ?_
    refine OK_st 5 okX6_isOneTooMany (S' := ((if (I 7) < (6 : Int32) then 70 else 66), [(0, .ref 1), (1, .int (99 : Int32))], [], hp I F)) rfl ⟨trivial, trivial, trivial, trivial, trivial, trivial⟩ ?_
    refine OK_if (fun h51 => ?_) (fun h51 => ?_)
    · refine OK_st 1 okX6_isOneTooMany (S' := (71, [(0, .ref 1), (1, .int (99 : Int32))], [.int (0 : Int32)], hp I F)) rfl ⟨trivial, trivial⟩ ?_
      exact OK_ri okX6_isOneTooMany rfl rfl (Or.inr ⟨rfl, Or.inl rfl⟩)
    · refine OK_st 2 okX6_isOneTooMany (S' := (71, [(0, .ref 1), (1, .int (99 : Int32))], [.int (1 : Int32)], hp I F)) rfl ⟨trivial, trivial, trivial⟩ ?_
      exact OK_ri okX6_isOneTooMany rfl rfl (Or.inr ⟨rfl, Or.inr rfl⟩)
  · skip
    refine OK_ci (fun h52 => ?_) (fun h52 => ?_)
    · subst h52
      refine OK_st 1 okX6_isOneTooMany (S' := (36, [(0, .ref 1), (1, .int (108 : Int32))], [], hp I F)) rfl ⟨(by decide +kernel), trivial⟩ ?_
      refine OK_st 5 okX6_isOneTooMany (S' := ((if (I 6) < (6 : Int32) then 52 else 48), [(0, .ref 1), (1, .int (108 : Int32))], [], hp I F)) rfl ⟨trivial, trivial, trivial, trivial, trivial, trivial⟩ ?_
      refine OK_if (fun h53 => ?_) (fun h53 => ?_)
      · refine OK_st 1 okX6_isOneTooMany (S' := (53, [(0, .ref 1), (1, .int (108 : Int32))], [.int (0 : Int32)], hp I F)) rfl ⟨trivial, trivial⟩ ?_
        exact OK_ri okX6_isOneTooMany rfl rfl (Or.inr ⟨rfl, Or.inl rfl⟩)
      · refine OK_st 2 okX6_isOneTooMany (S' := (53, [(0, .ref 1), (1, .int (108 : Int32))], [.int (1 : Int32)], hp I F)) rfl ⟨trivial, trivial, trivial⟩ ?_
        exact OK_ri okX6_isOneTooMany rfl rfl (Or.inr ⟨rfl, Or.inr rfl⟩)
    · skip
      refine OK_ci (fun h54 => ?_) (fun h54 => ?_)
      · subst h54
        refine OK_st 1 okX6_isOneTooMany (S' := (72, [(0, .ref 1), (1, .int (114 : Int32))], [], hp I F)) rfl ⟨(by decide +kernel), trivial⟩ ?_
        refine OK_st 5 okX6_isOneTooMany (S' := ((if (I 8) < (8 : Int32) then 88 else 84), [(0, .ref 1), (1, .int (114 : Int32))], [], hp I F)) rfl ⟨trivial, trivial, trivial, trivial, trivial, trivial⟩ ?_
        refine OK_if (fun h55 => ?_) (fun h55 => ?_)
        · refine OK_st 1 okX6_isOneTooMany (S' := (89, [(0, .ref 1), (1, .int (114 : Int32))], [.int (0 : Int32)], hp I F)) rfl ⟨trivial, trivial⟩ ?_
          exact OK_ri okX6_isOneTooMany rfl rfl (Or.inr ⟨rfl, Or.inl rfl⟩)
        · refine OK_st 2 okX6_isOneTooMany (S' := (89, [(0, .ref 1), (1, .int (114 : Int32))], [.int (1 : Int32)], hp I F)) rfl ⟨trivial, trivial, trivial⟩ ?_
          exact OK_ri okX6_isOneTooMany rfl rfl (Or.inr ⟨rfl, Or.inr rfl⟩)
      · skip
        have hof : Op.lookupswitch.offset [(99, 53), (108, 35), (114, 71)] 89 v1.toInt = 89 := by rw [lv_osw (a := 99) h50 rfl, lv_osw (a := 108) h52 rfl, lv_osw (a := 114) h54 rfl]; rfl
        refine OK_st 1 okX6_isOneTooMany (S' := ((((1 : Nat) : Int) + Op.lookupswitch.offset [(99, 53), (108, 35), (114, 71)] 89 v1.toInt).toNat, [(0, .ref 1), (1, .int v1)], [], hp I F)) rfl ⟨by show (0 : Int) ≤ ((1 : Nat) : Int) + Op.lookupswitch.offset [(99, 53), (108, 35), (114, 71)] 89 v1.toInt; rw [hof]; decide, trivial⟩ ?_
        refine OK_pc (pc' := 90) (by rw [hof]; rfl) ?_
        refine OK_st 1 okX6_isOneTooMany (S' := (91, [(0, .ref 1), (1, .int v1)], [.int (0 : Int32)], hp I F)) rfl ⟨trivial, trivial⟩ ?_
        exact OK_ri okX6_isOneTooMany rfl rfl (Or.inr ⟨rfl, Or.inl rfl⟩)

def f_X6_isFigure (v0 : Int32) (I : AI) (F : AF) : AQ :=
  if v0 < (48 : Int32) then
    some ((0 : Int32), I, F)
  else
    if (57 : Int32) < v0 then
      some ((0 : Int32), I, F)
    else
      some ((1 : Int32), I, F)
set_option maxRecDepth 20000 in
set_option maxHeartbeats 4000000 in
theorem kf_X6_isFigure (v0 : Int32) (I : AI) (F : AF) : OK 0 mX6_isFigure true (f_X6_isFigure v0 I F) (0, [(0, .int v0)], [], hp I F) := by
  rw [f_X6_isFigure]
  refine OK_st 3 okX6_isFigure (S' := ((if v0 < (48 : Int32) then 16 else 6), [(0, .int v0)], [], hp I F)) rfl ⟨trivial, trivial, trivial, trivial⟩ ?_
  refine OK_if (fun h70 => ?_) (fun h70 => ?_)
  · refine OK_st 1 okX6_isFigure (S' := (17, [(0, .int v0)], [.int (0 : Int32)], hp I F)) rfl ⟨trivial, trivial⟩ ?_
    exact OK_ri okX6_isFigure rfl rfl (Or.inr ⟨rfl, Or.inl rfl⟩)
  · refine OK_st 3 okX6_isFigure (S' := ((if (57 : Int32) < v0 then 16 else 12), [(0, .int v0)], [], hp I F)) rfl ⟨trivial, trivial, trivial, trivial⟩ ?_
    refine OK_if (fun h71 => ?_) (fun h71 => ?_)
    · refine OK_st 1 okX6_isFigure (S' := (17, [(0, .int v0)], [.int (0 : Int32)], hp I F)) rfl ⟨trivial, trivial⟩ ?_
      exact OK_ri okX6_isFigure rfl rfl (Or.inr ⟨rfl, Or.inl rfl⟩)
    · refine OK_st 2 okX6_isFigure (S' := (17, [(0, .int v0)], [.int (1 : Int32)], hp I F)) rfl ⟨trivial, trivial, trivial⟩ ?_
      exact OK_ri okX6_isFigure rfl rfl (Or.inr ⟨rfl, Or.inr rfl⟩)

def f_X6_readNumber_18 (v1 : Int32) (v2 : Int32) (v3 : Int32) (ko : Int32 → Int32 → AI → AF → AQ) : Nat → Int32 → Int32 → AI → AF → AQ
  | 0, _, _, _, _ => none
  | n + 1, v4, v5, I, F =>
    if (250 : Int32) ≤ v5 then
      ko v4 v5 I F
    else
      ab_bd (f_X2_at (I 1) I F) (fun r67 I68 F69 =>
        ab_bd (f_X6_isFigure r67 I68 F69) (fun r72 I73 F74 =>
          if r72 = 0 then
            ko v4 v5 I73 F74
          else
            ab_bd (f_X2_at (I73 1) I73 F74) (fun r76 I77 F78 =>
              ab_lt (if (((v4 * (10 : Int32)) + r76) - (48 : Int32)) < (1000 : Int32) then (((v4 * (10 : Int32)) + r76) - (48 : Int32)) else (1000 : Int32)) (fun x79 =>
                ab_lt (va_up I77 1 ((I77 1) + (1 : Int32))) (fun I80 =>
                  f_X6_readNumber_18 v1 v2 v3 ko n x79 (v5 + (1 : Int32)) I80 F78)))))
set_option maxRecDepth 20000 in
set_option maxHeartbeats 4000000 in
theorem kf_X6_readNumber_18 (v1 : Int32) (v2 : Int32) (v3 : Int32) (ko : Int32 → Int32 → AI → AF → AQ) (hko : ∀ v4 v5 I F, OK 2 mX6_readNumber true (ko v4 v5 I F) (87, [(0, .ref 1), (1, .int v1), (2, .int v2), (3, .int v3), (4, .int v4), (5, .int v5)], [], hp I F)) : ∀ n v4 v5 I F, OK 2 mX6_readNumber true (f_X6_readNumber_18 v1 v2 v3 ko n v4 v5 I F) (18, [(0, .ref 1), (1, .int v1), (2, .int v2), (3, .int v3), (4, .int v4), (5, .int v5)], [], hp I F) := by
  intro n
  induction n with
  | zero =>
    intro v4 v5 I F
    exact OK_no
  | succ n ih =>
    intro v4 v5 I F
    rw [f_X6_readNumber_18]
    refine OK_st 3 okX6_readNumber (S' := ((if (250 : Int32) ≤ v5 then 87 else 26), [(0, .ref 1), (1, .int v1), (2, .int v2), (3, .int v3), (4, .int v4), (5, .int v5)], [], hp I F)) rfl ⟨trivial, trivial, trivial, trivial⟩ ?_
    refine OK_if (fun h66 => ?_) (fun h66 => ?_)
    · exact hko v4 v5 I F
    · refine OK_st 4 okX6_readNumber (S' := (34, [(0, .ref 1), (1, .int v1), (2, .int v2), (3, .int v3), (4, .int v4), (5, .int v5)], [.int (I 1), .ref 2], hp I F)) rfl ⟨trivial, trivial, trivial, trivial, trivial⟩ ?_
      refine OK_cv [.int (I 1)] [] okX6_readNumber okX2_at rfl rfl cl_RX6_45 rfl rfl (Nat.le_of_ble_eq_true rfl) (by decide) (Nat.le_of_ble_eq_true rfl) (kf_X2_at (I 1) I F) (fun r67 I68 F69 => ?_)
      refine OK_cs [.int r67] [] okX6_readNumber okX6_isFigure rfl rfl cl_RX6_117 (Nat.le_of_ble_eq_true rfl) (by decide) (Nat.le_of_ble_eq_true rfl) (kf_X6_isFigure r67 I68 F69) (fun r72 I73 F74 => ?_)
      refine OK_st 1 okX6_readNumber (S' := ((if r72 = 0 then 87 else 43), [(0, .ref 1), (1, .int v1), (2, .int v2), (3, .int v3), (4, .int v4), (5, .int v5)], [], hp I73 F74)) rfl ⟨trivial, trivial⟩ ?_
      refine OK_if (fun h75 => ?_) (fun h75 => ?_)
      · exact hko v4 v5 I73 F74
      · refine OK_st 8 okX6_readNumber (S' := (59, [(0, .ref 1), (1, .int v1), (2, .int v2), (3, .int v3), (4, .int v4), (5, .int v5)], [.int (I73 1), .ref 2, .int (v4 * (10 : Int32)), .int (1000 : Int32)], hp I73 F74)) rfl ⟨trivial, trivial, trivial, trivial, trivial, trivial, trivial, trivial, trivial⟩ ?_
        refine OK_cv [.int (I73 1)] [.int (v4 * (10 : Int32)), .int (1000 : Int32)] okX6_readNumber okX2_at rfl rfl cl_RX6_45 rfl rfl (Nat.le_of_ble_eq_true rfl) (by decide) (Nat.le_of_ble_eq_true rfl) (kf_X2_at (I73 1) I73 F74) (fun r76 I77 F78 => ?_)
        refine OK_st 5 okX6_readNumber (S' := (71, [(4, .int (if (((v4 * (10 : Int32)) + r76) - (48 : Int32)) < (1000 : Int32) then (((v4 * (10 : Int32)) + r76) - (48 : Int32)) else (1000 : Int32))), (0, .ref 1), (1, .int v1), (2, .int v2), (3, .int v3), (5, .int v5)], [], hp I77 F78)) rfl ⟨trivial, trivial, trivial, (Nat.le_of_ble_eq_true rfl), (by decide), trivial⟩ ?_
        refine OK_lt (fun x79 => (71, [(4, .int x79), (0, .ref 1), (1, .int v1), (2, .int v2), (3, .int v3), (5, .int v5)], [], hp I77 F78)) (fun x79 => ?_)
        refine OK_st 8 okX6_readNumber (S' := (18, [(5, .int (v5 + (1 : Int32))), (4, .int x79), (0, .ref 1), (1, .int v1), (2, .int v2), (3, .int v3)], [], hp (va_up I77 1 ((I77 1) + (1 : Int32))) F78)) rfl ⟨trivial, rfl, trivial, trivial, trivial, trivial, (by decide), trivial, trivial⟩ ?_
        refine OK_lt (fun I80 => (18, [(5, .int (v5 + (1 : Int32))), (4, .int x79), (0, .ref 1), (1, .int v1), (2, .int v2), (3, .int v3)], [], hp I80 F78)) (fun I80 => ?_)
        refine OK_pk [2, 3, 4, 5, 1, 0] rfl ?_
        exact ih x79 (v5 + (1 : Int32)) I80 F78

def f_X6_fail (v1 : Int32) (v2 : Int32) (I : AI) (F : AF) : AQ :=
  some ((0 : Int32), (va_up (va_up I 3 v1) 4 v2), F)
set_option maxRecDepth 20000 in
set_option maxHeartbeats 4000000 in
theorem kf_X6_fail (v1 : Int32) (v2 : Int32) (I : AI) (F : AF) : OK 0 mX6_fail true (f_X6_fail v1 v2 I F) (0, [(0, .ref 1), (1, .int v1), (2, .int v2)], [], hp I F) := by
  rw [f_X6_fail]
  refine OK_st 7 okX6_fail (S' := (11, [(0, .ref 1), (1, .int v1), (2, .int v2)], [.int (0 : Int32)], hp (va_up (va_up I 3 v1) 4 v2) F)) rfl ⟨trivial, trivial, trivial, trivial, trivial, trivial, trivial, trivial⟩ ?_
  exact OK_ri okX6_fail rfl rfl (Or.inr ⟨rfl, Or.inl rfl⟩)

def f_X6_readNumber_j87 (v1 : Int32) (v2 : Int32) (v3 : Int32) (v4 : Int32) (I : AI) (F : AF) : AQ :=
  if ¬ ((I 1) - (I 2)) = 0 then
    if (3 : Int32) < ((I 1) - (I 2)) then
      ab_bd (f_X6_fail (2 : Int32) (I 2) I F) (fun r87 I88 F89 =>
        bif ab_bt r87 then some (r87, I88, F89) else none)
    else
      if v4 < v2 then
        ab_bd (f_X6_fail (2 : Int32) (I 2) I F) (fun r92 I93 F94 =>
          bif ab_bt r92 then some (r92, I93, F94) else none)
      else
        if v4 ≤ v3 then
          bif ab_vin v1 5 then
            some ((1 : Int32), I, (va_up F 11 (upd (F 11) v1.toNatClampNeg v4)))
          else none
        else
          ab_bd (f_X6_fail (2 : Int32) (I 2) I F) (fun r98 I99 F100 =>
            bif ab_bt r98 then some (r98, I99, F100) else none)
  else
    ab_bd (f_X6_fail (1 : Int32) (I 1) I F) (fun r102 I103 F104 =>
      bif ab_bt r102 then some (r102, I103, F104) else none)
set_option maxRecDepth 20000 in
set_option maxHeartbeats 4000000 in
theorem kf_X6_readNumber_j87 (v1 : Int32) (v2 : Int32) (v3 : Int32) (v4 : Int32) (I : AI) (F : AF) : OK 2 mX6_readNumber true (f_X6_readNumber_j87 v1 v2 v3 v4 I F) (87, [(0, .ref 1), (1, .int v1), (2, .int v2), (3, .int v3), (4, .int v4)], [], hp I F) := by
  rw [f_X6_readNumber_j87]
  refine OK_st 8 okX6_readNumber (S' := ((if ¬ ((I 1) - (I 2)) = 0 then 113 else 103), [(5, .int ((I 1) - (I 2))), (0, .ref 1), (1, .int v1), (2, .int v2), (3, .int v3), (4, .int v4)], [], hp I F)) rfl ⟨trivial, trivial, trivial, trivial, trivial, (by decide), trivial, trivial, trivial⟩ ?_
  refine OK_if (fun h85 => ?_) (fun h85 => ?_)
  · refine OK_st 3 okX6_readNumber (S' := ((if (3 : Int32) < ((I 1) - (I 2)) then 131 else 119), [(5, .int ((I 1) - (I 2))), (0, .ref 1), (1, .int v1), (2, .int v2), (3, .int v3), (4, .int v4)], [], hp I F)) rfl ⟨trivial, trivial, trivial, trivial⟩ ?_
    refine OK_if (fun h86 => ?_) (fun h86 => ?_)
    · refine OK_st 4 okX6_readNumber (S' := (137, [(5, .int ((I 1) - (I 2))), (0, .ref 1), (1, .int v1), (2, .int v2), (3, .int v3), (4, .int v4)], [.int (I 2), .int (2 : Int32), .ref 1], hp I F)) rfl ⟨trivial, trivial, trivial, trivial, trivial⟩ ?_
      refine OK_cv [.int (2 : Int32), .int (I 2)] [] okX6_readNumber okX6_fail rfl rfl cl_RX6_57 rfl rfl (Nat.le_of_ble_eq_true rfl) (by decide) (Nat.le_of_ble_eq_true rfl) (kf_X6_fail (2 : Int32) (I 2) I F) (fun r87 I88 F89 => ?_)
      refine OK_gd (fun g90 => ?_)
      exact OK_ri okX6_readNumber rfl rfl (Or.inr ⟨rfl, ab_bto g90⟩)
    · refine OK_st 3 okX6_readNumber (S' := ((if v4 < v2 then 131 else 125), [(5, .int ((I 1) - (I 2))), (0, .ref 1), (1, .int v1), (2, .int v2), (3, .int v3), (4, .int v4)], [], hp I F)) rfl ⟨trivial, trivial, trivial, trivial⟩ ?_
      refine OK_if (fun h91 => ?_) (fun h91 => ?_)
      · refine OK_st 4 okX6_readNumber (S' := (137, [(5, .int ((I 1) - (I 2))), (0, .ref 1), (1, .int v1), (2, .int v2), (3, .int v3), (4, .int v4)], [.int (I 2), .int (2 : Int32), .ref 1], hp I F)) rfl ⟨trivial, trivial, trivial, trivial, trivial⟩ ?_
        refine OK_cv [.int (2 : Int32), .int (I 2)] [] okX6_readNumber okX6_fail rfl rfl cl_RX6_57 rfl rfl (Nat.le_of_ble_eq_true rfl) (by decide) (Nat.le_of_ble_eq_true rfl) (kf_X6_fail (2 : Int32) (I 2) I F) (fun r92 I93 F94 => ?_)
        refine OK_gd (fun g95 => ?_)
        exact OK_ri okX6_readNumber rfl rfl (Or.inr ⟨rfl, ab_bto g95⟩)
      · refine OK_st 3 okX6_readNumber (S' := ((if v4 ≤ v3 then 141 else 131), [(5, .int ((I 1) - (I 2))), (0, .ref 1), (1, .int v1), (2, .int v2), (3, .int v3), (4, .int v4)], [], hp I F)) rfl ⟨trivial, trivial, trivial, trivial⟩ ?_
        refine OK_if (fun h96 => ?_) (fun h96 => ?_)
        · refine OK_gd (fun g97 => ?_)
          refine OK_st 6 okX6_readNumber (S' := (150, [(5, .int ((I 1) - (I 2))), (0, .ref 1), (1, .int v1), (2, .int v2), (3, .int v3), (4, .int v4)], [.int (1 : Int32)], hp I (va_up F 11 (upd (F 11) v1.toNatClampNeg v4)))) rfl ⟨trivial, trivial, trivial, trivial, (ab_vo g97), trivial, trivial⟩ ?_
          exact OK_ri okX6_readNumber rfl rfl (Or.inr ⟨rfl, Or.inr rfl⟩)
        · refine OK_st 4 okX6_readNumber (S' := (137, [(5, .int ((I 1) - (I 2))), (0, .ref 1), (1, .int v1), (2, .int v2), (3, .int v3), (4, .int v4)], [.int (I 2), .int (2 : Int32), .ref 1], hp I F)) rfl ⟨trivial, trivial, trivial, trivial, trivial⟩ ?_
          refine OK_cv [.int (2 : Int32), .int (I 2)] [] okX6_readNumber okX6_fail rfl rfl cl_RX6_57 rfl rfl (Nat.le_of_ble_eq_true rfl) (by decide) (Nat.le_of_ble_eq_true rfl) (kf_X6_fail (2 : Int32) (I 2) I F) (fun r98 I99 F100 => ?_)
          refine OK_gd (fun g101 => ?_)
          exact OK_ri okX6_readNumber rfl rfl (Or.inr ⟨rfl, ab_bto g101⟩)
  · refine OK_st 4 okX6_readNumber (S' := (109, [(5, .int ((I 1) - (I 2))), (0, .ref 1), (1, .int v1), (2, .int v2), (3, .int v3), (4, .int v4)], [.int (I 1), .int (1 : Int32), .ref 1], hp I F)) rfl ⟨trivial, trivial, trivial, trivial, trivial⟩ ?_
    refine OK_cv [.int (1 : Int32), .int (I 1)] [] okX6_readNumber okX6_fail rfl rfl cl_RX6_57 rfl rfl (Nat.le_of_ble_eq_true rfl) (by decide) (Nat.le_of_ble_eq_true rfl) (kf_X6_fail (1 : Int32) (I 1) I F) (fun r102 I103 F104 => ?_)
    refine OK_gd (fun g105 => ?_)
    exact OK_ri okX6_readNumber rfl rfl (Or.inr ⟨rfl, ab_bto g105⟩)

def f_X6_readNumber (v1 : Int32) (v2 : Int32) (v3 : Int32) (I : AI) (F : AF) : AQ :=
  ab_bd (f_X6_skipBlanks I F) (fun r62 I63 F64 =>
    ab_lt (va_up I63 2 (I63 1)) (fun I65 =>
      f_X6_readNumber_18 v1 v2 v3 (fun v4_81 v5_82 I83 F84 =>
        f_X6_readNumber_j87 v1 v2 v3 v4_81 I83 F84) ab_fu (0 : Int32) (0 : Int32) I65 F64))
set_option maxRecDepth 20000 in
set_option maxHeartbeats 4000000 in
theorem kf_X6_readNumber (v1 : Int32) (v2 : Int32) (v3 : Int32) (I : AI) (F : AF) : OK 2 mX6_readNumber true (f_X6_readNumber v1 v2 v3 I F) (0, [(0, .ref 1), (1, .int v1), (2, .int v2), (3, .int v3)], [], hp I F) := by
  rw [f_X6_readNumber]
  refine OK_st 1 okX6_readNumber (S' := (1, [(0, .ref 1), (1, .int v1), (2, .int v2), (3, .int v3)], [.ref 1], hp I F)) rfl ⟨trivial, trivial⟩ ?_
  refine OK_cv [] [] okX6_readNumber okX6_skipBlanks rfl rfl cl_RX6_42 rfl rfl (Nat.le_of_ble_eq_true rfl) (by decide) (Nat.le_of_ble_eq_true rfl) (kf_X6_skipBlanks I F) (fun r62 I63 F64 => ?_)
  refine OK_st 8 okX6_readNumber (S' := (18, [(5, .int (0 : Int32)), (4, .int (0 : Int32)), (0, .ref 1), (1, .int v1), (2, .int v2), (3, .int v3)], [], hp (va_up I63 2 (I63 1)) F64)) rfl ⟨trivial, trivial, trivial, trivial, trivial, (by decide), trivial, (by decide), trivial⟩ ?_
  refine OK_lt (fun I65 => (18, [(5, .int (0 : Int32)), (4, .int (0 : Int32)), (0, .ref 1), (1, .int v1), (2, .int v2), (3, .int v3)], [], hp I65 F64)) (fun I65 => ?_)
  refine OK_pk [2, 3, 4, 5, 1, 0] rfl ?_
  refine kf_X6_readNumber_18 v1 v2 v3 _ (fun v4_81 v5_82 I83 F84 => ?_) ab_fu (0 : Int32) (0 : Int32) I65 F64
  refine OK_pk [0, 1, 2, 3, 4] rfl ?_
  exact kf_X6_readNumber_j87 v1 v2 v3 v4_81 I83 F84

def f_X5_addContract (I : AI) (F : AF) : AQ :=
  if (6 : Int32) ≤ (I 7) then
    some (0, I, F)
  else
    bif ab_vin (I 7) 6 then
      bif ab_vin (I 7) 6 then
        bif ab_vin (I 7) 6 then
          some (0, (va_up I 7 ((I 7) + (1 : Int32))), (va_up (va_up (va_up F 4 (upd (F 4) (I 7).toNatClampNeg ((F 11) 0))) 5 (upd (F 5) (I 7).toNatClampNeg ((F 11) 1))) 6 (upd (F 6) (I 7).toNatClampNeg ((F 11) 2))))
        else none
      else none
    else none
set_option maxRecDepth 20000 in
set_option maxHeartbeats 4000000 in
theorem kf_X5_addContract (I : AI) (F : AF) : OK 0 mX5_addContract false (f_X5_addContract I F) (0, [(0, .ref 4), (1, .ref 15)], [], hp I F) := by
  rw [f_X5_addContract]
  refine OK_st 4 okX5_addContract (S' := ((if (6 : Int32) ≤ (I 7) then 55 else 9), [(0, .ref 4), (1, .ref 15)], [], hp I F)) rfl ⟨trivial, trivial, trivial, trivial, trivial⟩ ?_
  refine OK_if (fun h111 => ?_) (fun h111 => ?_)
  · exact OK_rv okX5_addContract rfl rfl rfl
  · refine OK_gd (fun g112 => ?_)
    refine OK_gd (fun g113 => ?_)
    refine OK_gd (fun g114 => ?_)
    refine OK_st 30 okX5_addContract (S' := (55, [(0, .ref 4), (1, .ref 15)], [], hp (va_up I 7 ((I 7) + (1 : Int32))) (va_up (va_up (va_up F 4 (upd (F 4) (I 7).toNatClampNeg ((F 11) 0))) 5 (upd (F 5) (I 7).toNatClampNeg ((F 11) 1))) 6 (upd (F 6) (I 7).toNatClampNeg ((F 11) 2))))) rfl ⟨trivial, trivial, trivial, trivial, trivial, trivial, (ab_vo (by decide)), (ab_vo g112), trivial, trivial, trivial, trivial, trivial, trivial, (ab_vo (by decide)), (ab_vo g113), trivial, trivial, trivial, trivial, trivial, trivial, (ab_vo (by decide)), (ab_vo g114), trivial, rfl, trivial, trivial, trivial, trivial, trivial⟩ ?_
    exact OK_rv okX5_addContract rfl rfl rfl

def f_X6_readClose (I : AI) (F : AF) : AQ :=
  ab_bd (f_X6_skipBlanks I F) (fun r134 I135 F136 =>
    ab_bd (f_X2_at (I135 1) I135 F136) (fun r137 I138 F139 =>
      if r137 = (59 : Int32) then
        some ((1 : Int32), (va_up I138 1 ((I138 1) + (1 : Int32))), F139)
      else
        ab_bd (f_X6_fail (1 : Int32) (I138 1) I138 F139) (fun r141 I142 F143 =>
          bif ab_bt r141 then some (r141, I142, F143) else none)))
set_option maxRecDepth 20000 in
set_option maxHeartbeats 4000000 in
theorem kf_X6_readClose (I : AI) (F : AF) : OK 2 mX6_readClose true (f_X6_readClose I F) (0, [(0, .ref 1)], [], hp I F) := by
  rw [f_X6_readClose]
  refine OK_st 1 okX6_readClose (S' := (1, [(0, .ref 1)], [.ref 1], hp I F)) rfl ⟨trivial, trivial⟩ ?_
  refine OK_cv [] [] okX6_readClose okX6_skipBlanks rfl rfl cl_RX6_42 rfl rfl (Nat.le_of_ble_eq_true rfl) (by decide) (Nat.le_of_ble_eq_true rfl) (kf_X6_skipBlanks I F) (fun r134 I135 F136 => ?_)
  refine OK_st 4 okX6_readClose (S' := (12, [(0, .ref 1)], [.int (I135 1), .ref 2], hp I135 F136)) rfl ⟨trivial, trivial, trivial, trivial, trivial⟩ ?_
  refine OK_cv [.int (I135 1)] [] okX6_readClose okX2_at rfl rfl cl_RX6_45 rfl rfl (Nat.le_of_ble_eq_true rfl) (by decide) (Nat.le_of_ble_eq_true rfl) (kf_X2_at (I135 1) I135 F136) (fun r137 I138 F139 => ?_)
  refine OK_st 2 okX6_readClose (S' := ((if r137 = (59 : Int32) then 30 else 20), [(0, .ref 1)], [], hp I138 F139)) rfl ⟨trivial, trivial, trivial⟩ ?_
  refine OK_if (fun h140 => ?_) (fun h140 => ?_)
  · refine OK_st 7 okX6_readClose (S' := (41, [(0, .ref 1)], [.int (1 : Int32)], hp (va_up I138 1 ((I138 1) + (1 : Int32))) F139)) rfl ⟨trivial, rfl, trivial, trivial, trivial, trivial, trivial, trivial⟩ ?_
    exact OK_ri okX6_readClose rfl rfl (Or.inr ⟨rfl, Or.inr rfl⟩)
  · refine OK_st 4 okX6_readClose (S' := (26, [(0, .ref 1)], [.int (I138 1), .int (1 : Int32), .ref 1], hp I138 F139)) rfl ⟨trivial, trivial, trivial, trivial, trivial⟩ ?_
    refine OK_cv [.int (1 : Int32), .int (I138 1)] [] okX6_readClose okX6_fail rfl rfl cl_RX6_57 rfl rfl (Nat.le_of_ble_eq_true rfl) (by decide) (Nat.le_of_ble_eq_true rfl) (kf_X6_fail (1 : Int32) (I138 1) I138 F139) (fun r141 I142 F143 => ?_)
    refine OK_gd (fun g144 => ?_)
    exact OK_ri okX6_readClose rfl rfl (Or.inr ⟨rfl, ab_bto g144⟩)

def f_X6_readContract (I : AI) (F : AF) : AQ :=
  ab_bd (f_X6_readNumber (0 : Int32) (0 : Int32) (99 : Int32) I F) (fun r106 I107 F108 =>
    if r106 = 0 then
      if (0 : Int32) = 0 then
        some ((0 : Int32), I107, F108)
      else
        ab_bd (f_X5_addContract I107 F108) (fun r115 I116 F117 =>
          some ((0 : Int32), I116, F117))
    else
      ab_bd (f_X6_readNumber (1 : Int32) (0 : Int32) ((I107 6) - (1 : Int32)) I107 F108) (fun r118 I119 F120 =>
        if r118 = 0 then
          if (0 : Int32) = 0 then
            some ((0 : Int32), I119, F120)
          else
            ab_bd (f_X5_addContract I119 F120) (fun r123 I124 F125 =>
              some ((0 : Int32), I124, F125))
        else
          ab_bd (f_X6_readNumber (2 : Int32) (1 : Int32) (50 : Int32) I119 F120) (fun r126 I127 F128 =>
            if r126 = 0 then
              if (0 : Int32) = 0 then
                some ((0 : Int32), I127, F128)
              else
                ab_bd (f_X5_addContract I127 F128) (fun r131 I132 F133 =>
                  some ((0 : Int32), I132, F133))
            else
              ab_bd (f_X6_readClose I127 F128) (fun r145 I146 F147 =>
                if r145 = 0 then
                  if (0 : Int32) = 0 then
                    some ((0 : Int32), I146, F147)
                  else
                    ab_bd (f_X5_addContract I146 F147) (fun r150 I151 F152 =>
                      some ((0 : Int32), I151, F152))
                else
                  if (1 : Int32) = 0 then
                    some ((1 : Int32), I146, F147)
                  else
                    ab_bd (f_X5_addContract I146 F147) (fun r154 I155 F156 =>
                      some ((1 : Int32), I155, F156))))))
set_option maxRecDepth 20000 in
set_option maxHeartbeats 4000000 in
theorem kf_X6_readContract (I : AI) (F : AF) : OK 3 mX6_readContract true (f_X6_readContract I F) (0, [(0, .ref 1)], [], hp I F) := by
  rw [f_X6_readContract]
  refine OK_st 4 okX6_readContract (S' := (5, [(0, .ref 1)], [.int (99 : Int32), .int (0 : Int32), .int (0 : Int32), .ref 1], hp I F)) rfl ⟨trivial, trivial, trivial, trivial, trivial⟩ ?_
  refine OK_cv [.int (0 : Int32), .int (0 : Int32), .int (99 : Int32)] [] okX6_readContract okX6_readNumber rfl rfl cl_RX6_85 rfl rfl (Nat.le_of_ble_eq_true rfl) (by decide) (Nat.le_of_ble_eq_true rfl) (kf_X6_readNumber (0 : Int32) (0 : Int32) (99 : Int32) I F) (fun r106 I107 F108 => ?_)
  refine OK_st 1 okX6_readContract (S' := ((if r106 = 0 then 51 else 11), [(0, .ref 1)], [], hp I107 F108)) rfl ⟨trivial, trivial⟩ ?_
  refine OK_if (fun h109 => ?_) (fun h109 => ?_)
  · refine OK_st 4 okX6_readContract (S' := ((if (0 : Int32) = 0 then 68 else 57), [(1, .int (0 : Int32)), (0, .ref 1)], [], hp I107 F108)) rfl ⟨trivial, (by decide), trivial, trivial, trivial⟩ ?_
    refine OK_if (fun h110 => ?_) (fun h110 => ?_)
    · refine OK_st 1 okX6_readContract (S' := (69, [(1, .int (0 : Int32)), (0, .ref 1)], [.int (0 : Int32)], hp I107 F108)) rfl ⟨trivial, trivial⟩ ?_
      exact OK_ri okX6_readContract rfl rfl (Or.inr ⟨rfl, Or.inl rfl⟩)
    · refine OK_st 4 okX6_readContract (S' := (65, [(1, .int (0 : Int32)), (0, .ref 1)], [.ref 15, .ref 4], hp I107 F108)) rfl ⟨trivial, trivial, trivial, trivial, trivial⟩ ?_
      refine OK_cv [.ref 15] [] okX6_readContract okX5_addContract rfl rfl cl_RX6_96 rfl rfl (Nat.le_of_ble_eq_true rfl) (by decide) (Nat.le_of_ble_eq_true rfl) (kf_X5_addContract I107 F108) (fun r115 I116 F117 => ?_)
      refine OK_st 1 okX6_readContract (S' := (69, [(1, .int (0 : Int32)), (0, .ref 1)], [.int (0 : Int32)], hp I116 F117)) rfl ⟨trivial, trivial⟩ ?_
      exact OK_ri okX6_readContract rfl rfl (Or.inr ⟨rfl, Or.inl rfl⟩)
  · refine OK_st 8 okX6_readContract (S' := (23, [(0, .ref 1)], [.int ((I107 6) - (1 : Int32)), .int (0 : Int32), .int (1 : Int32), .ref 1], hp I107 F108)) rfl ⟨trivial, trivial, trivial, trivial, trivial, trivial, trivial, trivial, trivial⟩ ?_
    refine OK_cv [.int (1 : Int32), .int (0 : Int32), .int ((I107 6) - (1 : Int32))] [] okX6_readContract okX6_readNumber rfl rfl cl_RX6_85 rfl rfl (Nat.le_of_ble_eq_true rfl) (by decide) (Nat.le_of_ble_eq_true rfl) (kf_X6_readNumber (1 : Int32) (0 : Int32) ((I107 6) - (1 : Int32)) I107 F108) (fun r118 I119 F120 => ?_)
    refine OK_st 1 okX6_readContract (S' := ((if r118 = 0 then 51 else 29), [(0, .ref 1)], [], hp I119 F120)) rfl ⟨trivial, trivial⟩ ?_
    refine OK_if (fun h121 => ?_) (fun h121 => ?_)
    · refine OK_st 4 okX6_readContract (S' := ((if (0 : Int32) = 0 then 68 else 57), [(1, .int (0 : Int32)), (0, .ref 1)], [], hp I119 F120)) rfl ⟨trivial, (by decide), trivial, trivial, trivial⟩ ?_
      refine OK_if (fun h122 => ?_) (fun h122 => ?_)
      · refine OK_st 1 okX6_readContract (S' := (69, [(1, .int (0 : Int32)), (0, .ref 1)], [.int (0 : Int32)], hp I119 F120)) rfl ⟨trivial, trivial⟩ ?_
        exact OK_ri okX6_readContract rfl rfl (Or.inr ⟨rfl, Or.inl rfl⟩)
      · refine OK_st 4 okX6_readContract (S' := (65, [(1, .int (0 : Int32)), (0, .ref 1)], [.ref 15, .ref 4], hp I119 F120)) rfl ⟨trivial, trivial, trivial, trivial, trivial⟩ ?_
        refine OK_cv [.ref 15] [] okX6_readContract okX5_addContract rfl rfl cl_RX6_96 rfl rfl (Nat.le_of_ble_eq_true rfl) (by decide) (Nat.le_of_ble_eq_true rfl) (kf_X5_addContract I119 F120) (fun r123 I124 F125 => ?_)
        refine OK_st 1 okX6_readContract (S' := (69, [(1, .int (0 : Int32)), (0, .ref 1)], [.int (0 : Int32)], hp I124 F125)) rfl ⟨trivial, trivial⟩ ?_
        exact OK_ri okX6_readContract rfl rfl (Or.inr ⟨rfl, Or.inl rfl⟩)
    · refine OK_st 4 okX6_readContract (S' := (34, [(0, .ref 1)], [.int (50 : Int32), .int (1 : Int32), .int (2 : Int32), .ref 1], hp I119 F120)) rfl ⟨trivial, trivial, trivial, trivial, trivial⟩ ?_
      refine OK_cv [.int (2 : Int32), .int (1 : Int32), .int (50 : Int32)] [] okX6_readContract okX6_readNumber rfl rfl cl_RX6_85 rfl rfl (Nat.le_of_ble_eq_true rfl) (by decide) (Nat.le_of_ble_eq_true rfl) (kf_X6_readNumber (2 : Int32) (1 : Int32) (50 : Int32) I119 F120) (fun r126 I127 F128 => ?_)
      refine OK_st 1 okX6_readContract (S' := ((if r126 = 0 then 51 else 40), [(0, .ref 1)], [], hp I127 F128)) rfl ⟨trivial, trivial⟩ ?_
      refine OK_if (fun h129 => ?_) (fun h129 => ?_)
      · refine OK_st 4 okX6_readContract (S' := ((if (0 : Int32) = 0 then 68 else 57), [(1, .int (0 : Int32)), (0, .ref 1)], [], hp I127 F128)) rfl ⟨trivial, (by decide), trivial, trivial, trivial⟩ ?_
        refine OK_if (fun h130 => ?_) (fun h130 => ?_)
        · refine OK_st 1 okX6_readContract (S' := (69, [(1, .int (0 : Int32)), (0, .ref 1)], [.int (0 : Int32)], hp I127 F128)) rfl ⟨trivial, trivial⟩ ?_
          exact OK_ri okX6_readContract rfl rfl (Or.inr ⟨rfl, Or.inl rfl⟩)
        · refine OK_st 4 okX6_readContract (S' := (65, [(1, .int (0 : Int32)), (0, .ref 1)], [.ref 15, .ref 4], hp I127 F128)) rfl ⟨trivial, trivial, trivial, trivial, trivial⟩ ?_
          refine OK_cv [.ref 15] [] okX6_readContract okX5_addContract rfl rfl cl_RX6_96 rfl rfl (Nat.le_of_ble_eq_true rfl) (by decide) (Nat.le_of_ble_eq_true rfl) (kf_X5_addContract I127 F128) (fun r131 I132 F133 => ?_)
          refine OK_st 1 okX6_readContract (S' := (69, [(1, .int (0 : Int32)), (0, .ref 1)], [.int (0 : Int32)], hp I132 F133)) rfl ⟨trivial, trivial⟩ ?_
          exact OK_ri okX6_readContract rfl rfl (Or.inr ⟨rfl, Or.inl rfl⟩)
      · refine OK_st 1 okX6_readContract (S' := (41, [(0, .ref 1)], [.ref 1], hp I127 F128)) rfl ⟨trivial, trivial⟩ ?_
        refine OK_cv [] [] okX6_readContract okX6_readClose rfl rfl cl_RX6_89 rfl rfl (Nat.le_of_ble_eq_true rfl) (by decide) (Nat.le_of_ble_eq_true rfl) (kf_X6_readClose I127 F128) (fun r145 I146 F147 => ?_)
        refine OK_st 1 okX6_readContract (S' := ((if r145 = 0 then 51 else 47), [(0, .ref 1)], [], hp I146 F147)) rfl ⟨trivial, trivial⟩ ?_
        refine OK_if (fun h148 => ?_) (fun h148 => ?_)
        · refine OK_st 4 okX6_readContract (S' := ((if (0 : Int32) = 0 then 68 else 57), [(1, .int (0 : Int32)), (0, .ref 1)], [], hp I146 F147)) rfl ⟨trivial, (by decide), trivial, trivial, trivial⟩ ?_
          refine OK_if (fun h149 => ?_) (fun h149 => ?_)
          · refine OK_st 1 okX6_readContract (S' := (69, [(1, .int (0 : Int32)), (0, .ref 1)], [.int (0 : Int32)], hp I146 F147)) rfl ⟨trivial, trivial⟩ ?_
            exact OK_ri okX6_readContract rfl rfl (Or.inr ⟨rfl, Or.inl rfl⟩)
          · refine OK_st 4 okX6_readContract (S' := (65, [(1, .int (0 : Int32)), (0, .ref 1)], [.ref 15, .ref 4], hp I146 F147)) rfl ⟨trivial, trivial, trivial, trivial, trivial⟩ ?_
            refine OK_cv [.ref 15] [] okX6_readContract okX5_addContract rfl rfl cl_RX6_96 rfl rfl (Nat.le_of_ble_eq_true rfl) (by decide) (Nat.le_of_ble_eq_true rfl) (kf_X5_addContract I146 F147) (fun r150 I151 F152 => ?_)
            refine OK_st 1 okX6_readContract (S' := (69, [(1, .int (0 : Int32)), (0, .ref 1)], [.int (0 : Int32)], hp I151 F152)) rfl ⟨trivial, trivial⟩ ?_
            exact OK_ri okX6_readContract rfl rfl (Or.inr ⟨rfl, Or.inl rfl⟩)
        · refine OK_st 5 okX6_readContract (S' := ((if (1 : Int32) = 0 then 68 else 57), [(1, .int (1 : Int32)), (0, .ref 1)], [], hp I146 F147)) rfl ⟨trivial, trivial, (by decide), trivial, trivial, trivial⟩ ?_
          refine OK_if (fun h153 => ?_) (fun h153 => ?_)
          · refine OK_st 1 okX6_readContract (S' := (69, [(1, .int (1 : Int32)), (0, .ref 1)], [.int (1 : Int32)], hp I146 F147)) rfl ⟨trivial, trivial⟩ ?_
            exact OK_ri okX6_readContract rfl rfl (Or.inr ⟨rfl, Or.inr rfl⟩)
          · refine OK_st 4 okX6_readContract (S' := (65, [(1, .int (1 : Int32)), (0, .ref 1)], [.ref 15, .ref 4], hp I146 F147)) rfl ⟨trivial, trivial, trivial, trivial, trivial⟩ ?_
            refine OK_cv [.ref 15] [] okX6_readContract okX5_addContract rfl rfl cl_RX6_96 rfl rfl (Nat.le_of_ble_eq_true rfl) (by decide) (Nat.le_of_ble_eq_true rfl) (kf_X5_addContract I146 F147) (fun r154 I155 F156 => ?_)
            refine OK_st 1 okX6_readContract (S' := (69, [(1, .int (1 : Int32)), (0, .ref 1)], [.int (1 : Int32)], hp I155 F156)) rfl ⟨trivial, trivial⟩ ?_
            exact OK_ri okX6_readContract rfl rfl (Or.inr ⟨rfl, Or.inr rfl⟩)

def f_X6_readLimb_12 (ko : Int32 → Int32 → AI → AF → AQ) : Nat → Int32 → Int32 → AI → AF → AQ
  | 0, _, _, _, _ => none
  | n + 1, v1, v2, I, F =>
    if (4 : Int32) < v2 then
      ko v1 v2 I F
    else
      if v1 = 0 then
        ko v1 v2 I F
      else
        ab_bd (f_X6_readNumber v2 (0 : Int32) (18 : Int32) I F) (fun r167 I168 F169 =>
          f_X6_readLimb_12 ko n r167 (v2 + (1 : Int32)) I168 F169)
set_option maxRecDepth 20000 in
set_option maxHeartbeats 4000000 in
theorem kf_X6_readLimb_12 (ko : Int32 → Int32 → AI → AF → AQ) (hko : ∀ v1 v2 I F, OK 3 mX6_readLimb true (ko v1 v2 I F) (36, [(0, .ref 1), (1, .int v1), (2, .int v2)], [], hp I F)) : ∀ n v1 v2 I F, OK 3 mX6_readLimb true (f_X6_readLimb_12 ko n v1 v2 I F) (12, [(0, .ref 1), (1, .int v1), (2, .int v2)], [], hp I F) := by
  intro n
  induction n with
  | zero =>
    intro v1 v2 I F
    exact OK_no
  | succ n ih =>
    intro v1 v2 I F
    rw [f_X6_readLimb_12]
    refine OK_st 3 okX6_readLimb (S' := ((if (4 : Int32) < v2 then 36 else 17), [(0, .ref 1), (1, .int v1), (2, .int v2)], [], hp I F)) rfl ⟨trivial, trivial, trivial, trivial⟩ ?_
    refine OK_if (fun h165 => ?_) (fun h165 => ?_)
    · exact hko v1 v2 I F
    · refine OK_st 2 okX6_readLimb (S' := ((if v1 = 0 then 36 else 21), [(0, .ref 1), (1, .int v1), (2, .int v2)], [], hp I F)) rfl ⟨trivial, trivial, trivial⟩ ?_
      refine OK_if (fun h166 => ?_) (fun h166 => ?_)
      · exact hko v1 v2 I F
      · refine OK_st 4 okX6_readLimb (S' := (26, [(0, .ref 1), (1, .int v1), (2, .int v2)], [.int (18 : Int32), .int (0 : Int32), .int v2, .ref 1], hp I F)) rfl ⟨trivial, trivial, trivial, trivial, trivial⟩ ?_
        refine OK_cv [.int v2, .int (0 : Int32), .int (18 : Int32)] [] okX6_readLimb okX6_readNumber rfl rfl cl_RX6_85 rfl rfl (Nat.le_of_ble_eq_true rfl) (by decide) (Nat.le_of_ble_eq_true rfl) (kf_X6_readNumber v2 (0 : Int32) (18 : Int32) I F) (fun r167 I168 F169 => ?_)
        refine OK_st 3 okX6_readLimb (S' := (12, [(2, .int (v2 + (1 : Int32))), (1, .int r167), (0, .ref 1)], [], hp I168 F169)) rfl ⟨(by decide), (by decide), trivial, trivial⟩ ?_
        refine OK_pk [2, 1, 0] rfl ?_
        exact ih r167 (v2 + (1 : Int32)) I168 F169

def f_X5_addLimb (I : AI) (F : AF) : AQ :=
  if (6 : Int32) ≤ (I 6) then
    some (0, I, F)
  else
    bif ab_vin (I 6) 6 then
      bif ab_cg (1 : Int32) ((I 6) * (4 : Int32)) (4 : Int32) 5 24 then
        bif ab_vin (I 6) 6 then
          some (0, (va_up I 6 ((I 6) + (1 : Int32))), (va_up (va_up (va_up F 1 (upd (F 1) (I 6).toNatClampNeg ((F 11) 0))) 2 (va_cpy (F 11) (F 2) 1 ((I 6) * (4 : Int32)).toNatClampNeg 4)) 3 (upd (F 3) (I 6).toNatClampNeg (-1 : Int32))))
        else none
      else none
    else none
set_option maxRecDepth 20000 in
set_option maxHeartbeats 4000000 in
theorem kf_X5_addLimb (I : AI) (F : AF) : OK 0 mX5_addLimb false (f_X5_addLimb I F) (0, [(0, .ref 4), (1, .ref 15)], [], hp I F) := by
  rw [f_X5_addLimb]
  refine OK_st 4 okX5_addLimb (S' := ((if (6 : Int32) ≤ (I 6) then 57 else 9), [(0, .ref 4), (1, .ref 15)], [], hp I F)) rfl ⟨trivial, trivial, trivial, trivial, trivial⟩ ?_
  refine OK_if (fun h176 => ?_) (fun h176 => ?_)
  · exact OK_rv okX5_addLimb rfl rfl rfl
  · refine OK_gd (fun g177 => ?_)
    refine OK_gd (fun g178 => ?_)
    refine OK_gd (fun g179 => ?_)
    refine OK_st 30 okX5_addLimb (S' := (57, [(0, .ref 4), (1, .ref 15)], [], hp (va_up I 6 ((I 6) + (1 : Int32))) (va_up (va_up (va_up F 1 (upd (F 1) (I 6).toNatClampNeg ((F 11) 0))) 2 (va_cpy (F 11) (F 2) 1 ((I 6) * (4 : Int32)).toNatClampNeg 4)) 3 (upd (F 3) (I 6).toNatClampNeg (-1 : Int32))))) rfl ⟨trivial, trivial, trivial, trivial, trivial, trivial, (ab_vo (by decide)), (ab_vo g177), trivial, trivial, trivial, trivial, trivial, trivial, trivial, trivial, trivial, ab_cgo g178 (Nat.le_of_ble_eq_true rfl), trivial, trivial, trivial, trivial, trivial, (ab_vo g179), trivial, rfl, trivial, trivial, trivial, trivial, trivial⟩ ?_
    exact OK_rv okX5_addLimb rfl rfl rfl

def f_X6_readLimb_j36 (v1 : Int32) (I : AI) (F : AF) : AQ :=
  if v1 = 0 then
    if (0 : Int32) = 0 then
      some ((0 : Int32), I, F)
    else
      ab_bd (f_X5_addLimb I F) (fun r180 I181 F182 =>
        some ((0 : Int32), I181, F182))
  else
    ab_bd (f_X6_readClose I F) (fun r183 I184 F185 =>
      if r183 = 0 then
        if (0 : Int32) = 0 then
          some ((0 : Int32), I184, F185)
        else
          ab_bd (f_X5_addLimb I184 F185) (fun r188 I189 F190 =>
            some ((0 : Int32), I189, F190))
      else
        if (1 : Int32) = 0 then
          some ((1 : Int32), I184, F185)
        else
          ab_bd (f_X5_addLimb I184 F185) (fun r192 I193 F194 =>
            some ((1 : Int32), I193, F194)))
set_option maxRecDepth 20000 in
set_option maxHeartbeats 4000000 in
theorem kf_X6_readLimb_j36 (v1 : Int32) (I : AI) (F : AF) : OK 3 mX6_readLimb true (f_X6_readLimb_j36 v1 I F) (36, [(0, .ref 1), (1, .int v1)], [], hp I F) := by
  rw [f_X6_readLimb_j36]
  refine OK_st 2 okX6_readLimb (S' := ((if v1 = 0 then 51 else 40), [(0, .ref 1), (1, .int v1)], [], hp I F)) rfl ⟨trivial, trivial, trivial⟩ ?_
  refine OK_if (fun h174 => ?_) (fun h174 => ?_)
  · refine OK_st 4 okX6_readLimb (S' := ((if (0 : Int32) = 0 then 68 else 57), [(1, .int (0 : Int32)), (0, .ref 1)], [], hp I F)) rfl ⟨trivial, (by decide), trivial, trivial, trivial⟩ ?_
    refine OK_if (fun h175 => ?_) (fun h175 => ?_)
    · refine OK_st 1 okX6_readLimb (S' := (69, [(1, .int (0 : Int32)), (0, .ref 1)], [.int (0 : Int32)], hp I F)) rfl ⟨trivial, trivial⟩ ?_
      exact OK_ri okX6_readLimb rfl rfl (Or.inr ⟨rfl, Or.inl rfl⟩)
    · refine OK_st 4 okX6_readLimb (S' := (65, [(1, .int (0 : Int32)), (0, .ref 1)], [.ref 15, .ref 4], hp I F)) rfl ⟨trivial, trivial, trivial, trivial, trivial⟩ ?_
      refine OK_cv [.ref 15] [] okX6_readLimb okX5_addLimb rfl rfl cl_RX6_92 rfl rfl (Nat.le_of_ble_eq_true rfl) (by decide) (Nat.le_of_ble_eq_true rfl) (kf_X5_addLimb I F) (fun r180 I181 F182 => ?_)
      refine OK_st 1 okX6_readLimb (S' := (69, [(1, .int (0 : Int32)), (0, .ref 1)], [.int (0 : Int32)], hp I181 F182)) rfl ⟨trivial, trivial⟩ ?_
      exact OK_ri okX6_readLimb rfl rfl (Or.inr ⟨rfl, Or.inl rfl⟩)
  · refine OK_st 1 okX6_readLimb (S' := (41, [(0, .ref 1), (1, .int v1)], [.ref 1], hp I F)) rfl ⟨trivial, trivial⟩ ?_
    refine OK_cv [] [] okX6_readLimb okX6_readClose rfl rfl cl_RX6_89 rfl rfl (Nat.le_of_ble_eq_true rfl) (by decide) (Nat.le_of_ble_eq_true rfl) (kf_X6_readClose I F) (fun r183 I184 F185 => ?_)
    refine OK_st 1 okX6_readLimb (S' := ((if r183 = 0 then 51 else 47), [(0, .ref 1), (1, .int v1)], [], hp I184 F185)) rfl ⟨trivial, trivial⟩ ?_
    refine OK_if (fun h186 => ?_) (fun h186 => ?_)
    · refine OK_st 4 okX6_readLimb (S' := ((if (0 : Int32) = 0 then 68 else 57), [(1, .int (0 : Int32)), (0, .ref 1)], [], hp I184 F185)) rfl ⟨trivial, (by decide), trivial, trivial, trivial⟩ ?_
      refine OK_if (fun h187 => ?_) (fun h187 => ?_)
      · refine OK_st 1 okX6_readLimb (S' := (69, [(1, .int (0 : Int32)), (0, .ref 1)], [.int (0 : Int32)], hp I184 F185)) rfl ⟨trivial, trivial⟩ ?_
        exact OK_ri okX6_readLimb rfl rfl (Or.inr ⟨rfl, Or.inl rfl⟩)
      · refine OK_st 4 okX6_readLimb (S' := (65, [(1, .int (0 : Int32)), (0, .ref 1)], [.ref 15, .ref 4], hp I184 F185)) rfl ⟨trivial, trivial, trivial, trivial, trivial⟩ ?_
        refine OK_cv [.ref 15] [] okX6_readLimb okX5_addLimb rfl rfl cl_RX6_92 rfl rfl (Nat.le_of_ble_eq_true rfl) (by decide) (Nat.le_of_ble_eq_true rfl) (kf_X5_addLimb I184 F185) (fun r188 I189 F190 => ?_)
        refine OK_st 1 okX6_readLimb (S' := (69, [(1, .int (0 : Int32)), (0, .ref 1)], [.int (0 : Int32)], hp I189 F190)) rfl ⟨trivial, trivial⟩ ?_
        exact OK_ri okX6_readLimb rfl rfl (Or.inr ⟨rfl, Or.inl rfl⟩)
    · refine OK_st 5 okX6_readLimb (S' := ((if (1 : Int32) = 0 then 68 else 57), [(1, .int (1 : Int32)), (0, .ref 1)], [], hp I184 F185)) rfl ⟨trivial, trivial, (by decide), trivial, trivial, trivial⟩ ?_
      refine OK_if (fun h191 => ?_) (fun h191 => ?_)
      · refine OK_st 1 okX6_readLimb (S' := (69, [(1, .int (1 : Int32)), (0, .ref 1)], [.int (1 : Int32)], hp I184 F185)) rfl ⟨trivial, trivial⟩ ?_
        exact OK_ri okX6_readLimb rfl rfl (Or.inr ⟨rfl, Or.inr rfl⟩)
      · refine OK_st 4 okX6_readLimb (S' := (65, [(1, .int (1 : Int32)), (0, .ref 1)], [.ref 15, .ref 4], hp I184 F185)) rfl ⟨trivial, trivial, trivial, trivial, trivial⟩ ?_
        refine OK_cv [.ref 15] [] okX6_readLimb okX5_addLimb rfl rfl cl_RX6_92 rfl rfl (Nat.le_of_ble_eq_true rfl) (by decide) (Nat.le_of_ble_eq_true rfl) (kf_X5_addLimb I184 F185) (fun r192 I193 F194 => ?_)
        refine OK_st 1 okX6_readLimb (S' := (69, [(1, .int (1 : Int32)), (0, .ref 1)], [.int (1 : Int32)], hp I193 F194)) rfl ⟨trivial, trivial⟩ ?_
        exact OK_ri okX6_readLimb rfl rfl (Or.inr ⟨rfl, Or.inr rfl⟩)

def f_X6_readLimb (I : AI) (F : AF) : AQ :=
  ab_bd (f_X6_readNumber (0 : Int32) (20 : Int32) (99 : Int32) I F) (fun r162 I163 F164 =>
    f_X6_readLimb_12 (fun v1_170 v2_171 I172 F173 =>
      f_X6_readLimb_j36 v1_170 I172 F173) ab_fu r162 (1 : Int32) I163 F164)
set_option maxRecDepth 20000 in
set_option maxHeartbeats 4000000 in
theorem kf_X6_readLimb (I : AI) (F : AF) : OK 3 mX6_readLimb true (f_X6_readLimb I F) (0, [(0, .ref 1)], [], hp I F) := by
  rw [f_X6_readLimb]
  refine OK_st 4 okX6_readLimb (S' := (6, [(0, .ref 1)], [.int (99 : Int32), .int (20 : Int32), .int (0 : Int32), .ref 1], hp I F)) rfl ⟨trivial, trivial, trivial, trivial, trivial⟩ ?_
  refine OK_cv [.int (0 : Int32), .int (20 : Int32), .int (99 : Int32)] [] okX6_readLimb okX6_readNumber rfl rfl cl_RX6_85 rfl rfl (Nat.le_of_ble_eq_true rfl) (by decide) (Nat.le_of_ble_eq_true rfl) (kf_X6_readNumber (0 : Int32) (20 : Int32) (99 : Int32) I F) (fun r162 I163 F164 => ?_)
  refine OK_st 3 okX6_readLimb (S' := (12, [(2, .int (1 : Int32)), (1, .int r162), (0, .ref 1)], [], hp I163 F164)) rfl ⟨(by decide), trivial, (by decide), trivial⟩ ?_
  refine OK_pk [2, 1, 0] rfl ?_
  refine kf_X6_readLimb_12 _ (fun v1_170 v2_171 I172 F173 => ?_) ab_fu r162 (1 : Int32) I163 F164
  refine OK_pk [0, 1] rfl ?_
  exact kf_X6_readLimb_j36 v1_170 I172 F173

def f_X5_addRate (I : AI) (F : AF) : AQ :=
  if (8 : Int32) ≤ (I 8) then
    some (0, I, F)
  else
    bif ab_vin (I 8) 8 then
      bif ab_vin (I 8) 8 then
        bif ab_vin (I 8) 8 then
          bif ab_vin (I 8) 8 then
            some (0, (va_up I 8 ((I 8) + (1 : Int32))), (va_up (va_up (va_up (va_up F 7 (upd (F 7) (I 8).toNatClampNeg ((F 11) 0))) 8 (upd (F 8) (I 8).toNatClampNeg ((F 11) 1))) 9 (upd (F 9) (I 8).toNatClampNeg ((F 11) 2))) 10 (upd (F 10) (I 8).toNatClampNeg ((F 11) 3))))
          else none
        else none
      else none
    else none
set_option maxRecDepth 20000 in
set_option maxHeartbeats 4000000 in
theorem kf_X5_addRate (I : AI) (F : AF) : OK 0 mX5_addRate false (f_X5_addRate I F) (0, [(0, .ref 4), (1, .ref 15)], [], hp I F) := by
  rw [f_X5_addRate]
  refine OK_st 4 okX5_addRate (S' := ((if (8 : Int32) ≤ (I 8) then 67 else 9), [(0, .ref 4), (1, .ref 15)], [], hp I F)) rfl ⟨trivial, trivial, trivial, trivial, trivial⟩ ?_
  refine OK_if (fun h205 => ?_) (fun h205 => ?_)
  · exact OK_rv okX5_addRate rfl rfl rfl
  · refine OK_gd (fun g206 => ?_)
    refine OK_gd (fun g207 => ?_)
    refine OK_gd (fun g208 => ?_)
    refine OK_gd (fun g209 => ?_)
    refine OK_st 38 okX5_addRate (S' := (67, [(0, .ref 4), (1, .ref 15)], [], hp (va_up I 8 ((I 8) + (1 : Int32))) (va_up (va_up (va_up (va_up F 7 (upd (F 7) (I 8).toNatClampNeg ((F 11) 0))) 8 (upd (F 8) (I 8).toNatClampNeg ((F 11) 1))) 9 (upd (F 9) (I 8).toNatClampNeg ((F 11) 2))) 10 (upd (F 10) (I 8).toNatClampNeg ((F 11) 3))))) rfl ⟨trivial, trivial, trivial, trivial, trivial, trivial, (ab_vo (by decide)), (ab_vo g206), trivial, trivial, trivial, trivial, trivial, trivial, (ab_vo (by decide)), (ab_vo g207), trivial, trivial, trivial, trivial, trivial, trivial, (ab_vo (by decide)), (ab_vo g208), trivial, trivial, trivial, trivial, trivial, trivial, (ab_vo (by decide)), (ab_vo g209), trivial, rfl, trivial, trivial, trivial, trivial, trivial⟩ ?_
    exact OK_rv okX5_addRate rfl rfl rfl

def f_X6_isUnlike (I : AI) (F : AF) : AQ :=
  if ¬ ((F 11) 0) = ((F 11) 1) then
    some ((1 : Int32), I, F)
  else
    ab_bd (f_X6_fail (4 : Int32) (I 2) I F) (fun r222 I223 F224 =>
      if r222 = 0 then
        some ((0 : Int32), I223, F224)
      else
        some ((1 : Int32), I223, F224))
set_option maxRecDepth 20000 in
set_option maxHeartbeats 4000000 in
theorem kf_X6_isUnlike (I : AI) (F : AF) : OK 1 mX6_isUnlike true (f_X6_isUnlike I F) (0, [(0, .ref 1)], [], hp I F) := by
  rw [f_X6_isUnlike]
  refine OK_st 9 okX6_isUnlike (S' := ((if ¬ ((F 11) 0) = ((F 11) 1) then 27 else 15), [(0, .ref 1)], [], hp I F)) rfl ⟨trivial, trivial, trivial, (ab_vo (by decide)), trivial, trivial, trivial, (ab_vo (by decide)), trivial, trivial⟩ ?_
  refine OK_if (fun h221 => ?_) (fun h221 => ?_)
  · refine OK_st 2 okX6_isUnlike (S' := (32, [(0, .ref 1)], [.int (1 : Int32)], hp I F)) rfl ⟨trivial, trivial, trivial⟩ ?_
    exact OK_ri okX6_isUnlike rfl rfl (Or.inr ⟨rfl, Or.inr rfl⟩)
  · refine OK_st 4 okX6_isUnlike (S' := (21, [(0, .ref 1)], [.int (I 2), .int (4 : Int32), .ref 1], hp I F)) rfl ⟨trivial, trivial, trivial, trivial, trivial⟩ ?_
    refine OK_cv [.int (4 : Int32), .int (I 2)] [] okX6_isUnlike okX6_fail rfl rfl cl_RX6_57 rfl rfl (Nat.le_of_ble_eq_true rfl) (by decide) (Nat.le_of_ble_eq_true rfl) (kf_X6_fail (4 : Int32) (I 2) I F) (fun r222 I223 F224 => ?_)
    refine OK_st 1 okX6_isUnlike (S' := ((if r222 = 0 then 31 else 27), [(0, .ref 1)], [], hp I223 F224)) rfl ⟨trivial, trivial⟩ ?_
    refine OK_if (fun h225 => ?_) (fun h225 => ?_)
    · refine OK_st 1 okX6_isUnlike (S' := (32, [(0, .ref 1)], [.int (0 : Int32)], hp I223 F224)) rfl ⟨trivial, trivial⟩ ?_
      exact OK_ri okX6_isUnlike rfl rfl (Or.inr ⟨rfl, Or.inl rfl⟩)
    · refine OK_st 2 okX6_isUnlike (S' := (32, [(0, .ref 1)], [.int (1 : Int32)], hp I223 F224)) rfl ⟨trivial, trivial, trivial⟩ ?_
      exact OK_ri okX6_isUnlike rfl rfl (Or.inr ⟨rfl, Or.inr rfl⟩)

def f_X6_readRate (I : AI) (F : AF) : AQ :=
  ab_bd (f_X6_readNumber (0 : Int32) (0 : Int32) ((I 6) - (1 : Int32)) I F) (fun r200 I201 F202 =>
    if r200 = 0 then
      if (0 : Int32) = 0 then
        some ((0 : Int32), I201, F202)
      else
        ab_bd (f_X5_addRate I201 F202) (fun r210 I211 F212 =>
          some ((0 : Int32), I211, F212))
    else
      ab_bd (f_X6_readNumber (1 : Int32) (0 : Int32) ((I201 6) - (1 : Int32)) I201 F202) (fun r213 I214 F215 =>
        if r213 = 0 then
          if (0 : Int32) = 0 then
            some ((0 : Int32), I214, F215)
          else
            ab_bd (f_X5_addRate I214 F215) (fun r218 I219 F220 =>
              some ((0 : Int32), I219, F220))
        else
          ab_bd (f_X6_isUnlike I214 F215) (fun r226 I227 F228 =>
            if r226 = 0 then
              if (0 : Int32) = 0 then
                some ((0 : Int32), I227, F228)
              else
                ab_bd (f_X5_addRate I227 F228) (fun r231 I232 F233 =>
                  some ((0 : Int32), I232, F233))
            else
              ab_bd (f_X6_readNumber (2 : Int32) (1 : Int32) (20 : Int32) I227 F228) (fun r234 I235 F236 =>
                if r234 = 0 then
                  if (0 : Int32) = 0 then
                    some ((0 : Int32), I235, F236)
                  else
                    ab_bd (f_X5_addRate I235 F236) (fun r239 I240 F241 =>
                      some ((0 : Int32), I240, F241))
                else
                  ab_bd (f_X6_readNumber (3 : Int32) (1 : Int32) (20 : Int32) I235 F236) (fun r242 I243 F244 =>
                    if r242 = 0 then
                      if (0 : Int32) = 0 then
                        some ((0 : Int32), I243, F244)
                      else
                        ab_bd (f_X5_addRate I243 F244) (fun r247 I248 F249 =>
                          some ((0 : Int32), I248, F249))
                    else
                      ab_bd (f_X6_readClose I243 F244) (fun r250 I251 F252 =>
                        if r250 = 0 then
                          if (0 : Int32) = 0 then
                            some ((0 : Int32), I251, F252)
                          else
                            ab_bd (f_X5_addRate I251 F252) (fun r255 I256 F257 =>
                              some ((0 : Int32), I256, F257))
                        else
                          if (1 : Int32) = 0 then
                            some ((1 : Int32), I251, F252)
                          else
                            ab_bd (f_X5_addRate I251 F252) (fun r259 I260 F261 =>
                              some ((1 : Int32), I260, F261))))))))
set_option maxRecDepth 20000 in
set_option maxHeartbeats 4000000 in
theorem kf_X6_readRate (I : AI) (F : AF) : OK 3 mX6_readRate true (f_X6_readRate I F) (0, [(0, .ref 1)], [], hp I F) := by
  rw [f_X6_readRate]
  refine OK_st 8 okX6_readRate (S' := (12, [(0, .ref 1)], [.int ((I 6) - (1 : Int32)), .int (0 : Int32), .int (0 : Int32), .ref 1], hp I F)) rfl ⟨trivial, trivial, trivial, trivial, trivial, trivial, trivial, trivial, trivial⟩ ?_
  refine OK_cv [.int (0 : Int32), .int (0 : Int32), .int ((I 6) - (1 : Int32))] [] okX6_readRate okX6_readNumber rfl rfl cl_RX6_85 rfl rfl (Nat.le_of_ble_eq_true rfl) (by decide) (Nat.le_of_ble_eq_true rfl) (kf_X6_readNumber (0 : Int32) (0 : Int32) ((I 6) - (1 : Int32)) I F) (fun r200 I201 F202 => ?_)
  refine OK_st 1 okX6_readRate (S' := ((if r200 = 0 then 76 else 18), [(0, .ref 1)], [], hp I201 F202)) rfl ⟨trivial, trivial⟩ ?_
  refine OK_if (fun h203 => ?_) (fun h203 => ?_)
  · refine OK_st 4 okX6_readRate (S' := ((if (0 : Int32) = 0 then 93 else 82), [(1, .int (0 : Int32)), (0, .ref 1)], [], hp I201 F202)) rfl ⟨trivial, (by decide), trivial, trivial, trivial⟩ ?_
    refine OK_if (fun h204 => ?_) (fun h204 => ?_)
    · refine OK_st 1 okX6_readRate (S' := (94, [(1, .int (0 : Int32)), (0, .ref 1)], [.int (0 : Int32)], hp I201 F202)) rfl ⟨trivial, trivial⟩ ?_
      exact OK_ri okX6_readRate rfl rfl (Or.inr ⟨rfl, Or.inl rfl⟩)
    · refine OK_st 4 okX6_readRate (S' := (90, [(1, .int (0 : Int32)), (0, .ref 1)], [.ref 15, .ref 4], hp I201 F202)) rfl ⟨trivial, trivial, trivial, trivial, trivial⟩ ?_
      refine OK_cv [.ref 15] [] okX6_readRate okX5_addRate rfl rfl cl_RX6_102 rfl rfl (Nat.le_of_ble_eq_true rfl) (by decide) (Nat.le_of_ble_eq_true rfl) (kf_X5_addRate I201 F202) (fun r210 I211 F212 => ?_)
      refine OK_st 1 okX6_readRate (S' := (94, [(1, .int (0 : Int32)), (0, .ref 1)], [.int (0 : Int32)], hp I211 F212)) rfl ⟨trivial, trivial⟩ ?_
      exact OK_ri okX6_readRate rfl rfl (Or.inr ⟨rfl, Or.inl rfl⟩)
  · refine OK_st 8 okX6_readRate (S' := (30, [(0, .ref 1)], [.int ((I201 6) - (1 : Int32)), .int (0 : Int32), .int (1 : Int32), .ref 1], hp I201 F202)) rfl ⟨trivial, trivial, trivial, trivial, trivial, trivial, trivial, trivial, trivial⟩ ?_
    refine OK_cv [.int (1 : Int32), .int (0 : Int32), .int ((I201 6) - (1 : Int32))] [] okX6_readRate okX6_readNumber rfl rfl cl_RX6_85 rfl rfl (Nat.le_of_ble_eq_true rfl) (by decide) (Nat.le_of_ble_eq_true rfl) (kf_X6_readNumber (1 : Int32) (0 : Int32) ((I201 6) - (1 : Int32)) I201 F202) (fun r213 I214 F215 => ?_)
    refine OK_st 1 okX6_readRate (S' := ((if r213 = 0 then 76 else 36), [(0, .ref 1)], [], hp I214 F215)) rfl ⟨trivial, trivial⟩ ?_
    refine OK_if (fun h216 => ?_) (fun h216 => ?_)
    · refine OK_st 4 okX6_readRate (S' := ((if (0 : Int32) = 0 then 93 else 82), [(1, .int (0 : Int32)), (0, .ref 1)], [], hp I214 F215)) rfl ⟨trivial, (by decide), trivial, trivial, trivial⟩ ?_
      refine OK_if (fun h217 => ?_) (fun h217 => ?_)
      · refine OK_st 1 okX6_readRate (S' := (94, [(1, .int (0 : Int32)), (0, .ref 1)], [.int (0 : Int32)], hp I214 F215)) rfl ⟨trivial, trivial⟩ ?_
        exact OK_ri okX6_readRate rfl rfl (Or.inr ⟨rfl, Or.inl rfl⟩)
      · refine OK_st 4 okX6_readRate (S' := (90, [(1, .int (0 : Int32)), (0, .ref 1)], [.ref 15, .ref 4], hp I214 F215)) rfl ⟨trivial, trivial, trivial, trivial, trivial⟩ ?_
        refine OK_cv [.ref 15] [] okX6_readRate okX5_addRate rfl rfl cl_RX6_102 rfl rfl (Nat.le_of_ble_eq_true rfl) (by decide) (Nat.le_of_ble_eq_true rfl) (kf_X5_addRate I214 F215) (fun r218 I219 F220 => ?_)
        refine OK_st 1 okX6_readRate (S' := (94, [(1, .int (0 : Int32)), (0, .ref 1)], [.int (0 : Int32)], hp I219 F220)) rfl ⟨trivial, trivial⟩ ?_
        exact OK_ri okX6_readRate rfl rfl (Or.inr ⟨rfl, Or.inl rfl⟩)
    · refine OK_st 1 okX6_readRate (S' := (37, [(0, .ref 1)], [.ref 1], hp I214 F215)) rfl ⟨trivial, trivial⟩ ?_
      refine OK_cv [] [] okX6_readRate okX6_isUnlike rfl rfl cl_RX6_99 rfl rfl (Nat.le_of_ble_eq_true rfl) (by decide) (Nat.le_of_ble_eq_true rfl) (kf_X6_isUnlike I214 F215) (fun r226 I227 F228 => ?_)
      refine OK_st 1 okX6_readRate (S' := ((if r226 = 0 then 76 else 43), [(0, .ref 1)], [], hp I227 F228)) rfl ⟨trivial, trivial⟩ ?_
      refine OK_if (fun h229 => ?_) (fun h229 => ?_)
      · refine OK_st 4 okX6_readRate (S' := ((if (0 : Int32) = 0 then 93 else 82), [(1, .int (0 : Int32)), (0, .ref 1)], [], hp I227 F228)) rfl ⟨trivial, (by decide), trivial, trivial, trivial⟩ ?_
        refine OK_if (fun h230 => ?_) (fun h230 => ?_)
        · refine OK_st 1 okX6_readRate (S' := (94, [(1, .int (0 : Int32)), (0, .ref 1)], [.int (0 : Int32)], hp I227 F228)) rfl ⟨trivial, trivial⟩ ?_
          exact OK_ri okX6_readRate rfl rfl (Or.inr ⟨rfl, Or.inl rfl⟩)
        · refine OK_st 4 okX6_readRate (S' := (90, [(1, .int (0 : Int32)), (0, .ref 1)], [.ref 15, .ref 4], hp I227 F228)) rfl ⟨trivial, trivial, trivial, trivial, trivial⟩ ?_
          refine OK_cv [.ref 15] [] okX6_readRate okX5_addRate rfl rfl cl_RX6_102 rfl rfl (Nat.le_of_ble_eq_true rfl) (by decide) (Nat.le_of_ble_eq_true rfl) (kf_X5_addRate I227 F228) (fun r231 I232 F233 => ?_)
          refine OK_st 1 okX6_readRate (S' := (94, [(1, .int (0 : Int32)), (0, .ref 1)], [.int (0 : Int32)], hp I232 F233)) rfl ⟨trivial, trivial⟩ ?_
          exact OK_ri okX6_readRate rfl rfl (Or.inr ⟨rfl, Or.inl rfl⟩)
      · refine OK_st 4 okX6_readRate (S' := (48, [(0, .ref 1)], [.int (20 : Int32), .int (1 : Int32), .int (2 : Int32), .ref 1], hp I227 F228)) rfl ⟨trivial, trivial, trivial, trivial, trivial⟩ ?_
        refine OK_cv [.int (2 : Int32), .int (1 : Int32), .int (20 : Int32)] [] okX6_readRate okX6_readNumber rfl rfl cl_RX6_85 rfl rfl (Nat.le_of_ble_eq_true rfl) (by decide) (Nat.le_of_ble_eq_true rfl) (kf_X6_readNumber (2 : Int32) (1 : Int32) (20 : Int32) I227 F228) (fun r234 I235 F236 => ?_)
        refine OK_st 1 okX6_readRate (S' := ((if r234 = 0 then 76 else 54), [(0, .ref 1)], [], hp I235 F236)) rfl ⟨trivial, trivial⟩ ?_
        refine OK_if (fun h237 => ?_) (fun h237 => ?_)
        · refine OK_st 4 okX6_readRate (S' := ((if (0 : Int32) = 0 then 93 else 82), [(1, .int (0 : Int32)), (0, .ref 1)], [], hp I235 F236)) rfl ⟨trivial, (by decide), trivial, trivial, trivial⟩ ?_
          refine OK_if (fun h238 => ?_) (fun h238 => ?_)
          · refine OK_st 1 okX6_readRate (S' := (94, [(1, .int (0 : Int32)), (0, .ref 1)], [.int (0 : Int32)], hp I235 F236)) rfl ⟨trivial, trivial⟩ ?_
            exact OK_ri okX6_readRate rfl rfl (Or.inr ⟨rfl, Or.inl rfl⟩)
          · refine OK_st 4 okX6_readRate (S' := (90, [(1, .int (0 : Int32)), (0, .ref 1)], [.ref 15, .ref 4], hp I235 F236)) rfl ⟨trivial, trivial, trivial, trivial, trivial⟩ ?_
            refine OK_cv [.ref 15] [] okX6_readRate okX5_addRate rfl rfl cl_RX6_102 rfl rfl (Nat.le_of_ble_eq_true rfl) (by decide) (Nat.le_of_ble_eq_true rfl) (kf_X5_addRate I235 F236) (fun r239 I240 F241 => ?_)
            refine OK_st 1 okX6_readRate (S' := (94, [(1, .int (0 : Int32)), (0, .ref 1)], [.int (0 : Int32)], hp I240 F241)) rfl ⟨trivial, trivial⟩ ?_
            exact OK_ri okX6_readRate rfl rfl (Or.inr ⟨rfl, Or.inl rfl⟩)
        · refine OK_st 4 okX6_readRate (S' := (59, [(0, .ref 1)], [.int (20 : Int32), .int (1 : Int32), .int (3 : Int32), .ref 1], hp I235 F236)) rfl ⟨trivial, trivial, trivial, trivial, trivial⟩ ?_
          refine OK_cv [.int (3 : Int32), .int (1 : Int32), .int (20 : Int32)] [] okX6_readRate okX6_readNumber rfl rfl cl_RX6_85 rfl rfl (Nat.le_of_ble_eq_true rfl) (by decide) (Nat.le_of_ble_eq_true rfl) (kf_X6_readNumber (3 : Int32) (1 : Int32) (20 : Int32) I235 F236) (fun r242 I243 F244 => ?_)
          refine OK_st 1 okX6_readRate (S' := ((if r242 = 0 then 76 else 65), [(0, .ref 1)], [], hp I243 F244)) rfl ⟨trivial, trivial⟩ ?_
          refine OK_if (fun h245 => ?_) (fun h245 => ?_)
          · refine OK_st 4 okX6_readRate (S' := ((if (0 : Int32) = 0 then 93 else 82), [(1, .int (0 : Int32)), (0, .ref 1)], [], hp I243 F244)) rfl ⟨trivial, (by decide), trivial, trivial, trivial⟩ ?_
            refine OK_if (fun h246 => ?_) (fun h246 => ?_)
            · refine OK_st 1 okX6_readRate (S' := (94, [(1, .int (0 : Int32)), (0, .ref 1)], [.int (0 : Int32)], hp I243 F244)) rfl ⟨trivial, trivial⟩ ?_
              exact OK_ri okX6_readRate rfl rfl (Or.inr ⟨rfl, Or.inl rfl⟩)
            · refine OK_st 4 okX6_readRate (S' := (90, [(1, .int (0 : Int32)), (0, .ref 1)], [.ref 15, .ref 4], hp I243 F244)) rfl ⟨trivial, trivial, trivial, trivial, trivial⟩ ?_
              refine OK_cv [.ref 15] [] okX6_readRate okX5_addRate rfl rfl cl_RX6_102 rfl rfl (Nat.le_of_ble_eq_true rfl) (by decide) (Nat.le_of_ble_eq_true rfl) (kf_X5_addRate I243 F244) (fun r247 I248 F249 => ?_)
              refine OK_st 1 okX6_readRate (S' := (94, [(1, .int (0 : Int32)), (0, .ref 1)], [.int (0 : Int32)], hp I248 F249)) rfl ⟨trivial, trivial⟩ ?_
              exact OK_ri okX6_readRate rfl rfl (Or.inr ⟨rfl, Or.inl rfl⟩)
          · refine OK_st 1 okX6_readRate (S' := (66, [(0, .ref 1)], [.ref 1], hp I243 F244)) rfl ⟨trivial, trivial⟩ ?_
            refine OK_cv [] [] okX6_readRate okX6_readClose rfl rfl cl_RX6_89 rfl rfl (Nat.le_of_ble_eq_true rfl) (by decide) (Nat.le_of_ble_eq_true rfl) (kf_X6_readClose I243 F244) (fun r250 I251 F252 => ?_)
            refine OK_st 1 okX6_readRate (S' := ((if r250 = 0 then 76 else 72), [(0, .ref 1)], [], hp I251 F252)) rfl ⟨trivial, trivial⟩ ?_
            refine OK_if (fun h253 => ?_) (fun h253 => ?_)
            · refine OK_st 4 okX6_readRate (S' := ((if (0 : Int32) = 0 then 93 else 82), [(1, .int (0 : Int32)), (0, .ref 1)], [], hp I251 F252)) rfl ⟨trivial, (by decide), trivial, trivial, trivial⟩ ?_
              refine OK_if (fun h254 => ?_) (fun h254 => ?_)
              · refine OK_st 1 okX6_readRate (S' := (94, [(1, .int (0 : Int32)), (0, .ref 1)], [.int (0 : Int32)], hp I251 F252)) rfl ⟨trivial, trivial⟩ ?_
                exact OK_ri okX6_readRate rfl rfl (Or.inr ⟨rfl, Or.inl rfl⟩)
              · refine OK_st 4 okX6_readRate (S' := (90, [(1, .int (0 : Int32)), (0, .ref 1)], [.ref 15, .ref 4], hp I251 F252)) rfl ⟨trivial, trivial, trivial, trivial, trivial⟩ ?_
                refine OK_cv [.ref 15] [] okX6_readRate okX5_addRate rfl rfl cl_RX6_102 rfl rfl (Nat.le_of_ble_eq_true rfl) (by decide) (Nat.le_of_ble_eq_true rfl) (kf_X5_addRate I251 F252) (fun r255 I256 F257 => ?_)
                refine OK_st 1 okX6_readRate (S' := (94, [(1, .int (0 : Int32)), (0, .ref 1)], [.int (0 : Int32)], hp I256 F257)) rfl ⟨trivial, trivial⟩ ?_
                exact OK_ri okX6_readRate rfl rfl (Or.inr ⟨rfl, Or.inl rfl⟩)
            · refine OK_st 5 okX6_readRate (S' := ((if (1 : Int32) = 0 then 93 else 82), [(1, .int (1 : Int32)), (0, .ref 1)], [], hp I251 F252)) rfl ⟨trivial, trivial, (by decide), trivial, trivial, trivial⟩ ?_
              refine OK_if (fun h258 => ?_) (fun h258 => ?_)
              · refine OK_st 1 okX6_readRate (S' := (94, [(1, .int (1 : Int32)), (0, .ref 1)], [.int (1 : Int32)], hp I251 F252)) rfl ⟨trivial, trivial⟩ ?_
                exact OK_ri okX6_readRate rfl rfl (Or.inr ⟨rfl, Or.inr rfl⟩)
              · refine OK_st 4 okX6_readRate (S' := (90, [(1, .int (1 : Int32)), (0, .ref 1)], [.ref 15, .ref 4], hp I251 F252)) rfl ⟨trivial, trivial, trivial, trivial, trivial⟩ ?_
                refine OK_cv [.ref 15] [] okX6_readRate okX5_addRate rfl rfl cl_RX6_102 rfl rfl (Nat.le_of_ble_eq_true rfl) (by decide) (Nat.le_of_ble_eq_true rfl) (kf_X5_addRate I251 F252) (fun r259 I260 F261 => ?_)
                refine OK_st 1 okX6_readRate (S' := (94, [(1, .int (1 : Int32)), (0, .ref 1)], [.int (1 : Int32)], hp I260 F261)) rfl ⟨trivial, trivial⟩ ?_
                exact OK_ri okX6_readRate rfl rfl (Or.inr ⟨rfl, Or.inr rfl⟩)

def f_X5_addHeir (I : AI) (F : AF) : AQ :=
  bif ab_vin ((F 11) 0) 6 then
    some (0, I, (va_up F 3 (upd (F 3) ((F 11) 0).toNatClampNeg ((F 11) 1))))
  else none
set_option maxRecDepth 20000 in
set_option maxHeartbeats 4000000 in
theorem kf_X5_addHeir (I : AI) (F : AF) : OK 0 mX5_addHeir false (f_X5_addHeir I F) (0, [(0, .ref 4), (1, .ref 15)], [], hp I F) := by
  rw [f_X5_addHeir]
  refine OK_gd (fun g271 => ?_)
  refine OK_st 9 okX5_addHeir (S' := (11, [(0, .ref 4), (1, .ref 15)], [], hp I (va_up F 3 (upd (F 3) ((F 11) 0).toNatClampNeg ((F 11) 1))))) rfl ⟨trivial, trivial, trivial, trivial, (ab_vo (by decide)), trivial, trivial, (ab_vo (by decide)), (ab_vo g271), trivial⟩ ?_
  exact OK_rv okX5_addHeir rfl rfl rfl

def f_X6_isWithoutHeir (I : AI) (F : AF) : AQ :=
  bif ab_vin ((F 11) 0) 6 then
    if ((F 3) ((F 11) 0).toNatClampNeg) = (-1 : Int32) then
      some ((1 : Int32), I, F)
    else
      ab_bd (f_X6_fail (4 : Int32) (I 2) I F) (fun r277 I278 F279 =>
        if r277 = 0 then
          some ((0 : Int32), I278, F279)
        else
          some ((1 : Int32), I278, F279))
  else none
set_option maxRecDepth 20000 in
set_option maxHeartbeats 4000000 in
theorem kf_X6_isWithoutHeir (I : AI) (F : AF) : OK 1 mX6_isWithoutHeir true (f_X6_isWithoutHeir I F) (0, [(0, .ref 1)], [], hp I F) := by
  rw [f_X6_isWithoutHeir]
  refine OK_gd (fun g275 => ?_)
  refine OK_st 10 okX6_isWithoutHeir (S' := ((if ((F 3) ((F 11) 0).toNatClampNeg) = (-1 : Int32) then 30 else 18), [(0, .ref 1)], [], hp I F)) rfl ⟨trivial, trivial, trivial, trivial, trivial, trivial, (ab_vo (by decide)), (ab_vo g275), trivial, trivial, trivial⟩ ?_
  refine OK_if (fun h276 => ?_) (fun h276 => ?_)
  · refine OK_st 2 okX6_isWithoutHeir (S' := (35, [(0, .ref 1)], [.int (1 : Int32)], hp I F)) rfl ⟨trivial, trivial, trivial⟩ ?_
    exact OK_ri okX6_isWithoutHeir rfl rfl (Or.inr ⟨rfl, Or.inr rfl⟩)
  · refine OK_st 4 okX6_isWithoutHeir (S' := (24, [(0, .ref 1)], [.int (I 2), .int (4 : Int32), .ref 1], hp I F)) rfl ⟨trivial, trivial, trivial, trivial, trivial⟩ ?_
    refine OK_cv [.int (4 : Int32), .int (I 2)] [] okX6_isWithoutHeir okX6_fail rfl rfl cl_RX6_57 rfl rfl (Nat.le_of_ble_eq_true rfl) (by decide) (Nat.le_of_ble_eq_true rfl) (kf_X6_fail (4 : Int32) (I 2) I F) (fun r277 I278 F279 => ?_)
    refine OK_st 1 okX6_isWithoutHeir (S' := ((if r277 = 0 then 34 else 30), [(0, .ref 1)], [], hp I278 F279)) rfl ⟨trivial, trivial⟩ ?_
    refine OK_if (fun h280 => ?_) (fun h280 => ?_)
    · refine OK_st 1 okX6_isWithoutHeir (S' := (35, [(0, .ref 1)], [.int (0 : Int32)], hp I278 F279)) rfl ⟨trivial, trivial⟩ ?_
      exact OK_ri okX6_isWithoutHeir rfl rfl (Or.inr ⟨rfl, Or.inl rfl⟩)
    · refine OK_st 2 okX6_isWithoutHeir (S' := (35, [(0, .ref 1)], [.int (1 : Int32)], hp I278 F279)) rfl ⟨trivial, trivial, trivial⟩ ?_
      exact OK_ri okX6_isWithoutHeir rfl rfl (Or.inr ⟨rfl, Or.inr rfl⟩)

def f_X6_readHeir (I : AI) (F : AF) : AQ :=
  ab_bd (f_X6_readNumber (0 : Int32) (0 : Int32) ((I 6) - (1 : Int32)) I F) (fun r266 I267 F268 =>
    if r266 = 0 then
      if (0 : Int32) = 0 then
        some ((0 : Int32), I267, F268)
      else
        ab_bd (f_X5_addHeir I267 F268) (fun r272 I273 F274 =>
          some ((0 : Int32), I273, F274))
    else
      ab_bd (f_X6_isWithoutHeir I267 F268) (fun r281 I282 F283 =>
        if r281 = 0 then
          if (0 : Int32) = 0 then
            some ((0 : Int32), I282, F283)
          else
            ab_bd (f_X5_addHeir I282 F283) (fun r286 I287 F288 =>
              some ((0 : Int32), I287, F288))
        else
          ab_bd (f_X6_readNumber (1 : Int32) (0 : Int32) ((I282 6) - (1 : Int32)) I282 F283) (fun r289 I290 F291 =>
            if r289 = 0 then
              if (0 : Int32) = 0 then
                some ((0 : Int32), I290, F291)
              else
                ab_bd (f_X5_addHeir I290 F291) (fun r294 I295 F296 =>
                  some ((0 : Int32), I295, F296))
            else
              ab_bd (f_X6_isUnlike I290 F291) (fun r297 I298 F299 =>
                if r297 = 0 then
                  if (0 : Int32) = 0 then
                    some ((0 : Int32), I298, F299)
                  else
                    ab_bd (f_X5_addHeir I298 F299) (fun r302 I303 F304 =>
                      some ((0 : Int32), I303, F304))
                else
                  ab_bd (f_X6_readClose I298 F299) (fun r305 I306 F307 =>
                    if r305 = 0 then
                      if (0 : Int32) = 0 then
                        some ((0 : Int32), I306, F307)
                      else
                        ab_bd (f_X5_addHeir I306 F307) (fun r310 I311 F312 =>
                          some ((0 : Int32), I311, F312))
                    else
                      if (1 : Int32) = 0 then
                        some ((1 : Int32), I306, F307)
                      else
                        ab_bd (f_X5_addHeir I306 F307) (fun r314 I315 F316 =>
                          some ((1 : Int32), I315, F316)))))))
set_option maxRecDepth 20000 in
set_option maxHeartbeats 4000000 in
theorem kf_X6_readHeir (I : AI) (F : AF) : OK 3 mX6_readHeir true (f_X6_readHeir I F) (0, [(0, .ref 1)], [], hp I F) := by
  rw [f_X6_readHeir]
  refine OK_st 8 okX6_readHeir (S' := (12, [(0, .ref 1)], [.int ((I 6) - (1 : Int32)), .int (0 : Int32), .int (0 : Int32), .ref 1], hp I F)) rfl ⟨trivial, trivial, trivial, trivial, trivial, trivial, trivial, trivial, trivial⟩ ?_
  refine OK_cv [.int (0 : Int32), .int (0 : Int32), .int ((I 6) - (1 : Int32))] [] okX6_readHeir okX6_readNumber rfl rfl cl_RX6_85 rfl rfl (Nat.le_of_ble_eq_true rfl) (by decide) (Nat.le_of_ble_eq_true rfl) (kf_X6_readNumber (0 : Int32) (0 : Int32) ((I 6) - (1 : Int32)) I F) (fun r266 I267 F268 => ?_)
  refine OK_st 1 okX6_readHeir (S' := ((if r266 = 0 then 61 else 18), [(0, .ref 1)], [], hp I267 F268)) rfl ⟨trivial, trivial⟩ ?_
  refine OK_if (fun h269 => ?_) (fun h269 => ?_)
  · refine OK_st 4 okX6_readHeir (S' := ((if (0 : Int32) = 0 then 78 else 67), [(1, .int (0 : Int32)), (0, .ref 1)], [], hp I267 F268)) rfl ⟨trivial, (by decide), trivial, trivial, trivial⟩ ?_
    refine OK_if (fun h270 => ?_) (fun h270 => ?_)
    · refine OK_st 1 okX6_readHeir (S' := (79, [(1, .int (0 : Int32)), (0, .ref 1)], [.int (0 : Int32)], hp I267 F268)) rfl ⟨trivial, trivial⟩ ?_
      exact OK_ri okX6_readHeir rfl rfl (Or.inr ⟨rfl, Or.inl rfl⟩)
    · refine OK_st 4 okX6_readHeir (S' := (75, [(1, .int (0 : Int32)), (0, .ref 1)], [.ref 15, .ref 4], hp I267 F268)) rfl ⟨trivial, trivial, trivial, trivial, trivial⟩ ?_
      refine OK_cv [.ref 15] [] okX6_readHeir okX5_addHeir rfl rfl cl_RX6_108 rfl rfl (Nat.le_of_ble_eq_true rfl) (by decide) (Nat.le_of_ble_eq_true rfl) (kf_X5_addHeir I267 F268) (fun r272 I273 F274 => ?_)
      refine OK_st 1 okX6_readHeir (S' := (79, [(1, .int (0 : Int32)), (0, .ref 1)], [.int (0 : Int32)], hp I273 F274)) rfl ⟨trivial, trivial⟩ ?_
      exact OK_ri okX6_readHeir rfl rfl (Or.inr ⟨rfl, Or.inl rfl⟩)
  · refine OK_st 1 okX6_readHeir (S' := (19, [(0, .ref 1)], [.ref 1], hp I267 F268)) rfl ⟨trivial, trivial⟩ ?_
    refine OK_cv [] [] okX6_readHeir okX6_isWithoutHeir rfl rfl cl_RX6_105 rfl rfl (Nat.le_of_ble_eq_true rfl) (by decide) (Nat.le_of_ble_eq_true rfl) (kf_X6_isWithoutHeir I267 F268) (fun r281 I282 F283 => ?_)
    refine OK_st 1 okX6_readHeir (S' := ((if r281 = 0 then 61 else 25), [(0, .ref 1)], [], hp I282 F283)) rfl ⟨trivial, trivial⟩ ?_
    refine OK_if (fun h284 => ?_) (fun h284 => ?_)
    · refine OK_st 4 okX6_readHeir (S' := ((if (0 : Int32) = 0 then 78 else 67), [(1, .int (0 : Int32)), (0, .ref 1)], [], hp I282 F283)) rfl ⟨trivial, (by decide), trivial, trivial, trivial⟩ ?_
      refine OK_if (fun h285 => ?_) (fun h285 => ?_)
      · refine OK_st 1 okX6_readHeir (S' := (79, [(1, .int (0 : Int32)), (0, .ref 1)], [.int (0 : Int32)], hp I282 F283)) rfl ⟨trivial, trivial⟩ ?_
        exact OK_ri okX6_readHeir rfl rfl (Or.inr ⟨rfl, Or.inl rfl⟩)
      · refine OK_st 4 okX6_readHeir (S' := (75, [(1, .int (0 : Int32)), (0, .ref 1)], [.ref 15, .ref 4], hp I282 F283)) rfl ⟨trivial, trivial, trivial, trivial, trivial⟩ ?_
        refine OK_cv [.ref 15] [] okX6_readHeir okX5_addHeir rfl rfl cl_RX6_108 rfl rfl (Nat.le_of_ble_eq_true rfl) (by decide) (Nat.le_of_ble_eq_true rfl) (kf_X5_addHeir I282 F283) (fun r286 I287 F288 => ?_)
        refine OK_st 1 okX6_readHeir (S' := (79, [(1, .int (0 : Int32)), (0, .ref 1)], [.int (0 : Int32)], hp I287 F288)) rfl ⟨trivial, trivial⟩ ?_
        exact OK_ri okX6_readHeir rfl rfl (Or.inr ⟨rfl, Or.inl rfl⟩)
    · refine OK_st 8 okX6_readHeir (S' := (37, [(0, .ref 1)], [.int ((I282 6) - (1 : Int32)), .int (0 : Int32), .int (1 : Int32), .ref 1], hp I282 F283)) rfl ⟨trivial, trivial, trivial, trivial, trivial, trivial, trivial, trivial, trivial⟩ ?_
      refine OK_cv [.int (1 : Int32), .int (0 : Int32), .int ((I282 6) - (1 : Int32))] [] okX6_readHeir okX6_readNumber rfl rfl cl_RX6_85 rfl rfl (Nat.le_of_ble_eq_true rfl) (by decide) (Nat.le_of_ble_eq_true rfl) (kf_X6_readNumber (1 : Int32) (0 : Int32) ((I282 6) - (1 : Int32)) I282 F283) (fun r289 I290 F291 => ?_)
      refine OK_st 1 okX6_readHeir (S' := ((if r289 = 0 then 61 else 43), [(0, .ref 1)], [], hp I290 F291)) rfl ⟨trivial, trivial⟩ ?_
      refine OK_if (fun h292 => ?_) (fun h292 => ?_)
      · refine OK_st 4 okX6_readHeir (S' := ((if (0 : Int32) = 0 then 78 else 67), [(1, .int (0 : Int32)), (0, .ref 1)], [], hp I290 F291)) rfl ⟨trivial, (by decide), trivial, trivial, trivial⟩ ?_
        refine OK_if (fun h293 => ?_) (fun h293 => ?_)
        · refine OK_st 1 okX6_readHeir (S' := (79, [(1, .int (0 : Int32)), (0, .ref 1)], [.int (0 : Int32)], hp I290 F291)) rfl ⟨trivial, trivial⟩ ?_
          exact OK_ri okX6_readHeir rfl rfl (Or.inr ⟨rfl, Or.inl rfl⟩)
        · refine OK_st 4 okX6_readHeir (S' := (75, [(1, .int (0 : Int32)), (0, .ref 1)], [.ref 15, .ref 4], hp I290 F291)) rfl ⟨trivial, trivial, trivial, trivial, trivial⟩ ?_
          refine OK_cv [.ref 15] [] okX6_readHeir okX5_addHeir rfl rfl cl_RX6_108 rfl rfl (Nat.le_of_ble_eq_true rfl) (by decide) (Nat.le_of_ble_eq_true rfl) (kf_X5_addHeir I290 F291) (fun r294 I295 F296 => ?_)
          refine OK_st 1 okX6_readHeir (S' := (79, [(1, .int (0 : Int32)), (0, .ref 1)], [.int (0 : Int32)], hp I295 F296)) rfl ⟨trivial, trivial⟩ ?_
          exact OK_ri okX6_readHeir rfl rfl (Or.inr ⟨rfl, Or.inl rfl⟩)
      · refine OK_st 1 okX6_readHeir (S' := (44, [(0, .ref 1)], [.ref 1], hp I290 F291)) rfl ⟨trivial, trivial⟩ ?_
        refine OK_cv [] [] okX6_readHeir okX6_isUnlike rfl rfl cl_RX6_99 rfl rfl (Nat.le_of_ble_eq_true rfl) (by decide) (Nat.le_of_ble_eq_true rfl) (kf_X6_isUnlike I290 F291) (fun r297 I298 F299 => ?_)
        refine OK_st 1 okX6_readHeir (S' := ((if r297 = 0 then 61 else 50), [(0, .ref 1)], [], hp I298 F299)) rfl ⟨trivial, trivial⟩ ?_
        refine OK_if (fun h300 => ?_) (fun h300 => ?_)
        · refine OK_st 4 okX6_readHeir (S' := ((if (0 : Int32) = 0 then 78 else 67), [(1, .int (0 : Int32)), (0, .ref 1)], [], hp I298 F299)) rfl ⟨trivial, (by decide), trivial, trivial, trivial⟩ ?_
          refine OK_if (fun h301 => ?_) (fun h301 => ?_)
          · refine OK_st 1 okX6_readHeir (S' := (79, [(1, .int (0 : Int32)), (0, .ref 1)], [.int (0 : Int32)], hp I298 F299)) rfl ⟨trivial, trivial⟩ ?_
            exact OK_ri okX6_readHeir rfl rfl (Or.inr ⟨rfl, Or.inl rfl⟩)
          · refine OK_st 4 okX6_readHeir (S' := (75, [(1, .int (0 : Int32)), (0, .ref 1)], [.ref 15, .ref 4], hp I298 F299)) rfl ⟨trivial, trivial, trivial, trivial, trivial⟩ ?_
            refine OK_cv [.ref 15] [] okX6_readHeir okX5_addHeir rfl rfl cl_RX6_108 rfl rfl (Nat.le_of_ble_eq_true rfl) (by decide) (Nat.le_of_ble_eq_true rfl) (kf_X5_addHeir I298 F299) (fun r302 I303 F304 => ?_)
            refine OK_st 1 okX6_readHeir (S' := (79, [(1, .int (0 : Int32)), (0, .ref 1)], [.int (0 : Int32)], hp I303 F304)) rfl ⟨trivial, trivial⟩ ?_
            exact OK_ri okX6_readHeir rfl rfl (Or.inr ⟨rfl, Or.inl rfl⟩)
        · refine OK_st 1 okX6_readHeir (S' := (51, [(0, .ref 1)], [.ref 1], hp I298 F299)) rfl ⟨trivial, trivial⟩ ?_
          refine OK_cv [] [] okX6_readHeir okX6_readClose rfl rfl cl_RX6_89 rfl rfl (Nat.le_of_ble_eq_true rfl) (by decide) (Nat.le_of_ble_eq_true rfl) (kf_X6_readClose I298 F299) (fun r305 I306 F307 => ?_)
          refine OK_st 1 okX6_readHeir (S' := ((if r305 = 0 then 61 else 57), [(0, .ref 1)], [], hp I306 F307)) rfl ⟨trivial, trivial⟩ ?_
          refine OK_if (fun h308 => ?_) (fun h308 => ?_)
          · refine OK_st 4 okX6_readHeir (S' := ((if (0 : Int32) = 0 then 78 else 67), [(1, .int (0 : Int32)), (0, .ref 1)], [], hp I306 F307)) rfl ⟨trivial, (by decide), trivial, trivial, trivial⟩ ?_
            refine OK_if (fun h309 => ?_) (fun h309 => ?_)
            · refine OK_st 1 okX6_readHeir (S' := (79, [(1, .int (0 : Int32)), (0, .ref 1)], [.int (0 : Int32)], hp I306 F307)) rfl ⟨trivial, trivial⟩ ?_
              exact OK_ri okX6_readHeir rfl rfl (Or.inr ⟨rfl, Or.inl rfl⟩)
            · refine OK_st 4 okX6_readHeir (S' := (75, [(1, .int (0 : Int32)), (0, .ref 1)], [.ref 15, .ref 4], hp I306 F307)) rfl ⟨trivial, trivial, trivial, trivial, trivial⟩ ?_
              refine OK_cv [.ref 15] [] okX6_readHeir okX5_addHeir rfl rfl cl_RX6_108 rfl rfl (Nat.le_of_ble_eq_true rfl) (by decide) (Nat.le_of_ble_eq_true rfl) (kf_X5_addHeir I306 F307) (fun r310 I311 F312 => ?_)
              refine OK_st 1 okX6_readHeir (S' := (79, [(1, .int (0 : Int32)), (0, .ref 1)], [.int (0 : Int32)], hp I311 F312)) rfl ⟨trivial, trivial⟩ ?_
              exact OK_ri okX6_readHeir rfl rfl (Or.inr ⟨rfl, Or.inl rfl⟩)
          · refine OK_st 5 okX6_readHeir (S' := ((if (1 : Int32) = 0 then 78 else 67), [(1, .int (1 : Int32)), (0, .ref 1)], [], hp I306 F307)) rfl ⟨trivial, trivial, (by decide), trivial, trivial, trivial⟩ ?_
            refine OK_if (fun h313 => ?_) (fun h313 => ?_)
            · refine OK_st 1 okX6_readHeir (S' := (79, [(1, .int (1 : Int32)), (0, .ref 1)], [.int (1 : Int32)], hp I306 F307)) rfl ⟨trivial, trivial⟩ ?_
              exact OK_ri okX6_readHeir rfl rfl (Or.inr ⟨rfl, Or.inr rfl⟩)
            · refine OK_st 4 okX6_readHeir (S' := (75, [(1, .int (1 : Int32)), (0, .ref 1)], [.ref 15, .ref 4], hp I306 F307)) rfl ⟨trivial, trivial, trivial, trivial, trivial⟩ ?_
              refine OK_cv [.ref 15] [] okX6_readHeir okX5_addHeir rfl rfl cl_RX6_108 rfl rfl (Nat.le_of_ble_eq_true rfl) (by decide) (Nat.le_of_ble_eq_true rfl) (kf_X5_addHeir I306 F307) (fun r314 I315 F316 => ?_)
              refine OK_st 1 okX6_readHeir (S' := (79, [(1, .int (1 : Int32)), (0, .ref 1)], [.int (1 : Int32)], hp I315 F316)) rfl ⟨trivial, trivial⟩ ?_
              exact OK_ri okX6_readHeir rfl rfl (Or.inr ⟨rfl, Or.inr rfl⟩)
end
