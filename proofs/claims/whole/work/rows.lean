section
-- ===== PART A: goes FIRST, ahead of the names: the tables' words, and 'selects' of the private methods out of them =====
/-- a private method of a class that the tables say can be made, by its rows of tables_1 -/
def lw_okq (q : MethodName × Nat) : Prop := (q.1.cls ≠ "java/lang/invoke/MethodHandle" ∧ q.1.cls ≠ "java/lang/invoke/VarHandle") ∧ Cond.instantiable q.1.cls q.2 ∈ tables_1 ∧ Cond.privateMethod q.1 ∈ tables_1 ∧ Cond.instanceMethod q.1 ∈ tables_1
theorem lw_p0 : lw_okq (⟨"LimbMeasures$Reader", "skipBlanks", "()V"⟩, 7) := ⟨⟨by decide +kernel, by decide +kernel⟩, List.mem_of_getElem? (i := 24) (by decide +kernel), List.mem_of_getElem? (i := 331) (by decide +kernel), List.mem_of_getElem? (i := 332) (by decide +kernel)⟩
theorem lw_p1 : lw_okq (⟨"LimbMeasures$Reader", "readClause", "()Z"⟩, 7) := ⟨⟨by decide +kernel, by decide +kernel⟩, List.mem_of_getElem? (i := 24) (by decide +kernel), List.mem_of_getElem? (i := 339) (by decide +kernel), List.mem_of_getElem? (i := 340) (by decide +kernel)⟩
theorem lw_p2 : lw_okq (⟨"LimbMeasures$Reader", "mayStart", "(I)Z"⟩, 7) := ⟨⟨by decide +kernel, by decide +kernel⟩, List.mem_of_getElem? (i := 24) (by decide +kernel), List.mem_of_getElem? (i := 343) (by decide +kernel), List.mem_of_getElem? (i := 344) (by decide +kernel)⟩
theorem lw_p3 : lw_okq (⟨"LimbMeasures$Reader", "fail", "(II)Z"⟩, 7) := ⟨⟨by decide +kernel, by decide +kernel⟩, List.mem_of_getElem? (i := 24) (by decide +kernel), List.mem_of_getElem? (i := 347) (by decide +kernel), List.mem_of_getElem? (i := 348) (by decide +kernel)⟩
theorem lw_p4 : lw_okq (⟨"LimbMeasures$Reader", "isOneTooMany", "(I)Z"⟩, 7) := ⟨⟨by decide +kernel, by decide +kernel⟩, List.mem_of_getElem? (i := 24) (by decide +kernel), List.mem_of_getElem? (i := 351) (by decide +kernel), List.mem_of_getElem? (i := 352) (by decide +kernel)⟩
theorem lw_p5 : lw_okq (⟨"LimbMeasures$Reader", "readLimb", "()Z"⟩, 7) := ⟨⟨by decide +kernel, by decide +kernel⟩, List.mem_of_getElem? (i := 24) (by decide +kernel), List.mem_of_getElem? (i := 355) (by decide +kernel), List.mem_of_getElem? (i := 356) (by decide +kernel)⟩
theorem lw_p6 : lw_okq (⟨"LimbMeasures$Reader", "readNumber", "(III)Z"⟩, 7) := ⟨⟨by decide +kernel, by decide +kernel⟩, List.mem_of_getElem? (i := 24) (by decide +kernel), List.mem_of_getElem? (i := 359) (by decide +kernel), List.mem_of_getElem? (i := 360) (by decide +kernel)⟩
theorem lw_p7 : lw_okq (⟨"LimbMeasures$Reader", "readClose", "()Z"⟩, 7) := ⟨⟨by decide +kernel, by decide +kernel⟩, List.mem_of_getElem? (i := 24) (by decide +kernel), List.mem_of_getElem? (i := 369) (by decide +kernel), List.mem_of_getElem? (i := 370) (by decide +kernel)⟩
theorem lw_p8 : lw_okq (⟨"LimbMeasures$Reader", "readContract", "()Z"⟩, 7) := ⟨⟨by decide +kernel, by decide +kernel⟩, List.mem_of_getElem? (i := 24) (by decide +kernel), List.mem_of_getElem? (i := 380) (by decide +kernel), List.mem_of_getElem? (i := 381) (by decide +kernel)⟩
theorem lw_p9 : lw_okq (⟨"LimbMeasures$Reader", "readRate", "()Z"⟩, 7) := ⟨⟨by decide +kernel, by decide +kernel⟩, List.mem_of_getElem? (i := 24) (by decide +kernel), List.mem_of_getElem? (i := 388) (by decide +kernel), List.mem_of_getElem? (i := 389) (by decide +kernel)⟩
theorem lw_p10 : lw_okq (⟨"LimbMeasures$Reader", "isUnlike", "()Z"⟩, 7) := ⟨⟨by decide +kernel, by decide +kernel⟩, List.mem_of_getElem? (i := 24) (by decide +kernel), List.mem_of_getElem? (i := 392) (by decide +kernel), List.mem_of_getElem? (i := 393) (by decide +kernel)⟩
theorem lw_p11 : lw_okq (⟨"LimbMeasures$Reader", "readHeir", "()Z"⟩, 7) := ⟨⟨by decide +kernel, by decide +kernel⟩, List.mem_of_getElem? (i := 24) (by decide +kernel), List.mem_of_getElem? (i := 400) (by decide +kernel), List.mem_of_getElem? (i := 401) (by decide +kernel)⟩
theorem lw_p12 : lw_okq (⟨"LimbMeasures$Reader", "isWithoutHeir", "()Z"⟩, 7) := ⟨⟨by decide +kernel, by decide +kernel⟩, List.mem_of_getElem? (i := 24) (by decide +kernel), List.mem_of_getElem? (i := 404) (by decide +kernel), List.mem_of_getElem? (i := 405) (by decide +kernel)⟩
theorem lw_p13 : lw_okq (⟨"LimbMeasures", "refusalOfSeasons", "(I)I"⟩, 9) := ⟨⟨by decide +kernel, by decide +kernel⟩, List.mem_of_getElem? (i := 16) (by decide +kernel), List.mem_of_getElem? (i := 534) (by decide +kernel), List.mem_of_getElem? (i := 535) (by decide +kernel)⟩
theorem lw_p14 : lw_okq (⟨"LimbMeasures$Past", "latestPlace", "()I"⟩, 5) := ⟨⟨by decide +kernel, by decide +kernel⟩, List.mem_of_getElem? (i := 159) (by decide +kernel), List.mem_of_getElem? (i := 543) (by decide +kernel), List.mem_of_getElem? (i := 544) (by decide +kernel)⟩
theorem lw_p15 : lw_okq (⟨"LimbMeasures", "refusalOfLiving", "(I)I"⟩, 9) := ⟨⟨by decide +kernel, by decide +kernel⟩, List.mem_of_getElem? (i := 16) (by decide +kernel), List.mem_of_getElem? (i := 569) (by decide +kernel), List.mem_of_getElem? (i := 570) (by decide +kernel)⟩
def lw_privs_1 : List (MethodName × Nat) := [(⟨"LimbMeasures$Reader", "skipBlanks", "()V"⟩, 7), (⟨"LimbMeasures$Reader", "readClause", "()Z"⟩, 7), (⟨"LimbMeasures$Reader", "mayStart", "(I)Z"⟩, 7), (⟨"LimbMeasures$Reader", "fail", "(II)Z"⟩, 7), (⟨"LimbMeasures$Reader", "isOneTooMany", "(I)Z"⟩, 7), (⟨"LimbMeasures$Reader", "readLimb", "()Z"⟩, 7), (⟨"LimbMeasures$Reader", "readNumber", "(III)Z"⟩, 7), (⟨"LimbMeasures$Reader", "readClose", "()Z"⟩, 7), (⟨"LimbMeasures$Reader", "readContract", "()Z"⟩, 7), (⟨"LimbMeasures$Reader", "readRate", "()Z"⟩, 7), (⟨"LimbMeasures$Reader", "isUnlike", "()Z"⟩, 7), (⟨"LimbMeasures$Reader", "readHeir", "()Z"⟩, 7), (⟨"LimbMeasures$Reader", "isWithoutHeir", "()Z"⟩, 7), (⟨"LimbMeasures", "refusalOfSeasons", "(I)I"⟩, 9), (⟨"LimbMeasures$Past", "latestPlace", "()I"⟩, 5), (⟨"LimbMeasures", "refusalOfLiving", "(I)I"⟩, 9)]
theorem lw_r1 : ∀ q ∈ lw_privs_1, lw_okq q := List.forall_mem_cons.mpr ⟨lw_p0, List.forall_mem_cons.mpr ⟨lw_p1, List.forall_mem_cons.mpr ⟨lw_p2, List.forall_mem_cons.mpr ⟨lw_p3, List.forall_mem_cons.mpr ⟨lw_p4, List.forall_mem_cons.mpr ⟨lw_p5, List.forall_mem_cons.mpr ⟨lw_p6, List.forall_mem_cons.mpr ⟨lw_p7, List.forall_mem_cons.mpr ⟨lw_p8, List.forall_mem_cons.mpr ⟨lw_p9, List.forall_mem_cons.mpr ⟨lw_p10, List.forall_mem_cons.mpr ⟨lw_p11, List.forall_mem_cons.mpr ⟨lw_p12, List.forall_mem_cons.mpr ⟨lw_p13, List.forall_mem_cons.mpr ⟨lw_p14, List.forall_mem_cons.mpr ⟨lw_p15, fun _ h => absurd h List.not_mem_nil⟩⟩⟩⟩⟩⟩⟩⟩⟩⟩⟩⟩⟩⟩⟩⟩
theorem lw_p16 : lw_okq (⟨"LimbMeasures$State", "nextDraw", "(I)I"⟩, 1) := ⟨⟨by decide +kernel, by decide +kernel⟩, List.mem_of_getElem? (i := 148) (by decide +kernel), List.mem_of_getElem? (i := 601) (by decide +kernel), List.mem_of_getElem? (i := 602) (by decide +kernel)⟩
theorem lw_p17 : lw_okq (⟨"LimbMeasures$BasketSearch", "extend", "(IIIIII)V"⟩, 8) := ⟨⟨by decide +kernel, by decide +kernel⟩, List.mem_of_getElem? (i := 209) (by decide +kernel), List.mem_of_getElem? (i := 639) (by decide +kernel), List.mem_of_getElem? (i := 640) (by decide +kernel)⟩
theorem lw_p18 : lw_okq (⟨"LimbMeasures$RingSearch", "extend", "(LLimbMeasures$Port;IIII)Z"⟩, 2) := ⟨⟨by decide +kernel, by decide +kernel⟩, List.mem_of_getElem? (i := 242) (by decide +kernel), List.mem_of_getElem? (i := 656) (by decide +kernel), List.mem_of_getElem? (i := 657) (by decide +kernel)⟩
theorem lw_p19 : lw_okq (⟨"LimbMeasures$RingSearch", "gainsWithLess", "(LLimbMeasures$Port;I)Z"⟩, 2) := ⟨⟨by decide +kernel, by decide +kernel⟩, List.mem_of_getElem? (i := 242) (by decide +kernel), List.mem_of_getElem? (i := 668) (by decide +kernel), List.mem_of_getElem? (i := 669) (by decide +kernel)⟩
theorem lw_p20 : lw_okq (⟨"LimbMeasures$HeirSearch", "leastFrom", "(LLimbMeasures$State;I)I"⟩, 4) := ⟨⟨by decide +kernel, by decide +kernel⟩, List.mem_of_getElem? (i := 257) (by decide +kernel), List.mem_of_getElem? (i := 689) (by decide +kernel), List.mem_of_getElem? (i := 690) (by decide +kernel)⟩
theorem lw_p21 : lw_okq (⟨"LimbMeasures$HeirSearch", "isFree", "(III)Z"⟩, 4) := ⟨⟨by decide +kernel, by decide +kernel⟩, List.mem_of_getElem? (i := 257) (by decide +kernel), List.mem_of_getElem? (i := 695) (by decide +kernel), List.mem_of_getElem? (i := 696) (by decide +kernel)⟩
theorem lw_p22 : lw_okq (⟨"LimbMeasures$HeirSearch", "apartBy", "(LLimbMeasures$State;III)I"⟩, 4) := ⟨⟨by decide +kernel, by decide +kernel⟩, List.mem_of_getElem? (i := 257) (by decide +kernel), List.mem_of_getElem? (i := 699) (by decide +kernel), List.mem_of_getElem? (i := 700) (by decide +kernel)⟩
theorem lw_p23 : lw_okq (⟨"LimbMeasures$HeirSearch", "chooseAll", "(LLimbMeasures$State;)V"⟩, 4) := ⟨⟨by decide +kernel, by decide +kernel⟩, List.mem_of_getElem? (i := 257) (by decide +kernel), List.mem_of_getElem? (i := 708) (by decide +kernel), List.mem_of_getElem? (i := 709) (by decide +kernel)⟩
theorem lw_p24 : lw_okq (⟨"LimbMeasures$Notes", "fitsAll", "(I)Z"⟩, 6) := ⟨⟨by decide +kernel, by decide +kernel⟩, List.mem_of_getElem? (i := 182) (by decide +kernel), List.mem_of_getElem? (i := 760) (by decide +kernel), List.mem_of_getElem? (i := 761) (by decide +kernel)⟩
theorem lw_p25 : lw_okq (⟨"LimbMeasuresModel", "here", "()I"⟩, 45) := ⟨⟨by decide +kernel, by decide +kernel⟩, List.mem_of_getElem? (i := 827) (by decide +kernel), List.mem_of_getElem? (i := 984) (by decide +kernel), List.mem_of_getElem? (i := 985) (by decide +kernel)⟩
theorem lw_p26 : lw_okq (⟨"LimbMeasuresModel", "takeClause", "()I"⟩, 45) := ⟨⟨by decide +kernel, by decide +kernel⟩, List.mem_of_getElem? (i := 827) (by decide +kernel), List.mem_of_getElem? (i := 988) (by decide +kernel), List.mem_of_getElem? (i := 989) (by decide +kernel)⟩
theorem lw_p27 : lw_okq (⟨"LimbMeasuresModel", "fails", "(II)I"⟩, 45) := ⟨⟨by decide +kernel, by decide +kernel⟩, List.mem_of_getElem? (i := 827) (by decide +kernel), List.mem_of_getElem? (i := 992) (by decide +kernel), List.mem_of_getElem? (i := 993) (by decide +kernel)⟩
theorem lw_p28 : lw_okq (⟨"LimbMeasuresModel", "takeLimb", "()I"⟩, 45) := ⟨⟨by decide +kernel, by decide +kernel⟩, List.mem_of_getElem? (i := 827) (by decide +kernel), List.mem_of_getElem? (i := 996) (by decide +kernel), List.mem_of_getElem? (i := 997) (by decide +kernel)⟩
theorem lw_p29 : lw_okq (⟨"LimbMeasuresModel", "into", "([IIII)I"⟩, 45) := ⟨⟨by decide +kernel, by decide +kernel⟩, List.mem_of_getElem? (i := 827) (by decide +kernel), List.mem_of_getElem? (i := 1000) (by decide +kernel), List.mem_of_getElem? (i := 1001) (by decide +kernel)⟩
theorem lw_p30 : lw_okq (⟨"LimbMeasuresModel", "takeNumber", "(II)I"⟩, 45) := ⟨⟨by decide +kernel, by decide +kernel⟩, List.mem_of_getElem? (i := 827) (by decide +kernel), List.mem_of_getElem? (i := 1004) (by decide +kernel), List.mem_of_getElem? (i := 1005) (by decide +kernel)⟩
theorem lw_p31 : lw_okq (⟨"LimbMeasuresModel", "takeContract", "()I"⟩, 45) := ⟨⟨by decide +kernel, by decide +kernel⟩, List.mem_of_getElem? (i := 827) (by decide +kernel), List.mem_of_getElem? (i := 1010) (by decide +kernel), List.mem_of_getElem? (i := 1011) (by decide +kernel)⟩
def lw_privs_2 : List (MethodName × Nat) := [(⟨"LimbMeasures$State", "nextDraw", "(I)I"⟩, 1), (⟨"LimbMeasures$BasketSearch", "extend", "(IIIIII)V"⟩, 8), (⟨"LimbMeasures$RingSearch", "extend", "(LLimbMeasures$Port;IIII)Z"⟩, 2), (⟨"LimbMeasures$RingSearch", "gainsWithLess", "(LLimbMeasures$Port;I)Z"⟩, 2), (⟨"LimbMeasures$HeirSearch", "leastFrom", "(LLimbMeasures$State;I)I"⟩, 4), (⟨"LimbMeasures$HeirSearch", "isFree", "(III)Z"⟩, 4), (⟨"LimbMeasures$HeirSearch", "apartBy", "(LLimbMeasures$State;III)I"⟩, 4), (⟨"LimbMeasures$HeirSearch", "chooseAll", "(LLimbMeasures$State;)V"⟩, 4), (⟨"LimbMeasures$Notes", "fitsAll", "(I)Z"⟩, 6), (⟨"LimbMeasuresModel", "here", "()I"⟩, 45), (⟨"LimbMeasuresModel", "takeClause", "()I"⟩, 45), (⟨"LimbMeasuresModel", "fails", "(II)I"⟩, 45), (⟨"LimbMeasuresModel", "takeLimb", "()I"⟩, 45), (⟨"LimbMeasuresModel", "into", "([IIII)I"⟩, 45), (⟨"LimbMeasuresModel", "takeNumber", "(II)I"⟩, 45), (⟨"LimbMeasuresModel", "takeContract", "()I"⟩, 45)]
theorem lw_r2 : ∀ q ∈ lw_privs_2, lw_okq q := List.forall_mem_cons.mpr ⟨lw_p16, List.forall_mem_cons.mpr ⟨lw_p17, List.forall_mem_cons.mpr ⟨lw_p18, List.forall_mem_cons.mpr ⟨lw_p19, List.forall_mem_cons.mpr ⟨lw_p20, List.forall_mem_cons.mpr ⟨lw_p21, List.forall_mem_cons.mpr ⟨lw_p22, List.forall_mem_cons.mpr ⟨lw_p23, List.forall_mem_cons.mpr ⟨lw_p24, List.forall_mem_cons.mpr ⟨lw_p25, List.forall_mem_cons.mpr ⟨lw_p26, List.forall_mem_cons.mpr ⟨lw_p27, List.forall_mem_cons.mpr ⟨lw_p28, List.forall_mem_cons.mpr ⟨lw_p29, List.forall_mem_cons.mpr ⟨lw_p30, List.forall_mem_cons.mpr ⟨lw_p31, fun _ h => absurd h List.not_mem_nil⟩⟩⟩⟩⟩⟩⟩⟩⟩⟩⟩⟩⟩⟩⟩⟩
theorem lw_p32 : lw_okq (⟨"LimbMeasuresModel", "takeRate", "()I"⟩, 45) := ⟨⟨by decide +kernel, by decide +kernel⟩, List.mem_of_getElem? (i := 827) (by decide +kernel), List.mem_of_getElem? (i := 1014) (by decide +kernel), List.mem_of_getElem? (i := 1015) (by decide +kernel)⟩
theorem lw_p33 : lw_okq (⟨"LimbMeasuresModel", "takeHeir", "()I"⟩, 45) := ⟨⟨by decide +kernel, by decide +kernel⟩, List.mem_of_getElem? (i := 827) (by decide +kernel), List.mem_of_getElem? (i := 1018) (by decide +kernel), List.mem_of_getElem? (i := 1019) (by decide +kernel)⟩
theorem lw_p34 : lw_okq (⟨"LimbMeasuresModel", "takeRead", "()V"⟩, 45) := ⟨⟨by decide +kernel, by decide +kernel⟩, List.mem_of_getElem? (i := 827) (by decide +kernel), List.mem_of_getElem? (i := 1022) (by decide +kernel), List.mem_of_getElem? (i := 1023) (by decide +kernel)⟩
theorem lw_p35 : lw_okq (⟨"LimbMeasuresModel", "copied", "()I"⟩, 45) := ⟨⟨by decide +kernel, by decide +kernel⟩, List.mem_of_getElem? (i := 827) (by decide +kernel), List.mem_of_getElem? (i := 1034) (by decide +kernel), List.mem_of_getElem? (i := 1035) (by decide +kernel)⟩
theorem lw_p36 : lw_okq (⟨"LimbMeasuresModel", "isLimb", "(I)Z"⟩, 45) := ⟨⟨by decide +kernel, by decide +kernel⟩, List.mem_of_getElem? (i := 827) (by decide +kernel), List.mem_of_getElem? (i := 1042) (by decide +kernel), List.mem_of_getElem? (i := 1043) (by decide +kernel)⟩
theorem lw_p37 : lw_okq (⟨"LimbMeasuresModel", "measureNow", "(I)I"⟩, 45) := ⟨⟨by decide +kernel, by decide +kernel⟩, List.mem_of_getElem? (i := 827) (by decide +kernel), List.mem_of_getElem? (i := 1047) (by decide +kernel), List.mem_of_getElem? (i := 1048) (by decide +kernel)⟩
theorem lw_p38 : lw_okq (⟨"LimbMeasuresModel", "measure", "(II)I"⟩, 45) := ⟨⟨by decide +kernel, by decide +kernel⟩, List.mem_of_getElem? (i := 827) (by decide +kernel), List.mem_of_getElem? (i := 1051) (by decide +kernel), List.mem_of_getElem? (i := 1052) (by decide +kernel)⟩
theorem lw_p39 : lw_okq (⟨"LimbMeasuresModel", "lives", "(I)Z"⟩, 45) := ⟨⟨by decide +kernel, by decide +kernel⟩, List.mem_of_getElem? (i := 827) (by decide +kernel), List.mem_of_getElem? (i := 1055) (by decide +kernel), List.mem_of_getElem? (i := 1056) (by decide +kernel)⟩
theorem lw_p40 : lw_okq (⟨"LimbMeasuresModel", "grown", "(II)I"⟩, 45) := ⟨⟨by decide +kernel, by decide +kernel⟩, List.mem_of_getElem? (i := 827) (by decide +kernel), List.mem_of_getElem? (i := 1062) (by decide +kernel), List.mem_of_getElem? (i := 1063) (by decide +kernel)⟩
theorem lw_p41 : lw_okq (⟨"LimbMeasuresModel", "seasonsRefused", "(I)I"⟩, 45) := ⟨⟨by decide +kernel, by decide +kernel⟩, List.mem_of_getElem? (i := 827) (by decide +kernel), List.mem_of_getElem? (i := 1080) (by decide +kernel), List.mem_of_getElem? (i := 1081) (by decide +kernel)⟩
theorem lw_p42 : lw_okq (⟨"LimbMeasuresModel", "remember", "()V"⟩, 45) := ⟨⟨by decide +kernel, by decide +kernel⟩, List.mem_of_getElem? (i := 827) (by decide +kernel), List.mem_of_getElem? (i := 1086) (by decide +kernel), List.mem_of_getElem? (i := 1087) (by decide +kernel)⟩
theorem lw_p43 : lw_okq (⟨"LimbMeasuresModel", "pass", "()V"⟩, 45) := ⟨⟨by decide +kernel, by decide +kernel⟩, List.mem_of_getElem? (i := 827) (by decide +kernel), List.mem_of_getElem? (i := 1090) (by decide +kernel), List.mem_of_getElem? (i := 1091) (by decide +kernel)⟩
theorem lw_p44 : lw_okq (⟨"LimbMeasuresModel", "swell", "(II)V"⟩, 45) := ⟨⟨by decide +kernel, by decide +kernel⟩, List.mem_of_getElem? (i := 827) (by decide +kernel), List.mem_of_getElem? (i := 1099) (by decide +kernel), List.mem_of_getElem? (i := 1100) (by decide +kernel)⟩
theorem lw_p45 : lw_okq (⟨"LimbMeasuresModel", "shrink", "(I)V"⟩, 45) := ⟨⟨by decide +kernel, by decide +kernel⟩, List.mem_of_getElem? (i := 827) (by decide +kernel), List.mem_of_getElem? (i := 1107) (by decide +kernel), List.mem_of_getElem? (i := 1108) (by decide +kernel)⟩
theorem lw_p46 : lw_okq (⟨"LimbMeasuresModel", "drawn", "()V"⟩, 45) := ⟨⟨by decide +kernel, by decide +kernel⟩, List.mem_of_getElem? (i := 827) (by decide +kernel), List.mem_of_getElem? (i := 1123) (by decide +kernel), List.mem_of_getElem? (i := 1124) (by decide +kernel)⟩
theorem lw_p47 : lw_okq (⟨"LimbMeasuresModel", "draw", "(I)I"⟩, 45) := ⟨⟨by decide +kernel, by decide +kernel⟩, List.mem_of_getElem? (i := 827) (by decide +kernel), List.mem_of_getElem? (i := 1127) (by decide +kernel), List.mem_of_getElem? (i := 1128) (by decide +kernel)⟩
def lw_privs_3 : List (MethodName × Nat) := [(⟨"LimbMeasuresModel", "takeRate", "()I"⟩, 45), (⟨"LimbMeasuresModel", "takeHeir", "()I"⟩, 45), (⟨"LimbMeasuresModel", "takeRead", "()V"⟩, 45), (⟨"LimbMeasuresModel", "copied", "()I"⟩, 45), (⟨"LimbMeasuresModel", "isLimb", "(I)Z"⟩, 45), (⟨"LimbMeasuresModel", "measureNow", "(I)I"⟩, 45), (⟨"LimbMeasuresModel", "measure", "(II)I"⟩, 45), (⟨"LimbMeasuresModel", "lives", "(I)Z"⟩, 45), (⟨"LimbMeasuresModel", "grown", "(II)I"⟩, 45), (⟨"LimbMeasuresModel", "seasonsRefused", "(I)I"⟩, 45), (⟨"LimbMeasuresModel", "remember", "()V"⟩, 45), (⟨"LimbMeasuresModel", "pass", "()V"⟩, 45), (⟨"LimbMeasuresModel", "swell", "(II)V"⟩, 45), (⟨"LimbMeasuresModel", "shrink", "(I)V"⟩, 45), (⟨"LimbMeasuresModel", "drawn", "()V"⟩, 45), (⟨"LimbMeasuresModel", "draw", "(I)I"⟩, 45)]
theorem lw_r3 : ∀ q ∈ lw_privs_3, lw_okq q := List.forall_mem_cons.mpr ⟨lw_p32, List.forall_mem_cons.mpr ⟨lw_p33, List.forall_mem_cons.mpr ⟨lw_p34, List.forall_mem_cons.mpr ⟨lw_p35, List.forall_mem_cons.mpr ⟨lw_p36, List.forall_mem_cons.mpr ⟨lw_p37, List.forall_mem_cons.mpr ⟨lw_p38, List.forall_mem_cons.mpr ⟨lw_p39, List.forall_mem_cons.mpr ⟨lw_p40, List.forall_mem_cons.mpr ⟨lw_p41, List.forall_mem_cons.mpr ⟨lw_p42, List.forall_mem_cons.mpr ⟨lw_p43, List.forall_mem_cons.mpr ⟨lw_p44, List.forall_mem_cons.mpr ⟨lw_p45, List.forall_mem_cons.mpr ⟨lw_p46, List.forall_mem_cons.mpr ⟨lw_p47, fun _ h => absurd h List.not_mem_nil⟩⟩⟩⟩⟩⟩⟩⟩⟩⟩⟩⟩⟩⟩⟩⟩
theorem lw_p48 : lw_okq (⟨"LimbMeasuresModel", "findBasket", "()V"⟩, 45) := ⟨⟨by decide +kernel, by decide +kernel⟩, List.mem_of_getElem? (i := 827) (by decide +kernel), List.mem_of_getElem? (i := 1152) (by decide +kernel), List.mem_of_getElem? (i := 1153) (by decide +kernel)⟩
theorem lw_p49 : lw_okq (⟨"LimbMeasuresModel", "isBasket", "(I)Z"⟩, 45) := ⟨⟨by decide +kernel, by decide +kernel⟩, List.mem_of_getElem? (i := 827) (by decide +kernel), List.mem_of_getElem? (i := 1156) (by decide +kernel), List.mem_of_getElem? (i := 1157) (by decide +kernel)⟩
theorem lw_p50 : lw_okq (⟨"LimbMeasuresModel", "isFree", "(I)Z"⟩, 45) := ⟨⟨by decide +kernel, by decide +kernel⟩, List.mem_of_getElem? (i := 827) (by decide +kernel), List.mem_of_getElem? (i := 1163) (by decide +kernel), List.mem_of_getElem? (i := 1164) (by decide +kernel)⟩
theorem lw_p51 : lw_okq (⟨"LimbMeasuresModel", "basketAt", "(II)I"⟩, 45) := ⟨⟨by decide +kernel, by decide +kernel⟩, List.mem_of_getElem? (i := 827) (by decide +kernel), List.mem_of_getElem? (i := 1167) (by decide +kernel), List.mem_of_getElem? (i := 1168) (by decide +kernel)⟩
theorem lw_p52 : lw_okq (⟨"LimbMeasuresModel", "findRing", "()I"⟩, 45) := ⟨⟨by decide +kernel, by decide +kernel⟩, List.mem_of_getElem? (i := 827) (by decide +kernel), List.mem_of_getElem? (i := 1185) (by decide +kernel), List.mem_of_getElem? (i := 1186) (by decide +kernel)⟩
theorem lw_p53 : lw_okq (⟨"LimbMeasuresModel", "isRow", "(II)Z"⟩, 45) := ⟨⟨by decide +kernel, by decide +kernel⟩, List.mem_of_getElem? (i := 827) (by decide +kernel), List.mem_of_getElem? (i := 1189) (by decide +kernel), List.mem_of_getElem? (i := 1190) (by decide +kernel)⟩
theorem lw_p54 : lw_okq (⟨"LimbMeasuresModel", "gains", "(III)Z"⟩, 45) := ⟨⟨by decide +kernel, by decide +kernel⟩, List.mem_of_getElem? (i := 827) (by decide +kernel), List.mem_of_getElem? (i := 1196) (by decide +kernel), List.mem_of_getElem? (i := 1197) (by decide +kernel)⟩
theorem lw_p55 : lw_okq (⟨"LimbMeasuresModel", "apartBy", "(I)I"⟩, 45) := ⟨⟨by decide +kernel, by decide +kernel⟩, List.mem_of_getElem? (i := 827) (by decide +kernel), List.mem_of_getElem? (i := 1213) (by decide +kernel), List.mem_of_getElem? (i := 1214) (by decide +kernel)⟩
def lw_privs_4 : List (MethodName × Nat) := [(⟨"LimbMeasuresModel", "findBasket", "()V"⟩, 45), (⟨"LimbMeasuresModel", "isBasket", "(I)Z"⟩, 45), (⟨"LimbMeasuresModel", "isFree", "(I)Z"⟩, 45), (⟨"LimbMeasuresModel", "basketAt", "(II)I"⟩, 45), (⟨"LimbMeasuresModel", "findRing", "()I"⟩, 45), (⟨"LimbMeasuresModel", "isRow", "(II)Z"⟩, 45), (⟨"LimbMeasuresModel", "gains", "(III)Z"⟩, 45), (⟨"LimbMeasuresModel", "apartBy", "(I)I"⟩, 45)]
theorem lw_r4 : ∀ q ∈ lw_privs_4, lw_okq q := List.forall_mem_cons.mpr ⟨lw_p48, List.forall_mem_cons.mpr ⟨lw_p49, List.forall_mem_cons.mpr ⟨lw_p50, List.forall_mem_cons.mpr ⟨lw_p51, List.forall_mem_cons.mpr ⟨lw_p52, List.forall_mem_cons.mpr ⟨lw_p53, List.forall_mem_cons.mpr ⟨lw_p54, List.forall_mem_cons.mpr ⟨lw_p55, fun _ h => absurd h List.not_mem_nil⟩⟩⟩⟩⟩⟩⟩⟩
def lw_privs : List (MethodName × Nat) := lw_privs_1 ++ (lw_privs_2 ++ (lw_privs_3 ++ (lw_privs_4)))
def lw_tbl : List Cond := k2_sels lw_privs ++ tables_1
theorem lw_privs_ok : ∀ q ∈ lw_privs, lw_okq q := by
  show ∀ q ∈ lw_privs_1 ++ (lw_privs_2 ++ (lw_privs_3 ++ (lw_privs_4))), lw_okq q
  exact List.forall_mem_append.mpr ⟨lw_r1, List.forall_mem_append.mpr ⟨lw_r2, List.forall_mem_append.mpr ⟨lw_r3, lw_r4⟩⟩⟩
def RX0 : String := "LimbMeasures$BasketSearch"
def TX0 : u_T := fun k => match k with
  | 0 => ("LimbMeasures$BasketSearch", "apart1", "[I", true)
  | 1 => ("LimbMeasures$BasketSearch", "apart2", "[I", true)
  | 2 => ("LimbMeasures$BasketSearch", "apart3", "[I", true)
  | 3 => ("LimbMeasures$BasketSearch", "times", "[I", true)
  | 4 => ("LimbMeasures$BasketSearch", "best", "[I", true)
  | 5 => ("LimbMeasures$BasketSearch", "bestTotal", "I", false)
  | 6 => ("LimbMeasures$BasketSearch", "allowed", "I", false)
  | _ => ("LimbMeasures$BasketSearch", "limbs", "I", false)
def tyX0 : Nat → FieldType := fun k => match k with
  | 0 => .array .int
  | 1 => .array .int
  | 2 => .array .int
  | 3 => .array .int
  | 4 => .array .int
  | 5 => .int
  | 6 => .int
  | _ => .int
abbrev wsX00 : List Cond := u_ws RX0 TX0 8
theorem nmX0 : ∀ a, a < 8 → ∀ b, b < 8 → a ≠ b → (TX0 a).2.1 ≠ (TX0 b).2.1 := by decide +kernel
theorem tyX0_ok : ∀ k, k < 8 → parseFieldDescriptor (TX0 k).2.2.1 = some (tyX0 k) := by decide +kernel
abbrev cX0_init : ByteArray := prog_2_method_1_code
def yX0_init : MethodName := ⟨RX0, "<init>", "()V"⟩
abbrev cX0_isFound : ByteArray := prog_2_method_2_code
def yX0_isFound : MethodName := ⟨RX0, "isFound", "()Z"⟩
abbrev cX0_search : ByteArray := prog_2_method_3_code
def yX0_search : MethodName := ⟨RX0, "search", "(LLimbMeasures$Port;LLimbMeasures$State;)V"⟩
abbrev cX0_extend : ByteArray := prog_2_method_4_code
def yX0_extend : MethodName := ⟨RX0, "extend", "(IIIIII)V"⟩
def RX1 : String := "LimbMeasures$HeirSearch"
def TX1 : u_T := fun k => match k with
  | 0 => ("LimbMeasures$HeirSearch", "least", "[I", true)
  | 1 => ("LimbMeasures$HeirSearch", "chosen", "[I", true)
  | 2 => ("LimbMeasures$HeirSearch", "turns", "[I", true)
  | _ => ("LimbMeasures$HeirSearch", "count", "I", false)
def tyX1 : Nat → FieldType := fun k => match k with
  | 0 => .array .int
  | 1 => .array .int
  | 2 => .array .int
  | _ => .int
abbrev wsX10 : List Cond := u_ws RX1 TX1 4
theorem nmX1 : ∀ a, a < 4 → ∀ b, b < 4 → a ≠ b → (TX1 a).2.1 ≠ (TX1 b).2.1 := by decide +kernel
theorem tyX1_ok : ∀ k, k < 4 → parseFieldDescriptor (TX1 k).2.2.1 = some (tyX1 k) := by decide +kernel
abbrev cX1_init : ByteArray := prog_3_method_1_code
def yX1_init : MethodName := ⟨RX1, "<init>", "()V"⟩
abbrev cX1_apartTogether : ByteArray := prog_3_method_2_code
def yX1_apartTogether : MethodName := ⟨RX1, "apartTogether", "()I"⟩
abbrev cX1_search : ByteArray := prog_3_method_3_code
def yX1_search : MethodName := ⟨RX1, "search", "(LLimbMeasures$State;)V"⟩
abbrev cX1_leastFrom : ByteArray := prog_3_method_4_code
def yX1_leastFrom : MethodName := ⟨RX1, "leastFrom", "(LLimbMeasures$State;I)I"⟩
abbrev cX1_chooseAll : ByteArray := prog_3_method_5_code
def yX1_chooseAll : MethodName := ⟨RX1, "chooseAll", "(LLimbMeasures$State;)V"⟩
abbrev cX1_isFree : ByteArray := prog_3_method_6_code
def yX1_isFree : MethodName := ⟨RX1, "isFree", "(III)Z"⟩
abbrev cX1_apartBy : ByteArray := prog_3_method_7_code
def yX1_apartBy : MethodName := ⟨RX1, "apartBy", "(LLimbMeasures$State;III)I"⟩
def RX2 : String := "LimbMeasures$Letters"
def TX2 : u_T := fun k => match k with
  | 0 => ("LimbMeasures$Letters", "row", "[I", true)
  | _ => ("LimbMeasures$Letters", "count", "I", false)
def tyX2 : Nat → FieldType := fun k => match k with
  | 0 => .array .int
  | _ => .int
abbrev wsX20 : List Cond := u_ws RX2 TX2 2
theorem nmX2 : ∀ a, a < 2 → ∀ b, b < 2 → a ≠ b → (TX2 a).2.1 ≠ (TX2 b).2.1 := by decide +kernel
theorem tyX2_ok : ∀ k, k < 2 → parseFieldDescriptor (TX2 k).2.2.1 = some (tyX2 k) := by decide +kernel
abbrev cX2_init : ByteArray := prog_4_method_1_code
def yX2_init : MethodName := ⟨RX2, "<init>", "()V"⟩
abbrev cX2_isFull : ByteArray := prog_4_method_2_code
def yX2_isFull : MethodName := ⟨RX2, "isFull", "()Z"⟩
abbrev cX2_append : ByteArray := prog_4_method_3_code
def yX2_append : MethodName := ⟨RX2, "append", "(I)I"⟩
abbrev cX2_at : ByteArray := prog_4_method_4_code
def yX2_at : MethodName := ⟨RX2, "at", "(I)I"⟩
abbrev cX2_empty : ByteArray := prog_4_method_5_code
def yX2_empty : MethodName := ⟨RX2, "empty", "()V"⟩
def RX3 : String := "LimbMeasures$Notes"
def TX3 : u_T := fun k => match k with
  | 0 => ("LimbMeasures$Notes", "gotTimes", "[I", true)
  | 1 => ("LimbMeasures$Notes", "gotAmount", "[I", true)
  | 2 => ("LimbMeasures$Notes", "entryLimb", "[I", true)
  | 3 => ("LimbMeasures$Notes", "entryMeasure", "[I", true)
  | 4 => ("LimbMeasures$Notes", "gots", "I", false)
  | _ => ("LimbMeasures$Notes", "entries", "I", false)
def tyX3 : Nat → FieldType := fun k => match k with
  | 0 => .array .int
  | 1 => .array .int
  | 2 => .array .int
  | 3 => .array .int
  | 4 => .int
  | _ => .int
abbrev wsX30 : List Cond := u_ws RX3 TX3 6
theorem nmX3 : ∀ a, a < 6 → ∀ b, b < 6 → a ≠ b → (TX3 a).2.1 ≠ (TX3 b).2.1 := by decide +kernel
theorem tyX3_ok : ∀ k, k < 6 → parseFieldDescriptor (TX3 k).2.2.1 = some (tyX3 k) := by decide +kernel
abbrev cX3_init : ByteArray := prog_5_method_1_code
def yX3_init : MethodName := ⟨RX3, "<init>", "()V"⟩
abbrev cX3_addGot : ByteArray := prog_5_method_2_code
def yX3_addGot : MethodName := ⟨RX3, "addGot", "(II)I"⟩
abbrev cX3_addEntry : ByteArray := prog_5_method_3_code
def yX3_addEntry : MethodName := ⟨RX3, "addEntry", "(II)I"⟩
abbrev cX3_clearAll : ByteArray := prog_5_method_4_code
def yX3_clearAll : MethodName := ⟨RX3, "clearAll", "()V"⟩
abbrev cX3_fitting : ByteArray := prog_5_method_5_code
def yX3_fitting : MethodName := ⟨RX3, "fitting", "(LLimbMeasures$Port;LLimbMeasures$State;)I"⟩
abbrev cX3_fitsAll : ByteArray := prog_5_method_6_code
def yX3_fitsAll : MethodName := ⟨RX3, "fitsAll", "(I)Z"⟩
abbrev cX3_firstWrong : ByteArray := prog_5_method_7_code
def yX3_firstWrong : MethodName := ⟨RX3, "firstWrong", "(LLimbMeasures$Port;LLimbMeasures$State;)I"⟩
def RX4 : String := "LimbMeasures$Past"
def TX4 : u_T := fun k => match k with
  | 0 => ("LimbMeasures$Past", "undone", "[I", true)
  | 1 => ("LimbMeasures$Past", "images", "[I", true)
  | 2 => ("LimbMeasures$Past", "oldest", "I", false)
  | 3 => ("LimbMeasures$Past", "undoable", "I", false)
  | _ => ("LimbMeasures$Past", "kept", "I", false)
def tyX4 : Nat → FieldType := fun k => match k with
  | 0 => .array .int
  | 1 => .array .int
  | 2 => .int
  | 3 => .int
  | _ => .int
abbrev wsX40 : List Cond := u_ws RX4 TX4 5
theorem nmX4 : ∀ a, a < 5 → ∀ b, b < 5 → a ≠ b → (TX4 a).2.1 ≠ (TX4 b).2.1 := by decide +kernel
theorem tyX4_ok : ∀ k, k < 5 → parseFieldDescriptor (TX4 k).2.2.1 = some (tyX4 k) := by decide +kernel
abbrev cX4_init : ByteArray := prog_6_method_1_code
def yX4_init : MethodName := ⟨RX4, "<init>", "()V"⟩
abbrev cX4_remember : ByteArray := prog_6_method_2_code
def yX4_remember : MethodName := ⟨RX4, "remember", "(LLimbMeasures$State;)V"⟩
abbrev cX4_restoreLatest : ByteArray := prog_6_method_3_code
def yX4_restoreLatest : MethodName := ⟨RX4, "restoreLatest", "(LLimbMeasures$State;)V"⟩
abbrev cX4_latestPlace : ByteArray := prog_6_method_4_code
def yX4_latestPlace : MethodName := ⟨RX4, "latestPlace", "()I"⟩
abbrev cX4_forgetUndone : ByteArray := prog_6_method_5_code
def yX4_forgetUndone : MethodName := ⟨RX4, "forgetUndone", "()V"⟩
abbrev cX4_hasImage : ByteArray := prog_6_method_6_code
def yX4_hasImage : MethodName := ⟨RX4, "hasImage", "(I)Z"⟩
abbrev cX4_keepImage : ByteArray := prog_6_method_7_code
def yX4_keepImage : MethodName := ⟨RX4, "keepImage", "(ILLimbMeasures$State;)V"⟩
abbrev cX4_restoreImage : ByteArray := prog_6_method_8_code
def yX4_restoreImage : MethodName := ⟨RX4, "restoreImage", "(ILLimbMeasures$State;)V"⟩
abbrev cX4_forgetImages : ByteArray := prog_6_method_9_code
def yX4_forgetImages : MethodName := ⟨RX4, "forgetImages", "()V"⟩
def RX5 : String := "LimbMeasures$Port"
def TX5 : u_T := fun k => match k with
  | 0 => ("LimbMeasures$Port", "limbs", "I", false)
  | 1 => ("LimbMeasures$Port", "contracts", "I", false)
  | 2 => ("LimbMeasures$Port", "rates", "I", false)
  | 3 => ("LimbMeasures$Port", "length", "[I", true)
  | 4 => ("LimbMeasures$Port", "added", "[I", true)
  | 5 => ("LimbMeasures$Port", "heir", "[I", true)
  | 6 => ("LimbMeasures$Port", "contractSeason", "[I", true)
  | 7 => ("LimbMeasures$Port", "contractLimb", "[I", true)
  | 8 => ("LimbMeasures$Port", "contractTimes", "[I", true)
  | 9 => ("LimbMeasures$Port", "rateFrom", "[I", true)
  | 10 => ("LimbMeasures$Port", "rateTo", "[I", true)
  | 11 => ("LimbMeasures$Port", "rateGiven", "[I", true)
  | _ => ("LimbMeasures$Port", "rateBack", "[I", true)
def tyX5 : Nat → FieldType := fun k => match k with
  | 0 => .int
  | 1 => .int
  | 2 => .int
  | 3 => .array .int
  | 4 => .array .int
  | 5 => .array .int
  | 6 => .array .int
  | 7 => .array .int
  | 8 => .array .int
  | 9 => .array .int
  | 10 => .array .int
  | 11 => .array .int
  | _ => .array .int
abbrev wsX50 : List Cond := u_ws RX5 TX5 13
theorem nmX5 : ∀ a, a < 13 → ∀ b, b < 13 → a ≠ b → (TX5 a).2.1 ≠ (TX5 b).2.1 := by decide +kernel
theorem tyX5_ok : ∀ k, k < 13 → parseFieldDescriptor (TX5 k).2.2.1 = some (tyX5 k) := by decide +kernel
abbrev cX5_init : ByteArray := prog_7_method_1_code
def yX5_init : MethodName := ⟨RX5, "<init>", "()V"⟩
abbrev cX5_clearAll : ByteArray := prog_7_method_2_code
def yX5_clearAll : MethodName := ⟨RX5, "clearAll", "()V"⟩
abbrev cX5_takeOver : ByteArray := prog_7_method_3_code
def yX5_takeOver : MethodName := ⟨RX5, "takeOver", "(LLimbMeasures$Port;)V"⟩
abbrev cX5_hasLimb : ByteArray := prog_7_method_4_code
def yX5_hasLimb : MethodName := ⟨RX5, "hasLimb", "(I)Z"⟩
abbrev cX5_hasContract : ByteArray := prog_7_method_5_code
def yX5_hasContract : MethodName := ⟨RX5, "hasContract", "(I)Z"⟩
abbrev cX5_hasRate : ByteArray := prog_7_method_6_code
def yX5_hasRate : MethodName := ⟨RX5, "hasRate", "(I)Z"⟩
abbrev cX5_addedAsTold : ByteArray := prog_7_method_7_code
def yX5_addedAsTold : MethodName := ⟨RX5, "addedAsTold", "(II)I"⟩
abbrev cX5_addedIn : ByteArray := prog_7_method_8_code
def yX5_addedIn : MethodName := ⟨RX5, "addedIn", "(II)I"⟩
abbrev cX5_addLimb : ByteArray := prog_7_method_9_code
def yX5_addLimb : MethodName := ⟨RX5, "addLimb", "([I)V"⟩
abbrev cX5_addContract : ByteArray := prog_7_method_10_code
def yX5_addContract : MethodName := ⟨RX5, "addContract", "([I)V"⟩
abbrev cX5_addRate : ByteArray := prog_7_method_11_code
def yX5_addRate : MethodName := ⟨RX5, "addRate", "([I)V"⟩
abbrev cX5_addHeir : ByteArray := prog_7_method_12_code
def yX5_addHeir : MethodName := ⟨RX5, "addHeir", "([I)V"⟩
def RX6 : String := "LimbMeasures$Reader"
def TX6 : u_T := fun k => match k with
  | 0 => ("LimbMeasures$Reader", "text", "LLimbMeasures$Letters;", true)
  | 1 => ("LimbMeasures$Reader", "draft", "LLimbMeasures$Port;", true)
  | 2 => ("LimbMeasures$Reader", "numbers", "[I", true)
  | 3 => ("LimbMeasures$Reader", "place", "I", false)
  | 4 => ("LimbMeasures$Reader", "numberPlace", "I", false)
  | 5 => ("LimbMeasures$Reader", "faultKind", "I", false)
  | _ => ("LimbMeasures$Reader", "faultPlace", "I", false)
def tyX6 : Nat → FieldType := fun k => match k with
  | 0 => .object "LimbMeasures$Letters"
  | 1 => .object "LimbMeasures$Port"
  | 2 => .array .int
  | 3 => .int
  | 4 => .int
  | 5 => .int
  | _ => .int
abbrev wsX60 : List Cond := u_ws RX6 TX6 7
theorem nmX6 : ∀ a, a < 7 → ∀ b, b < 7 → a ≠ b → (TX6 a).2.1 ≠ (TX6 b).2.1 := by decide +kernel
theorem tyX6_ok : ∀ k, k < 7 → parseFieldDescriptor (TX6 k).2.2.1 = some (tyX6 k) := by decide +kernel
abbrev cX6_init : ByteArray := prog_8_method_1_code
def yX6_init : MethodName := ⟨RX6, "<init>", "()V"⟩
abbrev cX6_readText : ByteArray := prog_8_method_2_code
def yX6_readText : MethodName := ⟨RX6, "readText", "()V"⟩
abbrev cX6_readClause : ByteArray := prog_8_method_3_code
def yX6_readClause : MethodName := ⟨RX6, "readClause", "()Z"⟩
abbrev cX6_mayStart : ByteArray := prog_8_method_4_code
def yX6_mayStart : MethodName := ⟨RX6, "mayStart", "(I)Z"⟩
abbrev cX6_isOneTooMany : ByteArray := prog_8_method_5_code
def yX6_isOneTooMany : MethodName := ⟨RX6, "isOneTooMany", "(I)Z"⟩
abbrev cX6_readLimb : ByteArray := prog_8_method_6_code
def yX6_readLimb : MethodName := ⟨RX6, "readLimb", "()Z"⟩
abbrev cX6_readContract : ByteArray := prog_8_method_7_code
def yX6_readContract : MethodName := ⟨RX6, "readContract", "()Z"⟩
abbrev cX6_readRate : ByteArray := prog_8_method_8_code
def yX6_readRate : MethodName := ⟨RX6, "readRate", "()Z"⟩
abbrev cX6_readHeir : ByteArray := prog_8_method_9_code
def yX6_readHeir : MethodName := ⟨RX6, "readHeir", "()Z"⟩
abbrev cX6_isWithoutHeir : ByteArray := prog_8_method_10_code
def yX6_isWithoutHeir : MethodName := ⟨RX6, "isWithoutHeir", "()Z"⟩
abbrev cX6_isUnlike : ByteArray := prog_8_method_11_code
def yX6_isUnlike : MethodName := ⟨RX6, "isUnlike", "()Z"⟩
abbrev cX6_readNumber : ByteArray := prog_8_method_12_code
def yX6_readNumber : MethodName := ⟨RX6, "readNumber", "(III)Z"⟩
abbrev cX6_readClose : ByteArray := prog_8_method_13_code
def yX6_readClose : MethodName := ⟨RX6, "readClose", "()Z"⟩
abbrev cX6_skipBlanks : ByteArray := prog_8_method_14_code
def yX6_skipBlanks : MethodName := ⟨RX6, "skipBlanks", "()V"⟩
abbrev cX6_isFigure : ByteArray := prog_8_method_15_code
def yX6_isFigure : MethodName := ⟨RX6, "isFigure", "(I)Z"⟩
abbrev cX6_fail : ByteArray := prog_8_method_16_code
def yX6_fail : MethodName := ⟨RX6, "fail", "(II)Z"⟩
def RX7 : String := "LimbMeasures$RingSearch"
def TX7 : u_T := fun k => match k with
  | 0 => ("LimbMeasures$RingSearch", "row", "[I", true)
  | _ => ("LimbMeasures$RingSearch", "size", "I", false)
def tyX7 : Nat → FieldType := fun k => match k with
  | 0 => .array .int
  | _ => .int
abbrev wsX70 : List Cond := u_ws RX7 TX7 2
theorem nmX7 : ∀ a, a < 2 → ∀ b, b < 2 → a ≠ b → (TX7 a).2.1 ≠ (TX7 b).2.1 := by decide +kernel
theorem tyX7_ok : ∀ k, k < 2 → parseFieldDescriptor (TX7 k).2.2.1 = some (tyX7 k) := by decide +kernel
abbrev cX7_init : ByteArray := prog_9_method_1_code
def yX7_init : MethodName := ⟨RX7, "<init>", "()V"⟩
abbrev cX7_search : ByteArray := prog_9_method_2_code
def yX7_search : MethodName := ⟨RX7, "search", "(LLimbMeasures$Port;)V"⟩
abbrev cX7_extend : ByteArray := prog_9_method_3_code
def yX7_extend : MethodName := ⟨RX7, "extend", "(LLimbMeasures$Port;IIII)Z"⟩
abbrev cX7_leastMending : ByteArray := prog_9_method_4_code
def yX7_leastMending : MethodName := ⟨RX7, "leastMending", "(LLimbMeasures$Port;)I"⟩
abbrev cX7_gainsWithLess : ByteArray := prog_9_method_5_code
def yX7_gainsWithLess : MethodName := ⟨RX7, "gainsWithLess", "(LLimbMeasures$Port;I)Z"⟩
def RX8 : String := "LimbMeasures$State"
def TX8 : u_T := fun k => match k with
  | _ => ("LimbMeasures$State", "row", "[I", true)
def tyX8 : Nat → FieldType := fun k => match k with
  | _ => .array .int
abbrev wsX80 : List Cond := u_ws RX8 TX8 1
theorem nmX8 : ∀ a, a < 1 → ∀ b, b < 1 → a ≠ b → (TX8 a).2.1 ≠ (TX8 b).2.1 := by decide +kernel
theorem tyX8_ok : ∀ k, k < 1 → parseFieldDescriptor (TX8 k).2.2.1 = some (tyX8 k) := by decide +kernel
abbrev cX8_init : ByteArray := prog_10_method_1_code
def yX8_init : MethodName := ⟨RX8, "<init>", "()V"⟩
abbrev cX8_begin : ByteArray := prog_10_method_2_code
def yX8_begin : MethodName := ⟨RX8, "begin", "(LLimbMeasures$Port;)V"⟩
abbrev cX8_lengthOf : ByteArray := prog_10_method_3_code
def yX8_lengthOf : MethodName := ⟨RX8, "lengthOf", "(I)I"⟩
abbrev cX8_copyOf : ByteArray := prog_10_method_4_code
def yX8_copyOf : MethodName := ⟨RX8, "copyOf", "(I)I"⟩
abbrev cX8_paidOf : ByteArray := prog_10_method_5_code
def yX8_paidOf : MethodName := ⟨RX8, "paidOf", "(I)I"⟩
abbrev cX8_living : ByteArray := prog_10_method_6_code
def yX8_living : MethodName := ⟨RX8, "living", "()I"⟩
abbrev cX8_seasons : ByteArray := prog_10_method_7_code
def yX8_seasons : MethodName := ⟨RX8, "seasons", "()I"⟩
abbrev cX8_seedNow : ByteArray := prog_10_method_8_code
def yX8_seedNow : MethodName := ⟨RX8, "seedNow", "()I"⟩
abbrev cX8_lives : ByteArray := prog_10_method_9_code
def yX8_lives : MethodName := ⟨RX8, "lives", "(I)Z"⟩
abbrev cX8_copied : ByteArray := prog_10_method_10_code
def yX8_copied : MethodName := ⟨RX8, "copied", "()I"⟩
abbrev cX8_paidTogether : ByteArray := prog_10_method_11_code
def yX8_paidTogether : MethodName := ⟨RX8, "paidTogether", "()I"⟩
abbrev cX8_noughts : ByteArray := prog_10_method_12_code
def yX8_noughts : MethodName := ⟨RX8, "noughts", "()I"⟩
abbrev cX8_ownMeasure : ByteArray := prog_10_method_13_code
def yX8_ownMeasure : MethodName := ⟨RX8, "ownMeasure", "(LLimbMeasures$Port;II)I"⟩
abbrev cX8_measure : ByteArray := prog_10_method_14_code
def yX8_measure : MethodName := ⟨RX8, "measure", "(LLimbMeasures$Port;II)I"⟩
abbrev cX8_measureNow : ByteArray := prog_10_method_15_code
def yX8_measureNow : MethodName := ⟨RX8, "measureNow", "(LLimbMeasures$Port;I)I"⟩
abbrev cX8_payment : ByteArray := prog_10_method_16_code
def yX8_payment : MethodName := ⟨RX8, "payment", "(LLimbMeasures$Port;II)I"⟩
abbrev cX8_apartFrom : ByteArray := prog_10_method_17_code
def yX8_apartFrom : MethodName := ⟨RX8, "apartFrom", "(LLimbMeasures$Port;II)I"⟩
abbrev cX8_areUnlike : ByteArray := prog_10_method_18_code
def yX8_areUnlike : MethodName := ⟨RX8, "areUnlike", "(LLimbMeasures$Port;II)Z"⟩
abbrev cX8_passSeason : ByteArray := prog_10_method_19_code
def yX8_passSeason : MethodName := ⟨RX8, "passSeason", "(LLimbMeasures$Port;)V"⟩
abbrev cX8_swell : ByteArray := prog_10_method_20_code
def yX8_swell : MethodName := ⟨RX8, "swell", "(II)V"⟩
abbrev cX8_shorten : ByteArray := prog_10_method_21_code
def yX8_shorten : MethodName := ⟨RX8, "shorten", "(I)V"⟩
abbrev cX8_bury : ByteArray := prog_10_method_22_code
def yX8_bury : MethodName := ⟨RX8, "bury", "(I)V"⟩
abbrev cX8_carve : ByteArray := prog_10_method_23_code
def yX8_carve : MethodName := ⟨RX8, "carve", "(LLimbMeasures$Port;I)V"⟩
abbrev cX8_sow : ByteArray := prog_10_method_24_code
def yX8_sow : MethodName := ⟨RX8, "sow", "(I)V"⟩
abbrev cX8_sufferByDraws : ByteArray := prog_10_method_25_code
def yX8_sufferByDraws : MethodName := ⟨RX8, "sufferByDraws", "(LLimbMeasures$Port;)V"⟩
abbrev cX8_nextDraw : ByteArray := prog_10_method_26_code
def yX8_nextDraw : MethodName := ⟨RX8, "nextDraw", "(I)I"⟩
def RX9 : String := "LimbMeasures"
def TX9 : u_T := fun k => match k with
  | 0 => ("LimbMeasures", "reader", "LLimbMeasures$Reader;", true)
  | 1 => ("LimbMeasures", "town", "LLimbMeasures$Port;", true)
  | 2 => ("LimbMeasures", "state", "LLimbMeasures$State;", true)
  | 3 => ("LimbMeasures", "past", "LLimbMeasures$Past;", true)
  | 4 => ("LimbMeasures", "notes", "LLimbMeasures$Notes;", true)
  | 5 => ("LimbMeasures", "basketSearch", "LLimbMeasures$BasketSearch;", true)
  | 6 => ("LimbMeasures", "ringSearch", "LLimbMeasures$RingSearch;", true)
  | 7 => ("LimbMeasures", "heirSearch", "LLimbMeasures$HeirSearch;", true)
  | _ => ("LimbMeasures", "faultPlace", "I", false)
def tyX9 : Nat → FieldType := fun k => match k with
  | 0 => .object "LimbMeasures$Reader"
  | 1 => .object "LimbMeasures$Port"
  | 2 => .object "LimbMeasures$State"
  | 3 => .object "LimbMeasures$Past"
  | 4 => .object "LimbMeasures$Notes"
  | 5 => .object "LimbMeasures$BasketSearch"
  | 6 => .object "LimbMeasures$RingSearch"
  | 7 => .object "LimbMeasures$HeirSearch"
  | _ => .int
abbrev wsX90 : List Cond := u_ws RX9 TX9 9
theorem nmX9 : ∀ a, a < 9 → ∀ b, b < 9 → a ≠ b → (TX9 a).2.1 ≠ (TX9 b).2.1 := by decide +kernel
theorem tyX9_ok : ∀ k, k < 9 → parseFieldDescriptor (TX9 k).2.2.1 = some (tyX9 k) := by decide +kernel
abbrev cX9_init : ByteArray := prog_1_method_1_code
def yX9_init : MethodName := ⟨RX9, "<init>", "()V"⟩
abbrev cX9_feed : ByteArray := prog_1_method_2_code
def yX9_feed : MethodName := ⟨RX9, "feed", "(I)I"⟩
abbrev cX9_port : ByteArray := prog_1_method_3_code
def yX9_port : MethodName := ⟨RX9, "port", "()I"⟩
abbrev cX9_fault : ByteArray := prog_1_method_4_code
def yX9_fault : MethodName := ⟨RX9, "fault", "()I"⟩
abbrev cX9_told : ByteArray := prog_1_method_5_code
def yX9_told : MethodName := ⟨RX9, "told", "(I)I"⟩
abbrev cX9_limb : ByteArray := prog_1_method_6_code
def yX9_limb : MethodName := ⟨RX9, "limb", "(II)I"⟩
abbrev cX9_contract : ByteArray := prog_1_method_7_code
def yX9_contract : MethodName := ⟨RX9, "contract", "(II)I"⟩
abbrev cX9_rate : ByteArray := prog_1_method_8_code
def yX9_rate : MethodName := ⟨RX9, "rate", "(II)I"⟩
abbrev cX9_season : ByteArray := prog_1_method_9_code
def yX9_season : MethodName := ⟨RX9, "season", "(I)I"⟩
abbrev cX9_gout : ByteArray := prog_1_method_10_code
def yX9_gout : MethodName := ⟨RX9, "gout", "(II)I"⟩
abbrev cX9_stub : ByteArray := prog_1_method_11_code
def yX9_stub : MethodName := ⟨RX9, "stub", "(I)I"⟩
abbrev cX9_dies : ByteArray := prog_1_method_12_code
def yX9_dies : MethodName := ⟨RX9, "dies", "(I)I"⟩
abbrev cX9_copy : ByteArray := prog_1_method_13_code
def yX9_copy : MethodName := ⟨RX9, "copy", "(I)I"⟩
abbrev cX9_drift : ByteArray := prog_1_method_14_code
def yX9_drift : MethodName := ⟨RX9, "drift", "(I)I"⟩
abbrev cX9_undo : ByteArray := prog_1_method_15_code
def yX9_undo : MethodName := ⟨RX9, "undo", "()I"⟩
abbrev cX9_refusalOfSeasons : ByteArray := prog_1_method_16_code
def yX9_refusalOfSeasons : MethodName := ⟨RX9, "refusalOfSeasons", "(I)I"⟩
abbrev cX9_refusalOfLiving : ByteArray := prog_1_method_17_code
def yX9_refusalOfLiving : MethodName := ⟨RX9, "refusalOfLiving", "(I)I"⟩
abbrev cX9_firstNought : ByteArray := prog_1_method_18_code
def yX9_firstNought : MethodName := ⟨RX9, "firstNought", "()I"⟩
abbrev cX9_means : ByteArray := prog_1_method_19_code
def yX9_means : MethodName := ⟨RX9, "means", "(II)I"⟩
abbrev cX9_basket : ByteArray := prog_1_method_20_code
def yX9_basket : MethodName := ⟨RX9, "basket", "(I)I"⟩
abbrev cX9_ring : ByteArray := prog_1_method_21_code
def yX9_ring : MethodName := ⟨RX9, "ring", "(I)I"⟩
abbrev cX9_mended : ByteArray := prog_1_method_22_code
def yX9_mended : MethodName := ⟨RX9, "mended", "()I"⟩
abbrev cX9_heirs : ByteArray := prog_1_method_23_code
def yX9_heirs : MethodName := ⟨RX9, "heirs", "(I)I"⟩
abbrev cX9_reach : ByteArray := prog_1_method_24_code
def yX9_reach : MethodName := ⟨RX9, "reach", "(II)I"⟩
abbrev cX9_bestCopy : ByteArray := prog_1_method_25_code
def yX9_bestCopy : MethodName := ⟨RX9, "bestCopy", "(II)I"⟩
abbrev cX9_nearest : ByteArray := prog_1_method_26_code
def yX9_nearest : MethodName := ⟨RX9, "nearest", "(I)I"⟩
abbrev cX9_odds : ByteArray := prog_1_method_27_code
def yX9_odds : MethodName := ⟨RX9, "odds", "(III)I"⟩
abbrev cX9_got : ByteArray := prog_1_method_28_code
def yX9_got : MethodName := ⟨RX9, "got", "(II)I"⟩
abbrev cX9_used : ByteArray := prog_1_method_29_code
def yX9_used : MethodName := ⟨RX9, "used", "()I"⟩
abbrev cX9_bale : ByteArray := prog_1_method_30_code
def yX9_bale : MethodName := ⟨RX9, "bale", "()I"⟩
abbrev cX9_write : ByteArray := prog_1_method_31_code
def yX9_write : MethodName := ⟨RX9, "write", "(II)I"⟩
abbrev cX9_tear : ByteArray := prog_1_method_32_code
def yX9_tear : MethodName := ⟨RX9, "tear", "()I"⟩
abbrev cX9_judge : ByteArray := prog_1_method_33_code
def yX9_judge : MethodName := ⟨RX9, "judge", "()I"⟩
abbrev cX9_seed : ByteArray := prog_1_method_34_code
def yX9_seed : MethodName := ⟨RX9, "seed", "(I)I"⟩
abbrev cX9_keep : ByteArray := prog_1_method_35_code
def yX9_keep : MethodName := ⟨RX9, "keep", "(I)I"⟩
abbrev cX9_goBack : ByteArray := prog_1_method_36_code
def yX9_goBack : MethodName := ⟨RX9, "goBack", "(I)I"⟩
abbrev cX9_isImage : ByteArray := prog_1_method_37_code
def yX9_isImage : MethodName := ⟨RX9, "isImage", "(I)Z"⟩
def RX10 : String := "LimbMeasuresModel"
def TX10 : u_T := fun k => match k with
  | 0 => ("LimbMeasuresModel", "limbs", "I", false)
  | 1 => ("LimbMeasuresModel", "adds", "[I", true)
  | 2 => ("LimbMeasuresModel", "heir", "[I", true)
  | 3 => ("LimbMeasuresModel", "contracts", "I", false)
  | 4 => ("LimbMeasuresModel", "contractAt", "[I", true)
  | 5 => ("LimbMeasuresModel", "contractLimb", "[I", true)
  | 6 => ("LimbMeasuresModel", "contractMany", "[I", true)
  | 7 => ("LimbMeasuresModel", "rates", "I", false)
  | 8 => ("LimbMeasuresModel", "rateFrom", "[I", true)
  | 9 => ("LimbMeasuresModel", "rateTo", "[I", true)
  | 10 => ("LimbMeasuresModel", "rateU", "[I", true)
  | 11 => ("LimbMeasuresModel", "rateV", "[I", true)
  | 12 => ("LimbMeasuresModel", "now", "[I", true)
  | 13 => ("LimbMeasuresModel", "seed", "I", false)
  | 14 => ("LimbMeasuresModel", "text", "[I", true)
  | 15 => ("LimbMeasuresModel", "texted", "I", false)
  | 16 => ("LimbMeasuresModel", "faultPlace", "I", false)
  | 17 => ("LimbMeasuresModel", "at0", "I", false)
  | 18 => ("LimbMeasuresModel", "number", "I", false)
  | 19 => ("LimbMeasuresModel", "numberAt", "I", false)
  | 20 => ("LimbMeasuresModel", "readLimbs", "I", false)
  | 21 => ("LimbMeasuresModel", "readLength", "[I", true)
  | 22 => ("LimbMeasuresModel", "readAdds", "[I", true)
  | 23 => ("LimbMeasuresModel", "readHeir", "[I", true)
  | 24 => ("LimbMeasuresModel", "readContracts", "I", false)
  | 25 => ("LimbMeasuresModel", "readAt", "[I", true)
  | 26 => ("LimbMeasuresModel", "readLimb", "[I", true)
  | 27 => ("LimbMeasuresModel", "readMany", "[I", true)
  | 28 => ("LimbMeasuresModel", "readRates", "I", false)
  | 29 => ("LimbMeasuresModel", "readFrom", "[I", true)
  | 30 => ("LimbMeasuresModel", "readTo", "[I", true)
  | 31 => ("LimbMeasuresModel", "readU", "[I", true)
  | 32 => ("LimbMeasuresModel", "readV", "[I", true)
  | 33 => ("LimbMeasuresModel", "undos", "I", false)
  | 34 => ("LimbMeasuresModel", "past", "[I", true)
  | 35 => ("LimbMeasuresModel", "bestBasket", "I", false)
  | 36 => ("LimbMeasuresModel", "ringLong", "I", false)
  | 37 => ("LimbMeasuresModel", "gots", "I", false)
  | 38 => ("LimbMeasuresModel", "gotMany", "[I", true)
  | 39 => ("LimbMeasuresModel", "gotMuch", "[I", true)
  | 40 => ("LimbMeasuresModel", "booked", "I", false)
  | 41 => ("LimbMeasuresModel", "bookLimb", "[I", true)
  | 42 => ("LimbMeasuresModel", "bookMeasure", "[I", true)
  | 43 => ("LimbMeasuresModel", "images", "[I", true)
  | _ => ("LimbMeasuresModel", "isKept", "[Z", true)
def tyX10 : Nat → FieldType := fun k => match k with
  | 0 => .int
  | 1 => .array .int
  | 2 => .array .int
  | 3 => .int
  | 4 => .array .int
  | 5 => .array .int
  | 6 => .array .int
  | 7 => .int
  | 8 => .array .int
  | 9 => .array .int
  | 10 => .array .int
  | 11 => .array .int
  | 12 => .array .int
  | 13 => .int
  | 14 => .array .int
  | 15 => .int
  | 16 => .int
  | 17 => .int
  | 18 => .int
  | 19 => .int
  | 20 => .int
  | 21 => .array .int
  | 22 => .array .int
  | 23 => .array .int
  | 24 => .int
  | 25 => .array .int
  | 26 => .array .int
  | 27 => .array .int
  | 28 => .int
  | 29 => .array .int
  | 30 => .array .int
  | 31 => .array .int
  | 32 => .array .int
  | 33 => .int
  | 34 => .array .int
  | 35 => .int
  | 36 => .int
  | 37 => .int
  | 38 => .array .int
  | 39 => .array .int
  | 40 => .int
  | 41 => .array .int
  | 42 => .array .int
  | 43 => .array .int
  | _ => .array .boolean
abbrev wsX100 : List Cond := u_ws RX10 TX10 45
theorem nmX10 : ∀ a, a < 45 → ∀ b, b < 45 → a ≠ b → (TX10 a).2.1 ≠ (TX10 b).2.1 := by decide +kernel
theorem tyX10_ok : ∀ k, k < 45 → parseFieldDescriptor (TX10 k).2.2.1 = some (tyX10 k) := by decide +kernel
abbrev cX10_init : ByteArray := prog_12_method_1_code
def yX10_init : MethodName := ⟨RX10, "<init>", "()V"⟩
abbrev cX10_in : ByteArray := prog_12_method_3_code
def yX10_in : MethodName := ⟨RX10, "in", "(JJJ)Z"⟩
abbrev cX10_has : ByteArray := prog_12_method_4_code
def yX10_has : MethodName := ⟨RX10, "has", "(II)Z"⟩
abbrev cX10_bits : ByteArray := prog_12_method_5_code
def yX10_bits : MethodName := ⟨RX10, "bits", "(I)I"⟩
abbrev cX10_apart : ByteArray := prog_12_method_6_code
def yX10_apart : MethodName := ⟨RX10, "apart", "(II)I"⟩
abbrev cX10_isLimb : ByteArray := prog_12_method_7_code
def yX10_isLimb : MethodName := ⟨RX10, "isLimb", "(I)Z"⟩
abbrev cX10_lives : ByteArray := prog_12_method_8_code
def yX10_lives : MethodName := ⟨RX10, "lives", "(I)Z"⟩
abbrev cX10_feed : ByteArray := prog_12_method_9_code
def yX10_feed : MethodName := ⟨RX10, "feed", "(I)I"⟩
abbrev cX10_here : ByteArray := prog_12_method_10_code
def yX10_here : MethodName := ⟨RX10, "here", "()I"⟩
abbrev cX10_fails : ByteArray := prog_12_method_11_code
def yX10_fails : MethodName := ⟨RX10, "fails", "(II)I"⟩
abbrev cX10_takeNumber : ByteArray := prog_12_method_12_code
def yX10_takeNumber : MethodName := ⟨RX10, "takeNumber", "(II)I"⟩
abbrev cX10_into : ByteArray := prog_12_method_13_code
def yX10_into : MethodName := ⟨RX10, "into", "([IIII)I"⟩
abbrev cX10_takeLimb : ByteArray := prog_12_method_14_code
def yX10_takeLimb : MethodName := ⟨RX10, "takeLimb", "()I"⟩
abbrev cX10_takeContract : ByteArray := prog_12_method_15_code
def yX10_takeContract : MethodName := ⟨RX10, "takeContract", "()I"⟩
abbrev cX10_takeRate : ByteArray := prog_12_method_16_code
def yX10_takeRate : MethodName := ⟨RX10, "takeRate", "()I"⟩
abbrev cX10_takeHeir : ByteArray := prog_12_method_17_code
def yX10_takeHeir : MethodName := ⟨RX10, "takeHeir", "()I"⟩
abbrev cX10_takeClause : ByteArray := prog_12_method_18_code
def yX10_takeClause : MethodName := ⟨RX10, "takeClause", "()I"⟩
abbrev cX10_takeRead : ByteArray := prog_12_method_19_code
def yX10_takeRead : MethodName := ⟨RX10, "takeRead", "()V"⟩
abbrev cX10_port : ByteArray := prog_12_method_20_code
def yX10_port : MethodName := ⟨RX10, "port", "()I"⟩
abbrev cX10_fault : ByteArray := prog_12_method_21_code
def yX10_fault : MethodName := ⟨RX10, "fault", "()I"⟩
abbrev cX10_copied : ByteArray := prog_12_method_22_code
def yX10_copied : MethodName := ⟨RX10, "copied", "()I"⟩
abbrev cX10_told : ByteArray := prog_12_method_23_code
def yX10_told : MethodName := ⟨RX10, "told", "(I)I"⟩
abbrev cX10_grown : ByteArray := prog_12_method_24_code
def yX10_grown : MethodName := ⟨RX10, "grown", "(II)I"⟩
abbrev cX10_measure : ByteArray := prog_12_method_25_code
def yX10_measure : MethodName := ⟨RX10, "measure", "(II)I"⟩
abbrev cX10_measureNow : ByteArray := prog_12_method_26_code
def yX10_measureNow : MethodName := ⟨RX10, "measureNow", "(I)I"⟩
abbrev cX10_limb : ByteArray := prog_12_method_27_code
def yX10_limb : MethodName := ⟨RX10, "limb", "(II)I"⟩
abbrev cX10_contract : ByteArray := prog_12_method_28_code
def yX10_contract : MethodName := ⟨RX10, "contract", "(II)I"⟩
abbrev cX10_rate : ByteArray := prog_12_method_29_code
def yX10_rate : MethodName := ⟨RX10, "rate", "(II)I"⟩
abbrev cX10_remember : ByteArray := prog_12_method_30_code
def yX10_remember : MethodName := ⟨RX10, "remember", "()V"⟩
abbrev cX10_pass : ByteArray := prog_12_method_31_code
def yX10_pass : MethodName := ⟨RX10, "pass", "()V"⟩
abbrev cX10_seasonsRefused : ByteArray := prog_12_method_32_code
def yX10_seasonsRefused : MethodName := ⟨RX10, "seasonsRefused", "(I)I"⟩
abbrev cX10_season : ByteArray := prog_12_method_33_code
def yX10_season : MethodName := ⟨RX10, "season", "(I)I"⟩
abbrev cX10_swell : ByteArray := prog_12_method_34_code
def yX10_swell : MethodName := ⟨RX10, "swell", "(II)V"⟩
abbrev cX10_shrink : ByteArray := prog_12_method_35_code
def yX10_shrink : MethodName := ⟨RX10, "shrink", "(I)V"⟩
abbrev cX10_gout : ByteArray := prog_12_method_36_code
def yX10_gout : MethodName := ⟨RX10, "gout", "(II)I"⟩
abbrev cX10_stub : ByteArray := prog_12_method_37_code
def yX10_stub : MethodName := ⟨RX10, "stub", "(I)I"⟩
abbrev cX10_dies : ByteArray := prog_12_method_38_code
def yX10_dies : MethodName := ⟨RX10, "dies", "(I)I"⟩
abbrev cX10_copy : ByteArray := prog_12_method_39_code
def yX10_copy : MethodName := ⟨RX10, "copy", "(I)I"⟩
abbrev cX10_draw : ByteArray := prog_12_method_40_code
def yX10_draw : MethodName := ⟨RX10, "draw", "(I)I"⟩
abbrev cX10_drawn : ByteArray := prog_12_method_41_code
def yX10_drawn : MethodName := ⟨RX10, "drawn", "()V"⟩
abbrev cX10_drift : ByteArray := prog_12_method_42_code
def yX10_drift : MethodName := ⟨RX10, "drift", "(I)I"⟩
abbrev cX10_undo : ByteArray := prog_12_method_43_code
def yX10_undo : MethodName := ⟨RX10, "undo", "()I"⟩
abbrev cX10_firstNought : ByteArray := prog_12_method_44_code
def yX10_firstNought : MethodName := ⟨RX10, "firstNought", "()I"⟩
abbrev cX10_means : ByteArray := prog_12_method_45_code
def yX10_means : MethodName := ⟨RX10, "means", "(II)I"⟩
abbrev cX10_times : ByteArray := prog_12_method_46_code
def yX10_times : MethodName := ⟨RX10, "times", "(II)I"⟩
abbrev cX10_isFree : ByteArray := prog_12_method_47_code
def yX10_isFree : MethodName := ⟨RX10, "isFree", "(I)Z"⟩
abbrev cX10_basketAt : ByteArray := prog_12_method_48_code
def yX10_basketAt : MethodName := ⟨RX10, "basketAt", "(II)I"⟩
abbrev cX10_timesOf : ByteArray := prog_12_method_49_code
def yX10_timesOf : MethodName := ⟨RX10, "timesOf", "(I)I"⟩
abbrev cX10_limbsOf : ByteArray := prog_12_method_50_code
def yX10_limbsOf : MethodName := ⟨RX10, "limbsOf", "(I)I"⟩
abbrev cX10_isBasket : ByteArray := prog_12_method_51_code
def yX10_isBasket : MethodName := ⟨RX10, "isBasket", "(I)Z"⟩
abbrev cX10_isAhead : ByteArray := prog_12_method_52_code
def yX10_isAhead : MethodName := ⟨RX10, "isAhead", "(II)Z"⟩
abbrev cX10_findBasket : ByteArray := prog_12_method_53_code
def yX10_findBasket : MethodName := ⟨RX10, "findBasket", "()V"⟩
abbrev cX10_basket : ByteArray := prog_12_method_54_code
def yX10_basket : MethodName := ⟨RX10, "basket", "(I)I"⟩
abbrev cX10_figure : ByteArray := prog_12_method_55_code
def yX10_figure : MethodName := ⟨RX10, "figure", "(III)I"⟩
abbrev cX10_isRow : ByteArray := prog_12_method_56_code
def yX10_isRow : MethodName := ⟨RX10, "isRow", "(II)Z"⟩
abbrev cX10_gains : ByteArray := prog_12_method_57_code
def yX10_gains : MethodName := ⟨RX10, "gains", "(III)Z"⟩
abbrev cX10_findRing : ByteArray := prog_12_method_58_code
def yX10_findRing : MethodName := ⟨RX10, "findRing", "()I"⟩
abbrev cX10_ring : ByteArray := prog_12_method_59_code
def yX10_ring : MethodName := ⟨RX10, "ring", "(I)I"⟩
abbrev cX10_mended : ByteArray := prog_12_method_60_code
def yX10_mended : MethodName := ⟨RX10, "mended", "()I"⟩
abbrev cX10_heirOf : ByteArray := prog_12_method_61_code
def yX10_heirOf : MethodName := ⟨RX10, "heirOf", "(II)I"⟩
abbrev cX10_apartBy : ByteArray := prog_12_method_62_code
def yX10_apartBy : MethodName := ⟨RX10, "apartBy", "(I)I"⟩
abbrev cX10_heirs : ByteArray := prog_12_method_63_code
def yX10_heirs : MethodName := ⟨RX10, "heirs", "(I)I"⟩
abbrev cX10_reach : ByteArray := prog_12_method_64_code
def yX10_reach : MethodName := ⟨RX10, "reach", "(II)I"⟩
abbrev cX10_bestCopy : ByteArray := prog_12_method_65_code
def yX10_bestCopy : MethodName := ⟨RX10, "bestCopy", "(II)I"⟩
abbrev cX10_nearest : ByteArray := prog_12_method_66_code
def yX10_nearest : MethodName := ⟨RX10, "nearest", "(I)I"⟩
abbrev cX10_odds : ByteArray := prog_12_method_67_code
def yX10_odds : MethodName := ⟨RX10, "odds", "(III)I"⟩
abbrev cX10_got : ByteArray := prog_12_method_68_code
def yX10_got : MethodName := ⟨RX10, "got", "(II)I"⟩
abbrev cX10_used : ByteArray := prog_12_method_69_code
def yX10_used : MethodName := ⟨RX10, "used", "()I"⟩
abbrev cX10_bale : ByteArray := prog_12_method_70_code
def yX10_bale : MethodName := ⟨RX10, "bale", "()I"⟩
abbrev cX10_write : ByteArray := prog_12_method_71_code
def yX10_write : MethodName := ⟨RX10, "write", "(II)I"⟩
abbrev cX10_tear : ByteArray := prog_12_method_72_code
def yX10_tear : MethodName := ⟨RX10, "tear", "()I"⟩
abbrev cX10_judge : ByteArray := prog_12_method_73_code
def yX10_judge : MethodName := ⟨RX10, "judge", "()I"⟩
abbrev cX10_seed : ByteArray := prog_12_method_74_code
def yX10_seed : MethodName := ⟨RX10, "seed", "(I)I"⟩
abbrev cX10_keep : ByteArray := prog_12_method_75_code
def yX10_keep : MethodName := ⟨RX10, "keep", "(I)I"⟩
abbrev cX10_goBack : ByteArray := prog_12_method_76_code
def yX10_goBack : MethodName := ⟨RX10, "goBack", "(I)I"⟩
def RJ6 : String := "java/lang/Integer"
def TJ6 : u_T := fun k => match k with
  | _ => ("", "", "", false)
def tyJ6 : Nat → FieldType := fun k => match k with
  | _ => .int
abbrev wsJ60 : List Cond := u_ws RJ6 TJ6 0
theorem nmJ6 : ∀ a, a < 0 → ∀ b, b < 0 → a ≠ b → (TJ6 a).2.1 ≠ (TJ6 b).2.1 := by decide +kernel
theorem tyJ6_ok : ∀ k, k < 0 → parseFieldDescriptor (TJ6 k).2.2.1 = some (tyJ6 k) := by decide +kernel
abbrev cJ6_bitCount_0f7a4 : ByteArray := prog_13_method_49_code
def yJ6_bitCount_0f7a4 : MethodName := ⟨RJ6, "bitCount", "(I)I"⟩
def RJ9 : String := "java/lang/Math"
def TJ9 : u_T := fun k => match k with
  | _ => ("", "", "", false)
def tyJ9 : Nat → FieldType := fun k => match k with
  | _ => .int
abbrev wsJ90 : List Cond := u_ws RJ9 TJ9 0
theorem nmJ9 : ∀ a, a < 0 → ∀ b, b < 0 → a ≠ b → (TJ9 a).2.1 ≠ (TJ9 b).2.1 := by decide +kernel
theorem tyJ9_ok : ∀ k, k < 0 → parseFieldDescriptor (TJ9 k).2.2.1 = some (tyJ9 k) := by decide +kernel
abbrev cJ9_abs_0f7a4 : ByteArray := prog_14_method_59_code
def yJ9_abs_0f7a4 : MethodName := ⟨RJ9, "abs", "(I)I"⟩
abbrev cJ9_max_7cf53 : ByteArray := prog_14_method_65_code
def yJ9_max_7cf53 : MethodName := ⟨RJ9, "max", "(II)I"⟩
abbrev cJ9_min_7cf53 : ByteArray := prog_14_method_69_code
def yJ9_min_7cf53 : MethodName := ⟨RJ9, "min", "(II)I"⟩
def RJ10 : String := "java/lang/System"
def TJ10 : u_T := fun k => match k with
  | _ => ("", "", "", false)
def tyJ10 : Nat → FieldType := fun k => match k with
  | _ => .int
abbrev wsJ100 : List Cond := u_ws RJ10 TJ10 0
theorem nmJ10 : ∀ a, a < 0 → ∀ b, b < 0 → a ≠ b → (TJ10 a).2.1 ≠ (TJ10 b).2.1 := by decide +kernel
theorem tyJ10_ok : ∀ k, k < 0 → parseFieldDescriptor (TJ10 k).2.2.1 = some (tyJ10 k) := by decide +kernel
def RL : String := "LimbMeasuresLaw"
abbrev cL_law : ByteArray := code
def yL_law : MethodName := ⟨RL, "law", "([I)Z"⟩
abbrev vwCl : List vw_C := [(RX0, TX0, 8), (RX1, TX1, 4), (RX2, TX2, 2), (RX3, TX3, 6), (RX4, TX4, 5), (RX5, TX5, 13), (RX6, TX6, 7), (RX7, TX7, 2), (RX8, TX8, 1), (RX9, TX9, 9), (RX10, TX10, 45)]
end
section
/-! THE ABSTRACT MACHINE: cells by their place in a list, locals by an association list, one step of one instruction a function. -/
abbrev AC : Type := (Nat × Nat × (Nat → Int32)) ⊕ (Nat × List Value)
abbrev AH : Type := List AC
abbrev AS : Type := Nat × List (Nat × Value) × List Value × AH
abbrev AE : Type := Instr × Nat × Nat × Nat × Int32 × Int64
abbrev MI : Type := MethodName × ByteArray × Nat × Option FieldType × List (Nat × AE)
abbrev AR : Type := Option Value × AH
abbrev AX : Type := Option (Nat × (Nat → Int32))
def ab_nt {α : Type} : List α → Nat → Option α
  | [], _ => none
  | a :: _, 0 => some a
  | _ :: r, k + 1 => ab_nt r k
def ab_st {α : Type} : List α → Nat → α → List α
  | [], _, _ => []
  | _ :: r, 0, v => v :: r
  | a :: r, k + 1, v => a :: ab_st r k v
def ab_lg : List (Nat × Value) → Nat → Option Value
  | [], _ => none
  | q :: r, i => if q.1 = i then some q.2 else ab_lg r i
def ab_lk : List (Nat × AE) → Nat → Option AE
  | [], _ => none
  | q :: r, pc => if q.1 = pc then some q.2 else ab_lk r pc
def ab_p1 (lv : List (Nat × Value)) (i : Nat) (v : Value) : List (Nat × Value) := (i, v) :: lv.filter (fun q => !(q.1 == i) && !(q.1 + 1 == i && q.2.category == 2))
def ab_p2 (lv : List (Nat × Value)) (i : Nat) (v : Value) : List (Nat × Value) := (i, v) :: lv.filter (fun q => !(q.1 == i) && (!(q.1 == i + 1) && !(q.1 + 1 == i && q.2.category == 2)))
/-- the law's own script, as a reference -/
def ab_scr : Nat := 1000000
def ab_if (c : Jvm.ClassFile.Cond) (x y : Int32) (a b : Nat) : Nat := match c with
  | .eq => if x = y then a else b
  | .ne => if ¬ x = y then a else b
  | .lt => if x < y then a else b
  | .ge => if y ≤ x then a else b
  | .gt => if y < x then a else b
  | .le => if x ≤ y then a else b
abbrev AO : Type := Option (AS × Prop)
def ab_push (n : Nat) (v : Value) : AS → AO
  | (pc, lv, r, h) => some ((pc + n, lv, v :: r, h), True)
def ab_b (n : Nat) (f : Int32 → Int32 → Int32) : AS → AO
  | (pc, lv, .int y :: .int x :: r, h) => some ((pc + n, lv, .int (f x y) :: r, h), True)
  | _ => none
def ab_d (n : Nat) (f : Int32 → Int32 → Int32) : AS → AO
  | (pc, lv, .int y :: .int x :: r, h) => some ((pc + n, lv, .int (f x y) :: r, h), ¬ y = 0)
  | _ => none
def ab_bl (n : Nat) (f : Int64 → Int64 → Int64) : AS → AO
  | (pc, lv, .long y :: .long x :: r, h) => some ((pc + n, lv, .long (f x y) :: r, h), True)
  | _ => none
def ab_dl (n : Nat) (f : Int64 → Int64 → Int64) : AS → AO
  | (pc, lv, .long y :: .long x :: r, h) => some ((pc + n, lv, .long (f x y) :: r, h), ¬ y = 0)
  | _ => none
def ab_ldi (n i : Nat) : AS → AO
  | (pc, lv, r, h) => match ab_lg lv i with
    | some (.int x) => some ((pc + n, lv, .int x :: r, h), True)
    | _ => none
def ab_ldl (n i : Nat) : AS → AO
  | (pc, lv, r, h) => match ab_lg lv i with
    | some (.long x) => some ((pc + n, lv, .long x :: r, h), True)
    | _ => none
def ab_lda (n i : Nat) : AS → AO
  | (pc, lv, r, h) => match ab_lg lv i with
    | some (.ref x) => some ((pc + n, lv, .ref x :: r, h), True)
    | _ => none
def ab_sti (n i maxL : Nat) : AS → AO
  | (pc, lv, .int x :: r, h) => some ((pc + n, ab_p1 lv i (.int x), r, h), i < maxL)
  | _ => none
def ab_stl (n i maxL : Nat) : AS → AO
  | (pc, lv, .long x :: r, h) => some ((pc + n, ab_p2 lv i (.long x), r, h), i + 1 < maxL)
  | _ => none
def ab_sta (n i maxL : Nat) : AS → AO
  | (pc, lv, .ref x :: r, h) => some ((pc + n, ab_p1 lv i (.ref x), r, h), i < maxL)
  | _ => none
def ab_inc (n i maxL : Nat) (v : Int32) : AS → AO
  | (pc, lv, r, h) => match ab_lg lv i with
    | some (.int x) => some ((pc + n, ab_p1 lv i (.int (x + v)), r, h), i < maxL)
    | _ => none
def ab_get (ci k : Nat) : AS → AO
  | (pc, lv, .ref a :: r, h) => match ab_nt h a with
    | some (.inr (c, fs)) => if c = ci then match ab_nt fs k with
      | some v => some ((pc + 3, lv, v :: r, h), True)
      | none => none else none
    | _ => none
  | _ => none
def ab_puti (ci k : Nat) : AS → AO
  | (pc, lv, .int x :: .ref a :: r, h) => match ab_nt h a with
    | some (.inr (c, fs)) => if c = ci then match ab_nt fs k with
      | some _ => some ((pc + 3, lv, r, ab_st h a (.inr (c, ab_st fs k (.int x)))), True)
      | none => none else none
    | _ => none
  | _ => none
def ab_puta (ci k : Nat) : AS → AO
  | (pc, lv, .ref x :: .ref a :: r, h) => match ab_nt h a with
    | some (.inr (c, fs)) => if c = ci then match ab_nt fs k with
      | some _ => some ((pc + 3, lv, r, ab_st h a (.inr (c, ab_st fs k (.ref x)))), True)
      | none => none else none
    | _ => none
  | _ => none
def ab_ald (b : Nat) : AS → AO
  | (pc, lv, .int i :: .ref a :: r, h) => match ab_nt h a with
    | some (.inl (t, n, f)) => if t = b then some ((pc + 1, lv, .int (f i.toNatClampNeg) :: r, h), vp_in i n) else none
    | _ => none
  | _ => none
def ab_sld (X : AX) : AS → AO
  | (pc, lv, .int i :: .ref a :: r, h) => match X with
    | some x => if a = ab_scr then some ((pc + 1, lv, .int (x.2 i.toNatClampNeg) :: r, h), vp_in i x.1) else none
    | none => none
  | _ => none
def ab_ast : AS → AO
  | (pc, lv, .int x :: .int i :: .ref a :: r, h) => match ab_nt h a with
    | some (.inl (0, n, f)) => some ((pc + 1, lv, r, ab_st h a (.inl (0, n, upd f i.toNatClampNeg x))), vp_in i n)
    | _ => none
  | _ => none
def ab_zst : AS → AO
  | (pc, lv, .int x :: .int i :: .ref a :: r, h) => match ab_nt h a with
    | some (.inl (1, n, f)) => some ((pc + 1, lv, r, ab_st h a (.inl (1, n, upd f i.toNatClampNeg x))), vp_in i n ∧ (x = 0 ∨ x = 1))
    | _ => none
  | _ => none
def ab_len (X : AX) : AS → AO
  | (pc, lv, .ref a :: r, h) => match X with
    | some x => if a = ab_scr then some ((pc + 1, lv, .int (Int32.ofNat x.1) :: r, h), True) else none
    | none => none
  | _ => none
def ab_cpy : AS → AO
  | (pc, lv, .int n :: .int dp :: .ref b :: .int sp :: .ref a :: r, h) => match ab_nt h a, ab_nt h b with
    | some (.inl (0, n0, f)), some (.inl (0, n1, g)) => some ((pc + 3, lv, r, ab_st h b (.inl (0, n1, va_cpy f g sp.toNatClampNeg dp.toNatClampNeg n.toNatClampNeg))),
        ¬ sp < 0 ∧ ¬ dp < 0 ∧ ¬ n < 0 ∧ sp.toNatClampNeg + n.toNatClampNeg ≤ n0 ∧ dp.toNatClampNeg + n.toNatClampNeg ≤ n1 ∧ (r.map fun v => v.category).sum ≤ 8)
    | _, _ => none
  | _ => none
def ab_m2 (f : Int32 → Int32 → Int32) : AS → AO
  | (pc, lv, .int y :: .int x :: r, h) => some ((pc + 3, lv, .int (f x y) :: r, h), (r.map fun v => v.category).sum ≤ 8)
  | _ => none
def ab_m1 (f : Int32 → Int32) : AS → AO
  | (pc, lv, .int x :: r, h) => some ((pc + 3, lv, .int (f x) :: r, h), (r.map fun v => v.category).sum ≤ 8)
  | _ => none
def ab_tsw (pc : Nat) (dflt lo hi : Int) (offs : Array Int) (x : Int32) : Nat := if x.toInt < lo ∨ hi < x.toInt then ((pc : Int) + dflt).toNat else match offs[(x.toInt - lo).toNat]? with
  | some o => ((pc : Int) + o).toNat
  | none => 0
/-- one instruction (no call, nothing made, no return): the state behind it, and what must hold for it -/
def ab_step (X : AX) (maxL : Nat) (e : AE) (S : AS) : AO := match e.1 with
  | .iconst _ => ab_push 1 (.int e.2.2.2.2.1) S
  | .bipush _ => ab_push 2 (.int e.2.2.2.2.1) S
  | .sipush _ => ab_push 3 (.int e.2.2.2.2.1) S
  | .ldc _ => ab_push 2 (.int e.2.2.2.2.1) S
  | .ldc_w _ => ab_push 3 (.int e.2.2.2.2.1) S
  | .lconst _ => ab_push 1 (.long e.2.2.2.2.2) S
  | .ldc2_w _ => ab_push 3 (.long e.2.2.2.2.2) S
  | .iload_n _ => ab_ldi 1 e.2.2.1 S
  | .iload _ => ab_ldi 2 e.2.2.1 S
  | .lload_n _ => ab_ldl 1 e.2.2.1 S
  | .lload _ => ab_ldl 2 e.2.2.1 S
  | .aload_n _ => ab_lda 1 e.2.2.1 S
  | .aload _ => ab_lda 2 e.2.2.1 S
  | .istore_n _ => ab_sti 1 e.2.2.1 maxL S
  | .istore _ => ab_sti 2 e.2.2.1 maxL S
  | .lstore_n _ => ab_stl 1 e.2.2.1 maxL S
  | .lstore _ => ab_stl 2 e.2.2.1 maxL S
  | .astore_n _ => ab_sta 1 e.2.2.1 maxL S
  | .iinc _ _ => ab_inc 3 e.2.2.1 maxL e.2.2.2.2.1 S
  | .iadd => ab_b 1 (· + ·) S
  | .isub => ab_b 1 (· - ·) S
  | .imul => ab_b 1 (· * ·) S
  | .iand => ab_b 1 (· &&& ·) S
  | .ior => ab_b 1 (· ||| ·) S
  | .ixor => ab_b 1 (· ^^^ ·) S
  | .idiv => ab_d 1 (· / ·) S
  | .irem => ab_d 1 (fun x y => x - x / y * y) S
  | .ishl => ab_b 1 (fun x y => x <<< (y &&& 31)) S
  | .ishr => ab_b 1 (fun x y => x >>> (y &&& 31)) S
  | .iushr => ab_b 1 (fun x y => (x.toUInt32 >>> (y.toUInt32 &&& Int32.toUInt32 31)).toInt32) S
  | .ineg => match S with
    | (pc, lv, .int x :: r, h) => some ((pc + 1, lv, .int (-x) :: r, h), True)
    | _ => none
  | .ladd => ab_bl 1 (· + ·) S
  | .lmul => ab_bl 1 (· * ·) S
  | .land => ab_bl 1 (· &&& ·) S
  | .ldiv => ab_dl 1 (· / ·) S
  | .lrem => ab_dl 1 (fun x y => x - x / y * y) S
  | .lcmp => match S with
    | (pc, lv, .long y :: .long x :: r, h) => some ((pc + 1, lv, .int (lg_cmp x y) :: r, h), True)
    | _ => none
  | .i2l => match S with
    | (pc, lv, .int x :: r, h) => some ((pc + 1, lv, .long x.toInt64 :: r, h), True)
    | _ => none
  | .l2i => match S with
    | (pc, lv, .long x :: r, h) => some ((pc + 1, lv, .int x.toInt32 :: r, h), True)
    | _ => none
  | .dup => match S with
    | (pc, lv, v :: r, h) => some ((pc + 1, lv, v :: v :: r, h), v.category = 1)
    | _ => none
  | .dup2 => match S with
    | (pc, lv, v :: w :: r, h) => some ((pc + 1, lv, v :: w :: v :: w :: r, h), v.category = 1 ∧ w.category = 1)
    | _ => none
  | .goto _ => match S with
    | (_, lv, r, h) => some ((e.2.2.1, lv, r, h), True)
  | .ifCond c _ => match S with
    | (pc, lv, .int x :: r, h) => some ((ab_if c x 0 e.2.2.1 (pc + 3), lv, r, h), True)
    | _ => none
  | .if_icmp c _ => match S with
    | (pc, lv, .int y :: .int x :: r, h) => some ((ab_if c x y e.2.2.1 (pc + 3), lv, r, h), True)
    | _ => none
  | .getfield _ => ab_get e.2.2.1 e.2.2.2.1 S
  | .putfield _ => if e.2.2.2.2.1 = 0 then ab_puti e.2.2.1 e.2.2.2.1 S else ab_puta e.2.2.1 e.2.2.2.1 S
  | .iaload => if X.isSome then ab_sld X S else ab_ald 0 S
  | .baload => ab_ald 1 S
  | .iastore => ab_ast S
  | .bastore => ab_zst S
  | .arraylength => ab_len X S
  | .invokestatic _ => if e.2.2.1 = 1 then ab_cpy S else if e.2.2.1 = 2 then ab_m2 (fun x y => if x < y then y else x) S else if e.2.2.1 = 3 then ab_m2 (fun x y => if y < x then y else x) S else if e.2.2.1 = 4 then ab_m1 (fun x => if 0 ≤ x then x else 0 - x) S else none
  | .invokespecial _ => if e.2.2.1 = 1 then match S with
    | (pc, lv, .ref _ :: r, h) => some ((pc + 3, lv, r, h), (r.map fun v => v.category).sum ≤ 8)
    | _ => none else none
  | .tableswitch dflt lo hi offs => match S with
    | (pc, lv, .int x :: r, h) => some ((ab_tsw pc dflt lo hi offs x, lv, r, h), True)
    | _ => none
  | .lookupswitch dflt ps => match S with
    | (pc, lv, .int x :: r, h) => some ((((pc : Int) + Op.lookupswitch.offset ps.toList dflt x.toInt).toNat, lv, r, h), 0 ≤ (pc : Int) + Op.lookupswitch.offset ps.toList dflt x.toInt)
    | _ => none
  | _ => none

def ab_iter (X : AX) (M : MI) : Nat → AS → AO
  | 0, S => some (S, True)
  | k + 1, S => match ab_lk M.2.2.2.2 S.1 with
    | some e => match ab_step X M.2.2.1 e S with
      | some (S', C) => match ab_iter X M k S' with
        | some (S2, C2) => some (S2, C ∧ C2)
        | none => none
      | none => none
    | none => none
/-- the words that every frame keeps; those of nest mates, that go along by themselves -/
def ab_T : List Cond := lw_tbl.filter goodWord
def ab_ns : Cond → Bool
  | .fieldLinkNest .. => true
  | .methodLinkNest .. => true
  | _ => false
def ab_U : List Cond := lw_tbl.filter ab_ns
theorem ab_in {i : Nat} {w : Cond} (h : lw_tbl[i]? = some w) (g : goodWord w = true) : w ∈ ab_T := List.mem_filter.mpr ⟨List.mem_of_getElem? h, g⟩
theorem ab_iu {i : Nat} {w : Cond} (h : lw_tbl[i]? = some w) (g : ab_ns w = true) : w ∈ ab_U := List.mem_filter.mpr ⟨List.mem_of_getElem? h, g⟩
/-- what a program decides of an entry -/
def ab_okd (pc : Nat) (e : AE) : Bool := match e.1 with
  | .iconst n => e.2.1 == 1 && Int32.ofInt n == e.2.2.2.2.1
  | .bipush n => e.2.1 == 2 && (Int8.ofInt n).toInt32 == e.2.2.2.2.1
  | .sipush n => e.2.1 == 3 && (Int16.ofInt n).toInt32 == e.2.2.2.2.1
  | .ldc _ => e.2.1 == 2
  | .ldc_w _ => e.2.1 == 3
  | .lconst n => e.2.1 == 1 && Int64.ofNat (n : Nat) == e.2.2.2.2.2
  | .ldc2_w _ => e.2.1 == 3
  | .iload_n k => e.2.1 == 1 && (k : Nat) == e.2.2.1
  | .iload k => e.2.1 == 2 && k == e.2.2.1
  | .lload_n k => e.2.1 == 1 && (k : Nat) == e.2.2.1
  | .lload k => e.2.1 == 2 && k == e.2.2.1
  | .aload_n k => e.2.1 == 1 && (k : Nat) == e.2.2.1
  | .aload k => e.2.1 == 2 && k == e.2.2.1
  | .istore_n k => e.2.1 == 1 && (k : Nat) == e.2.2.1
  | .istore k => e.2.1 == 2 && k == e.2.2.1
  | .lstore_n k => e.2.1 == 1 && (k : Nat) == e.2.2.1
  | .lstore k => e.2.1 == 2 && k == e.2.2.1
  | .astore_n k => e.2.1 == 1 && (k : Nat) == e.2.2.1
  | .iinc i n => e.2.1 == 3 && i == e.2.2.1 && Int32.ofInt n == e.2.2.2.2.1
  | .goto o => e.2.1 == 3 && decide ((pc : Int) + o = (e.2.2.1 : Int))
  | .ifCond _ o => e.2.1 == 3 && decide ((pc : Int) + o = (e.2.2.1 : Int))
  | .if_icmp _ o => e.2.1 == 3 && decide ((pc : Int) + o = (e.2.2.1 : Int))
  | .getfield _ => e.2.1 == 3
  | .putfield _ => e.2.1 == 3
  | .invokestatic _ => e.2.1 == 3
  | .invokespecial _ => e.2.1 == 3
  | .invokevirtual _ => e.2.1 == 3
  | .new _ => e.2.1 == 3
  | .newarray _ => e.2.1 == 2
  | .tableswitch dflt lo hi offs => decide (0 ≤ (pc : Int) + dflt) && decide (hi - lo < offs.size) && offs.toList.all (fun o => decide (0 ≤ (pc : Int) + o))
  | .lookupswitch _ ps => (ps.toList.zip (ps.toList.drop 1)).all (fun (a, next) => a.1 < next.1)
  | _ => e.2.1 == 1
/-- a field's words: read -/
def ab_F (own : String) (idx ci k : Nat) : Prop := ∃ (C : String) (T : u_T) (N : Nat), vwCl[ci]? = some (C, T, N) ∧ k < N ∧ (T k).1 = C ∧ (∀ w ∈ u_ws C T N, w ∈ ab_T) ∧ (Cond.fieldLink own idx C (T k).2.1 (T k).2.2.1 ∈ ab_T ∨ ∃ host, Cond.fieldLinkNest own idx C (T k).2.1 (T k).2.2.1 host ∈ ab_U)
/-- a field's words: write -/
def ab_G (own nm : String) (idx ci k : Nat) (z : Int32) : Prop := ∃ (C : String) (T : u_T) (N : Nat) (ty : Nat → FieldType), vwCl[ci]? = some (C, T, N) ∧ k < N ∧ (T k).1 = C ∧ (∀ w ∈ u_ws C T N, w ∈ ab_T) ∧ (∀ j, j < N → parseFieldDescriptor (T j).2.2.1 = some (ty j)) ∧ (∀ a, a < N → ∀ b, b < N → a ≠ b → (T a).2.1 ≠ (T b).2.1)
  ∧ ((z = 0 ∧ ty k = .int) ∨ (¬ z = 0 ∧ ((∃ t, ty k = .array t) ∨ ∃ o, ty k = .object o)))
  ∧ (((T k).2.2.2 = false ∧ (Cond.fieldLink own idx C (T k).2.1 (T k).2.2.1 ∈ ab_T ∨ ∃ host, Cond.fieldLinkNest own idx C (T k).2.1 (T k).2.2.1 host ∈ ab_U)) ∨ ((T k).2.2.2 = true ∧ nm = "<init>" ∧ (T k).1 = own ∧ Cond.fieldLink own idx C (T k).2.1 (T k).2.2.1 ∈ ab_T))
def ab_ln (M : MI) (e : AE) : Prop := match e.1 with
  | .getfield i => ab_F M.1.cls i e.2.2.1 e.2.2.2.1
  | .putfield i => ab_G M.1.cls M.1.name i e.2.2.1 e.2.2.2.1 e.2.2.2.2.1
  | .ldc i => Cond.constant M.1.cls i e.2.2.2.2.1 ∈ ab_T
  | .ldc_w i => Cond.constant M.1.cls i e.2.2.2.2.1 ∈ ab_T
  | .ldc2_w i => Cond.constantLong M.1.cls i e.2.2.2.2.2 ∈ ab_T
  | .invokestatic i => (e.2.2.1 = 1 → Cond.methodLink M.1.cls i arraycopyName ∈ ab_T) ∧ (e.2.2.1 = 2 → Cond.methodLink M.1.cls i Lib.Math.max.name ∈ ab_T) ∧ (e.2.2.1 = 3 → Cond.methodLink M.1.cls i Lib.Math.min.name ∈ ab_T) ∧ (e.2.2.1 = 4 → Cond.methodLink M.1.cls i Lib.Math.abs.name ∈ ab_T)
  | .invokespecial i => e.2.2.1 = 1 → Cond.methodLink M.1.cls i objectInit ∈ ab_T
  | _ => True
def ab_al (M : MI) : List (Nat × AE) → Prop
  | [] => True
  | q :: r => ab_ln M q.2 ∧ ab_al M r
def ab_ok (M : MI) : Prop := M.2.2.1 ≤ 45 ∧ M.2.2.2.2.all (fun q => decide (decode M.2.1 q.1 = .ok (q.2.1, q.2.2.1)) && ab_okd q.1 q.2) = true ∧ ab_al M M.2.2.2.2
/-- a call's words -/
def ab_CV (own : String) (idx ci : Nat) (M : MI) (n : Nat) : Prop := (∃ (T : u_T) (N : Nat), vwCl[ci]? = some (M.1.cls, T, N)) ∧ Cond.methodLink own idx M.1 ∈ ab_T ∧ Cond.instanceMethod M.1 ∈ ab_T ∧ Cond.selects M.1.cls M.1 M.1 ∈ ab_T ∧ Cond.initialized M.1.cls ∈ ab_T ∧ Cond.code M.1 M.2.1 M.2.2.1 M.2.2.2.1 ∈ ab_T ∧ M.1.cls ≠ "java/lang/invoke/MethodHandle" ∧ M.1.cls ≠ "java/lang/invoke/VarHandle" ∧ (parseMethodDescriptor M.1.desc).map (fun d => d.parameters.length) = some n ∧ plainName M.1.cls = true
def ab_CS (own : String) (idx : Nat) (M : MI) (n : Nat) : Prop := Cond.methodLink own idx M.1 ∈ ab_T ∧ Cond.static M.1 ∈ ab_T ∧ Cond.initialized M.1.cls ∈ ab_T ∧ Cond.code M.1 M.2.1 M.2.2.1 M.2.2.2.1 ∈ ab_T ∧ M.1.cls ≠ "java/lang/invoke/MethodHandle" ∧ M.1.cls ≠ "java/lang/invoke/VarHandle" ∧ (parseMethodDescriptor M.1.desc).map (fun d => d.parameters.length) = some n ∧ plainName M.1.cls = true
def ab_CI (own : String) (idx : Nat) (M : MI) (n : Nat) : Prop := (Cond.methodLink own idx M.1 ∈ ab_T ∨ ∃ host, Cond.methodLinkNest own idx M.1 host ∈ ab_U) ∧ Cond.instanceMethod M.1 ∈ ab_T ∧ M.1.name = "<init>" ∧ M.2.2.2.1 = none ∧ Cond.initialized M.1.cls ∈ ab_T ∧ Cond.code M.1 M.2.1 M.2.2.1 M.2.2.2.1 ∈ ab_T ∧ M.1.cls ≠ "java/lang/invoke/MethodHandle" ∧ M.1.cls ≠ "java/lang/invoke/VarHandle" ∧ (parseMethodDescriptor M.1.desc).map (fun d => d.parameters.length) = some n ∧ plainName M.1.cls = true
/-- what 'new' needs; the fields as they are at first -/
def ab_N (own : String) (idx ci N : Nat) (fs : List Value) : Prop := ∃ (C : String) (T : u_T) (ty : Nat → FieldType), vwCl[ci]? = some (C, T, N) ∧ (∀ w ∈ u_ws C T N, w ∈ ab_T) ∧ (∀ j, j < N → parseFieldDescriptor (T j).2.2.1 = some (ty j)) ∧ Cond.classLink own idx C ∈ ab_T ∧ Cond.instantiable C N ∈ ab_T ∧ Cond.initialized C ∈ ab_T ∧ (∀ j, j < N → defaultValue (ty j) = vp_V fs j) ∧ (∀ v ∈ fs, ∀ a, v ≠ .ref a)
def ab_wv (n : Nat) : Value → Bool
  | .ref a => decide (a < n) || decide (a = ab_scr)
  | _ => true
def ab_wl (n : Nat) (lv : List (Nat × Value)) : Bool := lv.all fun q => ab_wv n q.2
def ab_ws (n : Nat) (st : List Value) : Bool := st.all (ab_wv n)
def ab_wh (n : Nat) (h : AH) : Bool := h.all fun c => match c with
  | .inl _ => true
  | .inr o => o.2.all (ab_wv n)
def ab_wf (S : AS) : Bool := decide (S.2.2.2.length < 1000) && ab_wl S.2.2.2.length S.2.1 && ab_ws S.2.2.2.length S.2.2.1 && ab_wh S.2.2.2.length S.2.2.2
def ab_lz : Nat → List Value → List (Nat × Value)
  | _, [] => []
  | i, v :: vs => (i, v) :: ab_lz (if v.category = 2 then i + 2 else i + 1) vs
def ab_rt (M : MI) (i : Instr) (v : Option Value) : Prop := match v with
  | none => i = .return_ ∧ M.2.2.2.1 = none
  | some (.int x) => i = .ireturn ∧ (M.2.2.2.1 = some .int ∨ (M.2.2.2.1 = some .boolean ∧ (x = 0 ∨ x = 1)))
  | _ => False
def ab_vi (v : Option Value) : Prop := match v with
  | none => True
  | some (.int _) => True
  | _ => False
/-- a relation that is closed under the rules of the machine -/
def ab_Cl (P : AX → Nat → Nat → Nat → MI → AS → AR → Prop) : Prop :=
  (∀ X d k n M S R e S' C, ab_ok M → ab_lk M.2.2.2.2 S.1 = some e → ab_step X M.2.2.1 e S = some (S', C) → C → P X d k n M S' R → P X d k n M S R) ∧
  (∀ X d k n M pc lv v h e, ab_ok M → ab_lk M.2.2.2.2 pc = some e → ab_rt M e.1 v → P X d k n M (pc, lv, v.toList, h) (v, h)) ∧
  (∀ X d k n d1 k1 n1 k2 n2 M M' R pc lv (As rest : List Value) h h1 v e idx ci a c0 f0, ab_ok M → ab_ok M' → ab_lk M.2.2.2.2 pc = some e → e.1 = .invokevirtual idx → ab_CV M.1.cls idx ci M' As.length → ab_nt h a = some (.inr (c0, f0)) → c0 = ci →
    (lg_sl (Value.ref a :: As)).length ≤ M'.2.2.1 → d1 + 1 ≤ d → k1 + k2 ≤ k → n1 + n2 ≤ n → (rest.map fun v => v.category).sum ≤ 8 → h.length ≤ h1.length → (k1 = 0 ∨ (ab_wl h.length lv = true ∧ ab_ws h.length rest = true)) → ab_vi v →
    P none d1 k1 n1 M' (0, ab_lz 0 (Value.ref a :: As), [], h) (v, h1) → P X d k2 n2 M (pc + 3, lv, v.toList ++ rest, h1) R → P X d k n M (pc, lv, As.reverse ++ .ref a :: rest, h) R) ∧
  (∀ X d k n d1 k1 n1 k2 n2 M M' R pc lv (As rest : List Value) h h1 v e idx, ab_ok M → ab_ok M' → ab_lk M.2.2.2.2 pc = some e → e.1 = .invokestatic idx → ab_CS M.1.cls idx M' As.length →
    (lg_sl As).length ≤ M'.2.2.1 → d1 + 1 ≤ d → k1 + k2 ≤ k → n1 + n2 ≤ n → (rest.map fun v => v.category).sum ≤ 8 → h.length ≤ h1.length → (k1 = 0 ∨ (ab_wl h.length lv = true ∧ ab_ws h.length rest = true)) → ab_vi v →
    P none d1 k1 n1 M' (0, ab_lz 0 As, [], h) (v, h1) → P X d k2 n2 M (pc + 3, lv, v.toList ++ rest, h1) R → P X d k n M (pc, lv, As.reverse ++ rest, h) R) ∧
  (∀ X d k n d1 k1 n1 k2 n2 M M' R pc lv (As rest : List Value) h h1 e idx a, ab_ok M → ab_ok M' → ab_lk M.2.2.2.2 pc = some e → e.1 = .invokespecial idx → ab_CI M.1.cls idx M' As.length →
    (lg_sl (Value.ref a :: As)).length ≤ M'.2.2.1 → d1 + 1 ≤ d → k1 + k2 ≤ k → n1 + n2 ≤ n → (rest.map fun v => v.category).sum ≤ 8 → h.length ≤ h1.length → (k1 = 0 ∨ (ab_wl h.length lv = true ∧ ab_ws h.length rest = true)) →
    P none d1 k1 n1 M' (0, ab_lz 0 (Value.ref a :: As), [], h) (none, h1) → P X d k2 n2 M (pc + 3, lv, rest, h1) R → P X d k n M (pc, lv, As.reverse ++ .ref a :: rest, h) R) ∧
  (∀ X d k n k2 n2 M R pc lv st h e idx ci N fs, ab_ok M → ab_lk M.2.2.2.2 pc = some e → e.1 = .new idx → ab_N M.1.cls idx ci N fs → ab_wf (pc, lv, st, h) = true → k2 + 1 ≤ k → n2 + N ≤ n →
    P X d k2 n2 M (pc + 3, lv, .ref h.length :: st, h ++ [.inr (ci, fs)]) R → P X d k n M (pc, lv, st, h) R) ∧
  (∀ X d k n k2 n2 M R pc lv st h e t ty (N : Nat) (x : Int32), ab_ok M → ab_lk M.2.2.2.2 pc = some e → e.1 = .newarray ty → ((ty = .int ∧ t = 0) ∨ (ty = .boolean ∧ t = 1)) → ab_wf (pc, lv, st, h) = true → ¬ x < 0 → x.toNatClampNeg = N → N ≤ 1000 → k2 + 1 ≤ k → n2 + N ≤ n →
    P X d k2 n2 M (pc + 2, lv, .ref h.length :: st, h ++ [.inl (t, N, fun _ => 0)]) R → P X d k n M (pc, lv, .int x :: st, h) R)
def ab_E (X : AX) (d k n : Nat) (M : MI) (S : AS) (R : AR) : Prop := ∀ P, ab_Cl P → P X d k n M S R
end
section
/-! THE ABSTRACT MACHINE IS SOUND: what it runs to, the machine runs to. -/
def ab_r (ad : Nat → Nat) : Value → Value
  | .ref a => .ref (ad a)
  | v => v
def ab_rl (ad : Nat → Nat) (lv : List (Nat × Value)) : List (Nat × Value) := lv.map fun q => (q.1, ab_r ad q.2)
def ab_rz (ad : Nat → Nat) (cA : Nat → ClassId) : AC → va_E
  | .inl (t, n, f) => .inl (cA t, n, .inl f)
  | .inr (c, fs) => .inr (c, fs.map (ab_r ad))
def ab_wd (ad : Nat → Nat) (cA : Nat → ClassId) : Nat → AH → va_W
  | _, [] => []
  | k, c :: r => (ad k, ab_rz ad cA c) :: ab_wd ad cA (k + 1) r
theorem ab_r_cat (ad : Nat → Nat) (v : Value) : (ab_r ad v).category = v.category := by cases v <;> rfl
theorem ab_wd_nt (ad : Nat → Nat) (cA : Nat → ClassId) : ∀ (h : AH) (k i : Nat) (c : AC), ab_nt h i = some c → (ab_wd ad cA k h)[i]? = some (ad (k + i), ab_rz ad cA c)
  | [], _, _, _, e => by simp [ab_nt] at e
  | a :: r, k, 0, c, e => by
    simp only [ab_nt, Option.some.injEq] at e
    subst e
    simp [ab_wd]
  | a :: r, k, i + 1, c, e => by
    have := ab_wd_nt ad cA r (k + 1) i c e
    simp only [ab_wd, List.getElem?_cons_succ]
    rw [this, show k + 1 + i = k + (i + 1) by omega]
theorem ab_wd_st (ad : Nat → Nat) (cA : Nat → ClassId) : ∀ (h : AH) (k i : Nat) (c : AC), ab_wd ad cA k (ab_st h i c) = (ab_wd ad cA k h).set i (ad (k + i), ab_rz ad cA c)
  | [], _, _, _ => by simp [ab_st, ab_wd]
  | a :: r, k, 0, c => by simp [ab_st, ab_wd]
  | a :: r, k, i + 1, c => by
    have := ab_wd_st ad cA r (k + 1) i c
    simp only [ab_wd, ab_st, List.set_cons_succ]
    rw [this, show k + 1 + i = k + (i + 1) by omega]
theorem ab_wd_app (ad : Nat → Nat) (cA : Nat → ClassId) : ∀ (h : AH) (k : Nat) (c : AC), ab_wd ad cA k (h ++ [c]) = ab_wd ad cA k h ++ [(ad (k + h.length), ab_rz ad cA c)]
  | [], k, c => by simp [ab_wd]
  | a :: r, k, c => by
    have := ab_wd_app ad cA r (k + 1) c
    simp only [ab_wd, List.cons_append, List.length_cons]
    rw [this, show k + 1 + r.length = k + (r.length + 1) by omega]
theorem ab_st_len {α : Type} : ∀ (h : List α) (i : Nat) (c : α), (ab_st h i c).length = h.length
  | [], _, _ => rfl
  | _ :: _, 0, _ => rfl
  | a :: r, i + 1, c => by simp [ab_st, ab_st_len r i c]
theorem ab_nt_get {α : Type} : ∀ (h : List α) (i : Nat), ab_nt h i = h[i]?
  | [], _ => by simp [ab_nt]
  | a :: r, 0 => by simp [ab_nt]
  | a :: r, i + 1 => by simp [ab_nt, ab_nt_get r i]
theorem ab_st_set {α : Type} : ∀ (h : List α) (i : Nat) (c : α), ab_st h i c = h.set i c
  | [], _, _ => by simp [ab_st]
  | _ :: _, 0, _ => by simp [ab_st]
  | a :: r, i + 1, c => by simp [ab_st, ab_st_set r i c]
theorem ab_nt_map {α β : Type} (f : α → β) (h : List α) (i : Nat) (c : α) (e : ab_nt h i = some c) : (h.map f)[i]? = some (f c) := by
  rw [ab_nt_get] at e
  simp [e]
theorem ab_st_map {α β : Type} (f : α → β) (h : List α) (i : Nat) (c : α) : (ab_st h i c).map f = (h.map f).set i (f c) := by
  rw [ab_st_set, List.map_set]
theorem ab_lg_mem : ∀ (lv : List (Nat × Value)) (i : Nat) (v : Value), ab_lg lv i = some v → (i, v) ∈ lv
  | [], _, _, e => by simp [ab_lg] at e
  | q :: r, i, v, e => by
    unfold ab_lg at e
    split at e
    · next h =>
      cases e
      subst h
      exact List.mem_cons_self
    · exact List.mem_cons_of_mem _ (ab_lg_mem r i v e)
theorem ab_lg_has {ad : Nat → Nat} {ls : Array Slot} {nL : Nat} {lv : List (Nat × Value)} {i : Nat} {v : Value} (h : lv_has ls nL (ab_rl ad lv)) (e : ab_lg lv i = some v) : ls[i]? = some (.val (ab_r ad v)) :=
  h.2.2 (i, ab_r ad v) (List.mem_map.mpr ⟨(i, v), ab_lg_mem lv i v e, rfl⟩)
theorem ab_lg_at {ad : Nat → Nat} {lv : List (Nat × Value)} {i : Nat} {v : Value} (e : ab_lg lv i = some v) : ∃ k : Nat, (ab_rl ad lv)[k]? = some (i, ab_r ad v) :=
  List.getElem?_of_mem (List.mem_map.mpr ⟨(i, v), ab_lg_mem lv i v e, rfl⟩)
theorem ab_p1_r (ad : Nat → Nat) (lv : List (Nat × Value)) (i : Nat) (v : Value) : (i, ab_r ad v) :: (ab_rl ad lv).filter (fun q => !(q.1 == i) && !(q.1 + 1 == i && q.2.category == 2)) = ab_rl ad (ab_p1 lv i v) := by
  simp only [ab_rl, ab_p1, List.map_cons, List.filter_map]
  congr 2
  apply List.filter_congr
  intro q _
  simp [Function.comp, ab_r_cat]
theorem ab_p2_r (ad : Nat → Nat) (lv : List (Nat × Value)) (i : Nat) (v : Value) : (i, ab_r ad v) :: (ab_rl ad lv).filter (fun q => !(q.1 == i) && (!(q.1 == i + 1) && !(q.1 + 1 == i && q.2.category == 2))) = ab_rl ad (ab_p2 lv i v) := by
  simp only [ab_rl, ab_p2, List.map_cons, List.filter_map]
  congr 2
  apply List.filter_congr
  intro q _
  simp [Function.comp, ab_r_cat]
theorem ab_cat_sum (ad : Nat → Nat) (r : List Value) : ((r.map (ab_r ad)).map fun v => v.category).sum = (r.map fun v => v.category).sum := by
  simp [Function.comp_def, ab_r_cat]
/-- the same addresses below, and of the script -/
def ab_ag (ad ad' : Nat → Nat) (n k : Nat) : Prop := (k = 0 → ad' = ad) ∧ ∀ i, (i < n ∨ i = ab_scr) → ad' i = ad i
theorem ab_ag.rf (ad : Nat → Nat) (n k : Nat) : ab_ag ad ad n k := ⟨fun _ => rfl, fun _ _ => rfl⟩
theorem ab_ag_v {ad ad' : Nat → Nat} {n k : Nat} (g : ab_ag ad ad' n k) {v : Value} (h : ab_wv n v = true) : ab_r ad' v = ab_r ad v := by
  cases v with
  | ref a =>
    simp only [ab_wv, Bool.or_eq_true, decide_eq_true_eq] at h
    simp only [ab_r, g.2 a h]
  | _ => rfl
theorem ab_ag_s {ad ad' : Nat → Nat} {n k : Nat} (g : ab_ag ad ad' n k) {st : List Value} (h : k = 0 ∨ ab_ws n st = true) : st.map (ab_r ad') = st.map (ab_r ad) := by
  rcases h with h | h
  · rw [g.1 h]
  · exact List.map_congr_left fun v hv => ab_ag_v g (List.all_eq_true.mp h v hv)
theorem ab_ag_l {ad ad' : Nat → Nat} {n k : Nat} (g : ab_ag ad ad' n k) {lv : List (Nat × Value)} (h : k = 0 ∨ ab_wl n lv = true) : ab_rl ad' lv = ab_rl ad lv := by
  rcases h with h | h
  · rw [g.1 h]
  · exact List.map_congr_left fun v hv => by rw [ab_ag_v g (List.all_eq_true.mp h v hv)]
theorem ab_ag_h {ad ad' : Nat → Nat} {n k : Nat} (cA : Nat → ClassId) (g : ab_ag ad ad' n k) : ∀ (h : AH) (j : Nat), j + h.length ≤ n → ab_wh n h = true → ab_wd ad' cA j h = ab_wd ad cA j h
  | [], _, _, _ => rfl
  | c :: r, j, hl, hw => by
    simp only [ab_wh, List.all_cons, Bool.and_eq_true] at hw
    simp only [List.length_cons] at hl
    have ih := ab_ag_h cA g r (j + 1) (by omega) hw.2
    simp only [ab_wd, ih, g.2 j (Or.inl (by omega))]
    congr 2
    cases c with
    | inl x => rfl
    | inr o =>
      simp only [ab_rz]
      rw [ab_ag_s (k := k) g (Or.inr hw.1)]
theorem ab_lz_args (ad : Nat → Nat) : ∀ (vs : List Value) (i : Nat), lv_args i (vs.map (ab_r ad)) = ab_rl ad (ab_lz i vs)
  | [], _ => rfl
  | v :: vs, i => by
    simp only [List.map_cons, lv_args, ab_lz, ab_rl, ab_r_cat]
    rw [ab_lz_args ad vs]
    rfl
theorem ab_sl_len (ad : Nat → Nat) (vs : List Value) : (lg_sl (vs.map (ab_r ad))).length = (lg_sl vs).length := by
  induction vs with
  | nil => rfl
  | cons v t ih =>
    simp only [lg_sl, List.map_cons, List.flatMap_cons, List.length_append, ab_r_cat] at ih ⊢
    rw [ih]
    split <;> rfl
/-- what stands of a frame -/
def ab_Fx (p : Program) (s : State) (m : MethodId) (args : Array Value) (meth : Method) (c : Code) (M : MI) (dC : Nat → ClassId) (dI : Nat → Nat → Nat) (cA : Nat → ClassId) (A : Nat → Prop) : Prop :=
  p.tables.exec = Jvm.exec ∧ c.code = M.2.1 ∧ c.maxLocals = M.2.2.1 ∧ (M.1.name = "<init>" → meth.name = "<init>") ∧ s.vm.findClass M.1.cls = some m.cls ∧ (∀ w ∈ ab_T, w.before args s = true) ∧ va_K (dC, dI) vwCl [(cA 0, .int), (cA 1, .boolean)] s ∧ (∀ q, s.heap.size ≤ q → A q) ∧ (∀ w ∈ ab_U, va_Nw w s)
def ab_RP (l : Launch) (X : AX) (d k n : Nat) (M : MI) (S : AS) (R : AR) : Prop :=
  ∀ (p : Program) (e : Env) (Rm : Room) (s : State) (m : MethodId) (args : Array Value) (below : List Frame) (meth : Method) (c : Code) (dC : Nat → ClassId) (dI : Nat → Nat → Nat) (cA : Nat → ClassId) (A : Nat → Prop) (mc ms : Nat) (Q : State → Prop),
    ab_Fx p s m args meth c M dC dI cA A → d + 1 ≤ Rm.frames → 64 * (d + 1) ≤ Rm.locals → mc ≤ Rm.cells → ms ≤ Rm.slots →
    ∀ (ad : Nat → Nat) (H : Heap) (locs : List Loc) (cells slots : Nat) (ls : Array Slot),
      (∀ x, X = some x → va_X (ad ab_scr) x.1 x.2 s s.heap ∧ ad ab_scr < s.heap.size ∧ ¬ A (ad ab_scr)) →
      cells + k ≤ mc → slots + n ≤ ms → va_S A s.heap H locs → va_P (dC, dI) vwCl (ab_wd ad cA 0 S.2.2.2) H → va_D A (ab_wd ad cA 0 S.2.2.2) → lv_has ls M.2.2.1 (ab_rl ad S.2.1) →
      (∀ (ad' : Nat → Nat) (H' : Heap) (locs' : List Loc) (cells' slots' pc' : Nat) (ls' : Array Slot) (i : Instr), ab_ag ad ad' S.2.2.2.length k → cells' ≤ mc → slots' ≤ ms → va_S A s.heap H' locs' → va_P (dC, dI) vwCl (ab_wd ad' cA 0 R.2) H' → va_D A (ab_wd ad' cA 0 R.2) → decode M.2.1 pc' = .ok (i, 1) → ab_rt M i R.1 →
        W p l e Rm s m args below meth c H' locs' cells' slots' Q (F0 m pc' ls' (R.1.toList.map (ab_r ad')))) →
      W p l e Rm s m args below meth c H locs cells slots Q (F0 m S.1 ls (S.2.2.1.map (ab_r ad)))
theorem ab_lk_mem : ∀ (t : List (Nat × AE)) (pc : Nat) (e : AE), ab_lk t pc = some e → (pc, e) ∈ t
  | [], _, _, h => by simp [ab_lk] at h
  | q :: r, pc, e, h => by
    unfold ab_lk at h
    split at h
    · next g =>
      cases h
      subst g
      exact List.mem_cons_self
    · exact List.mem_cons_of_mem _ (ab_lk_mem r pc e h)
theorem ab_al_mem {M : MI} : ∀ (t : List (Nat × AE)) (q : Nat × AE), ab_al M t → q ∈ t → ab_ln M q.2
  | [], _, _, h => by cases h
  | a :: r, q, h, hq => by
    rcases List.mem_cons.mp hq with e | e
    · rw [e]; exact h.1
    · exact ab_al_mem r q h.2 e
theorem ab_ok_at {M : MI} {pc : Nat} {e : AE} (h : ab_ok M) (hl : ab_lk M.2.2.2.2 pc = some e) : decode M.2.1 pc = .ok (e.1, e.2.1) ∧ ab_okd pc e = true ∧ ab_ln M e := by
  have hm := ab_lk_mem _ _ _ hl
  have h2 := List.all_eq_true.mp h.2.1 _ hm
  simp only [Bool.and_eq_true, decide_eq_true_eq] at h2
  exact ⟨h2.1, h2.2, ab_al_mem _ _ h.2.2 hm⟩
/-- an instruction that leaves the heap as it is -/
theorem ab_pure {l : Launch} {X : AX} {d k n : Nat} {M : MI} {R : AR} {pc pc' : Nat} {lv lv' : List (Nat × Value)} {st st' : List Value} {h : AH}
    (hstep : ∀ (p : Program) (e : Env) (Rm : Room) (s : State) (m : MethodId) (args : Array Value) (below : List Frame) (meth : Method) (c : Code) (dC : Nat → ClassId) (dI : Nat → Nat → Nat) (cA : Nat → ClassId) (A : Nat → Prop) (Q : State → Prop) (ad : Nat → Nat) (H : Heap) (locs : List Loc) (cells slots : Nat) (ls : Array Slot),
      ab_Fx p s m args meth c M dC dI cA A → d + 1 ≤ Rm.frames → 64 * (d + 1) ≤ Rm.locals → lv_has ls M.2.2.1 (ab_rl ad lv) → (∀ x, X = some x → va_X (ad ab_scr) x.1 x.2 s s.heap ∧ ad ab_scr < s.heap.size ∧ ¬ A (ad ab_scr)) → va_S A s.heap H locs → va_P (dC, dI) vwCl (ab_wd ad cA 0 h) H → cells ≤ Rm.cells → slots ≤ Rm.slots →
      (∀ ls', lv_has ls' M.2.2.1 (ab_rl ad lv') → W p l e Rm s m args below meth c H locs cells slots Q (F0 m pc' ls' (st'.map (ab_r ad)))) → W p l e Rm s m args below meth c H locs cells slots Q (F0 m pc ls (st.map (ab_r ad))))
    (hP : ab_RP l X d k n M (pc', lv', st', h) R) : ab_RP l X d k n M (pc, lv, st, h) R := by
  intro p e Rm s m args below meth c dC dI cA A mc ms Q hF h1 h2 h3 h4 ad H locs cells slots ls hX h5 h6 hS hW hD hl hk
  exact hstep p e Rm s m args below meth c dC dI cA A Q ad H locs cells slots ls hF h1 h2 hl hX hS hW (by omega) (by omega) (fun ls' hl' => hP p e Rm s m args below meth c dC dI cA A mc ms Q hF h1 h2 h3 h4 ad H locs cells slots ls' hX h5 h6 hS hW hD hl' hk)
/-- an instruction that writes one cell -/
theorem ab_writ {l : Launch} {X : AX} {d k n : Nat} {M : MI} {R : AR} {pc pc' : Nat} {lv : List (Nat × Value)} {st st' : List Value} {h h' : AH} (hlen : h'.length = h.length)
    (hstep : ∀ (p : Program) (e : Env) (Rm : Room) (s : State) (m : MethodId) (args : Array Value) (below : List Frame) (meth : Method) (c : Code) (dC : Nat → ClassId) (dI : Nat → Nat → Nat) (cA : Nat → ClassId) (A : Nat → Prop) (Q : State → Prop) (ad : Nat → Nat) (H : Heap) (locs : List Loc) (cells slots : Nat) (ls : Array Slot),
      ab_Fx p s m args meth c M dC dI cA A → d + 1 ≤ Rm.frames → 64 * (d + 1) ≤ Rm.locals → ls.size = M.2.2.1 → va_S A s.heap H locs → va_P (dC, dI) vwCl (ab_wd ad cA 0 h) H → va_D A (ab_wd ad cA 0 h) →
      (∀ (H' : Heap) (locs' : List Loc), va_P (dC, dI) vwCl (ab_wd ad cA 0 h') H' → va_D A (ab_wd ad cA 0 h') → va_S A s.heap H' locs' → W p l e Rm s m args below meth c H' locs' cells slots Q (F0 m pc' ls (st'.map (ab_r ad)))) → W p l e Rm s m args below meth c H locs cells slots Q (F0 m pc ls (st.map (ab_r ad))))
    (hP : ab_RP l X d k n M (pc', lv, st', h') R) : ab_RP l X d k n M (pc, lv, st, h) R := by
  intro p e Rm s m args below meth c dC dI cA A mc ms Q hF h1 h2 h3 h4 ad H locs cells slots ls hX h5 h6 hS hW hD hl hk
  refine hstep p e Rm s m args below meth c dC dI cA A Q ad H locs cells slots ls hF h1 h2 hl.1 hS hW hD (fun H' locs' hW' hD' hS' => hP p e Rm s m args below meth c dC dI cA A mc ms Q hF h1 h2 h3 h4 ad H' locs' cells slots ls hX h5 h6 hS' hW' hD' hl ?_)
  intro ad' H2 l2 c2 s2 pc2 ls2 i g
  exact hk ad' H2 l2 c2 s2 pc2 ls2 i (by rw [← hlen]; exact g)
end
section
/-! one step of the abstract machine is one of the machine -/
theorem ab_b_inv {n : Nat} {f : Int32 → Int32 → Int32} {S S' : AS} {C : Prop} (hs : ab_b n f S = some (S', C)) : ∃ pc lv y x r h, S = (pc, lv, .int y :: .int x :: r, h) ∧ S' = (pc + n, lv, .int (f x y) :: r, h) ∧ C = (True) := by
  unfold ab_b at hs
  split at hs
  · cases hs; exact ⟨_, _, _, _, _, _, rfl, rfl, rfl⟩
  · cases hs
theorem ab_d_inv {n : Nat} {f : Int32 → Int32 → Int32} {S S' : AS} {C : Prop} (hs : ab_d n f S = some (S', C)) : ∃ pc lv y x r h, S = (pc, lv, .int y :: .int x :: r, h) ∧ S' = (pc + n, lv, .int (f x y) :: r, h) ∧ C = (¬ y = 0) := by
  unfold ab_d at hs
  split at hs
  · cases hs; exact ⟨_, _, _, _, _, _, rfl, rfl, rfl⟩
  · cases hs
theorem ab_bl_inv {n : Nat} {f : Int64 → Int64 → Int64} {S S' : AS} {C : Prop} (hs : ab_bl n f S = some (S', C)) : ∃ pc lv y x r h, S = (pc, lv, .long y :: .long x :: r, h) ∧ S' = (pc + n, lv, .long (f x y) :: r, h) ∧ C = (True) := by
  unfold ab_bl at hs
  split at hs
  · cases hs; exact ⟨_, _, _, _, _, _, rfl, rfl, rfl⟩
  · cases hs
theorem ab_dl_inv {n : Nat} {f : Int64 → Int64 → Int64} {S S' : AS} {C : Prop} (hs : ab_dl n f S = some (S', C)) : ∃ pc lv y x r h, S = (pc, lv, .long y :: .long x :: r, h) ∧ S' = (pc + n, lv, .long (f x y) :: r, h) ∧ C = (¬ y = 0) := by
  unfold ab_dl at hs
  split at hs
  · cases hs; exact ⟨_, _, _, _, _, _, rfl, rfl, rfl⟩
  · cases hs
theorem ab_sti_inv {n : Nat} {i : Nat} {q : Nat} {S S' : AS} {C : Prop} (hs : ab_sti n i q S = some (S', C)) : ∃ pc lv x r h, S = (pc, lv, .int x :: r, h) ∧ S' = (pc + n, ab_p1 lv i (.int x), r, h) ∧ C = (i < q) := by
  unfold ab_sti at hs
  split at hs
  · cases hs; exact ⟨_, _, _, _, _, rfl, rfl, rfl⟩
  · cases hs
theorem ab_stl_inv {n : Nat} {i : Nat} {q : Nat} {S S' : AS} {C : Prop} (hs : ab_stl n i q S = some (S', C)) : ∃ pc lv x r h, S = (pc, lv, .long x :: r, h) ∧ S' = (pc + n, ab_p2 lv i (.long x), r, h) ∧ C = (i + 1 < q) := by
  unfold ab_stl at hs
  split at hs
  · cases hs; exact ⟨_, _, _, _, _, rfl, rfl, rfl⟩
  · cases hs
theorem ab_sta_inv {n : Nat} {i : Nat} {q : Nat} {S S' : AS} {C : Prop} (hs : ab_sta n i q S = some (S', C)) : ∃ pc lv x r h, S = (pc, lv, .ref x :: r, h) ∧ S' = (pc + n, ab_p1 lv i (.ref x), r, h) ∧ C = (i < q) := by
  unfold ab_sta at hs
  split at hs
  · cases hs; exact ⟨_, _, _, _, _, rfl, rfl, rfl⟩
  · cases hs
theorem ab_ldi_inv {n i : Nat} {S S' : AS} {C : Prop} (hs : ab_ldi n i S = some (S', C)) : ∃ pc lv x r h, S = (pc, lv, r, h) ∧ ab_lg lv i = some (.int x) ∧ S' = (pc + n, lv, .int x :: r, h) := by
  obtain ⟨pc, lv, r, h⟩ := S
  unfold ab_ldi at hs
  dsimp only at hs
  split at hs
  · next e => cases hs; exact ⟨_, _, _, _, _, rfl, e, rfl⟩
  · cases hs
theorem ab_ldl_inv {n i : Nat} {S S' : AS} {C : Prop} (hs : ab_ldl n i S = some (S', C)) : ∃ pc lv x r h, S = (pc, lv, r, h) ∧ ab_lg lv i = some (.long x) ∧ S' = (pc + n, lv, .long x :: r, h) := by
  obtain ⟨pc, lv, r, h⟩ := S
  unfold ab_ldl at hs
  dsimp only at hs
  split at hs
  · next e => cases hs; exact ⟨_, _, _, _, _, rfl, e, rfl⟩
  · cases hs
theorem ab_lda_inv {n i : Nat} {S S' : AS} {C : Prop} (hs : ab_lda n i S = some (S', C)) : ∃ pc lv x r h, S = (pc, lv, r, h) ∧ ab_lg lv i = some (.ref x) ∧ S' = (pc + n, lv, .ref x :: r, h) := by
  obtain ⟨pc, lv, r, h⟩ := S
  unfold ab_lda at hs
  dsimp only at hs
  split at hs
  · next e => cases hs; exact ⟨_, _, _, _, _, rfl, e, rfl⟩
  · cases hs
theorem ab_m2_inv {f : Int32 → Int32 → Int32} {S S' : AS} {C : Prop} (hs : ab_m2 f S = some (S', C)) : ∃ pc lv y x r h, S = (pc, lv, .int y :: .int x :: r, h) ∧ S' = (pc + 3, lv, .int (f x y) :: r, h) ∧ C = ((r.map fun v => v.category).sum ≤ 8) := by
  unfold ab_m2 at hs
  split at hs
  · cases hs; exact ⟨_, _, _, _, _, _, rfl, rfl, rfl⟩
  · cases hs
theorem ab_m1_inv {f : Int32 → Int32} {S S' : AS} {C : Prop} (hs : ab_m1 f S = some (S', C)) : ∃ pc lv x r h, S = (pc, lv, .int x :: r, h) ∧ S' = (pc + 3, lv, .int (f x) :: r, h) ∧ C = ((r.map fun v => v.category).sum ≤ 8) := by
  unfold ab_m1 at hs
  split at hs
  · cases hs; exact ⟨_, _, _, _, _, rfl, rfl, rfl⟩
  · cases hs
theorem ab_inc_inv {n i q : Nat} {v : Int32} {S S' : AS} {C : Prop} (hs : ab_inc n i q v S = some (S', C)) : ∃ pc lv x r h, S = (pc, lv, r, h) ∧ ab_lg lv i = some (.int x) ∧ S' = (pc + n, ab_p1 lv i (.int (x + v)), r, h) ∧ C = (i < q) := by
  obtain ⟨pc, lv, r, h⟩ := S
  unfold ab_inc at hs
  dsimp only at hs
  split at hs
  · next e => cases hs; exact ⟨_, _, _, _, _, rfl, e, rfl, rfl⟩
  · cases hs
theorem ab_get_inv {ci k : Nat} {S S' : AS} {C : Prop} (hs : ab_get ci k S = some (S', C)) : ∃ pc lv a r h fs v, S = (pc, lv, .ref a :: r, h) ∧ ab_nt h a = some (.inr (ci, fs)) ∧ ab_nt fs k = some v ∧ S' = (pc + 3, lv, v :: r, h) := by
  unfold ab_get at hs
  split at hs
  · split at hs
    · next e =>
      split at hs
      · next e2 =>
        split at hs
        · next e3 => cases hs; subst e2; exact ⟨_, _, _, _, _, _, _, rfl, e, e3, rfl⟩
        · cases hs
      · cases hs
    · cases hs
  · cases hs
theorem ab_puti_inv {ci k : Nat} {S S' : AS} {C : Prop} (hs : ab_puti ci k S = some (S', C)) : ∃ pc lv x a r h fs w, S = (pc, lv, .int x :: .ref a :: r, h) ∧ ab_nt h a = some (.inr (ci, fs)) ∧ ab_nt fs k = some w ∧ S' = (pc + 3, lv, r, ab_st h a (.inr (ci, ab_st fs k (.int x)))) := by
  unfold ab_puti at hs
  split at hs
  · split at hs
    · next e =>
      split at hs
      · next e2 =>
        split at hs
        · next e3 => cases hs; subst e2; exact ⟨_, _, _, _, _, _, _, _, rfl, e, e3, rfl⟩
        · cases hs
      · cases hs
    · cases hs
  · cases hs
theorem ab_puta_inv {ci k : Nat} {S S' : AS} {C : Prop} (hs : ab_puta ci k S = some (S', C)) : ∃ pc lv x a r h fs w, S = (pc, lv, .ref x :: .ref a :: r, h) ∧ ab_nt h a = some (.inr (ci, fs)) ∧ ab_nt fs k = some w ∧ S' = (pc + 3, lv, r, ab_st h a (.inr (ci, ab_st fs k (.ref x)))) := by
  unfold ab_puta at hs
  split at hs
  · split at hs
    · next e =>
      split at hs
      · next e2 =>
        split at hs
        · next e3 => cases hs; subst e2; exact ⟨_, _, _, _, _, _, _, _, rfl, e, e3, rfl⟩
        · cases hs
      · cases hs
    · cases hs
  · cases hs
theorem ab_ald_inv {b : Nat} {S S' : AS} {C : Prop} (hs : ab_ald b S = some (S', C)) : ∃ pc lv i a r h n f, S = (pc, lv, .int i :: .ref a :: r, h) ∧ ab_nt h a = some (.inl (b, n, f)) ∧ S' = (pc + 1, lv, .int (f i.toNatClampNeg) :: r, h) ∧ C = vp_in i n := by
  unfold ab_ald at hs
  split at hs
  · split at hs
    · next e =>
      split at hs
      · next e2 => cases hs; subst e2; exact ⟨_, _, _, _, _, _, _, _, rfl, e, rfl, rfl⟩
      · cases hs
    · cases hs
  · cases hs
theorem ab_sld_inv {X : AX} {S S' : AS} {C : Prop} (hs : ab_sld X S = some (S', C)) : ∃ pc lv i r h x, X = some x ∧ S = (pc, lv, .int i :: .ref ab_scr :: r, h) ∧ S' = (pc + 1, lv, .int (x.2 i.toNatClampNeg) :: r, h) ∧ C = vp_in i x.1 := by
  unfold ab_sld at hs
  split at hs
  · split at hs
    · split at hs
      · next e2 => cases hs; subst e2; exact ⟨_, _, _, _, _, _, rfl, rfl, rfl, rfl⟩
      · cases hs
    · cases hs
  · cases hs
theorem ab_len_inv {X : AX} {S S' : AS} {C : Prop} (hs : ab_len X S = some (S', C)) : ∃ pc lv r h x, X = some x ∧ S = (pc, lv, .ref ab_scr :: r, h) ∧ S' = (pc + 1, lv, .int (Int32.ofNat x.1) :: r, h) := by
  unfold ab_len at hs
  split at hs
  · split at hs
    · split at hs
      · next e2 => cases hs; subst e2; exact ⟨_, _, _, _, _, rfl, rfl, rfl⟩
      · cases hs
    · cases hs
  · cases hs
theorem ab_ast_inv {S S' : AS} {C : Prop} (hs : ab_ast S = some (S', C)) : ∃ pc lv x i a r h n f, S = (pc, lv, .int x :: .int i :: .ref a :: r, h) ∧ ab_nt h a = some (.inl (0, n, f)) ∧ S' = (pc + 1, lv, r, ab_st h a (.inl (0, n, upd f i.toNatClampNeg x))) ∧ C = vp_in i n := by
  unfold ab_ast at hs
  split at hs
  · split at hs
    · next e => cases hs; exact ⟨_, _, _, _, _, _, _, _, _, rfl, e, rfl, rfl⟩
    · cases hs
  · cases hs
theorem ab_zst_inv {S S' : AS} {C : Prop} (hs : ab_zst S = some (S', C)) : ∃ pc lv x i a r h n f, S = (pc, lv, .int x :: .int i :: .ref a :: r, h) ∧ ab_nt h a = some (.inl (1, n, f)) ∧ S' = (pc + 1, lv, r, ab_st h a (.inl (1, n, upd f i.toNatClampNeg x))) ∧ C = (vp_in i n ∧ (x = 0 ∨ x = 1)) := by
  unfold ab_zst at hs
  split at hs
  · split at hs
    · next e => cases hs; exact ⟨_, _, _, _, _, _, _, _, _, rfl, e, rfl, rfl⟩
    · cases hs
  · cases hs
theorem ab_cpy_inv {S S' : AS} {C : Prop} (hs : ab_cpy S = some (S', C)) : ∃ pc lv n dp b sp a r h n0 f n1 g, S = (pc, lv, .int n :: .int dp :: .ref b :: .int sp :: .ref a :: r, h) ∧ ab_nt h a = some (.inl (0, n0, f)) ∧ ab_nt h b = some (.inl (0, n1, g)) ∧ S' = (pc + 3, lv, r, ab_st h b (.inl (0, n1, va_cpy f g sp.toNatClampNeg dp.toNatClampNeg n.toNatClampNeg)))
    ∧ C = (¬ sp < 0 ∧ ¬ dp < 0 ∧ ¬ n < 0 ∧ sp.toNatClampNeg + n.toNatClampNeg ≤ n0 ∧ dp.toNatClampNeg + n.toNatClampNeg ≤ n1 ∧ (r.map fun v => v.category).sum ≤ 8) := by
  unfold ab_cpy at hs
  split at hs
  · split at hs
    · next e1 e2 => cases hs; exact ⟨_, _, _, _, _, _, _, _, _, _, _, _, _, rfl, e1, e2, rfl, rfl⟩
    · cases hs
  · cases hs
theorem ab_push_inv {n : Nat} {v : Value} {S S' : AS} {C : Prop} (hs : ab_push n v S = some (S', C)) : ∃ pc lv r h, S = (pc, lv, r, h) ∧ S' = (pc + n, lv, v :: r, h) := by
  obtain ⟨pc, lv, r, h⟩ := S
  unfold ab_push at hs
  cases hs
  exact ⟨_, _, _, _, rfl, rfl⟩
theorem ab_oi : Cond.code objectInit ⟨#[0xb1]⟩ 1 none ∈ ab_T := ab_in (i := 78) rfl rfl
set_option maxHeartbeats 4000000 in
set_option maxRecDepth 20000 in
theorem ab_s1 {l : Launch} {X : AX} {d k n : Nat} {M : MI} {R : AR} {S S' : AS} {e : AE} {C : Prop} (hok : ab_ok M) (hlk : ab_lk M.2.2.2.2 S.1 = some e) (hs : ab_step X M.2.2.1 e S = some (S', C)) (hC : C) (hP : ab_RP l X d k n M S' R) : ab_RP l X d k n M S R := by
  obtain ⟨hd, hb, hn⟩ := ab_ok_at hok hlk
  obtain ⟨ins, len, a1, a2, z, y⟩ := e
  dsimp only at hd hb hn
  cases ins with
  | iconst i =>
    simp only [ab_okd, Bool.and_eq_true, beq_iff_eq, decide_eq_true_eq] at hb
    obtain ⟨hb1, hb2⟩ := hb
    subst hb1
    have hs : ab_push 1 (.int z) S = some (S', C) := hs
    obtain ⟨pc, lv, r, h, rfl, rfl⟩ := ab_push_inv hs
    exact ab_pure (fun p e Rm s m args below meth c dC dI cA A Q ad H locs cells slots ls hF hr1 hr2 hl hX hS hW hc1 hc2 kk => lv_iconst hF.1 hF.2.1 hd hb2 (kk ls hl)) hP
  | bipush i =>
    simp only [ab_okd, Bool.and_eq_true, beq_iff_eq, decide_eq_true_eq] at hb
    obtain ⟨hb1, hb2⟩ := hb
    subst hb1
    have hs : ab_push 2 (.int z) S = some (S', C) := hs
    obtain ⟨pc, lv, r, h, rfl, rfl⟩ := ab_push_inv hs
    exact ab_pure (fun p e Rm s m args below meth c dC dI cA A Q ad H locs cells slots ls hF hr1 hr2 hl hX hS hW hc1 hc2 kk => lv_bipush hF.1 hF.2.1 hd hb2 (kk ls hl)) hP
  | sipush i =>
    simp only [ab_okd, Bool.and_eq_true, beq_iff_eq, decide_eq_true_eq] at hb
    obtain ⟨hb1, hb2⟩ := hb
    subst hb1
    have hs : ab_push 3 (.int z) S = some (S', C) := hs
    obtain ⟨pc, lv, r, h, rfl, rfl⟩ := ab_push_inv hs
    exact ab_pure (fun p e Rm s m args below meth c dC dI cA A Q ad H locs cells slots ls hF hr1 hr2 hl hX hS hW hc1 hc2 kk => lv_sipush hF.1 hF.2.1 hd hb2 (kk ls hl)) hP
  | lconst i =>
    simp only [ab_okd, Bool.and_eq_true, beq_iff_eq, decide_eq_true_eq] at hb
    obtain ⟨hb1, hb2⟩ := hb
    subst hb1
    have hs : ab_push 1 (.long y) S = some (S', C) := hs
    obtain ⟨pc, lv, r, h, rfl, rfl⟩ := ab_push_inv hs
    exact ab_pure (fun p e Rm s m args below meth c dC dI cA A Q ad H locs cells slots ls hF hr1 hr2 hl hX hS hW hc1 hc2 kk => lv_lconst hF.1 hF.2.1 hd hb2 (kk ls hl)) hP
  | ldc i =>
    simp only [ab_okd, Bool.and_eq_true, beq_iff_eq, decide_eq_true_eq] at hb
    subst hb
    have hs : ab_push 2 (.int z) S = some (S', C) := hs
    obtain ⟨pc, lv, r, h, rfl, rfl⟩ := ab_push_inv hs
    exact ab_pure (fun p e Rm s m args below meth c dC dI cA A Q ad H locs cells slots ls hF hr1 hr2 hl hX hS hW hc1 hc2 kk => lv_ldc hF.1 hF.2.1 hF.2.2.2.2.1 (hF.2.2.2.2.2.1 _ hn) hd (kk ls hl)) hP
  | ldc_w i =>
    simp only [ab_okd, Bool.and_eq_true, beq_iff_eq, decide_eq_true_eq] at hb
    subst hb
    have hs : ab_push 3 (.int z) S = some (S', C) := hs
    obtain ⟨pc, lv, r, h, rfl, rfl⟩ := ab_push_inv hs
    exact ab_pure (fun p e Rm s m args below meth c dC dI cA A Q ad H locs cells slots ls hF hr1 hr2 hl hX hS hW hc1 hc2 kk => lv_ldcw hF.1 hF.2.1 hF.2.2.2.2.1 (hF.2.2.2.2.2.1 _ hn) hd (kk ls hl)) hP
  | ldc2_w i =>
    simp only [ab_okd, Bool.and_eq_true, beq_iff_eq, decide_eq_true_eq] at hb
    subst hb
    have hs : ab_push 3 (.long y) S = some (S', C) := hs
    obtain ⟨pc, lv, r, h, rfl, rfl⟩ := ab_push_inv hs
    exact ab_pure (fun p e Rm s m args below meth c dC dI cA A Q ad H locs cells slots ls hF hr1 hr2 hl hX hS hW hc1 hc2 kk => lv_ldc2 hF.1 hF.2.1 hF.2.2.2.2.1 (hF.2.2.2.2.2.1 _ hn) hd (kk ls hl)) hP
  | iload_n i =>
    simp only [ab_okd, Bool.and_eq_true, beq_iff_eq, decide_eq_true_eq] at hb
    obtain ⟨hb1, hb2⟩ := hb
    subst hb1
    have hs : ab_ldi 1 a1 S = some (S', C) := hs
    obtain ⟨pc, lv, x, r, h, rfl, hg, rfl⟩ := ab_ldi_inv hs
    exact ab_pure (fun p e Rm s m args below meth c dC dI cA A Q ad H locs cells slots ls hF hr1 hr2 hl hX hS hW hc1 hc2 kk => lv_iload_n hF.1 hF.2.1 hd hb2 (ab_lg_has hl hg) (kk ls hl)) hP
  | iload i =>
    simp only [ab_okd, Bool.and_eq_true, beq_iff_eq, decide_eq_true_eq] at hb
    obtain ⟨hb1, hb2⟩ := hb
    subst hb1
    subst hb2
    have hs : ab_ldi 2 i S = some (S', C) := hs
    obtain ⟨pc, lv, x, r, h, rfl, hg, rfl⟩ := ab_ldi_inv hs
    exact ab_pure (fun p e Rm s m args below meth c dC dI cA A Q ad H locs cells slots ls hF hr1 hr2 hl hX hS hW hc1 hc2 kk => lv_iload hF.1 hF.2.1 hd (ab_lg_has hl hg) (kk ls hl)) hP
  | lload_n i =>
    simp only [ab_okd, Bool.and_eq_true, beq_iff_eq, decide_eq_true_eq] at hb
    obtain ⟨hb1, hb2⟩ := hb
    subst hb1
    have hs : ab_ldl 1 a1 S = some (S', C) := hs
    obtain ⟨pc, lv, x, r, h, rfl, hg, rfl⟩ := ab_ldl_inv hs
    exact ab_pure (fun p e Rm s m args below meth c dC dI cA A Q ad H locs cells slots ls hF hr1 hr2 hl hX hS hW hc1 hc2 kk => lv_lload_n hF.1 hF.2.1 hd hb2 (ab_lg_has hl hg) (kk ls hl)) hP
  | lload i =>
    simp only [ab_okd, Bool.and_eq_true, beq_iff_eq, decide_eq_true_eq] at hb
    obtain ⟨hb1, hb2⟩ := hb
    subst hb1
    subst hb2
    have hs : ab_ldl 2 i S = some (S', C) := hs
    obtain ⟨pc, lv, x, r, h, rfl, hg, rfl⟩ := ab_ldl_inv hs
    exact ab_pure (fun p e Rm s m args below meth c dC dI cA A Q ad H locs cells slots ls hF hr1 hr2 hl hX hS hW hc1 hc2 kk => lv_lload hF.1 hF.2.1 hd (ab_lg_has hl hg) (kk ls hl)) hP
  | aload_n i =>
    simp only [ab_okd, Bool.and_eq_true, beq_iff_eq, decide_eq_true_eq] at hb
    obtain ⟨hb1, hb2⟩ := hb
    subst hb1
    have hs : ab_lda 1 a1 S = some (S', C) := hs
    obtain ⟨pc, lv, x, r, h, rfl, hg, rfl⟩ := ab_lda_inv hs
    exact ab_pure (fun p e Rm s m args below meth c dC dI cA A Q ad H locs cells slots ls hF hr1 hr2 hl hX hS hW hc1 hc2 kk => lv_aload_n hF.1 hF.2.1 hd hb2 (ab_lg_has hl hg) (kk ls hl)) hP
  | aload i =>
    simp only [ab_okd, Bool.and_eq_true, beq_iff_eq, decide_eq_true_eq] at hb
    obtain ⟨hb1, hb2⟩ := hb
    subst hb1
    subst hb2
    have hs : ab_lda 2 i S = some (S', C) := hs
    obtain ⟨pc, lv, x, r, h, rfl, hg, rfl⟩ := ab_lda_inv hs
    exact ab_pure (fun p e Rm s m args below meth c dC dI cA A Q ad H locs cells slots ls hF hr1 hr2 hl hX hS hW hc1 hc2 kk => lv_aload hF.1 hF.2.1 hd (ab_lg_has hl hg) (kk ls hl)) hP
  | istore_n i =>
    simp only [ab_okd, Bool.and_eq_true, beq_iff_eq, decide_eq_true_eq] at hb
    obtain ⟨hb1, hb2⟩ := hb
    subst hb1
    have hs : ab_sti 1 a1 M.2.2.1 S = some (S', C) := hs
    obtain ⟨pc, lv, x, r, h, rfl, rfl, rfl⟩ := ab_sti_inv hs
    exact ab_pure (fun p e Rm s m args below meth c dC dI cA A Q ad H locs cells slots ls hF hr1 hr2 hl hX hS hW hc1 hc2 kk => lv_istore_n hF.1 hF.2.1 hd hb2 hl hC (ab_p1_r ad lv a1 (.int x)) kk) hP
  | istore i =>
    simp only [ab_okd, Bool.and_eq_true, beq_iff_eq, decide_eq_true_eq] at hb
    obtain ⟨hb1, hb2⟩ := hb
    subst hb1
    subst hb2
    have hs : ab_sti 2 i M.2.2.1 S = some (S', C) := hs
    obtain ⟨pc, lv, x, r, h, rfl, rfl, rfl⟩ := ab_sti_inv hs
    exact ab_pure (fun p e Rm s m args below meth c dC dI cA A Q ad H locs cells slots ls hF hr1 hr2 hl hX hS hW hc1 hc2 kk => lv_istore hF.1 hF.2.1 hd hl hC (ab_p1_r ad lv i (.int x)) kk) hP
  | lstore_n i =>
    simp only [ab_okd, Bool.and_eq_true, beq_iff_eq, decide_eq_true_eq] at hb
    obtain ⟨hb1, hb2⟩ := hb
    subst hb1
    have hs : ab_stl 1 a1 M.2.2.1 S = some (S', C) := hs
    obtain ⟨pc, lv, x, r, h, rfl, rfl, rfl⟩ := ab_stl_inv hs
    exact ab_pure (fun p e Rm s m args below meth c dC dI cA A Q ad H locs cells slots ls hF hr1 hr2 hl hX hS hW hc1 hc2 kk => lv_lstore_n hF.1 hF.2.1 hd hb2 hl hC (ab_p2_r ad lv a1 (.long x)) kk) hP
  | lstore i =>
    simp only [ab_okd, Bool.and_eq_true, beq_iff_eq, decide_eq_true_eq] at hb
    obtain ⟨hb1, hb2⟩ := hb
    subst hb1
    subst hb2
    have hs : ab_stl 2 i M.2.2.1 S = some (S', C) := hs
    obtain ⟨pc, lv, x, r, h, rfl, rfl, rfl⟩ := ab_stl_inv hs
    exact ab_pure (fun p e Rm s m args below meth c dC dI cA A Q ad H locs cells slots ls hF hr1 hr2 hl hX hS hW hc1 hc2 kk => lv_lstore hF.1 hF.2.1 hd hl hC (ab_p2_r ad lv i (.long x)) kk) hP
  | astore_n i =>
    simp only [ab_okd, Bool.and_eq_true, beq_iff_eq, decide_eq_true_eq] at hb
    obtain ⟨hb1, hb2⟩ := hb
    subst hb1
    have hs : ab_sta 1 a1 M.2.2.1 S = some (S', C) := hs
    obtain ⟨pc, lv, x, r, h, rfl, rfl, rfl⟩ := ab_sta_inv hs
    exact ab_pure (fun p e Rm s m args below meth c dC dI cA A Q ad H locs cells slots ls hF hr1 hr2 hl hX hS hW hc1 hc2 kk => lv_astore_n hF.1 hF.2.1 hd hb2 hl hC (ab_p1_r ad lv a1 (.ref x)) kk) hP
  | iinc i v =>
    simp only [ab_okd, Bool.and_eq_true, beq_iff_eq, decide_eq_true_eq] at hb
    obtain ⟨⟨hb1, hb2⟩, hb3⟩ := hb
    subst hb1
    subst hb2
    have hs : ab_inc 3 i M.2.2.1 z S = some (S', C) := hs
    obtain ⟨pc, lv, x, r, h, rfl, hg, rfl, rfl⟩ := ab_inc_inv hs
    exact ab_pure (fun p e Rm s m args below meth c dC dI cA A Q ad H locs cells slots ls hF hr1 hr2 hl hX hS hW hc1 hc2 kk => by
      obtain ⟨q, hq⟩ := ab_lg_at (ad := ad) hg
      exact lv_iinc hF.1 hF.2.1 hd hl hq (by rw [hb3]) hC (ab_p1_r ad lv i (.int (x + z))) kk) hP
  | iadd =>
    have hb : len = 1 := by simpa [ab_okd] using hb
    subst hb
    have hs : ab_b 1 (· + ·) S = some (S', C) := hs
    obtain ⟨pc, lv, y, x, r, h, rfl, rfl, rfl⟩ := ab_b_inv hs
    exact ab_pure (fun p e Rm s m args below meth c dC dI cA A Q ad H locs cells slots ls hF hr1 hr2 hl hX hS hW hc1 hc2 kk => lv_iadd hF.1 hF.2.1 hd (kk ls hl)) hP
  | isub =>
    have hb : len = 1 := by simpa [ab_okd] using hb
    subst hb
    have hs : ab_b 1 (· - ·) S = some (S', C) := hs
    obtain ⟨pc, lv, y, x, r, h, rfl, rfl, rfl⟩ := ab_b_inv hs
    exact ab_pure (fun p e Rm s m args below meth c dC dI cA A Q ad H locs cells slots ls hF hr1 hr2 hl hX hS hW hc1 hc2 kk => lv_isub hF.1 hF.2.1 hd (kk ls hl)) hP
  | imul =>
    have hb : len = 1 := by simpa [ab_okd] using hb
    subst hb
    have hs : ab_b 1 (· * ·) S = some (S', C) := hs
    obtain ⟨pc, lv, y, x, r, h, rfl, rfl, rfl⟩ := ab_b_inv hs
    exact ab_pure (fun p e Rm s m args below meth c dC dI cA A Q ad H locs cells slots ls hF hr1 hr2 hl hX hS hW hc1 hc2 kk => lv_imul hF.1 hF.2.1 hd (kk ls hl)) hP
  | iand =>
    have hb : len = 1 := by simpa [ab_okd] using hb
    subst hb
    have hs : ab_b 1 (· &&& ·) S = some (S', C) := hs
    obtain ⟨pc, lv, y, x, r, h, rfl, rfl, rfl⟩ := ab_b_inv hs
    exact ab_pure (fun p e Rm s m args below meth c dC dI cA A Q ad H locs cells slots ls hF hr1 hr2 hl hX hS hW hc1 hc2 kk => lv_iand hF.1 hF.2.1 hd (kk ls hl)) hP
  | ior =>
    have hb : len = 1 := by simpa [ab_okd] using hb
    subst hb
    have hs : ab_b 1 (· ||| ·) S = some (S', C) := hs
    obtain ⟨pc, lv, y, x, r, h, rfl, rfl, rfl⟩ := ab_b_inv hs
    exact ab_pure (fun p e Rm s m args below meth c dC dI cA A Q ad H locs cells slots ls hF hr1 hr2 hl hX hS hW hc1 hc2 kk => lv_ior hF.1 hF.2.1 hd (kk ls hl)) hP
  | ixor =>
    have hb : len = 1 := by simpa [ab_okd] using hb
    subst hb
    have hs : ab_b 1 (· ^^^ ·) S = some (S', C) := hs
    obtain ⟨pc, lv, y, x, r, h, rfl, rfl, rfl⟩ := ab_b_inv hs
    exact ab_pure (fun p e Rm s m args below meth c dC dI cA A Q ad H locs cells slots ls hF hr1 hr2 hl hX hS hW hc1 hc2 kk => lv_ixor hF.1 hF.2.1 hd (kk ls hl)) hP
  | idiv =>
    have hb : len = 1 := by simpa [ab_okd] using hb
    subst hb
    have hs : ab_d 1 (· / ·) S = some (S', C) := hs
    obtain ⟨pc, lv, y, x, r, h, rfl, rfl, rfl⟩ := ab_d_inv hs
    exact ab_pure (fun p e Rm s m args below meth c dC dI cA A Q ad H locs cells slots ls hF hr1 hr2 hl hX hS hW hc1 hc2 kk => lv_idiv hF.1 hF.2.1 hd hC (kk ls hl)) hP
  | irem =>
    have hb : len = 1 := by simpa [ab_okd] using hb
    subst hb
    have hs : ab_d 1 (fun x y => x - x / y * y) S = some (S', C) := hs
    obtain ⟨pc, lv, y, x, r, h, rfl, rfl, rfl⟩ := ab_d_inv hs
    exact ab_pure (fun p e Rm s m args below meth c dC dI cA A Q ad H locs cells slots ls hF hr1 hr2 hl hX hS hW hc1 hc2 kk => lv_irem hF.1 hF.2.1 hd hC (kk ls hl)) hP
  | ishl =>
    have hb : len = 1 := by simpa [ab_okd] using hb
    subst hb
    have hs : ab_b 1 (fun x y => x <<< (y &&& 31)) S = some (S', C) := hs
    obtain ⟨pc, lv, y, x, r, h, rfl, rfl, rfl⟩ := ab_b_inv hs
    exact ab_pure (fun p e Rm s m args below meth c dC dI cA A Q ad H locs cells slots ls hF hr1 hr2 hl hX hS hW hc1 hc2 kk => lv_ishl hF.1 hF.2.1 hd (kk ls hl)) hP
  | ishr =>
    have hb : len = 1 := by simpa [ab_okd] using hb
    subst hb
    have hs : ab_b 1 (fun x y => x >>> (y &&& 31)) S = some (S', C) := hs
    obtain ⟨pc, lv, y, x, r, h, rfl, rfl, rfl⟩ := ab_b_inv hs
    exact ab_pure (fun p e Rm s m args below meth c dC dI cA A Q ad H locs cells slots ls hF hr1 hr2 hl hX hS hW hc1 hc2 kk => lv_ishr hF.1 hF.2.1 hd (kk ls hl)) hP
  | iushr =>
    have hb : len = 1 := by simpa [ab_okd] using hb
    subst hb
    have hs : ab_b 1 (fun x y => (x.toUInt32 >>> (y.toUInt32 &&& Int32.toUInt32 31)).toInt32) S = some (S', C) := hs
    obtain ⟨pc, lv, y, x, r, h, rfl, rfl, rfl⟩ := ab_b_inv hs
    exact ab_pure (fun p e Rm s m args below meth c dC dI cA A Q ad H locs cells slots ls hF hr1 hr2 hl hX hS hW hc1 hc2 kk => lv_iushr hF.1 hF.2.1 hd rfl (kk ls hl)) hP
  | ladd =>
    have hb : len = 1 := by simpa [ab_okd] using hb
    subst hb
    have hs : ab_bl 1 (· + ·) S = some (S', C) := hs
    obtain ⟨pc, lv, y, x, r, h, rfl, rfl, rfl⟩ := ab_bl_inv hs
    exact ab_pure (fun p e Rm s m args below meth c dC dI cA A Q ad H locs cells slots ls hF hr1 hr2 hl hX hS hW hc1 hc2 kk => lv_ladd hF.1 hF.2.1 hd (kk ls hl)) hP
  | lmul =>
    have hb : len = 1 := by simpa [ab_okd] using hb
    subst hb
    have hs : ab_bl 1 (· * ·) S = some (S', C) := hs
    obtain ⟨pc, lv, y, x, r, h, rfl, rfl, rfl⟩ := ab_bl_inv hs
    exact ab_pure (fun p e Rm s m args below meth c dC dI cA A Q ad H locs cells slots ls hF hr1 hr2 hl hX hS hW hc1 hc2 kk => lv_lmul hF.1 hF.2.1 hd (kk ls hl)) hP
  | land =>
    have hb : len = 1 := by simpa [ab_okd] using hb
    subst hb
    have hs : ab_bl 1 (· &&& ·) S = some (S', C) := hs
    obtain ⟨pc, lv, y, x, r, h, rfl, rfl, rfl⟩ := ab_bl_inv hs
    exact ab_pure (fun p e Rm s m args below meth c dC dI cA A Q ad H locs cells slots ls hF hr1 hr2 hl hX hS hW hc1 hc2 kk => lv_land hF.1 hF.2.1 hd (kk ls hl)) hP
  | ldiv =>
    have hb : len = 1 := by simpa [ab_okd] using hb
    subst hb
    have hs : ab_dl 1 (· / ·) S = some (S', C) := hs
    obtain ⟨pc, lv, y, x, r, h, rfl, rfl, rfl⟩ := ab_dl_inv hs
    exact ab_pure (fun p e Rm s m args below meth c dC dI cA A Q ad H locs cells slots ls hF hr1 hr2 hl hX hS hW hc1 hc2 kk => lv_ldiv hF.1 hF.2.1 hd hC (kk ls hl)) hP
  | lrem =>
    have hb : len = 1 := by simpa [ab_okd] using hb
    subst hb
    have hs : ab_dl 1 (fun x y => x - x / y * y) S = some (S', C) := hs
    obtain ⟨pc, lv, y, x, r, h, rfl, rfl, rfl⟩ := ab_dl_inv hs
    exact ab_pure (fun p e Rm s m args below meth c dC dI cA A Q ad H locs cells slots ls hF hr1 hr2 hl hX hS hW hc1 hc2 kk => lv_lrem hF.1 hF.2.1 hd hC (kk ls hl)) hP
  | ineg =>
    have hb : len = 1 := by simpa [ab_okd] using hb
    subst hb
    simp only [ab_step] at hs
    split at hs
    · cases hs
      exact ab_pure (fun p e Rm s m args below meth c dC dI cA A Q ad H locs cells slots ls hF hr1 hr2 hl hX hS hW hc1 hc2 kk => lv_ineg hF.1 hF.2.1 hd (kk ls hl)) hP
    · cases hs
  | lcmp =>
    have hb : len = 1 := by simpa [ab_okd] using hb
    subst hb
    simp only [ab_step] at hs
    split at hs
    · cases hs
      exact ab_pure (fun p e Rm s m args below meth c dC dI cA A Q ad H locs cells slots ls hF hr1 hr2 hl hX hS hW hc1 hc2 kk => W.lcmp hF.1 hF.2.1 hd (kk ls hl)) hP
    · cases hs
  | i2l =>
    have hb : len = 1 := by simpa [ab_okd] using hb
    subst hb
    simp only [ab_step] at hs
    split at hs
    · cases hs
      exact ab_pure (fun p e Rm s m args below meth c dC dI cA A Q ad H locs cells slots ls hF hr1 hr2 hl hX hS hW hc1 hc2 kk => lv_i2l hF.1 hF.2.1 hd rfl (kk ls hl)) hP
    · cases hs
  | l2i =>
    have hb : len = 1 := by simpa [ab_okd] using hb
    subst hb
    simp only [ab_step] at hs
    split at hs
    · cases hs
      exact ab_pure (fun p e Rm s m args below meth c dC dI cA A Q ad H locs cells slots ls hF hr1 hr2 hl hX hS hW hc1 hc2 kk => lv_l2i hF.1 hF.2.1 hd rfl (kk ls hl)) hP
    · cases hs
  | dup =>
    have hb : len = 1 := by simpa [ab_okd] using hb
    subst hb
    simp only [ab_step] at hs
    split at hs
    · cases hs
      exact ab_pure (fun p e Rm s m args below meth c dC dI cA A Q ad H locs cells slots ls hF hr1 hr2 hl hX hS hW hc1 hc2 kk => lv_dup hF.1 hF.2.1 hd (by rw [ab_r_cat]; exact hC) (kk ls hl)) hP
    · cases hs
  | dup2 =>
    have hb : len = 1 := by simpa [ab_okd] using hb
    subst hb
    simp only [ab_step] at hs
    split at hs
    · cases hs
      exact ab_pure (fun p e Rm s m args below meth c dC dI cA A Q ad H locs cells slots ls hF hr1 hr2 hl hX hS hW hc1 hc2 kk => lv_dup2_11 hF.1 hF.2.1 hd (by rw [ab_r_cat]; exact hC.1) (by rw [ab_r_cat]; exact hC.2) (kk ls hl)) hP
    · cases hs
  | goto o =>
    simp only [ab_okd, Bool.and_eq_true, beq_iff_eq, decide_eq_true_eq] at hb
    obtain ⟨hb1, hb2⟩ := hb
    subst hb1
    obtain ⟨pc, lv, r, h⟩ := S
    cases hs
    exact ab_pure (fun p e Rm s m args below meth c dC dI cA A Q ad H locs cells slots ls hF hr1 hr2 hl hX hS hW hc1 hc2 kk => lv_goto hF.1 hF.2.1 hd hb2 (kk ls hl)) hP
  | ifCond cd o =>
    simp only [ab_okd, Bool.and_eq_true, beq_iff_eq, decide_eq_true_eq] at hb
    obtain ⟨hb1, hb2⟩ := hb
    subst hb1
    simp only [ab_step] at hs
    split at hs
    · cases hs
      cases cd with
      | eq => exact ab_pure (fun p e Rm s m args below meth c dC dI cA A Q ad H locs cells slots ls hF hr1 hr2 hl hX hS hW hc1 hc2 kk => lv_if_eq hF.1 hF.2.1 hd hb2 (fun q => by have := kk ls hl; simp only [ab_if, if_pos q] at this; exact this) (fun q => by have := kk ls hl; simp only [ab_if, if_neg q] at this; exact this)) hP
      | ne => exact ab_pure (fun p e Rm s m args below meth c dC dI cA A Q ad H locs cells slots ls hF hr1 hr2 hl hX hS hW hc1 hc2 kk => lv_if_ne hF.1 hF.2.1 hd hb2 (fun q => by have := kk ls hl; simp only [ab_if, if_pos q] at this; exact this) (fun q => by have := kk ls hl; simp only [ab_if, if_neg (not_not_intro q)] at this; exact this)) hP
      | lt => exact ab_pure (fun p e Rm s m args below meth c dC dI cA A Q ad H locs cells slots ls hF hr1 hr2 hl hX hS hW hc1 hc2 kk => lv_if_lt hF.1 hF.2.1 hd hb2 (fun q => by have := kk ls hl; simp only [ab_if, if_pos q] at this; exact this) (fun q => by have := kk ls hl; simp only [ab_if, if_neg q] at this; exact this)) hP
      | ge => exact ab_pure (fun p e Rm s m args below meth c dC dI cA A Q ad H locs cells slots ls hF hr1 hr2 hl hX hS hW hc1 hc2 kk => lv_if_ge hF.1 hF.2.1 hd hb2 (fun q => by have := kk ls hl; simp only [ab_if, if_pos q] at this; exact this) (fun q => by have := kk ls hl; simp only [ab_if, if_neg q] at this; exact this)) hP
      | gt => exact ab_pure (fun p e Rm s m args below meth c dC dI cA A Q ad H locs cells slots ls hF hr1 hr2 hl hX hS hW hc1 hc2 kk => lv_if_gt hF.1 hF.2.1 hd hb2 (fun q => by have := kk ls hl; simp only [ab_if, if_pos q] at this; exact this) (fun q => by have := kk ls hl; simp only [ab_if, if_neg q] at this; exact this)) hP
      | le => exact ab_pure (fun p e Rm s m args below meth c dC dI cA A Q ad H locs cells slots ls hF hr1 hr2 hl hX hS hW hc1 hc2 kk => lv_if_le hF.1 hF.2.1 hd hb2 (fun q => by have := kk ls hl; simp only [ab_if, if_pos q] at this; exact this) (fun q => by have := kk ls hl; simp only [ab_if, if_neg q] at this; exact this)) hP
    · cases hs
  | if_icmp cd o =>
    simp only [ab_okd, Bool.and_eq_true, beq_iff_eq, decide_eq_true_eq] at hb
    obtain ⟨hb1, hb2⟩ := hb
    subst hb1
    simp only [ab_step] at hs
    split at hs
    · cases hs
      cases cd with
      | eq => exact ab_pure (fun p e Rm s m args below meth c dC dI cA A Q ad H locs cells slots ls hF hr1 hr2 hl hX hS hW hc1 hc2 kk => lv_icmp_eq hF.1 hF.2.1 hd hb2 (fun q => by have := kk ls hl; simp only [ab_if, if_pos q] at this; exact this) (fun q => by have := kk ls hl; simp only [ab_if, if_neg q] at this; exact this)) hP
      | ne => exact ab_pure (fun p e Rm s m args below meth c dC dI cA A Q ad H locs cells slots ls hF hr1 hr2 hl hX hS hW hc1 hc2 kk => lv_icmp_ne hF.1 hF.2.1 hd hb2 (fun q => by have := kk ls hl; simp only [ab_if, if_pos q] at this; exact this) (fun q => by have := kk ls hl; simp only [ab_if, if_neg (not_not_intro q)] at this; exact this)) hP
      | lt => exact ab_pure (fun p e Rm s m args below meth c dC dI cA A Q ad H locs cells slots ls hF hr1 hr2 hl hX hS hW hc1 hc2 kk => lv_icmp_lt hF.1 hF.2.1 hd hb2 (fun q => by have := kk ls hl; simp only [ab_if, if_pos q] at this; exact this) (fun q => by have := kk ls hl; simp only [ab_if, if_neg q] at this; exact this)) hP
      | ge => exact ab_pure (fun p e Rm s m args below meth c dC dI cA A Q ad H locs cells slots ls hF hr1 hr2 hl hX hS hW hc1 hc2 kk => lv_icmp_ge hF.1 hF.2.1 hd hb2 (fun q => by have := kk ls hl; simp only [ab_if, if_pos q] at this; exact this) (fun q => by have := kk ls hl; simp only [ab_if, if_neg q] at this; exact this)) hP
      | gt => exact ab_pure (fun p e Rm s m args below meth c dC dI cA A Q ad H locs cells slots ls hF hr1 hr2 hl hX hS hW hc1 hc2 kk => lv_icmp_gt hF.1 hF.2.1 hd hb2 (fun q => by have := kk ls hl; simp only [ab_if, if_pos q] at this; exact this) (fun q => by have := kk ls hl; simp only [ab_if, if_neg q] at this; exact this)) hP
      | le => exact ab_pure (fun p e Rm s m args below meth c dC dI cA A Q ad H locs cells slots ls hF hr1 hr2 hl hX hS hW hc1 hc2 kk => lv_icmp_le hF.1 hF.2.1 hd hb2 (fun q => by have := kk ls hl; simp only [ab_if, if_pos q] at this; exact this) (fun q => by have := kk ls hl; simp only [ab_if, if_neg q] at this; exact this)) hP
    · cases hs
  | getfield i =>
    simp only [ab_okd, Bool.and_eq_true, beq_iff_eq, decide_eq_true_eq] at hb
    subst hb
    have hs : ab_get a1 a2 S = some (S', C) := hs
    obtain ⟨pc, lv, a, r, h, fs, v, rfl, g1, g2, rfl⟩ := ab_get_inv hs
    obtain ⟨C0, T, N, hc, hk, hT, hin, hlink⟩ := hn
    exact ab_pure (fun p e Rm s m args below meth c dC dI cA A Q ad H locs cells slots ls hF hr1 hr2 hl hX hS hW hc1 hc2 kk => by
      have e1 := ab_wd_nt ad cA h 0 a _ g1
      rw [Nat.zero_add] at e1
      have e2 := ab_nt_map (ab_r ad) fs a2 v g2
      rcases hlink with q | ⟨host, q⟩
      · exact va_get (C := C0) (T := T) (N := N) hF.1 hF.2.1 hF.2.2.2.2.2.1 hin hF.2.2.2.2.1 hF.2.2.2.2.2.2.1 hW a e1 hc a2 hk (hF.2.2.2.2.2.1 _ q) (fun _ h9 => hT ▸ h9) e2 hd (kk ls hl)
      · exact va_getN (C := C0) (T := T) (N := N) hF.1 hF.2.1 hF.2.2.2.2.2.1 hin hF.2.2.2.2.1 hF.2.2.2.2.2.2.1 hW a e1 hc a2 hk (va_Nw.use rfl (hF.2.2.2.2.2.2.2.2 _ q)) (fun _ h9 => hT ▸ h9) e2 hd (kk ls hl)) hP
  | putfield i =>
    simp only [ab_okd, Bool.and_eq_true, beq_iff_eq, decide_eq_true_eq] at hb
    subst hb
    obtain ⟨C0, T, N, ty, hc, hk, hT, hin, hty, hnm, hz, hlink⟩ := hn
    by_cases z0 : z = 0
    · have hs : ab_puti a1 a2 S = some (S', C) := by
        have := hs
        simp only [ab_step, if_pos z0] at this
        exact this
      obtain ⟨pc, lv, x, a, r, h, fs, w, rfl, g1, g2, rfl⟩ := ab_puti_inv hs
      exact ab_writ (ab_st_len _ _ _) (fun p e Rm s m args below meth c dC dI cA A Q ad H locs cells slots ls hF hr1 hr2 hsz hS hW hD kk => by
        have e1 := ab_wd_nt ad cA h 0 a _ g1
        rw [Nat.zero_add] at e1
        have e2 := ab_nt_map (ab_r ad) fs a2 w g2
        have e3 : a2 < (fs.map (ab_r ad)).length := (List.getElem?_eq_some_iff.mp e2).1
        have e4 : ab_wd ad cA 0 (ab_st h a (.inr (a1, ab_st fs a2 (.int x)))) = (ab_wd ad cA 0 h).set a (ad a, .inr (a1, (fs.map (ab_r ad)).set a2 (ab_r ad (.int x)))) := by
          rw [ab_wd_st, Nat.zero_add]
          simp only [ab_rz, ab_st_map]
        rw [e4] at kk
        have hz1 : ty a2 = .int := by rcases hz with q | q; exact q.2; exact absurd z0 q.1
        have hn1 : narrow .int (ab_r ad (.int x)) = ab_r ad (.int x) := rfl
        have hn2 : fits .int (ab_r ad (.int x)) = true := rfl
        have hp := hty a2 hk
        rw [hz1] at hp
        rcases hlink with ⟨hfin, q | ⟨host, q⟩⟩ | ⟨hfin, hnm1, hown, q⟩
        · exact va_put (C := C0) (T := T) (N := N) hF.1 hF.2.1 hF.2.2.2.2.2.1 hin ty hty hnm hF.2.2.2.2.1 hF.2.2.2.2.2.2.1 hW hD hS a e1 hc a2 hk (hF.2.2.2.2.2.1 _ q) (fun _ h9 => hT ▸ h9) hfin hp hn1 hn2 e3 hd kk
        · exact va_putN (C := C0) (T := T) (N := N) hF.1 hF.2.1 hF.2.2.2.2.2.1 hin ty hty hnm hF.2.2.2.2.1 hF.2.2.2.2.2.2.1 hW hD hS a e1 hc a2 hk (va_Nw.use rfl (hF.2.2.2.2.2.2.2.2 _ q)) (fun _ h9 => hT ▸ h9) hfin hp hn1 hn2 e3 hd kk
        · exact va_putF (C := C0) (T := T) (N := N) hF.1 hF.2.1 hF.2.2.2.2.2.1 hin ty hty hnm hF.2.2.2.2.1 hF.2.2.2.2.2.2.1 hW hD hS a e1 hc a2 hk (hF.2.2.2.2.2.1 _ q) (fun _ h9 => hT ▸ h9) hfin (hF.2.2.2.1 hnm1) hown hp hn1 hn2 e3 hd kk) hP
    · have hs : ab_puta a1 a2 S = some (S', C) := by
        have := hs
        simp only [ab_step, if_neg z0] at this
        exact this
      obtain ⟨pc, lv, x, a, r, h, fs, w, rfl, g1, g2, rfl⟩ := ab_puta_inv hs
      exact ab_writ (ab_st_len _ _ _) (fun p e Rm s m args below meth c dC dI cA A Q ad H locs cells slots ls hF hr1 hr2 hsz hS hW hD kk => by
        have e1 := ab_wd_nt ad cA h 0 a _ g1
        rw [Nat.zero_add] at e1
        have e2 := ab_nt_map (ab_r ad) fs a2 w g2
        have e3 : a2 < (fs.map (ab_r ad)).length := (List.getElem?_eq_some_iff.mp e2).1
        have e4 : ab_wd ad cA 0 (ab_st h a (.inr (a1, ab_st fs a2 (.ref x)))) = (ab_wd ad cA 0 h).set a (ad a, .inr (a1, (fs.map (ab_r ad)).set a2 (ab_r ad (.ref x)))) := by
          rw [ab_wd_st, Nat.zero_add]
          simp only [ab_rz, ab_st_map]
        rw [e4] at kk
        have hz1 : (∃ t, ty a2 = .array t) ∨ ∃ o, ty a2 = .object o := by rcases hz with q | q; exact absurd q.1 z0; exact q.2
        have hn1 : narrow (ty a2) (ab_r ad (.ref x)) = ab_r ad (.ref x) := by rcases hz1 with ⟨t, q⟩ | ⟨t, q⟩ <;> rw [q] <;> rfl
        have hn2 : fits (ty a2) (ab_r ad (.ref x)) = true := by rcases hz1 with ⟨t, q⟩ | ⟨t, q⟩ <;> rw [q] <;> rfl
        have hp := hty a2 hk
        rcases hlink with ⟨hfin, q | ⟨host, q⟩⟩ | ⟨hfin, hnm1, hown, q⟩
        · exact va_put (C := C0) (T := T) (N := N) hF.1 hF.2.1 hF.2.2.2.2.2.1 hin ty hty hnm hF.2.2.2.2.1 hF.2.2.2.2.2.2.1 hW hD hS a e1 hc a2 hk (hF.2.2.2.2.2.1 _ q) (fun _ h9 => hT ▸ h9) hfin hp hn1 hn2 e3 hd kk
        · exact va_putN (C := C0) (T := T) (N := N) hF.1 hF.2.1 hF.2.2.2.2.2.1 hin ty hty hnm hF.2.2.2.2.1 hF.2.2.2.2.2.2.1 hW hD hS a e1 hc a2 hk (va_Nw.use rfl (hF.2.2.2.2.2.2.2.2 _ q)) (fun _ h9 => hT ▸ h9) hfin hp hn1 hn2 e3 hd kk
        · exact va_putF (C := C0) (T := T) (N := N) hF.1 hF.2.1 hF.2.2.2.2.2.1 hin ty hty hnm hF.2.2.2.2.1 hF.2.2.2.2.2.2.1 hW hD hS a e1 hc a2 hk (hF.2.2.2.2.2.1 _ q) (fun _ h9 => hT ▸ h9) hfin (hF.2.2.2.1 hnm1) hown hp hn1 hn2 e3 hd kk) hP
  | iaload =>
    have hb : len = 1 := by simpa [ab_okd] using hb
    subst hb
    by_cases hx : X.isSome = true
    · have hs : ab_sld X S = some (S', C) := by
        have := hs
        simp only [ab_step, if_pos hx] at this
        exact this
      obtain ⟨pc, lv, i, r, h, x, rfl, rfl, rfl, rfl⟩ := ab_sld_inv hs
      exact ab_pure (fun p e Rm s m args below meth c dC dI cA A Q ad H locs cells slots ls hF hr1 hr2 hl hX hS hW hc1 hc2 kk => by
        obtain ⟨x1, x2, x3⟩ := hX x rfl
        exact va_sld hF.1 hF.2.1 x1 x2 x3 hS hC hd (kk ls hl)) hP
    · have hs : ab_ald 0 S = some (S', C) := by
        have := hs
        simp only [ab_step, if_neg hx] at this
        exact this
      obtain ⟨pc, lv, i, a, r, h, q, f, rfl, g1, rfl, rfl⟩ := ab_ald_inv hs
      exact ab_pure (fun p e Rm s m args below meth c dC dI cA A Q ad H locs cells slots ls hF hr1 hr2 hl hX hS hW hc1 hc2 kk => by
        have e1 := ab_wd_nt ad cA h 0 a _ g1
        rw [Nat.zero_add] at e1
        exact va_iald hF.1 hF.2.1 hF.2.2.2.2.2.2.1 hW a 0 e1 rfl hC hd (kk ls hl)) hP
  | baload =>
    have hb : len = 1 := by simpa [ab_okd] using hb
    subst hb
    have hs : ab_ald 1 S = some (S', C) := hs
    obtain ⟨pc, lv, i, a, r, h, q, f, rfl, g1, rfl, rfl⟩ := ab_ald_inv hs
    exact ab_pure (fun p e Rm s m args below meth c dC dI cA A Q ad H locs cells slots ls hF hr1 hr2 hl hX hS hW hc1 hc2 kk => by
      have e1 := ab_wd_nt ad cA h 0 a _ g1
      rw [Nat.zero_add] at e1
      exact va_zald hF.1 hF.2.1 hF.2.2.2.2.2.2.1 hW a 1 e1 rfl hC hd (kk ls hl)) hP
  | iastore =>
    have hb : len = 1 := by simpa [ab_okd] using hb
    subst hb
    have hs : ab_ast S = some (S', C) := hs
    obtain ⟨pc, lv, x, i, a, r, h, q, f, rfl, g1, rfl, rfl⟩ := ab_ast_inv hs
    exact ab_writ (ab_st_len _ _ _) (fun p e Rm s m args below meth c dC dI cA A Q ad H locs cells slots ls hF hr1 hr2 hsz hS hW hD kk => by
      have e1 := ab_wd_nt ad cA h 0 a _ g1
      rw [Nat.zero_add] at e1
      have e4 := ab_wd_st ad cA h 0 a (.inl (0, q, upd f i.toNatClampNeg x))
      rw [Nat.zero_add] at e4
      rw [e4] at kk
      exact va_iast hF.1 hF.2.1 hF.2.2.2.2.2.2.1 hW hD hS a 0 e1 rfl hC hd kk) hP
  | bastore =>
    have hb : len = 1 := by simpa [ab_okd] using hb
    subst hb
    have hs : ab_zst S = some (S', C) := hs
    obtain ⟨pc, lv, x, i, a, r, h, q, f, rfl, g1, rfl, rfl⟩ := ab_zst_inv hs
    exact ab_writ (ab_st_len _ _ _) (fun p e Rm s m args below meth c dC dI cA A Q ad H locs cells slots ls hF hr1 hr2 hsz hS hW hD kk => by
      have e1 := ab_wd_nt ad cA h 0 a _ g1
      rw [Nat.zero_add] at e1
      have e4 := ab_wd_st ad cA h 0 a (.inl (1, q, upd f i.toNatClampNeg x))
      rw [Nat.zero_add] at e4
      rw [e4] at kk
      have e5 : vp_nar .boolean x = x := by rcases hC.2 with q | q <;> rw [q] <;> decide +kernel
      exact va_zast hF.1 hF.2.1 hF.2.2.2.2.2.2.1 hW hD hS a 1 e1 rfl hC.1 hd (by rw [e5]; exact kk)) hP
  | arraylength =>
    have hb : len = 1 := by simpa [ab_okd] using hb
    subst hb
    have hs : ab_len X S = some (S', C) := hs
    obtain ⟨pc, lv, r, h, x, rfl, rfl, rfl⟩ := ab_len_inv hs
    exact ab_pure (fun p e Rm s m args below meth c dC dI cA A Q ad H locs cells slots ls hF hr1 hr2 hl hX hS hW hc1 hc2 kk => by
      obtain ⟨x1, x2, x3⟩ := hX x rfl
      exact va_slen hF.1 hF.2.1 x1 x2 x3 hS hd (kk ls hl)) hP
  | invokestatic i =>
    simp only [ab_okd, Bool.and_eq_true, beq_iff_eq, decide_eq_true_eq] at hb
    subst hb
    by_cases h1 : a1 = 1
    · have hs : ab_cpy S = some (S', C) := by
        have := hs
        simp only [ab_step, if_pos h1] at this
        exact this
      obtain ⟨pc, lv, n9, dp, b, sp, a, r, h, n0, f, n1, g, rfl, g1, g2, rfl, rfl⟩ := ab_cpy_inv hs
      obtain ⟨q1, q2, q3, q4, q5, q6⟩ := hC
      exact ab_writ (ab_st_len _ _ _) (fun p e Rm s m args below meth c dC dI cA A Q ad H locs cells slots ls hF hr1 hr2 hsz hS hW hD kk => by
        have e1 := ab_wd_nt ad cA h 0 a _ g1
        have e2 := ab_wd_nt ad cA h 0 b _ g2
        rw [Nat.zero_add] at e1 e2
        have e4 := ab_wd_st ad cA h 0 b (.inl (0, n1, va_cpy f g sp.toNatClampNeg dp.toNatClampNeg n9.toNatClampNeg))
        rw [Nat.zero_add] at e4
        rw [e4] at kk
        have e6 := ab_cat_sum ad r
        have e7 : nativeFrameWords "java/lang/System" "arraycopy" 5 + 11 ≤ 56 := by decide +kernel
        exact va_copyi hF.1 hF.2.1 (hF.2.2.1.trans hsz.symm) hF.2.2.2.2.1 (hF.2.2.2.2.2.1 _ (hn.1 h1)) (hF.2.2.2.2.2.1 _ (ab_in (i := 434) rfl rfl)) (hF.2.2.2.2.2.1 _ (ab_in (i := 433) rfl rfl)) (hF.2.2.2.2.2.1 _ (ab_in (i := 69) rfl rfl)) hF.2.2.2.2.2.2.1 hW hD hS a b 0 0 e1 e2 rfl rfl rfl q1 q2 q3 q4 q5 (fun _ _ => rfl) (by omega) (by rw [e6]; omega) hd kk) hP
    · by_cases h2 : a1 = 2
      · have hs : ab_m2 (fun x y => if x < y then y else x) S = some (S', C) := by
          have := hs
          simp only [ab_step, if_neg h1, if_pos h2] at this
          exact this
        obtain ⟨pc, lv, y, x, r, h, rfl, rfl, rfl⟩ := ab_m2_inv hs
        exact ab_pure (fun p e Rm s m args below meth c dC dI cA A Q ad H locs cells slots ls hF hr1 hr2 hl hX hS hW hc1 hc2 kk => by
          have e6 := ab_cat_sum ad r
          exact va_mmax hF.1 hF.2.1 (hF.2.2.1.trans hl.1.symm) hF.2.2.2.2.1 (hF.2.2.2.2.2.1 _ (hn.2.1 h2)) (hF.2.2.2.2.2.1 _ (ab_in (i := 517) rfl rfl)) (hF.2.2.2.2.2.1 _ (ab_in (i := 68) rfl rfl)) (hF.2.2.2.2.2.1 _ (ab_in (i := 518) rfl rfl)) (by omega) (by rw [e6]; omega) hc1 hc2 hd (kk ls hl)) hP
      · by_cases h3 : a1 = 3
        · have hs : ab_m2 (fun x y => if y < x then y else x) S = some (S', C) := by
            have := hs
            simp only [ab_step, if_neg h1, if_neg h2, if_pos h3] at this
            exact this
          obtain ⟨pc, lv, y, x, r, h, rfl, rfl, rfl⟩ := ab_m2_inv hs
          exact ab_pure (fun p e Rm s m args below meth c dC dI cA A Q ad H locs cells slots ls hF hr1 hr2 hl hX hS hW hc1 hc2 kk => by
            have e6 := ab_cat_sum ad r
            exact va_mmin hF.1 hF.2.1 (hF.2.2.1.trans hl.1.symm) hF.2.2.2.2.1 (hF.2.2.2.2.2.1 _ (hn.2.2.1 h3)) (hF.2.2.2.2.2.1 _ (ab_in (i := 422) rfl rfl)) (hF.2.2.2.2.2.1 _ (ab_in (i := 68) rfl rfl)) (hF.2.2.2.2.2.1 _ (ab_in (i := 423) rfl rfl)) (by omega) (by rw [e6]; omega) hc1 hc2 hd (kk ls hl)) hP
        · by_cases h4 : a1 = 4
          · have hs : ab_m1 (fun x => if 0 ≤ x then x else 0 - x) S = some (S', C) := by
              have := hs
              simp only [ab_step, if_neg h1, if_neg h2, if_neg h3, if_pos h4] at this
              exact this
            obtain ⟨pc, lv, x, r, h, rfl, rfl, rfl⟩ := ab_m1_inv hs
            exact ab_pure (fun p e Rm s m args below meth c dC dI cA A Q ad H locs cells slots ls hF hr1 hr2 hl hX hS hW hc1 hc2 kk => by
              have e6 := ab_cat_sum ad r
              exact va_mabs hF.1 hF.2.1 (hF.2.2.1.trans hl.1.symm) hF.2.2.2.2.1 (hF.2.2.2.2.2.1 _ (hn.2.2.2 h4)) (hF.2.2.2.2.2.1 _ (ab_in (i := 760) rfl rfl)) (hF.2.2.2.2.2.1 _ (ab_in (i := 68) rfl rfl)) (hF.2.2.2.2.2.1 _ (ab_in (i := 761) rfl rfl)) (by omega) (by rw [e6]; omega) hc1 hc2 hd (kk ls hl)) hP
          · simp only [ab_step, if_neg h1, if_neg h2, if_neg h3, if_neg h4] at hs
            cases hs
  | invokespecial i =>
    simp only [ab_okd, Bool.and_eq_true, beq_iff_eq, decide_eq_true_eq] at hb
    subst hb
    by_cases h1 : a1 = 1
    · simp only [ab_step, if_pos h1] at hs
      split at hs
      · cases hs
        exact ab_pure (fun p e Rm s m args below meth c dC dI cA A Q ad H locs cells slots ls hF hr1 hr2 hl hX hS hW hc1 hc2 kk => by
          have e6 := ab_cat_sum ad
          refine W.objInit hF.1 hF.2.1 hF.2.2.2.2.1 (hF.2.2.2.2.2.1 _ (hn h1)) (hF.2.2.2.2.2.1 _ (ab_in (i := 77) rfl rfl)) (hF.2.2.2.2.2.1 _ ab_oi) rfl (by rw [hF.2.2.1]; exact hl.1) rfl hd (by omega) ?_ (kk ls hl)
          have := lv_room (m := m) (pc := 0) (ls := ls) (rest := []) (st := List.map (ab_r ad) _) (by rw [e6]; exact hC)
          have e8 : 2 * (F0 m 0 ls []).monitorRoom = 0 := by simp [JFrame.monitorRoom]
          simp only [JFrame.monitorRoom] at this ⊢
          omega) hP
      · cases hs
    · simp only [ab_step, if_neg h1] at hs
      cases hs
  | tableswitch df lo hi offs =>
    simp only [ab_okd, Bool.and_eq_true, decide_eq_true_eq, List.all_eq_true] at hb
    obtain ⟨⟨hb1, hb2⟩, hb3⟩ := hb
    simp only [ab_step] at hs
    split at hs
    · cases hs
      exact ab_pure (fun p e Rm s m args below meth c dC dI cA A Q ad H locs cells slots ls hF hr1 hr2 hl hX hS hW hc1 hc2 kk => by
        have kk := kk ls hl
        unfold ab_tsw at kk
        split at kk
        · next q => exact lv_tableOut hF.1 hF.2.1 hd q (by omega) kk
        · next q =>
          split at kk
          · next o ho => exact lv_tableIn hF.1 hF.2.1 hd (fun g => q (Or.inl g)) (fun g => q (Or.inr g)) ho (by have := hb3 o (List.mem_of_getElem? (by rw [Array.getElem?_toList]; exact ho)); omega) kk
          · next ho =>
            exfalso
            rw [Array.getElem?_eq_none_iff] at ho
            omega) hP
    · cases hs
  | lookupswitch df ps =>
    simp only [ab_okd] at hb
    simp only [ab_step] at hs
    split at hs
    · cases hs
      exact ab_pure (fun p e Rm s m args below meth c dC dI cA A Q ad H locs cells slots ls hF hr1 hr2 hl hX hS hW hc1 hc2 kk => lv_lookup hF.1 hF.2.1 hd hb rfl (by omega) (kk ls hl)) hP
    · cases hs
  | _ => cases hs
end
section
/-! calls, objects and arrays made, returns; then the whole -/
theorem ab_gd {ws : List Cond} (h : ∀ w ∈ ws, w ∈ ab_T) : GoodIn ab_T ws := fun w hw => ⟨h w hw, good_of_word (List.mem_filter.mp (h w hw)).2⟩
theorem ab_nw {w : Cond} (hw : w ∈ ab_U) {s U : State} (hW : s.WarmedH U.vm) (hZ : va_Nw w s) : va_Nw w U := by
  have h := (List.mem_filter.mp hw).2
  cases w with
  | fieldLinkNest => exact va_Nw.warmF hW hZ
  | methodLinkNest => exact va_Nw.warmM hW hZ
  | _ => cases h
theorem ab_nt2 {w : Cond} (hw : w ∈ ab_U) : w.onTables = true := by
  have h := (List.mem_filter.mp hw).2
  cases w with
  | fieldLinkNest => rfl
  | methodLinkNest => rfl
  | _ => cases h
abbrev ab_wy (M : MI) : List Cond := Cond.code M.1 M.2.1 M.2.2.1 M.2.2.2.1 :: ab_T
abbrev ab_rm (d k n : Nat) : Room := { frames := d + 1, cells := k, slots := n, locals := 64 * (d + 1) }
abbrev ab_Pr (dC : Nat → ClassId) (dI : Nat → Nat → Nat) (cA : Nat → ClassId) (ad : Nat → Nat) (sz : Nat) (As : List Value) (h : AH) : Array Value → State → Prop :=
  va_Pc (As.map (ab_r ad)) (fun U => U.heap.size = sz ∧ va_P (dC, dI) vwCl (ab_wd ad cA 0 h) U.heap ∧ va_K (dC, dI) vwCl [(cA 0, .int), (cA 1, .boolean)] U ∧ va_D (fun _ => True) (ab_wd ad cA 0 h) ∧ ∀ w ∈ ab_U, va_Nw w U)
abbrev ab_Bq (dC : Nat → ClassId) (dI : Nat → Nat → Nat) (cA : Nat → ClassId) (ad : Nat → Nat) (sz : Nat) (h h1 : AH) (ad' : Nat → Nat) (t : State) : Prop :=
  va_P (dC, dI) vwCl (ab_wd ad' cA 0 h1) t.heap ∧ va_K (dC, dI) vwCl [(cA 0, .int), (cA 1, .boolean)] t ∧ va_D (va_A (ab_wd ad cA 0 h) sz) (ab_wd ad' cA 0 h1)
theorem ab_metI {l : Launch} {d k n : Nat} {M : MI} {As : List Value} {h h1 : AH} {v : Int32} (hy : plainName M.1.cls = true) (hl : (lg_sl As).length ≤ M.2.2.1) (hP : ab_RP l none d k n M (0, ab_lz 0 As, [], h) (some (.int v), h1)) (dC : Nat → ClassId) (dI : Nat → Nat → Nat) (cA : Nat → ClassId) (ad : Nat → Nat) (sz : Nat) :
    Met l M.1 (ab_wy M) (ab_rm d k n) (ab_Pr dC dI cA ad sz As h) (va_Qi (fun (r : Int32) (ad' : Nat → Nat) => r = v ∧ ab_ag ad ad' h.length k) (ab_Bq dC dI cA ad sz h h1) (va_A (ab_wd ad cA 0 h) sz)) k n (va_A (ab_wd ad cA 0 h) sz) := by
  refine Met.ofW (cc := M.2.1) (maxL := M.2.2.1) (ret := M.2.2.2.1) hy rfl ?_
  intro p e s m args below meth c s₁ B hml hv
  obtain ⟨rfl, hsz, hP0, hK, hD0, hNs⟩ := hv
  have hts := atoms_spec (ws := ab_wy M) B.pre
  have hown := findClass_of_methodNamed B.named
  have hin := (name_of_methodNamed B.named B.method).1
  have hlocks := B.notSynchronized
  subst hsz
  have hD := hD0.self (sz := s.heap.size)
  have hl0 := lv_entry (As.map (ab_r ad)) (n := M.2.2.1) (by rw [ab_sl_len]; exact hl)
  rw [lg_entry_eq]
  generalize (lg_sl (As.map (ab_r ad)) ++ List.replicate (M.2.2.1 - (lg_sl (As.map (ab_r ad))).length) Slot.unset).toArray = ls at hl0 ⊢
  rw [ab_lz_args] at hl0
  refine hP p e (ab_rm d k n) s m _ below meth c dC dI cA _ k n _ ⟨B.exec, B.bytes, hml, fun q => hin.trans q, hown, fun w hw => hts w (List.mem_cons_of_mem _ hw), hK, fun q h => Or.inr h, hNs⟩ (Nat.le_refl _) (Nat.le_refl _) (Nat.le_refl _) (Nat.le_refl _) ad s.heap [] 0 0 ls (fun x h => by cases h) (by omega) (by omega) va_S.rf hP0 hD hl0 ?_
  intro ad' H' locs' cells' slots' pc' ls' i g hc1 hc2 hS hP' hD' hdec hrt
  refine W.widen hc1 hc2 ?_
  obtain ⟨rfl, hr⟩ := hrt
  rcases hr with hr | ⟨hr, hz⟩
  · exact W.iret (v := v) B.exec B.bytes (B.returns.trans hr) (fun t ht hW => ⟨⟨v, ad', rfl, ⟨rfl, g⟩, by rw [ht]; exact hP', va_K.moved hW.alike hK, hD'⟩, hS.F ht⟩) hS.2.2 hdec
  · exact W.zret (v := v) B.exec B.bytes (B.returns.trans hr) (by rcases hz with q | q <;> rw [q] <;> decide +kernel) (fun t ht hW => ⟨⟨v, ad', rfl, ⟨rfl, g⟩, by rw [ht]; exact hP', va_K.moved hW.alike hK, hD'⟩, hS.F ht⟩) hS.2.2 hdec
theorem ab_metV {l : Launch} {d k n : Nat} {M : MI} {As : List Value} {h h1 : AH} (hy : plainName M.1.cls = true) (hl : (lg_sl As).length ≤ M.2.2.1) (hP : ab_RP l none d k n M (0, ab_lz 0 As, [], h) (none, h1)) (dC : Nat → ClassId) (dI : Nat → Nat → Nat) (cA : Nat → ClassId) (ad : Nat → Nat) (sz : Nat) :
    Met l M.1 (ab_wy M) (ab_rm d k n) (ab_Pr dC dI cA ad sz As h) (va_Qv (fun (ad' : Nat → Nat) => ab_ag ad ad' h.length k) (ab_Bq dC dI cA ad sz h h1) (va_A (ab_wd ad cA 0 h) sz)) k n (va_A (ab_wd ad cA 0 h) sz) := by
  refine Met.ofW (cc := M.2.1) (maxL := M.2.2.1) (ret := M.2.2.2.1) hy rfl ?_
  intro p e s m args below meth c s₁ B hml hv
  obtain ⟨rfl, hsz, hP0, hK, hD0, hNs⟩ := hv
  have hts := atoms_spec (ws := ab_wy M) B.pre
  have hown := findClass_of_methodNamed B.named
  have hin := (name_of_methodNamed B.named B.method).1
  have hlocks := B.notSynchronized
  subst hsz
  have hD := hD0.self (sz := s.heap.size)
  have hl0 := lv_entry (As.map (ab_r ad)) (n := M.2.2.1) (by rw [ab_sl_len]; exact hl)
  rw [lg_entry_eq]
  generalize (lg_sl (As.map (ab_r ad)) ++ List.replicate (M.2.2.1 - (lg_sl (As.map (ab_r ad))).length) Slot.unset).toArray = ls at hl0 ⊢
  rw [ab_lz_args] at hl0
  refine hP p e (ab_rm d k n) s m _ below meth c dC dI cA _ k n _ ⟨B.exec, B.bytes, hml, fun q => hin.trans q, hown, fun w hw => hts w (List.mem_cons_of_mem _ hw), hK, fun q h => Or.inr h, hNs⟩ (Nat.le_refl _) (Nat.le_refl _) (Nat.le_refl _) (Nat.le_refl _) ad s.heap [] 0 0 ls (fun x h => by cases h) (by omega) (by omega) va_S.rf hP0 hD hl0 ?_
  intro ad' H' locs' cells' slots' pc' ls' i g hc1 hc2 hS hP' hD' hdec hrt
  refine W.widen hc1 hc2 ?_
  obtain ⟨rfl, hr⟩ := hrt
  exact W.vret B.exec B.bytes (B.returns.trans hr) (fun t ht hW => ⟨⟨ad', rfl, g, by rw [ht]; exact hP', va_K.moved hW.alike hK, hD'⟩, hS.F ht⟩) hS.2.2 hdec
theorem ab_blind {dC : Nat → ClassId} {dI : Nat → Nat → Nat} {cA : Nat → ClassId} {ad : Nat → Nat} {sz : Nat} {As : List Value} {h : AH} : FrameBlind (ab_Pr dC dI cA ad sz As h) := fun a U g mk q => by
  obtain ⟨q0, q1, qP, qK, qD, qN⟩ := q
  exact ⟨q0, q1, qP, va_K.moved (u := U) (U := U.calling g mk a) (Vm.Alike.refl U.vm) qK, qD, fun w hw => va_Nw.same (u := U) (U := U.calling g mk a) (ab_nt2 hw) rfl (qN w hw)⟩
/-- the frame behind a call -/
theorem ab_after {l : Launch} {X : AX} {d k k1 k2 n n1 n2 : Nat} {M : MI} {R : AR} {pc : Nat} {lv : List (Nat × Value)} {st1 rest : List Value} {h h1 : AH}
    (hk12 : k1 + k2 ≤ k) (hn12 : n1 + n2 ≤ n) (hlen : h.length ≤ h1.length) (hwf : k1 = 0 ∨ (ab_wl h.length lv = true ∧ ab_ws h.length rest = true))
    (hP : ab_RP l X d k2 n2 M (pc, lv, st1, h1) R)
    {p : Program} {e : Env} {Rm : Room} {s : State} {m : MethodId} {args : Array Value} {below : List Frame} {meth : Method} {c : Code} {dC : Nat → ClassId} {dI : Nat → Nat → Nat} {cA : Nat → ClassId} {A : Nat → Prop} {mc ms : Nat} {Q : State → Prop}
    (hF : ab_Fx p s m args meth c M dC dI cA A) (h1' : d + 1 ≤ Rm.frames) (h2 : 64 * (d + 1) ≤ Rm.locals) (h3 : mc ≤ Rm.cells) (h4 : ms ≤ Rm.slots)
    {ad ad1 : Nat → Nat} {H : Heap} {H1 : Heap} {locs1 : List Loc} {cells slots : Nat} {ls : Array Slot} (hX : ∀ x, X = some x → va_X (ad ab_scr) x.1 x.2 s s.heap ∧ ad ab_scr < s.heap.size ∧ ¬ A (ad ab_scr))
    (h5 : cells + k ≤ mc) (h6 : slots + n ≤ ms) (hl : lv_has ls M.2.2.1 (ab_rl ad lv))
    (hk : ∀ (ad' : Nat → Nat) (H' : Heap) (locs' : List Loc) (cells' slots' pc' : Nat) (ls' : Array Slot) (i : Instr), ab_ag ad ad' h.length k → cells' ≤ mc → slots' ≤ ms → va_S A s.heap H' locs' → va_P (dC, dI) vwCl (ab_wd ad' cA 0 R.2) H' → va_D A (ab_wd ad' cA 0 R.2) → decode M.2.1 pc' = .ok (i, 1) → ab_rt M i R.1 →
        W p l e Rm s m args below meth c H' locs' cells' slots' Q (F0 m pc' ls' (R.1.toList.map (ab_r ad'))))
    (g : ab_ag ad ad1 h.length k1) (hS1 : va_S A s.heap H1 locs1) (hP1 : va_P (dC, dI) vwCl (ab_wd ad1 cA 0 h1) H1) (hD1 : va_D (va_A (ab_wd ad cA 0 h) H.size) (ab_wd ad1 cA 0 h1)) (hFc : ∀ q, va_A (ab_wd ad cA 0 h) H.size q → A q) :
    W p l e Rm s m args below meth c H1 locs1 (cells + k1) (slots + n1) Q (F0 m pc ls (st1.map (ab_r ad1))) := by
  refine hP p e Rm s m args below meth c dC dI cA A mc ms Q hF h1' h2 h3 h4 ad1 H1 locs1 (cells + k1) (slots + n1) ls ?_ (by omega) (by omega) hS1 hP1 (hD1.weaken fun _ _ _ q => hFc _ q) ?_ ?_
  · intro x hx
    rw [g.2 ab_scr (Or.inr rfl)]
    exact hX x hx
  · show lv_has ls M.2.2.1 (ab_rl ad1 lv)
    rw [ab_ag_l g (hwf.imp id And.left)]
    exact hl
  · intro ad' H' locs' cells' slots' pc' ls' i g2 b1 b2 b3 b4 b5 b6 b7
    refine hk ad' H' locs' cells' slots' pc' ls' i ⟨fun hk0 => ?_, fun j hj => ?_⟩ b1 b2 b3 b4 b5 b6 b7
    · rw [g2.1 (by omega), g.1 (by omega)]
    · rw [g2.2 j (hj.imp (fun q => by show j < h1.length; omega) id), g.2 j hj]
theorem ab_fr {dC : Nat → ClassId} {dI : Nat → Nat → Nat} {A : Nat → Prop} {ws : va_W} {H0 H : Heap} {locs : List Loc} (hD : va_D A ws) (hS : va_S A H0 H locs) (hA : ∀ q, H0.size ≤ q → A q) : ∀ q, va_A ws H.size q → A q := by
  intro q hq
  rcases hq with ⟨k, e, h⟩ | h
  · exact hD.2 k _ h
  · exact hA q (Nat.le_trans hS.1 h)
set_option maxHeartbeats 1000000 in
theorem ab_callV {l : Launch} {X : AX} {d k n d1 k1 n1 k2 n2 : Nat} {M M' : MI} {R : AR} {pc : Nat} {lv : List (Nat × Value)} {As rest : List Value} {h h1 : AH} {v : Option Value} {e0 : AE} {idx ci a c0 : Nat} {f0 : List Value} (hok : ab_ok M) (hok' : ab_ok M') (hlk : ab_lk M.2.2.2.2 pc = some e0) (he0 : e0.1 = .invokevirtual idx) (hC : ab_CV M.1.cls idx ci M' As.length) (ha : ab_nt h a = some (.inr (c0, f0))) (hc0 : c0 = ci)
    (hsl : (lg_sl (Value.ref a :: As)).length ≤ M'.2.2.1) (hd1 : d1 + 1 ≤ d) (hk12 : k1 + k2 ≤ k) (hn12 : n1 + n2 ≤ n) (hcat : (rest.map fun v => v.category).sum ≤ 8) (hlen : h.length ≤ h1.length) (hwf : k1 = 0 ∨ (ab_wl h.length lv = true ∧ ab_ws h.length rest = true)) (hv : ab_vi v)
    (hP' : ab_RP l none d1 k1 n1 M' (0, ab_lz 0 (Value.ref a :: As), [], h) (v, h1)) (hP : ab_RP l X d k2 n2 M (pc + 3, lv, v.toList ++ rest, h1) R) : ab_RP l X d k n M (pc, lv, As.reverse ++ .ref a :: rest, h) R := by
  obtain ⟨hdc, hb, -⟩ := ab_ok_at hok hlk
  obtain ⟨ins, len, a1, a2, z, y⟩ := e0
  dsimp only at hdc hb he0
  subst he0
  have hb : len = 3 := by simpa [ab_okd] using hb
  subst hb
  subst hc0
  obtain ⟨⟨T, N, hcl⟩, hml, hin, hse, hini, hco, hm1, hm2, hpd, hpn⟩ := hC
  have hmx := hok'.1
  intro p e Rm s m args below meth c dC dI cA A mc ms Q hF h1' h2 h3 h4 ad H locs cells slots ls hX h5 h6 hS hW hD hl hk
  have hFc := ab_fr (dC := dC) (dI := dI) hD hS hF.2.2.2.2.2.2.2.1
  have e1 := ab_wd_nt ad cA h 0 a _ ha
  rw [Nat.zero_add] at e1
  have hts := hF.2.2.2.2.2.1
  have hcb : CallB Rm s args M.1.cls idx M'.1 M'.2.1 M'.2.2.1 M'.2.2.2.1 (ab_wy M') (ab_rm d1 k1 n1) k1 n1 As.length := callB_of _ hts (ab_gd (fun w hw => by
    rcases List.mem_cons.mp hw with q | q
    · rw [q]; exact hco
    · exact q)) rfl rfl rfl (hts _ hini) (hts _ hml) ⟨hm1, hm2, hpd⟩ ⟨by show d1 + 1 + 1 ≤ _; omega, by show 8 + (M'.2.2.1 + 11) + 64 * (d1 + 1) ≤ _; omega⟩
  have hpre : PreV s H M'.1.cls (ad a) (ab_Pr dC dI cA ad H.size (Value.ref a :: As) h) (As.map (ab_r ad)) := ⟨ab_blind, va_recv hF.2.2.2.2.2.2.1 hW hcl e1, fun U hU hWm => ⟨rfl, by rw [hU], by rw [hU]; exact hW, va_K.moved hWm.alike hF.2.2.2.2.2.2.1, hD.weaken (fun _ _ _ _ => trivial), fun w hw => ab_nw hw hWm (hF.2.2.2.2.2.2.2.2 w hw)⟩⟩
  have hst : ((As.reverse ++ .ref a :: rest).map (ab_r ad)) = (As.map (ab_r ad)).reverse ++ .ref (ad a) :: rest.map (ab_r ad) := by simp [ab_r]
  have hroom := lv_room (m := m) (pc := pc) (ls := ls) (rest := (As.map (ab_r ad)).reverse ++ .ref (ad a) :: rest.map (ab_r ad)) (st := rest.map (ab_r ad)) (by rw [ab_cat_sum]; exact hcat)
  show W p l e Rm s m args below meth c H locs cells slots Q (F0 m pc ls ((As.reverse ++ .ref a :: rest).map (ab_r ad)))
  rw [hst]
  match v, hv with
  | none, _ =>
    refine va_callv (va_runV (n := As.length) (As := As.map (ab_r ad)) (rest := rest.map (ab_r ad)) ⟨hF.1, hF.2.1, hF.2.2.1, hF.2.2.2.2.1, hts⟩ (ab_metV hpn hsl hP' dC dI cA ad H.size) ⟨hcb, hts _ hin, hts _ hse⟩ hpre rfl (by simp) hl.1 rfl hroom hdc ⟨by omega, by omega⟩) hS (fun q _ h => hFc q h) hFc (fun ad1 t H1 locs1 ht hvm hw hB hz1 hk1 hS1 => ?_)
    obtain ⟨hP1, hK1, hD1⟩ := hB
    rw [ht] at hP1
    have := ab_after (st1 := rest) hk12 hn12 hlen hwf hP hF h1' h2 h3 h4 hX h5 h6 hl hk hw hS1 hP1 hD1 hFc
    rw [ab_ag_s hw (hwf.imp id And.right)] at this
    exact this
  | some (.int r), _ =>
    refine va_calli (va_runV (n := As.length) (As := As.map (ab_r ad)) (rest := rest.map (ab_r ad)) ⟨hF.1, hF.2.1, hF.2.2.1, hF.2.2.2.2.1, hts⟩ (ab_metI hpn hsl hP' dC dI cA ad H.size) ⟨hcb, hts _ hin, hts _ hse⟩ hpre rfl (by simp) hl.1 rfl hroom hdc ⟨by omega, by omega⟩) hS (fun q _ h => hFc q h) hFc (fun r1 ad1 t H1 locs1 ht hvm hw hB hz1 hk1 hS1 => ?_)
    obtain ⟨hP1, hK1, hD1⟩ := hB
    obtain ⟨rfl, g⟩ := hw
    rw [ht] at hP1
    have := ab_after (st1 := .int r1 :: rest) hk12 hn12 hlen hwf hP hF h1' h2 h3 h4 hX h5 h6 hl hk g hS1 hP1 hD1 hFc
    rw [List.map_cons, ab_ag_s g (hwf.imp id And.right)] at this
    exact this
set_option maxHeartbeats 1000000 in
theorem ab_callS {l : Launch} {X : AX} {d k n d1 k1 n1 k2 n2 : Nat} {M M' : MI} {R : AR} {pc : Nat} {lv : List (Nat × Value)} {As rest : List Value} {h h1 : AH} {v : Option Value} {e0 : AE} {idx : Nat} (hok : ab_ok M) (hok' : ab_ok M') (hlk : ab_lk M.2.2.2.2 pc = some e0) (he0 : e0.1 = .invokestatic idx) (hC : ab_CS M.1.cls idx M' As.length)
    (hsl : (lg_sl As).length ≤ M'.2.2.1) (hd1 : d1 + 1 ≤ d) (hk12 : k1 + k2 ≤ k) (hn12 : n1 + n2 ≤ n) (hcat : (rest.map fun v => v.category).sum ≤ 8) (hlen : h.length ≤ h1.length) (hwf : k1 = 0 ∨ (ab_wl h.length lv = true ∧ ab_ws h.length rest = true)) (hv : ab_vi v)
    (hP' : ab_RP l none d1 k1 n1 M' (0, ab_lz 0 As, [], h) (v, h1)) (hP : ab_RP l X d k2 n2 M (pc + 3, lv, v.toList ++ rest, h1) R) : ab_RP l X d k n M (pc, lv, As.reverse ++ rest, h) R := by
  obtain ⟨hdc, hb, -⟩ := ab_ok_at hok hlk
  obtain ⟨ins, len, a1, a2, z, y⟩ := e0
  dsimp only at hdc hb he0
  subst he0
  have hb : len = 3 := by simpa [ab_okd] using hb
  subst hb
  obtain ⟨hml, hin, hini, hco, hm1, hm2, hpd, hpn⟩ := hC
  have hmx := hok'.1
  intro p e Rm s m args below meth c dC dI cA A mc ms Q hF h1' h2 h3 h4 ad H locs cells slots ls hX h5 h6 hS hW hD hl hk
  have hFc := ab_fr (dC := dC) (dI := dI) hD hS hF.2.2.2.2.2.2.2.1
  have hts := hF.2.2.2.2.2.1
  have hcb : CallB Rm s args M.1.cls idx M'.1 M'.2.1 M'.2.2.1 M'.2.2.2.1 (ab_wy M') (ab_rm d1 k1 n1) k1 n1 As.length := callB_of _ hts (ab_gd (fun w hw => by
    rcases List.mem_cons.mp hw with q | q
    · rw [q]; exact hco
    · exact q)) rfl rfl rfl (hts _ hini) (hts _ hml) ⟨hm1, hm2, hpd⟩ ⟨by show d1 + 1 + 1 ≤ _; omega, by show 8 + (M'.2.2.1 + 11) + 64 * (d1 + 1) ≤ _; omega⟩
  have hpre : PreS s H (ab_Pr dC dI cA ad H.size As h) (As.map (ab_r ad)) := ⟨ab_blind, fun U hU hWm => ⟨rfl, by rw [hU], by rw [hU]; exact hW, va_K.moved hWm.alike hF.2.2.2.2.2.2.1, hD.weaken (fun _ _ _ _ => trivial), fun w hw => ab_nw hw hWm (hF.2.2.2.2.2.2.2.2 w hw)⟩⟩
  have hst : ((As.reverse ++ rest).map (ab_r ad)) = (As.map (ab_r ad)).reverse ++ rest.map (ab_r ad) := by simp
  have hroom := lv_room (m := m) (pc := pc) (ls := ls) (rest := (As.map (ab_r ad)).reverse ++ rest.map (ab_r ad)) (st := rest.map (ab_r ad)) (by rw [ab_cat_sum]; exact hcat)
  show W p l e Rm s m args below meth c H locs cells slots Q (F0 m pc ls ((As.reverse ++ rest).map (ab_r ad)))
  rw [hst]
  match v, hv with
  | none, _ =>
    refine va_callv (va_runS (n := As.length) (As := As.map (ab_r ad)) (rest := rest.map (ab_r ad)) ⟨hF.1, hF.2.1, hF.2.2.1, hF.2.2.2.2.1, hts⟩ (ab_metV hpn hsl hP' dC dI cA ad H.size) ⟨hcb, hts _ hin⟩ hpre rfl (by simp) hl.1 rfl hroom hdc ⟨by omega, by omega⟩) hS (fun q _ h => hFc q h) hFc (fun ad1 t H1 locs1 ht hvm hw hB hz1 hk1 hS1 => ?_)
    obtain ⟨hP1, hK1, hD1⟩ := hB
    rw [ht] at hP1
    have := ab_after (st1 := rest) hk12 hn12 hlen hwf hP hF h1' h2 h3 h4 hX h5 h6 hl hk hw hS1 hP1 hD1 hFc
    rw [ab_ag_s hw (hwf.imp id And.right)] at this
    exact this
  | some (.int r), _ =>
    refine va_calli (va_runS (n := As.length) (As := As.map (ab_r ad)) (rest := rest.map (ab_r ad)) ⟨hF.1, hF.2.1, hF.2.2.1, hF.2.2.2.2.1, hts⟩ (ab_metI hpn hsl hP' dC dI cA ad H.size) ⟨hcb, hts _ hin⟩ hpre rfl (by simp) hl.1 rfl hroom hdc ⟨by omega, by omega⟩) hS (fun q _ h => hFc q h) hFc (fun r1 ad1 t H1 locs1 ht hvm hw hB hz1 hk1 hS1 => ?_)
    obtain ⟨hP1, hK1, hD1⟩ := hB
    obtain ⟨rfl, g⟩ := hw
    rw [ht] at hP1
    have := ab_after (st1 := .int r1 :: rest) hk12 hn12 hlen hwf hP hF h1' h2 h3 h4 hX h5 h6 hl hk g hS1 hP1 hD1 hFc
    rw [List.map_cons, ab_ag_s g (hwf.imp id And.right)] at this
    exact this
set_option maxHeartbeats 1000000 in
theorem ab_callI {l : Launch} {X : AX} {d k n d1 k1 n1 k2 n2 : Nat} {M M' : MI} {R : AR} {pc : Nat} {lv : List (Nat × Value)} {As rest : List Value} {h h1 : AH} {e0 : AE} {idx a : Nat} (hok : ab_ok M) (hok' : ab_ok M') (hlk : ab_lk M.2.2.2.2 pc = some e0) (he0 : e0.1 = .invokespecial idx) (hC : ab_CI M.1.cls idx M' As.length)
    (hsl : (lg_sl (Value.ref a :: As)).length ≤ M'.2.2.1) (hd1 : d1 + 1 ≤ d) (hk12 : k1 + k2 ≤ k) (hn12 : n1 + n2 ≤ n) (hcat : (rest.map fun v => v.category).sum ≤ 8) (hlen : h.length ≤ h1.length) (hwf : k1 = 0 ∨ (ab_wl h.length lv = true ∧ ab_ws h.length rest = true))
    (hP' : ab_RP l none d1 k1 n1 M' (0, ab_lz 0 (Value.ref a :: As), [], h) (none, h1)) (hP : ab_RP l X d k2 n2 M (pc + 3, lv, rest, h1) R) : ab_RP l X d k n M (pc, lv, As.reverse ++ .ref a :: rest, h) R := by
  obtain ⟨hdc, hb, -⟩ := ab_ok_at hok hlk
  obtain ⟨ins, len, a1, a2, z, y⟩ := e0
  dsimp only at hdc hb he0
  subst he0
  have hb : len = 3 := by simpa [ab_okd] using hb
  subst hb
  obtain ⟨hml, hin, hnm, hrn, hini, hco, hm1, hm2, hpd, hpn⟩ := hC
  have hmx := hok'.1
  intro p e Rm s m args below meth c dC dI cA A mc ms Q hF h1' h2 h3 h4 ad H locs cells slots ls hX h5 h6 hS hW hD hl hk
  have hFc := ab_fr (dC := dC) (dI := dI) hD hS hF.2.2.2.2.2.2.2.1
  have hts := hF.2.2.2.2.2.1
  have hgd : GoodIn ab_T (ab_wy M') := ab_gd (fun w hw => by
    rcases List.mem_cons.mp hw with q | q
    · rw [q]; exact hco
    · exact q)
  have hR : (ab_rm d1 k1 n1).frames + 1 ≤ Rm.frames ∧ 8 + (M'.2.2.1 + 11) + (ab_rm d1 k1 n1).locals ≤ Rm.locals := ⟨by show d1 + 1 + 1 ≤ _; omega, by show 8 + (M'.2.2.1 + 11) + 64 * (d1 + 1) ≤ _; omega⟩
  have hpre : PreS s H (ab_Pr dC dI cA ad H.size (Value.ref a :: As) h) (.ref (ad a) :: As.map (ab_r ad)) := ⟨ab_blind, fun U hU hWm => ⟨rfl, by rw [hU], by rw [hU]; exact hW, va_K.moved hWm.alike hF.2.2.2.2.2.2.1, hD.weaken (fun _ _ _ _ => trivial), fun w hw => ab_nw hw hWm (hF.2.2.2.2.2.2.2.2 w hw)⟩⟩
  have hst : ((As.reverse ++ .ref a :: rest).map (ab_r ad)) = (As.map (ab_r ad)).reverse ++ .ref (ad a) :: rest.map (ab_r ad) := by simp [ab_r]
  have hroom := lv_room (m := m) (pc := pc) (ls := ls) (rest := (As.map (ab_r ad)).reverse ++ .ref (ad a) :: rest.map (ab_r ad)) (st := rest.map (ab_r ad)) (by rw [ab_cat_sum]; exact hcat)
  show W p l e Rm s m args below meth c H locs cells slots Q (F0 m pc ls ((As.reverse ++ .ref a :: rest).map (ab_r ad)))
  rw [hst]
  have hret : va_Run p l e Rm s m args below meth c H locs cells slots k1 n1 (F0 m pc ls ((As.map (ab_r ad)).reverse ++ .ref (ad a) :: rest.map (ab_r ad))) (rest.map (ab_r ad)) (va_Qv (fun (ad' : Nat → Nat) => ab_ag ad ad' h.length k1) (ab_Bq dC dI cA ad H.size h h1) (va_A (ab_wd ad cA 0 h) H.size) (Value.ref (ad a) :: As.map (ab_r ad)).toArray) (va_A (ab_wd ad cA 0 h) H.size) := by
    rcases hml with hml | ⟨host, hml⟩
    · have hcb : CallB Rm s args M.1.cls idx M'.1 M'.2.1 M'.2.2.1 M'.2.2.2.1 (ab_wy M') (ab_rm d1 k1 n1) k1 n1 As.length := callB_of _ hts hgd rfl rfl rfl (hts _ hini) (hts _ hml) ⟨hm1, hm2, hpd⟩ hR
      rw [hrn] at hcb
      exact va_runI (n := As.length) (As := As.map (ab_r ad)) (rest := rest.map (ab_r ad)) ⟨hF.1, hF.2.1, hF.2.2.1, hF.2.2.2.2.1, hts⟩ (ab_metV hpn hsl hP' dC dI cA ad H.size) ⟨hcb, hnm, hts _ hin⟩ hpre rfl (by simp) hl.1 rfl hroom hdc ⟨by omega, by omega⟩
    · have hcb : va_CN Rm s args M.1.cls idx M'.1 host M'.2.1 M'.2.2.1 M'.2.2.2.1 (ab_wy M') (ab_rm d1 k1 n1) k1 n1 As.length := va_cnB _ hts hgd rfl rfl rfl (hF.2.2.2.2.2.2.2.2 _ hml) (hts _ hini) ⟨hm1, hm2, hpd⟩ hR
      rw [hrn] at hcb
      exact va_runIN (n := As.length) (As := As.map (ab_r ad)) (rest := rest.map (ab_r ad)) ⟨hF.1, hF.2.1, hF.2.2.1, hF.2.2.2.2.1, hts⟩ (ab_metV hpn hsl hP' dC dI cA ad H.size) ⟨hcb, hnm, hts _ hin⟩ hpre rfl (by simp) hl.1 rfl hroom hdc ⟨by omega, by omega⟩
  refine va_callv hret hS (fun q _ h => hFc q h) hFc (fun ad1 t H1 locs1 ht hvm hw hB hz1 hk1 hS1 => ?_)
  obtain ⟨hP1, hK1, hD1⟩ := hB
  rw [ht] at hP1
  have := ab_after (st1 := rest) hk12 hn12 hlen hwf hP hF h1' h2 h3 h4 hX h5 h6 hl hk hw hS1 hP1 hD1 hFc
  rw [ab_ag_s hw (hwf.imp id And.right)] at this
  exact this
/-- a new address for the next cell -/
theorem ab_grow {l : Launch} {X : AX} {d k n k2 n2 N : Nat} {M : MI} {R : AR} {pc pc' : Nat} {lv : List (Nat × Value)} {st : List Value} {h : AH} {cel : AC} (hwf : ab_wf (pc, lv, st, h) = true) (hk2 : k2 + 1 ≤ k) (hn2 : n2 + N ≤ n)
    (hP : ab_RP l X d k2 n2 M (pc', lv, .ref h.length :: st, h ++ [cel]) R)
    {p : Program} {e : Env} {Rm : Room} {s : State} {m : MethodId} {args : Array Value} {below : List Frame} {meth : Method} {c : Code} {dC : Nat → ClassId} {dI : Nat → Nat → Nat} {cA : Nat → ClassId} {A : Nat → Prop} {mc ms : Nat} {Q : State → Prop}
    (hF : ab_Fx p s m args meth c M dC dI cA A) (h1' : d + 1 ≤ Rm.frames) (h2 : 64 * (d + 1) ≤ Rm.locals) (h3 : mc ≤ Rm.cells) (h4 : ms ≤ Rm.slots)
    {ad : Nat → Nat} {H1 : Heap} {locs : List Loc} {cells slots : Nat} {ls : Array Slot} (hX : ∀ x, X = some x → va_X (ad ab_scr) x.1 x.2 s s.heap ∧ ad ab_scr < s.heap.size ∧ ¬ A (ad ab_scr))
    (h5 : cells + k ≤ mc) (h6 : slots + n ≤ ms) (hl : lv_has ls M.2.2.1 (ab_rl ad lv))
    (hk : ∀ (ad' : Nat → Nat) (H' : Heap) (locs' : List Loc) (cells' slots' pc' : Nat) (ls' : Array Slot) (i : Instr), ab_ag ad ad' h.length k → cells' ≤ mc → slots' ≤ ms → va_S A s.heap H' locs' → va_P (dC, dI) vwCl (ab_wd ad' cA 0 R.2) H' → va_D A (ab_wd ad' cA 0 R.2) → decode M.2.1 pc' = .ok (i, 1) → ab_rt M i R.1 →
        W p l e Rm s m args below meth c H' locs' cells' slots' Q (F0 m pc' ls' (R.1.toList.map (ab_r ad'))))
    (q : Nat) (hcel : ab_rz (fun j => if j = h.length then q else ad j) cA cel = ab_rz ad cA cel) (hS1 : va_S A s.heap H1 locs) (hP1 : va_P (dC, dI) vwCl (ab_wd ad cA 0 h ++ [(q, ab_rz ad cA cel)]) H1) (hD1 : va_D A (ab_wd ad cA 0 h ++ [(q, ab_rz ad cA cel)])) :
    W p l e Rm s m args below meth c H1 locs (cells + 1) (slots + N) Q (F0 m pc' ls (.ref q :: st.map (ab_r ad))) := by
  simp only [ab_wf, Bool.and_eq_true, decide_eq_true_eq] at hwf
  obtain ⟨⟨⟨w1, w2⟩, w3⟩, w4⟩ := hwf
  have hag : ab_ag ad (fun j => if j = h.length then q else ad j) h.length 1 := by
    refine ⟨fun z => absurd z (by decide), fun i hi => if_neg ?_⟩
    rcases hi with z | z
    · omega
    · rw [z]; unfold ab_scr; omega
  have ew : ab_wd (fun j => if j = h.length then q else ad j) cA 0 (h ++ [cel]) = ab_wd ad cA 0 h ++ [(q, ab_rz ad cA cel)] := by
    rw [ab_wd_app, ab_ag_h cA hag h 0 (by omega) w4, hcel, Nat.zero_add]
    simp
  have es : (Value.ref h.length :: st).map (ab_r (fun j => if j = h.length then q else ad j)) = .ref q :: st.map (ab_r ad) := by
    rw [List.map_cons, ab_ag_s hag (Or.inr w3)]
    simp [ab_r]
  have := hP p e Rm s m args below meth c dC dI cA A mc ms Q hF h1' h2 h3 h4 (fun j => if j = h.length then q else ad j) H1 locs (cells + 1) (slots + N) ls (fun x hx => by
    have := hX x hx
    rw [← hag.2 ab_scr (Or.inr rfl)] at this
    exact this) (by omega) (by omega) hS1 (by show va_P _ _ (ab_wd _ cA 0 (h ++ [cel])) _; rw [ew]; exact hP1) (by show va_D _ (ab_wd _ cA 0 (h ++ [cel])); rw [ew]; exact hD1) (by show lv_has ls M.2.2.1 (ab_rl _ lv); rw [ab_ag_l hag (Or.inr w2)]; exact hl) (by
      intro ad' H' locs' cells' slots' pc' ls' i g2 b1 b2 b3 b4 b5 b6 b7
      refine hk ad' H' locs' cells' slots' pc' ls' i ⟨fun hk0 => by omega, fun j hj => ?_⟩ b1 b2 b3 b4 b5 b6 b7
      rw [g2.2 j (hj.imp (fun z => by show j < (h ++ [cel]).length; rw [List.length_append]; omega) id), hag.2 j hj])
  have e9 : (F0 m pc' ls ((Value.ref h.length :: st).map (ab_r (fun j => if j = h.length then q else ad j)))) = F0 m pc' ls (.ref q :: st.map (ab_r ad)) := by rw [es]
  rw [← e9]
  exact this
theorem ab_new {l : Launch} {X : AX} {d k n k2 n2 : Nat} {M : MI} {R : AR} {pc : Nat} {lv : List (Nat × Value)} {st : List Value} {h : AH} {e0 : AE} {idx ci N : Nat} {fs : List Value} (hok : ab_ok M) (hlk : ab_lk M.2.2.2.2 pc = some e0) (he0 : e0.1 = .new idx) (hN : ab_N M.1.cls idx ci N fs) (hwf : ab_wf (pc, lv, st, h) = true) (hk2 : k2 + 1 ≤ k) (hn2 : n2 + N ≤ n)
    (hP : ab_RP l X d k2 n2 M (pc + 3, lv, .ref h.length :: st, h ++ [.inr (ci, fs)]) R) : ab_RP l X d k n M (pc, lv, st, h) R := by
  obtain ⟨hdc, hb, -⟩ := ab_ok_at hok hlk
  obtain ⟨ins, len, a1, a2, z, y⟩ := e0
  dsimp only at hdc hb he0
  subst he0
  have hb : len = 3 := by simpa [ab_okd] using hb
  subst hb
  obtain ⟨C, T, ty, hcl, hin, hty, hl1, hl2, hl3, hdf, hnr⟩ := hN
  intro p e Rm s m args below meth c dC dI cA A mc ms Q hF h1' h2 h3 h4 ad H locs cells slots ls hX h5 h6 hS hW hD hl hk
  have hts := hF.2.2.2.2.2.1
  have efs : fs.map (ab_r ad) = fs := by
    rw [List.map_congr_left (g := id) (fun v hv => by cases v with
      | ref a => exact absurd rfl (hnr _ hv a)
      | _ => rfl), List.map_id]
  have efs2 : ∀ ad2 : Nat → Nat, fs.map (ab_r ad2) = fs := fun ad2 => by
    rw [List.map_congr_left (g := id) (fun v hv => by cases v with
      | ref a => exact absurd rfl (hnr _ hv a)
      | _ => rfl), List.map_id]
  refine va_new (ci := ci) (fs := fs) (C := C) (T := T) (N := N) hF.1 hF.2.1 hts hin ty hty hF.2.2.2.2.1 (hts _ hl1) (hts _ hl2) (hts _ hl3) hF.2.2.2.2.2.2.1 hW hD hS hF.2.2.2.2.2.2.2.1 hcl hdf (by omega) (by omega) hdc (fun q H1 hP1 hD1 hS1 => ?_)
  refine ab_grow (cel := .inr (ci, fs)) hwf hk2 hn2 hP hF h1' h2 h3 h4 hX h5 h6 hl hk q (by simp only [ab_rz, efs2]) hS1 ?_ ?_
  · simp only [ab_rz, efs]; exact hP1
  · simp only [ab_rz, efs]; exact hD1
set_option maxRecDepth 20000 in
theorem ab_newa {l : Launch} {X : AX} {d k n k2 n2 : Nat} {M : MI} {R : AR} {pc : Nat} {lv : List (Nat × Value)} {st : List Value} {h : AH} {e0 : AE} {t N : Nat} {ty : ArrayType} {x : Int32} (hok : ab_ok M) (hlk : ab_lk M.2.2.2.2 pc = some e0) (he0 : e0.1 = .newarray ty) (hT : (ty = .int ∧ t = 0) ∨ (ty = .boolean ∧ t = 1)) (hwf : ab_wf (pc, lv, st, h) = true) (hx0 : ¬ x < 0) (hxN : x.toNatClampNeg = N) (hN : N ≤ 1000) (hk2 : k2 + 1 ≤ k) (hn2 : n2 + N ≤ n)
    (hP : ab_RP l X d k2 n2 M (pc + 2, lv, .ref h.length :: st, h ++ [.inl (t, N, fun _ => 0)]) R) : ab_RP l X d k n M (pc, lv, .int x :: st, h) R := by
  obtain ⟨hdc, hb, -⟩ := ab_ok_at hok hlk
  obtain ⟨ins, len, a1, a2, z, y⟩ := e0
  dsimp only at hdc hb he0
  subst he0
  have hb : len = 2 := by simpa [ab_okd] using hb
  subst hb
  intro p e Rm s m args below meth c dC dI cA A mc ms Q hF h1' h2 h3 h4 ad H locs cells slots ls hX h5 h6 hS hW hD hl hk
  have hts := hF.2.2.2.2.2.1
  have hK := hF.2.2.2.2.2.2.1
  rcases hT with ⟨rfl, rfl⟩ | ⟨rfl, rfl⟩
  · refine va_newa (ty := .int) (a0 := (N, .inl fun _ => 0)) hF.1 hF.2.1 (hts _ (ab_in (i := 99) rfl rfl)) rfl hK hW hD hS hF.2.2.2.2.2.2.2.1 (fun _ => rfl) hx0 hxN (by show N * 4 ≤ 536870912; omega) (by omega) (by omega) hdc (fun q cB H1 hK1 hP1 hD1 hS1 => ?_)
    have f1 := (hK.2 0 _ rfl).2
    have f2 := (hK1.2 2 _ rfl).2
    have f3 : cB = cA 0 := Option.some.inj ((show s.vm.findClass _ = some cB from f2).symm.trans f1)
    subst f3
    exact ab_grow (cel := .inl (0, N, fun _ => 0)) hwf hk2 hn2 hP hF h1' h2 h3 h4 hX h5 h6 hl hk q rfl hS1 hP1 hD1
  · refine va_newa (ty := .boolean) (a0 := (N, .inl fun _ => 0)) hF.1 hF.2.1 (hts _ (ab_in (i := 1024) rfl rfl)) rfl hK hW hD hS hF.2.2.2.2.2.2.2.1 (fun _ => rfl) hx0 hxN (by show N * 1 ≤ 536870912; omega) (by omega) (by omega) hdc (fun q cB H1 hK1 hP1 hD1 hS1 => ?_)
    have f1 := (hK.2 1 _ rfl).2
    have f2 := (hK1.2 2 _ rfl).2
    have f3 : cB = cA 1 := Option.some.inj ((show s.vm.findClass _ = some cB from f2).symm.trans f1)
    subst f3
    exact ab_grow (cel := .inl (1, N, fun _ => 0)) hwf hk2 hn2 hP hF h1' h2 h3 h4 hX h5 h6 hl hk q rfl hS1 hP1 hD1
theorem ab_ret {l : Launch} {X : AX} {d k n : Nat} {M : MI} {pc : Nat} {lv : List (Nat × Value)} {v : Option Value} {h : AH} {e0 : AE} (hok : ab_ok M) (hlk : ab_lk M.2.2.2.2 pc = some e0) (hrt : ab_rt M e0.1 v) : ab_RP l X d k n M (pc, lv, v.toList, h) (v, h) := by
  obtain ⟨hdc, hb, -⟩ := ab_ok_at hok hlk
  intro p e Rm s m args below meth c dC dI cA A mc ms Q hF h1' h2 h3 h4 ad H locs cells slots ls hX h5 h6 hS hW hD hl hk
  have hb1 : e0.2.1 = 1 := by
    unfold ab_okd at hb
    match v, hrt with
    | none, hrt => rw [hrt.1] at hb; simpa using hb
    | some (.int x), hrt => rw [hrt.1] at hb; simpa using hb
  rw [hb1] at hdc
  exact hk ad H locs cells slots pc ls e0.1 (ab_ag.rf _ _ _) (by omega) (by omega) hS hW hD hdc hrt
/-- THE ABSTRACT MACHINE IS SOUND -/
theorem ab_sound (l : Launch) : ab_Cl (ab_RP l) := by
  refine ⟨?_, ?_, ?_, ?_, ?_, ?_, ?_⟩
  · intro X d k n M S R e S' C h1 h2 h3 h4 h5
    exact ab_s1 h1 h2 h3 h4 h5
  · intro X d k n M pc lv v h e h1 h2 h3
    exact ab_ret h1 h2 h3
  · intro X d k n d1 k1 n1 k2 n2 M M' R pc lv As rest h h1 v e idx ci a c0 f0 a1 a2 a3 a4 a5 a6 a7 a8 a9 b1 b2 b3 b4 b5 b6 b7 b8
    exact ab_callV a1 a2 a3 a4 a5 a6 a7 a8 a9 b1 b2 b3 b4 b5 b6 b7 b8
  · intro X d k n d1 k1 n1 k2 n2 M M' R pc lv As rest h h1 v e idx a1 a2 a3 a4 a5 a6 a7 a8 a9 b1 b2 b3 b4 b5 b6
    exact ab_callS a1 a2 a3 a4 a5 a6 a7 a8 a9 b1 b2 b3 b4 b5 b6
  · intro X d k n d1 k1 n1 k2 n2 M M' R pc lv As rest h h1 e idx a a1 a2 a3 a4 a5 a6 a7 a8 a9 b1 b2 b3 b4 b5
    exact ab_callI a1 a2 a3 a4 a5 a6 a7 a8 a9 b1 b2 b3 b4 b5
  · intro X d k n k2 n2 M R pc lv st h e idx ci N fs a1 a2 a3 a4 a5 a6 a7 a8
    exact ab_new a1 a2 a3 a4 a5 a6 a7 a8
  · intro X d k n k2 n2 M R pc lv st h e t ty N x a1 a2 a3 a4 a5 a6 a7 a8 a9 b1 b2
    exact ab_newa a1 a2 a3 a4 a5 a6 a7 a8 a9 b1 b2
theorem ab_real (l : Launch) {X : AX} {d k n : Nat} {M : MI} {S : AS} {R : AR} (h : ab_E X d k n M S R) : ab_RP l X d k n M S R := h _ (ab_sound l)
end
