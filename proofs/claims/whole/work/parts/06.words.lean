/-! words of classes, fields and calls (by program) -/
theorem ab_inl {ws : List Cond} {ps : List Nat} (h : ws = ps.filterMap (fun i => lw_tbl[i]?)) (g : ws.all goodWord = true) : ∀ w ∈ ws, w ∈ ab_T := by
  intro w hw
  have g1 := List.all_eq_true.mp g w hw
  rw [h] at hw
  obtain ⟨i, -, hi⟩ := List.mem_filterMap.mp hw
  exact ab_in hi g1
theorem uw_0 : ∀ w ∈ u_ws RX0 TX0 8, w ∈ ab_T := ab_inl (ps := [280, 282, 284, 286, 288, 290, 292, 294]) (by decide +kernel) (by decide +kernel)
theorem uw_1 : ∀ w ∈ u_ws RX1 TX1 4, w ∈ ab_T := ab_inl (ps := [323, 325, 327, 329]) (by decide +kernel) (by decide +kernel)
theorem uw_2 : ∀ w ∈ u_ws RX2 TX2 2, w ∈ ab_T := ab_inl (ps := [94, 96]) (by decide +kernel) (by decide +kernel)
theorem uw_3 : ∀ w ∈ u_ws RX3 TX3 6, w ∈ ab_T := ab_inl (ps := [251, 253, 255, 257, 259, 261]) (by decide +kernel) (by decide +kernel)
theorem uw_4 : ∀ w ∈ u_ws RX4 TX4 5, w ∈ ab_T := ab_inl (ps := [226, 228, 230, 232, 234]) (by decide +kernel) (by decide +kernel)
theorem uw_5 : ∀ w ∈ u_ws RX5 TX5 13, w ∈ ab_T := ab_inl (ps := [148, 150, 152, 154, 156, 158, 160, 162, 164, 166, 168, 170, 172]) (by decide +kernel) (by decide +kernel)
theorem uw_6 : ∀ w ∈ u_ws RX6 TX6 7, w ∈ ab_T := ab_inl (ps := [186, 188, 190, 192, 194, 196, 198]) (by decide +kernel) (by decide +kernel)
theorem uw_7 : ∀ w ∈ u_ws RX7 TX7 2, w ∈ ab_T := ab_inl (ps := [307, 309]) (by decide +kernel) (by decide +kernel)
theorem uw_8 : ∀ w ∈ u_ws RX8 TX8 1, w ∈ ab_T := ab_inl (ps := [211]) (by decide +kernel) (by decide +kernel)
theorem uw_9 : ∀ w ∈ u_ws RX9 TX9 9, w ∈ ab_T := ab_inl (ps := [341, 343, 345, 347, 349, 351, 353, 355, 357]) (by decide +kernel) (by decide +kernel)
theorem uw_10 : ∀ w ∈ u_ws RX10 TX10 45, w ∈ ab_T := ab_inl (ps := [933, 935, 937, 939, 941, 943, 945, 947, 949, 951, 953, 955, 957, 959, 961, 963, 965, 967, 969, 971, 973, 975, 977, 979, 981, 983, 985, 987, 989, 991, 993, 995, 997, 999, 1001, 1003, 1005, 1007, 1009, 1011, 1013, 1015, 1017, 1019, 1021]) (by decide +kernel) (by decide +kernel)
set_option maxRecDepth 20000 in
theorem fl_RX0_11 : ab_F RX0 11 0 0 := ⟨RX0, TX0, 8, rfl, by decide, rfl, uw_0, Or.inl (ab_in (i := 270) rfl rfl)⟩
set_option maxRecDepth 20000 in
theorem fl_RX0_15 : ab_F RX0 15 0 1 := ⟨RX0, TX0, 8, rfl, by decide, rfl, uw_0, Or.inl (ab_in (i := 271) rfl rfl)⟩
set_option maxRecDepth 20000 in
theorem fl_RX0_18 : ab_F RX0 18 0 2 := ⟨RX0, TX0, 8, rfl, by decide, rfl, uw_0, Or.inl (ab_in (i := 272) rfl rfl)⟩
set_option maxRecDepth 20000 in
theorem fl_RX0_21 : ab_F RX0 21 0 3 := ⟨RX0, TX0, 8, rfl, by decide, rfl, uw_0, Or.inl (ab_in (i := 273) rfl rfl)⟩
set_option maxRecDepth 20000 in
theorem fl_RX0_24 : ab_F RX0 24 0 4 := ⟨RX0, TX0, 8, rfl, by decide, rfl, uw_0, Or.inl (ab_in (i := 274) rfl rfl)⟩
set_option maxRecDepth 20000 in
theorem fl_RX0_27 : ab_F RX0 27 0 5 := ⟨RX0, TX0, 8, rfl, by decide, rfl, uw_0, Or.inl (ab_in (i := 276) rfl rfl)⟩
set_option maxRecDepth 20000 in
theorem fl_RX0_31 : ab_F RX0 31 5 0 := ⟨RX5, TX5, 13, rfl, by decide, rfl, uw_5, Or.inr ⟨"LimbMeasures", ab_iu (i := 108) rfl rfl⟩⟩
set_option maxRecDepth 20000 in
theorem fl_RX0_36 : ab_F RX0 36 0 7 := ⟨RX0, TX0, 8, rfl, by decide, rfl, uw_0, Or.inl (ab_in (i := 279) rfl rfl)⟩
set_option maxRecDepth 20000 in
theorem fl_RX0_46 : ab_F RX0 46 0 6 := ⟨RX0, TX0, 8, rfl, by decide, rfl, uw_0, Or.inl (ab_in (i := 278) rfl rfl)⟩
set_option maxRecDepth 20000 in
theorem fl_RX1_11 : ab_F RX1 11 1 0 := ⟨RX1, TX1, 4, rfl, by decide, rfl, uw_1, Or.inl (ab_in (i := 318) rfl rfl)⟩
set_option maxRecDepth 20000 in
theorem fl_RX1_15 : ab_F RX1 15 1 1 := ⟨RX1, TX1, 4, rfl, by decide, rfl, uw_1, Or.inl (ab_in (i := 319) rfl rfl)⟩
set_option maxRecDepth 20000 in
theorem fl_RX1_18 : ab_F RX1 18 1 2 := ⟨RX1, TX1, 4, rfl, by decide, rfl, uw_1, Or.inl (ab_in (i := 321) rfl rfl)⟩
set_option maxRecDepth 20000 in
theorem fl_RX1_21 : ab_F RX1 21 1 3 := ⟨RX1, TX1, 4, rfl, by decide, rfl, uw_1, Or.inl (ab_in (i := 322) rfl rfl)⟩
set_option maxRecDepth 20000 in
theorem fl_RX10_7 : ab_F RX10 7 10 1 := ⟨RX10, TX10, 45, rfl, by decide, rfl, uw_10, Or.inl (ab_in (i := 889) rfl rfl)⟩
set_option maxRecDepth 20000 in
theorem fl_RX10_13 : ab_F RX10 13 10 2 := ⟨RX10, TX10, 45, rfl, by decide, rfl, uw_10, Or.inl (ab_in (i := 890) rfl rfl)⟩
set_option maxRecDepth 20000 in
theorem fl_RX10_16 : ab_F RX10 16 10 4 := ⟨RX10, TX10, 45, rfl, by decide, rfl, uw_10, Or.inl (ab_in (i := 892) rfl rfl)⟩
set_option maxRecDepth 20000 in
theorem fl_RX10_19 : ab_F RX10 19 10 5 := ⟨RX10, TX10, 45, rfl, by decide, rfl, uw_10, Or.inl (ab_in (i := 893) rfl rfl)⟩
set_option maxRecDepth 20000 in
theorem fl_RX10_22 : ab_F RX10 22 10 6 := ⟨RX10, TX10, 45, rfl, by decide, rfl, uw_10, Or.inl (ab_in (i := 894) rfl rfl)⟩
set_option maxRecDepth 20000 in
theorem fl_RX10_25 : ab_F RX10 25 10 8 := ⟨RX10, TX10, 45, rfl, by decide, rfl, uw_10, Or.inl (ab_in (i := 896) rfl rfl)⟩
set_option maxRecDepth 20000 in
theorem fl_RX10_28 : ab_F RX10 28 10 9 := ⟨RX10, TX10, 45, rfl, by decide, rfl, uw_10, Or.inl (ab_in (i := 897) rfl rfl)⟩
set_option maxRecDepth 20000 in
theorem fl_RX10_31 : ab_F RX10 31 10 10 := ⟨RX10, TX10, 45, rfl, by decide, rfl, uw_10, Or.inl (ab_in (i := 898) rfl rfl)⟩
set_option maxRecDepth 20000 in
theorem fl_RX10_34 : ab_F RX10 34 10 11 := ⟨RX10, TX10, 45, rfl, by decide, rfl, uw_10, Or.inl (ab_in (i := 899) rfl rfl)⟩
set_option maxRecDepth 20000 in
theorem fl_RX10_37 : ab_F RX10 37 10 12 := ⟨RX10, TX10, 45, rfl, by decide, rfl, uw_10, Or.inl (ab_in (i := 900) rfl rfl)⟩
set_option maxRecDepth 20000 in
theorem fl_RX10_40 : ab_F RX10 40 10 14 := ⟨RX10, TX10, 45, rfl, by decide, rfl, uw_10, Or.inl (ab_in (i := 902) rfl rfl)⟩
set_option maxRecDepth 20000 in
theorem fl_RX10_43 : ab_F RX10 43 10 16 := ⟨RX10, TX10, 45, rfl, by decide, rfl, uw_10, Or.inl (ab_in (i := 904) rfl rfl)⟩
set_option maxRecDepth 20000 in
theorem fl_RX10_47 : ab_F RX10 47 10 21 := ⟨RX10, TX10, 45, rfl, by decide, rfl, uw_10, Or.inl (ab_in (i := 909) rfl rfl)⟩
set_option maxRecDepth 20000 in
theorem fl_RX10_50 : ab_F RX10 50 10 22 := ⟨RX10, TX10, 45, rfl, by decide, rfl, uw_10, Or.inl (ab_in (i := 910) rfl rfl)⟩
set_option maxRecDepth 20000 in
theorem fl_RX10_53 : ab_F RX10 53 10 23 := ⟨RX10, TX10, 45, rfl, by decide, rfl, uw_10, Or.inl (ab_in (i := 911) rfl rfl)⟩
set_option maxRecDepth 20000 in
theorem fl_RX10_56 : ab_F RX10 56 10 25 := ⟨RX10, TX10, 45, rfl, by decide, rfl, uw_10, Or.inl (ab_in (i := 913) rfl rfl)⟩
set_option maxRecDepth 20000 in
theorem fl_RX10_59 : ab_F RX10 59 10 26 := ⟨RX10, TX10, 45, rfl, by decide, rfl, uw_10, Or.inl (ab_in (i := 914) rfl rfl)⟩
set_option maxRecDepth 20000 in
theorem fl_RX10_62 : ab_F RX10 62 10 27 := ⟨RX10, TX10, 45, rfl, by decide, rfl, uw_10, Or.inl (ab_in (i := 915) rfl rfl)⟩
set_option maxRecDepth 20000 in
theorem fl_RX10_65 : ab_F RX10 65 10 29 := ⟨RX10, TX10, 45, rfl, by decide, rfl, uw_10, Or.inl (ab_in (i := 917) rfl rfl)⟩
set_option maxRecDepth 20000 in
theorem fl_RX10_68 : ab_F RX10 68 10 30 := ⟨RX10, TX10, 45, rfl, by decide, rfl, uw_10, Or.inl (ab_in (i := 918) rfl rfl)⟩
set_option maxRecDepth 20000 in
theorem fl_RX10_71 : ab_F RX10 71 10 31 := ⟨RX10, TX10, 45, rfl, by decide, rfl, uw_10, Or.inl (ab_in (i := 919) rfl rfl)⟩
set_option maxRecDepth 20000 in
theorem fl_RX10_74 : ab_F RX10 74 10 32 := ⟨RX10, TX10, 45, rfl, by decide, rfl, uw_10, Or.inl (ab_in (i := 920) rfl rfl)⟩
set_option maxRecDepth 20000 in
theorem fl_RX10_77 : ab_F RX10 77 10 34 := ⟨RX10, TX10, 45, rfl, by decide, rfl, uw_10, Or.inl (ab_in (i := 922) rfl rfl)⟩
set_option maxRecDepth 20000 in
theorem fl_RX10_80 : ab_F RX10 80 10 38 := ⟨RX10, TX10, 45, rfl, by decide, rfl, uw_10, Or.inl (ab_in (i := 926) rfl rfl)⟩
set_option maxRecDepth 20000 in
theorem fl_RX10_83 : ab_F RX10 83 10 39 := ⟨RX10, TX10, 45, rfl, by decide, rfl, uw_10, Or.inl (ab_in (i := 927) rfl rfl)⟩
set_option maxRecDepth 20000 in
theorem fl_RX10_86 : ab_F RX10 86 10 41 := ⟨RX10, TX10, 45, rfl, by decide, rfl, uw_10, Or.inl (ab_in (i := 929) rfl rfl)⟩
set_option maxRecDepth 20000 in
theorem fl_RX10_89 : ab_F RX10 89 10 42 := ⟨RX10, TX10, 45, rfl, by decide, rfl, uw_10, Or.inl (ab_in (i := 930) rfl rfl)⟩
set_option maxRecDepth 20000 in
theorem fl_RX10_92 : ab_F RX10 92 10 43 := ⟨RX10, TX10, 45, rfl, by decide, rfl, uw_10, Or.inl (ab_in (i := 931) rfl rfl)⟩
set_option maxRecDepth 20000 in
theorem fl_RX10_95 : ab_F RX10 95 10 44 := ⟨RX10, TX10, 45, rfl, by decide, rfl, uw_10, Or.inl (ab_in (i := 932) rfl rfl)⟩
set_option maxRecDepth 20000 in
theorem fl_RX10_99 : ab_F RX10 99 10 0 := ⟨RX10, TX10, 45, rfl, by decide, rfl, uw_10, Or.inl (ab_in (i := 888) rfl rfl)⟩
set_option maxRecDepth 20000 in
theorem fl_RX10_113 : ab_F RX10 113 10 15 := ⟨RX10, TX10, 45, rfl, by decide, rfl, uw_10, Or.inl (ab_in (i := 903) rfl rfl)⟩
set_option maxRecDepth 20000 in
theorem fl_RX10_117 : ab_F RX10 117 10 17 := ⟨RX10, TX10, 45, rfl, by decide, rfl, uw_10, Or.inl (ab_in (i := 905) rfl rfl)⟩
set_option maxRecDepth 20000 in
theorem fl_RX10_132 : ab_F RX10 132 10 19 := ⟨RX10, TX10, 45, rfl, by decide, rfl, uw_10, Or.inl (ab_in (i := 907) rfl rfl)⟩
set_option maxRecDepth 20000 in
theorem fl_RX10_135 : ab_F RX10 135 10 18 := ⟨RX10, TX10, 45, rfl, by decide, rfl, uw_10, Or.inl (ab_in (i := 906) rfl rfl)⟩
set_option maxRecDepth 20000 in
theorem fl_RX10_141 : ab_F RX10 141 10 20 := ⟨RX10, TX10, 45, rfl, by decide, rfl, uw_10, Or.inl (ab_in (i := 908) rfl rfl)⟩
set_option maxRecDepth 20000 in
theorem fl_RX10_148 : ab_F RX10 148 10 24 := ⟨RX10, TX10, 45, rfl, by decide, rfl, uw_10, Or.inl (ab_in (i := 912) rfl rfl)⟩
set_option maxRecDepth 20000 in
theorem fl_RX10_151 : ab_F RX10 151 10 28 := ⟨RX10, TX10, 45, rfl, by decide, rfl, uw_10, Or.inl (ab_in (i := 916) rfl rfl)⟩
set_option maxRecDepth 20000 in
theorem fl_RX10_166 : ab_F RX10 166 10 3 := ⟨RX10, TX10, 45, rfl, by decide, rfl, uw_10, Or.inl (ab_in (i := 891) rfl rfl)⟩
set_option maxRecDepth 20000 in
theorem fl_RX10_169 : ab_F RX10 169 10 7 := ⟨RX10, TX10, 45, rfl, by decide, rfl, uw_10, Or.inl (ab_in (i := 895) rfl rfl)⟩
set_option maxRecDepth 20000 in
theorem fl_RX10_178 : ab_F RX10 178 10 37 := ⟨RX10, TX10, 45, rfl, by decide, rfl, uw_10, Or.inl (ab_in (i := 925) rfl rfl)⟩
set_option maxRecDepth 20000 in
theorem fl_RX10_181 : ab_F RX10 181 10 40 := ⟨RX10, TX10, 45, rfl, by decide, rfl, uw_10, Or.inl (ab_in (i := 928) rfl rfl)⟩
set_option maxRecDepth 20000 in
theorem fl_RX10_184 : ab_F RX10 184 10 33 := ⟨RX10, TX10, 45, rfl, by decide, rfl, uw_10, Or.inl (ab_in (i := 921) rfl rfl)⟩
set_option maxRecDepth 20000 in
theorem fl_RX10_234 : ab_F RX10 234 10 13 := ⟨RX10, TX10, 45, rfl, by decide, rfl, uw_10, Or.inl (ab_in (i := 901) rfl rfl)⟩
set_option maxRecDepth 20000 in
theorem fl_RX10_266 : ab_F RX10 266 10 35 := ⟨RX10, TX10, 45, rfl, by decide, rfl, uw_10, Or.inl (ab_in (i := 923) rfl rfl)⟩
set_option maxRecDepth 20000 in
theorem fl_RX10_285 : ab_F RX10 285 10 36 := ⟨RX10, TX10, 45, rfl, by decide, rfl, uw_10, Or.inl (ab_in (i := 924) rfl rfl)⟩
set_option maxRecDepth 20000 in
theorem fl_RX2_9 : ab_F RX2 9 2 0 := ⟨RX2, TX2, 2, rfl, by decide, rfl, uw_2, Or.inl (ab_in (i := 91) rfl rfl)⟩
set_option maxRecDepth 20000 in
theorem fl_RX2_15 : ab_F RX2 15 2 1 := ⟨RX2, TX2, 2, rfl, by decide, rfl, uw_2, Or.inl (ab_in (i := 92) rfl rfl)⟩
set_option maxRecDepth 20000 in
theorem fl_RX3_9 : ab_F RX3 9 3 0 := ⟨RX3, TX3, 6, rfl, by decide, rfl, uw_3, Or.inl (ab_in (i := 243) rfl rfl)⟩
set_option maxRecDepth 20000 in
theorem fl_RX3_15 : ab_F RX3 15 3 1 := ⟨RX3, TX3, 6, rfl, by decide, rfl, uw_3, Or.inl (ab_in (i := 244) rfl rfl)⟩
set_option maxRecDepth 20000 in
theorem fl_RX3_18 : ab_F RX3 18 3 2 := ⟨RX3, TX3, 6, rfl, by decide, rfl, uw_3, Or.inl (ab_in (i := 245) rfl rfl)⟩
set_option maxRecDepth 20000 in
theorem fl_RX3_21 : ab_F RX3 21 3 3 := ⟨RX3, TX3, 6, rfl, by decide, rfl, uw_3, Or.inl (ab_in (i := 246) rfl rfl)⟩
set_option maxRecDepth 20000 in
theorem fl_RX3_24 : ab_F RX3 24 3 4 := ⟨RX3, TX3, 6, rfl, by decide, rfl, uw_3, Or.inl (ab_in (i := 247) rfl rfl)⟩
set_option maxRecDepth 20000 in
theorem fl_RX3_28 : ab_F RX3 28 3 5 := ⟨RX3, TX3, 6, rfl, by decide, rfl, uw_3, Or.inl (ab_in (i := 249) rfl rfl)⟩
set_option maxRecDepth 20000 in
theorem fl_RX3_31 : ab_F RX3 31 5 0 := ⟨RX5, TX5, 13, rfl, by decide, rfl, uw_5, Or.inr ⟨"LimbMeasures", ab_iu (i := 111) rfl rfl⟩⟩
set_option maxRecDepth 20000 in
theorem fl_RX4_11 : ab_F RX4 11 4 0 := ⟨RX4, TX4, 5, rfl, by decide, rfl, uw_4, Or.inl (ab_in (i := 220) rfl rfl)⟩
set_option maxRecDepth 20000 in
theorem fl_RX4_17 : ab_F RX4 17 4 1 := ⟨RX4, TX4, 5, rfl, by decide, rfl, uw_4, Or.inl (ab_in (i := 221) rfl rfl)⟩
set_option maxRecDepth 20000 in
theorem fl_RX4_20 : ab_F RX4 20 4 3 := ⟨RX4, TX4, 5, rfl, by decide, rfl, uw_4, Or.inl (ab_in (i := 223) rfl rfl)⟩
set_option maxRecDepth 20000 in
theorem fl_RX4_24 : ab_F RX4 24 4 2 := ⟨RX4, TX4, 5, rfl, by decide, rfl, uw_4, Or.inl (ab_in (i := 222) rfl rfl)⟩
set_option maxRecDepth 20000 in
theorem fl_RX4_27 : ab_F RX4 27 8 0 := ⟨RX8, TX8, 1, rfl, by decide, rfl, uw_8, Or.inr ⟨"LimbMeasures", ab_iu (i := 210) rfl rfl⟩⟩
set_option maxRecDepth 20000 in
theorem fl_RX4_40 : ab_F RX4 40 4 4 := ⟨RX4, TX4, 5, rfl, by decide, rfl, uw_4, Or.inl (ab_in (i := 225) rfl rfl)⟩
set_option maxRecDepth 20000 in
theorem fl_RX5_9 : ab_F RX5 9 5 3 := ⟨RX5, TX5, 13, rfl, by decide, rfl, uw_5, Or.inl (ab_in (i := 120) rfl rfl)⟩
set_option maxRecDepth 20000 in
theorem fl_RX5_15 : ab_F RX5 15 5 4 := ⟨RX5, TX5, 13, rfl, by decide, rfl, uw_5, Or.inl (ab_in (i := 122) rfl rfl)⟩
set_option maxRecDepth 20000 in
theorem fl_RX5_18 : ab_F RX5 18 5 5 := ⟨RX5, TX5, 13, rfl, by decide, rfl, uw_5, Or.inl (ab_in (i := 123) rfl rfl)⟩
set_option maxRecDepth 20000 in
theorem fl_RX5_21 : ab_F RX5 21 5 6 := ⟨RX5, TX5, 13, rfl, by decide, rfl, uw_5, Or.inl (ab_in (i := 127) rfl rfl)⟩
set_option maxRecDepth 20000 in
theorem fl_RX5_24 : ab_F RX5 24 5 7 := ⟨RX5, TX5, 13, rfl, by decide, rfl, uw_5, Or.inl (ab_in (i := 130) rfl rfl)⟩
set_option maxRecDepth 20000 in
theorem fl_RX5_27 : ab_F RX5 27 5 8 := ⟨RX5, TX5, 13, rfl, by decide, rfl, uw_5, Or.inl (ab_in (i := 133) rfl rfl)⟩
set_option maxRecDepth 20000 in
theorem fl_RX5_30 : ab_F RX5 30 5 9 := ⟨RX5, TX5, 13, rfl, by decide, rfl, uw_5, Or.inl (ab_in (i := 136) rfl rfl)⟩
set_option maxRecDepth 20000 in
theorem fl_RX5_33 : ab_F RX5 33 5 10 := ⟨RX5, TX5, 13, rfl, by decide, rfl, uw_5, Or.inl (ab_in (i := 139) rfl rfl)⟩
set_option maxRecDepth 20000 in
theorem fl_RX5_36 : ab_F RX5 36 5 11 := ⟨RX5, TX5, 13, rfl, by decide, rfl, uw_5, Or.inl (ab_in (i := 142) rfl rfl)⟩
set_option maxRecDepth 20000 in
theorem fl_RX5_39 : ab_F RX5 39 5 12 := ⟨RX5, TX5, 13, rfl, by decide, rfl, uw_5, Or.inl (ab_in (i := 145) rfl rfl)⟩
set_option maxRecDepth 20000 in
theorem fl_RX5_42 : ab_F RX5 42 5 0 := ⟨RX5, TX5, 13, rfl, by decide, rfl, uw_5, Or.inl (ab_in (i := 106) rfl rfl)⟩
set_option maxRecDepth 20000 in
theorem fl_RX5_46 : ab_F RX5 46 5 1 := ⟨RX5, TX5, 13, rfl, by decide, rfl, uw_5, Or.inl (ab_in (i := 112) rfl rfl)⟩
set_option maxRecDepth 20000 in
theorem fl_RX5_49 : ab_F RX5 49 5 2 := ⟨RX5, TX5, 13, rfl, by decide, rfl, uw_5, Or.inl (ab_in (i := 116) rfl rfl)⟩
set_option maxRecDepth 20000 in
theorem fl_RX6_12 : ab_F RX6 12 6 0 := ⟨RX6, TX6, 7, rfl, by decide, rfl, uw_6, Or.inl (ab_in (i := 175) rfl rfl)⟩
set_option maxRecDepth 20000 in
theorem fl_RX6_21 : ab_F RX6 21 6 1 := ⟨RX6, TX6, 7, rfl, by decide, rfl, uw_6, Or.inl (ab_in (i := 177) rfl rfl)⟩
set_option maxRecDepth 20000 in
theorem fl_RX6_25 : ab_F RX6 25 6 2 := ⟨RX6, TX6, 7, rfl, by decide, rfl, uw_6, Or.inl (ab_in (i := 179) rfl rfl)⟩
set_option maxRecDepth 20000 in
theorem fl_RX6_29 : ab_F RX6 29 6 3 := ⟨RX6, TX6, 7, rfl, by decide, rfl, uw_6, Or.inl (ab_in (i := 180) rfl rfl)⟩
set_option maxRecDepth 20000 in
theorem fl_RX6_76 : ab_F RX6 76 5 0 := ⟨RX5, TX5, 13, rfl, by decide, rfl, uw_5, Or.inr ⟨"LimbMeasures", ab_iu (i := 110) rfl rfl⟩⟩
set_option maxRecDepth 20000 in
theorem fl_RX6_79 : ab_F RX6 79 5 1 := ⟨RX5, TX5, 13, rfl, by decide, rfl, uw_5, Or.inr ⟨"LimbMeasures", ab_iu (i := 113) rfl rfl⟩⟩
set_option maxRecDepth 20000 in
theorem fl_RX6_82 : ab_F RX6 82 5 2 := ⟨RX5, TX5, 13, rfl, by decide, rfl, uw_5, Or.inr ⟨"LimbMeasures", ab_iu (i := 118) rfl rfl⟩⟩
set_option maxRecDepth 20000 in
theorem fl_RX6_111 : ab_F RX6 111 5 5 := ⟨RX5, TX5, 13, rfl, by decide, rfl, uw_5, Or.inr ⟨"LimbMeasures", ab_iu (i := 125) rfl rfl⟩⟩
set_option maxRecDepth 20000 in
theorem fl_RX6_114 : ab_F RX6 114 6 4 := ⟨RX6, TX6, 7, rfl, by decide, rfl, uw_6, Or.inl (ab_in (i := 181) rfl rfl)⟩
set_option maxRecDepth 20000 in
theorem fl_RX7_11 : ab_F RX7 11 7 0 := ⟨RX7, TX7, 2, rfl, by decide, rfl, uw_7, Or.inl (ab_in (i := 303) rfl rfl)⟩
set_option maxRecDepth 20000 in
theorem fl_RX7_15 : ab_F RX7 15 7 1 := ⟨RX7, TX7, 2, rfl, by decide, rfl, uw_7, Or.inl (ab_in (i := 305) rfl rfl)⟩
set_option maxRecDepth 20000 in
theorem fl_RX7_23 : ab_F RX7 23 5 2 := ⟨RX5, TX5, 13, rfl, by decide, rfl, uw_5, Or.inr ⟨"LimbMeasures", ab_iu (i := 117) rfl rfl⟩⟩
set_option maxRecDepth 20000 in
theorem fl_RX7_28 : ab_F RX7 28 5 9 := ⟨RX5, TX5, 13, rfl, by decide, rfl, uw_5, Or.inr ⟨"LimbMeasures", ab_iu (i := 137) rfl rfl⟩⟩
set_option maxRecDepth 20000 in
theorem fl_RX7_31 : ab_F RX7 31 5 10 := ⟨RX5, TX5, 13, rfl, by decide, rfl, uw_5, Or.inr ⟨"LimbMeasures", ab_iu (i := 140) rfl rfl⟩⟩
set_option maxRecDepth 20000 in
theorem fl_RX7_34 : ab_F RX7 34 5 11 := ⟨RX5, TX5, 13, rfl, by decide, rfl, uw_5, Or.inr ⟨"LimbMeasures", ab_iu (i := 143) rfl rfl⟩⟩
set_option maxRecDepth 20000 in
theorem fl_RX7_37 : ab_F RX7 37 5 12 := ⟨RX5, TX5, 13, rfl, by decide, rfl, uw_5, Or.inr ⟨"LimbMeasures", ab_iu (i := 146) rfl rfl⟩⟩
set_option maxRecDepth 20000 in
theorem fl_RX8_11 : ab_F RX8 11 8 0 := ⟨RX8, TX8, 1, rfl, by decide, rfl, uw_8, Or.inl (ab_in (i := 209) rfl rfl)⟩
set_option maxRecDepth 20000 in
theorem fl_RX8_15 : ab_F RX8 15 5 3 := ⟨RX5, TX5, 13, rfl, by decide, rfl, uw_5, Or.inr ⟨"LimbMeasures", ab_iu (i := 121) rfl rfl⟩⟩
set_option maxRecDepth 20000 in
theorem fl_RX8_26 : ab_F RX8 26 5 0 := ⟨RX5, TX5, 13, rfl, by decide, rfl, uw_5, Or.inr ⟨"LimbMeasures", ab_iu (i := 107) rfl rfl⟩⟩
set_option maxRecDepth 20000 in
theorem fl_RX8_47 : ab_F RX8 47 5 5 := ⟨RX5, TX5, 13, rfl, by decide, rfl, uw_5, Or.inr ⟨"LimbMeasures", ab_iu (i := 126) rfl rfl⟩⟩
set_option maxRecDepth 20000 in
theorem fl_RX8_53 : ab_F RX8 53 5 8 := ⟨RX5, TX5, 13, rfl, by decide, rfl, uw_5, Or.inr ⟨"LimbMeasures", ab_iu (i := 135) rfl rfl⟩⟩
set_option maxRecDepth 20000 in
theorem fl_RX8_56 : ab_F RX8 56 5 7 := ⟨RX5, TX5, 13, rfl, by decide, rfl, uw_5, Or.inr ⟨"LimbMeasures", ab_iu (i := 132) rfl rfl⟩⟩
set_option maxRecDepth 20000 in
theorem fl_RX8_63 : ab_F RX8 63 5 1 := ⟨RX5, TX5, 13, rfl, by decide, rfl, uw_5, Or.inr ⟨"LimbMeasures", ab_iu (i := 115) rfl rfl⟩⟩
set_option maxRecDepth 20000 in
theorem fl_RX8_66 : ab_F RX8 66 5 6 := ⟨RX5, TX5, 13, rfl, by decide, rfl, uw_5, Or.inr ⟨"LimbMeasures", ab_iu (i := 129) rfl rfl⟩⟩
set_option maxRecDepth 20000 in
theorem fl_RX9_10 : ab_F RX9 10 9 0 := ⟨RX9, TX9, 9, rfl, by decide, rfl, uw_9, Or.inl (ab_in (i := 332) rfl rfl)⟩
set_option maxRecDepth 20000 in
theorem fl_RX9_19 : ab_F RX9 19 9 1 := ⟨RX9, TX9, 9, rfl, by decide, rfl, uw_9, Or.inl (ab_in (i := 333) rfl rfl)⟩
set_option maxRecDepth 20000 in
theorem fl_RX9_26 : ab_F RX9 26 9 2 := ⟨RX9, TX9, 9, rfl, by decide, rfl, uw_9, Or.inl (ab_in (i := 334) rfl rfl)⟩
set_option maxRecDepth 20000 in
theorem fl_RX9_33 : ab_F RX9 33 9 3 := ⟨RX9, TX9, 9, rfl, by decide, rfl, uw_9, Or.inl (ab_in (i := 335) rfl rfl)⟩
set_option maxRecDepth 20000 in
theorem fl_RX9_40 : ab_F RX9 40 9 4 := ⟨RX9, TX9, 9, rfl, by decide, rfl, uw_9, Or.inl (ab_in (i := 336) rfl rfl)⟩
set_option maxRecDepth 20000 in
theorem fl_RX9_47 : ab_F RX9 47 9 5 := ⟨RX9, TX9, 9, rfl, by decide, rfl, uw_9, Or.inl (ab_in (i := 337) rfl rfl)⟩
set_option maxRecDepth 20000 in
theorem fl_RX9_54 : ab_F RX9 54 9 6 := ⟨RX9, TX9, 9, rfl, by decide, rfl, uw_9, Or.inl (ab_in (i := 338) rfl rfl)⟩
set_option maxRecDepth 20000 in
theorem fl_RX9_61 : ab_F RX9 61 9 7 := ⟨RX9, TX9, 9, rfl, by decide, rfl, uw_9, Or.inl (ab_in (i := 339) rfl rfl)⟩
set_option maxRecDepth 20000 in
theorem fl_RX9_65 : ab_F RX9 65 9 8 := ⟨RX9, TX9, 9, rfl, by decide, rfl, uw_9, Or.inl (ab_in (i := 340) rfl rfl)⟩
set_option maxRecDepth 20000 in
theorem fl_RX9_70 : ab_F RX9 70 6 0 := ⟨RX6, TX6, 7, rfl, by decide, rfl, uw_6, Or.inr ⟨"LimbMeasures", ab_iu (i := 176) rfl rfl⟩⟩
set_option maxRecDepth 20000 in
theorem fl_RX9_91 : ab_F RX9 91 6 6 := ⟨RX6, TX6, 7, rfl, by decide, rfl, uw_6, Or.inr ⟨"LimbMeasures", ab_iu (i := 185) rfl rfl⟩⟩
set_option maxRecDepth 20000 in
theorem fl_RX9_92 : ab_F RX9 92 6 5 := ⟨RX6, TX6, 7, rfl, by decide, rfl, uw_6, Or.inr ⟨"LimbMeasures", ab_iu (i := 183) rfl rfl⟩⟩
set_option maxRecDepth 20000 in
theorem fl_RX9_95 : ab_F RX9 95 6 1 := ⟨RX6, TX6, 7, rfl, by decide, rfl, uw_6, Or.inr ⟨"LimbMeasures", ab_iu (i := 178) rfl rfl⟩⟩
set_option maxRecDepth 20000 in
theorem fl_RX9_114 : ab_F RX9 114 5 0 := ⟨RX5, TX5, 13, rfl, by decide, rfl, uw_5, Or.inr ⟨"LimbMeasures", ab_iu (i := 109) rfl rfl⟩⟩
set_option maxRecDepth 20000 in
theorem fl_RX9_117 : ab_F RX9 117 5 1 := ⟨RX5, TX5, 13, rfl, by decide, rfl, uw_5, Or.inr ⟨"LimbMeasures", ab_iu (i := 114) rfl rfl⟩⟩
set_option maxRecDepth 20000 in
theorem fl_RX9_120 : ab_F RX9 120 5 2 := ⟨RX5, TX5, 13, rfl, by decide, rfl, uw_5, Or.inr ⟨"LimbMeasures", ab_iu (i := 119) rfl rfl⟩⟩
set_option maxRecDepth 20000 in
theorem fl_RX9_123 : ab_F RX9 123 2 1 := ⟨RX2, TX2, 2, rfl, by decide, rfl, uw_2, Or.inr ⟨"LimbMeasures", ab_iu (i := 93) rfl rfl⟩⟩
set_option maxRecDepth 20000 in
theorem fl_RX9_142 : ab_F RX9 142 3 4 := ⟨RX3, TX3, 6, rfl, by decide, rfl, uw_3, Or.inr ⟨"LimbMeasures", ab_iu (i := 248) rfl rfl⟩⟩
set_option maxRecDepth 20000 in
theorem fl_RX9_145 : ab_F RX9 145 3 5 := ⟨RX3, TX3, 6, rfl, by decide, rfl, uw_3, Or.inr ⟨"LimbMeasures", ab_iu (i := 250) rfl rfl⟩⟩
set_option maxRecDepth 20000 in
theorem fl_RX9_148 : ab_F RX9 148 4 3 := ⟨RX4, TX4, 5, rfl, by decide, rfl, uw_4, Or.inr ⟨"LimbMeasures", ab_iu (i := 224) rfl rfl⟩⟩
set_option maxRecDepth 20000 in
theorem fl_RX9_163 : ab_F RX9 163 5 5 := ⟨RX5, TX5, 13, rfl, by decide, rfl, uw_5, Or.inr ⟨"LimbMeasures", ab_iu (i := 124) rfl rfl⟩⟩
set_option maxRecDepth 20000 in
theorem fl_RX9_180 : ab_F RX9 180 5 6 := ⟨RX5, TX5, 13, rfl, by decide, rfl, uw_5, Or.inr ⟨"LimbMeasures", ab_iu (i := 128) rfl rfl⟩⟩
set_option maxRecDepth 20000 in
theorem fl_RX9_183 : ab_F RX9 183 5 7 := ⟨RX5, TX5, 13, rfl, by decide, rfl, uw_5, Or.inr ⟨"LimbMeasures", ab_iu (i := 131) rfl rfl⟩⟩
set_option maxRecDepth 20000 in
theorem fl_RX9_186 : ab_F RX9 186 5 8 := ⟨RX5, TX5, 13, rfl, by decide, rfl, uw_5, Or.inr ⟨"LimbMeasures", ab_iu (i := 134) rfl rfl⟩⟩
set_option maxRecDepth 20000 in
theorem fl_RX9_195 : ab_F RX9 195 5 9 := ⟨RX5, TX5, 13, rfl, by decide, rfl, uw_5, Or.inr ⟨"LimbMeasures", ab_iu (i := 138) rfl rfl⟩⟩
set_option maxRecDepth 20000 in
theorem fl_RX9_198 : ab_F RX9 198 5 10 := ⟨RX5, TX5, 13, rfl, by decide, rfl, uw_5, Or.inr ⟨"LimbMeasures", ab_iu (i := 141) rfl rfl⟩⟩
set_option maxRecDepth 20000 in
theorem fl_RX9_201 : ab_F RX9 201 5 11 := ⟨RX5, TX5, 13, rfl, by decide, rfl, uw_5, Or.inr ⟨"LimbMeasures", ab_iu (i := 144) rfl rfl⟩⟩
set_option maxRecDepth 20000 in
theorem fl_RX9_204 : ab_F RX9 204 5 12 := ⟨RX5, TX5, 13, rfl, by decide, rfl, uw_5, Or.inr ⟨"LimbMeasures", ab_iu (i := 147) rfl rfl⟩⟩
set_option maxRecDepth 20000 in
theorem fl_RX9_253 : ab_F RX9 253 0 5 := ⟨RX0, TX0, 8, rfl, by decide, rfl, uw_0, Or.inr ⟨"LimbMeasures", ab_iu (i := 277) rfl rfl⟩⟩
set_option maxRecDepth 20000 in
theorem fl_RX9_256 : ab_F RX9 256 0 4 := ⟨RX0, TX0, 8, rfl, by decide, rfl, uw_0, Or.inr ⟨"LimbMeasures", ab_iu (i := 275) rfl rfl⟩⟩
set_option maxRecDepth 20000 in
theorem fl_RX9_261 : ab_F RX9 261 7 1 := ⟨RX7, TX7, 2, rfl, by decide, rfl, uw_7, Or.inr ⟨"LimbMeasures", ab_iu (i := 306) rfl rfl⟩⟩
set_option maxRecDepth 20000 in
theorem fl_RX9_264 : ab_F RX9 264 7 0 := ⟨RX7, TX7, 2, rfl, by decide, rfl, uw_7, Or.inr ⟨"LimbMeasures", ab_iu (i := 304) rfl rfl⟩⟩
set_option maxRecDepth 20000 in
theorem fl_RX9_281 : ab_F RX9 281 1 1 := ⟨RX1, TX1, 4, rfl, by decide, rfl, uw_1, Or.inr ⟨"LimbMeasures", ab_iu (i := 320) rfl rfl⟩⟩
set_option maxRecDepth 20000 in
theorem gl_RX0_11 : ab_G RX0 "<init>" 11 0 0 1 := ⟨RX0, TX0, 8, tyX0, rfl, by decide, rfl, uw_0, tyX0_ok, nmX0, Or.inr ⟨by decide, Or.inl ⟨_, rfl⟩⟩, Or.inr ⟨rfl, rfl, rfl, ab_in (i := 270) rfl rfl⟩⟩
set_option maxRecDepth 20000 in
theorem gl_RX0_15 : ab_G RX0 "<init>" 15 0 1 1 := ⟨RX0, TX0, 8, tyX0, rfl, by decide, rfl, uw_0, tyX0_ok, nmX0, Or.inr ⟨by decide, Or.inl ⟨_, rfl⟩⟩, Or.inr ⟨rfl, rfl, rfl, ab_in (i := 271) rfl rfl⟩⟩
set_option maxRecDepth 20000 in
theorem gl_RX0_18 : ab_G RX0 "<init>" 18 0 2 1 := ⟨RX0, TX0, 8, tyX0, rfl, by decide, rfl, uw_0, tyX0_ok, nmX0, Or.inr ⟨by decide, Or.inl ⟨_, rfl⟩⟩, Or.inr ⟨rfl, rfl, rfl, ab_in (i := 272) rfl rfl⟩⟩
set_option maxRecDepth 20000 in
theorem gl_RX0_21 : ab_G RX0 "<init>" 21 0 3 1 := ⟨RX0, TX0, 8, tyX0, rfl, by decide, rfl, uw_0, tyX0_ok, nmX0, Or.inr ⟨by decide, Or.inl ⟨_, rfl⟩⟩, Or.inr ⟨rfl, rfl, rfl, ab_in (i := 273) rfl rfl⟩⟩
set_option maxRecDepth 20000 in
theorem gl_RX0_24 : ab_G RX0 "<init>" 24 0 4 1 := ⟨RX0, TX0, 8, tyX0, rfl, by decide, rfl, uw_0, tyX0_ok, nmX0, Or.inr ⟨by decide, Or.inl ⟨_, rfl⟩⟩, Or.inr ⟨rfl, rfl, rfl, ab_in (i := 274) rfl rfl⟩⟩
set_option maxRecDepth 20000 in
theorem gl_RX0_27 (nm : String) : ab_G RX0 nm 27 0 5 0 := ⟨RX0, TX0, 8, tyX0, rfl, by decide, rfl, uw_0, tyX0_ok, nmX0, Or.inl ⟨rfl, rfl⟩, Or.inl ⟨rfl, Or.inl (ab_in (i := 276) rfl rfl)⟩⟩
set_option maxRecDepth 20000 in
theorem gl_RX0_36 (nm : String) : ab_G RX0 nm 36 0 7 0 := ⟨RX0, TX0, 8, tyX0, rfl, by decide, rfl, uw_0, tyX0_ok, nmX0, Or.inl ⟨rfl, rfl⟩, Or.inl ⟨rfl, Or.inl (ab_in (i := 279) rfl rfl)⟩⟩
set_option maxRecDepth 20000 in
theorem gl_RX0_46 (nm : String) : ab_G RX0 nm 46 0 6 0 := ⟨RX0, TX0, 8, tyX0, rfl, by decide, rfl, uw_0, tyX0_ok, nmX0, Or.inl ⟨rfl, rfl⟩, Or.inl ⟨rfl, Or.inl (ab_in (i := 278) rfl rfl)⟩⟩
set_option maxRecDepth 20000 in
theorem gl_RX1_11 : ab_G RX1 "<init>" 11 1 0 1 := ⟨RX1, TX1, 4, tyX1, rfl, by decide, rfl, uw_1, tyX1_ok, nmX1, Or.inr ⟨by decide, Or.inl ⟨_, rfl⟩⟩, Or.inr ⟨rfl, rfl, rfl, ab_in (i := 318) rfl rfl⟩⟩
set_option maxRecDepth 20000 in
theorem gl_RX1_15 : ab_G RX1 "<init>" 15 1 1 1 := ⟨RX1, TX1, 4, tyX1, rfl, by decide, rfl, uw_1, tyX1_ok, nmX1, Or.inr ⟨by decide, Or.inl ⟨_, rfl⟩⟩, Or.inr ⟨rfl, rfl, rfl, ab_in (i := 319) rfl rfl⟩⟩
set_option maxRecDepth 20000 in
theorem gl_RX1_18 : ab_G RX1 "<init>" 18 1 2 1 := ⟨RX1, TX1, 4, tyX1, rfl, by decide, rfl, uw_1, tyX1_ok, nmX1, Or.inr ⟨by decide, Or.inl ⟨_, rfl⟩⟩, Or.inr ⟨rfl, rfl, rfl, ab_in (i := 321) rfl rfl⟩⟩
set_option maxRecDepth 20000 in
theorem gl_RX1_21 (nm : String) : ab_G RX1 nm 21 1 3 0 := ⟨RX1, TX1, 4, tyX1, rfl, by decide, rfl, uw_1, tyX1_ok, nmX1, Or.inl ⟨rfl, rfl⟩, Or.inl ⟨rfl, Or.inl (ab_in (i := 322) rfl rfl)⟩⟩
set_option maxRecDepth 20000 in
theorem gl_RX10_7 : ab_G RX10 "<init>" 7 10 1 1 := ⟨RX10, TX10, 45, tyX10, rfl, by decide, rfl, uw_10, tyX10_ok, nmX10, Or.inr ⟨by decide, Or.inl ⟨_, rfl⟩⟩, Or.inr ⟨rfl, rfl, rfl, ab_in (i := 889) rfl rfl⟩⟩
set_option maxRecDepth 20000 in
theorem gl_RX10_13 : ab_G RX10 "<init>" 13 10 2 1 := ⟨RX10, TX10, 45, tyX10, rfl, by decide, rfl, uw_10, tyX10_ok, nmX10, Or.inr ⟨by decide, Or.inl ⟨_, rfl⟩⟩, Or.inr ⟨rfl, rfl, rfl, ab_in (i := 890) rfl rfl⟩⟩
set_option maxRecDepth 20000 in
theorem gl_RX10_16 : ab_G RX10 "<init>" 16 10 4 1 := ⟨RX10, TX10, 45, tyX10, rfl, by decide, rfl, uw_10, tyX10_ok, nmX10, Or.inr ⟨by decide, Or.inl ⟨_, rfl⟩⟩, Or.inr ⟨rfl, rfl, rfl, ab_in (i := 892) rfl rfl⟩⟩
set_option maxRecDepth 20000 in
theorem gl_RX10_19 : ab_G RX10 "<init>" 19 10 5 1 := ⟨RX10, TX10, 45, tyX10, rfl, by decide, rfl, uw_10, tyX10_ok, nmX10, Or.inr ⟨by decide, Or.inl ⟨_, rfl⟩⟩, Or.inr ⟨rfl, rfl, rfl, ab_in (i := 893) rfl rfl⟩⟩
set_option maxRecDepth 20000 in
theorem gl_RX10_22 : ab_G RX10 "<init>" 22 10 6 1 := ⟨RX10, TX10, 45, tyX10, rfl, by decide, rfl, uw_10, tyX10_ok, nmX10, Or.inr ⟨by decide, Or.inl ⟨_, rfl⟩⟩, Or.inr ⟨rfl, rfl, rfl, ab_in (i := 894) rfl rfl⟩⟩
set_option maxRecDepth 20000 in
theorem gl_RX10_25 : ab_G RX10 "<init>" 25 10 8 1 := ⟨RX10, TX10, 45, tyX10, rfl, by decide, rfl, uw_10, tyX10_ok, nmX10, Or.inr ⟨by decide, Or.inl ⟨_, rfl⟩⟩, Or.inr ⟨rfl, rfl, rfl, ab_in (i := 896) rfl rfl⟩⟩
set_option maxRecDepth 20000 in
theorem gl_RX10_28 : ab_G RX10 "<init>" 28 10 9 1 := ⟨RX10, TX10, 45, tyX10, rfl, by decide, rfl, uw_10, tyX10_ok, nmX10, Or.inr ⟨by decide, Or.inl ⟨_, rfl⟩⟩, Or.inr ⟨rfl, rfl, rfl, ab_in (i := 897) rfl rfl⟩⟩
set_option maxRecDepth 20000 in
theorem gl_RX10_31 : ab_G RX10 "<init>" 31 10 10 1 := ⟨RX10, TX10, 45, tyX10, rfl, by decide, rfl, uw_10, tyX10_ok, nmX10, Or.inr ⟨by decide, Or.inl ⟨_, rfl⟩⟩, Or.inr ⟨rfl, rfl, rfl, ab_in (i := 898) rfl rfl⟩⟩
set_option maxRecDepth 20000 in
theorem gl_RX10_34 : ab_G RX10 "<init>" 34 10 11 1 := ⟨RX10, TX10, 45, tyX10, rfl, by decide, rfl, uw_10, tyX10_ok, nmX10, Or.inr ⟨by decide, Or.inl ⟨_, rfl⟩⟩, Or.inr ⟨rfl, rfl, rfl, ab_in (i := 899) rfl rfl⟩⟩
set_option maxRecDepth 20000 in
theorem gl_RX10_37 : ab_G RX10 "<init>" 37 10 12 1 := ⟨RX10, TX10, 45, tyX10, rfl, by decide, rfl, uw_10, tyX10_ok, nmX10, Or.inr ⟨by decide, Or.inl ⟨_, rfl⟩⟩, Or.inr ⟨rfl, rfl, rfl, ab_in (i := 900) rfl rfl⟩⟩
set_option maxRecDepth 20000 in
theorem gl_RX10_40 : ab_G RX10 "<init>" 40 10 14 1 := ⟨RX10, TX10, 45, tyX10, rfl, by decide, rfl, uw_10, tyX10_ok, nmX10, Or.inr ⟨by decide, Or.inl ⟨_, rfl⟩⟩, Or.inr ⟨rfl, rfl, rfl, ab_in (i := 902) rfl rfl⟩⟩
set_option maxRecDepth 20000 in
theorem gl_RX10_43 (nm : String) : ab_G RX10 nm 43 10 16 0 := ⟨RX10, TX10, 45, tyX10, rfl, by decide, rfl, uw_10, tyX10_ok, nmX10, Or.inl ⟨rfl, rfl⟩, Or.inl ⟨rfl, Or.inl (ab_in (i := 904) rfl rfl)⟩⟩
set_option maxRecDepth 20000 in
theorem gl_RX10_47 : ab_G RX10 "<init>" 47 10 21 1 := ⟨RX10, TX10, 45, tyX10, rfl, by decide, rfl, uw_10, tyX10_ok, nmX10, Or.inr ⟨by decide, Or.inl ⟨_, rfl⟩⟩, Or.inr ⟨rfl, rfl, rfl, ab_in (i := 909) rfl rfl⟩⟩
set_option maxRecDepth 20000 in
theorem gl_RX10_50 : ab_G RX10 "<init>" 50 10 22 1 := ⟨RX10, TX10, 45, tyX10, rfl, by decide, rfl, uw_10, tyX10_ok, nmX10, Or.inr ⟨by decide, Or.inl ⟨_, rfl⟩⟩, Or.inr ⟨rfl, rfl, rfl, ab_in (i := 910) rfl rfl⟩⟩
set_option maxRecDepth 20000 in
theorem gl_RX10_53 : ab_G RX10 "<init>" 53 10 23 1 := ⟨RX10, TX10, 45, tyX10, rfl, by decide, rfl, uw_10, tyX10_ok, nmX10, Or.inr ⟨by decide, Or.inl ⟨_, rfl⟩⟩, Or.inr ⟨rfl, rfl, rfl, ab_in (i := 911) rfl rfl⟩⟩
set_option maxRecDepth 20000 in
theorem gl_RX10_56 : ab_G RX10 "<init>" 56 10 25 1 := ⟨RX10, TX10, 45, tyX10, rfl, by decide, rfl, uw_10, tyX10_ok, nmX10, Or.inr ⟨by decide, Or.inl ⟨_, rfl⟩⟩, Or.inr ⟨rfl, rfl, rfl, ab_in (i := 913) rfl rfl⟩⟩
set_option maxRecDepth 20000 in
theorem gl_RX10_59 : ab_G RX10 "<init>" 59 10 26 1 := ⟨RX10, TX10, 45, tyX10, rfl, by decide, rfl, uw_10, tyX10_ok, nmX10, Or.inr ⟨by decide, Or.inl ⟨_, rfl⟩⟩, Or.inr ⟨rfl, rfl, rfl, ab_in (i := 914) rfl rfl⟩⟩
set_option maxRecDepth 20000 in
theorem gl_RX10_62 : ab_G RX10 "<init>" 62 10 27 1 := ⟨RX10, TX10, 45, tyX10, rfl, by decide, rfl, uw_10, tyX10_ok, nmX10, Or.inr ⟨by decide, Or.inl ⟨_, rfl⟩⟩, Or.inr ⟨rfl, rfl, rfl, ab_in (i := 915) rfl rfl⟩⟩
set_option maxRecDepth 20000 in
theorem gl_RX10_65 : ab_G RX10 "<init>" 65 10 29 1 := ⟨RX10, TX10, 45, tyX10, rfl, by decide, rfl, uw_10, tyX10_ok, nmX10, Or.inr ⟨by decide, Or.inl ⟨_, rfl⟩⟩, Or.inr ⟨rfl, rfl, rfl, ab_in (i := 917) rfl rfl⟩⟩
set_option maxRecDepth 20000 in
theorem gl_RX10_68 : ab_G RX10 "<init>" 68 10 30 1 := ⟨RX10, TX10, 45, tyX10, rfl, by decide, rfl, uw_10, tyX10_ok, nmX10, Or.inr ⟨by decide, Or.inl ⟨_, rfl⟩⟩, Or.inr ⟨rfl, rfl, rfl, ab_in (i := 918) rfl rfl⟩⟩
set_option maxRecDepth 20000 in
theorem gl_RX10_71 : ab_G RX10 "<init>" 71 10 31 1 := ⟨RX10, TX10, 45, tyX10, rfl, by decide, rfl, uw_10, tyX10_ok, nmX10, Or.inr ⟨by decide, Or.inl ⟨_, rfl⟩⟩, Or.inr ⟨rfl, rfl, rfl, ab_in (i := 919) rfl rfl⟩⟩
set_option maxRecDepth 20000 in
theorem gl_RX10_74 : ab_G RX10 "<init>" 74 10 32 1 := ⟨RX10, TX10, 45, tyX10, rfl, by decide, rfl, uw_10, tyX10_ok, nmX10, Or.inr ⟨by decide, Or.inl ⟨_, rfl⟩⟩, Or.inr ⟨rfl, rfl, rfl, ab_in (i := 920) rfl rfl⟩⟩
set_option maxRecDepth 20000 in
theorem gl_RX10_77 : ab_G RX10 "<init>" 77 10 34 1 := ⟨RX10, TX10, 45, tyX10, rfl, by decide, rfl, uw_10, tyX10_ok, nmX10, Or.inr ⟨by decide, Or.inl ⟨_, rfl⟩⟩, Or.inr ⟨rfl, rfl, rfl, ab_in (i := 922) rfl rfl⟩⟩
set_option maxRecDepth 20000 in
theorem gl_RX10_80 : ab_G RX10 "<init>" 80 10 38 1 := ⟨RX10, TX10, 45, tyX10, rfl, by decide, rfl, uw_10, tyX10_ok, nmX10, Or.inr ⟨by decide, Or.inl ⟨_, rfl⟩⟩, Or.inr ⟨rfl, rfl, rfl, ab_in (i := 926) rfl rfl⟩⟩
set_option maxRecDepth 20000 in
theorem gl_RX10_83 : ab_G RX10 "<init>" 83 10 39 1 := ⟨RX10, TX10, 45, tyX10, rfl, by decide, rfl, uw_10, tyX10_ok, nmX10, Or.inr ⟨by decide, Or.inl ⟨_, rfl⟩⟩, Or.inr ⟨rfl, rfl, rfl, ab_in (i := 927) rfl rfl⟩⟩
set_option maxRecDepth 20000 in
theorem gl_RX10_86 : ab_G RX10 "<init>" 86 10 41 1 := ⟨RX10, TX10, 45, tyX10, rfl, by decide, rfl, uw_10, tyX10_ok, nmX10, Or.inr ⟨by decide, Or.inl ⟨_, rfl⟩⟩, Or.inr ⟨rfl, rfl, rfl, ab_in (i := 929) rfl rfl⟩⟩
set_option maxRecDepth 20000 in
theorem gl_RX10_89 : ab_G RX10 "<init>" 89 10 42 1 := ⟨RX10, TX10, 45, tyX10, rfl, by decide, rfl, uw_10, tyX10_ok, nmX10, Or.inr ⟨by decide, Or.inl ⟨_, rfl⟩⟩, Or.inr ⟨rfl, rfl, rfl, ab_in (i := 930) rfl rfl⟩⟩
set_option maxRecDepth 20000 in
theorem gl_RX10_92 : ab_G RX10 "<init>" 92 10 43 1 := ⟨RX10, TX10, 45, tyX10, rfl, by decide, rfl, uw_10, tyX10_ok, nmX10, Or.inr ⟨by decide, Or.inl ⟨_, rfl⟩⟩, Or.inr ⟨rfl, rfl, rfl, ab_in (i := 931) rfl rfl⟩⟩
set_option maxRecDepth 20000 in
theorem gl_RX10_95 : ab_G RX10 "<init>" 95 10 44 1 := ⟨RX10, TX10, 45, tyX10, rfl, by decide, rfl, uw_10, tyX10_ok, nmX10, Or.inr ⟨by decide, Or.inl ⟨_, rfl⟩⟩, Or.inr ⟨rfl, rfl, rfl, ab_in (i := 932) rfl rfl⟩⟩
set_option maxRecDepth 20000 in
theorem gl_RX10_99 (nm : String) : ab_G RX10 nm 99 10 0 0 := ⟨RX10, TX10, 45, tyX10, rfl, by decide, rfl, uw_10, tyX10_ok, nmX10, Or.inl ⟨rfl, rfl⟩, Or.inl ⟨rfl, Or.inl (ab_in (i := 888) rfl rfl)⟩⟩
set_option maxRecDepth 20000 in
theorem gl_RX10_113 (nm : String) : ab_G RX10 nm 113 10 15 0 := ⟨RX10, TX10, 45, tyX10, rfl, by decide, rfl, uw_10, tyX10_ok, nmX10, Or.inl ⟨rfl, rfl⟩, Or.inl ⟨rfl, Or.inl (ab_in (i := 903) rfl rfl)⟩⟩
set_option maxRecDepth 20000 in
theorem gl_RX10_117 (nm : String) : ab_G RX10 nm 117 10 17 0 := ⟨RX10, TX10, 45, tyX10, rfl, by decide, rfl, uw_10, tyX10_ok, nmX10, Or.inl ⟨rfl, rfl⟩, Or.inl ⟨rfl, Or.inl (ab_in (i := 905) rfl rfl)⟩⟩
set_option maxRecDepth 20000 in
theorem gl_RX10_132 (nm : String) : ab_G RX10 nm 132 10 19 0 := ⟨RX10, TX10, 45, tyX10, rfl, by decide, rfl, uw_10, tyX10_ok, nmX10, Or.inl ⟨rfl, rfl⟩, Or.inl ⟨rfl, Or.inl (ab_in (i := 907) rfl rfl)⟩⟩
set_option maxRecDepth 20000 in
theorem gl_RX10_135 (nm : String) : ab_G RX10 nm 135 10 18 0 := ⟨RX10, TX10, 45, tyX10, rfl, by decide, rfl, uw_10, tyX10_ok, nmX10, Or.inl ⟨rfl, rfl⟩, Or.inl ⟨rfl, Or.inl (ab_in (i := 906) rfl rfl)⟩⟩
set_option maxRecDepth 20000 in
theorem gl_RX10_141 (nm : String) : ab_G RX10 nm 141 10 20 0 := ⟨RX10, TX10, 45, tyX10, rfl, by decide, rfl, uw_10, tyX10_ok, nmX10, Or.inl ⟨rfl, rfl⟩, Or.inl ⟨rfl, Or.inl (ab_in (i := 908) rfl rfl)⟩⟩
set_option maxRecDepth 20000 in
theorem gl_RX10_148 (nm : String) : ab_G RX10 nm 148 10 24 0 := ⟨RX10, TX10, 45, tyX10, rfl, by decide, rfl, uw_10, tyX10_ok, nmX10, Or.inl ⟨rfl, rfl⟩, Or.inl ⟨rfl, Or.inl (ab_in (i := 912) rfl rfl)⟩⟩
set_option maxRecDepth 20000 in
theorem gl_RX10_151 (nm : String) : ab_G RX10 nm 151 10 28 0 := ⟨RX10, TX10, 45, tyX10, rfl, by decide, rfl, uw_10, tyX10_ok, nmX10, Or.inl ⟨rfl, rfl⟩, Or.inl ⟨rfl, Or.inl (ab_in (i := 916) rfl rfl)⟩⟩
set_option maxRecDepth 20000 in
theorem gl_RX10_166 (nm : String) : ab_G RX10 nm 166 10 3 0 := ⟨RX10, TX10, 45, tyX10, rfl, by decide, rfl, uw_10, tyX10_ok, nmX10, Or.inl ⟨rfl, rfl⟩, Or.inl ⟨rfl, Or.inl (ab_in (i := 891) rfl rfl)⟩⟩
set_option maxRecDepth 20000 in
theorem gl_RX10_169 (nm : String) : ab_G RX10 nm 169 10 7 0 := ⟨RX10, TX10, 45, tyX10, rfl, by decide, rfl, uw_10, tyX10_ok, nmX10, Or.inl ⟨rfl, rfl⟩, Or.inl ⟨rfl, Or.inl (ab_in (i := 895) rfl rfl)⟩⟩
set_option maxRecDepth 20000 in
theorem gl_RX10_178 (nm : String) : ab_G RX10 nm 178 10 37 0 := ⟨RX10, TX10, 45, tyX10, rfl, by decide, rfl, uw_10, tyX10_ok, nmX10, Or.inl ⟨rfl, rfl⟩, Or.inl ⟨rfl, Or.inl (ab_in (i := 925) rfl rfl)⟩⟩
set_option maxRecDepth 20000 in
theorem gl_RX10_181 (nm : String) : ab_G RX10 nm 181 10 40 0 := ⟨RX10, TX10, 45, tyX10, rfl, by decide, rfl, uw_10, tyX10_ok, nmX10, Or.inl ⟨rfl, rfl⟩, Or.inl ⟨rfl, Or.inl (ab_in (i := 928) rfl rfl)⟩⟩
set_option maxRecDepth 20000 in
theorem gl_RX10_184 (nm : String) : ab_G RX10 nm 184 10 33 0 := ⟨RX10, TX10, 45, tyX10, rfl, by decide, rfl, uw_10, tyX10_ok, nmX10, Or.inl ⟨rfl, rfl⟩, Or.inl ⟨rfl, Or.inl (ab_in (i := 921) rfl rfl)⟩⟩
set_option maxRecDepth 20000 in
theorem gl_RX10_234 (nm : String) : ab_G RX10 nm 234 10 13 0 := ⟨RX10, TX10, 45, tyX10, rfl, by decide, rfl, uw_10, tyX10_ok, nmX10, Or.inl ⟨rfl, rfl⟩, Or.inl ⟨rfl, Or.inl (ab_in (i := 901) rfl rfl)⟩⟩
set_option maxRecDepth 20000 in
theorem gl_RX10_266 (nm : String) : ab_G RX10 nm 266 10 35 0 := ⟨RX10, TX10, 45, tyX10, rfl, by decide, rfl, uw_10, tyX10_ok, nmX10, Or.inl ⟨rfl, rfl⟩, Or.inl ⟨rfl, Or.inl (ab_in (i := 923) rfl rfl)⟩⟩
set_option maxRecDepth 20000 in
theorem gl_RX10_285 (nm : String) : ab_G RX10 nm 285 10 36 0 := ⟨RX10, TX10, 45, tyX10, rfl, by decide, rfl, uw_10, tyX10_ok, nmX10, Or.inl ⟨rfl, rfl⟩, Or.inl ⟨rfl, Or.inl (ab_in (i := 924) rfl rfl)⟩⟩
set_option maxRecDepth 20000 in
theorem gl_RX2_9 : ab_G RX2 "<init>" 9 2 0 1 := ⟨RX2, TX2, 2, tyX2, rfl, by decide, rfl, uw_2, tyX2_ok, nmX2, Or.inr ⟨by decide, Or.inl ⟨_, rfl⟩⟩, Or.inr ⟨rfl, rfl, rfl, ab_in (i := 91) rfl rfl⟩⟩
set_option maxRecDepth 20000 in
theorem gl_RX2_15 (nm : String) : ab_G RX2 nm 15 2 1 0 := ⟨RX2, TX2, 2, tyX2, rfl, by decide, rfl, uw_2, tyX2_ok, nmX2, Or.inl ⟨rfl, rfl⟩, Or.inl ⟨rfl, Or.inl (ab_in (i := 92) rfl rfl)⟩⟩
set_option maxRecDepth 20000 in
theorem gl_RX3_9 : ab_G RX3 "<init>" 9 3 0 1 := ⟨RX3, TX3, 6, tyX3, rfl, by decide, rfl, uw_3, tyX3_ok, nmX3, Or.inr ⟨by decide, Or.inl ⟨_, rfl⟩⟩, Or.inr ⟨rfl, rfl, rfl, ab_in (i := 243) rfl rfl⟩⟩
set_option maxRecDepth 20000 in
theorem gl_RX3_15 : ab_G RX3 "<init>" 15 3 1 1 := ⟨RX3, TX3, 6, tyX3, rfl, by decide, rfl, uw_3, tyX3_ok, nmX3, Or.inr ⟨by decide, Or.inl ⟨_, rfl⟩⟩, Or.inr ⟨rfl, rfl, rfl, ab_in (i := 244) rfl rfl⟩⟩
set_option maxRecDepth 20000 in
theorem gl_RX3_18 : ab_G RX3 "<init>" 18 3 2 1 := ⟨RX3, TX3, 6, tyX3, rfl, by decide, rfl, uw_3, tyX3_ok, nmX3, Or.inr ⟨by decide, Or.inl ⟨_, rfl⟩⟩, Or.inr ⟨rfl, rfl, rfl, ab_in (i := 245) rfl rfl⟩⟩
set_option maxRecDepth 20000 in
theorem gl_RX3_21 : ab_G RX3 "<init>" 21 3 3 1 := ⟨RX3, TX3, 6, tyX3, rfl, by decide, rfl, uw_3, tyX3_ok, nmX3, Or.inr ⟨by decide, Or.inl ⟨_, rfl⟩⟩, Or.inr ⟨rfl, rfl, rfl, ab_in (i := 246) rfl rfl⟩⟩
set_option maxRecDepth 20000 in
theorem gl_RX3_24 (nm : String) : ab_G RX3 nm 24 3 4 0 := ⟨RX3, TX3, 6, tyX3, rfl, by decide, rfl, uw_3, tyX3_ok, nmX3, Or.inl ⟨rfl, rfl⟩, Or.inl ⟨rfl, Or.inl (ab_in (i := 247) rfl rfl)⟩⟩
set_option maxRecDepth 20000 in
theorem gl_RX3_28 (nm : String) : ab_G RX3 nm 28 3 5 0 := ⟨RX3, TX3, 6, tyX3, rfl, by decide, rfl, uw_3, tyX3_ok, nmX3, Or.inl ⟨rfl, rfl⟩, Or.inl ⟨rfl, Or.inl (ab_in (i := 249) rfl rfl)⟩⟩
set_option maxRecDepth 20000 in
theorem gl_RX4_11 : ab_G RX4 "<init>" 11 4 0 1 := ⟨RX4, TX4, 5, tyX4, rfl, by decide, rfl, uw_4, tyX4_ok, nmX4, Or.inr ⟨by decide, Or.inl ⟨_, rfl⟩⟩, Or.inr ⟨rfl, rfl, rfl, ab_in (i := 220) rfl rfl⟩⟩
set_option maxRecDepth 20000 in
theorem gl_RX4_17 : ab_G RX4 "<init>" 17 4 1 1 := ⟨RX4, TX4, 5, tyX4, rfl, by decide, rfl, uw_4, tyX4_ok, nmX4, Or.inr ⟨by decide, Or.inl ⟨_, rfl⟩⟩, Or.inr ⟨rfl, rfl, rfl, ab_in (i := 221) rfl rfl⟩⟩
set_option maxRecDepth 20000 in
theorem gl_RX4_20 (nm : String) : ab_G RX4 nm 20 4 3 0 := ⟨RX4, TX4, 5, tyX4, rfl, by decide, rfl, uw_4, tyX4_ok, nmX4, Or.inl ⟨rfl, rfl⟩, Or.inl ⟨rfl, Or.inl (ab_in (i := 223) rfl rfl)⟩⟩
set_option maxRecDepth 20000 in
theorem gl_RX4_24 (nm : String) : ab_G RX4 nm 24 4 2 0 := ⟨RX4, TX4, 5, tyX4, rfl, by decide, rfl, uw_4, tyX4_ok, nmX4, Or.inl ⟨rfl, rfl⟩, Or.inl ⟨rfl, Or.inl (ab_in (i := 222) rfl rfl)⟩⟩
set_option maxRecDepth 20000 in
theorem gl_RX4_40 (nm : String) : ab_G RX4 nm 40 4 4 0 := ⟨RX4, TX4, 5, tyX4, rfl, by decide, rfl, uw_4, tyX4_ok, nmX4, Or.inl ⟨rfl, rfl⟩, Or.inl ⟨rfl, Or.inl (ab_in (i := 225) rfl rfl)⟩⟩
set_option maxRecDepth 20000 in
theorem gl_RX5_9 : ab_G RX5 "<init>" 9 5 3 1 := ⟨RX5, TX5, 13, tyX5, rfl, by decide, rfl, uw_5, tyX5_ok, nmX5, Or.inr ⟨by decide, Or.inl ⟨_, rfl⟩⟩, Or.inr ⟨rfl, rfl, rfl, ab_in (i := 120) rfl rfl⟩⟩
set_option maxRecDepth 20000 in
theorem gl_RX5_15 : ab_G RX5 "<init>" 15 5 4 1 := ⟨RX5, TX5, 13, tyX5, rfl, by decide, rfl, uw_5, tyX5_ok, nmX5, Or.inr ⟨by decide, Or.inl ⟨_, rfl⟩⟩, Or.inr ⟨rfl, rfl, rfl, ab_in (i := 122) rfl rfl⟩⟩
set_option maxRecDepth 20000 in
theorem gl_RX5_18 : ab_G RX5 "<init>" 18 5 5 1 := ⟨RX5, TX5, 13, tyX5, rfl, by decide, rfl, uw_5, tyX5_ok, nmX5, Or.inr ⟨by decide, Or.inl ⟨_, rfl⟩⟩, Or.inr ⟨rfl, rfl, rfl, ab_in (i := 123) rfl rfl⟩⟩
set_option maxRecDepth 20000 in
theorem gl_RX5_21 : ab_G RX5 "<init>" 21 5 6 1 := ⟨RX5, TX5, 13, tyX5, rfl, by decide, rfl, uw_5, tyX5_ok, nmX5, Or.inr ⟨by decide, Or.inl ⟨_, rfl⟩⟩, Or.inr ⟨rfl, rfl, rfl, ab_in (i := 127) rfl rfl⟩⟩
set_option maxRecDepth 20000 in
theorem gl_RX5_24 : ab_G RX5 "<init>" 24 5 7 1 := ⟨RX5, TX5, 13, tyX5, rfl, by decide, rfl, uw_5, tyX5_ok, nmX5, Or.inr ⟨by decide, Or.inl ⟨_, rfl⟩⟩, Or.inr ⟨rfl, rfl, rfl, ab_in (i := 130) rfl rfl⟩⟩
set_option maxRecDepth 20000 in
theorem gl_RX5_27 : ab_G RX5 "<init>" 27 5 8 1 := ⟨RX5, TX5, 13, tyX5, rfl, by decide, rfl, uw_5, tyX5_ok, nmX5, Or.inr ⟨by decide, Or.inl ⟨_, rfl⟩⟩, Or.inr ⟨rfl, rfl, rfl, ab_in (i := 133) rfl rfl⟩⟩
set_option maxRecDepth 20000 in
theorem gl_RX5_30 : ab_G RX5 "<init>" 30 5 9 1 := ⟨RX5, TX5, 13, tyX5, rfl, by decide, rfl, uw_5, tyX5_ok, nmX5, Or.inr ⟨by decide, Or.inl ⟨_, rfl⟩⟩, Or.inr ⟨rfl, rfl, rfl, ab_in (i := 136) rfl rfl⟩⟩
set_option maxRecDepth 20000 in
theorem gl_RX5_33 : ab_G RX5 "<init>" 33 5 10 1 := ⟨RX5, TX5, 13, tyX5, rfl, by decide, rfl, uw_5, tyX5_ok, nmX5, Or.inr ⟨by decide, Or.inl ⟨_, rfl⟩⟩, Or.inr ⟨rfl, rfl, rfl, ab_in (i := 139) rfl rfl⟩⟩
set_option maxRecDepth 20000 in
theorem gl_RX5_36 : ab_G RX5 "<init>" 36 5 11 1 := ⟨RX5, TX5, 13, tyX5, rfl, by decide, rfl, uw_5, tyX5_ok, nmX5, Or.inr ⟨by decide, Or.inl ⟨_, rfl⟩⟩, Or.inr ⟨rfl, rfl, rfl, ab_in (i := 142) rfl rfl⟩⟩
set_option maxRecDepth 20000 in
theorem gl_RX5_39 : ab_G RX5 "<init>" 39 5 12 1 := ⟨RX5, TX5, 13, tyX5, rfl, by decide, rfl, uw_5, tyX5_ok, nmX5, Or.inr ⟨by decide, Or.inl ⟨_, rfl⟩⟩, Or.inr ⟨rfl, rfl, rfl, ab_in (i := 145) rfl rfl⟩⟩
set_option maxRecDepth 20000 in
theorem gl_RX5_42 (nm : String) : ab_G RX5 nm 42 5 0 0 := ⟨RX5, TX5, 13, tyX5, rfl, by decide, rfl, uw_5, tyX5_ok, nmX5, Or.inl ⟨rfl, rfl⟩, Or.inl ⟨rfl, Or.inl (ab_in (i := 106) rfl rfl)⟩⟩
set_option maxRecDepth 20000 in
theorem gl_RX5_46 (nm : String) : ab_G RX5 nm 46 5 1 0 := ⟨RX5, TX5, 13, tyX5, rfl, by decide, rfl, uw_5, tyX5_ok, nmX5, Or.inl ⟨rfl, rfl⟩, Or.inl ⟨rfl, Or.inl (ab_in (i := 112) rfl rfl)⟩⟩
set_option maxRecDepth 20000 in
theorem gl_RX5_49 (nm : String) : ab_G RX5 nm 49 5 2 0 := ⟨RX5, TX5, 13, tyX5, rfl, by decide, rfl, uw_5, tyX5_ok, nmX5, Or.inl ⟨rfl, rfl⟩, Or.inl ⟨rfl, Or.inl (ab_in (i := 116) rfl rfl)⟩⟩
set_option maxRecDepth 20000 in
theorem gl_RX6_12 : ab_G RX6 "<init>" 12 6 0 1 := ⟨RX6, TX6, 7, tyX6, rfl, by decide, rfl, uw_6, tyX6_ok, nmX6, Or.inr ⟨by decide, Or.inr ⟨_, rfl⟩⟩, Or.inr ⟨rfl, rfl, rfl, ab_in (i := 175) rfl rfl⟩⟩
set_option maxRecDepth 20000 in
theorem gl_RX6_21 : ab_G RX6 "<init>" 21 6 1 1 := ⟨RX6, TX6, 7, tyX6, rfl, by decide, rfl, uw_6, tyX6_ok, nmX6, Or.inr ⟨by decide, Or.inr ⟨_, rfl⟩⟩, Or.inr ⟨rfl, rfl, rfl, ab_in (i := 177) rfl rfl⟩⟩
set_option maxRecDepth 20000 in
theorem gl_RX6_25 : ab_G RX6 "<init>" 25 6 2 1 := ⟨RX6, TX6, 7, tyX6, rfl, by decide, rfl, uw_6, tyX6_ok, nmX6, Or.inr ⟨by decide, Or.inl ⟨_, rfl⟩⟩, Or.inr ⟨rfl, rfl, rfl, ab_in (i := 179) rfl rfl⟩⟩
set_option maxRecDepth 20000 in
theorem gl_RX6_29 (nm : String) : ab_G RX6 nm 29 6 3 0 := ⟨RX6, TX6, 7, tyX6, rfl, by decide, rfl, uw_6, tyX6_ok, nmX6, Or.inl ⟨rfl, rfl⟩, Or.inl ⟨rfl, Or.inl (ab_in (i := 180) rfl rfl)⟩⟩
set_option maxRecDepth 20000 in
theorem gl_RX6_33 (nm : String) : ab_G RX6 nm 33 6 5 0 := ⟨RX6, TX6, 7, tyX6, rfl, by decide, rfl, uw_6, tyX6_ok, nmX6, Or.inl ⟨rfl, rfl⟩, Or.inl ⟨rfl, Or.inl (ab_in (i := 182) rfl rfl)⟩⟩
set_option maxRecDepth 20000 in
theorem gl_RX6_36 (nm : String) : ab_G RX6 nm 36 6 6 0 := ⟨RX6, TX6, 7, tyX6, rfl, by decide, rfl, uw_6, tyX6_ok, nmX6, Or.inl ⟨rfl, rfl⟩, Or.inl ⟨rfl, Or.inl (ab_in (i := 184) rfl rfl)⟩⟩
set_option maxRecDepth 20000 in
theorem gl_RX6_114 (nm : String) : ab_G RX6 nm 114 6 4 0 := ⟨RX6, TX6, 7, tyX6, rfl, by decide, rfl, uw_6, tyX6_ok, nmX6, Or.inl ⟨rfl, rfl⟩, Or.inl ⟨rfl, Or.inl (ab_in (i := 181) rfl rfl)⟩⟩
set_option maxRecDepth 20000 in
theorem gl_RX7_11 : ab_G RX7 "<init>" 11 7 0 1 := ⟨RX7, TX7, 2, tyX7, rfl, by decide, rfl, uw_7, tyX7_ok, nmX7, Or.inr ⟨by decide, Or.inl ⟨_, rfl⟩⟩, Or.inr ⟨rfl, rfl, rfl, ab_in (i := 303) rfl rfl⟩⟩
set_option maxRecDepth 20000 in
theorem gl_RX7_15 (nm : String) : ab_G RX7 nm 15 7 1 0 := ⟨RX7, TX7, 2, tyX7, rfl, by decide, rfl, uw_7, tyX7_ok, nmX7, Or.inl ⟨rfl, rfl⟩, Or.inl ⟨rfl, Or.inl (ab_in (i := 305) rfl rfl)⟩⟩
set_option maxRecDepth 20000 in
theorem gl_RX8_11 : ab_G RX8 "<init>" 11 8 0 1 := ⟨RX8, TX8, 1, tyX8, rfl, by decide, rfl, uw_8, tyX8_ok, nmX8, Or.inr ⟨by decide, Or.inl ⟨_, rfl⟩⟩, Or.inr ⟨rfl, rfl, rfl, ab_in (i := 209) rfl rfl⟩⟩
set_option maxRecDepth 20000 in
theorem gl_RX9_10 : ab_G RX9 "<init>" 10 9 0 1 := ⟨RX9, TX9, 9, tyX9, rfl, by decide, rfl, uw_9, tyX9_ok, nmX9, Or.inr ⟨by decide, Or.inr ⟨_, rfl⟩⟩, Or.inr ⟨rfl, rfl, rfl, ab_in (i := 332) rfl rfl⟩⟩
set_option maxRecDepth 20000 in
theorem gl_RX9_19 : ab_G RX9 "<init>" 19 9 1 1 := ⟨RX9, TX9, 9, tyX9, rfl, by decide, rfl, uw_9, tyX9_ok, nmX9, Or.inr ⟨by decide, Or.inr ⟨_, rfl⟩⟩, Or.inr ⟨rfl, rfl, rfl, ab_in (i := 333) rfl rfl⟩⟩
set_option maxRecDepth 20000 in
theorem gl_RX9_26 : ab_G RX9 "<init>" 26 9 2 1 := ⟨RX9, TX9, 9, tyX9, rfl, by decide, rfl, uw_9, tyX9_ok, nmX9, Or.inr ⟨by decide, Or.inr ⟨_, rfl⟩⟩, Or.inr ⟨rfl, rfl, rfl, ab_in (i := 334) rfl rfl⟩⟩
set_option maxRecDepth 20000 in
theorem gl_RX9_33 : ab_G RX9 "<init>" 33 9 3 1 := ⟨RX9, TX9, 9, tyX9, rfl, by decide, rfl, uw_9, tyX9_ok, nmX9, Or.inr ⟨by decide, Or.inr ⟨_, rfl⟩⟩, Or.inr ⟨rfl, rfl, rfl, ab_in (i := 335) rfl rfl⟩⟩
set_option maxRecDepth 20000 in
theorem gl_RX9_40 : ab_G RX9 "<init>" 40 9 4 1 := ⟨RX9, TX9, 9, tyX9, rfl, by decide, rfl, uw_9, tyX9_ok, nmX9, Or.inr ⟨by decide, Or.inr ⟨_, rfl⟩⟩, Or.inr ⟨rfl, rfl, rfl, ab_in (i := 336) rfl rfl⟩⟩
set_option maxRecDepth 20000 in
theorem gl_RX9_47 : ab_G RX9 "<init>" 47 9 5 1 := ⟨RX9, TX9, 9, tyX9, rfl, by decide, rfl, uw_9, tyX9_ok, nmX9, Or.inr ⟨by decide, Or.inr ⟨_, rfl⟩⟩, Or.inr ⟨rfl, rfl, rfl, ab_in (i := 337) rfl rfl⟩⟩
set_option maxRecDepth 20000 in
theorem gl_RX9_54 : ab_G RX9 "<init>" 54 9 6 1 := ⟨RX9, TX9, 9, tyX9, rfl, by decide, rfl, uw_9, tyX9_ok, nmX9, Or.inr ⟨by decide, Or.inr ⟨_, rfl⟩⟩, Or.inr ⟨rfl, rfl, rfl, ab_in (i := 338) rfl rfl⟩⟩
set_option maxRecDepth 20000 in
theorem gl_RX9_61 : ab_G RX9 "<init>" 61 9 7 1 := ⟨RX9, TX9, 9, tyX9, rfl, by decide, rfl, uw_9, tyX9_ok, nmX9, Or.inr ⟨by decide, Or.inr ⟨_, rfl⟩⟩, Or.inr ⟨rfl, rfl, rfl, ab_in (i := 339) rfl rfl⟩⟩
set_option maxRecDepth 20000 in
theorem gl_RX9_65 (nm : String) : ab_G RX9 nm 65 9 8 0 := ⟨RX9, TX9, 9, tyX9, rfl, by decide, rfl, uw_9, tyX9_ok, nmX9, Or.inl ⟨rfl, rfl⟩, Or.inl ⟨rfl, Or.inl (ab_in (i := 340) rfl rfl)⟩⟩
