theorem zT_of {i : Nat} {w : Cond} (h : tables_1[i]? = some w) (g : goodWord w = true) : w ∈ zT := List.mem_filter.mpr ⟨List.mem_append_right _ (List.mem_of_getElem? h), g⟩
theorem zT_ofp {i : Nat} {q : MethodName × Nat} (h : lw_privs[i]? = some q) : Cond.selects q.1.cls q.1 q.1 ∈ zT := List.mem_filter.mpr ⟨List.mem_append_left _ (List.mem_map.mpr ⟨q, List.mem_of_getElem? h, rfl⟩), rfl⟩
theorem zNest_of {i : Nat} {w : Cond} (h : zNest[i]? = some w) : w ∈ zNest := List.mem_of_getElem? h
theorem zf_RX0_9 : zFL RX0 9 0 0 (.array .int) true := ⟨_, rfl, by decide, rfl, rfl, fun _ => rfl, zT_of (i := 32) (by decide +kernel) rfl⟩
theorem zf_RX0_15 : zFL RX0 15 0 1 (.array .int) true := ⟨_, rfl, by decide, rfl, rfl, fun _ => rfl, zT_of (i := 33) (by decide +kernel) rfl⟩
theorem zf_RX0_18 : zFL RX0 18 0 2 (.array .int) true := ⟨_, rfl, by decide, rfl, rfl, fun _ => rfl, zT_of (i := 34) (by decide +kernel) rfl⟩
theorem zf_RX0_21 : zFL RX0 21 0 3 (.array .int) true := ⟨_, rfl, by decide, rfl, rfl, fun _ => rfl, zT_of (i := 35) (by decide +kernel) rfl⟩
theorem zf_RX0_24 : zFL RX0 24 0 4 (.array .int) true := ⟨_, rfl, by decide, rfl, rfl, fun _ => rfl, zT_of (i := 36) (by decide +kernel) rfl⟩
theorem zf_RX0_27 : zFL RX0 27 0 5 (.array .int) true := ⟨_, rfl, by decide, rfl, rfl, fun _ => rfl, zT_of (i := 37) (by decide +kernel) rfl⟩
theorem zf_RX0_30 : zFL RX0 30 0 6 (.int) false := ⟨_, rfl, by decide, rfl, rfl, fun _ => rfl, zT_of (i := 38) (by decide +kernel) rfl⟩
theorem zf_RX1_9 : zFL RX1 9 1 1 (.array .int) true := ⟨_, rfl, by decide, rfl, rfl, fun _ => rfl, zT_of (i := 241) (by decide +kernel) rfl⟩
theorem zf_RX1_15 : zFL RX1 15 1 2 (.array .int) true := ⟨_, rfl, by decide, rfl, rfl, fun _ => rfl, zT_of (i := 242) (by decide +kernel) rfl⟩
theorem zf_RX1_18 : zFL RX1 18 1 3 (.array .int) true := ⟨_, rfl, by decide, rfl, rfl, fun _ => rfl, zT_of (i := 243) (by decide +kernel) rfl⟩
theorem zf_RX1_21 : zFL RX1 21 1 4 (.array .int) true := ⟨_, rfl, by decide, rfl, rfl, fun _ => rfl, zT_of (i := 244) (by decide +kernel) rfl⟩
theorem zf_RX1_24 : zFL RX1 24 1 5 (.array .int) true := ⟨_, rfl, by decide, rfl, rfl, fun _ => rfl, zT_of (i := 245) (by decide +kernel) rfl⟩
theorem zf_RX1_30 : zFL RX1 30 1 6 (.object "DoorStars$Fraction") true := ⟨_, rfl, by decide, rfl, rfl, fun _ => rfl, zT_of (i := 246) (by decide +kernel) rfl⟩
theorem zf_RX1_34 : zFL RX1 34 1 7 (.int) false := ⟨_, rfl, by decide, rfl, rfl, fun _ => rfl, zT_of (i := 247) (by decide +kernel) rfl⟩
theorem zf_RX1_38 : zFL RX1 38 1 0 (.object "DoorStars$Kitchens") true := ⟨_, rfl, by decide, rfl, rfl, fun _ => rfl, zT_of (i := 240) (by decide +kernel) rfl⟩
theorem zf_RX10_7 : zFL RX10 7 10 2 (.array .int) true := ⟨_, rfl, by decide, rfl, rfl, fun _ => rfl, zT_of (i := 1010) (by decide +kernel) rfl⟩
theorem zf_RX10_13 : zFL RX10 13 10 3 (.array .int) true := ⟨_, rfl, by decide, rfl, rfl, fun _ => rfl, zT_of (i := 1011) (by decide +kernel) rfl⟩
theorem zf_RX10_16 : zFL RX10 16 10 4 (.array .int) true := ⟨_, rfl, by decide, rfl, rfl, fun _ => rfl, zT_of (i := 1012) (by decide +kernel) rfl⟩
theorem zf_RX10_19 : zFL RX10 19 10 5 (.array .int) true := ⟨_, rfl, by decide, rfl, rfl, fun _ => rfl, zT_of (i := 1013) (by decide +kernel) rfl⟩
theorem zf_RX10_22 : zFL RX10 22 10 6 (.array .int) true := ⟨_, rfl, by decide, rfl, rfl, fun _ => rfl, zT_of (i := 1014) (by decide +kernel) rfl⟩
theorem zf_RX10_25 : zFL RX10 25 10 7 (.array .int) true := ⟨_, rfl, by decide, rfl, rfl, fun _ => rfl, zT_of (i := 1015) (by decide +kernel) rfl⟩
theorem zf_RX10_28 : zFL RX10 28 10 9 (.array .int) true := ⟨_, rfl, by decide, rfl, rfl, fun _ => rfl, zT_of (i := 1017) (by decide +kernel) rfl⟩
theorem zf_RX10_31 : zFL RX10 31 10 10 (.array .int) true := ⟨_, rfl, by decide, rfl, rfl, fun _ => rfl, zT_of (i := 1018) (by decide +kernel) rfl⟩
theorem zf_RX10_34 : zFL RX10 34 10 11 (.array .int) true := ⟨_, rfl, by decide, rfl, rfl, fun _ => rfl, zT_of (i := 1019) (by decide +kernel) rfl⟩
theorem zf_RX10_37 : zFL RX10 37 10 12 (.array .int) true := ⟨_, rfl, by decide, rfl, rfl, fun _ => rfl, zT_of (i := 1020) (by decide +kernel) rfl⟩
theorem zf_RX10_40 : zFL RX10 40 10 13 (.array .int) true := ⟨_, rfl, by decide, rfl, rfl, fun _ => rfl, zT_of (i := 1021) (by decide +kernel) rfl⟩
theorem zf_RX10_43 : zFL RX10 43 10 14 (.array .boolean) true := ⟨_, rfl, by decide, rfl, rfl, fun _ => rfl, zT_of (i := 1022) (by decide +kernel) rfl⟩
theorem zf_RX10_47 : zFL RX10 47 10 15 (.array .int) true := ⟨_, rfl, by decide, rfl, rfl, fun _ => rfl, zT_of (i := 1023) (by decide +kernel) rfl⟩
theorem zf_RX10_50 : zFL RX10 50 10 16 (.array .boolean) true := ⟨_, rfl, by decide, rfl, rfl, fun _ => rfl, zT_of (i := 1024) (by decide +kernel) rfl⟩
theorem zf_RX10_53 : zFL RX10 53 10 18 (.array .int) true := ⟨_, rfl, by decide, rfl, rfl, fun _ => rfl, zT_of (i := 1026) (by decide +kernel) rfl⟩
theorem zf_RX10_56 : zFL RX10 56 10 19 (.array .int) true := ⟨_, rfl, by decide, rfl, rfl, fun _ => rfl, zT_of (i := 1027) (by decide +kernel) rfl⟩
theorem zf_RX10_59 : zFL RX10 59 10 20 (.array .int) true := ⟨_, rfl, by decide, rfl, rfl, fun _ => rfl, zT_of (i := 1028) (by decide +kernel) rfl⟩
theorem zf_RX10_62 : zFL RX10 62 10 21 (.array .int) true := ⟨_, rfl, by decide, rfl, rfl, fun _ => rfl, zT_of (i := 1029) (by decide +kernel) rfl⟩
theorem zf_RX10_65 : zFL RX10 65 10 22 (.array .int) true := ⟨_, rfl, by decide, rfl, rfl, fun _ => rfl, zT_of (i := 1030) (by decide +kernel) rfl⟩
theorem zf_RX10_68 : zFL RX10 68 10 23 (.array .int) true := ⟨_, rfl, by decide, rfl, rfl, fun _ => rfl, zT_of (i := 1031) (by decide +kernel) rfl⟩
theorem zf_RX10_71 : zFL RX10 71 10 24 (.array .int) true := ⟨_, rfl, by decide, rfl, rfl, fun _ => rfl, zT_of (i := 1032) (by decide +kernel) rfl⟩
theorem zf_RX10_74 : zFL RX10 74 10 25 (.array .int) true := ⟨_, rfl, by decide, rfl, rfl, fun _ => rfl, zT_of (i := 1033) (by decide +kernel) rfl⟩
theorem zf_RX10_77 : zFL RX10 77 10 27 (.array .int) true := ⟨_, rfl, by decide, rfl, rfl, fun _ => rfl, zT_of (i := 1035) (by decide +kernel) rfl⟩
theorem zf_RX10_80 : zFL RX10 80 10 28 (.array .int) true := ⟨_, rfl, by decide, rfl, rfl, fun _ => rfl, zT_of (i := 1036) (by decide +kernel) rfl⟩
theorem zf_RX10_83 : zFL RX10 83 10 29 (.array .int) true := ⟨_, rfl, by decide, rfl, rfl, fun _ => rfl, zT_of (i := 1037) (by decide +kernel) rfl⟩
theorem zf_RX10_86 : zFL RX10 86 10 30 (.int) false := ⟨_, rfl, by decide, rfl, rfl, fun _ => rfl, zT_of (i := 1038) (by decide +kernel) rfl⟩
theorem zf_RX10_90 : zFL RX10 90 10 31 (.array .int) true := ⟨_, rfl, by decide, rfl, rfl, fun _ => rfl, zT_of (i := 1039) (by decide +kernel) rfl⟩
theorem zf_RX10_93 : zFL RX10 93 10 33 (.array .int) true := ⟨_, rfl, by decide, rfl, rfl, fun _ => rfl, zT_of (i := 1041) (by decide +kernel) rfl⟩
theorem zf_RX10_96 : zFL RX10 96 10 34 (.array .int) true := ⟨_, rfl, by decide, rfl, rfl, fun _ => rfl, zT_of (i := 1042) (by decide +kernel) rfl⟩
theorem zf_RX10_99 : zFL RX10 99 10 35 (.array .int) true := ⟨_, rfl, by decide, rfl, rfl, fun _ => rfl, zT_of (i := 1043) (by decide +kernel) rfl⟩
theorem zf_RX10_102 : zFL RX10 102 10 36 (.array .int) true := ⟨_, rfl, by decide, rfl, rfl, fun _ => rfl, zT_of (i := 1044) (by decide +kernel) rfl⟩
theorem zf_RX10_105 : zFL RX10 105 10 37 (.array .int) true := ⟨_, rfl, by decide, rfl, rfl, fun _ => rfl, zT_of (i := 1045) (by decide +kernel) rfl⟩
theorem zf_RX10_108 : zFL RX10 108 10 38 (.array .int) true := ⟨_, rfl, by decide, rfl, rfl, fun _ => rfl, zT_of (i := 1046) (by decide +kernel) rfl⟩
theorem zf_RX10_111 : zFL RX10 111 10 39 (.array .long) true := ⟨_, rfl, by decide, rfl, rfl, fun _ => rfl, zT_of (i := 1047) (by decide +kernel) rfl⟩
theorem zf_RX10_115 : zFL RX10 115 10 40 (.array .long) true := ⟨_, rfl, by decide, rfl, rfl, fun _ => rfl, zT_of (i := 1048) (by decide +kernel) rfl⟩
theorem zf_RX10_118 : zFL RX10 118 10 41 (.array .int) true := ⟨_, rfl, by decide, rfl, rfl, fun _ => rfl, zT_of (i := 1049) (by decide +kernel) rfl⟩
theorem zf_RX10_121 : zFL RX10 121 10 42 (.array .int) true := ⟨_, rfl, by decide, rfl, rfl, fun _ => rfl, zT_of (i := 1050) (by decide +kernel) rfl⟩
theorem zf_RX10_124 : zFL RX10 124 10 44 (.array .int) true := ⟨_, rfl, by decide, rfl, rfl, fun _ => rfl, zT_of (i := 1052) (by decide +kernel) rfl⟩
theorem zf_RX10_127 : zFL RX10 127 10 47 (.array .int) true := ⟨_, rfl, by decide, rfl, rfl, fun _ => rfl, zT_of (i := 1055) (by decide +kernel) rfl⟩
theorem zf_RX10_130 : zFL RX10 130 10 48 (.array .int) true := ⟨_, rfl, by decide, rfl, rfl, fun _ => rfl, zT_of (i := 1056) (by decide +kernel) rfl⟩
theorem zf_RX10_133 : zFL RX10 133 10 49 (.array .int) true := ⟨_, rfl, by decide, rfl, rfl, fun _ => rfl, zT_of (i := 1057) (by decide +kernel) rfl⟩
theorem zf_RX10_136 : zFL RX10 136 10 50 (.array .int) true := ⟨_, rfl, by decide, rfl, rfl, fun _ => rfl, zT_of (i := 1058) (by decide +kernel) rfl⟩
theorem zf_RX10_139 : zFL RX10 139 10 52 (.array .int) true := ⟨_, rfl, by decide, rfl, rfl, fun _ => rfl, zT_of (i := 1060) (by decide +kernel) rfl⟩
theorem zf_RX10_142 : zFL RX10 142 10 53 (.array .int) true := ⟨_, rfl, by decide, rfl, rfl, fun _ => rfl, zT_of (i := 1061) (by decide +kernel) rfl⟩
theorem zf_RX10_145 : zFL RX10 145 10 54 (.array .int) true := ⟨_, rfl, by decide, rfl, rfl, fun _ => rfl, zT_of (i := 1062) (by decide +kernel) rfl⟩
theorem zf_RX10_148 : zFL RX10 148 10 55 (.array .int) true := ⟨_, rfl, by decide, rfl, rfl, fun _ => rfl, zT_of (i := 1063) (by decide +kernel) rfl⟩
theorem zf_RX10_151 : zFL RX10 151 10 56 (.array .int) true := ⟨_, rfl, by decide, rfl, rfl, fun _ => rfl, zT_of (i := 1064) (by decide +kernel) rfl⟩
theorem zf_RX10_154 : zFL RX10 154 10 57 (.array .int) true := ⟨_, rfl, by decide, rfl, rfl, fun _ => rfl, zT_of (i := 1065) (by decide +kernel) rfl⟩
theorem zf_RX10_157 : zFL RX10 157 10 58 (.array .int) true := ⟨_, rfl, by decide, rfl, rfl, fun _ => rfl, zT_of (i := 1066) (by decide +kernel) rfl⟩
theorem zf_RX10_160 : zFL RX10 160 10 61 (.array .int) true := ⟨_, rfl, by decide, rfl, rfl, fun _ => rfl, zT_of (i := 1069) (by decide +kernel) rfl⟩
theorem zf_RX10_165 : zFL RX10 165 10 8 (.int) false := ⟨_, rfl, by decide, rfl, rfl, fun _ => rfl, zT_of (i := 1016) (by decide +kernel) rfl⟩
theorem zf_RX10_172 : zFL RX10 172 10 17 (.int) false := ⟨_, rfl, by decide, rfl, rfl, fun _ => rfl, zT_of (i := 1025) (by decide +kernel) rfl⟩
theorem zf_RX10_179 : zFL RX10 179 10 0 (.int) false := ⟨_, rfl, by decide, rfl, rfl, fun _ => rfl, zT_of (i := 1008) (by decide +kernel) rfl⟩
theorem zf_RX10_182 : zFL RX10 182 10 1 (.int) false := ⟨_, rfl, by decide, rfl, rfl, fun _ => rfl, zT_of (i := 1009) (by decide +kernel) rfl⟩
theorem zf_RX10_205 : zFL RX10 205 10 26 (.int) false := ⟨_, rfl, by decide, rfl, rfl, fun _ => rfl, zT_of (i := 1034) (by decide +kernel) rfl⟩
theorem zf_RX10_232 : zFL RX10 232 10 32 (.int) false := ⟨_, rfl, by decide, rfl, rfl, fun _ => rfl, zT_of (i := 1040) (by decide +kernel) rfl⟩
theorem zf_RX10_257 : zFL RX10 257 10 43 (.int) false := ⟨_, rfl, by decide, rfl, rfl, fun _ => rfl, zT_of (i := 1051) (by decide +kernel) rfl⟩
theorem zf_RX10_267 : zFL RX10 267 10 45 (.long) false := ⟨_, rfl, by decide, rfl, rfl, fun _ => rfl, zT_of (i := 1053) (by decide +kernel) rfl⟩
theorem zf_RX10_271 : zFL RX10 271 10 46 (.long) false := ⟨_, rfl, by decide, rfl, rfl, fun _ => rfl, zT_of (i := 1054) (by decide +kernel) rfl⟩
theorem zf_RX10_295 : zFL RX10 295 10 51 (.int) false := ⟨_, rfl, by decide, rfl, rfl, fun _ => rfl, zT_of (i := 1059) (by decide +kernel) rfl⟩
theorem zf_RX10_309 : zFL RX10 309 10 59 (.long) false := ⟨_, rfl, by decide, rfl, rfl, fun _ => rfl, zT_of (i := 1067) (by decide +kernel) rfl⟩
theorem zf_RX10_312 : zFL RX10 312 10 60 (.long) false := ⟨_, rfl, by decide, rfl, rfl, fun _ => rfl, zT_of (i := 1068) (by decide +kernel) rfl⟩
theorem zf_RX2_7 : zFL RX2 7 2 0 (.long) false := ⟨_, rfl, by decide, rfl, rfl, fun _ => rfl, zT_of (i := 205) (by decide +kernel) rfl⟩
theorem zf_RX2_13 : zFL RX2 13 2 1 (.long) false := ⟨_, rfl, by decide, rfl, rfl, fun _ => rfl, zT_of (i := 206) (by decide +kernel) rfl⟩
theorem zf_RX3_9 : zFL RX3 9 3 1 (.array .int) true := ⟨_, rfl, by decide, rfl, rfl, fun _ => rfl, zT_of (i := 214) (by decide +kernel) rfl⟩
theorem zf_RX3_15 : zFL RX3 15 3 2 (.array .long) true := ⟨_, rfl, by decide, rfl, rfl, fun _ => rfl, zT_of (i := 215) (by decide +kernel) rfl⟩
theorem zf_RX3_19 : zFL RX3 19 3 3 (.array .long) true := ⟨_, rfl, by decide, rfl, rfl, fun _ => rfl, zT_of (i := 216) (by decide +kernel) rfl⟩
theorem zf_RX3_22 : zFL RX3 22 3 4 (.array .int) true := ⟨_, rfl, by decide, rfl, rfl, fun _ => rfl, zT_of (i := 217) (by decide +kernel) rfl⟩
theorem zf_RX3_28 : zFL RX3 28 3 5 (.object "DoorStars$Fraction") true := ⟨_, rfl, by decide, rfl, rfl, fun _ => rfl, zT_of (i := 218) (by decide +kernel) rfl⟩
theorem zf_RX3_32 : zFL RX3 32 3 0 (.object "DoorStars$Looks") true := ⟨_, rfl, by decide, rfl, rfl, fun _ => rfl, zT_of (i := 213) (by decide +kernel) rfl⟩
theorem zf_RX4_9 : zFL RX4 9 4 0 (.array .int) true := ⟨_, rfl, by decide, rfl, rfl, fun _ => rfl, zT_of (i := 62) (by decide +kernel) rfl⟩
theorem zf_RX4_15 : zFL RX4 15 4 1 (.array .int) true := ⟨_, rfl, by decide, rfl, rfl, fun _ => rfl, zT_of (i := 63) (by decide +kernel) rfl⟩
theorem zf_RX4_18 : zFL RX4 18 4 2 (.array .int) true := ⟨_, rfl, by decide, rfl, rfl, fun _ => rfl, zT_of (i := 64) (by decide +kernel) rfl⟩
theorem zf_RX4_21 : zFL RX4 21 4 3 (.array .int) true := ⟨_, rfl, by decide, rfl, rfl, fun _ => rfl, zT_of (i := 65) (by decide +kernel) rfl⟩
theorem zf_RX4_24 : zFL RX4 24 4 4 (.array .int) true := ⟨_, rfl, by decide, rfl, rfl, fun _ => rfl, zT_of (i := 66) (by decide +kernel) rfl⟩
theorem zf_RX4_27 : zFL RX4 27 4 5 (.array .int) true := ⟨_, rfl, by decide, rfl, rfl, fun _ => rfl, zT_of (i := 67) (by decide +kernel) rfl⟩
theorem zf_RX4_30 : zFL RX4 30 4 6 (.array .boolean) true := ⟨_, rfl, by decide, rfl, rfl, fun _ => rfl, zT_of (i := 68) (by decide +kernel) rfl⟩
theorem zf_RX4_34 : zFL RX4 34 4 7 (.array .int) true := ⟨_, rfl, by decide, rfl, rfl, fun _ => rfl, zT_of (i := 69) (by decide +kernel) rfl⟩
theorem zf_RX4_37 : zFL RX4 37 4 8 (.array .int) true := ⟨_, rfl, by decide, rfl, rfl, fun _ => rfl, zT_of (i := 70) (by decide +kernel) rfl⟩
theorem zf_RX4_40 : zFL RX4 40 4 9 (.array .int) true := ⟨_, rfl, by decide, rfl, rfl, fun _ => rfl, zT_of (i := 71) (by decide +kernel) rfl⟩
theorem zf_RX4_43 : zFL RX4 43 4 10 (.int) false := ⟨_, rfl, by decide, rfl, rfl, fun _ => rfl, zT_of (i := 72) (by decide +kernel) rfl⟩
theorem zf_RX5_9 : zFL RX5 9 5 1 (.array .int) true := ⟨_, rfl, by decide, rfl, rfl, fun _ => rfl, zT_of (i := 104) (by decide +kernel) rfl⟩
theorem zf_RX5_15 : zFL RX5 15 5 2 (.array .int) true := ⟨_, rfl, by decide, rfl, rfl, fun _ => rfl, zT_of (i := 105) (by decide +kernel) rfl⟩
theorem zf_RX5_18 : zFL RX5 18 5 3 (.array .int) true := ⟨_, rfl, by decide, rfl, rfl, fun _ => rfl, zT_of (i := 106) (by decide +kernel) rfl⟩
theorem zf_RX5_21 : zFL RX5 21 5 4 (.array .int) true := ⟨_, rfl, by decide, rfl, rfl, fun _ => rfl, zT_of (i := 107) (by decide +kernel) rfl⟩
theorem zf_RX5_24 : zFL RX5 24 5 5 (.array .int) true := ⟨_, rfl, by decide, rfl, rfl, fun _ => rfl, zT_of (i := 108) (by decide +kernel) rfl⟩
theorem zf_RX5_27 : zFL RX5 27 5 6 (.array .int) true := ⟨_, rfl, by decide, rfl, rfl, fun _ => rfl, zT_of (i := 109) (by decide +kernel) rfl⟩
theorem zf_RX5_30 : zFL RX5 30 5 7 (.array .int) true := ⟨_, rfl, by decide, rfl, rfl, fun _ => rfl, zT_of (i := 110) (by decide +kernel) rfl⟩
theorem zf_RX5_33 : zFL RX5 33 5 8 (.int) false := ⟨_, rfl, by decide, rfl, rfl, fun _ => rfl, zT_of (i := 111) (by decide +kernel) rfl⟩
theorem zf_RX5_37 : zFL RX5 37 5 9 (.int) false := ⟨_, rfl, by decide, rfl, rfl, fun _ => rfl, zT_of (i := 112) (by decide +kernel) rfl⟩
theorem zf_RX5_40 : zFL RX5 40 5 0 (.object "DoorStars$Codes") true := ⟨_, rfl, by decide, rfl, rfl, fun _ => rfl, zT_of (i := 103) (by decide +kernel) rfl⟩
theorem zf_RX6_9 : zFL RX6 9 6 0 (.array .int) true := ⟨_, rfl, by decide, rfl, rfl, fun _ => rfl, zT_of (i := 140) (by decide +kernel) rfl⟩
theorem zf_RX6_15 : zFL RX6 15 6 1 (.array .int) true := ⟨_, rfl, by decide, rfl, rfl, fun _ => rfl, zT_of (i := 141) (by decide +kernel) rfl⟩
theorem zf_RX6_18 : zFL RX6 18 6 2 (.int) false := ⟨_, rfl, by decide, rfl, rfl, fun _ => rfl, zT_of (i := 142) (by decide +kernel) rfl⟩
theorem zf_RX7_9 : zFL RX7 9 7 0 (.array .int) true := ⟨_, rfl, by decide, rfl, rfl, fun _ => rfl, zT_of (i := 274) (by decide +kernel) rfl⟩
theorem zf_RX7_15 : zFL RX7 15 7 1 (.array .int) true := ⟨_, rfl, by decide, rfl, rfl, fun _ => rfl, zT_of (i := 275) (by decide +kernel) rfl⟩
theorem zf_RX7_18 : zFL RX7 18 7 2 (.array .long) true := ⟨_, rfl, by decide, rfl, rfl, fun _ => rfl, zT_of (i := 276) (by decide +kernel) rfl⟩
theorem zf_RX7_22 : zFL RX7 22 7 3 (.array .int) true := ⟨_, rfl, by decide, rfl, rfl, fun _ => rfl, zT_of (i := 277) (by decide +kernel) rfl⟩
theorem zf_RX7_25 : zFL RX7 25 7 4 (.array .int) true := ⟨_, rfl, by decide, rfl, rfl, fun _ => rfl, zT_of (i := 278) (by decide +kernel) rfl⟩
theorem zf_RX7_31 : zFL RX7 31 7 5 (.object "DoorStars$Fraction") true := ⟨_, rfl, by decide, rfl, rfl, fun _ => rfl, zT_of (i := 279) (by decide +kernel) rfl⟩
theorem zf_RX8_9 : zFL RX8 9 8 0 (.array .int) true := ⟨_, rfl, by decide, rfl, rfl, fun _ => rfl, zT_of (i := 156) (by decide +kernel) rfl⟩
theorem zf_RX8_15 : zFL RX8 15 8 1 (.array .int) true := ⟨_, rfl, by decide, rfl, rfl, fun _ => rfl, zT_of (i := 157) (by decide +kernel) rfl⟩
theorem zf_RX8_18 : zFL RX8 18 8 2 (.array .int) true := ⟨_, rfl, by decide, rfl, rfl, fun _ => rfl, zT_of (i := 158) (by decide +kernel) rfl⟩
theorem zf_RX8_21 : zFL RX8 21 8 3 (.array .int) true := ⟨_, rfl, by decide, rfl, rfl, fun _ => rfl, zT_of (i := 159) (by decide +kernel) rfl⟩
theorem zf_RX8_24 : zFL RX8 24 8 4 (.array .int) true := ⟨_, rfl, by decide, rfl, rfl, fun _ => rfl, zT_of (i := 160) (by decide +kernel) rfl⟩
theorem zf_RX8_27 : zFL RX8 27 8 5 (.array .int) true := ⟨_, rfl, by decide, rfl, rfl, fun _ => rfl, zT_of (i := 161) (by decide +kernel) rfl⟩
theorem zf_RX8_30 : zFL RX8 30 8 6 (.array .int) true := ⟨_, rfl, by decide, rfl, rfl, fun _ => rfl, zT_of (i := 162) (by decide +kernel) rfl⟩
theorem zf_RX8_33 : zFL RX8 33 8 7 (.array .int) true := ⟨_, rfl, by decide, rfl, rfl, fun _ => rfl, zT_of (i := 163) (by decide +kernel) rfl⟩
theorem zf_RX8_36 : zFL RX8 36 8 8 (.array .int) true := ⟨_, rfl, by decide, rfl, rfl, fun _ => rfl, zT_of (i := 164) (by decide +kernel) rfl⟩
theorem zf_RX8_39 : zFL RX8 39 8 9 (.array .int) true := ⟨_, rfl, by decide, rfl, rfl, fun _ => rfl, zT_of (i := 165) (by decide +kernel) rfl⟩
theorem zf_RX8_42 : zFL RX8 42 8 10 (.int) false := ⟨_, rfl, by decide, rfl, rfl, fun _ => rfl, zT_of (i := 166) (by decide +kernel) rfl⟩
theorem zf_RX8_46 : zFL RX8 46 8 11 (.int) false := ⟨_, rfl, by decide, rfl, rfl, fun _ => rfl, zT_of (i := 167) (by decide +kernel) rfl⟩
theorem zf_RX9_9 : zFL RX9 9 9 0 (.array .int) true := ⟨_, rfl, by decide, rfl, rfl, fun _ => rfl, zT_of (i := 296) (by decide +kernel) rfl⟩
theorem zf_RX9_13 : zFL RX9 13 9 1 (.array .boolean) true := ⟨_, rfl, by decide, rfl, rfl, fun _ => rfl, zT_of (i := 297) (by decide +kernel) rfl⟩
theorem zf_RX9_17 : zFL RX9 17 9 2 (.array .int) true := ⟨_, rfl, by decide, rfl, rfl, fun _ => rfl, zT_of (i := 298) (by decide +kernel) rfl⟩
theorem zf_RX9_20 : zFL RX9 20 9 3 (.array .int) true := ⟨_, rfl, by decide, rfl, rfl, fun _ => rfl, zT_of (i := 299) (by decide +kernel) rfl⟩
theorem zf_RX9_23 : zFL RX9 23 9 4 (.array .int) true := ⟨_, rfl, by decide, rfl, rfl, fun _ => rfl, zT_of (i := 300) (by decide +kernel) rfl⟩
theorem zf_RX9_29 : zFL RX9 29 9 5 (.object "DoorStars$Codes") true := ⟨_, rfl, by decide, rfl, rfl, fun _ => rfl, zT_of (i := 301) (by decide +kernel) rfl⟩
theorem zf_RX9_36 : zFL RX9 36 9 6 (.object "DoorStars$Kitchens") true := ⟨_, rfl, by decide, rfl, rfl, fun _ => rfl, zT_of (i := 302) (by decide +kernel) rfl⟩
theorem zf_RX9_45 : zFL RX9 45 9 7 (.object "DoorStars$Looks") true := ⟨_, rfl, by decide, rfl, rfl, fun _ => rfl, zT_of (i := 303) (by decide +kernel) rfl⟩
theorem zf_RX9_52 : zFL RX9 52 9 8 (.object "DoorStars$Tables") true := ⟨_, rfl, by decide, rfl, rfl, fun _ => rfl, zT_of (i := 304) (by decide +kernel) rfl⟩
theorem zf_RX9_59 : zFL RX9 59 9 9 (.object "DoorStars$Week") true := ⟨_, rfl, by decide, rfl, rfl, fun _ => rfl, zT_of (i := 305) (by decide +kernel) rfl⟩
theorem zf_RX9_68 : zFL RX9 68 9 10 (.object "DoorStars$Habits") true := ⟨_, rfl, by decide, rfl, rfl, fun _ => rfl, zT_of (i := 306) (by decide +kernel) rfl⟩
theorem zf_RX9_77 : zFL RX9 77 9 11 (.object "DoorStars$Complaints") true := ⟨_, rfl, by decide, rfl, rfl, fun _ => rfl, zT_of (i := 307) (by decide +kernel) rfl⟩
theorem zf_RX9_84 : zFL RX9 84 9 12 (.object "DoorStars$Trial") true := ⟨_, rfl, by decide, rfl, rfl, fun _ => rfl, zT_of (i := 308) (by decide +kernel) rfl⟩
theorem zf_RX9_91 : zFL RX9 91 9 13 (.object "DoorStars$Fraction") true := ⟨_, rfl, by decide, rfl, rfl, fun _ => rfl, zT_of (i := 309) (by decide +kernel) rfl⟩
theorem zf_RX9_95 : zFL RX9 95 9 14 (.int) false := ⟨_, rfl, by decide, rfl, rfl, fun _ => rfl, zT_of (i := 310) (by decide +kernel) rfl⟩
theorem zf_RX9_99 : zFL RX9 99 9 15 (.int) false := ⟨_, rfl, by decide, rfl, rfl, fun _ => rfl, zT_of (i := 311) (by decide +kernel) rfl⟩
theorem zm_X0_init : zMY yX0_init cX0_init 1 none 0 := ⟨by decide +kernel, zT_of (i := 27) (by decide +kernel) rfl, zT_of (i := 2) (by decide +kernel) rfl, by decide +kernel, by decide +kernel, by decide +kernel, by decide⟩
theorem zm_X0_size : zMY yX0_size cX0_size 1 (some .int) 0 := ⟨by decide +kernel, zT_of (i := 503) (by decide +kernel) rfl, zT_of (i := 2) (by decide +kernel) rfl, by decide +kernel, by decide +kernel, by decide +kernel, by decide⟩
theorem zm_X0_isFull : zMY yX0_isFull cX0_isFull 1 (some .boolean) 0 := ⟨by decide +kernel, zT_of (i := 363) (by decide +kernel) rfl, zT_of (i := 2) (by decide +kernel) rfl, by decide +kernel, by decide +kernel, by decide +kernel, by decide⟩
theorem zm_X0_has : zMY yX0_has cX0_has 2 (some .boolean) 1 := ⟨by decide +kernel, zT_of (i := 375) (by decide +kernel) rfl, zT_of (i := 2) (by decide +kernel) rfl, by decide +kernel, by decide +kernel, by decide +kernel, by decide⟩
theorem zm_X0_add : zMY yX0_add cX0_add 4 (some .int) 3 := ⟨by decide +kernel, zT_of (i := 367) (by decide +kernel) rfl, zT_of (i := 2) (by decide +kernel) rfl, by decide +kernel, by decide +kernel, by decide +kernel, by decide⟩
theorem zm_X0_isInForce : zMY yX0_isInForce cX0_isInForce 3 (some .boolean) 2 := ⟨by decide +kernel, zT_of (i := 475) (by decide +kernel) rfl, zT_of (i := 2) (by decide +kernel) rfl, by decide +kernel, by decide +kernel, by decide +kernel, by decide⟩
theorem zm_X0_isTurned : zMY yX0_isTurned cX0_isTurned 2 (some .boolean) 1 := ⟨by decide +kernel, zT_of (i := 379) (by decide +kernel) rfl, zT_of (i := 2) (by decide +kernel) rfl, by decide +kernel, by decide +kernel, by decide +kernel, by decide⟩
theorem zm_X0_turnInto : zMY yX0_turnInto cX0_turnInto 4 none 3 := ⟨by decide +kernel, zT_of (i := 383) (by decide +kernel) rfl, zT_of (i := 2) (by decide +kernel) rfl, by decide +kernel, by decide +kernel, by decide +kernel, by decide⟩
theorem zm_X0_standingFor : zMY yX0_standingFor cX0_standingFor 5 (some .int) 2 := ⟨by decide +kernel, zT_of (i := 391) (by decide +kernel) rfl, zT_of (i := 2) (by decide +kernel) rfl, by decide +kernel, by decide +kernel, by decide +kernel, by decide⟩
theorem zm_X0_groupOf : zMY yX0_groupOf cX0_groupOf 2 (some .int) 1 := ⟨by decide +kernel, zT_of (i := 509) (by decide +kernel) rfl, zT_of (i := 2) (by decide +kernel) rfl, by decide +kernel, by decide +kernel, by decide +kernel, by decide⟩
theorem zm_X0_pointsOf : zMY yX0_pointsOf cX0_pointsOf 2 (some .int) 1 := ⟨by decide +kernel, zT_of (i := 513) (by decide +kernel) rfl, zT_of (i := 2) (by decide +kernel) rfl, by decide +kernel, by decide +kernel, by decide +kernel, by decide⟩
theorem zm_X0_mostOf : zMY yX0_mostOf cX0_mostOf 2 (some .int) 1 := ⟨by decide +kernel, zT_of (i := 517) (by decide +kernel) rfl, zT_of (i := 2) (by decide +kernel) rfl, by decide +kernel, by decide +kernel, by decide +kernel, by decide⟩
theorem zm_X0_changeMost : zMY yX0_changeMost cX0_changeMost 4 (some .int) 2 := ⟨by decide +kernel, zT_of (i := 399) (by decide +kernel) rfl, zT_of (i := 2) (by decide +kernel) rfl, by decide +kernel, by decide +kernel, by decide +kernel, by decide⟩
theorem zm_X1_init : zMY yX1_init cX1_init 2 none 1 := ⟨by decide +kernel, zT_of (i := 236) (by decide +kernel) rfl, zT_of (i := 10) (by decide +kernel) rfl, by decide +kernel, by decide +kernel, by decide +kernel, by decide⟩
theorem zm_X1_size : zMY yX1_size cX1_size 1 (some .int) 0 := ⟨by decide +kernel, zT_of (i := 992) (by decide +kernel) rfl, zT_of (i := 10) (by decide +kernel) rfl, by decide +kernel, by decide +kernel, by decide +kernel, by decide⟩
theorem zm_X1_isFull : zMY yX1_isFull cX1_isFull 1 (some .boolean) 0 := ⟨by decide +kernel, zT_of (i := 853) (by decide +kernel) rfl, zT_of (i := 10) (by decide +kernel) rfl, by decide +kernel, by decide +kernel, by decide +kernel, by decide⟩
theorem zm_X1_has : zMY yX1_has cX1_has 2 (some .boolean) 1 := ⟨by decide +kernel, zT_of (i := 865) (by decide +kernel) rfl, zT_of (i := 10) (by decide +kernel) rfl, by decide +kernel, by decide +kernel, by decide +kernel, by decide⟩
theorem zm_X1_add : zMY yX1_add cX1_add 5 (some .int) 4 := ⟨by decide +kernel, zT_of (i := 857) (by decide +kernel) rfl, zT_of (i := 10) (by decide +kernel) rfl, by decide +kernel, by decide +kernel, by decide +kernel, by decide⟩
theorem zm_X1_shareOf : zMY yX1_shareOf cX1_shareOf 4 (some (.object "DoorStars$Fraction")) 2 := ⟨by decide +kernel, zT_of (i := 869) (by decide +kernel) rfl, zT_of (i := 10) (by decide +kernel) rfl, by decide +kernel, by decide +kernel, by decide +kernel, by decide⟩
theorem zm_X1_kitchenOf : zMY yX1_kitchenOf cX1_kitchenOf 4 (some .int) 1 := ⟨by decide +kernel, zT_of (i := 905) (by decide +kernel) rfl, zT_of (i := 10) (by decide +kernel) rfl, by decide +kernel, by decide +kernel, by decide +kernel, by decide⟩
theorem zm_X1_joinedSize : zMY yX1_joinedSize cX1_joinedSize 3 (some .int) 0 := ⟨by decide +kernel, zT_of (i := 996) (by decide +kernel) rfl, zT_of (i := 10) (by decide +kernel) rfl, by decide +kernel, by decide +kernel, by decide +kernel, by decide⟩
theorem zm_X1_weighAll : zMY yX1_weighAll cX1_weighAll 4 (some .int) 1 := ⟨by decide +kernel, zT_of (i := 873) (by decide +kernel) rfl, zT_of (i := 10) (by decide +kernel) rfl, by decide +kernel, by decide +kernel, by decide +kernel, by decide⟩
theorem zm_X1_weightOf : zMY yX1_weightOf cX1_weightOf 4 (some .int) 2 := ⟨by decide +kernel, zT_of (i := 878) (by decide +kernel) rfl, zT_of (i := 10) (by decide +kernel) rfl, by decide +kernel, by decide +kernel, by decide +kernel, by decide⟩
theorem zm_X2_init : zMY yX2_init cX2_init 1 none 0 := ⟨by decide +kernel, zT_of (i := 203) (by decide +kernel) rfl, zT_of (i := 9) (by decide +kernel) rfl, by decide +kernel, by decide +kernel, by decide +kernel, by decide⟩
theorem zm_X2_put : zMY yX2_put cX2_put 7 none 2 := ⟨by decide +kernel, zT_of (i := 792) (by decide +kernel) rfl, zT_of (i := 9) (by decide +kernel) rfl, by decide +kernel, by decide +kernel, by decide +kernel, by decide⟩
theorem zm_X2_piece : zMY yX2_piece cX2_piece 2 (some .long) 1 := ⟨by decide +kernel, zT_of (i := 802) (by decide +kernel) rfl, zT_of (i := 9) (by decide +kernel) rfl, by decide +kernel, by decide +kernel, by decide +kernel, by decide⟩
theorem zm_X2_commonDivisor : zMY yX2_commonDivisor cX2_commonDivisor 11 (some .long) 2 := ⟨by decide +kernel, zT_of (i := 798) (by decide +kernel) rfl, zT_of (i := 9) (by decide +kernel) rfl, by decide +kernel, by decide +kernel, by decide +kernel, by decide⟩
theorem zm_X3_init : zMY yX3_init cX3_init 2 none 1 := ⟨by decide +kernel, zT_of (i := 197) (by decide +kernel) rfl, zT_of (i := 8) (by decide +kernel) rfl, by decide +kernel, by decide +kernel, by decide +kernel, by decide⟩
theorem zm_X3_doublesNow : zMY yX3_doublesNow cX3_doublesNow 4 (some .int) 0 := ⟨by decide +kernel, zT_of (i := 724) (by decide +kernel) rfl, zT_of (i := 8) (by decide +kernel) rfl, by decide +kernel, by decide +kernel, by decide +kernel, by decide⟩
theorem zm_X3_learn : zMY yX3_learn cX3_learn 3 none 0 := ⟨by decide +kernel, zT_of (i := 752) (by decide +kernel) rfl, zT_of (i := 8) (by decide +kernel) rfl, by decide +kernel, by decide +kernel, by decide +kernel, by decide⟩
theorem zm_X3_isInDouble : zMY yX3_isInDouble cX3_isInDouble 2 (some .boolean) 1 := ⟨by decide +kernel, zT_of (i := 781) (by decide +kernel) rfl, zT_of (i := 8) (by decide +kernel) rfl, by decide +kernel, by decide +kernel, by decide +kernel, by decide⟩
theorem zm_X3_habitOf : zMY yX3_habitOf cX3_habitOf 2 (some (.object "DoorStars$Fraction")) 1 := ⟨by decide +kernel, zT_of (i := 785) (by decide +kernel) rfl, zT_of (i := 8) (by decide +kernel) rfl, by decide +kernel, by decide +kernel, by decide +kernel, by decide⟩
theorem zm_X3_isDouble : zMY yX3_isDouble cX3_isDouble 3 (some .boolean) 2 := ⟨by decide +kernel, zT_of (i := 729) (by decide +kernel) rfl, zT_of (i := 8) (by decide +kernel) rfl, by decide +kernel, by decide +kernel, by decide +kernel, by decide⟩
theorem zm_X3_addDouble : zMY yX3_addDouble cX3_addDouble 5 none 2 := ⟨by decide +kernel, zT_of (i := 765) (by decide +kernel) rfl, zT_of (i := 8) (by decide +kernel) rfl, by decide +kernel, by decide +kernel, by decide +kernel, by decide⟩
theorem zm_X3_spreadJoins : zMY yX3_spreadJoins cX3_spreadJoins 3 none 0 := ⟨by decide +kernel, zT_of (i := 769) (by decide +kernel) rfl, zT_of (i := 8) (by decide +kernel) rfl, by decide +kernel, by decide +kernel, by decide +kernel, by decide⟩
theorem zm_X3_isLowest : zMY yX3_isLowest cX3_isLowest 2 (some .boolean) 1 := ⟨by decide +kernel, zT_of (i := 773) (by decide +kernel) rfl, zT_of (i := 8) (by decide +kernel) rfl, by decide +kernel, by decide +kernel, by decide +kernel, by decide⟩
theorem zm_X3_setToZero : zMY yX3_setToZero cX3_setToZero 3 none 1 := ⟨by decide +kernel, zT_of (i := 777) (by decide +kernel) rfl, zT_of (i := 8) (by decide +kernel) rfl, by decide +kernel, by decide +kernel, by decide +kernel, by decide⟩
theorem zm_X3_determinant : zMY yX3_determinant cX3_determinant 12 (some .long) 5 := ⟨by decide +kernel, zT_of (i := 788) (by decide +kernel) rfl, zT_of (i := 8) (by decide +kernel) rfl, by decide +kernel, by decide +kernel, by decide +kernel, by decide⟩
theorem zm_X4_init : zMY yX4_init cX4_init 1 none 0 := ⟨by decide +kernel, zT_of (i := 60) (by decide +kernel) rfl, zT_of (i := 4) (by decide +kernel) rfl, by decide +kernel, by decide +kernel, by decide +kernel, by decide⟩
theorem zm_X4_size : zMY yX4_size cX4_size 1 (some .int) 0 := ⟨by decide +kernel, zT_of (i := 568) (by decide +kernel) rfl, zT_of (i := 4) (by decide +kernel) rfl, by decide +kernel, by decide +kernel, by decide +kernel, by decide⟩
theorem zm_X4_isFull : zMY yX4_isFull cX4_isFull 1 (some .boolean) 0 := ⟨by decide +kernel, zT_of (i := 407) (by decide +kernel) rfl, zT_of (i := 4) (by decide +kernel) rfl, by decide +kernel, by decide +kernel, by decide +kernel, by decide⟩
theorem zm_X4_has : zMY yX4_has cX4_has 2 (some .boolean) 1 := ⟨by decide +kernel, zT_of (i := 419) (by decide +kernel) rfl, zT_of (i := 4) (by decide +kernel) rfl, by decide +kernel, by decide +kernel, by decide +kernel, by decide⟩
theorem zm_X4_add : zMY yX4_add cX4_add 6 (some .int) 5 := ⟨by decide +kernel, zT_of (i := 411) (by decide +kernel) rfl, zT_of (i := 4) (by decide +kernel) rfl, by decide +kernel, by decide +kernel, by decide +kernel, by decide⟩
theorem zm_X4_kindOf : zMY yX4_kindOf cX4_kindOf 2 (some .int) 1 := ⟨by decide +kernel, zT_of (i := 592) (by decide +kernel) rfl, zT_of (i := 4) (by decide +kernel) rfl, by decide +kernel, by decide +kernel, by decide +kernel, by decide⟩
theorem zm_X4_mouthsOf : zMY yX4_mouthsOf cX4_mouthsOf 2 (some .int) 1 := ⟨by decide +kernel, zT_of (i := 588) (by decide +kernel) rfl, zT_of (i := 4) (by decide +kernel) rfl, by decide +kernel, by decide +kernel, by decide +kernel, by decide⟩
theorem zm_X4_ownerOf : zMY yX4_ownerOf cX4_ownerOf 2 (some .int) 1 := ⟨by decide +kernel, zT_of (i := 443) (by decide +kernel) rfl, zT_of (i := 4) (by decide +kernel) rfl, by decide +kernel, by decide +kernel, by decide +kernel, by decide⟩
theorem zm_X4_isMeant : zMY yX4_isMeant cX4_isMeant 4 (some .boolean) 3 := ⟨by decide +kernel, zT_of (i := 882) (by decide +kernel) rfl, zT_of (i := 4) (by decide +kernel) rfl, by decide +kernel, by decide +kernel, by decide +kernel, by decide⟩
theorem zm_X4_isHard : zMY yX4_isHard cX4_isHard 2 (some .boolean) 1 := ⟨by decide +kernel, zT_of (i := 423) (by decide +kernel) rfl, zT_of (i := 4) (by decide +kernel) rfl, by decide +kernel, by decide +kernel, by decide +kernel, by decide⟩
theorem zm_X4_changeHard : zMY yX4_changeHard cX4_changeHard 3 none 2 := ⟨by decide +kernel, zT_of (i := 427) (by decide +kernel) rfl, zT_of (i := 4) (by decide +kernel) rfl, by decide +kernel, by decide +kernel, by decide +kernel, by decide⟩
theorem zm_X4_shownOn : zMY yX4_shownOn cX4_shownOn 2 (some .int) 1 := ⟨by decide +kernel, zT_of (i := 572) (by decide +kernel) rfl, zT_of (i := 4) (by decide +kernel) rfl, by decide +kernel, by decide +kernel, by decide +kernel, by decide⟩
theorem zm_X4_changeShown : zMY yX4_changeShown cX4_changeShown 4 (some .int) 2 := ⟨by decide +kernel, zT_of (i := 560) (by decide +kernel) rfl, zT_of (i := 4) (by decide +kernel) rfl, by decide +kernel, by decide +kernel, by decide +kernel, by decide⟩
theorem zm_X4_shutsOf : zMY yX4_shutsOf cX4_shutsOf 2 (some .int) 1 := ⟨by decide +kernel, zT_of (i := 841) (by decide +kernel) rfl, zT_of (i := 4) (by decide +kernel) rfl, by decide +kernel, by decide +kernel, by decide +kernel, by decide⟩
theorem zm_X4_addShut : zMY yX4_addShut cX4_addShut 5 (some .int) 3 := ⟨by decide +kernel, zT_of (i := 845) (by decide +kernel) rfl, zT_of (i := 4) (by decide +kernel) rfl, by decide +kernel, by decide +kernel, by decide +kernel, by decide⟩
theorem zm_X4_openDays : zMY yX4_openDays cX4_openDays 8 (some .int) 3 := ⟨by decide +kernel, zT_of (i := 886) (by decide +kernel) rfl, zT_of (i := 4) (by decide +kernel) rfl, by decide +kernel, by decide +kernel, by decide +kernel, by decide⟩
theorem zm_X4_shutPast : zMY yX4_shutPast cX4_shutPast 6 (some .int) 2 := ⟨by decide +kernel, zT_of (i := 890) (by decide +kernel) rfl, zT_of (i := 4) (by decide +kernel) rfl, by decide +kernel, by decide +kernel, by decide +kernel, by decide⟩
theorem zm_X4_nextShut : zMY yX4_nextShut cX4_nextShut 6 (some .int) 2 := ⟨by decide +kernel, zT_of (i := 894) (by decide +kernel) rfl, zT_of (i := 4) (by decide +kernel) rfl, by decide +kernel, by decide +kernel, by decide +kernel, by decide⟩
theorem zm_X5_init : zMY yX5_init cX5_init 2 none 1 := ⟨by decide +kernel, zT_of (i := 100) (by decide +kernel) rfl, zT_of (i := 5) (by decide +kernel) rfl, by decide +kernel, by decide +kernel, by decide +kernel, by decide⟩
theorem zm_X5_size : zMY yX5_size cX5_size 1 (some .int) 0 := ⟨by decide +kernel, zT_of (i := 459) (by decide +kernel) rfl, zT_of (i := 5) (by decide +kernel) rfl, by decide +kernel, by decide +kernel, by decide +kernel, by decide⟩
theorem zm_X5_takenBackSize : zMY yX5_takenBackSize cX5_takenBackSize 1 (some .int) 0 := ⟨by decide +kernel, zT_of (i := 984) (by decide +kernel) rfl, zT_of (i := 5) (by decide +kernel) rfl, by decide +kernel, by decide +kernel, by decide +kernel, by decide⟩
theorem zm_X5_isFull : zMY yX5_isFull cX5_isFull 1 (some .boolean) 0 := ⟨by decide +kernel, zT_of (i := 447) (by decide +kernel) rfl, zT_of (i := 5) (by decide +kernel) rfl, by decide +kernel, by decide +kernel, by decide +kernel, by decide⟩
theorem zm_X5_has : zMY yX5_has cX5_has 2 (some .boolean) 1 := ⟨by decide +kernel, zT_of (i := 463) (by decide +kernel) rfl, zT_of (i := 5) (by decide +kernel) rfl, by decide +kernel, by decide +kernel, by decide +kernel, by decide⟩
theorem zm_X5_add : zMY yX5_add cX5_add 5 (some .int) 4 := ⟨by decide +kernel, zT_of (i := 451) (by decide +kernel) rfl, zT_of (i := 5) (by decide +kernel) rfl, by decide +kernel, by decide +kernel, by decide +kernel, by decide⟩
theorem zm_X5_kitchenOf : zMY yX5_kitchenOf cX5_kitchenOf 2 (some .int) 1 := ⟨by decide +kernel, zT_of (i := 733) (by decide +kernel) rfl, zT_of (i := 5) (by decide +kernel) rfl, by decide +kernel, by decide +kernel, by decide +kernel, by decide⟩
theorem zm_X5_inspectorOf : zMY yX5_inspectorOf cX5_inspectorOf 2 (some .int) 1 := ⟨by decide +kernel, zT_of (i := 738) (by decide +kernel) rfl, zT_of (i := 5) (by decide +kernel) rfl, by decide +kernel, by decide +kernel, by decide +kernel, by decide⟩
theorem zm_X5_dayOf : zMY yX5_dayOf cX5_dayOf 2 (some .int) 1 := ⟨by decide +kernel, zT_of (i := 471) (by decide +kernel) rfl, zT_of (i := 5) (by decide +kernel) rfl, by decide +kernel, by decide +kernel, by decide +kernel, by decide⟩
theorem zm_X5_isTakenBack : zMY yX5_isTakenBack cX5_isTakenBack 2 (some .boolean) 1 := ⟨by decide +kernel, zT_of (i := 467) (by decide +kernel) rfl, zT_of (i := 5) (by decide +kernel) rfl, by decide +kernel, by decide +kernel, by decide +kernel, by decide⟩
theorem zm_X5_takeBack : zMY yX5_takeBack cX5_takeBack 3 none 2 := ⟨by decide +kernel, zT_of (i := 491) (by decide +kernel) rfl, zT_of (i := 5) (by decide +kernel) rfl, by decide +kernel, by decide +kernel, by decide +kernel, by decide⟩
theorem zm_X5_timesFound : zMY yX5_timesFound cX5_timesFound 3 (some .int) 2 := ⟨by decide +kernel, zT_of (i := 479) (by decide +kernel) rfl, zT_of (i := 5) (by decide +kernel) rfl, by decide +kernel, by decide +kernel, by decide +kernel, by decide⟩
theorem zm_X5_addFound : zMY yX5_addFound cX5_addFound 5 (some .int) 3 := ⟨by decide +kernel, zT_of (i := 483) (by decide +kernel) rfl, zT_of (i := 5) (by decide +kernel) rfl, by decide +kernel, by decide +kernel, by decide +kernel, by decide⟩
theorem zm_X5_latestOf : zMY yX5_latestOf cX5_latestOf 8 (some .int) 3 := ⟨by decide +kernel, zT_of (i := 544) (by decide +kernel) rfl, zT_of (i := 5) (by decide +kernel) rfl, by decide +kernel, by decide +kernel, by decide +kernel, by decide⟩
theorem zm_X5_ownScore : zMY yX5_ownScore cX5_ownScore 2 (some .int) 1 := ⟨by decide +kernel, zT_of (i := 760) (by decide +kernel) rfl, zT_of (i := 5) (by decide +kernel) rfl, by decide +kernel, by decide +kernel, by decide +kernel, by decide⟩
theorem zm_X5_scoreOn : zMY yX5_scoreOn cX5_scoreOn 6 (some .int) 2 := ⟨by decide +kernel, zT_of (i := 499) (by decide +kernel) rfl, zT_of (i := 5) (by decide +kernel) rfl, by decide +kernel, by decide +kernel, by decide +kernel, by decide⟩
theorem zm_X6_init : zMY yX6_init cX6_init 1 none 0 := ⟨by decide +kernel, zT_of (i := 138) (by decide +kernel) rfl, zT_of (i := 6) (by decide +kernel) rfl, by decide +kernel, by decide +kernel, by decide +kernel, by decide⟩
theorem zm_X6_size : zMY yX6_size cX6_size 1 (some .int) 0 := ⟨by decide +kernel, zT_of (i := 988) (by decide +kernel) rfl, zT_of (i := 6) (by decide +kernel) rfl, by decide +kernel, by decide +kernel, by decide +kernel, by decide⟩
theorem zm_X6_isFull : zMY yX6_isFull cX6_isFull 1 (some .boolean) 0 := ⟨by decide +kernel, zT_of (i := 528) (by decide +kernel) rfl, zT_of (i := 6) (by decide +kernel) rfl, by decide +kernel, by decide +kernel, by decide +kernel, by decide⟩
theorem zm_X6_add : zMY yX6_add cX6_add 7 (some .int) 5 := ⟨by decide +kernel, zT_of (i := 532) (by decide +kernel) rfl, zT_of (i := 6) (by decide +kernel) rfl, by decide +kernel, by decide +kernel, by decide +kernel, by decide⟩
theorem zm_X6_starOn : zMY yX6_starOn cX6_starOn 8 (some .int) 3 := ⟨by decide +kernel, zT_of (i := 548) (by decide +kernel) rfl, zT_of (i := 6) (by decide +kernel) rfl, by decide +kernel, by decide +kernel, by decide +kernel, by decide⟩
theorem zm_X6_inForceOn : zMY yX6_inForceOn cX6_inForceOn 5 (some .int) 1 := ⟨by decide +kernel, zT_of (i := 552) (by decide +kernel) rfl, zT_of (i := 6) (by decide +kernel) rfl, by decide +kernel, by decide +kernel, by decide +kernel, by decide⟩
theorem zm_X7_init : zMY yX7_init cX7_init 1 none 0 := ⟨by decide +kernel, zT_of (i := 269) (by decide +kernel) rfl, zT_of (i := 11) (by decide +kernel) rfl, by decide +kernel, by decide +kernel, by decide +kernel, by decide⟩
theorem zm_X7_changeBegan : zMY yX7_changeBegan cX7_changeBegan 4 (some .int) 2 := ⟨by decide +kernel, zT_of (i := 913) (by decide +kernel) rfl, zT_of (i := 11) (by decide +kernel) rfl, by decide +kernel, by decide +kernel, by decide +kernel, by decide⟩
theorem zm_X7_changeCases : zMY yX7_changeCases cX7_changeCases 6 (some .int) 3 := ⟨by decide +kernel, zT_of (i := 921) (by decide +kernel) rfl, zT_of (i := 11) (by decide +kernel) rfl, by decide +kernel, by decide +kernel, by decide +kernel, by decide⟩
theorem zm_X7_hasEffect : zMY yX7_hasEffect cX7_hasEffect 1 (some .boolean) 0 := ⟨by decide +kernel, zT_of (i := 929) (by decide +kernel) rfl, zT_of (i := 11) (by decide +kernel) rfl, by decide +kernel, by decide +kernel, by decide +kernel, by decide⟩
theorem zm_X7_trueEffect : zMY yX7_trueEffect cX7_trueEffect 1 (some (.object "DoorStars$Fraction")) 0 := ⟨by decide +kernel, zT_of (i := 944) (by decide +kernel) rfl, zT_of (i := 11) (by decide +kernel) rfl, by decide +kernel, by decide +kernel, by decide +kernel, by decide⟩
theorem zm_X7_waysNoGreater : zMY yX7_waysNoGreater cX7_waysNoGreater 5 (some .int) 0 := ⟨by decide +kernel, zT_of (i := 966) (by decide +kernel) rfl, zT_of (i := 11) (by decide +kernel) rfl, by decide +kernel, by decide +kernel, by decide +kernel, by decide⟩
theorem zm_X7_isStarted : zMY yX7_isStarted cX7_isStarted 1 (some .boolean) 1 := ⟨by decide +kernel, zT_of (i := 936) (by decide +kernel) rfl, zT_of (i := 11) (by decide +kernel) rfl, by decide +kernel, by decide +kernel, by decide +kernel, by decide⟩
theorem zm_X7_startedSize : zMY yX7_startedSize cX7_startedSize 3 (some .int) 0 := ⟨by decide +kernel, zT_of (i := 933) (by decide +kernel) rfl, zT_of (i := 11) (by decide +kernel) rfl, by decide +kernel, by decide +kernel, by decide +kernel, by decide⟩
theorem zm_X7_neverSize : zMY yX7_neverSize cX7_neverSize 3 (some .int) 0 := ⟨by decide +kernel, zT_of (i := 940) (by decide +kernel) rfl, zT_of (i := 11) (by decide +kernel) rfl, by decide +kernel, by decide +kernel, by decide +kernel, by decide⟩
theorem zm_X7_fillRises : zMY yX7_fillRises cX7_fillRises 8 none 0 := ⟨by decide +kernel, zT_of (i := 948) (by decide +kernel) rfl, zT_of (i := 11) (by decide +kernel) rfl, by decide +kernel, by decide +kernel, by decide +kernel, by decide⟩
theorem zm_X7_effectBy : zMY yX7_effectBy cX7_effectBy 7 (some .long) 1 := ⟨by decide +kernel, zT_of (i := 953) (by decide +kernel) rfl, zT_of (i := 11) (by decide +kernel) rfl, by decide +kernel, by decide +kernel, by decide +kernel, by decide⟩
theorem zm_X7_neverRise : zMY yX7_neverRise cX7_neverRise 6 (some .long) 2 := ⟨by decide +kernel, zT_of (i := 957) (by decide +kernel) rfl, zT_of (i := 11) (by decide +kernel) rfl, by decide +kernel, by decide +kernel, by decide +kernel, by decide⟩
theorem zm_X7_deal : zMY yX7_deal cX7_deal 6 none 1 := ⟨by decide +kernel, zT_of (i := 970) (by decide +kernel) rfl, zT_of (i := 11) (by decide +kernel) rfl, by decide +kernel, by decide +kernel, by decide +kernel, by decide⟩
theorem zm_X8_init : zMY yX8_init cX8_init 1 none 0 := ⟨by decide +kernel, zT_of (i := 154) (by decide +kernel) rfl, zT_of (i := 7) (by decide +kernel) rfl, by decide +kernel, by decide +kernel, by decide +kernel, by decide⟩
theorem zm_X8_open : zMY yX8_open cX8_open 3 none 2 := ⟨by decide +kernel, zT_of (i := 630) (by decide +kernel) rfl, zT_of (i := 7) (by decide +kernel) rfl, by decide +kernel, by decide +kernel, by decide +kernel, by decide⟩
theorem zm_X8_add : zMY yX8_add cX8_add 5 (some .int) 3 := ⟨by decide +kernel, zT_of (i := 645) (by decide +kernel) rfl, zT_of (i := 7) (by decide +kernel) rfl, by decide +kernel, by decide +kernel, by decide +kernel, by decide⟩
theorem zm_X8_setPrice : zMY yX8_setPrice cX8_setPrice 4 none 3 := ⟨by decide +kernel, zT_of (i := 649) (by decide +kernel) rfl, zT_of (i := 7) (by decide +kernel) rfl, by decide +kernel, by decide +kernel, by decide +kernel, by decide⟩
theorem zm_X8_dayAt : zMY yX8_dayAt cX8_dayAt 3 (some .int) 1 := ⟨by decide +kernel, zT_of (i := 716) (by decide +kernel) rfl, zT_of (i := 7) (by decide +kernel) rfl, by decide +kernel, by decide +kernel, by decide +kernel, by decide⟩
theorem zm_X8_handsAt : zMY yX8_handsAt cX8_handsAt 3 (some .int) 1 := ⟨by decide +kernel, zT_of (i := 712) (by decide +kernel) rfl, zT_of (i := 7) (by decide +kernel) rfl, by decide +kernel, by decide +kernel, by decide +kernel, by decide⟩
theorem zm_X8_settleAll : zMY yX8_settleAll cX8_settleAll 4 (some .int) 0 := ⟨by decide +kernel, zT_of (i := 653) (by decide +kernel) rfl, zT_of (i := 7) (by decide +kernel) rfl, by decide +kernel, by decide +kernel, by decide +kernel, by decide⟩
theorem zm_X8_settle : zMY yX8_settle cX8_settle 6 (some .int) 2 := ⟨by decide +kernel, zT_of (i := 692) (by decide +kernel) rfl, zT_of (i := 7) (by decide +kernel) rfl, by decide +kernel, by decide +kernel, by decide +kernel, by decide⟩
theorem zm_X8_choose : zMY yX8_choose cX8_choose 4 (some .int) 3 := ⟨by decide +kernel, zT_of (i := 704) (by decide +kernel) rfl, zT_of (i := 7) (by decide +kernel) rfl, by decide +kernel, by decide +kernel, by decide +kernel, by decide⟩
theorem zm_X8_priceOf : zMY yX8_priceOf cX8_priceOf 3 (some .int) 2 := ⟨by decide +kernel, zT_of (i := 675) (by decide +kernel) rfl, zT_of (i := 7) (by decide +kernel) rfl, by decide +kernel, by decide +kernel, by decide +kernel, by decide⟩
theorem zm_X8_mayTake : zMY yX8_mayTake cX8_mayTake 5 (some .boolean) 3 := ⟨by decide +kernel, zT_of (i := 696) (by decide +kernel) rfl, zT_of (i := 7) (by decide +kernel) rfl, by decide +kernel, by decide +kernel, by decide +kernel, by decide⟩
theorem zm_X8_changeRoom : zMY yX8_changeRoom cX8_changeRoom 5 none 3 := ⟨by decide +kernel, zT_of (i := 700) (by decide +kernel) rfl, zT_of (i := 7) (by decide +kernel) rfl, by decide +kernel, by decide +kernel, by decide +kernel, by decide⟩
theorem zm_X8_fillBound : zMY yX8_fillBound cX8_fillBound 8 none 0 := ⟨by decide +kernel, zT_of (i := 657) (by decide +kernel) rfl, zT_of (i := 7) (by decide +kernel) rfl, by decide +kernel, by decide +kernel, by decide +kernel, by decide⟩
theorem zm_X8_leastFrom : zMY yX8_leastFrom cX8_leastFrom 6 (some .int) 1 := ⟨by decide +kernel, zT_of (i := 667) (by decide +kernel) rfl, zT_of (i := 7) (by decide +kernel) rfl, by decide +kernel, by decide +kernel, by decide +kernel, by decide⟩
theorem zm_X8_leastWithDay : zMY yX8_leastWithDay cX8_leastWithDay 5 (some .int) 1 := ⟨by decide +kernel, zT_of (i := 688) (by decide +kernel) rfl, zT_of (i := 7) (by decide +kernel) rfl, by decide +kernel, by decide +kernel, by decide +kernel, by decide⟩
theorem zm_X8_fillSums : zMY yX8_fillSums cX8_fillSums 8 none 3 := ⟨by decide +kernel, zT_of (i := 671) (by decide +kernel) rfl, zT_of (i := 7) (by decide +kernel) rfl, by decide +kernel, by decide +kernel, by decide +kernel, by decide⟩
theorem zm_X8_barWhatFitsNot : zMY yX8_barWhatFitsNot cX8_barWhatFitsNot 7 none 3 := ⟨by decide +kernel, zT_of (i := 679) (by decide +kernel) rfl, zT_of (i := 7) (by decide +kernel) rfl, by decide +kernel, by decide +kernel, by decide +kernel, by decide⟩
theorem zm_X8_roomOf : zMY yX8_roomOf cX8_roomOf 5 (some .int) 2 := ⟨by decide +kernel, zT_of (i := 683) (by decide +kernel) rfl, zT_of (i := 7) (by decide +kernel) rfl, by decide +kernel, by decide +kernel, by decide +kernel, by decide⟩
theorem zm_X9_init : zMY yX9_init cX9_init 1 none 0 := ⟨by decide +kernel, zT_of (i := 19) (by decide +kernel) rfl, zT_of (i := 1) (by decide +kernel) rfl, by decide +kernel, by decide +kernel, by decide +kernel, by decide⟩
theorem zm_X9_days : zMY yX9_days cX9_days 2 (some .int) 1 := ⟨by decide +kernel, zT_of (i := 348) (by decide +kernel) rfl, zT_of (i := 1) (by decide +kernel) rfl, by decide +kernel, by decide +kernel, by decide +kernel, by decide⟩
theorem zm_X9_code : zMY yX9_code cX9_code 4 (some .int) 3 := ⟨by decide +kernel, zT_of (i := 356) (by decide +kernel) rfl, zT_of (i := 1) (by decide +kernel) rfl, by decide +kernel, by decide +kernel, by decide +kernel, by decide⟩
theorem zm_X9_turn : zMY yX9_turn cX9_turn 4 (some .int) 3 := ⟨by decide +kernel, zT_of (i := 371) (by decide +kernel) rfl, zT_of (i := 1) (by decide +kernel) rfl, by decide +kernel, by decide +kernel, by decide +kernel, by decide⟩
theorem zm_X9_stands : zMY yX9_stands cX9_stands 3 (some .int) 2 := ⟨by decide +kernel, zT_of (i := 387) (by decide +kernel) rfl, zT_of (i := 1) (by decide +kernel) rfl, by decide +kernel, by decide +kernel, by decide +kernel, by decide⟩
theorem zm_X9_most : zMY yX9_most cX9_most 3 (some .int) 2 := ⟨by decide +kernel, zT_of (i := 395) (by decide +kernel) rfl, zT_of (i := 1) (by decide +kernel) rfl, by decide +kernel, by decide +kernel, by decide +kernel, by decide⟩
theorem zm_X9_kitchen : zMY yX9_kitchen cX9_kitchen 6 (some .int) 5 := ⟨by decide +kernel, zT_of (i := 403) (by decide +kernel) rfl, zT_of (i := 1) (by decide +kernel) rfl, by decide +kernel, by decide +kernel, by decide +kernel, by decide⟩
theorem zm_X9_hard : zMY yX9_hard cX9_hard 3 (some .int) 2 := ⟨by decide +kernel, zT_of (i := 415) (by decide +kernel) rfl, zT_of (i := 1) (by decide +kernel) rfl, by decide +kernel, by decide +kernel, by decide +kernel, by decide⟩
theorem zm_X9_kin : zMY yX9_kin cX9_kin 4 (some .int) 3 := ⟨by decide +kernel, zT_of (i := 431) (by decide +kernel) rfl, zT_of (i := 1) (by decide +kernel) rfl, by decide +kernel, by decide +kernel, by decide +kernel, by decide⟩
theorem zm_X9_look : zMY yX9_look cX9_look 4 (some .int) 3 := ⟨by decide +kernel, zT_of (i := 439) (by decide +kernel) rfl, zT_of (i := 1) (by decide +kernel) rfl, by decide +kernel, by decide +kernel, by decide +kernel, by decide⟩
theorem zm_X9_find : zMY yX9_find cX9_find 4 (some .int) 2 := ⟨by decide +kernel, zT_of (i := 455) (by decide +kernel) rfl, zT_of (i := 1) (by decide +kernel) rfl, by decide +kernel, by decide +kernel, by decide +kernel, by decide⟩
theorem zm_X9_back : zMY yX9_back cX9_back 2 (some .int) 1 := ⟨by decide +kernel, zT_of (i := 487) (by decide +kernel) rfl, zT_of (i := 1) (by decide +kernel) rfl, by decide +kernel, by decide +kernel, by decide +kernel, by decide⟩
theorem zm_X9_score : zMY yX9_score cX9_score 3 (some .int) 2 := ⟨by decide +kernel, zT_of (i := 495) (by decide +kernel) rfl, zT_of (i := 1) (by decide +kernel) rfl, by decide +kernel, by decide +kernel, by decide +kernel, by decide⟩
theorem zm_X9_table : zMY yX9_table cX9_table 6 (some .int) 5 := ⟨by decide +kernel, zT_of (i := 524) (by decide +kernel) rfl, zT_of (i := 1) (by decide +kernel) rfl, by decide +kernel, by decide +kernel, by decide +kernel, by decide⟩
theorem zm_X9_star : zMY yX9_star cX9_star 4 (some .int) 3 := ⟨by decide +kernel, zT_of (i := 536) (by decide +kernel) rfl, zT_of (i := 1) (by decide +kernel) rfl, by decide +kernel, by decide +kernel, by decide +kernel, by decide⟩
theorem zm_X9_show : zMY yX9_show cX9_show 3 (some .int) 2 := ⟨by decide +kernel, zT_of (i := 556) (by decide +kernel) rfl, zT_of (i := 1) (by decide +kernel) rfl, by decide +kernel, by decide +kernel, by decide +kernel, by decide⟩
theorem zm_X9_falses : zMY yX9_falses cX9_falses 3 (some .int) 0 := ⟨by decide +kernel, zT_of (i := 564) (by decide +kernel) rfl, zT_of (i := 1) (by decide +kernel) rfl, by decide +kernel, by decide +kernel, by decide +kernel, by decide⟩
theorem zm_X9_base : zMY yX9_base cX9_base 4 (some .int) 2 := ⟨by decide +kernel, zT_of (i := 576) (by decide +kernel) rfl, zT_of (i := 1) (by decide +kernel) rfl, by decide +kernel, by decide +kernel, by decide +kernel, by decide⟩
theorem zm_X9_risk : zMY yX9_risk cX9_risk 3 (some .int) 2 := ⟨by decide +kernel, zT_of (i := 580) (by decide +kernel) rfl, zT_of (i := 1) (by decide +kernel) rfl, by decide +kernel, by decide +kernel, by decide +kernel, by decide⟩
theorem zm_X9_delay : zMY yX9_delay cX9_delay 4 (some .int) 2 := ⟨by decide +kernel, zT_of (i := 603) (by decide +kernel) rfl, zT_of (i := 1) (by decide +kernel) rfl, by decide +kernel, by decide +kernel, by decide +kernel, by decide⟩
theorem zm_X9_capacity : zMY yX9_capacity cX9_capacity 3 (some .int) 1 := ⟨by decide +kernel, zT_of (i := 610) (by decide +kernel) rfl, zT_of (i := 1) (by decide +kernel) rfl, by decide +kernel, by decide +kernel, by decide +kernel, by decide⟩
theorem zm_X9_rounds : zMY yX9_rounds cX9_rounds 2 (some .int) 1 := ⟨by decide +kernel, zT_of (i := 614) (by decide +kernel) rfl, zT_of (i := 1) (by decide +kernel) rfl, by decide +kernel, by decide +kernel, by decide +kernel, by decide⟩
theorem zm_X9_roundOf : zMY yX9_roundOf cX9_roundOf 5 (some .int) 3 := ⟨by decide +kernel, zT_of (i := 708) (by decide +kernel) rfl, zT_of (i := 1) (by decide +kernel) rfl, by decide +kernel, by decide +kernel, by decide +kernel, by decide⟩
theorem zm_X9_doubles : zMY yX9_doubles cX9_doubles 1 (some .int) 0 := ⟨by decide +kernel, zT_of (i := 720) (by decide +kernel) rfl, zT_of (i := 1) (by decide +kernel) rfl, by decide +kernel, by decide +kernel, by decide +kernel, by decide⟩
theorem zm_X9_habit : zMY yX9_habit cX9_habit 3 (some .long) 2 := ⟨by decide +kernel, zT_of (i := 743) (by decide +kernel) rfl, zT_of (i := 1) (by decide +kernel) rfl, by decide +kernel, by decide +kernel, by decide +kernel, by decide⟩
theorem zm_X9_evened : zMY yX9_evened cX9_evened 3 (some .long) 2 := ⟨by decide +kernel, zT_of (i := 806) (by decide +kernel) rfl, zT_of (i := 1) (by decide +kernel) rfl, by decide +kernel, by decide +kernel, by decide +kernel, by decide⟩
theorem zm_X9_others : zMY yX9_others cX9_others 4 (some .int) 0 := ⟨by decide +kernel, zT_of (i := 817) (by decide +kernel) rfl, zT_of (i := 1) (by decide +kernel) rfl, by decide +kernel, by decide +kernel, by decide +kernel, by decide⟩
theorem zm_X9_swap : zMY yX9_swap cX9_swap 4 (some .int) 3 := ⟨by decide +kernel, zT_of (i := 825) (by decide +kernel) rfl, zT_of (i := 1) (by decide +kernel) rfl, by decide +kernel, by decide +kernel, by decide +kernel, by decide⟩
theorem zm_X9_shut : zMY yX9_shut cX9_shut 4 (some .int) 3 := ⟨by decide +kernel, zT_of (i := 837) (by decide +kernel) rfl, zT_of (i := 1) (by decide +kernel) rfl, by decide +kernel, by decide +kernel, by decide +kernel, by decide⟩
theorem zm_X9_complaint : zMY yX9_complaint cX9_complaint 5 (some .int) 4 := ⟨by decide +kernel, zT_of (i := 849) (by decide +kernel) rfl, zT_of (i := 1) (by decide +kernel) rfl, by decide +kernel, by decide +kernel, by decide +kernel, by decide⟩
theorem zm_X9_part : zMY yX9_part cX9_part 4 (some .int) 3 := ⟨by decide +kernel, zT_of (i := 861) (by decide +kernel) rfl, zT_of (i := 1) (by decide +kernel) rfl, by decide +kernel, by decide +kernel, by decide +kernel, by decide⟩
theorem zm_X9_joined : zMY yX9_joined cX9_joined 2 (some .int) 1 := ⟨by decide +kernel, zT_of (i := 901) (by decide +kernel) rfl, zT_of (i := 1) (by decide +kernel) rfl, by decide +kernel, by decide +kernel, by decide +kernel, by decide⟩
theorem zm_X9_began : zMY yX9_began cX9_began 3 (some .int) 2 := ⟨by decide +kernel, zT_of (i := 909) (by decide +kernel) rfl, zT_of (i := 1) (by decide +kernel) rfl, by decide +kernel, by decide +kernel, by decide +kernel, by decide⟩
theorem zm_X9_cases : zMY yX9_cases cX9_cases 4 (some .int) 3 := ⟨by decide +kernel, zT_of (i := 917) (by decide +kernel) rfl, zT_of (i := 1) (by decide +kernel) rfl, by decide +kernel, by decide +kernel, by decide +kernel, by decide⟩
theorem zm_X9_effect : zMY yX9_effect cX9_effect 2 (some .long) 1 := ⟨by decide +kernel, zT_of (i := 925) (by decide +kernel) rfl, zT_of (i := 1) (by decide +kernel) rfl, by decide +kernel, by decide +kernel, by decide +kernel, by decide⟩
theorem zm_X9_chance : zMY yX9_chance cX9_chance 1 (some .int) 0 := ⟨by decide +kernel, zT_of (i := 962) (by decide +kernel) rfl, zT_of (i := 1) (by decide +kernel) rfl, by decide +kernel, by decide +kernel, by decide +kernel, by decide⟩
theorem zm_X9_helped : zMY yX9_helped cX9_helped 1 (some .int) 0 := ⟨by decide +kernel, zT_of (i := 975) (by decide +kernel) rfl, zT_of (i := 1) (by decide +kernel) rfl, by decide +kernel, by decide +kernel, by decide +kernel, by decide⟩
theorem zm_X9_count : zMY yX9_count cX9_count 2 (some .int) 1 := ⟨by decide +kernel, zT_of (i := 979) (by decide +kernel) rfl, zT_of (i := 1) (by decide +kernel) rfl, by decide +kernel, by decide +kernel, by decide +kernel, by decide⟩
theorem zm_X9_refused : zMY yX9_refused cX9_refused 2 (some .int) 1 := ⟨by decide +kernel, zT_of (i := 352) (by decide +kernel) rfl, zT_of (i := 1) (by decide +kernel) rfl, by decide +kernel, by decide +kernel, by decide +kernel, by decide⟩
theorem zm_X9_refusedLong : zMY yX9_refusedLong cX9_refusedLong 2 (some .long) 1 := ⟨by decide +kernel, zT_of (i := 747) (by decide +kernel) rfl, zT_of (i := 1) (by decide +kernel) rfl, by decide +kernel, by decide +kernel, by decide +kernel, by decide⟩
theorem zm_X9_refusalsOf : zMY yX9_refusalsOf cX9_refusalsOf 2 (some .int) 1 := ⟨by decide +kernel, zT_of (i := 1001) (by decide +kernel) rfl, zT_of (i := 1) (by decide +kernel) rfl, by decide +kernel, by decide +kernel, by decide +kernel, by decide⟩
theorem zm_X9_isWithin : zMY yX9_isWithin cX9_isWithin 2 (some .boolean) 2 := ⟨by decide +kernel, zT_of (i := 359) (by decide +kernel) rfl, zT_of (i := 1) (by decide +kernel) rfl, by decide +kernel, by decide +kernel, by decide +kernel, by decide⟩
theorem zm_X9_isKin : zMY yX9_isKin cX9_isKin 3 (some .boolean) 2 := ⟨by decide +kernel, zT_of (i := 435) (by decide +kernel) rfl, zT_of (i := 1) (by decide +kernel) rfl, by decide +kernel, by decide +kernel, by decide +kernel, by decide⟩
theorem zm_X9_starOf : zMY yX9_starOf cX9_starOf 6 (some .int) 3 := ⟨by decide +kernel, zT_of (i := 540) (by decide +kernel) rfl, zT_of (i := 1) (by decide +kernel) rfl, by decide +kernel, by decide +kernel, by decide +kernel, by decide⟩
theorem zm_X9_riskOf : zMY yX9_riskOf cX9_riskOf 5 (some .int) 1 := ⟨by decide +kernel, zT_of (i := 584) (by decide +kernel) rfl, zT_of (i := 1) (by decide +kernel) rfl, by decide +kernel, by decide +kernel, by decide +kernel, by decide⟩
theorem zm_X9_dueOf : zMY yX9_dueOf cX9_dueOf 4 (some .int) 2 := ⟨by decide +kernel, zT_of (i := 596) (by decide +kernel) rfl, zT_of (i := 1) (by decide +kernel) rfl, by decide +kernel, by decide +kernel, by decide +kernel, by decide⟩
theorem zm_X9_delayCost : zMY yX9_delayCost cX9_delayCost 6 (some .int) 3 := ⟨by decide +kernel, zT_of (i := 606) (by decide +kernel) rfl, zT_of (i := 1) (by decide +kernel) rfl, by decide +kernel, by decide +kernel, by decide +kernel, by decide⟩
theorem zm_X9_planWeek : zMY yX9_planWeek cX9_planWeek 4 (some .int) 1 := ⟨by decide +kernel, zT_of (i := 618) (by decide +kernel) rfl, zT_of (i := 1) (by decide +kernel) rfl, by decide +kernel, by decide +kernel, by decide +kernel, by decide⟩
theorem zm_X9_dearestToLeave : zMY yX9_dearestToLeave cX9_dearestToLeave 4 (some .int) 0 := ⟨by decide +kernel, zT_of (i := 622) (by decide +kernel) rfl, zT_of (i := 1) (by decide +kernel) rfl, by decide +kernel, by decide +kernel, by decide +kernel, by decide⟩
theorem zm_X9_dearestBeside : zMY yX9_dearestBeside cX9_dearestBeside 5 (some .int) 1 := ⟨by decide +kernel, zT_of (i := 626) (by decide +kernel) rfl, zT_of (i := 1) (by decide +kernel) rfl, by decide +kernel, by decide +kernel, by decide +kernel, by decide⟩
theorem zm_X9_enterWeek : zMY yX9_enterWeek cX9_enterWeek 8 none 2 := ⟨by decide +kernel, zT_of (i := 637) (by decide +kernel) rfl, zT_of (i := 1) (by decide +kernel) rfl, by decide +kernel, by decide +kernel, by decide +kernel, by decide⟩
theorem zm_X9_handsFree : zMY yX9_handsFree cX9_handsFree 5 (some .int) 2 := ⟨by decide +kernel, zT_of (i := 641) (by decide +kernel) rfl, zT_of (i := 1) (by decide +kernel) rfl, by decide +kernel, by decide +kernel, by decide +kernel, by decide⟩
theorem zm_X9_evenScore : zMY yX9_evenScore cX9_evenScore 5 none 1 := ⟨by decide +kernel, zT_of (i := 810) (by decide +kernel) rfl, zT_of (i := 1) (by decide +kernel) rfl, by decide +kernel, by decide +kernel, by decide +kernel, by decide⟩
theorem zm_X9_isOtherWhenEvened : zMY yX9_isOtherWhenEvened cX9_isOtherWhenEvened 4 (some .boolean) 1 := ⟨by decide +kernel, zT_of (i := 821) (by decide +kernel) rfl, zT_of (i := 1) (by decide +kernel) rfl, by decide +kernel, by decide +kernel, by decide +kernel, by decide⟩
theorem zm_X9_dealSeats : zMY yX9_dealSeats cX9_dealSeats 7 none 2 := ⟨by decide +kernel, zT_of (i := 829) (by decide +kernel) rfl, zT_of (i := 1) (by decide +kernel) rfl, by decide +kernel, by decide +kernel, by decide +kernel, by decide⟩
theorem zm_X10_init : zMY yX10_init cX10_init 1 none 0 := ⟨by decide +kernel, zT_of (i := 1006) (by decide +kernel) rfl, zT_of (i := 12) (by decide +kernel) rfl, by decide +kernel, by decide +kernel, by decide +kernel, by decide⟩
theorem zm_X10_in : zMY yX10_in cX10_in 3 (some .boolean) 3 := ⟨by decide +kernel, zT_of (i := 1209) (by decide +kernel) rfl, zT_of (i := 12) (by decide +kernel) rfl, by decide +kernel, by decide +kernel, by decide +kernel, by decide⟩
theorem zm_X10_refuse : zMY yX10_refuse cX10_refuse 2 (some .int) 1 := ⟨by decide +kernel, zT_of (i := 1202) (by decide +kernel) rfl, zT_of (i := 12) (by decide +kernel) rfl, by decide +kernel, by decide +kernel, by decide +kernel, by decide⟩
theorem zm_X10_refuseFar : zMY yX10_refuseFar cX10_refuseFar 2 (some .long) 1 := ⟨by decide +kernel, zT_of (i := 1379) (by decide +kernel) rfl, zT_of (i := 12) (by decide +kernel) rfl, by decide +kernel, by decide +kernel, by decide +kernel, by decide⟩
theorem zm_X10_divisor : zMY yX10_divisor cX10_divisor 10 (some .long) 2 := ⟨by decide +kernel, zT_of (i := 1403) (by decide +kernel) rfl, zT_of (i := 12) (by decide +kernel) rfl, by decide +kernel, by decide +kernel, by decide +kernel, by decide⟩
theorem zm_X10_wrongDay : zMY yX10_wrongDay cX10_wrongDay 1 (some .int) 1 := ⟨by decide +kernel, zT_of (i := 1224) (by decide +kernel) rfl, zT_of (i := 12) (by decide +kernel) rfl, by decide +kernel, by decide +kernel, by decide +kernel, by decide⟩
theorem zm_X10_isKitchen : zMY yX10_isKitchen cX10_isKitchen 2 (some .boolean) 1 := ⟨by decide +kernel, zT_of (i := 1244) (by decide +kernel) rfl, zT_of (i := 12) (by decide +kernel) rfl, by decide +kernel, by decide +kernel, by decide +kernel, by decide⟩
theorem zm_X10_isLook : zMY yX10_isLook cX10_isLook 2 (some .boolean) 1 := ⟨by decide +kernel, zT_of (i := 1264) (by decide +kernel) rfl, zT_of (i := 12) (by decide +kernel) rfl, by decide +kernel, by decide +kernel, by decide +kernel, by decide⟩
theorem zm_X10_days : zMY yX10_days cX10_days 2 (some .int) 1 := ⟨by decide +kernel, zT_of (i := 1198) (by decide +kernel) rfl, zT_of (i := 12) (by decide +kernel) rfl, by decide +kernel, by decide +kernel, by decide +kernel, by decide⟩
theorem zm_X10_code : zMY yX10_code cX10_code 4 (some .int) 3 := ⟨by decide +kernel, zT_of (i := 1206) (by decide +kernel) rfl, zT_of (i := 12) (by decide +kernel) rfl, by decide +kernel, by decide +kernel, by decide +kernel, by decide⟩
theorem zm_X10_isCode : zMY yX10_isCode cX10_isCode 2 (some .boolean) 1 := ⟨by decide +kernel, zT_of (i := 1217) (by decide +kernel) rfl, zT_of (i := 12) (by decide +kernel) rfl, by decide +kernel, by decide +kernel, by decide +kernel, by decide⟩
theorem zm_X10_turn : zMY yX10_turn cX10_turn 4 (some .int) 3 := ⟨by decide +kernel, zT_of (i := 1213) (by decide +kernel) rfl, zT_of (i := 12) (by decide +kernel) rfl, by decide +kernel, by decide +kernel, by decide +kernel, by decide⟩
theorem zm_X10_standsFor : zMY yX10_standsFor cX10_standsFor 4 (some .int) 2 := ⟨by decide +kernel, zT_of (i := 1228) (by decide +kernel) rfl, zT_of (i := 12) (by decide +kernel) rfl, by decide +kernel, by decide +kernel, by decide +kernel, by decide⟩
theorem zm_X10_stands : zMY yX10_stands cX10_stands 3 (some .int) 2 := ⟨by decide +kernel, zT_of (i := 1221) (by decide +kernel) rfl, zT_of (i := 12) (by decide +kernel) rfl, by decide +kernel, by decide +kernel, by decide +kernel, by decide⟩
theorem zm_X10_most : zMY yX10_most cX10_most 4 (some .int) 2 := ⟨by decide +kernel, zT_of (i := 1232) (by decide +kernel) rfl, zT_of (i := 12) (by decide +kernel) rfl, by decide +kernel, by decide +kernel, by decide +kernel, by decide⟩
theorem zm_X10_kitchen : zMY yX10_kitchen cX10_kitchen 6 (some .int) 5 := ⟨by decide +kernel, zT_of (i := 1236) (by decide +kernel) rfl, zT_of (i := 12) (by decide +kernel) rfl, by decide +kernel, by decide +kernel, by decide +kernel, by decide⟩
theorem zm_X10_hard : zMY yX10_hard cX10_hard 4 (some .int) 2 := ⟨by decide +kernel, zT_of (i := 1240) (by decide +kernel) rfl, zT_of (i := 12) (by decide +kernel) rfl, by decide +kernel, by decide +kernel, by decide +kernel, by decide⟩
theorem zm_X10_kin : zMY yX10_kin cX10_kin 5 (some .int) 3 := ⟨by decide +kernel, zT_of (i := 1248) (by decide +kernel) rfl, zT_of (i := 12) (by decide +kernel) rfl, by decide +kernel, by decide +kernel, by decide +kernel, by decide⟩
theorem zm_X10_look : zMY yX10_look cX10_look 4 (some .int) 3 := ⟨by decide +kernel, zT_of (i := 1252) (by decide +kernel) rfl, zT_of (i := 12) (by decide +kernel) rfl, by decide +kernel, by decide +kernel, by decide +kernel, by decide⟩
theorem zm_X10_find : zMY yX10_find cX10_find 4 (some .int) 2 := ⟨by decide +kernel, zT_of (i := 1256) (by decide +kernel) rfl, zT_of (i := 12) (by decide +kernel) rfl, by decide +kernel, by decide +kernel, by decide +kernel, by decide⟩
theorem zm_X10_back : zMY yX10_back cX10_back 2 (some .int) 1 := ⟨by decide +kernel, zT_of (i := 1260) (by decide +kernel) rfl, zT_of (i := 12) (by decide +kernel) rfl, by decide +kernel, by decide +kernel, by decide +kernel, by decide⟩
theorem zm_X10_scoreOf : zMY yX10_scoreOf cX10_scoreOf 5 (some .int) 2 := ⟨by decide +kernel, zT_of (i := 1272) (by decide +kernel) rfl, zT_of (i := 12) (by decide +kernel) rfl, by decide +kernel, by decide +kernel, by decide +kernel, by decide⟩
theorem zm_X10_score : zMY yX10_score cX10_score 3 (some .int) 2 := ⟨by decide +kernel, zT_of (i := 1268) (by decide +kernel) rfl, zT_of (i := 12) (by decide +kernel) rfl, by decide +kernel, by decide +kernel, by decide +kernel, by decide⟩
theorem zm_X10_table : zMY yX10_table cX10_table 6 (some .int) 5 := ⟨by decide +kernel, zT_of (i := 1276) (by decide +kernel) rfl, zT_of (i := 12) (by decide +kernel) rfl, by decide +kernel, by decide +kernel, by decide +kernel, by decide⟩
theorem zm_X10_starBy : zMY yX10_starBy cX10_starBy 9 (some .int) 3 := ⟨by decide +kernel, zT_of (i := 1296) (by decide +kernel) rfl, zT_of (i := 12) (by decide +kernel) rfl, by decide +kernel, by decide +kernel, by decide +kernel, by decide⟩
theorem zm_X10_countsBy : zMY yX10_countsBy cX10_countsBy 3 (some .boolean) 2 := ⟨by decide +kernel, zT_of (i := 1292) (by decide +kernel) rfl, zT_of (i := 12) (by decide +kernel) rfl, by decide +kernel, by decide +kernel, by decide +kernel, by decide⟩
theorem zm_X10_lookOn : zMY yX10_lookOn cX10_lookOn 7 (some .int) 3 := ⟨by decide +kernel, zT_of (i := 1288) (by decide +kernel) rfl, zT_of (i := 12) (by decide +kernel) rfl, by decide +kernel, by decide +kernel, by decide +kernel, by decide⟩
theorem zm_X10_starOf : zMY yX10_starOf cX10_starOf 5 (some .int) 3 := ⟨by decide +kernel, zT_of (i := 1284) (by decide +kernel) rfl, zT_of (i := 12) (by decide +kernel) rfl, by decide +kernel, by decide +kernel, by decide +kernel, by decide⟩
theorem zm_X10_star : zMY yX10_star cX10_star 4 (some .int) 3 := ⟨by decide +kernel, zT_of (i := 1280) (by decide +kernel) rfl, zT_of (i := 12) (by decide +kernel) rfl, by decide +kernel, by decide +kernel, by decide +kernel, by decide⟩
theorem zm_X10_show : zMY yX10_show cX10_show 4 (some .int) 2 := ⟨by decide +kernel, zT_of (i := 1300) (by decide +kernel) rfl, zT_of (i := 12) (by decide +kernel) rfl, by decide +kernel, by decide +kernel, by decide +kernel, by decide⟩
theorem zm_X10_falses : zMY yX10_falses cX10_falses 3 (some .int) 0 := ⟨by decide +kernel, zT_of (i := 1304) (by decide +kernel) rfl, zT_of (i := 12) (by decide +kernel) rfl, by decide +kernel, by decide +kernel, by decide +kernel, by decide⟩
theorem zm_X10_base : zMY yX10_base cX10_base 4 (some .int) 2 := ⟨by decide +kernel, zT_of (i := 1308) (by decide +kernel) rfl, zT_of (i := 12) (by decide +kernel) rfl, by decide +kernel, by decide +kernel, by decide +kernel, by decide⟩
theorem zm_X10_riskOf : zMY yX10_riskOf cX10_riskOf 3 (some .int) 1 := ⟨by decide +kernel, zT_of (i := 1316) (by decide +kernel) rfl, zT_of (i := 12) (by decide +kernel) rfl, by decide +kernel, by decide +kernel, by decide +kernel, by decide⟩
theorem zm_X10_dueOf : zMY yX10_dueOf cX10_dueOf 4 (some .int) 1 := ⟨by decide +kernel, zT_of (i := 1320) (by decide +kernel) rfl, zT_of (i := 12) (by decide +kernel) rfl, by decide +kernel, by decide +kernel, by decide +kernel, by decide⟩
theorem zm_X10_risk : zMY yX10_risk cX10_risk 3 (some .int) 2 := ⟨by decide +kernel, zT_of (i := 1312) (by decide +kernel) rfl, zT_of (i := 12) (by decide +kernel) rfl, by decide +kernel, by decide +kernel, by decide +kernel, by decide⟩
theorem zm_X10_costOf : zMY yX10_costOf cX10_costOf 6 (some .int) 2 := ⟨by decide +kernel, zT_of (i := 1328) (by decide +kernel) rfl, zT_of (i := 12) (by decide +kernel) rfl, by decide +kernel, by decide +kernel, by decide +kernel, by decide⟩
theorem zm_X10_delay : zMY yX10_delay cX10_delay 3 (some .int) 2 := ⟨by decide +kernel, zT_of (i := 1324) (by decide +kernel) rfl, zT_of (i := 12) (by decide +kernel) rfl, by decide +kernel, by decide +kernel, by decide +kernel, by decide⟩
theorem zm_X10_capacity : zMY yX10_capacity cX10_capacity 3 (some .int) 1 := ⟨by decide +kernel, zT_of (i := 1332) (by decide +kernel) rfl, zT_of (i := 12) (by decide +kernel) rfl, by decide +kernel, by decide +kernel, by decide +kernel, by decide⟩
theorem zm_X10_ask : zMY yX10_ask cX10_ask 6 none 0 := ⟨by decide +kernel, zT_of (i := 1348) (by decide +kernel) rfl, zT_of (i := 12) (by decide +kernel) rfl, by decide +kernel, by decide +kernel, by decide +kernel, by decide⟩
theorem zm_X10_ones : zMY yX10_ones cX10_ones 3 (some .int) 1 := ⟨by decide +kernel, zT_of (i := 1359) (by decide +kernel) rfl, zT_of (i := 12) (by decide +kernel) rfl, by decide +kernel, by decide +kernel, by decide +kernel, by decide⟩
theorem zm_X10_mayTake : zMY yX10_mayTake cX10_mayTake 7 (some .boolean) 3 := ⟨by decide +kernel, zT_of (i := 1356) (by decide +kernel) rfl, zT_of (i := 12) (by decide +kernel) rfl, by decide +kernel, by decide +kernel, by decide +kernel, by decide⟩
theorem zm_X10_use : zMY yX10_use cX10_use 4 none 2 := ⟨by decide +kernel, zT_of (i := 1352) (by decide +kernel) rfl, zT_of (i := 12) (by decide +kernel) rfl, by decide +kernel, by decide +kernel, by decide +kernel, by decide⟩
theorem zm_X10_findRounds : zMY yX10_findRounds cX10_findRounds 5 (some .int) 1 := ⟨by decide +kernel, zT_of (i := 1344) (by decide +kernel) rfl, zT_of (i := 12) (by decide +kernel) rfl, by decide +kernel, by decide +kernel, by decide +kernel, by decide⟩
theorem zm_X10_wrongRounds : zMY yX10_wrongRounds cX10_wrongRounds 2 (some .int) 1 := ⟨by decide +kernel, zT_of (i := 1340) (by decide +kernel) rfl, zT_of (i := 12) (by decide +kernel) rfl, by decide +kernel, by decide +kernel, by decide +kernel, by decide⟩
theorem zm_X10_rounds : zMY yX10_rounds cX10_rounds 3 (some .int) 1 := ⟨by decide +kernel, zT_of (i := 1336) (by decide +kernel) rfl, zT_of (i := 12) (by decide +kernel) rfl, by decide +kernel, by decide +kernel, by decide +kernel, by decide⟩
theorem zm_X10_roundOf : zMY yX10_roundOf cX10_roundOf 8 (some .int) 3 := ⟨by decide +kernel, zT_of (i := 1363) (by decide +kernel) rfl, zT_of (i := 12) (by decide +kernel) rfl, by decide +kernel, by decide +kernel, by decide +kernel, by decide⟩
theorem zm_X10_isDouble : zMY yX10_isDouble cX10_isDouble 3 (some .boolean) 2 := ⟨by decide +kernel, zT_of (i := 1371) (by decide +kernel) rfl, zT_of (i := 12) (by decide +kernel) rfl, by decide +kernel, by decide +kernel, by decide +kernel, by decide⟩
theorem zm_X10_doubles : zMY yX10_doubles cX10_doubles 4 (some .int) 0 := ⟨by decide +kernel, zT_of (i := 1367) (by decide +kernel) rfl, zT_of (i := 12) (by decide +kernel) rfl, by decide +kernel, by decide +kernel, by decide +kernel, by decide⟩
theorem zm_X10_findDoubles : zMY yX10_findDoubles cX10_findDoubles 7 none 0 := ⟨by decide +kernel, zT_of (i := 1388) (by decide +kernel) rfl, zT_of (i := 12) (by decide +kernel) rfl, by decide +kernel, by decide +kernel, by decide +kernel, by decide⟩
theorem zm_X10_isJoined : zMY yX10_isJoined cX10_isJoined 4 (some .boolean) 1 := ⟨by decide +kernel, zT_of (i := 1392) (by decide +kernel) rfl, zT_of (i := 12) (by decide +kernel) rfl, by decide +kernel, by decide +kernel, by decide +kernel, by decide⟩
theorem zm_X10_entry : zMY yX10_entry cX10_entry 7 (some .long) 3 := ⟨by decide +kernel, zT_of (i := 1400) (by decide +kernel) rfl, zT_of (i := 12) (by decide +kernel) rfl, by decide +kernel, by decide +kernel, by decide +kernel, by decide⟩
theorem zm_X10_determinant : zMY yX10_determinant cX10_determinant 12 (some .long) 1 := ⟨by decide +kernel, zT_of (i := 1396) (by decide +kernel) rfl, zT_of (i := 12) (by decide +kernel) rfl, by decide +kernel, by decide +kernel, by decide +kernel, by decide⟩
theorem zm_X10_findHabit : zMY yX10_findHabit cX10_findHabit 5 none 1 := ⟨by decide +kernel, zT_of (i := 1384) (by decide +kernel) rfl, zT_of (i := 12) (by decide +kernel) rfl, by decide +kernel, by decide +kernel, by decide +kernel, by decide⟩
theorem zm_X10_habit : zMY yX10_habit cX10_habit 3 (some .long) 2 := ⟨by decide +kernel, zT_of (i := 1375) (by decide +kernel) rfl, zT_of (i := 12) (by decide +kernel) rfl, by decide +kernel, by decide +kernel, by decide +kernel, by decide⟩
theorem zm_X10_findEvened : zMY yX10_findEvened cX10_findEvened 4 none 1 := ⟨by decide +kernel, zT_of (i := 1411) (by decide +kernel) rfl, zT_of (i := 12) (by decide +kernel) rfl, by decide +kernel, by decide +kernel, by decide +kernel, by decide⟩
theorem zm_X10_evened : zMY yX10_evened cX10_evened 3 (some .long) 2 := ⟨by decide +kernel, zT_of (i := 1407) (by decide +kernel) rfl, zT_of (i := 12) (by decide +kernel) rfl, by decide +kernel, by decide +kernel, by decide +kernel, by decide⟩
theorem zm_X10_others : zMY yX10_others cX10_others 5 (some .int) 0 := ⟨by decide +kernel, zT_of (i := 1415) (by decide +kernel) rfl, zT_of (i := 12) (by decide +kernel) rfl, by decide +kernel, by decide +kernel, by decide +kernel, by decide⟩
theorem zm_X10_swap : zMY yX10_swap cX10_swap 8 (some .int) 3 := ⟨by decide +kernel, zT_of (i := 1419) (by decide +kernel) rfl, zT_of (i := 12) (by decide +kernel) rfl, by decide +kernel, by decide +kernel, by decide +kernel, by decide⟩
theorem zm_X10_shut : zMY yX10_shut cX10_shut 4 (some .int) 3 := ⟨by decide +kernel, zT_of (i := 1423) (by decide +kernel) rfl, zT_of (i := 12) (by decide +kernel) rfl, by decide +kernel, by decide +kernel, by decide +kernel, by decide⟩
theorem zm_X10_complaint : zMY yX10_complaint cX10_complaint 5 (some .int) 4 := ⟨by decide +kernel, zT_of (i := 1427) (by decide +kernel) rfl, zT_of (i := 12) (by decide +kernel) rfl, by decide +kernel, by decide +kernel, by decide +kernel, by decide⟩
theorem zm_X10_weightOf : zMY yX10_weightOf cX10_weightOf 7 (some .int) 2 := ⟨by decide +kernel, zT_of (i := 1435) (by decide +kernel) rfl, zT_of (i := 12) (by decide +kernel) rfl, by decide +kernel, by decide +kernel, by decide +kernel, by decide⟩
theorem zm_X10_weightsOf : zMY yX10_weightsOf cX10_weightsOf 4 (some .int) 1 := ⟨by decide +kernel, zT_of (i := 1439) (by decide +kernel) rfl, zT_of (i := 12) (by decide +kernel) rfl, by decide +kernel, by decide +kernel, by decide +kernel, by decide⟩
theorem zm_X10_part : zMY yX10_part cX10_part 7 (some .int) 3 := ⟨by decide +kernel, zT_of (i := 1431) (by decide +kernel) rfl, zT_of (i := 12) (by decide +kernel) rfl, by decide +kernel, by decide +kernel, by decide +kernel, by decide⟩
theorem zm_X10_joinedTo : zMY yX10_joinedTo cX10_joinedTo 4 (some .int) 1 := ⟨by decide +kernel, zT_of (i := 1447) (by decide +kernel) rfl, zT_of (i := 12) (by decide +kernel) rfl, by decide +kernel, by decide +kernel, by decide +kernel, by decide⟩
theorem zm_X10_joined : zMY yX10_joined cX10_joined 2 (some .int) 1 := ⟨by decide +kernel, zT_of (i := 1443) (by decide +kernel) rfl, zT_of (i := 12) (by decide +kernel) rfl, by decide +kernel, by decide +kernel, by decide +kernel, by decide⟩
theorem zm_X10_began : zMY yX10_began cX10_began 4 (some .int) 2 := ⟨by decide +kernel, zT_of (i := 1452) (by decide +kernel) rfl, zT_of (i := 12) (by decide +kernel) rfl, by decide +kernel, by decide +kernel, by decide +kernel, by decide⟩
theorem zm_X10_cases : zMY yX10_cases cX10_cases 5 (some .int) 3 := ⟨by decide +kernel, zT_of (i := 1456) (by decide +kernel) rfl, zT_of (i := 12) (by decide +kernel) rfl, by decide +kernel, by decide +kernel, by decide +kernel, by decide⟩
theorem zm_X10_addEffect : zMY yX10_addEffect cX10_addEffect 7 none 2 := ⟨by decide +kernel, zT_of (i := 1476) (by decide +kernel) rfl, zT_of (i := 12) (by decide +kernel) rfl, by decide +kernel, by decide +kernel, by decide +kernel, by decide⟩
theorem zm_X10_casesOf : zMY yX10_casesOf cX10_casesOf 7 (some .long) 3 := ⟨by decide +kernel, zT_of (i := 1472) (by decide +kernel) rfl, zT_of (i := 12) (by decide +kernel) rfl, by decide +kernel, by decide +kernel, by decide +kernel, by decide⟩
theorem zm_X10_findEffect : zMY yX10_findEffect cX10_findEffect 10 (some .boolean) 0 := ⟨by decide +kernel, zT_of (i := 1468) (by decide +kernel) rfl, zT_of (i := 12) (by decide +kernel) rfl, by decide +kernel, by decide +kernel, by decide +kernel, by decide⟩
theorem zm_X10_findTrue : zMY yX10_findTrue cX10_findTrue 2 (some .boolean) 0 := ⟨by decide +kernel, zT_of (i := 1464) (by decide +kernel) rfl, zT_of (i := 12) (by decide +kernel) rfl, by decide +kernel, by decide +kernel, by decide +kernel, by decide⟩
theorem zm_X10_effect : zMY yX10_effect cX10_effect 2 (some .long) 1 := ⟨by decide +kernel, zT_of (i := 1460) (by decide +kernel) rfl, zT_of (i := 12) (by decide +kernel) rfl, by decide +kernel, by decide +kernel, by decide +kernel, by decide⟩
theorem zm_X10_findChance : zMY yX10_findChance cX10_findChance 11 (some .int) 0 := ⟨by decide +kernel, zT_of (i := 1485) (by decide +kernel) rfl, zT_of (i := 12) (by decide +kernel) rfl, by decide +kernel, by decide +kernel, by decide +kernel, by decide⟩
theorem zm_X10_chance : zMY yX10_chance cX10_chance 1 (some .int) 0 := ⟨by decide +kernel, zT_of (i := 1481) (by decide +kernel) rfl, zT_of (i := 12) (by decide +kernel) rfl, by decide +kernel, by decide +kernel, by decide +kernel, by decide⟩
theorem zm_X10_helped : zMY yX10_helped cX10_helped 3 (some .int) 0 := ⟨by decide +kernel, zT_of (i := 1489) (by decide +kernel) rfl, zT_of (i := 12) (by decide +kernel) rfl, by decide +kernel, by decide +kernel, by decide +kernel, by decide⟩
theorem zm_X10_count : zMY yX10_count cX10_count 4 (some .int) 1 := ⟨by decide +kernel, zT_of (i := 1493) (by decide +kernel) rfl, zT_of (i := 12) (by decide +kernel) rfl, by decide +kernel, by decide +kernel, by decide +kernel, by decide⟩
theorem zm_J6_bitCount_0f7a4 : zMY yJ6_bitCount_0f7a4 cJ6_bitCount_0f7a4 1 (some .int) 1 := ⟨by decide +kernel, zT_of (i := 660) (by decide +kernel) rfl, zT_of (i := 14) (by decide +kernel) rfl, by decide +kernel, by decide +kernel, by decide +kernel, by decide⟩
theorem zm_J9_floorMod_7cf53 : zMY yJ9_floorMod_7cf53 cJ9_floorMod_7cf53 3 (some .int) 2 := ⟨by decide +kernel, zT_of (i := 833) (by decide +kernel) rfl, zT_of (i := 13) (by decide +kernel) rfl, by decide +kernel, by decide +kernel, by decide +kernel, by decide⟩
theorem zm_J9_abs_067f4 : zMY yJ9_abs_067f4 cJ9_abs_067f4 2 (some .long) 1 := ⟨by decide +kernel, zT_of (i := 795) (by decide +kernel) rfl, zT_of (i := 13) (by decide +kernel) rfl, by decide +kernel, by decide +kernel, by decide +kernel, by decide⟩
theorem zm_J9_max_7cf53 : zMY yJ9_max_7cf53 cJ9_max_7cf53 2 (some .int) 2 := ⟨by decide +kernel, zT_of (i := 599) (by decide +kernel) rfl, zT_of (i := 13) (by decide +kernel) rfl, by decide +kernel, by decide +kernel, by decide +kernel, by decide⟩
theorem zm_J9_min_7cf53 : zMY yJ9_min_7cf53 cJ9_min_7cf53 2 (some .int) 2 := ⟨by decide +kernel, zT_of (i := 520) (by decide +kernel) rfl, zT_of (i := 13) (by decide +kernel) rfl, by decide +kernel, by decide +kernel, by decide +kernel, by decide⟩
theorem zm_J7_fill_d0a16 : zMY yJ7_fill_d0a16 cJ7_fill_d0a16 5 none 2 := ⟨by decide +kernel, zT_of (i := 755) (by decide +kernel) rfl, zT_of (i := 3) (by decide +kernel) rfl, by decide +kernel, by decide +kernel, by decide +kernel, by decide⟩
theorem zm_J7_fill_53178 : zMY yJ7_fill_53178 cJ7_fill_53178 4 none 2 := ⟨by decide +kernel, zT_of (i := 31) (by decide +kernel) rfl, zT_of (i := 3) (by decide +kernel) rfl, by decide +kernel, by decide +kernel, by decide +kernel, by decide⟩
theorem zo_RX0_3 : Cond.methodLink RX0 3 Lib.objectInit ∈ zT := zT_of (i := 28) (by decide +kernel) rfl
theorem zl_RX0_34 : zLS RX0 34 yJ7_fill_53178 := ⟨zT_of (i := 29) (by decide +kernel) rfl, zT_of (i := 30) (by decide +kernel) rfl⟩
theorem zo_RX1_3 : Cond.methodLink RX1 3 Lib.objectInit ∈ zT := zT_of (i := 237) (by decide +kernel) rfl
theorem zl_RX1_29 : zLN RX1 29 yX2_init "DoorStars" := ⟨zNest_of (i := 4) (by decide +kernel), zT_of (i := 202) (by decide +kernel) rfl, rfl⟩
theorem zl_RX1_42 : zLV RX1 42 yX1_weighAll := ⟨zT_of (i := 870) (by decide +kernel) rfl, zT_of (i := 872) (by decide +kernel) rfl, zT_ofp (i := 31) (q := (yX1_weighAll, 8)) (by decide +kernel)⟩
theorem zl_RX1_46 : zLV RX1 46 yX2_put := ⟨zT_of (i := 897) (by decide +kernel) rfl, zT_of (i := 790) (by decide +kernel) rfl, zT_of (i := 791) (by decide +kernel) rfl⟩
theorem zl_RX1_50 : zLV RX1 50 yX4_size := ⟨zT_of (i := 874) (by decide +kernel) rfl, zT_of (i := 566) (by decide +kernel) rfl, zT_of (i := 567) (by decide +kernel) rfl⟩
theorem zl_RX1_55 : zLV RX1 55 yX1_kitchenOf := ⟨zT_of (i := 997) (by decide +kernel) rfl, zT_of (i := 903) (by decide +kernel) rfl, zT_of (i := 904) (by decide +kernel) rfl⟩
theorem zl_RX1_58 : zLV RX1 58 yX1_weightOf := ⟨zT_of (i := 875) (by decide +kernel) rfl, zT_of (i := 877) (by decide +kernel) rfl, zT_ofp (i := 32) (q := (yX1_weightOf, 8)) (by decide +kernel)⟩
theorem zl_RX1_62 : zLV RX1 62 yX4_isMeant := ⟨zT_of (i := 879) (by decide +kernel) rfl, zT_of (i := 880) (by decide +kernel) rfl, zT_of (i := 881) (by decide +kernel) rfl⟩
theorem zl_RX1_66 : zLV RX1 66 yX4_openDays := ⟨zT_of (i := 883) (by decide +kernel) rfl, zT_of (i := 884) (by decide +kernel) rfl, zT_of (i := 885) (by decide +kernel) rfl⟩
theorem zl_RX1_70 : zLV RX1 70 yX4_mouthsOf := ⟨zT_of (i := 896) (by decide +kernel) rfl, zT_of (i := 586) (by decide +kernel) rfl, zT_of (i := 587) (by decide +kernel) rfl⟩
theorem zo_RX2_1 : Cond.methodLink RX2 1 Lib.objectInit ∈ zT := zT_of (i := 204) (by decide +kernel) rfl
theorem zl_RX2_16 : zLS RX2 16 yJ9_abs_067f4 := ⟨zT_of (i := 793) (by decide +kernel) rfl, zT_of (i := 794) (by decide +kernel) rfl⟩
theorem zl_RX2_22 : zLS RX2 22 yX2_commonDivisor := ⟨zT_of (i := 796) (by decide +kernel) rfl, zT_of (i := 797) (by decide +kernel) rfl⟩
theorem zo_RX3_3 : Cond.methodLink RX3 3 Lib.objectInit ∈ zT := zT_of (i := 198) (by decide +kernel) rfl
theorem zl_RX3_27 : zLN RX3 27 yX2_init "DoorStars" := ⟨zNest_of (i := 3) (by decide +kernel), zT_of (i := 202) (by decide +kernel) rfl, rfl⟩
theorem zl_RX3_36 : zLV RX3 36 yX5_size := ⟨zT_of (i := 725) (by decide +kernel) rfl, zT_of (i := 457) (by decide +kernel) rfl, zT_of (i := 458) (by decide +kernel) rfl⟩
theorem zl_RX3_42 : zLV RX3 42 yX3_isDouble := ⟨zT_of (i := 726) (by decide +kernel) rfl, zT_of (i := 728) (by decide +kernel) rfl, zT_ofp (i := 22) (q := (yX3_isDouble, 6)) (by decide +kernel)⟩
theorem zl_RX3_46 : zLS RX3 46 yJ7_fill_d0a16 := ⟨zT_of (i := 753) (by decide +kernel) rfl, zT_of (i := 754) (by decide +kernel) rfl⟩
theorem zl_RX3_52 : zLS RX3 52 yJ7_fill_53178 := ⟨zT_of (i := 756) (by decide +kernel) rfl, zT_of (i := 30) (by decide +kernel) rfl⟩
theorem zl_RX3_55 : zLV RX3 55 yX5_ownScore := ⟨zT_of (i := 757) (by decide +kernel) rfl, zT_of (i := 758) (by decide +kernel) rfl, zT_of (i := 759) (by decide +kernel) rfl⟩
theorem zl_RX3_59 : zLV RX3 59 yX3_addDouble := ⟨zT_of (i := 762) (by decide +kernel) rfl, zT_of (i := 764) (by decide +kernel) rfl, zT_ofp (i := 24) (q := (yX3_addDouble, 6)) (by decide +kernel)⟩
theorem zl_RX3_63 : zLV RX3 63 yX3_spreadJoins := ⟨zT_of (i := 766) (by decide +kernel) rfl, zT_of (i := 768) (by decide +kernel) rfl, zT_ofp (i := 25) (q := (yX3_spreadJoins, 6)) (by decide +kernel)⟩
theorem zl_RX3_66 : zLV RX3 66 yX3_isLowest := ⟨zT_of (i := 770) (by decide +kernel) rfl, zT_of (i := 772) (by decide +kernel) rfl, zT_ofp (i := 26) (q := (yX3_isLowest, 6)) (by decide +kernel)⟩
theorem zl_RX3_70 : zLV RX3 70 yX3_setToZero := ⟨zT_of (i := 774) (by decide +kernel) rfl, zT_of (i := 776) (by decide +kernel) rfl, zT_ofp (i := 27) (q := (yX3_setToZero, 6)) (by decide +kernel)⟩
theorem zl_RX3_74 : zLS RX3 74 yX3_determinant := ⟨zT_of (i := 786) (by decide +kernel) rfl, zT_of (i := 787) (by decide +kernel) rfl⟩
theorem zl_RX3_78 : zLV RX3 78 yX2_put := ⟨zT_of (i := 789) (by decide +kernel) rfl, zT_of (i := 790) (by decide +kernel) rfl, zT_of (i := 791) (by decide +kernel) rfl⟩
theorem zl_RX3_82 : zLV RX3 82 yX5_kitchenOf := ⟨zT_of (i := 730) (by decide +kernel) rfl, zT_of (i := 731) (by decide +kernel) rfl, zT_of (i := 732) (by decide +kernel) rfl⟩
theorem zl_RX3_85 : zLV RX3 85 yX5_dayOf := ⟨zT_of (i := 734) (by decide +kernel) rfl, zT_of (i := 469) (by decide +kernel) rfl, zT_of (i := 470) (by decide +kernel) rfl⟩
theorem zl_RX3_88 : zLV RX3 88 yX5_inspectorOf := ⟨zT_of (i := 735) (by decide +kernel) rfl, zT_of (i := 736) (by decide +kernel) rfl, zT_of (i := 737) (by decide +kernel) rfl⟩
theorem zl_RX3_91 : zLV RX3 91 yX5_isTakenBack := ⟨zT_of (i := 739) (by decide +kernel) rfl, zT_of (i := 465) (by decide +kernel) rfl, zT_of (i := 466) (by decide +kernel) rfl⟩
theorem zo_RX4_3 : Cond.methodLink RX4 3 Lib.objectInit ∈ zT := zT_of (i := 61) (by decide +kernel) rfl
theorem zl_RX4_47 : zLV RX4 47 yX4_shutPast := ⟨zT_of (i := 887) (by decide +kernel) rfl, zT_of (i := 889) (by decide +kernel) rfl, zT_ofp (i := 33) (q := (yX4_shutPast, 11)) (by decide +kernel)⟩
theorem zl_RX4_51 : zLV RX4 51 yX4_nextShut := ⟨zT_of (i := 891) (by decide +kernel) rfl, zT_of (i := 893) (by decide +kernel) rfl, zT_ofp (i := 34) (q := (yX4_nextShut, 11)) (by decide +kernel)⟩
theorem zl_RX4_54 : zLS RX4 54 yJ9_min_7cf53 := ⟨zT_of (i := 895) (by decide +kernel) rfl, zT_of (i := 519) (by decide +kernel) rfl⟩
theorem zo_RX5_3 : Cond.methodLink RX5 3 Lib.objectInit ∈ zT := zT_of (i := 101) (by decide +kernel) rfl
theorem zl_RX5_44 : zLS RX5 44 yJ7_fill_53178 := ⟨zT_of (i := 102) (by decide +kernel) rfl, zT_of (i := 30) (by decide +kernel) rfl⟩
theorem zl_RX5_50 : zLV RX5 50 yX5_scoreOn := ⟨zT_of (i := 761) (by decide +kernel) rfl, zT_of (i := 497) (by decide +kernel) rfl, zT_of (i := 498) (by decide +kernel) rfl⟩
theorem zl_RX5_54 : zLV RX5 54 yX0_size := ⟨zT_of (i := 500) (by decide +kernel) rfl, zT_of (i := 501) (by decide +kernel) rfl, zT_of (i := 502) (by decide +kernel) rfl⟩
theorem zl_RX5_59 : zLV RX5 59 yX5_timesFound := ⟨zT_of (i := 504) (by decide +kernel) rfl, zT_of (i := 477) (by decide +kernel) rfl, zT_of (i := 478) (by decide +kernel) rfl⟩
theorem zl_RX5_62 : zLV RX5 62 yX0_standingFor := ⟨zT_of (i := 505) (by decide +kernel) rfl, zT_of (i := 389) (by decide +kernel) rfl, zT_of (i := 390) (by decide +kernel) rfl⟩
theorem zl_RX5_65 : zLV RX5 65 yX0_groupOf := ⟨zT_of (i := 506) (by decide +kernel) rfl, zT_of (i := 507) (by decide +kernel) rfl, zT_of (i := 508) (by decide +kernel) rfl⟩
theorem zl_RX5_69 : zLV RX5 69 yX0_pointsOf := ⟨zT_of (i := 510) (by decide +kernel) rfl, zT_of (i := 511) (by decide +kernel) rfl, zT_of (i := 512) (by decide +kernel) rfl⟩
theorem zl_RX5_72 : zLV RX5 72 yX0_mostOf := ⟨zT_of (i := 514) (by decide +kernel) rfl, zT_of (i := 515) (by decide +kernel) rfl, zT_of (i := 516) (by decide +kernel) rfl⟩
theorem zl_RX5_75 : zLS RX5 75 yJ9_min_7cf53 := ⟨zT_of (i := 518) (by decide +kernel) rfl, zT_of (i := 519) (by decide +kernel) rfl⟩
theorem zo_RX6_3 : Cond.methodLink RX6 3 Lib.objectInit ∈ zT := zT_of (i := 139) (by decide +kernel) rfl
theorem zl_RX6_22 : zLV RX6 22 yX6_inForceOn := ⟨zT_of (i := 549) (by decide +kernel) rfl, zT_of (i := 551) (by decide +kernel) rfl, zT_ofp (i := 3) (q := (yX6_inForceOn, 3)) (by decide +kernel)⟩
theorem zo_RX7_3 : Cond.methodLink RX7 3 Lib.objectInit ∈ zT := zT_of (i := 270) (by decide +kernel) rfl
theorem zl_RX7_30 : zLN RX7 30 yX2_init "DoorStars" := ⟨zNest_of (i := 5) (by decide +kernel), zT_of (i := 202) (by decide +kernel) rfl, rfl⟩
theorem zl_RX7_35 : zLS RX7 35 yJ7_fill_53178 := ⟨zT_of (i := 273) (by decide +kernel) rfl, zT_of (i := 30) (by decide +kernel) rfl⟩
theorem zl_RX7_41 : zLV RX7 41 yX7_startedSize := ⟨zT_of (i := 930) (by decide +kernel) rfl, zT_of (i := 932) (by decide +kernel) rfl, zT_ofp (i := 35) (q := (yX7_startedSize, 6)) (by decide +kernel)⟩
theorem zl_RX7_45 : zLV RX7 45 yX7_neverSize := ⟨zT_of (i := 937) (by decide +kernel) rfl, zT_of (i := 939) (by decide +kernel) rfl, zT_ofp (i := 36) (q := (yX7_neverSize, 6)) (by decide +kernel)⟩
theorem zl_RX7_48 : zLV RX7 48 yX7_fillRises := ⟨zT_of (i := 945) (by decide +kernel) rfl, zT_of (i := 947) (by decide +kernel) rfl, zT_ofp (i := 37) (q := (yX7_fillRises, 6)) (by decide +kernel)⟩
theorem zl_RX7_51 : zLV RX7 51 yX7_effectBy := ⟨zT_of (i := 950) (by decide +kernel) rfl, zT_of (i := 952) (by decide +kernel) rfl, zT_ofp (i := 38) (q := (yX7_effectBy, 6)) (by decide +kernel)⟩
theorem zl_RX7_57 : zLV RX7 57 yX2_put := ⟨zT_of (i := 958) (by decide +kernel) rfl, zT_of (i := 790) (by decide +kernel) rfl, zT_of (i := 791) (by decide +kernel) rfl⟩
theorem zl_RX7_61 : zLV RX7 61 yX7_deal := ⟨zT_of (i := 967) (by decide +kernel) rfl, zT_of (i := 969) (by decide +kernel) rfl, zT_ofp (i := 40) (q := (yX7_deal, 6)) (by decide +kernel)⟩
theorem zl_RX7_65 : zLS RX7 65 yX7_isStarted := ⟨zT_of (i := 934) (by decide +kernel) rfl, zT_of (i := 935) (by decide +kernel) rfl⟩
theorem zl_RX7_69 : zLV RX7 69 yX7_neverRise := ⟨zT_of (i := 954) (by decide +kernel) rfl, zT_of (i := 956) (by decide +kernel) rfl, zT_ofp (i := 39) (q := (yX7_neverRise, 6)) (by decide +kernel)⟩
theorem zl_RX7_73 : zLS RX7 73 yJ9_floorMod_7cf53 := ⟨zT_of (i := 971) (by decide +kernel) rfl, zT_of (i := 832) (by decide +kernel) rfl⟩
theorem zo_RX8_3 : Cond.methodLink RX8 3 Lib.objectInit ∈ zT := zT_of (i := 155) (by decide +kernel) rfl
theorem zl_RX8_49 : zLS RX8 49 yJ9_min_7cf53 := ⟨zT_of (i := 631) (by decide +kernel) rfl, zT_of (i := 519) (by decide +kernel) rfl⟩
theorem zl_RX8_55 : zLS RX8 55 yJ9_max_7cf53 := ⟨zT_of (i := 632) (by decide +kernel) rfl, zT_of (i := 598) (by decide +kernel) rfl⟩
theorem zl_RX8_58 : zLS RX8 58 yJ7_fill_53178 := ⟨zT_of (i := 633) (by decide +kernel) rfl, zT_of (i := 30) (by decide +kernel) rfl⟩
theorem zl_RX8_64 : zLV RX8 64 yX8_fillBound := ⟨zT_of (i := 654) (by decide +kernel) rfl, zT_of (i := 656) (by decide +kernel) rfl, zT_ofp (i := 11) (q := (yX8_fillBound, 12)) (by decide +kernel)⟩
theorem zl_RX8_67 : zLV RX8 67 yX8_leastFrom := ⟨zT_of (i := 664) (by decide +kernel) rfl, zT_of (i := 666) (by decide +kernel) rfl, zT_ofp (i := 12) (q := (yX8_leastFrom, 12)) (by decide +kernel)⟩
theorem zl_RX8_71 : zLV RX8 71 yX8_settle := ⟨zT_of (i := 689) (by decide +kernel) rfl, zT_of (i := 691) (by decide +kernel) rfl, zT_ofp (i := 18) (q := (yX8_settle, 12)) (by decide +kernel)⟩
theorem zl_RX8_74 : zLV RX8 74 yX8_priceOf := ⟨zT_of (i := 672) (by decide +kernel) rfl, zT_of (i := 674) (by decide +kernel) rfl, zT_ofp (i := 14) (q := (yX8_priceOf, 12)) (by decide +kernel)⟩
theorem zl_RX8_77 : zLV RX8 77 yX8_mayTake := ⟨zT_of (i := 693) (by decide +kernel) rfl, zT_of (i := 695) (by decide +kernel) rfl, zT_ofp (i := 19) (q := (yX8_mayTake, 12)) (by decide +kernel)⟩
theorem zl_RX8_81 : zLV RX8 81 yX8_changeRoom := ⟨zT_of (i := 697) (by decide +kernel) rfl, zT_of (i := 699) (by decide +kernel) rfl, zT_ofp (i := 20) (q := (yX8_changeRoom, 12)) (by decide +kernel)⟩
theorem zl_RX8_85 : zLV RX8 85 yX8_choose := ⟨zT_of (i := 701) (by decide +kernel) rfl, zT_of (i := 703) (by decide +kernel) rfl, zT_ofp (i := 21) (q := (yX8_choose, 12)) (by decide +kernel)⟩
theorem zl_RX8_89 : zLS RX8 89 yJ6_bitCount_0f7a4 := ⟨zT_of (i := 658) (by decide +kernel) rfl, zT_of (i := 659) (by decide +kernel) rfl⟩
theorem zl_RX8_94 : zLV RX8 94 yX8_fillSums := ⟨zT_of (i := 668) (by decide +kernel) rfl, zT_of (i := 670) (by decide +kernel) rfl, zT_ofp (i := 13) (q := (yX8_fillSums, 12)) (by decide +kernel)⟩
theorem zl_RX8_98 : zLV RX8 98 yX8_barWhatFitsNot := ⟨zT_of (i := 676) (by decide +kernel) rfl, zT_of (i := 678) (by decide +kernel) rfl, zT_ofp (i := 15) (q := (yX8_barWhatFitsNot, 12)) (by decide +kernel)⟩
theorem zl_RX8_101 : zLV RX8 101 yX8_leastWithDay := ⟨zT_of (i := 685) (by decide +kernel) rfl, zT_of (i := 687) (by decide +kernel) rfl, zT_ofp (i := 17) (q := (yX8_leastWithDay, 12)) (by decide +kernel)⟩
theorem zl_RX8_104 : zLV RX8 104 yX8_roomOf := ⟨zT_of (i := 680) (by decide +kernel) rfl, zT_of (i := 682) (by decide +kernel) rfl, zT_ofp (i := 16) (q := (yX8_roomOf, 12)) (by decide +kernel)⟩
theorem zo_RX9_3 : Cond.methodLink RX9 3 Lib.objectInit ∈ zT := zT_of (i := 20) (by decide +kernel) rfl
theorem zl_RX9_28 : zLI RX9 28 yX0_init := ⟨zT_of (i := 25) (by decide +kernel) rfl, zT_of (i := 26) (by decide +kernel) rfl, rfl⟩
theorem zl_RX9_35 : zLN RX9 35 yX4_init "DoorStars" := ⟨zNest_of (i := 0) (by decide +kernel), zT_of (i := 59) (by decide +kernel) rfl, rfl⟩
theorem zl_RX9_42 : zLI RX9 42 yX5_init := ⟨zT_of (i := 98) (by decide +kernel) rfl, zT_of (i := 99) (by decide +kernel) rfl, rfl⟩
theorem zl_RX9_51 : zLN RX9 51 yX6_init "DoorStars" := ⟨zNest_of (i := 1) (by decide +kernel), zT_of (i := 137) (by decide +kernel) rfl, rfl⟩
theorem zl_RX9_58 : zLN RX9 58 yX8_init "DoorStars" := ⟨zNest_of (i := 2) (by decide +kernel), zT_of (i := 153) (by decide +kernel) rfl, rfl⟩
theorem zl_RX9_65 : zLI RX9 65 yX3_init := ⟨zT_of (i := 195) (by decide +kernel) rfl, zT_of (i := 196) (by decide +kernel) rfl, rfl⟩
theorem zl_RX9_74 : zLI RX9 74 yX1_init := ⟨zT_of (i := 234) (by decide +kernel) rfl, zT_of (i := 235) (by decide +kernel) rfl, rfl⟩
theorem zl_RX9_83 : zLI RX9 83 yX7_init := ⟨zT_of (i := 267) (by decide +kernel) rfl, zT_of (i := 268) (by decide +kernel) rfl, rfl⟩
theorem zl_RX9_90 : zLN RX9 90 yX2_init "DoorStars" := ⟨zNest_of (i := 6) (by decide +kernel), zT_of (i := 202) (by decide +kernel) rfl, rfl⟩
theorem zl_RX9_102 : zLS RX9 102 yJ7_fill_53178 := ⟨zT_of (i := 295) (by decide +kernel) rfl, zT_of (i := 30) (by decide +kernel) rfl⟩
theorem zl_RX9_108 : zLV RX9 108 yX9_refused := ⟨zT_of (i := 349) (by decide +kernel) rfl, zT_of (i := 351) (by decide +kernel) rfl, zT_ofp (i := 0) (q := (yX9_refused, 16)) (by decide +kernel)⟩
theorem zl_RX9_112 : zLS RX9 112 yX9_isWithin := ⟨zT_of (i := 357) (by decide +kernel) rfl, zT_of (i := 358) (by decide +kernel) rfl⟩
theorem zl_RX9_116 : zLV RX9 116 yX0_isFull := ⟨zT_of (i := 360) (by decide +kernel) rfl, zT_of (i := 361) (by decide +kernel) rfl, zT_of (i := 362) (by decide +kernel) rfl⟩
theorem zl_RX9_120 : zLV RX9 120 yX0_add := ⟨zT_of (i := 364) (by decide +kernel) rfl, zT_of (i := 365) (by decide +kernel) rfl, zT_of (i := 366) (by decide +kernel) rfl⟩
theorem zl_RX9_124 : zLV RX9 124 yX0_has := ⟨zT_of (i := 372) (by decide +kernel) rfl, zT_of (i := 373) (by decide +kernel) rfl, zT_of (i := 374) (by decide +kernel) rfl⟩
theorem zl_RX9_128 : zLV RX9 128 yX0_isTurned := ⟨zT_of (i := 376) (by decide +kernel) rfl, zT_of (i := 377) (by decide +kernel) rfl, zT_of (i := 378) (by decide +kernel) rfl⟩
theorem zl_RX9_131 : zLV RX9 131 yX0_turnInto := ⟨zT_of (i := 380) (by decide +kernel) rfl, zT_of (i := 381) (by decide +kernel) rfl, zT_of (i := 382) (by decide +kernel) rfl⟩
theorem zl_RX9_135 : zLV RX9 135 yX0_standingFor := ⟨zT_of (i := 388) (by decide +kernel) rfl, zT_of (i := 389) (by decide +kernel) rfl, zT_of (i := 390) (by decide +kernel) rfl⟩
theorem zl_RX9_139 : zLV RX9 139 yX0_changeMost := ⟨zT_of (i := 396) (by decide +kernel) rfl, zT_of (i := 397) (by decide +kernel) rfl, zT_of (i := 398) (by decide +kernel) rfl⟩
theorem zl_RX9_142 : zLV RX9 142 yX4_isFull := ⟨zT_of (i := 404) (by decide +kernel) rfl, zT_of (i := 405) (by decide +kernel) rfl, zT_of (i := 406) (by decide +kernel) rfl⟩
theorem zl_RX9_143 : zLV RX9 143 yX4_add := ⟨zT_of (i := 408) (by decide +kernel) rfl, zT_of (i := 409) (by decide +kernel) rfl, zT_of (i := 410) (by decide +kernel) rfl⟩
theorem zl_RX9_146 : zLV RX9 146 yX4_has := ⟨zT_of (i := 416) (by decide +kernel) rfl, zT_of (i := 417) (by decide +kernel) rfl, zT_of (i := 418) (by decide +kernel) rfl⟩
theorem zl_RX9_147 : zLV RX9 147 yX4_isHard := ⟨zT_of (i := 420) (by decide +kernel) rfl, zT_of (i := 421) (by decide +kernel) rfl, zT_of (i := 422) (by decide +kernel) rfl⟩
theorem zl_RX9_150 : zLV RX9 150 yX4_changeHard := ⟨zT_of (i := 424) (by decide +kernel) rfl, zT_of (i := 425) (by decide +kernel) rfl, zT_of (i := 426) (by decide +kernel) rfl⟩
theorem zl_RX9_154 : zLV RX9 154 yX9_isKin := ⟨zT_of (i := 432) (by decide +kernel) rfl, zT_of (i := 434) (by decide +kernel) rfl, zT_ofp (i := 1) (q := (yX9_isKin, 16)) (by decide +kernel)⟩
theorem zl_RX9_157 : zLV RX9 157 yX4_ownerOf := ⟨zT_of (i := 440) (by decide +kernel) rfl, zT_of (i := 441) (by decide +kernel) rfl, zT_of (i := 442) (by decide +kernel) rfl⟩
theorem zl_RX9_160 : zLV RX9 160 yX5_isFull := ⟨zT_of (i := 444) (by decide +kernel) rfl, zT_of (i := 445) (by decide +kernel) rfl, zT_of (i := 446) (by decide +kernel) rfl⟩
theorem zl_RX9_161 : zLV RX9 161 yX5_add := ⟨zT_of (i := 448) (by decide +kernel) rfl, zT_of (i := 449) (by decide +kernel) rfl, zT_of (i := 450) (by decide +kernel) rfl⟩
theorem zl_RX9_164 : zLV RX9 164 yX5_size := ⟨zT_of (i := 456) (by decide +kernel) rfl, zT_of (i := 457) (by decide +kernel) rfl, zT_of (i := 458) (by decide +kernel) rfl⟩
theorem zl_RX9_168 : zLV RX9 168 yX5_has := ⟨zT_of (i := 460) (by decide +kernel) rfl, zT_of (i := 461) (by decide +kernel) rfl, zT_of (i := 462) (by decide +kernel) rfl⟩
theorem zl_RX9_169 : zLV RX9 169 yX5_isTakenBack := ⟨zT_of (i := 464) (by decide +kernel) rfl, zT_of (i := 465) (by decide +kernel) rfl, zT_of (i := 466) (by decide +kernel) rfl⟩
theorem zl_RX9_172 : zLV RX9 172 yX5_dayOf := ⟨zT_of (i := 468) (by decide +kernel) rfl, zT_of (i := 469) (by decide +kernel) rfl, zT_of (i := 470) (by decide +kernel) rfl⟩
theorem zl_RX9_175 : zLV RX9 175 yX0_isInForce := ⟨zT_of (i := 472) (by decide +kernel) rfl, zT_of (i := 473) (by decide +kernel) rfl, zT_of (i := 474) (by decide +kernel) rfl⟩
theorem zl_RX9_178 : zLV RX9 178 yX5_timesFound := ⟨zT_of (i := 476) (by decide +kernel) rfl, zT_of (i := 477) (by decide +kernel) rfl, zT_of (i := 478) (by decide +kernel) rfl⟩
theorem zl_RX9_181 : zLV RX9 181 yX5_addFound := ⟨zT_of (i := 480) (by decide +kernel) rfl, zT_of (i := 481) (by decide +kernel) rfl, zT_of (i := 482) (by decide +kernel) rfl⟩
theorem zl_RX9_184 : zLV RX9 184 yX5_takeBack := ⟨zT_of (i := 488) (by decide +kernel) rfl, zT_of (i := 489) (by decide +kernel) rfl, zT_of (i := 490) (by decide +kernel) rfl⟩
theorem zl_RX9_188 : zLV RX9 188 yX5_scoreOn := ⟨zT_of (i := 496) (by decide +kernel) rfl, zT_of (i := 497) (by decide +kernel) rfl, zT_of (i := 498) (by decide +kernel) rfl⟩
theorem zl_RX9_191 : zLV RX9 191 yX6_isFull := ⟨zT_of (i := 525) (by decide +kernel) rfl, zT_of (i := 526) (by decide +kernel) rfl, zT_of (i := 527) (by decide +kernel) rfl⟩
theorem zl_RX9_192 : zLV RX9 192 yX6_add := ⟨zT_of (i := 529) (by decide +kernel) rfl, zT_of (i := 530) (by decide +kernel) rfl, zT_of (i := 531) (by decide +kernel) rfl⟩
theorem zl_RX9_193 : zLV RX9 193 yX9_starOf := ⟨zT_of (i := 537) (by decide +kernel) rfl, zT_of (i := 539) (by decide +kernel) rfl, zT_ofp (i := 2) (q := (yX9_starOf, 16)) (by decide +kernel)⟩
theorem zl_RX9_196 : zLV RX9 196 yX4_changeShown := ⟨zT_of (i := 557) (by decide +kernel) rfl, zT_of (i := 558) (by decide +kernel) rfl, zT_of (i := 559) (by decide +kernel) rfl⟩
theorem zl_RX9_199 : zLV RX9 199 yX4_size := ⟨zT_of (i := 565) (by decide +kernel) rfl, zT_of (i := 566) (by decide +kernel) rfl, zT_of (i := 567) (by decide +kernel) rfl⟩
theorem zl_RX9_200 : zLV RX9 200 yX4_shownOn := ⟨zT_of (i := 569) (by decide +kernel) rfl, zT_of (i := 570) (by decide +kernel) rfl, zT_of (i := 571) (by decide +kernel) rfl⟩
theorem zl_RX9_203 : zLV RX9 203 yX9_riskOf := ⟨zT_of (i := 581) (by decide +kernel) rfl, zT_of (i := 583) (by decide +kernel) rfl, zT_ofp (i := 4) (q := (yX9_riskOf, 16)) (by decide +kernel)⟩
theorem zl_RX9_206 : zLV RX9 206 yX9_dueOf := ⟨zT_of (i := 593) (by decide +kernel) rfl, zT_of (i := 595) (by decide +kernel) rfl, zT_ofp (i := 5) (q := (yX9_dueOf, 16)) (by decide +kernel)⟩
theorem zl_RX9_209 : zLS RX9 209 yX9_delayCost := ⟨zT_of (i := 604) (by decide +kernel) rfl, zT_of (i := 605) (by decide +kernel) rfl⟩
theorem zl_RX9_212 : zLV RX9 212 yX9_planWeek := ⟨zT_of (i := 615) (by decide +kernel) rfl, zT_of (i := 617) (by decide +kernel) rfl, zT_ofp (i := 6) (q := (yX9_planWeek, 16)) (by decide +kernel)⟩
theorem zl_RX9_215 : zLV RX9 215 yX8_handsAt := ⟨zT_of (i := 709) (by decide +kernel) rfl, zT_of (i := 710) (by decide +kernel) rfl, zT_of (i := 711) (by decide +kernel) rfl⟩
theorem zl_RX9_218 : zLV RX9 218 yX8_dayAt := ⟨zT_of (i := 713) (by decide +kernel) rfl, zT_of (i := 714) (by decide +kernel) rfl, zT_of (i := 715) (by decide +kernel) rfl⟩
theorem zl_RX9_221 : zLV RX9 221 yX3_doublesNow := ⟨zT_of (i := 721) (by decide +kernel) rfl, zT_of (i := 722) (by decide +kernel) rfl, zT_of (i := 723) (by decide +kernel) rfl⟩
theorem zl_RX9_224 : zLV RX9 224 yX9_refusedLong := ⟨zT_of (i := 744) (by decide +kernel) rfl, zT_of (i := 746) (by decide +kernel) rfl, zT_ofp (i := 23) (q := (yX9_refusedLong, 16)) (by decide +kernel)⟩
theorem zl_RX9_228 : zLV RX9 228 yX3_learn := ⟨zT_of (i := 749) (by decide +kernel) rfl, zT_of (i := 750) (by decide +kernel) rfl, zT_of (i := 751) (by decide +kernel) rfl⟩
theorem zl_RX9_231 : zLV RX9 231 yX3_isInDouble := ⟨zT_of (i := 778) (by decide +kernel) rfl, zT_of (i := 779) (by decide +kernel) rfl, zT_of (i := 780) (by decide +kernel) rfl⟩
theorem zl_RX9_234 : zLV RX9 234 yX3_habitOf := ⟨zT_of (i := 782) (by decide +kernel) rfl, zT_of (i := 783) (by decide +kernel) rfl, zT_of (i := 784) (by decide +kernel) rfl⟩
theorem zl_RX9_238 : zLV RX9 238 yX2_piece := ⟨zT_of (i := 799) (by decide +kernel) rfl, zT_of (i := 800) (by decide +kernel) rfl, zT_of (i := 801) (by decide +kernel) rfl⟩
theorem zl_RX9_241 : zLV RX9 241 yX9_evenScore := ⟨zT_of (i := 807) (by decide +kernel) rfl, zT_of (i := 809) (by decide +kernel) rfl, zT_ofp (i := 28) (q := (yX9_evenScore, 16)) (by decide +kernel)⟩
theorem zl_RX9_245 : zLV RX9 245 yX5_latestOf := ⟨zT_of (i := 541) (by decide +kernel) rfl, zT_of (i := 542) (by decide +kernel) rfl, zT_of (i := 543) (by decide +kernel) rfl⟩
theorem zl_RX9_248 : zLV RX9 248 yX9_isOtherWhenEvened := ⟨zT_of (i := 818) (by decide +kernel) rfl, zT_of (i := 820) (by decide +kernel) rfl, zT_ofp (i := 29) (q := (yX9_isOtherWhenEvened, 16)) (by decide +kernel)⟩
theorem zl_RX9_251 : zLV RX9 251 yX9_dealSeats := ⟨zT_of (i := 826) (by decide +kernel) rfl, zT_of (i := 828) (by decide +kernel) rfl, zT_ofp (i := 30) (q := (yX9_dealSeats, 16)) (by decide +kernel)⟩
theorem zl_RX9_254 : zLV RX9 254 yX4_shutsOf := ⟨zT_of (i := 838) (by decide +kernel) rfl, zT_of (i := 839) (by decide +kernel) rfl, zT_of (i := 840) (by decide +kernel) rfl⟩
theorem zl_RX9_257 : zLV RX9 257 yX4_addShut := ⟨zT_of (i := 842) (by decide +kernel) rfl, zT_of (i := 843) (by decide +kernel) rfl, zT_of (i := 844) (by decide +kernel) rfl⟩
theorem zl_RX9_260 : zLV RX9 260 yX1_isFull := ⟨zT_of (i := 850) (by decide +kernel) rfl, zT_of (i := 851) (by decide +kernel) rfl, zT_of (i := 852) (by decide +kernel) rfl⟩
theorem zl_RX9_261 : zLV RX9 261 yX1_add := ⟨zT_of (i := 854) (by decide +kernel) rfl, zT_of (i := 855) (by decide +kernel) rfl, zT_of (i := 856) (by decide +kernel) rfl⟩
theorem zl_RX9_262 : zLV RX9 262 yX1_has := ⟨zT_of (i := 862) (by decide +kernel) rfl, zT_of (i := 863) (by decide +kernel) rfl, zT_of (i := 864) (by decide +kernel) rfl⟩
theorem zl_RX9_263 : zLV RX9 263 yX1_shareOf := ⟨zT_of (i := 866) (by decide +kernel) rfl, zT_of (i := 867) (by decide +kernel) rfl, zT_of (i := 868) (by decide +kernel) rfl⟩
theorem zl_RX9_267 : zLV RX9 267 yX1_kitchenOf := ⟨zT_of (i := 902) (by decide +kernel) rfl, zT_of (i := 903) (by decide +kernel) rfl, zT_of (i := 904) (by decide +kernel) rfl⟩
theorem zl_RX9_270 : zLV RX9 270 yX7_changeBegan := ⟨zT_of (i := 910) (by decide +kernel) rfl, zT_of (i := 911) (by decide +kernel) rfl, zT_of (i := 912) (by decide +kernel) rfl⟩
theorem zl_RX9_273 : zLV RX9 273 yX7_changeCases := ⟨zT_of (i := 918) (by decide +kernel) rfl, zT_of (i := 919) (by decide +kernel) rfl, zT_of (i := 920) (by decide +kernel) rfl⟩
theorem zl_RX9_276 : zLV RX9 276 yX7_hasEffect := ⟨zT_of (i := 926) (by decide +kernel) rfl, zT_of (i := 927) (by decide +kernel) rfl, zT_of (i := 928) (by decide +kernel) rfl⟩
theorem zl_RX9_279 : zLV RX9 279 yX7_trueEffect := ⟨zT_of (i := 941) (by decide +kernel) rfl, zT_of (i := 942) (by decide +kernel) rfl, zT_of (i := 943) (by decide +kernel) rfl⟩
theorem zl_RX9_283 : zLV RX9 283 yX7_waysNoGreater := ⟨zT_of (i := 963) (by decide +kernel) rfl, zT_of (i := 964) (by decide +kernel) rfl, zT_of (i := 965) (by decide +kernel) rfl⟩
theorem zl_RX9_286 : zLV RX9 286 yX0_size := ⟨zT_of (i := 980) (by decide +kernel) rfl, zT_of (i := 501) (by decide +kernel) rfl, zT_of (i := 502) (by decide +kernel) rfl⟩
theorem zl_RX9_287 : zLV RX9 287 yX5_takenBackSize := ⟨zT_of (i := 981) (by decide +kernel) rfl, zT_of (i := 982) (by decide +kernel) rfl, zT_of (i := 983) (by decide +kernel) rfl⟩
theorem zl_RX9_290 : zLV RX9 290 yX6_size := ⟨zT_of (i := 985) (by decide +kernel) rfl, zT_of (i := 986) (by decide +kernel) rfl, zT_of (i := 987) (by decide +kernel) rfl⟩
theorem zl_RX9_291 : zLV RX9 291 yX1_size := ⟨zT_of (i := 989) (by decide +kernel) rfl, zT_of (i := 990) (by decide +kernel) rfl, zT_of (i := 991) (by decide +kernel) rfl⟩
theorem zl_RX9_292 : zLV RX9 292 yX1_joinedSize := ⟨zT_of (i := 993) (by decide +kernel) rfl, zT_of (i := 994) (by decide +kernel) rfl, zT_of (i := 995) (by decide +kernel) rfl⟩
theorem zl_RX9_295 : zLV RX9 295 yX9_refusalsOf := ⟨zT_of (i := 998) (by decide +kernel) rfl, zT_of (i := 1000) (by decide +kernel) rfl, zT_ofp (i := 41) (q := (yX9_refusalsOf, 16)) (by decide +kernel)⟩
theorem zl_RX9_300 : zLV RX9 300 yX6_starOn := ⟨zT_of (i := 545) (by decide +kernel) rfl, zT_of (i := 546) (by decide +kernel) rfl, zT_of (i := 547) (by decide +kernel) rfl⟩
theorem zl_RX9_304 : zLV RX9 304 yX4_mouthsOf := ⟨zT_of (i := 585) (by decide +kernel) rfl, zT_of (i := 586) (by decide +kernel) rfl, zT_of (i := 587) (by decide +kernel) rfl⟩
theorem zl_RX9_307 : zLV RX9 307 yX4_kindOf := ⟨zT_of (i := 589) (by decide +kernel) rfl, zT_of (i := 590) (by decide +kernel) rfl, zT_of (i := 591) (by decide +kernel) rfl⟩
theorem zl_RX9_310 : zLS RX9 310 yJ9_max_7cf53 := ⟨zT_of (i := 597) (by decide +kernel) rfl, zT_of (i := 598) (by decide +kernel) rfl⟩
theorem zl_RX9_315 : zLV RX9 315 yX9_dearestToLeave := ⟨zT_of (i := 619) (by decide +kernel) rfl, zT_of (i := 621) (by decide +kernel) rfl, zT_ofp (i := 7) (q := (yX9_dearestToLeave, 16)) (by decide +kernel)⟩
theorem zl_RX9_318 : zLV RX9 318 yX8_open := ⟨zT_of (i := 627) (by decide +kernel) rfl, zT_of (i := 628) (by decide +kernel) rfl, zT_of (i := 629) (by decide +kernel) rfl⟩
theorem zl_RX9_321 : zLV RX9 321 yX9_enterWeek := ⟨zT_of (i := 634) (by decide +kernel) rfl, zT_of (i := 636) (by decide +kernel) rfl, zT_ofp (i := 9) (q := (yX9_enterWeek, 16)) (by decide +kernel)⟩
theorem zl_RX9_324 : zLV RX9 324 yX8_settleAll := ⟨zT_of (i := 650) (by decide +kernel) rfl, zT_of (i := 651) (by decide +kernel) rfl, zT_of (i := 652) (by decide +kernel) rfl⟩
theorem zl_RX9_327 : zLV RX9 327 yX9_dearestBeside := ⟨zT_of (i := 623) (by decide +kernel) rfl, zT_of (i := 625) (by decide +kernel) rfl, zT_ofp (i := 8) (q := (yX9_dearestBeside, 16)) (by decide +kernel)⟩
theorem zl_RX9_330 : zLV RX9 330 yX9_handsFree := ⟨zT_of (i := 638) (by decide +kernel) rfl, zT_of (i := 640) (by decide +kernel) rfl, zT_ofp (i := 10) (q := (yX9_handsFree, 16)) (by decide +kernel)⟩
theorem zl_RX9_333 : zLV RX9 333 yX8_add := ⟨zT_of (i := 642) (by decide +kernel) rfl, zT_of (i := 643) (by decide +kernel) rfl, zT_of (i := 644) (by decide +kernel) rfl⟩
theorem zl_RX9_334 : zLV RX9 334 yX8_setPrice := ⟨zT_of (i := 646) (by decide +kernel) rfl, zT_of (i := 647) (by decide +kernel) rfl, zT_of (i := 648) (by decide +kernel) rfl⟩
theorem zl_RX9_337 : zLV RX9 337 yX5_inspectorOf := ⟨zT_of (i := 811) (by decide +kernel) rfl, zT_of (i := 736) (by decide +kernel) rfl, zT_of (i := 737) (by decide +kernel) rfl⟩
theorem zl_RX9_340 : zLV RX9 340 yX5_ownScore := ⟨zT_of (i := 812) (by decide +kernel) rfl, zT_of (i := 758) (by decide +kernel) rfl, zT_of (i := 759) (by decide +kernel) rfl⟩
theorem zl_RX9_343 : zLV RX9 343 yX2_put := ⟨zT_of (i := 813) (by decide +kernel) rfl, zT_of (i := 790) (by decide +kernel) rfl, zT_of (i := 791) (by decide +kernel) rfl⟩
theorem zl_RX9_347 : zLS RX9 347 yJ9_min_7cf53 := ⟨zT_of (i := 830) (by decide +kernel) rfl, zT_of (i := 519) (by decide +kernel) rfl⟩
theorem zl_RX9_350 : zLS RX9 350 yJ9_floorMod_7cf53 := ⟨zT_of (i := 831) (by decide +kernel) rfl, zT_of (i := 832) (by decide +kernel) rfl⟩
theorem zo_RX10_1 : Cond.methodLink RX10 1 Lib.objectInit ∈ zT := zT_of (i := 1007) (by decide +kernel) rfl
theorem zl_RX10_168 : zLS RX10 168 yX10_in := ⟨zT_of (i := 1207) (by decide +kernel) rfl, zT_of (i := 1208) (by decide +kernel) rfl⟩
theorem zl_RX10_175 : zLV RX10 175 yX10_refuse := ⟨zT_of (i := 1199) (by decide +kernel) rfl, zT_of (i := 1201) (by decide +kernel) rfl, zT_ofp (i := 42) (q := (yX10_refuse, 62)) (by decide +kernel)⟩
theorem zl_RX10_185 : zLV RX10 185 yX10_isCode := ⟨zT_of (i := 1214) (by decide +kernel) rfl, zT_of (i := 1216) (by decide +kernel) rfl, zT_ofp (i := 43) (q := (yX10_isCode, 62)) (by decide +kernel)⟩
theorem zl_RX10_189 : zLS RX10 189 yX10_wrongDay := ⟨zT_of (i := 1222) (by decide +kernel) rfl, zT_of (i := 1223) (by decide +kernel) rfl⟩
theorem zl_RX10_192 : zLV RX10 192 yX10_standsFor := ⟨zT_of (i := 1225) (by decide +kernel) rfl, zT_of (i := 1227) (by decide +kernel) rfl, zT_ofp (i := 44) (q := (yX10_standsFor, 62)) (by decide +kernel)⟩
theorem zl_RX10_196 : zLV RX10 196 yX10_isKitchen := ⟨zT_of (i := 1241) (by decide +kernel) rfl, zT_of (i := 1243) (by decide +kernel) rfl, zT_ofp (i := 45) (q := (yX10_isKitchen, 62)) (by decide +kernel)⟩
theorem zl_RX10_199 : zLV RX10 199 yX10_isLook := ⟨zT_of (i := 1261) (by decide +kernel) rfl, zT_of (i := 1263) (by decide +kernel) rfl, zT_ofp (i := 46) (q := (yX10_isLook, 62)) (by decide +kernel)⟩
theorem zl_RX10_202 : zLV RX10 202 yX10_scoreOf := ⟨zT_of (i := 1269) (by decide +kernel) rfl, zT_of (i := 1271) (by decide +kernel) rfl, zT_ofp (i := 47) (q := (yX10_scoreOf, 62)) (by decide +kernel)⟩
theorem zl_RX10_208 : zLV RX10 208 yX10_countsBy := ⟨zT_of (i := 1289) (by decide +kernel) rfl, zT_of (i := 1291) (by decide +kernel) rfl, zT_ofp (i := 50) (q := (yX10_countsBy, 62)) (by decide +kernel)⟩
theorem zl_RX10_212 : zLV RX10 212 yX10_lookOn := ⟨zT_of (i := 1285) (by decide +kernel) rfl, zT_of (i := 1287) (by decide +kernel) rfl, zT_ofp (i := 49) (q := (yX10_lookOn, 62)) (by decide +kernel)⟩
theorem zl_RX10_216 : zLV RX10 216 yX10_starBy := ⟨zT_of (i := 1293) (by decide +kernel) rfl, zT_of (i := 1295) (by decide +kernel) rfl, zT_ofp (i := 51) (q := (yX10_starBy, 62)) (by decide +kernel)⟩
theorem zl_RX10_220 : zLV RX10 220 yX10_starOf := ⟨zT_of (i := 1281) (by decide +kernel) rfl, zT_of (i := 1283) (by decide +kernel) rfl, zT_ofp (i := 48) (q := (yX10_starOf, 62)) (by decide +kernel)⟩
theorem zl_RX10_223 : zLV RX10 223 yX10_riskOf := ⟨zT_of (i := 1313) (by decide +kernel) rfl, zT_of (i := 1315) (by decide +kernel) rfl, zT_ofp (i := 52) (q := (yX10_riskOf, 62)) (by decide +kernel)⟩
theorem zl_RX10_226 : zLV RX10 226 yX10_dueOf := ⟨zT_of (i := 1317) (by decide +kernel) rfl, zT_of (i := 1319) (by decide +kernel) rfl, zT_ofp (i := 53) (q := (yX10_dueOf, 62)) (by decide +kernel)⟩
theorem zl_RX10_229 : zLV RX10 229 yX10_costOf := ⟨zT_of (i := 1325) (by decide +kernel) rfl, zT_of (i := 1327) (by decide +kernel) rfl, zT_ofp (i := 54) (q := (yX10_costOf, 62)) (by decide +kernel)⟩
theorem zl_RX10_235 : zLS RX10 235 yX10_ones := ⟨zT_of (i := 1357) (by decide +kernel) rfl, zT_of (i := 1358) (by decide +kernel) rfl⟩
theorem zl_RX10_238 : zLV RX10 238 yX10_ask := ⟨zT_of (i := 1345) (by decide +kernel) rfl, zT_of (i := 1347) (by decide +kernel) rfl, zT_ofp (i := 57) (q := (yX10_ask, 62)) (by decide +kernel)⟩
theorem zl_RX10_241 : zLV RX10 241 yX10_use := ⟨zT_of (i := 1349) (by decide +kernel) rfl, zT_of (i := 1351) (by decide +kernel) rfl, zT_ofp (i := 58) (q := (yX10_use, 62)) (by decide +kernel)⟩
theorem zl_RX10_245 : zLV RX10 245 yX10_mayTake := ⟨zT_of (i := 1353) (by decide +kernel) rfl, zT_of (i := 1355) (by decide +kernel) rfl, zT_ofp (i := 59) (q := (yX10_mayTake, 62)) (by decide +kernel)⟩
theorem zl_RX10_248 : zLV RX10 248 yX10_wrongRounds := ⟨zT_of (i := 1337) (by decide +kernel) rfl, zT_of (i := 1339) (by decide +kernel) rfl, zT_ofp (i := 55) (q := (yX10_wrongRounds, 62)) (by decide +kernel)⟩
theorem zl_RX10_251 : zLV RX10 251 yX10_findRounds := ⟨zT_of (i := 1341) (by decide +kernel) rfl, zT_of (i := 1343) (by decide +kernel) rfl, zT_ofp (i := 56) (q := (yX10_findRounds, 62)) (by decide +kernel)⟩
theorem zl_RX10_254 : zLV RX10 254 yX10_isDouble := ⟨zT_of (i := 1368) (by decide +kernel) rfl, zT_of (i := 1370) (by decide +kernel) rfl, zT_ofp (i := 60) (q := (yX10_isDouble, 62)) (by decide +kernel)⟩
theorem zl_RX10_260 : zLV RX10 260 yX10_entry := ⟨zT_of (i := 1397) (by decide +kernel) rfl, zT_of (i := 1399) (by decide +kernel) rfl, zT_ofp (i := 66) (q := (yX10_entry, 62)) (by decide +kernel)⟩
theorem zl_RX10_264 : zLV RX10 264 yX10_findDoubles := ⟨zT_of (i := 1385) (by decide +kernel) rfl, zT_of (i := 1387) (by decide +kernel) rfl, zT_ofp (i := 63) (q := (yX10_findDoubles, 62)) (by decide +kernel)⟩
theorem zl_RX10_274 : zLV RX10 274 yX10_isJoined := ⟨zT_of (i := 1389) (by decide +kernel) rfl, zT_of (i := 1391) (by decide +kernel) rfl, zT_ofp (i := 64) (q := (yX10_isJoined, 62)) (by decide +kernel)⟩
theorem zl_RX10_277 : zLV RX10 277 yX10_determinant := ⟨zT_of (i := 1393) (by decide +kernel) rfl, zT_of (i := 1395) (by decide +kernel) rfl, zT_ofp (i := 65) (q := (yX10_determinant, 62)) (by decide +kernel)⟩
theorem zl_RX10_281 : zLS RX10 281 yX10_divisor := ⟨zT_of (i := 1401) (by decide +kernel) rfl, zT_of (i := 1402) (by decide +kernel) rfl⟩
theorem zl_RX10_285 : zLV RX10 285 yX10_refuseFar := ⟨zT_of (i := 1376) (by decide +kernel) rfl, zT_of (i := 1378) (by decide +kernel) rfl, zT_ofp (i := 61) (q := (yX10_refuseFar, 62)) (by decide +kernel)⟩
theorem zl_RX10_288 : zLV RX10 288 yX10_findHabit := ⟨zT_of (i := 1381) (by decide +kernel) rfl, zT_of (i := 1383) (by decide +kernel) rfl, zT_ofp (i := 62) (q := (yX10_findHabit, 62)) (by decide +kernel)⟩
theorem zl_RX10_292 : zLV RX10 292 yX10_findEvened := ⟨zT_of (i := 1408) (by decide +kernel) rfl, zT_of (i := 1410) (by decide +kernel) rfl, zT_ofp (i := 67) (q := (yX10_findEvened, 62)) (by decide +kernel)⟩
theorem zl_RX10_298 : zLV RX10 298 yX10_weightOf := ⟨zT_of (i := 1432) (by decide +kernel) rfl, zT_of (i := 1434) (by decide +kernel) rfl, zT_ofp (i := 68) (q := (yX10_weightOf, 62)) (by decide +kernel)⟩
theorem zl_RX10_301 : zLV RX10 301 yX10_weightsOf := ⟨zT_of (i := 1436) (by decide +kernel) rfl, zT_of (i := 1438) (by decide +kernel) rfl, zT_ofp (i := 69) (q := (yX10_weightsOf, 62)) (by decide +kernel)⟩
theorem zl_RX10_306 : zLV RX10 306 yX10_joinedTo := ⟨zT_of (i := 1444) (by decide +kernel) rfl, zT_of (i := 1446) (by decide +kernel) rfl, zT_ofp (i := 70) (q := (yX10_joinedTo, 62)) (by decide +kernel)⟩
theorem zl_RX10_315 : zLV RX10 315 yX10_casesOf := ⟨zT_of (i := 1469) (by decide +kernel) rfl, zT_of (i := 1471) (by decide +kernel) rfl, zT_ofp (i := 73) (q := (yX10_casesOf, 62)) (by decide +kernel)⟩
theorem zl_RX10_319 : zLV RX10 319 yX10_addEffect := ⟨zT_of (i := 1473) (by decide +kernel) rfl, zT_of (i := 1475) (by decide +kernel) rfl, zT_ofp (i := 74) (q := (yX10_addEffect, 62)) (by decide +kernel)⟩
theorem zl_RX10_325 : zLV RX10 325 yX10_findEffect := ⟨zT_of (i := 1465) (by decide +kernel) rfl, zT_of (i := 1467) (by decide +kernel) rfl, zT_ofp (i := 72) (q := (yX10_findEffect, 62)) (by decide +kernel)⟩
theorem zl_RX10_329 : zLV RX10 329 yX10_findTrue := ⟨zT_of (i := 1461) (by decide +kernel) rfl, zT_of (i := 1463) (by decide +kernel) rfl, zT_ofp (i := 71) (q := (yX10_findTrue, 62)) (by decide +kernel)⟩
theorem zl_RX10_332 : zLV RX10 332 yX10_findChance := ⟨zT_of (i := 1482) (by decide +kernel) rfl, zT_of (i := 1484) (by decide +kernel) rfl, zT_ofp (i := 75) (q := (yX10_findChance, 62)) (by decide +kernel)⟩
theorem zl_RL_9 : zLI RL 9 yX9_init := ⟨zT_of (i := 17) (by decide +kernel) rfl, zT_of (i := 18) (by decide +kernel) rfl, rfl⟩
theorem zl_RL_12 : zLI RL 12 yX10_init := ⟨zT_of (i := 1004) (by decide +kernel) rfl, zT_of (i := 1005) (by decide +kernel) rfl, rfl⟩
theorem zl_RL_13 : zLV RL 13 yX9_days := ⟨zT_of (i := 345) (by decide +kernel) rfl, zT_of (i := 346) (by decide +kernel) rfl, zT_of (i := 347) (by decide +kernel) rfl⟩
theorem zl_RL_17 : zLV RL 17 yX10_days := ⟨zT_of (i := 1195) (by decide +kernel) rfl, zT_of (i := 1196) (by decide +kernel) rfl, zT_of (i := 1197) (by decide +kernel) rfl⟩
theorem zl_RL_18 : zLV RL 18 yX9_code := ⟨zT_of (i := 353) (by decide +kernel) rfl, zT_of (i := 354) (by decide +kernel) rfl, zT_of (i := 355) (by decide +kernel) rfl⟩
theorem zl_RL_22 : zLV RL 22 yX10_code := ⟨zT_of (i := 1203) (by decide +kernel) rfl, zT_of (i := 1204) (by decide +kernel) rfl, zT_of (i := 1205) (by decide +kernel) rfl⟩
theorem zl_RL_23 : zLV RL 23 yX9_turn := ⟨zT_of (i := 368) (by decide +kernel) rfl, zT_of (i := 369) (by decide +kernel) rfl, zT_of (i := 370) (by decide +kernel) rfl⟩
theorem zl_RL_26 : zLV RL 26 yX10_turn := ⟨zT_of (i := 1210) (by decide +kernel) rfl, zT_of (i := 1211) (by decide +kernel) rfl, zT_of (i := 1212) (by decide +kernel) rfl⟩
theorem zl_RL_27 : zLV RL 27 yX9_stands := ⟨zT_of (i := 384) (by decide +kernel) rfl, zT_of (i := 385) (by decide +kernel) rfl, zT_of (i := 386) (by decide +kernel) rfl⟩
theorem zl_RL_31 : zLV RL 31 yX10_stands := ⟨zT_of (i := 1218) (by decide +kernel) rfl, zT_of (i := 1219) (by decide +kernel) rfl, zT_of (i := 1220) (by decide +kernel) rfl⟩
theorem zl_RL_32 : zLV RL 32 yX9_most := ⟨zT_of (i := 392) (by decide +kernel) rfl, zT_of (i := 393) (by decide +kernel) rfl, zT_of (i := 394) (by decide +kernel) rfl⟩
theorem zl_RL_35 : zLV RL 35 yX10_most := ⟨zT_of (i := 1229) (by decide +kernel) rfl, zT_of (i := 1230) (by decide +kernel) rfl, zT_of (i := 1231) (by decide +kernel) rfl⟩
theorem zl_RL_36 : zLV RL 36 yX9_kitchen := ⟨zT_of (i := 400) (by decide +kernel) rfl, zT_of (i := 401) (by decide +kernel) rfl, zT_of (i := 402) (by decide +kernel) rfl⟩
theorem zl_RL_40 : zLV RL 40 yX10_kitchen := ⟨zT_of (i := 1233) (by decide +kernel) rfl, zT_of (i := 1234) (by decide +kernel) rfl, zT_of (i := 1235) (by decide +kernel) rfl⟩
theorem zl_RL_41 : zLV RL 41 yX9_hard := ⟨zT_of (i := 412) (by decide +kernel) rfl, zT_of (i := 413) (by decide +kernel) rfl, zT_of (i := 414) (by decide +kernel) rfl⟩
theorem zl_RL_45 : zLV RL 45 yX10_hard := ⟨zT_of (i := 1237) (by decide +kernel) rfl, zT_of (i := 1238) (by decide +kernel) rfl, zT_of (i := 1239) (by decide +kernel) rfl⟩
theorem zl_RL_46 : zLV RL 46 yX9_kin := ⟨zT_of (i := 428) (by decide +kernel) rfl, zT_of (i := 429) (by decide +kernel) rfl, zT_of (i := 430) (by decide +kernel) rfl⟩
theorem zl_RL_50 : zLV RL 50 yX10_kin := ⟨zT_of (i := 1245) (by decide +kernel) rfl, zT_of (i := 1246) (by decide +kernel) rfl, zT_of (i := 1247) (by decide +kernel) rfl⟩
theorem zl_RL_51 : zLV RL 51 yX9_look := ⟨zT_of (i := 436) (by decide +kernel) rfl, zT_of (i := 437) (by decide +kernel) rfl, zT_of (i := 438) (by decide +kernel) rfl⟩
theorem zl_RL_54 : zLV RL 54 yX10_look := ⟨zT_of (i := 1249) (by decide +kernel) rfl, zT_of (i := 1250) (by decide +kernel) rfl, zT_of (i := 1251) (by decide +kernel) rfl⟩
theorem zl_RL_55 : zLV RL 55 yX9_find := ⟨zT_of (i := 452) (by decide +kernel) rfl, zT_of (i := 453) (by decide +kernel) rfl, zT_of (i := 454) (by decide +kernel) rfl⟩
theorem zl_RL_58 : zLV RL 58 yX10_find := ⟨zT_of (i := 1253) (by decide +kernel) rfl, zT_of (i := 1254) (by decide +kernel) rfl, zT_of (i := 1255) (by decide +kernel) rfl⟩
theorem zl_RL_59 : zLV RL 59 yX9_back := ⟨zT_of (i := 484) (by decide +kernel) rfl, zT_of (i := 485) (by decide +kernel) rfl, zT_of (i := 486) (by decide +kernel) rfl⟩
theorem zl_RL_62 : zLV RL 62 yX10_back := ⟨zT_of (i := 1257) (by decide +kernel) rfl, zT_of (i := 1258) (by decide +kernel) rfl, zT_of (i := 1259) (by decide +kernel) rfl⟩
theorem zl_RL_63 : zLV RL 63 yX9_score := ⟨zT_of (i := 492) (by decide +kernel) rfl, zT_of (i := 493) (by decide +kernel) rfl, zT_of (i := 494) (by decide +kernel) rfl⟩
theorem zl_RL_66 : zLV RL 66 yX10_score := ⟨zT_of (i := 1265) (by decide +kernel) rfl, zT_of (i := 1266) (by decide +kernel) rfl, zT_of (i := 1267) (by decide +kernel) rfl⟩
theorem zl_RL_67 : zLV RL 67 yX9_table := ⟨zT_of (i := 521) (by decide +kernel) rfl, zT_of (i := 522) (by decide +kernel) rfl, zT_of (i := 523) (by decide +kernel) rfl⟩
theorem zl_RL_70 : zLV RL 70 yX10_table := ⟨zT_of (i := 1273) (by decide +kernel) rfl, zT_of (i := 1274) (by decide +kernel) rfl, zT_of (i := 1275) (by decide +kernel) rfl⟩
theorem zl_RL_71 : zLV RL 71 yX9_star := ⟨zT_of (i := 533) (by decide +kernel) rfl, zT_of (i := 534) (by decide +kernel) rfl, zT_of (i := 535) (by decide +kernel) rfl⟩
theorem zl_RL_74 : zLV RL 74 yX10_star := ⟨zT_of (i := 1277) (by decide +kernel) rfl, zT_of (i := 1278) (by decide +kernel) rfl, zT_of (i := 1279) (by decide +kernel) rfl⟩
theorem zl_RL_75 : zLV RL 75 yX9_show := ⟨zT_of (i := 553) (by decide +kernel) rfl, zT_of (i := 554) (by decide +kernel) rfl, zT_of (i := 555) (by decide +kernel) rfl⟩
theorem zl_RL_78 : zLV RL 78 yX10_show := ⟨zT_of (i := 1297) (by decide +kernel) rfl, zT_of (i := 1298) (by decide +kernel) rfl, zT_of (i := 1299) (by decide +kernel) rfl⟩
theorem zl_RL_79 : zLV RL 79 yX9_falses := ⟨zT_of (i := 561) (by decide +kernel) rfl, zT_of (i := 562) (by decide +kernel) rfl, zT_of (i := 563) (by decide +kernel) rfl⟩
theorem zl_RL_83 : zLV RL 83 yX10_falses := ⟨zT_of (i := 1301) (by decide +kernel) rfl, zT_of (i := 1302) (by decide +kernel) rfl, zT_of (i := 1303) (by decide +kernel) rfl⟩
theorem zl_RL_84 : zLV RL 84 yX9_base := ⟨zT_of (i := 573) (by decide +kernel) rfl, zT_of (i := 574) (by decide +kernel) rfl, zT_of (i := 575) (by decide +kernel) rfl⟩
theorem zl_RL_87 : zLV RL 87 yX10_base := ⟨zT_of (i := 1305) (by decide +kernel) rfl, zT_of (i := 1306) (by decide +kernel) rfl, zT_of (i := 1307) (by decide +kernel) rfl⟩
theorem zl_RL_88 : zLV RL 88 yX9_risk := ⟨zT_of (i := 577) (by decide +kernel) rfl, zT_of (i := 578) (by decide +kernel) rfl, zT_of (i := 579) (by decide +kernel) rfl⟩
theorem zl_RL_91 : zLV RL 91 yX10_risk := ⟨zT_of (i := 1309) (by decide +kernel) rfl, zT_of (i := 1310) (by decide +kernel) rfl, zT_of (i := 1311) (by decide +kernel) rfl⟩
theorem zl_RL_92 : zLV RL 92 yX9_delay := ⟨zT_of (i := 600) (by decide +kernel) rfl, zT_of (i := 601) (by decide +kernel) rfl, zT_of (i := 602) (by decide +kernel) rfl⟩
theorem zl_RL_95 : zLV RL 95 yX10_delay := ⟨zT_of (i := 1321) (by decide +kernel) rfl, zT_of (i := 1322) (by decide +kernel) rfl, zT_of (i := 1323) (by decide +kernel) rfl⟩
theorem zl_RL_96 : zLV RL 96 yX9_capacity := ⟨zT_of (i := 607) (by decide +kernel) rfl, zT_of (i := 608) (by decide +kernel) rfl, zT_of (i := 609) (by decide +kernel) rfl⟩
theorem zl_RL_99 : zLV RL 99 yX10_capacity := ⟨zT_of (i := 1329) (by decide +kernel) rfl, zT_of (i := 1330) (by decide +kernel) rfl, zT_of (i := 1331) (by decide +kernel) rfl⟩
theorem zl_RL_100 : zLV RL 100 yX9_rounds := ⟨zT_of (i := 611) (by decide +kernel) rfl, zT_of (i := 612) (by decide +kernel) rfl, zT_of (i := 613) (by decide +kernel) rfl⟩
theorem zl_RL_103 : zLV RL 103 yX10_rounds := ⟨zT_of (i := 1333) (by decide +kernel) rfl, zT_of (i := 1334) (by decide +kernel) rfl, zT_of (i := 1335) (by decide +kernel) rfl⟩
theorem zl_RL_104 : zLV RL 104 yX9_roundOf := ⟨zT_of (i := 705) (by decide +kernel) rfl, zT_of (i := 706) (by decide +kernel) rfl, zT_of (i := 707) (by decide +kernel) rfl⟩
theorem zl_RL_107 : zLV RL 107 yX10_roundOf := ⟨zT_of (i := 1360) (by decide +kernel) rfl, zT_of (i := 1361) (by decide +kernel) rfl, zT_of (i := 1362) (by decide +kernel) rfl⟩
theorem zl_RL_108 : zLV RL 108 yX9_doubles := ⟨zT_of (i := 717) (by decide +kernel) rfl, zT_of (i := 718) (by decide +kernel) rfl, zT_of (i := 719) (by decide +kernel) rfl⟩
theorem zl_RL_111 : zLV RL 111 yX10_doubles := ⟨zT_of (i := 1364) (by decide +kernel) rfl, zT_of (i := 1365) (by decide +kernel) rfl, zT_of (i := 1366) (by decide +kernel) rfl⟩
theorem zl_RL_112 : zLV RL 112 yX9_habit := ⟨zT_of (i := 740) (by decide +kernel) rfl, zT_of (i := 741) (by decide +kernel) rfl, zT_of (i := 742) (by decide +kernel) rfl⟩
theorem zl_RL_116 : zLV RL 116 yX10_habit := ⟨zT_of (i := 1372) (by decide +kernel) rfl, zT_of (i := 1373) (by decide +kernel) rfl, zT_of (i := 1374) (by decide +kernel) rfl⟩
theorem zl_RL_117 : zLV RL 117 yX9_evened := ⟨zT_of (i := 803) (by decide +kernel) rfl, zT_of (i := 804) (by decide +kernel) rfl, zT_of (i := 805) (by decide +kernel) rfl⟩
theorem zl_RL_120 : zLV RL 120 yX10_evened := ⟨zT_of (i := 1404) (by decide +kernel) rfl, zT_of (i := 1405) (by decide +kernel) rfl, zT_of (i := 1406) (by decide +kernel) rfl⟩
theorem zl_RL_121 : zLV RL 121 yX9_others := ⟨zT_of (i := 814) (by decide +kernel) rfl, zT_of (i := 815) (by decide +kernel) rfl, zT_of (i := 816) (by decide +kernel) rfl⟩
theorem zl_RL_124 : zLV RL 124 yX10_others := ⟨zT_of (i := 1412) (by decide +kernel) rfl, zT_of (i := 1413) (by decide +kernel) rfl, zT_of (i := 1414) (by decide +kernel) rfl⟩
theorem zl_RL_125 : zLV RL 125 yX9_swap := ⟨zT_of (i := 822) (by decide +kernel) rfl, zT_of (i := 823) (by decide +kernel) rfl, zT_of (i := 824) (by decide +kernel) rfl⟩
theorem zl_RL_128 : zLV RL 128 yX10_swap := ⟨zT_of (i := 1416) (by decide +kernel) rfl, zT_of (i := 1417) (by decide +kernel) rfl, zT_of (i := 1418) (by decide +kernel) rfl⟩
theorem zl_RL_129 : zLV RL 129 yX9_shut := ⟨zT_of (i := 834) (by decide +kernel) rfl, zT_of (i := 835) (by decide +kernel) rfl, zT_of (i := 836) (by decide +kernel) rfl⟩
theorem zl_RL_132 : zLV RL 132 yX10_shut := ⟨zT_of (i := 1420) (by decide +kernel) rfl, zT_of (i := 1421) (by decide +kernel) rfl, zT_of (i := 1422) (by decide +kernel) rfl⟩
theorem zl_RL_133 : zLV RL 133 yX9_complaint := ⟨zT_of (i := 846) (by decide +kernel) rfl, zT_of (i := 847) (by decide +kernel) rfl, zT_of (i := 848) (by decide +kernel) rfl⟩
theorem zl_RL_137 : zLV RL 137 yX10_complaint := ⟨zT_of (i := 1424) (by decide +kernel) rfl, zT_of (i := 1425) (by decide +kernel) rfl, zT_of (i := 1426) (by decide +kernel) rfl⟩
theorem zl_RL_138 : zLV RL 138 yX9_part := ⟨zT_of (i := 858) (by decide +kernel) rfl, zT_of (i := 859) (by decide +kernel) rfl, zT_of (i := 860) (by decide +kernel) rfl⟩
theorem zl_RL_141 : zLV RL 141 yX10_part := ⟨zT_of (i := 1428) (by decide +kernel) rfl, zT_of (i := 1429) (by decide +kernel) rfl, zT_of (i := 1430) (by decide +kernel) rfl⟩
theorem zl_RL_142 : zLV RL 142 yX9_joined := ⟨zT_of (i := 898) (by decide +kernel) rfl, zT_of (i := 899) (by decide +kernel) rfl, zT_of (i := 900) (by decide +kernel) rfl⟩
theorem zl_RL_145 : zLV RL 145 yX10_joined := ⟨zT_of (i := 1440) (by decide +kernel) rfl, zT_of (i := 1441) (by decide +kernel) rfl, zT_of (i := 1442) (by decide +kernel) rfl⟩
theorem zl_RL_146 : zLV RL 146 yX9_began := ⟨zT_of (i := 906) (by decide +kernel) rfl, zT_of (i := 907) (by decide +kernel) rfl, zT_of (i := 908) (by decide +kernel) rfl⟩
theorem zl_RL_149 : zLV RL 149 yX10_began := ⟨zT_of (i := 1449) (by decide +kernel) rfl, zT_of (i := 1450) (by decide +kernel) rfl, zT_of (i := 1451) (by decide +kernel) rfl⟩
theorem zl_RL_150 : zLV RL 150 yX9_cases := ⟨zT_of (i := 914) (by decide +kernel) rfl, zT_of (i := 915) (by decide +kernel) rfl, zT_of (i := 916) (by decide +kernel) rfl⟩
theorem zl_RL_153 : zLV RL 153 yX10_cases := ⟨zT_of (i := 1453) (by decide +kernel) rfl, zT_of (i := 1454) (by decide +kernel) rfl, zT_of (i := 1455) (by decide +kernel) rfl⟩
theorem zl_RL_154 : zLV RL 154 yX9_effect := ⟨zT_of (i := 922) (by decide +kernel) rfl, zT_of (i := 923) (by decide +kernel) rfl, zT_of (i := 924) (by decide +kernel) rfl⟩
theorem zl_RL_158 : zLV RL 158 yX10_effect := ⟨zT_of (i := 1457) (by decide +kernel) rfl, zT_of (i := 1458) (by decide +kernel) rfl, zT_of (i := 1459) (by decide +kernel) rfl⟩
theorem zl_RL_159 : zLV RL 159 yX9_chance := ⟨zT_of (i := 959) (by decide +kernel) rfl, zT_of (i := 960) (by decide +kernel) rfl, zT_of (i := 961) (by decide +kernel) rfl⟩
theorem zl_RL_162 : zLV RL 162 yX10_chance := ⟨zT_of (i := 1478) (by decide +kernel) rfl, zT_of (i := 1479) (by decide +kernel) rfl, zT_of (i := 1480) (by decide +kernel) rfl⟩
theorem zl_RL_163 : zLV RL 163 yX9_helped := ⟨zT_of (i := 972) (by decide +kernel) rfl, zT_of (i := 973) (by decide +kernel) rfl, zT_of (i := 974) (by decide +kernel) rfl⟩
theorem zl_RL_166 : zLV RL 166 yX10_helped := ⟨zT_of (i := 1486) (by decide +kernel) rfl, zT_of (i := 1487) (by decide +kernel) rfl, zT_of (i := 1488) (by decide +kernel) rfl⟩
theorem zl_RL_167 : zLV RL 167 yX9_count := ⟨zT_of (i := 976) (by decide +kernel) rfl, zT_of (i := 977) (by decide +kernel) rfl, zT_of (i := 978) (by decide +kernel) rfl⟩
theorem zl_RL_170 : zLV RL 170 yX10_count := ⟨zT_of (i := 1490) (by decide +kernel) rfl, zT_of (i := 1491) (by decide +kernel) rfl, zT_of (i := 1492) (by decide +kernel) rfl⟩
theorem zo_1 : Cond.instanceMethod Lib.objectInit ∈ zT := zT_of (i := 21) (by decide +kernel) rfl
theorem zo_2 : Cond.code Lib.objectInit ⟨#[0xb1]⟩ 1 none ∈ zT := zT_of (i := 22) (by decide +kernel) rfl
theorem zc_RJ6_265 : Cond.constant RJ6 265 1431655765 ∈ zT := zT_of (i := 661) (by decide +kernel) rfl
theorem zc_RJ6_266 : Cond.constant RJ6 266 858993459 ∈ zT := zT_of (i := 662) (by decide +kernel) rfl
theorem zc_RJ6_267 : Cond.constant RJ6 267 252645135 ∈ zT := zT_of (i := 663) (by decide +kernel) rfl
theorem zc_RX8_107 : Cond.constant RX8 107 536870912 ∈ zT := zT_of (i := 684) (by decide +kernel) rfl
theorem zc_RX7_55 : Cond.constantLong RX7 55 27720 ∈ zT := zT_of (i := 949) (by decide +kernel) rfl
theorem zc_RX9_298 : Cond.constantLong RX9 298 4000000000000000000 ∈ zT := zT_of (i := 748) (by decide +kernel) rfl
theorem zc_RX10_163 : Cond.constantLong RX10 163 4000000000000000000 ∈ zT := zT_of (i := 1380) (by decide +kernel) rfl
theorem zc_RX10_304 : Cond.constantLong RX10 304 2 ∈ zT := zT_of (i := 1448) (by decide +kernel) rfl
theorem zc_RX10_323 : Cond.constantLong RX10 323 12 ∈ zT := zT_of (i := 1477) (by decide +kernel) rfl
theorem za_int : Cond.arrayClass .int ∈ zT := zT_of (i := 54) (by decide +kernel) rfl
theorem za_long : Cond.arrayClass .long ∈ zT := zT_of (i := 212) (by decide +kernel) rfl
theorem za_boolean : Cond.arrayClass .boolean ∈ zT := zT_of (i := 55) (by decide +kernel) rfl
theorem zn_RX1_27 : Cond.classLink RX1 27 RX2 ∈ zT := zT_of (i := 238) (by decide +kernel) rfl
theorem zn_RX3_25 : Cond.classLink RX3 25 RX2 ∈ zT := zT_of (i := 199) (by decide +kernel) rfl
theorem zn_RX7_28 : Cond.classLink RX7 28 RX2 ∈ zT := zT_of (i := 271) (by decide +kernel) rfl
theorem zn_RX9_26 : Cond.classLink RX9 26 RX0 ∈ zT := zT_of (i := 23) (by decide +kernel) rfl
theorem zn_RX9_33 : Cond.classLink RX9 33 RX4 ∈ zT := zT_of (i := 56) (by decide +kernel) rfl
theorem zn_RX9_40 : Cond.classLink RX9 40 RX5 ∈ zT := zT_of (i := 96) (by decide +kernel) rfl
theorem zn_RX9_49 : Cond.classLink RX9 49 RX6 ∈ zT := zT_of (i := 134) (by decide +kernel) rfl
theorem zn_RX9_56 : Cond.classLink RX9 56 RX8 ∈ zT := zT_of (i := 150) (by decide +kernel) rfl
theorem zn_RX9_63 : Cond.classLink RX9 63 RX3 ∈ zT := zT_of (i := 193) (by decide +kernel) rfl
theorem zn_RX9_72 : Cond.classLink RX9 72 RX1 ∈ zT := zT_of (i := 232) (by decide +kernel) rfl
theorem zn_RX9_81 : Cond.classLink RX9 81 RX7 ∈ zT := zT_of (i := 265) (by decide +kernel) rfl
theorem zn_RX9_88 : Cond.classLink RX9 88 RX2 ∈ zT := zT_of (i := 293) (by decide +kernel) rfl
theorem zn_RL_7 : Cond.classLink RL 7 RX9 ∈ zT := zT_of (i := 15) (by decide +kernel) rfl
theorem zn_RL_10 : Cond.classLink RL 10 RX10 ∈ zT := zT_of (i := 1002) (by decide +kernel) rfl
theorem zi_RX0 : Cond.instantiable RX0 7 ∈ zT := zT_of (i := 24) (by decide +kernel) rfl
theorem zj_RX0 : Cond.initialized RX0 ∈ zT := zT_of (i := 2) (by decide +kernel) rfl
theorem zi_RX1 : Cond.instantiable RX1 8 ∈ zT := zT_of (i := 233) (by decide +kernel) rfl
theorem zj_RX1 : Cond.initialized RX1 ∈ zT := zT_of (i := 10) (by decide +kernel) rfl
theorem zi_RX2 : Cond.instantiable RX2 2 ∈ zT := zT_of (i := 200) (by decide +kernel) rfl
theorem zj_RX2 : Cond.initialized RX2 ∈ zT := zT_of (i := 9) (by decide +kernel) rfl
theorem zi_RX3 : Cond.instantiable RX3 6 ∈ zT := zT_of (i := 194) (by decide +kernel) rfl
theorem zj_RX3 : Cond.initialized RX3 ∈ zT := zT_of (i := 8) (by decide +kernel) rfl
theorem zi_RX4 : Cond.instantiable RX4 11 ∈ zT := zT_of (i := 57) (by decide +kernel) rfl
theorem zj_RX4 : Cond.initialized RX4 ∈ zT := zT_of (i := 4) (by decide +kernel) rfl
theorem zi_RX5 : Cond.instantiable RX5 10 ∈ zT := zT_of (i := 97) (by decide +kernel) rfl
theorem zj_RX5 : Cond.initialized RX5 ∈ zT := zT_of (i := 5) (by decide +kernel) rfl
theorem zi_RX6 : Cond.instantiable RX6 3 ∈ zT := zT_of (i := 135) (by decide +kernel) rfl
theorem zj_RX6 : Cond.initialized RX6 ∈ zT := zT_of (i := 6) (by decide +kernel) rfl
theorem zi_RX7 : Cond.instantiable RX7 6 ∈ zT := zT_of (i := 266) (by decide +kernel) rfl
theorem zj_RX7 : Cond.initialized RX7 ∈ zT := zT_of (i := 11) (by decide +kernel) rfl
theorem zi_RX8 : Cond.instantiable RX8 12 ∈ zT := zT_of (i := 151) (by decide +kernel) rfl
theorem zj_RX8 : Cond.initialized RX8 ∈ zT := zT_of (i := 7) (by decide +kernel) rfl
theorem zi_RX9 : Cond.instantiable RX9 16 ∈ zT := zT_of (i := 16) (by decide +kernel) rfl
theorem zj_RX9 : Cond.initialized RX9 ∈ zT := zT_of (i := 1) (by decide +kernel) rfl
theorem zi_RX10 : Cond.instantiable RX10 62 ∈ zT := zT_of (i := 1003) (by decide +kernel) rfl
theorem zj_RX10 : Cond.initialized RX10 ∈ zT := zT_of (i := 12) (by decide +kernel) rfl
