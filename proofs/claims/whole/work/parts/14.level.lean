theorem w_3_116 : Cond.methodLink RX1 37 yX2_within ∈ TBL := TBL_t (tin3 (List.mem_of_getElem? (i := 116) (by decide +kernel))) (by decide +kernel)
theorem w_1_145 : Cond.fieldLink RX1 43 "LevelGone$Planner" "turns" "I" ∈ TBL := TBL_t (tin1 (List.mem_of_getElem? (i := 145) (by decide +kernel))) (by decide +kernel)
theorem w_1_152 : Cond.fieldLink RX1 18 "LevelGone$Planner" "turnKinds" "[I" ∈ TBL := TBL_t (tin1 (List.mem_of_getElem? (i := 152) (by decide +kernel))) (by decide +kernel)
theorem w_3_117 : Cond.methodLink RX1 47 yX2_put ∈ TBL := TBL_t (tin3 (List.mem_of_getElem? (i := 117) (by decide +kernel))) (by decide +kernel)
theorem w_1_190 : Cond.fieldLink RX7 311 "LevelGone" "refusedAsBad" "I" ∈ TBL := TBL_t (tin1 (List.mem_of_getElem? (i := 190) (by decide +kernel))) (by decide +kernel)
theorem w_1_191 : Cond.fieldLink RX7 314 "LevelGone" "refusedAsNo" "I" ∈ TBL := TBL_t (tin1 (List.mem_of_getElem? (i := 191) (by decide +kernel))) (by decide +kernel)
theorem w_1_192 : Cond.fieldLink RX7 317 "LevelGone" "refusedAsFull" "I" ∈ TBL := TBL_t (tin1 (List.mem_of_getElem? (i := 192) (by decide +kernel))) (by decide +kernel)
theorem w_1_231 : Cond.methodLink RX7 77 yX2_within ∈ TBL := TBL_t (tin1 (List.mem_of_getElem? (i := 231) (by decide +kernel))) (by decide +kernel)
theorem w_3_0 : Cond.methodLink RX7 161 yX7_isPlot ∈ TBL := TBL_t (tin3 (List.mem_of_getElem? (i := 0) (by decide +kernel))) (by decide +kernel)
theorem w_1_178 : Cond.fieldLink RX7 10 "LevelGone" "town" "LLevelGone$Town;" ∈ TBL := TBL_t (tin1 (List.mem_of_getElem? (i := 178) (by decide +kernel))) (by decide +kernel)
theorem w_1_68 : Cond.fieldLink RX7 66 "LevelGone$Town" "site" "LLevelGone$Site;" ∈ TBL := TBL_t (tin1 (List.mem_of_getElem? (i := 68) (by decide +kernel))) (by decide +kernel)
theorem w_1_40 : Cond.fieldLink RX7 143 "LevelGone$Site" "off" "I" ∈ TBL := TBL_t (tin1 (List.mem_of_getElem? (i := 40) (by decide +kernel))) (by decide +kernel)
theorem w_3_53 : Cond.methodLink RX7 174 yX3_top ∈ TBL := TBL_t (tin3 (List.mem_of_getElem? (i := 53) (by decide +kernel))) (by decide +kernel)
theorem w_3_74 : Cond.methodLink RX7 183 yJ9_abs_0f7a4 ∈ TBL := TBL_t (tin3 (List.mem_of_getElem? (i := 74) (by decide +kernel))) (by decide +kernel)
theorem w_1_77 : Cond.fieldLink RX7 101 "LevelGone$Town" "members" "I" ∈ TBL := TBL_t (tin1 (List.mem_of_getElem? (i := 77) (by decide +kernel))) (by decide +kernel)
theorem w_1_75 : Cond.fieldLink RX7 107 "LevelGone$Town" "views" "[I" ∈ TBL := TBL_t (tin1 (List.mem_of_getElem? (i := 75) (by decide +kernel))) (by decide +kernel)
theorem w_2_28 : Cond.methodLink RX7 89 yX2_at ∈ TBL := TBL_t (tin2 (List.mem_of_getElem? (i := 28) (by decide +kernel))) (by decide +kernel)
theorem w_3_150 : Cond.methodLink RX7 334 yJ6_bitCount_0f7a4 ∈ TBL := TBL_t (tin3 (List.mem_of_getElem? (i := 150) (by decide +kernel))) (by decide +kernel)
theorem w_1_187 : Cond.fieldLink RX7 51 "LevelGone" "tally" "[I" ∈ TBL := TBL_t (tin1 (List.mem_of_getElem? (i := 187) (by decide +kernel))) (by decide +kernel)
theorem w_3_197 : Cond.methodLink RX7 279 yX2_empty ∈ TBL := TBL_t (tin3 (List.mem_of_getElem? (i := 197) (by decide +kernel))) (by decide +kernel)
theorem w_3_105 : Cond.methodLink RX7 208 yX7_has ∈ TBL := TBL_t (tin3 (List.mem_of_getElem? (i := 105) (by decide +kernel))) (by decide +kernel)
theorem w_3_164 : Cond.methodLink RX7 233 yX0_behind ∈ TBL := TBL_t (tin3 (List.mem_of_getElem? (i := 164) (by decide +kernel))) (by decide +kernel)
theorem w_2_29 : Cond.methodLink RX7 93 yX2_put ∈ TBL := TBL_t (tin2 (List.mem_of_getElem? (i := 29) (by decide +kernel))) (by decide +kernel)
theorem w_3_104 : Cond.methodLink RX7 205 yJ9_max_7cf53 ∈ TBL := TBL_t (tin3 (List.mem_of_getElem? (i := 104) (by decide +kernel))) (by decide +kernel)
theorem w_3_215 : Cond.methodLink RX7 337 yX4_stands ∈ TBL := TBL_t (tin3 (List.mem_of_getElem? (i := 215) (by decide +kernel))) (by decide +kernel)
theorem w_1_45 : Cond.fieldLink RX7 152 "LevelGone$Site" "year" "I" ∈ TBL := TBL_t (tin1 (List.mem_of_getElem? (i := 45) (by decide +kernel))) (by decide +kernel)
theorem w_3_38 : Cond.methodLink RX7 158 yX6_pullOf ∈ TBL := TBL_t (tin3 (List.mem_of_getElem? (i := 38) (by decide +kernel))) (by decide +kernel)
theorem w_1_63 : Cond.fieldLink RX7 155 "LevelGone$Town" "kind" "I" ∈ TBL := TBL_t (tin1 (List.mem_of_getElem? (i := 63) (by decide +kernel))) (by decide +kernel)
theorem w_3_224 : Cond.methodLink RX7 343 yX7_farOffBehind ∈ TBL := TBL_t (tin3 (List.mem_of_getElem? (i := 224) (by decide +kernel))) (by decide +kernel)
theorem w_4_9 : Cond.methodLink RX7 349 yX7_commonDivisor ∈ TBL := TBL_t (tin4 (List.mem_of_getElem? (i := 9) (by decide +kernel))) (by decide +kernel)
theorem w_1_188 : Cond.fieldLink RX7 301 "LevelGone" "above" "J" ∈ TBL := TBL_t (tin1 (List.mem_of_getElem? (i := 188) (by decide +kernel))) (by decide +kernel)
theorem w_1_189 : Cond.fieldLink RX7 54 "LevelGone" "below" "J" ∈ TBL := TBL_t (tin1 (List.mem_of_getElem? (i := 189) (by decide +kernel))) (by decide +kernel)
theorem w_3_2 : Cond.code yX7_isPlot cX7_isPlot 1 (some .boolean) ∈ TBL := TBL_t (tin3 (List.mem_of_getElem? (i := 2) (by decide +kernel))) (by decide +kernel)
theorem w_3_1 : Cond.static yX7_isPlot ∈ TBL := TBL_t (tin3 (List.mem_of_getElem? (i := 1) (by decide +kernel))) (by decide +kernel)
theorem w_1_1 : Cond.initialized RX7 ∈ TBL := TBL_t (tin1 (List.mem_of_getElem? (i := 1) (by decide +kernel))) (by decide +kernel)
theorem w_3_55 : Cond.selects yX3_top.cls yX3_top yX3_top ∈ TBL := TBL_t (tin3 (List.mem_of_getElem? (i := 55) (by decide +kernel))) (by decide +kernel)
theorem w_3_56 : Cond.code yX3_top cX3_top 3 (some .int) ∈ TBL := TBL_t (tin3 (List.mem_of_getElem? (i := 56) (by decide +kernel))) (by decide +kernel)
theorem w_3_54 : Cond.instanceMethod yX3_top ∈ TBL := TBL_t (tin3 (List.mem_of_getElem? (i := 54) (by decide +kernel))) (by decide +kernel)
theorem w_3_152 : Cond.code yJ6_bitCount_0f7a4 cJ6_bitCount_0f7a4 1 (some .int) ∈ TBL := TBL_t (tin3 (List.mem_of_getElem? (i := 152) (by decide +kernel))) (by decide +kernel)
theorem w_3_151 : Cond.static yJ6_bitCount_0f7a4 ∈ TBL := TBL_t (tin3 (List.mem_of_getElem? (i := 151) (by decide +kernel))) (by decide +kernel)
theorem w_1_16 : Cond.initialized RJ6 ∈ TBL := TBL_t (tin1 (List.mem_of_getElem? (i := 16) (by decide +kernel))) (by decide +kernel)
theorem w_3_107 : Cond.code yX7_has cX7_has 2 (some .boolean) ∈ TBL := TBL_t (tin3 (List.mem_of_getElem? (i := 107) (by decide +kernel))) (by decide +kernel)
theorem w_3_106 : Cond.static yX7_has ∈ TBL := TBL_t (tin3 (List.mem_of_getElem? (i := 106) (by decide +kernel))) (by decide +kernel)
theorem w_3_227 : Cond.code yX7_farOffBehind cX7_farOffBehind 4 (some .int) ∈ TBL := TBL_t (tin3 (List.mem_of_getElem? (i := 227) (by decide +kernel))) (by decide +kernel)
theorem w_3_226 : Cond.instanceMethod yX7_farOffBehind ∈ TBL := TBL_t (tin3 (List.mem_of_getElem? (i := 226) (by decide +kernel))) (by decide +kernel)
theorem w_4_11 : Cond.code yX7_commonDivisor cX7_commonDivisor 6 (some .int) ∈ TBL := TBL_t (tin4 (List.mem_of_getElem? (i := 11) (by decide +kernel))) (by decide +kernel)
theorem w_4_10 : Cond.static yX7_commonDivisor ∈ TBL := TBL_t (tin4 (List.mem_of_getElem? (i := 10) (by decide +kernel))) (by decide +kernel)
theorem ws_23 : Cond.selects yX7_farOffBehind.cls yX7_farOffBehind yX7_farOffBehind ∈ TBL := TBL_s (List.mem_of_getElem? (i := 23) (by decide +kernel)) (by decide +kernel)
theorem B_X7_isPlot : cS yX7_isPlot cX7_isPlot 1 (some .boolean) 1 := ⟨w_3_2, w_3_1, w_1_1, by decide +kernel⟩
theorem B_X3_top : cV yX3_top cX3_top 3 (some .int) 1 := ⟨w_3_56, w_3_54, w_3_55, w_1_3, by decide +kernel⟩
theorem B_J6_bitCount_0f7a4 : cS yJ6_bitCount_0f7a4 cJ6_bitCount_0f7a4 1 (some .int) 1 := ⟨w_3_152, w_3_151, w_1_16, by decide +kernel⟩
theorem B_X7_has : cS yX7_has cX7_has 2 (some .boolean) 2 := ⟨w_3_107, w_3_106, w_1_1, by decide +kernel⟩
theorem B_X7_farOffBehind : cV yX7_farOffBehind cX7_farOffBehind 4 (some .int) 1 := ⟨w_3_227, w_3_226, (ws_23), w_1_1, by decide +kernel⟩
theorem B_X7_commonDivisor : cS yX7_commonDivisor cX7_commonDivisor 6 (some .int) 2 := ⟨w_4_11, w_4_10, w_1_1, by decide +kernel⟩
theorem dX7_has_0 : decode cX7_has 0 = .ok (.iload_n 0, 1) := by decide +kernel
theorem dX7_has_1 : decode cX7_has 1 = .ok (.iload_n 1, 1) := by decide +kernel
theorem dX7_has_2 : decode cX7_has 2 = .ok (.ishr, 1) := by decide +kernel
theorem dX7_has_3 : decode cX7_has 3 = .ok (.iconst 1, 1) := by decide +kernel
theorem dX7_has_4 : decode cX7_has 4 = .ok (.iand, 1) := by decide +kernel
theorem dX7_has_5 : decode cX7_has 5 = .ok (.ifCond .eq 7, 3) := by decide +kernel
theorem dX7_has_8 : decode cX7_has 8 = .ok (.iconst 1, 1) := by decide +kernel
theorem dX7_has_9 : decode cX7_has 9 = .ok (.goto 4, 3) := by decide +kernel
theorem dX7_has_12 : decode cX7_has 12 = .ok (.iconst 0, 1) := by decide +kernel
theorem dX7_has_13 : decode cX7_has 13 = .ok (.ireturn, 1) := by decide +kernel
theorem dX1_takesKinds_0 : decode cX1_takesKinds 0 = .ok (.iload_n 1, 1) := by decide +kernel
theorem dX1_takesKinds_1 : decode cX1_takesKinds 1 = .ok (.iconst 1, 1) := by decide +kernel
theorem dX1_takesKinds_2 : decode cX1_takesKinds 2 = .ok (.sipush 9999, 3) := by decide +kernel
theorem dX1_takesKinds_5 : decode cX1_takesKinds 5 = .ok (.invokestatic 37, 3) := by decide +kernel
theorem dX1_takesKinds_8 : decode cX1_takesKinds 8 = .ok (.ifCond .ne 5, 3) := by decide +kernel
theorem dX1_takesKinds_11 : decode cX1_takesKinds 11 = .ok (.iconst 0, 1) := by decide +kernel
theorem dX1_takesKinds_12 : decode cX1_takesKinds 12 = .ok (.ireturn, 1) := by decide +kernel
theorem dX1_takesKinds_13 : decode cX1_takesKinds 13 = .ok (.aload_n 0, 1) := by decide +kernel
theorem dX1_takesKinds_14 : decode cX1_takesKinds 14 = .ok (.iconst 0, 1) := by decide +kernel
theorem dX1_takesKinds_15 : decode cX1_takesKinds 15 = .ok (.putfield 43, 3) := by decide +kernel
theorem dX1_takesKinds_18 : decode cX1_takesKinds 18 = .ok (.sipush 1000, 3) := by decide +kernel
theorem dX1_takesKinds_21 : decode cX1_takesKinds 21 = .ok (.istore_n 2, 1) := by decide +kernel
theorem dX1_takesKinds_22 : decode cX1_takesKinds 22 = .ok (.iload_n 2, 1) := by decide +kernel
theorem dX1_takesKinds_23 : decode cX1_takesKinds 23 = .ok (.ifCond .le 64, 3) := by decide +kernel
theorem dX1_takesKinds_26 : decode cX1_takesKinds 26 = .ok (.iload_n 1, 1) := by decide +kernel
theorem dX1_takesKinds_27 : decode cX1_takesKinds 27 = .ok (.iload_n 2, 1) := by decide +kernel
theorem dX1_takesKinds_28 : decode cX1_takesKinds 28 = .ok (.idiv, 1) := by decide +kernel
theorem dX1_takesKinds_29 : decode cX1_takesKinds 29 = .ok (.bipush 10, 2) := by decide +kernel
theorem dX1_takesKinds_31 : decode cX1_takesKinds 31 = .ok (.irem, 1) := by decide +kernel
theorem dX1_takesKinds_32 : decode cX1_takesKinds 32 = .ok (.istore_n 3, 1) := by decide +kernel
theorem dX1_takesKinds_33 : decode cX1_takesKinds 33 = .ok (.iload_n 1, 1) := by decide +kernel
theorem dX1_takesKinds_34 : decode cX1_takesKinds 34 = .ok (.iload_n 2, 1) := by decide +kernel
theorem dX1_takesKinds_35 : decode cX1_takesKinds 35 = .ok (.if_icmp .lt 15, 3) := by decide +kernel
theorem dX1_takesKinds_38 : decode cX1_takesKinds 38 = .ok (.iload_n 3, 1) := by decide +kernel
theorem dX1_takesKinds_39 : decode cX1_takesKinds 39 = .ok (.iconst 1, 1) := by decide +kernel
theorem dX1_takesKinds_40 : decode cX1_takesKinds 40 = .ok (.bipush 6, 2) := by decide +kernel
theorem dX1_takesKinds_42 : decode cX1_takesKinds 42 = .ok (.invokestatic 37, 3) := by decide +kernel
theorem dX1_takesKinds_45 : decode cX1_takesKinds 45 = .ok (.ifCond .ne 5, 3) := by decide +kernel
theorem dX1_takesKinds_48 : decode cX1_takesKinds 48 = .ok (.iconst 0, 1) := by decide +kernel
theorem dX1_takesKinds_49 : decode cX1_takesKinds 49 = .ok (.ireturn, 1) := by decide +kernel
theorem dX1_takesKinds_50 : decode cX1_takesKinds 50 = .ok (.iload_n 1, 1) := by decide +kernel
theorem dX1_takesKinds_51 : decode cX1_takesKinds 51 = .ok (.iload_n 2, 1) := by decide +kernel
theorem dX1_takesKinds_52 : decode cX1_takesKinds 52 = .ok (.if_icmp .lt 27, 3) := by decide +kernel
theorem dX1_takesKinds_55 : decode cX1_takesKinds 55 = .ok (.aload_n 0, 1) := by decide +kernel
theorem dX1_takesKinds_56 : decode cX1_takesKinds 56 = .ok (.getfield 18, 3) := by decide +kernel
theorem dX1_takesKinds_59 : decode cX1_takesKinds 59 = .ok (.aload_n 0, 1) := by decide +kernel
theorem dX1_takesKinds_60 : decode cX1_takesKinds 60 = .ok (.getfield 43, 3) := by decide +kernel
theorem dX1_takesKinds_63 : decode cX1_takesKinds 63 = .ok (.iload_n 3, 1) := by decide +kernel
theorem dX1_takesKinds_64 : decode cX1_takesKinds 64 = .ok (.iconst 1, 1) := by decide +kernel
theorem dX1_takesKinds_65 : decode cX1_takesKinds 65 = .ok (.isub, 1) := by decide +kernel
theorem dX1_takesKinds_66 : decode cX1_takesKinds 66 = .ok (.invokestatic 47, 3) := by decide +kernel
theorem dX1_takesKinds_69 : decode cX1_takesKinds 69 = .ok (.aload_n 0, 1) := by decide +kernel
theorem dX1_takesKinds_70 : decode cX1_takesKinds 70 = .ok (.dup, 1) := by decide +kernel
theorem dX1_takesKinds_71 : decode cX1_takesKinds 71 = .ok (.getfield 43, 3) := by decide +kernel
theorem dX1_takesKinds_74 : decode cX1_takesKinds 74 = .ok (.iconst 1, 1) := by decide +kernel
theorem dX1_takesKinds_75 : decode cX1_takesKinds 75 = .ok (.iadd, 1) := by decide +kernel
theorem dX1_takesKinds_76 : decode cX1_takesKinds 76 = .ok (.putfield 43, 3) := by decide +kernel
theorem dX1_takesKinds_79 : decode cX1_takesKinds 79 = .ok (.iload_n 2, 1) := by decide +kernel
theorem dX1_takesKinds_80 : decode cX1_takesKinds 80 = .ok (.bipush 10, 2) := by decide +kernel
theorem dX1_takesKinds_82 : decode cX1_takesKinds 82 = .ok (.idiv, 1) := by decide +kernel
theorem dX1_takesKinds_83 : decode cX1_takesKinds 83 = .ok (.istore_n 2, 1) := by decide +kernel
theorem dX1_takesKinds_84 : decode cX1_takesKinds 84 = .ok (.goto (-62), 3) := by decide +kernel
theorem dX1_takesKinds_87 : decode cX1_takesKinds 87 = .ok (.iconst 1, 1) := by decide +kernel
theorem dX1_takesKinds_88 : decode cX1_takesKinds 88 = .ok (.ireturn, 1) := by decide +kernel
theorem dX7_bad_0 : decode cX7_bad 0 = .ok (.aload_n 0, 1) := by decide +kernel
theorem dX7_bad_1 : decode cX7_bad 1 = .ok (.dup, 1) := by decide +kernel
theorem dX7_bad_2 : decode cX7_bad 2 = .ok (.getfield 311, 3) := by decide +kernel
theorem dX7_bad_5 : decode cX7_bad 5 = .ok (.iconst 1, 1) := by decide +kernel
theorem dX7_bad_6 : decode cX7_bad 6 = .ok (.iadd, 1) := by decide +kernel
theorem dX7_bad_7 : decode cX7_bad 7 = .ok (.putfield 311, 3) := by decide +kernel
theorem dX7_bad_10 : decode cX7_bad 10 = .ok (.iload_n 1, 1) := by decide +kernel
theorem dX7_bad_11 : decode cX7_bad 11 = .ok (.ireturn, 1) := by decide +kernel
theorem dX7_no_0 : decode cX7_no 0 = .ok (.aload_n 0, 1) := by decide +kernel
theorem dX7_no_1 : decode cX7_no 1 = .ok (.dup, 1) := by decide +kernel
theorem dX7_no_2 : decode cX7_no 2 = .ok (.getfield 314, 3) := by decide +kernel
theorem dX7_no_5 : decode cX7_no 5 = .ok (.iconst 1, 1) := by decide +kernel
theorem dX7_no_6 : decode cX7_no 6 = .ok (.iadd, 1) := by decide +kernel
theorem dX7_no_7 : decode cX7_no 7 = .ok (.putfield 314, 3) := by decide +kernel
theorem dX7_no_10 : decode cX7_no 10 = .ok (.bipush (-3), 2) := by decide +kernel
theorem dX7_no_12 : decode cX7_no 12 = .ok (.ireturn, 1) := by decide +kernel
theorem dX7_full_0 : decode cX7_full 0 = .ok (.aload_n 0, 1) := by decide +kernel
theorem dX7_full_1 : decode cX7_full 1 = .ok (.dup, 1) := by decide +kernel
theorem dX7_full_2 : decode cX7_full 2 = .ok (.getfield 317, 3) := by decide +kernel
theorem dX7_full_5 : decode cX7_full 5 = .ok (.iconst 1, 1) := by decide +kernel
theorem dX7_full_6 : decode cX7_full 6 = .ok (.iadd, 1) := by decide +kernel
theorem dX7_full_7 : decode cX7_full 7 = .ok (.putfield 317, 3) := by decide +kernel
theorem dX7_full_10 : decode cX7_full 10 = .ok (.bipush (-4), 2) := by decide +kernel
theorem dX7_full_12 : decode cX7_full 12 = .ok (.ireturn, 1) := by decide +kernel
theorem dX7_isLevelKind_0 : decode cX7_isLevelKind 0 = .ok (.iload_n 0, 1) := by decide +kernel
theorem dX7_isLevelKind_1 : decode cX7_isLevelKind 1 = .ok (.iconst 0, 1) := by decide +kernel
theorem dX7_isLevelKind_2 : decode cX7_isLevelKind 2 = .ok (.iconst 5, 1) := by decide +kernel
theorem dX7_isLevelKind_3 : decode cX7_isLevelKind 3 = .ok (.invokestatic 77, 3) := by decide +kernel
theorem dX7_isLevelKind_6 : decode cX7_isLevelKind 6 = .ok (.ireturn, 1) := by decide +kernel
theorem dX7_isTilt_0 : decode cX7_isTilt 0 = .ok (.iload_n 0, 1) := by decide +kernel
theorem dX7_isTilt_1 : decode cX7_isTilt 1 = .ok (.bipush (-9), 2) := by decide +kernel
theorem dX7_isTilt_3 : decode cX7_isTilt 3 = .ok (.bipush 9, 2) := by decide +kernel
theorem dX7_isTilt_5 : decode cX7_isTilt 5 = .ok (.invokestatic 77, 3) := by decide +kernel
theorem dX7_isTilt_8 : decode cX7_isTilt 8 = .ok (.ireturn, 1) := by decide +kernel
theorem dX7_isPlot_0 : decode cX7_isPlot 0 = .ok (.iload_n 0, 1) := by decide +kernel
theorem dX7_isPlot_1 : decode cX7_isPlot 1 = .ok (.iconst 0, 1) := by decide +kernel
theorem dX7_isPlot_2 : decode cX7_isPlot 2 = .ok (.iconst 5, 1) := by decide +kernel
theorem dX7_isPlot_3 : decode cX7_isPlot 3 = .ok (.invokestatic 77, 3) := by decide +kernel
theorem dX7_isPlot_6 : decode cX7_isPlot 6 = .ok (.ireturn, 1) := by decide +kernel
theorem dX7_isName_0 : decode cX7_isName 0 = .ok (.iload_n 0, 1) := by decide +kernel
theorem dX7_isName_1 : decode cX7_isName 1 = .ok (.iconst 0, 1) := by decide +kernel
theorem dX7_isName_2 : decode cX7_isName 2 = .ok (.bipush 9, 2) := by decide +kernel
theorem dX7_isName_4 : decode cX7_isName 4 = .ok (.invokestatic 77, 3) := by decide +kernel
theorem dX7_isName_7 : decode cX7_isName 7 = .ok (.ireturn, 1) := by decide +kernel
theorem dX7_isBuilding_0 : decode cX7_isBuilding 0 = .ok (.iload_n 0, 1) := by decide +kernel
theorem dX7_isBuilding_1 : decode cX7_isBuilding 1 = .ok (.invokestatic 161, 3) := by decide +kernel
theorem dX7_isBuilding_4 : decode cX7_isBuilding 4 = .ok (.ifCond .eq 25, 3) := by decide +kernel
theorem dX7_isBuilding_7 : decode cX7_isBuilding 7 = .ok (.iload_n 1, 1) := by decide +kernel
theorem dX7_isBuilding_8 : decode cX7_isBuilding 8 = .ok (.iconst 0, 1) := by decide +kernel
theorem dX7_isBuilding_9 : decode cX7_isBuilding 9 = .ok (.iconst 5, 1) := by decide +kernel
theorem dX7_isBuilding_10 : decode cX7_isBuilding 10 = .ok (.invokestatic 77, 3) := by decide +kernel
theorem dX7_isBuilding_13 : decode cX7_isBuilding 13 = .ok (.ifCond .eq 16, 3) := by decide +kernel
theorem dX7_isBuilding_16 : decode cX7_isBuilding 16 = .ok (.iload_n 2, 1) := by decide +kernel
theorem dX7_isBuilding_17 : decode cX7_isBuilding 17 = .ok (.iconst 0, 1) := by decide +kernel
theorem dX7_isBuilding_18 : decode cX7_isBuilding 18 = .ok (.iconst 1, 1) := by decide +kernel
theorem dX7_isBuilding_19 : decode cX7_isBuilding 19 = .ok (.invokestatic 77, 3) := by decide +kernel
theorem dX7_isBuilding_22 : decode cX7_isBuilding 22 = .ok (.ifCond .eq 7, 3) := by decide +kernel
theorem dX7_isBuilding_25 : decode cX7_isBuilding 25 = .ok (.iconst 1, 1) := by decide +kernel
theorem dX7_isBuilding_26 : decode cX7_isBuilding 26 = .ok (.goto 4, 3) := by decide +kernel
theorem dX7_isBuilding_29 : decode cX7_isBuilding 29 = .ok (.iconst 0, 1) := by decide +kernel
theorem dX7_isBuilding_30 : decode cX7_isBuilding 30 = .ok (.ireturn, 1) := by decide +kernel
theorem dX7_tiltBuilt_0 : decode cX7_tiltBuilt 0 = .ok (.iload_n 1, 1) := by decide +kernel
theorem dX7_tiltBuilt_1 : decode cX7_tiltBuilt 1 = .ok (.iconst 1, 1) := by decide +kernel
theorem dX7_tiltBuilt_2 : decode cX7_tiltBuilt 2 = .ok (.if_icmp .ne 7, 3) := by decide +kernel
theorem dX7_tiltBuilt_5 : decode cX7_tiltBuilt 5 = .ok (.iconst 0, 1) := by decide +kernel
theorem dX7_tiltBuilt_6 : decode cX7_tiltBuilt 6 = .ok (.goto 13, 3) := by decide +kernel
theorem dX7_tiltBuilt_9 : decode cX7_tiltBuilt 9 = .ok (.aload_n 0, 1) := by decide +kernel
theorem dX7_tiltBuilt_10 : decode cX7_tiltBuilt 10 = .ok (.getfield 10, 3) := by decide +kernel
theorem dX7_tiltBuilt_13 : decode cX7_tiltBuilt 13 = .ok (.getfield 66, 3) := by decide +kernel
theorem dX7_tiltBuilt_16 : decode cX7_tiltBuilt 16 = .ok (.getfield 143, 3) := by decide +kernel
theorem dX7_tiltBuilt_19 : decode cX7_tiltBuilt 19 = .ok (.ireturn, 1) := by decide +kernel
theorem dX7_levelPlots_0 : decode cX7_levelPlots 0 = .ok (.iconst 0, 1) := by decide +kernel
theorem dX7_levelPlots_1 : decode cX7_levelPlots 1 = .ok (.istore_n 1, 1) := by decide +kernel
theorem dX7_levelPlots_2 : decode cX7_levelPlots 2 = .ok (.iconst 0, 1) := by decide +kernel
theorem dX7_levelPlots_3 : decode cX7_levelPlots 3 = .ok (.istore_n 2, 1) := by decide +kernel
theorem dX7_levelPlots_4 : decode cX7_levelPlots 4 = .ok (.iload_n 2, 1) := by decide +kernel
theorem dX7_levelPlots_5 : decode cX7_levelPlots 5 = .ok (.bipush 6, 2) := by decide +kernel
theorem dX7_levelPlots_7 : decode cX7_levelPlots 7 = .ok (.if_icmp .ge 29, 3) := by decide +kernel
theorem dX7_levelPlots_10 : decode cX7_levelPlots 10 = .ok (.aload_n 0, 1) := by decide +kernel
theorem dX7_levelPlots_11 : decode cX7_levelPlots 11 = .ok (.getfield 10, 3) := by decide +kernel
theorem dX7_levelPlots_14 : decode cX7_levelPlots 14 = .ok (.getfield 66, 3) := by decide +kernel
theorem dX7_levelPlots_17 : decode cX7_levelPlots 17 = .ok (.iload_n 2, 1) := by decide +kernel
theorem dX7_levelPlots_18 : decode cX7_levelPlots 18 = .ok (.invokevirtual 174, 3) := by decide +kernel
theorem dX7_levelPlots_21 : decode cX7_levelPlots 21 = .ok (.ifCond .ne 9, 3) := by decide +kernel
theorem dX7_levelPlots_24 : decode cX7_levelPlots 24 = .ok (.iload_n 1, 1) := by decide +kernel
theorem dX7_levelPlots_25 : decode cX7_levelPlots 25 = .ok (.iconst 1, 1) := by decide +kernel
theorem dX7_levelPlots_26 : decode cX7_levelPlots 26 = .ok (.iload_n 2, 1) := by decide +kernel
theorem dX7_levelPlots_27 : decode cX7_levelPlots 27 = .ok (.ishl, 1) := by decide +kernel
theorem dX7_levelPlots_28 : decode cX7_levelPlots 28 = .ok (.ior, 1) := by decide +kernel
theorem dX7_levelPlots_29 : decode cX7_levelPlots 29 = .ok (.istore_n 1, 1) := by decide +kernel
theorem dX7_levelPlots_30 : decode cX7_levelPlots 30 = .ok (.iinc 2 1, 3) := by decide +kernel
theorem dX7_levelPlots_33 : decode cX7_levelPlots 33 = .ok (.goto (-29), 3) := by decide +kernel
theorem dX7_levelPlots_36 : decode cX7_levelPlots 36 = .ok (.iload_n 1, 1) := by decide +kernel
theorem dX7_levelPlots_37 : decode cX7_levelPlots 37 = .ok (.ireturn, 1) := by decide +kernel
theorem dX7_steps_0 : decode cX7_steps 0 = .ok (.iconst 0, 1) := by decide +kernel
theorem dX7_steps_1 : decode cX7_steps 1 = .ok (.istore_n 1, 1) := by decide +kernel
theorem dX7_steps_2 : decode cX7_steps 2 = .ok (.iconst 0, 1) := by decide +kernel
theorem dX7_steps_3 : decode cX7_steps 3 = .ok (.istore_n 2, 1) := by decide +kernel
theorem dX7_steps_4 : decode cX7_steps 4 = .ok (.iload_n 2, 1) := by decide +kernel
theorem dX7_steps_5 : decode cX7_steps 5 = .ok (.iconst 5, 1) := by decide +kernel
theorem dX7_steps_6 : decode cX7_steps 6 = .ok (.if_icmp .ge 47, 3) := by decide +kernel
theorem dX7_steps_9 : decode cX7_steps 9 = .ok (.aload_n 0, 1) := by decide +kernel
theorem dX7_steps_10 : decode cX7_steps 10 = .ok (.getfield 10, 3) := by decide +kernel
theorem dX7_steps_13 : decode cX7_steps 13 = .ok (.getfield 66, 3) := by decide +kernel
theorem dX7_steps_16 : decode cX7_steps 16 = .ok (.iload_n 2, 1) := by decide +kernel
theorem dX7_steps_17 : decode cX7_steps 17 = .ok (.invokevirtual 174, 3) := by decide +kernel
theorem dX7_steps_20 : decode cX7_steps 20 = .ok (.aload_n 0, 1) := by decide +kernel
theorem dX7_steps_21 : decode cX7_steps 21 = .ok (.getfield 10, 3) := by decide +kernel
theorem dX7_steps_24 : decode cX7_steps 24 = .ok (.getfield 66, 3) := by decide +kernel
theorem dX7_steps_27 : decode cX7_steps 27 = .ok (.iload_n 2, 1) := by decide +kernel
theorem dX7_steps_28 : decode cX7_steps 28 = .ok (.iconst 1, 1) := by decide +kernel
theorem dX7_steps_29 : decode cX7_steps 29 = .ok (.iadd, 1) := by decide +kernel
theorem dX7_steps_30 : decode cX7_steps 30 = .ok (.invokevirtual 174, 3) := by decide +kernel
theorem dX7_steps_33 : decode cX7_steps 33 = .ok (.isub, 1) := by decide +kernel
theorem dX7_steps_34 : decode cX7_steps 34 = .ok (.invokestatic 183, 3) := by decide +kernel
theorem dX7_steps_37 : decode cX7_steps 37 = .ok (.iconst 3, 1) := by decide +kernel
theorem dX7_steps_38 : decode cX7_steps 38 = .ok (.if_icmp .lt 9, 3) := by decide +kernel
theorem dX7_steps_41 : decode cX7_steps 41 = .ok (.iload_n 1, 1) := by decide +kernel
theorem dX7_steps_42 : decode cX7_steps 42 = .ok (.iconst 1, 1) := by decide +kernel
theorem dX7_steps_43 : decode cX7_steps 43 = .ok (.iload_n 2, 1) := by decide +kernel
theorem dX7_steps_44 : decode cX7_steps 44 = .ok (.ishl, 1) := by decide +kernel
theorem dX7_steps_45 : decode cX7_steps 45 = .ok (.ior, 1) := by decide +kernel
theorem dX7_steps_46 : decode cX7_steps 46 = .ok (.istore_n 1, 1) := by decide +kernel
theorem dX7_steps_47 : decode cX7_steps 47 = .ok (.iinc 2 1, 3) := by decide +kernel
theorem dX7_steps_50 : decode cX7_steps 50 = .ok (.goto (-46), 3) := by decide +kernel
theorem dX7_steps_53 : decode cX7_steps 53 = .ok (.iload_n 1, 1) := by decide +kernel
theorem dX7_steps_54 : decode cX7_steps 54 = .ok (.ireturn, 1) := by decide +kernel
theorem dX7_yesVotes_0 : decode cX7_yesVotes 0 = .ok (.iconst 0, 1) := by decide +kernel
theorem dX7_yesVotes_1 : decode cX7_yesVotes 1 = .ok (.istore_n 2, 1) := by decide +kernel
theorem dX7_yesVotes_2 : decode cX7_yesVotes 2 = .ok (.iconst 0, 1) := by decide +kernel
theorem dX7_yesVotes_3 : decode cX7_yesVotes 3 = .ok (.istore_n 3, 1) := by decide +kernel
theorem dX7_yesVotes_4 : decode cX7_yesVotes 4 = .ok (.iload_n 3, 1) := by decide +kernel
theorem dX7_yesVotes_5 : decode cX7_yesVotes 5 = .ok (.aload_n 0, 1) := by decide +kernel
theorem dX7_yesVotes_6 : decode cX7_yesVotes 6 = .ok (.getfield 10, 3) := by decide +kernel
theorem dX7_yesVotes_9 : decode cX7_yesVotes 9 = .ok (.getfield 101, 3) := by decide +kernel
theorem dX7_yesVotes_12 : decode cX7_yesVotes 12 = .ok (.if_icmp .ge 32, 3) := by decide +kernel
theorem dX7_yesVotes_15 : decode cX7_yesVotes 15 = .ok (.aload_n 0, 1) := by decide +kernel
theorem dX7_yesVotes_16 : decode cX7_yesVotes 16 = .ok (.getfield 10, 3) := by decide +kernel
theorem dX7_yesVotes_19 : decode cX7_yesVotes 19 = .ok (.getfield 107, 3) := by decide +kernel
theorem dX7_yesVotes_22 : decode cX7_yesVotes 22 = .ok (.iload_n 3, 1) := by decide +kernel
theorem dX7_yesVotes_23 : decode cX7_yesVotes 23 = .ok (.invokestatic 89, 3) := by decide +kernel
theorem dX7_yesVotes_26 : decode cX7_yesVotes 26 = .ok (.iload_n 1, 1) := by decide +kernel
theorem dX7_yesVotes_27 : decode cX7_yesVotes 27 = .ok (.iadd, 1) := by decide +kernel
theorem dX7_yesVotes_28 : decode cX7_yesVotes 28 = .ok (.iconst 1, 1) := by decide +kernel
theorem dX7_yesVotes_29 : decode cX7_yesVotes 29 = .ok (.if_icmp .lt 9, 3) := by decide +kernel
theorem dX7_yesVotes_32 : decode cX7_yesVotes 32 = .ok (.iload_n 2, 1) := by decide +kernel
theorem dX7_yesVotes_33 : decode cX7_yesVotes 33 = .ok (.iconst 1, 1) := by decide +kernel
theorem dX7_yesVotes_34 : decode cX7_yesVotes 34 = .ok (.iload_n 3, 1) := by decide +kernel
theorem dX7_yesVotes_35 : decode cX7_yesVotes 35 = .ok (.ishl, 1) := by decide +kernel
theorem dX7_yesVotes_36 : decode cX7_yesVotes 36 = .ok (.ior, 1) := by decide +kernel
theorem dX7_yesVotes_37 : decode cX7_yesVotes 37 = .ok (.istore_n 2, 1) := by decide +kernel
theorem dX7_yesVotes_38 : decode cX7_yesVotes 38 = .ok (.iinc 3 1, 3) := by decide +kernel
theorem dX7_yesVotes_41 : decode cX7_yesVotes 41 = .ok (.goto (-37), 3) := by decide +kernel
theorem dX7_yesVotes_44 : decode cX7_yesVotes 44 = .ok (.iload_n 2, 1) := by decide +kernel
theorem dX7_yesVotes_45 : decode cX7_yesVotes 45 = .ok (.ireturn, 1) := by decide +kernel
theorem dX7_carries_0 : decode cX7_carries 0 = .ok (.iconst 2, 1) := by decide +kernel
theorem dX7_carries_1 : decode cX7_carries 1 = .ok (.iload_n 1, 1) := by decide +kernel
theorem dX7_carries_2 : decode cX7_carries 2 = .ok (.invokestatic 334, 3) := by decide +kernel
theorem dX7_carries_5 : decode cX7_carries 5 = .ok (.imul, 1) := by decide +kernel
theorem dX7_carries_6 : decode cX7_carries 6 = .ok (.aload_n 0, 1) := by decide +kernel
theorem dX7_carries_7 : decode cX7_carries 7 = .ok (.getfield 10, 3) := by decide +kernel
theorem dX7_carries_10 : decode cX7_carries 10 = .ok (.getfield 101, 3) := by decide +kernel
theorem dX7_carries_13 : decode cX7_carries 13 = .ok (.if_icmp .le 7, 3) := by decide +kernel
theorem dX7_carries_16 : decode cX7_carries 16 = .ok (.iconst 1, 1) := by decide +kernel
theorem dX7_carries_17 : decode cX7_carries 17 = .ok (.goto 4, 3) := by decide +kernel
theorem dX7_carries_20 : decode cX7_carries 20 = .ok (.iconst 0, 1) := by decide +kernel
theorem dX7_carries_21 : decode cX7_carries 21 = .ok (.ireturn, 1) := by decide +kernel
theorem dX7_mostAlike_0 : decode cX7_mostAlike 0 = .ok (.aload_n 0, 1) := by decide +kernel
theorem dX7_mostAlike_1 : decode cX7_mostAlike 1 = .ok (.getfield 51, 3) := by decide +kernel
theorem dX7_mostAlike_4 : decode cX7_mostAlike 4 = .ok (.invokestatic 279, 3) := by decide +kernel
theorem dX7_mostAlike_7 : decode cX7_mostAlike 7 = .ok (.iconst 0, 1) := by decide +kernel
theorem dX7_mostAlike_8 : decode cX7_mostAlike 8 = .ok (.istore 4, 2) := by decide +kernel
theorem dX7_mostAlike_10 : decode cX7_mostAlike 10 = .ok (.iconst 0, 1) := by decide +kernel
theorem dX7_mostAlike_11 : decode cX7_mostAlike 11 = .ok (.istore 5, 2) := by decide +kernel
theorem dX7_mostAlike_13 : decode cX7_mostAlike 13 = .ok (.iload 5, 2) := by decide +kernel
theorem dX7_mostAlike_15 : decode cX7_mostAlike 15 = .ok (.bipush 6, 2) := by decide +kernel
theorem dX7_mostAlike_17 : decode cX7_mostAlike 17 = .ok (.if_icmp .ge 73, 3) := by decide +kernel
theorem dX7_mostAlike_20 : decode cX7_mostAlike 20 = .ok (.iload_n 1, 1) := by decide +kernel
theorem dX7_mostAlike_21 : decode cX7_mostAlike 21 = .ok (.iload 5, 2) := by decide +kernel
theorem dX7_mostAlike_23 : decode cX7_mostAlike 23 = .ok (.invokestatic 208, 3) := by decide +kernel
theorem dX7_mostAlike_26 : decode cX7_mostAlike 26 = .ok (.ifCond .eq 58, 3) := by decide +kernel
theorem dX7_mostAlike_29 : decode cX7_mostAlike 29 = .ok (.iload 5, 2) := by decide +kernel
theorem dX7_mostAlike_31 : decode cX7_mostAlike 31 = .ok (.iload_n 2, 1) := by decide +kernel
theorem dX7_mostAlike_32 : decode cX7_mostAlike 32 = .ok (.aload_n 0, 1) := by decide +kernel
theorem dX7_mostAlike_33 : decode cX7_mostAlike 33 = .ok (.getfield 10, 3) := by decide +kernel
theorem dX7_mostAlike_36 : decode cX7_mostAlike 36 = .ok (.getfield 66, 3) := by decide +kernel
theorem dX7_mostAlike_39 : decode cX7_mostAlike 39 = .ok (.getfield 143, 3) := by decide +kernel
theorem dX7_mostAlike_42 : decode cX7_mostAlike 42 = .ok (.iload_n 3, 1) := by decide +kernel
theorem dX7_mostAlike_43 : decode cX7_mostAlike 43 = .ok (.invokestatic 233, 3) := by decide +kernel
theorem dX7_mostAlike_46 : decode cX7_mostAlike 46 = .ok (.bipush 9, 2) := by decide +kernel
theorem dX7_mostAlike_48 : decode cX7_mostAlike 48 = .ok (.iadd, 1) := by decide +kernel
theorem dX7_mostAlike_49 : decode cX7_mostAlike 49 = .ok (.istore 6, 2) := by decide +kernel
theorem dX7_mostAlike_51 : decode cX7_mostAlike 51 = .ok (.aload_n 0, 1) := by decide +kernel
theorem dX7_mostAlike_52 : decode cX7_mostAlike 52 = .ok (.getfield 51, 3) := by decide +kernel
theorem dX7_mostAlike_55 : decode cX7_mostAlike 55 = .ok (.iload 6, 2) := by decide +kernel
theorem dX7_mostAlike_57 : decode cX7_mostAlike 57 = .ok (.invokestatic 89, 3) := by decide +kernel
theorem dX7_mostAlike_60 : decode cX7_mostAlike 60 = .ok (.iconst 1, 1) := by decide +kernel
theorem dX7_mostAlike_61 : decode cX7_mostAlike 61 = .ok (.iadd, 1) := by decide +kernel
theorem dX7_mostAlike_62 : decode cX7_mostAlike 62 = .ok (.istore 7, 2) := by decide +kernel
theorem dX7_mostAlike_64 : decode cX7_mostAlike 64 = .ok (.aload_n 0, 1) := by decide +kernel
theorem dX7_mostAlike_65 : decode cX7_mostAlike 65 = .ok (.getfield 51, 3) := by decide +kernel
theorem dX7_mostAlike_68 : decode cX7_mostAlike 68 = .ok (.iload 6, 2) := by decide +kernel
theorem dX7_mostAlike_70 : decode cX7_mostAlike 70 = .ok (.iload 7, 2) := by decide +kernel
theorem dX7_mostAlike_72 : decode cX7_mostAlike 72 = .ok (.invokestatic 93, 3) := by decide +kernel
theorem dX7_mostAlike_75 : decode cX7_mostAlike 75 = .ok (.iload 4, 2) := by decide +kernel
theorem dX7_mostAlike_77 : decode cX7_mostAlike 77 = .ok (.iload 7, 2) := by decide +kernel
theorem dX7_mostAlike_79 : decode cX7_mostAlike 79 = .ok (.invokestatic 205, 3) := by decide +kernel
theorem dX7_mostAlike_82 : decode cX7_mostAlike 82 = .ok (.istore 4, 2) := by decide +kernel
theorem dX7_mostAlike_84 : decode cX7_mostAlike 84 = .ok (.iinc 5 1, 3) := by decide +kernel
theorem dX7_mostAlike_87 : decode cX7_mostAlike 87 = .ok (.goto (-74), 3) := by decide +kernel
theorem dX7_mostAlike_90 : decode cX7_mostAlike 90 = .ok (.iload 4, 2) := by decide +kernel
theorem dX7_mostAlike_92 : decode cX7_mostAlike 92 = .ok (.ireturn, 1) := by decide +kernel
theorem dX7_greaterPart_0 : decode cX7_greaterPart 0 = .ok (.iconst 0, 1) := by decide +kernel
theorem dX7_greaterPart_1 : decode cX7_greaterPart 1 = .ok (.istore_n 3, 1) := by decide +kernel
theorem dX7_greaterPart_2 : decode cX7_greaterPart 2 = .ok (.iconst 0, 1) := by decide +kernel
theorem dX7_greaterPart_3 : decode cX7_greaterPart 3 = .ok (.istore 4, 2) := by decide +kernel
theorem dX7_greaterPart_5 : decode cX7_greaterPart 5 = .ok (.iload 4, 2) := by decide +kernel
theorem dX7_greaterPart_7 : decode cX7_greaterPart 7 = .ok (.bipush 6, 2) := by decide +kernel
theorem dX7_greaterPart_9 : decode cX7_greaterPart 9 = .ok (.if_icmp .ge 32, 3) := by decide +kernel
theorem dX7_greaterPart_12 : decode cX7_greaterPart 12 = .ok (.iload_n 0, 1) := by decide +kernel
theorem dX7_greaterPart_13 : decode cX7_greaterPart 13 = .ok (.iload 4, 2) := by decide +kernel
theorem dX7_greaterPart_15 : decode cX7_greaterPart 15 = .ok (.invokestatic 208, 3) := by decide +kernel
theorem dX7_greaterPart_18 : decode cX7_greaterPart 18 = .ok (.ifCond .eq 17, 3) := by decide +kernel
theorem dX7_greaterPart_21 : decode cX7_greaterPart 21 = .ok (.iload 4, 2) := by decide +kernel
theorem dX7_greaterPart_23 : decode cX7_greaterPart 23 = .ok (.iload_n 1, 1) := by decide +kernel
theorem dX7_greaterPart_24 : decode cX7_greaterPart 24 = .ok (.iconst 0, 1) := by decide +kernel
theorem dX7_greaterPart_25 : decode cX7_greaterPart 25 = .ok (.iload_n 2, 1) := by decide +kernel
theorem dX7_greaterPart_26 : decode cX7_greaterPart 26 = .ok (.invokestatic 337, 3) := by decide +kernel
theorem dX7_greaterPart_29 : decode cX7_greaterPart 29 = .ok (.ifCond .eq 6, 3) := by decide +kernel
theorem dX7_greaterPart_32 : decode cX7_greaterPart 32 = .ok (.iinc 3 1, 3) := by decide +kernel
theorem dX7_greaterPart_35 : decode cX7_greaterPart 35 = .ok (.iinc 4 1, 3) := by decide +kernel
theorem dX7_greaterPart_38 : decode cX7_greaterPart 38 = .ok (.goto (-33), 3) := by decide +kernel
theorem dX7_greaterPart_41 : decode cX7_greaterPart 41 = .ok (.iload_n 3, 1) := by decide +kernel
theorem dX7_greaterPart_42 : decode cX7_greaterPart 42 = .ok (.iload_n 0, 1) := by decide +kernel
theorem dX7_greaterPart_43 : decode cX7_greaterPart 43 = .ok (.invokestatic 334, 3) := by decide +kernel
theorem dX7_greaterPart_46 : decode cX7_greaterPart 46 = .ok (.iload_n 3, 1) := by decide +kernel
theorem dX7_greaterPart_47 : decode cX7_greaterPart 47 = .ok (.isub, 1) := by decide +kernel
theorem dX7_greaterPart_48 : decode cX7_greaterPart 48 = .ok (.invokestatic 205, 3) := by decide +kernel
theorem dX7_greaterPart_51 : decode cX7_greaterPart 51 = .ok (.ireturn, 1) := by decide +kernel
theorem dX7_farOffBehind_0 : decode cX7_farOffBehind 0 = .ok (.aload_n 0, 1) := by decide +kernel
theorem dX7_farOffBehind_1 : decode cX7_farOffBehind 1 = .ok (.getfield 10, 3) := by decide +kernel
theorem dX7_farOffBehind_4 : decode cX7_farOffBehind 4 = .ok (.getfield 66, 3) := by decide +kernel
theorem dX7_farOffBehind_7 : decode cX7_farOffBehind 7 = .ok (.astore_n 2, 1) := by decide +kernel
theorem dX7_farOffBehind_8 : decode cX7_farOffBehind 8 = .ok (.iload_n 1, 1) := by decide +kernel
theorem dX7_farOffBehind_9 : decode cX7_farOffBehind 9 = .ok (.iconst 1, 1) := by decide +kernel
theorem dX7_farOffBehind_10 : decode cX7_farOffBehind 10 = .ok (.invokestatic 208, 3) := by decide +kernel
theorem dX7_farOffBehind_13 : decode cX7_farOffBehind 13 = .ok (.ifCond .eq 11, 3) := by decide +kernel
theorem dX7_farOffBehind_16 : decode cX7_farOffBehind 16 = .ok (.aload_n 2, 1) := by decide +kernel
theorem dX7_farOffBehind_17 : decode cX7_farOffBehind 17 = .ok (.getfield 143, 3) := by decide +kernel
theorem dX7_farOffBehind_20 : decode cX7_farOffBehind 20 = .ok (.invokestatic 183, 3) := by decide +kernel
theorem dX7_farOffBehind_23 : decode cX7_farOffBehind 23 = .ok (.ireturn, 1) := by decide +kernel
theorem dX7_farOffBehind_24 : decode cX7_farOffBehind 24 = .ok (.iload_n 1, 1) := by decide +kernel
theorem dX7_farOffBehind_25 : decode cX7_farOffBehind 25 = .ok (.iconst 0, 1) := by decide +kernel
theorem dX7_farOffBehind_26 : decode cX7_farOffBehind 26 = .ok (.invokestatic 208, 3) := by decide +kernel
theorem dX7_farOffBehind_29 : decode cX7_farOffBehind 29 = .ok (.ifCond .eq 17, 3) := by decide +kernel
theorem dX7_farOffBehind_32 : decode cX7_farOffBehind 32 = .ok (.aload_n 0, 1) := by decide +kernel
theorem dX7_farOffBehind_33 : decode cX7_farOffBehind 33 = .ok (.getfield 10, 3) := by decide +kernel
theorem dX7_farOffBehind_36 : decode cX7_farOffBehind 36 = .ok (.aload_n 2, 1) := by decide +kernel
theorem dX7_farOffBehind_37 : decode cX7_farOffBehind 37 = .ok (.getfield 152, 3) := by decide +kernel
theorem dX7_farOffBehind_40 : decode cX7_farOffBehind 40 = .ok (.invokevirtual 158, 3) := by decide +kernel
theorem dX7_farOffBehind_43 : decode cX7_farOffBehind 43 = .ok (.goto 4, 3) := by decide +kernel
theorem dX7_farOffBehind_46 : decode cX7_farOffBehind 46 = .ok (.iconst 0, 1) := by decide +kernel
theorem dX7_farOffBehind_47 : decode cX7_farOffBehind 47 = .ok (.istore_n 3, 1) := by decide +kernel
theorem dX7_farOffBehind_48 : decode cX7_farOffBehind 48 = .ok (.aload_n 0, 1) := by decide +kernel
theorem dX7_farOffBehind_49 : decode cX7_farOffBehind 49 = .ok (.getfield 10, 3) := by decide +kernel
theorem dX7_farOffBehind_52 : decode cX7_farOffBehind 52 = .ok (.getfield 155, 3) := by decide +kernel
theorem dX7_farOffBehind_55 : decode cX7_farOffBehind 55 = .ok (.aload_n 2, 1) := by decide +kernel
theorem dX7_farOffBehind_56 : decode cX7_farOffBehind 56 = .ok (.getfield 152, 3) := by decide +kernel
theorem dX7_farOffBehind_59 : decode cX7_farOffBehind 59 = .ok (.aload_n 2, 1) := by decide +kernel
theorem dX7_farOffBehind_60 : decode cX7_farOffBehind 60 = .ok (.getfield 143, 3) := by decide +kernel
theorem dX7_farOffBehind_63 : decode cX7_farOffBehind 63 = .ok (.iload_n 3, 1) := by decide +kernel
theorem dX7_farOffBehind_64 : decode cX7_farOffBehind 64 = .ok (.invokestatic 233, 3) := by decide +kernel
theorem dX7_farOffBehind_67 : decode cX7_farOffBehind 67 = .ok (.invokestatic 183, 3) := by decide +kernel
theorem dX7_farOffBehind_70 : decode cX7_farOffBehind 70 = .ok (.ireturn, 1) := by decide +kernel
theorem dX7_carrierGets_0 : decode cX7_carrierGets 0 = .ok (.aload_n 0, 1) := by decide +kernel
theorem dX7_carrierGets_1 : decode cX7_carrierGets 1 = .ok (.iload_n 1, 1) := by decide +kernel
theorem dX7_carrierGets_2 : decode cX7_carrierGets 2 = .ok (.invokevirtual 343, 3) := by decide +kernel
theorem dX7_carrierGets_5 : decode cX7_carrierGets 5 = .ok (.iload_n 1, 1) := by decide +kernel
theorem dX7_carrierGets_6 : decode cX7_carrierGets 6 = .ok (.iconst 0, 1) := by decide +kernel
theorem dX7_carrierGets_7 : decode cX7_carrierGets 7 = .ok (.invokestatic 208, 3) := by decide +kernel
theorem dX7_carrierGets_10 : decode cX7_carrierGets 10 = .ok (.ifCond .eq 7, 3) := by decide +kernel
theorem dX7_carrierGets_13 : decode cX7_carrierGets 13 = .ok (.iconst 1, 1) := by decide +kernel
theorem dX7_carrierGets_14 : decode cX7_carrierGets 14 = .ok (.goto 4, 3) := by decide +kernel
theorem dX7_carrierGets_17 : decode cX7_carrierGets 17 = .ok (.iconst 0, 1) := by decide +kernel
theorem dX7_carrierGets_18 : decode cX7_carrierGets 18 = .ok (.isub, 1) := by decide +kernel
theorem dX7_carrierGets_19 : decode cX7_carrierGets 19 = .ok (.ireturn, 1) := by decide +kernel
theorem dX7_keeperGets_0 : decode cX7_keeperGets 0 = .ok (.aload_n 0, 1) := by decide +kernel
theorem dX7_keeperGets_1 : decode cX7_keeperGets 1 = .ok (.iload_n 1, 1) := by decide +kernel
theorem dX7_keeperGets_2 : decode cX7_keeperGets 2 = .ok (.invokevirtual 343, 3) := by decide +kernel
theorem dX7_keeperGets_5 : decode cX7_keeperGets 5 = .ok (.ineg, 1) := by decide +kernel
theorem dX7_keeperGets_6 : decode cX7_keeperGets 6 = .ok (.iload_n 1, 1) := by decide +kernel
theorem dX7_keeperGets_7 : decode cX7_keeperGets 7 = .ok (.iconst 1, 1) := by decide +kernel
theorem dX7_keeperGets_8 : decode cX7_keeperGets 8 = .ok (.invokestatic 208, 3) := by decide +kernel
theorem dX7_keeperGets_11 : decode cX7_keeperGets 11 = .ok (.ifCond .eq 7, 3) := by decide +kernel
theorem dX7_keeperGets_14 : decode cX7_keeperGets 14 = .ok (.iconst 2, 1) := by decide +kernel
theorem dX7_keeperGets_15 : decode cX7_keeperGets 15 = .ok (.goto 4, 3) := by decide +kernel
theorem dX7_keeperGets_18 : decode cX7_keeperGets 18 = .ok (.iconst 0, 1) := by decide +kernel
theorem dX7_keeperGets_19 : decode cX7_keeperGets 19 = .ok (.isub, 1) := by decide +kernel
theorem dX7_keeperGets_20 : decode cX7_keeperGets 20 = .ok (.ireturn, 1) := by decide +kernel
theorem dX7_commonDivisor_0 : decode cX7_commonDivisor 0 = .ok (.iload_n 0, 1) := by decide +kernel
theorem dX7_commonDivisor_1 : decode cX7_commonDivisor 1 = .ok (.istore_n 2, 1) := by decide +kernel
theorem dX7_commonDivisor_2 : decode cX7_commonDivisor 2 = .ok (.iload_n 1, 1) := by decide +kernel
theorem dX7_commonDivisor_3 : decode cX7_commonDivisor 3 = .ok (.istore_n 3, 1) := by decide +kernel
theorem dX7_commonDivisor_4 : decode cX7_commonDivisor 4 = .ok (.iconst 0, 1) := by decide +kernel
theorem dX7_commonDivisor_5 : decode cX7_commonDivisor 5 = .ok (.istore 4, 2) := by decide +kernel
theorem dX7_commonDivisor_7 : decode cX7_commonDivisor 7 = .ok (.iload 4, 2) := by decide +kernel
theorem dX7_commonDivisor_9 : decode cX7_commonDivisor 9 = .ok (.bipush 100, 2) := by decide +kernel
theorem dX7_commonDivisor_11 : decode cX7_commonDivisor 11 = .ok (.if_icmp .ge 23, 3) := by decide +kernel
theorem dX7_commonDivisor_14 : decode cX7_commonDivisor 14 = .ok (.iload_n 3, 1) := by decide +kernel
theorem dX7_commonDivisor_15 : decode cX7_commonDivisor 15 = .ok (.ifCond .eq 19, 3) := by decide +kernel
theorem dX7_commonDivisor_18 : decode cX7_commonDivisor 18 = .ok (.iload_n 2, 1) := by decide +kernel
theorem dX7_commonDivisor_19 : decode cX7_commonDivisor 19 = .ok (.iload_n 3, 1) := by decide +kernel
theorem dX7_commonDivisor_20 : decode cX7_commonDivisor 20 = .ok (.irem, 1) := by decide +kernel
theorem dX7_commonDivisor_21 : decode cX7_commonDivisor 21 = .ok (.istore 5, 2) := by decide +kernel
theorem dX7_commonDivisor_23 : decode cX7_commonDivisor 23 = .ok (.iload_n 3, 1) := by decide +kernel
theorem dX7_commonDivisor_24 : decode cX7_commonDivisor 24 = .ok (.istore_n 2, 1) := by decide +kernel
theorem dX7_commonDivisor_25 : decode cX7_commonDivisor 25 = .ok (.iload 5, 2) := by decide +kernel
theorem dX7_commonDivisor_27 : decode cX7_commonDivisor 27 = .ok (.istore_n 3, 1) := by decide +kernel
theorem dX7_commonDivisor_28 : decode cX7_commonDivisor 28 = .ok (.iinc 4 1, 3) := by decide +kernel
theorem dX7_commonDivisor_31 : decode cX7_commonDivisor 31 = .ok (.goto (-24), 3) := by decide +kernel
theorem dX7_commonDivisor_34 : decode cX7_commonDivisor 34 = .ok (.iload_n 2, 1) := by decide +kernel
theorem dX7_commonDivisor_35 : decode cX7_commonDivisor 35 = .ok (.ireturn, 1) := by decide +kernel
theorem dX7_setFraction_0 : decode cX7_setFraction 0 = .ok (.iload_n 1, 1) := by decide +kernel
theorem dX7_setFraction_1 : decode cX7_setFraction 1 = .ok (.iload_n 2, 1) := by decide +kernel
theorem dX7_setFraction_2 : decode cX7_setFraction 2 = .ok (.invokestatic 349, 3) := by decide +kernel
theorem dX7_setFraction_5 : decode cX7_setFraction 5 = .ok (.istore_n 3, 1) := by decide +kernel
theorem dX7_setFraction_6 : decode cX7_setFraction 6 = .ok (.iload_n 3, 1) := by decide +kernel
theorem dX7_setFraction_7 : decode cX7_setFraction 7 = .ok (.ifCond .le 19, 3) := by decide +kernel
theorem dX7_setFraction_10 : decode cX7_setFraction 10 = .ok (.aload_n 0, 1) := by decide +kernel
theorem dX7_setFraction_11 : decode cX7_setFraction 11 = .ok (.iload_n 1, 1) := by decide +kernel
theorem dX7_setFraction_12 : decode cX7_setFraction 12 = .ok (.iload_n 3, 1) := by decide +kernel
theorem dX7_setFraction_13 : decode cX7_setFraction 13 = .ok (.idiv, 1) := by decide +kernel
theorem dX7_setFraction_14 : decode cX7_setFraction 14 = .ok (.i2l, 1) := by decide +kernel
theorem dX7_setFraction_15 : decode cX7_setFraction 15 = .ok (.putfield 301, 3) := by decide +kernel
theorem dX7_setFraction_18 : decode cX7_setFraction 18 = .ok (.aload_n 0, 1) := by decide +kernel
theorem dX7_setFraction_19 : decode cX7_setFraction 19 = .ok (.iload_n 2, 1) := by decide +kernel
theorem dX7_setFraction_20 : decode cX7_setFraction 20 = .ok (.iload_n 3, 1) := by decide +kernel
theorem dX7_setFraction_21 : decode cX7_setFraction 21 = .ok (.idiv, 1) := by decide +kernel
theorem dX7_setFraction_22 : decode cX7_setFraction 22 = .ok (.i2l, 1) := by decide +kernel
theorem dX7_setFraction_23 : decode cX7_setFraction 23 = .ok (.putfield 54, 3) := by decide +kernel
theorem dX7_setFraction_26 : decode cX7_setFraction 26 = .ok (.return_, 1) := by decide +kernel
def sp_X7_has (p0 : Int32) (p1 : Int32) : Int32 := if ((p0 >>> (p1 &&& 31)) &&& (1 : Int32)) = 0 then ((0 : Int32)) else ((1 : Int32))
theorem bz_X7_has {p0 : Int32} {p1 : Int32} : narrow .boolean (.int (sp_X7_has p0 p1)) = .int (sp_X7_has p0 p1) := by
  unfold sp_X7_has
  repeat' split
  all_goals first | rfl 
set_option maxHeartbeats 4000000 in
set_option maxRecDepth 100000 in
theorem c_X7_has (l : Launch) (E : wE) (p0 : Int32) (p1 : Int32) (z : Int32) (hsp : sp_X7_has p0 p1 = z) : MR l yX7_has cX7_has 2 (some .boolean) 0 E [.int p0, .int p1] [] (some (.int z)) := by
  refine MR.of (by decide +kernel) (Nat.le_of_ble_eq_true rfl) ?_
  intro p e s m below meth c ls hX hK hP hl
  have hX : CX p s m [.int p0, .int p1].toArray meth c cX7_has 2 (some .boolean) RX7 := hX
  have hx := hX.1; have hb := hX.2.1; have hts := hX.2.2.2.2.1; have hown := hX.2.2.2.2.2.1
  have hl : lv_has ls 2 [(0, .int p0), (1, .int p1)] := hl
  have hsp : (if ((p0 >>> (p1 &&& 31)) &&& (1 : Int32)) = 0 then ((0 : Int32)) else ((1 : Int32))) = z := hsp
  refine lv_iload_n hx hb dX7_has_0 rfl (lv_at hl 0 rfl) (W.pc 1 rfl ?_)
  refine lv_iload_n hx hb dX7_has_1 rfl (lv_at hl 1 rfl) (W.pc 2 rfl ?_)
  refine lv_ishr hx hb dX7_has_2 (W.pc 3 rfl ?_)
  refine lv_iconst (v := (1 : Int32)) hx hb dX7_has_3 (by decide) (W.pc 4 rfl ?_)
  refine lv_iand hx hb dX7_has_4 (W.pc 5 rfl ?_)
  refine lv_if_eq (tgt := 12) hx hb dX7_has_5 (by decide) (fun c1 => ?_) (fun c1 => W.pc 8 rfl ?_)
  · have hsp := ip hsp c1
    refine lv_iconst (v := (0 : Int32)) hx hb dX7_has_12 (by decide) (W.pc 13 rfl ?_)
    subst hsp
    exact rRz hX rfl rfl dX7_has_13
  · have hsp := iq hsp c1
    refine lv_iconst (v := (1 : Int32)) hx hb dX7_has_8 (by decide) (W.pc 9 rfl ?_)
    refine lv_goto (tgt := 13) hx hb dX7_has_9 (by decide) ?_
    subst hsp
    exact rRz hX rfl rfl dX7_has_13
noncomputable def lp_X1_takesKinds_22 (p1 : Int32) : Nat → Int32 → Int32 → ((Nat → Int32)) → Option (Int32 × Int32 × (Nat → Int32))
 | 0, _, _, _ => none
 | fu + 1, x2_22, ya0_0_22, ya0_turnKinds_f_22 => if x2_22 ≤ 0 then (some ((1 : Int32), ya0_0_22, ya0_turnKinds_f_22)) else (gd (¬ x2_22 = 0) (if p1 < x2_22 then (lt_ (if p1 < x2_22 then ((ya0_0_22, ya0_turnKinds_f_22)) else (lt_ (sp_X2_put 4 ya0_0_22 (((p1 / x2_22) - (p1 / x2_22) / (10 : Int32) * (10 : Int32)) - (1 : Int32)) ya0_turnKinds_f_22) fun z8 => ((ya0_0_22 + (1 : Int32)), z8))) fun z5 => lp_X1_takesKinds_22 p1 fu (x2_22 / (10 : Int32)) z5.1 z5.2) else (if (sp_X2_within ((p1 / x2_22) - (p1 / x2_22) / (10 : Int32) * (10 : Int32)) (1 : Int32) (6 : Int32)) = 0 then (some ((0 : Int32), ya0_0_22, ya0_turnKinds_f_22)) else (lt_ (if p1 < x2_22 then ((ya0_0_22, ya0_turnKinds_f_22)) else (lt_ (sp_X2_put 4 ya0_0_22 (((p1 / x2_22) - (p1 / x2_22) / (10 : Int32) * (10 : Int32)) - (1 : Int32)) ya0_turnKinds_f_22) fun z13 => ((ya0_0_22 + (1 : Int32)), z13))) fun z10 => lp_X1_takesKinds_22 p1 fu (x2_22 / (10 : Int32)) z10.1 z10.2))))
noncomputable def sp_X1_takesKinds (p1 : Int32) (a0_turns : Int32) (fa0_turnKinds : Nat → Int32) : Option (Int32 × Int32 × (Nat → Int32)) := if (sp_X2_within p1 (1 : Int32) (9999 : Int32)) = 0 then (some ((0 : Int32), a0_turns, fa0_turnKinds)) else (lp_X1_takesKinds_22 p1 FU (1000 : Int32) (0 : Int32) fa0_turnKinds)
set_option maxHeartbeats 4000000 in
set_option maxRecDepth 100000 in
theorem c_X1_takesKinds (l : Launch) (E : wE) (a0 a0_bestPlots a0_plots a0_turnKinds a0_turnTilts a0_heights a0_sets a0_trial : Nat) (p1 : Int32) (a0_turns : Int32) (a0_best : Int32) (fa0_turnKinds : Nat → Int32) (z_0 : Int32) (z_1 : Int32) (z_2 : (Nat → Int32)) (hsp : sp_X1_takesKinds p1 a0_turns fa0_turnKinds = some (z_0, z_1, z_2)) : MW l yX1_takesKinds cX1_takesKinds 4 (some .boolean) 1 E [.ref a0, .int p1] [(a0, .inr (0, [.int a0_turns, .int a0_best, .ref a0_bestPlots, .ref a0_plots, .ref a0_turnKinds, .ref a0_turnTilts, .ref a0_heights, .ref a0_sets, .ref a0_trial])), (a0_turnKinds, aI E 4 fa0_turnKinds)] (some (.int z_0)) [(a0, .inr (0, [.int z_1, .int a0_best, .ref a0_bestPlots, .ref a0_plots, .ref a0_turnKinds, .ref a0_turnTilts, .ref a0_heights, .ref a0_sets, .ref a0_trial])), (a0_turnKinds, aI E 4 z_2)] := by
  refine MW.of (by decide +kernel) (Nat.le_of_ble_eq_true rfl) ?_
  intro p e s m below meth c ls A hX hK hP hD hS hA hl
  have hX : CX p s m [.ref a0, .int p1].toArray meth c cX1_takesKinds 4 (some .boolean) RX1 := hX
  have hx := hX.1; have hb := hX.2.1; have hts := hX.2.2.2.2.1; have hown := hX.2.2.2.2.2.1
  have hl : lv_has ls 4 [(0, .ref a0), (1, .int p1)] := hl
  have hP : wP E [(a0, .inr (0, [.int a0_turns, .int a0_best, .ref a0_bestPlots, .ref a0_plots, .ref a0_turnKinds, .ref a0_turnTilts, .ref a0_heights, .ref a0_sets, .ref a0_trial])), (a0_turnKinds, aI E 4 fa0_turnKinds)] s.heap := hP
  have hsp : (if (sp_X2_within p1 (1 : Int32) (9999 : Int32)) = 0 then (some ((0 : Int32), a0_turns, fa0_turnKinds)) else (lp_X1_takesKinds_22 p1 FU (1000 : Int32) (0 : Int32) fa0_turnKinds)) = some (z_0, z_1, z_2) := hsp
  refine lv_iload_n hx hb dX1_takesKinds_0 rfl (lv_at hl 1 rfl) (W.pc 1 rfl ?_)
  refine lv_iconst (v := (1 : Int32)) hx hb dX1_takesKinds_1 (by decide) (W.pc 2 rfl ?_)
  refine lv_sipush (v := (9999 : Int32)) hx hb dX1_takesKinds_2 (by decide) (W.pc 5 rfl ?_)
  refine kSR (st1 := [.int (sp_X2_within p1 (1 : Int32) (9999 : Int32))]) hX (c_X2_within l E p1 (1 : Int32) (9999 : Int32) _ rfl) B_X2_within w_3_116 hK (hP.pick [] rfl) rfl hl.1 rfl (Nat.le_of_ble_eq_true rfl) ⟨Nat.le_of_ble_eq_true rfl, Nat.le_of_ble_eq_true rfl⟩ dX1_takesKinds_5 rfl (W.pc 8 rfl ?_)
  refine lv_if_ne (tgt := 13) hx hb dX1_takesKinds_8 (by decide) (fun c1 => ?_) (fun c1 => W.pc 11 rfl ?_)
  · have hsp := iq hsp c1
    refine lv_aload_n hx hb dX1_takesKinds_13 rfl (lv_at hl 0 rfl) (W.pc 14 rfl ?_)
    refine lv_iconst (v := (0 : Int32)) hx hb dX1_takesKinds_14 (by decide) (W.pc 15 rfl ?_)
    refine va_put (D := E.1) (ci := 0) (v := .int (0 : Int32)) (ty := .int) (C := RX1) (T := TX1) (N := 9) hx hb hts inT_X1 tyX1 tyX1_ok nmX1 hown hK hP hD hS 0 rfl rfl 0 (by decide) (hts _ w_1_145) (fun _ h9 => h9) rfl (by decide +kernel) rfl rfl (Nat.le_of_ble_eq_true rfl) dX1_takesKinds_15 (fun H locs hP hD hS => W.pc 18 rfl ?_)
    have hP : wP E [(a0, .inr (0, [.int (0 : Int32), .int a0_best, .ref a0_bestPlots, .ref a0_plots, .ref a0_turnKinds, .ref a0_turnTilts, .ref a0_heights, .ref a0_sets, .ref a0_trial])), (a0_turnKinds, aI E 4 fa0_turnKinds)] _ := hP
    have hD : va_D A [(a0, .inr (0, [.int (0 : Int32), .int a0_best, .ref a0_bestPlots, .ref a0_plots, .ref a0_turnKinds, .ref a0_turnTilts, .ref a0_heights, .ref a0_sets, .ref a0_trial])), (a0_turnKinds, aI E 4 fa0_turnKinds)] := hD
    refine lv_sipush (v := (1000 : Int32)) hx hb dX1_takesKinds_18 (by decide) (W.pc 21 rfl ?_)
    refine lv_istore_n (lv' := [(2, .int (1000 : Int32)), (0, .ref a0), (1, .int p1)]) hx hb dX1_takesKinds_21 rfl hl (by decide) rfl (fun ls hl => W.pc 22 rfl ?_)
    have L_22 : ∀ (fu : Nat) (x2_22 : Int32) (ya0_0_22 : Int32) (ya0_turnKinds_f_22 : (Nat → Int32)), ∀ (H : Heap) (locs : List Loc) (ls : Array Slot), wP E [(a0, .inr (0, [.int ya0_0_22, .int a0_best, .ref a0_bestPlots, .ref a0_plots, .ref a0_turnKinds, .ref a0_turnTilts, .ref a0_heights, .ref a0_sets, .ref a0_trial])), (a0_turnKinds, aI E 4 ya0_turnKinds_f_22)] H → va_D A [(a0, .inr (0, [.int ya0_0_22, .int a0_best, .ref a0_bestPlots, .ref a0_plots, .ref a0_turnKinds, .ref a0_turnTilts, .ref a0_heights, .ref a0_sets, .ref a0_trial])), (a0_turnKinds, aI E 4 ya0_turnKinds_f_22)] → va_S A s.heap H locs → lv_has ls 4 [(0, .ref a0), (1, .int p1), (2, .int x2_22)] → lp_X1_takesKinds_22 p1 fu x2_22 ya0_0_22 ya0_turnKinds_f_22 = some (z_0, z_1, z_2) → W p l e (wR 1) s m [.ref a0, .int p1].toArray below meth c H locs 0 0 (MQ below (QWd E A (some (.int z_0)) [(a0, .inr (0, [.int z_1, .int a0_best, .ref a0_bestPlots, .ref a0_plots, .ref a0_turnKinds, .ref a0_turnTilts, .ref a0_heights, .ref a0_sets, .ref a0_trial])), (a0_turnKinds, aI E 4 z_2)]) [.ref a0, .int p1].toArray s 0 0 A) (F0 m 22 ls []) := by
      intro fu
      induction fu with
      | zero => intro x2_22 ya0_0_22 ya0_turnKinds_f_22 H locs ls hP hD hS hl hsp; exact absurd (show none = some _ from hsp) (by simp)
      | succ fu ih_22 =>
        intro x2_22 ya0_0_22 ya0_turnKinds_f_22 H locs ls hP hD hS hl hsp
        have hsp : (if x2_22 ≤ 0 then (some ((1 : Int32), ya0_0_22, ya0_turnKinds_f_22)) else (gd (¬ x2_22 = 0) (if p1 < x2_22 then (lt_ (if p1 < x2_22 then ((ya0_0_22, ya0_turnKinds_f_22)) else (lt_ (sp_X2_put 4 ya0_0_22 (((p1 / x2_22) - (p1 / x2_22) / (10 : Int32) * (10 : Int32)) - (1 : Int32)) ya0_turnKinds_f_22) fun z8 => ((ya0_0_22 + (1 : Int32)), z8))) fun z5 => lp_X1_takesKinds_22 p1 fu (x2_22 / (10 : Int32)) z5.1 z5.2) else (if (sp_X2_within ((p1 / x2_22) - (p1 / x2_22) / (10 : Int32) * (10 : Int32)) (1 : Int32) (6 : Int32)) = 0 then (some ((0 : Int32), ya0_0_22, ya0_turnKinds_f_22)) else (lt_ (if p1 < x2_22 then ((ya0_0_22, ya0_turnKinds_f_22)) else (lt_ (sp_X2_put 4 ya0_0_22 (((p1 / x2_22) - (p1 / x2_22) / (10 : Int32) * (10 : Int32)) - (1 : Int32)) ya0_turnKinds_f_22) fun z13 => ((ya0_0_22 + (1 : Int32)), z13))) fun z10 => lp_X1_takesKinds_22 p1 fu (x2_22 / (10 : Int32)) z10.1 z10.2))))) = some (z_0, z_1, z_2) := hsp
        refine lv_iload_n hx hb dX1_takesKinds_22 rfl (lv_at hl 2 rfl) (W.pc 23 rfl ?_)
        refine lv_if_le (tgt := 87) hx hb dX1_takesKinds_23 (by decide) (fun c2 => ?_) (fun c2 => W.pc 26 rfl ?_)
        · have hsp := ip hsp c2
          refine lv_iconst (v := (1 : Int32)) hx hb dX1_takesKinds_87 (by decide) (W.pc 88 rfl ?_)
          cases hsp
          exact rWz hX rfl hP hS rfl rfl dX1_takesKinds_88
        · have hsp := iq hsp c2
          refine lv_iload_n hx hb dX1_takesKinds_26 rfl (lv_at hl 1 rfl) (W.pc 27 rfl ?_)
          refine lv_iload_n hx hb dX1_takesKinds_27 rfl (lv_at hl 2 rfl) (W.pc 28 rfl ?_)
          obtain ⟨h3, hsp⟩ := gd_s hsp
          refine lv_idiv hx hb dX1_takesKinds_28 h3 (W.pc 29 rfl ?_)
          refine lv_bipush (v := (10 : Int32)) hx hb dX1_takesKinds_29 (by decide) (W.pc 31 rfl ?_)
          refine lv_irem hx hb dX1_takesKinds_31 (by decide) (W.pc 32 rfl ?_)
          refine lv_istore_n (lv' := [(3, .int ((p1 / x2_22) - (p1 / x2_22) / (10 : Int32) * (10 : Int32))), (0, .ref a0), (1, .int p1), (2, .int x2_22)]) hx hb dX1_takesKinds_32 rfl hl (by decide) rfl (fun ls hl => W.pc 33 rfl ?_)
          refine lv_iload_n hx hb dX1_takesKinds_33 rfl (lv_at hl 2 rfl) (W.pc 34 rfl ?_)
          refine lv_iload_n hx hb dX1_takesKinds_34 rfl (lv_at hl 3 rfl) (W.pc 35 rfl ?_)
          refine lv_icmp_lt (tgt := 50) hx hb dX1_takesKinds_35 (by decide) (fun c4 => ?_) (fun c4 => W.pc 38 rfl ?_)
          · have hsp := ip hsp c4
            refine lv_iload_n hx hb dX1_takesKinds_50 rfl (lv_at hl 2 rfl) (W.pc 51 rfl ?_)
            refine lv_iload_n hx hb dX1_takesKinds_51 rfl (lv_at hl 3 rfl) (W.pc 52 rfl ?_)
            obtain ⟨z5, hr_z5, hsp⟩ := ltb_s hsp
            have J6 : ∀ (H : Heap) (locs : List Loc) (ls : Array Slot), wP E [(a0, .inr (0, [.int z5.1, .int a0_best, .ref a0_bestPlots, .ref a0_plots, .ref a0_turnKinds, .ref a0_turnTilts, .ref a0_heights, .ref a0_sets, .ref a0_trial])), (a0_turnKinds, aI E 4 z5.2)] H → va_D A [(a0, .inr (0, [.int z5.1, .int a0_best, .ref a0_bestPlots, .ref a0_plots, .ref a0_turnKinds, .ref a0_turnTilts, .ref a0_heights, .ref a0_sets, .ref a0_trial])), (a0_turnKinds, aI E 4 z5.2)] → va_S A s.heap H locs → lv_has ls 4 [(0, .ref a0), (1, .int p1), (2, .int x2_22)] → W p l e (wR 1) s m [.ref a0, .int p1].toArray below meth c H locs 0 0 (MQ below (QWd E A (some (.int z_0)) [(a0, .inr (0, [.int z_1, .int a0_best, .ref a0_bestPlots, .ref a0_plots, .ref a0_turnKinds, .ref a0_turnTilts, .ref a0_heights, .ref a0_sets, .ref a0_trial])), (a0_turnKinds, aI E 4 z_2)]) [.ref a0, .int p1].toArray s 0 0 A) (F0 m 79 ls []) := by
              intro H locs ls hP hD hS hl
              refine lv_iload_n hx hb dX1_takesKinds_79 rfl (lv_at hl 2 rfl) (W.pc 80 rfl ?_)
              refine lv_bipush (v := (10 : Int32)) hx hb dX1_takesKinds_80 (by decide) (W.pc 82 rfl ?_)
              refine lv_idiv hx hb dX1_takesKinds_82 (by decide) (W.pc 83 rfl ?_)
              refine lv_istore_n (lv' := [(2, .int (x2_22 / (10 : Int32))), (0, .ref a0), (1, .int p1)]) hx hb dX1_takesKinds_83 rfl hl (by decide) rfl (fun ls hl => W.pc 84 rfl ?_)
              refine lv_goto (tgt := 22) hx hb dX1_takesKinds_84 (by decide) ?_
              exact ih_22 (x2_22 / (10 : Int32)) z5.1 z5.2 _ _ _ hP hD hS (lv_sub hl [1, 2, 0] rfl) hsp
            replace hsp := hr_z5
            refine lv_icmp_lt (tgt := 79) hx hb dX1_takesKinds_52 (by decide) (fun c7 => ?_) (fun c7 => W.pc 55 rfl ?_)
            · have hsp := ip hsp c7
              subst hsp
              exact J6 _ _ _ hP hD hS (lv_sub hl [1, 2, 3] rfl)
            · have hsp := iq hsp c7
              refine lv_aload_n hx hb dX1_takesKinds_55 rfl (lv_at hl 1 rfl) (W.pc 56 rfl ?_)
              refine va_get (D := E.1) (ci := 0) (v := .ref a0_turnKinds) (C := RX1) (T := TX1) (N := 9) hx hb hts inT_X1 hown hK hP 0 rfl rfl 4 (by decide) (hts _ w_1_152) (fun _ h9 => h9) rfl dX1_takesKinds_56 (W.pc 59 rfl ?_)
              refine lv_aload_n hx hb dX1_takesKinds_59 rfl (lv_at hl 1 rfl) (W.pc 60 rfl ?_)
              refine va_get (D := E.1) (ci := 0) (v := .int ya0_0_22) (C := RX1) (T := TX1) (N := 9) hx hb hts inT_X1 hown hK hP 0 rfl rfl 0 (by decide) (hts _ w_1_145) (fun _ h9 => h9) rfl dX1_takesKinds_60 (W.pc 63 rfl ?_)
              refine lv_iload_n hx hb dX1_takesKinds_63 rfl (lv_at hl 0 rfl) (W.pc 64 rfl ?_)
              refine lv_iconst (v := (1 : Int32)) hx hb dX1_takesKinds_64 (by decide) (W.pc 65 rfl ?_)
              refine lv_isub hx hb dX1_takesKinds_65 (W.pc 66 rfl ?_)
              obtain ⟨z8, hr_z8, hsp⟩ := ltb_s hsp
              refine kSW (st1 := []) (ws' := [(a0, .inr (0, [.int ya0_0_22, .int a0_best, .ref a0_bestPlots, .ref a0_plots, .ref a0_turnKinds, .ref a0_turnTilts, .ref a0_heights, .ref a0_sets, .ref a0_trial])), (a0_turnKinds, aI E 4 z8)]) [1] hX (c_X2_put l E a0_turnKinds 4 (by decide) ya0_0_22 (((p1 / x2_22) - (p1 / x2_22) / (10 : Int32) * (10 : Int32)) - (1 : Int32)) ya0_turnKinds_f_22 z8 hr_z8) B_X2_put w_3_117 hK hP hD hS hA (by decide) rfl rfl rfl rfl hl.1 rfl (Nat.le_of_ble_eq_true rfl) ⟨Nat.le_of_ble_eq_true rfl, Nat.le_of_ble_eq_true rfl⟩ dX1_takesKinds_66 rfl (fun H locs hP hD hS => W.pc 69 rfl ?_)
              refine lv_aload_n hx hb dX1_takesKinds_69 rfl (lv_at hl 1 rfl) (W.pc 70 rfl ?_)
              refine lv_dup hx hb dX1_takesKinds_70 rfl (W.pc 71 rfl ?_)
              refine va_get (D := E.1) (ci := 0) (v := .int ya0_0_22) (C := RX1) (T := TX1) (N := 9) hx hb hts inT_X1 hown hK hP 0 rfl rfl 0 (by decide) (hts _ w_1_145) (fun _ h9 => h9) rfl dX1_takesKinds_71 (W.pc 74 rfl ?_)
              refine lv_iconst (v := (1 : Int32)) hx hb dX1_takesKinds_74 (by decide) (W.pc 75 rfl ?_)
              refine lv_iadd hx hb dX1_takesKinds_75 (W.pc 76 rfl ?_)
              refine va_put (D := E.1) (ci := 0) (v := .int (ya0_0_22 + (1 : Int32))) (ty := .int) (C := RX1) (T := TX1) (N := 9) hx hb hts inT_X1 tyX1 tyX1_ok nmX1 hown hK hP hD hS 0 rfl rfl 0 (by decide) (hts _ w_1_145) (fun _ h9 => h9) rfl (by decide +kernel) rfl rfl (Nat.le_of_ble_eq_true rfl) dX1_takesKinds_76 (fun H locs hP hD hS => W.pc 79 rfl ?_)
              have hP : wP E [(a0, .inr (0, [.int (ya0_0_22 + (1 : Int32)), .int a0_best, .ref a0_bestPlots, .ref a0_plots, .ref a0_turnKinds, .ref a0_turnTilts, .ref a0_heights, .ref a0_sets, .ref a0_trial])), (a0_turnKinds, aI E 4 z8)] _ := hP
              have hD : va_D A [(a0, .inr (0, [.int (ya0_0_22 + (1 : Int32)), .int a0_best, .ref a0_bestPlots, .ref a0_plots, .ref a0_turnKinds, .ref a0_turnTilts, .ref a0_heights, .ref a0_sets, .ref a0_trial])), (a0_turnKinds, aI E 4 z8)] := hD
              subst hsp
              exact J6 _ _ _ hP hD hS (lv_sub hl [1, 2, 3] rfl)
          · have hsp := iq hsp c4
            refine lv_iload_n hx hb dX1_takesKinds_38 rfl (lv_at hl 0 rfl) (W.pc 39 rfl ?_)
            refine lv_iconst (v := (1 : Int32)) hx hb dX1_takesKinds_39 (by decide) (W.pc 40 rfl ?_)
            refine lv_bipush (v := (6 : Int32)) hx hb dX1_takesKinds_40 (by decide) (W.pc 42 rfl ?_)
            refine kSR (st1 := [.int (sp_X2_within ((p1 / x2_22) - (p1 / x2_22) / (10 : Int32) * (10 : Int32)) (1 : Int32) (6 : Int32))]) hX (c_X2_within l E ((p1 / x2_22) - (p1 / x2_22) / (10 : Int32) * (10 : Int32)) (1 : Int32) (6 : Int32) _ rfl) B_X2_within w_3_116 hK (hP.pick [] rfl) rfl hl.1 rfl (Nat.le_of_ble_eq_true rfl) ⟨Nat.le_of_ble_eq_true rfl, Nat.le_of_ble_eq_true rfl⟩ dX1_takesKinds_42 rfl (W.pc 45 rfl ?_)
            refine lv_if_ne (tgt := 50) hx hb dX1_takesKinds_45 (by decide) (fun c9 => ?_) (fun c9 => W.pc 48 rfl ?_)
            · have hsp := iq hsp c9
              refine lv_iload_n hx hb dX1_takesKinds_50 rfl (lv_at hl 2 rfl) (W.pc 51 rfl ?_)
              refine lv_iload_n hx hb dX1_takesKinds_51 rfl (lv_at hl 3 rfl) (W.pc 52 rfl ?_)
              obtain ⟨z10, hr_z10, hsp⟩ := ltb_s hsp
              have J11 : ∀ (H : Heap) (locs : List Loc) (ls : Array Slot), wP E [(a0, .inr (0, [.int z10.1, .int a0_best, .ref a0_bestPlots, .ref a0_plots, .ref a0_turnKinds, .ref a0_turnTilts, .ref a0_heights, .ref a0_sets, .ref a0_trial])), (a0_turnKinds, aI E 4 z10.2)] H → va_D A [(a0, .inr (0, [.int z10.1, .int a0_best, .ref a0_bestPlots, .ref a0_plots, .ref a0_turnKinds, .ref a0_turnTilts, .ref a0_heights, .ref a0_sets, .ref a0_trial])), (a0_turnKinds, aI E 4 z10.2)] → va_S A s.heap H locs → lv_has ls 4 [(0, .ref a0), (1, .int p1), (2, .int x2_22)] → W p l e (wR 1) s m [.ref a0, .int p1].toArray below meth c H locs 0 0 (MQ below (QWd E A (some (.int z_0)) [(a0, .inr (0, [.int z_1, .int a0_best, .ref a0_bestPlots, .ref a0_plots, .ref a0_turnKinds, .ref a0_turnTilts, .ref a0_heights, .ref a0_sets, .ref a0_trial])), (a0_turnKinds, aI E 4 z_2)]) [.ref a0, .int p1].toArray s 0 0 A) (F0 m 79 ls []) := by
                intro H locs ls hP hD hS hl
                refine lv_iload_n hx hb dX1_takesKinds_79 rfl (lv_at hl 2 rfl) (W.pc 80 rfl ?_)
                refine lv_bipush (v := (10 : Int32)) hx hb dX1_takesKinds_80 (by decide) (W.pc 82 rfl ?_)
                refine lv_idiv hx hb dX1_takesKinds_82 (by decide) (W.pc 83 rfl ?_)
                refine lv_istore_n (lv' := [(2, .int (x2_22 / (10 : Int32))), (0, .ref a0), (1, .int p1)]) hx hb dX1_takesKinds_83 rfl hl (by decide) rfl (fun ls hl => W.pc 84 rfl ?_)
                refine lv_goto (tgt := 22) hx hb dX1_takesKinds_84 (by decide) ?_
                exact ih_22 (x2_22 / (10 : Int32)) z10.1 z10.2 _ _ _ hP hD hS (lv_sub hl [1, 2, 0] rfl) hsp
              replace hsp := hr_z10
              refine lv_icmp_lt (tgt := 79) hx hb dX1_takesKinds_52 (by decide) (fun c12 => ?_) (fun c12 => W.pc 55 rfl ?_)
              · have hsp := ip hsp c12
                subst hsp
                exact J11 _ _ _ hP hD hS (lv_sub hl [1, 2, 3] rfl)
              · have hsp := iq hsp c12
                refine lv_aload_n hx hb dX1_takesKinds_55 rfl (lv_at hl 1 rfl) (W.pc 56 rfl ?_)
                refine va_get (D := E.1) (ci := 0) (v := .ref a0_turnKinds) (C := RX1) (T := TX1) (N := 9) hx hb hts inT_X1 hown hK hP 0 rfl rfl 4 (by decide) (hts _ w_1_152) (fun _ h9 => h9) rfl dX1_takesKinds_56 (W.pc 59 rfl ?_)
                refine lv_aload_n hx hb dX1_takesKinds_59 rfl (lv_at hl 1 rfl) (W.pc 60 rfl ?_)
                refine va_get (D := E.1) (ci := 0) (v := .int ya0_0_22) (C := RX1) (T := TX1) (N := 9) hx hb hts inT_X1 hown hK hP 0 rfl rfl 0 (by decide) (hts _ w_1_145) (fun _ h9 => h9) rfl dX1_takesKinds_60 (W.pc 63 rfl ?_)
                refine lv_iload_n hx hb dX1_takesKinds_63 rfl (lv_at hl 0 rfl) (W.pc 64 rfl ?_)
                refine lv_iconst (v := (1 : Int32)) hx hb dX1_takesKinds_64 (by decide) (W.pc 65 rfl ?_)
                refine lv_isub hx hb dX1_takesKinds_65 (W.pc 66 rfl ?_)
                obtain ⟨z13, hr_z13, hsp⟩ := ltb_s hsp
                refine kSW (st1 := []) (ws' := [(a0, .inr (0, [.int ya0_0_22, .int a0_best, .ref a0_bestPlots, .ref a0_plots, .ref a0_turnKinds, .ref a0_turnTilts, .ref a0_heights, .ref a0_sets, .ref a0_trial])), (a0_turnKinds, aI E 4 z13)]) [1] hX (c_X2_put l E a0_turnKinds 4 (by decide) ya0_0_22 (((p1 / x2_22) - (p1 / x2_22) / (10 : Int32) * (10 : Int32)) - (1 : Int32)) ya0_turnKinds_f_22 z13 hr_z13) B_X2_put w_3_117 hK hP hD hS hA (by decide) rfl rfl rfl rfl hl.1 rfl (Nat.le_of_ble_eq_true rfl) ⟨Nat.le_of_ble_eq_true rfl, Nat.le_of_ble_eq_true rfl⟩ dX1_takesKinds_66 rfl (fun H locs hP hD hS => W.pc 69 rfl ?_)
                refine lv_aload_n hx hb dX1_takesKinds_69 rfl (lv_at hl 1 rfl) (W.pc 70 rfl ?_)
                refine lv_dup hx hb dX1_takesKinds_70 rfl (W.pc 71 rfl ?_)
                refine va_get (D := E.1) (ci := 0) (v := .int ya0_0_22) (C := RX1) (T := TX1) (N := 9) hx hb hts inT_X1 hown hK hP 0 rfl rfl 0 (by decide) (hts _ w_1_145) (fun _ h9 => h9) rfl dX1_takesKinds_71 (W.pc 74 rfl ?_)
                refine lv_iconst (v := (1 : Int32)) hx hb dX1_takesKinds_74 (by decide) (W.pc 75 rfl ?_)
                refine lv_iadd hx hb dX1_takesKinds_75 (W.pc 76 rfl ?_)
                refine va_put (D := E.1) (ci := 0) (v := .int (ya0_0_22 + (1 : Int32))) (ty := .int) (C := RX1) (T := TX1) (N := 9) hx hb hts inT_X1 tyX1 tyX1_ok nmX1 hown hK hP hD hS 0 rfl rfl 0 (by decide) (hts _ w_1_145) (fun _ h9 => h9) rfl (by decide +kernel) rfl rfl (Nat.le_of_ble_eq_true rfl) dX1_takesKinds_76 (fun H locs hP hD hS => W.pc 79 rfl ?_)
                have hP : wP E [(a0, .inr (0, [.int (ya0_0_22 + (1 : Int32)), .int a0_best, .ref a0_bestPlots, .ref a0_plots, .ref a0_turnKinds, .ref a0_turnTilts, .ref a0_heights, .ref a0_sets, .ref a0_trial])), (a0_turnKinds, aI E 4 z13)] _ := hP
                have hD : va_D A [(a0, .inr (0, [.int (ya0_0_22 + (1 : Int32)), .int a0_best, .ref a0_bestPlots, .ref a0_plots, .ref a0_turnKinds, .ref a0_turnTilts, .ref a0_heights, .ref a0_sets, .ref a0_trial])), (a0_turnKinds, aI E 4 z13)] := hD
                subst hsp
                exact J11 _ _ _ hP hD hS (lv_sub hl [1, 2, 3] rfl)
            · have hsp := ip hsp c9
              refine lv_iconst (v := (0 : Int32)) hx hb dX1_takesKinds_48 (by decide) (W.pc 49 rfl ?_)
              cases hsp
              exact rWz hX rfl hP hS rfl rfl dX1_takesKinds_49
    exact L_22 FU (1000 : Int32) (0 : Int32) fa0_turnKinds _ _ _ hP hD hS (lv_sub hl [1, 2, 0] rfl) hsp
  · have hsp := ip hsp c1
    refine lv_iconst (v := (0 : Int32)) hx hb dX1_takesKinds_11 (by decide) (W.pc 12 rfl ?_)
    cases hsp
    exact rWz hX rfl hP hS rfl rfl dX1_takesKinds_12
def sp_X7_bad (p1 : Int32) (a0_refusedAsBad : Int32) : Int32 × Int32 := (p1, (a0_refusedAsBad + (1 : Int32)))
set_option maxHeartbeats 4000000 in
set_option maxRecDepth 100000 in
theorem c_X7_bad (l : Launch) (E : wE) (a0 a0_town a0_draft a0_images a0_text a0_planner a0_trial a0_spread a0_spreadBehind a0_tally : Nat) (p1 : Int32) (a0_imagesKept : Int32) (a0_above : Int64) (a0_below : Int64) (a0_refusedAsBad : Int32) (a0_refusedAsNo : Int32) (a0_refusedAsFull : Int32) (z_0 : Int32) (z_1 : Int32) (hsp : sp_X7_bad p1 a0_refusedAsBad = (z_0, z_1)) : MW l yX7_bad cX7_bad 2 (some .int) 0 E [.ref a0, .int p1] [(a0, .inr (4, [.ref a0_town, .ref a0_draft, .ref a0_images, .int a0_imagesKept, .ref a0_text, .ref a0_planner, .ref a0_trial, .ref a0_spread, .ref a0_spreadBehind, .ref a0_tally, .long a0_above, .long a0_below, .int a0_refusedAsBad, .int a0_refusedAsNo, .int a0_refusedAsFull]))] (some (.int z_0)) [(a0, .inr (4, [.ref a0_town, .ref a0_draft, .ref a0_images, .int a0_imagesKept, .ref a0_text, .ref a0_planner, .ref a0_trial, .ref a0_spread, .ref a0_spreadBehind, .ref a0_tally, .long a0_above, .long a0_below, .int z_1, .int a0_refusedAsNo, .int a0_refusedAsFull]))] := by
  refine MW.of (by decide +kernel) (Nat.le_of_ble_eq_true rfl) ?_
  intro p e s m below meth c ls A hX hK hP hD hS hA hl
  have hX : CX p s m [.ref a0, .int p1].toArray meth c cX7_bad 2 (some .int) RX7 := hX
  have hx := hX.1; have hb := hX.2.1; have hts := hX.2.2.2.2.1; have hown := hX.2.2.2.2.2.1
  have hl : lv_has ls 2 [(0, .ref a0), (1, .int p1)] := hl
  have hP : wP E [(a0, .inr (4, [.ref a0_town, .ref a0_draft, .ref a0_images, .int a0_imagesKept, .ref a0_text, .ref a0_planner, .ref a0_trial, .ref a0_spread, .ref a0_spreadBehind, .ref a0_tally, .long a0_above, .long a0_below, .int a0_refusedAsBad, .int a0_refusedAsNo, .int a0_refusedAsFull]))] s.heap := hP
  have hsp : ((p1, (a0_refusedAsBad + (1 : Int32)))) = (z_0, z_1) := hsp
  refine lv_aload_n hx hb dX7_bad_0 rfl (lv_at hl 0 rfl) (W.pc 1 rfl ?_)
  refine lv_dup hx hb dX7_bad_1 rfl (W.pc 2 rfl ?_)
  refine va_get (D := E.1) (ci := 4) (v := .int a0_refusedAsBad) (C := RX7) (T := TX7) (N := 15) hx hb hts inT_X7 hown hK hP 0 rfl rfl 12 (by decide) (hts _ w_1_190) (fun _ h9 => h9) rfl dX7_bad_2 (W.pc 5 rfl ?_)
  refine lv_iconst (v := (1 : Int32)) hx hb dX7_bad_5 (by decide) (W.pc 6 rfl ?_)
  refine lv_iadd hx hb dX7_bad_6 (W.pc 7 rfl ?_)
  refine va_put (D := E.1) (ci := 4) (v := .int (a0_refusedAsBad + (1 : Int32))) (ty := .int) (C := RX7) (T := TX7) (N := 15) hx hb hts inT_X7 tyX7 tyX7_ok nmX7 hown hK hP hD hS 0 rfl rfl 12 (by decide) (hts _ w_1_190) (fun _ h9 => h9) rfl (by decide +kernel) rfl rfl (Nat.le_of_ble_eq_true rfl) dX7_bad_7 (fun H locs hP hD hS => W.pc 10 rfl ?_)
  have hP : wP E [(a0, .inr (4, [.ref a0_town, .ref a0_draft, .ref a0_images, .int a0_imagesKept, .ref a0_text, .ref a0_planner, .ref a0_trial, .ref a0_spread, .ref a0_spreadBehind, .ref a0_tally, .long a0_above, .long a0_below, .int (a0_refusedAsBad + (1 : Int32)), .int a0_refusedAsNo, .int a0_refusedAsFull]))] _ := hP
  have hD : va_D A [(a0, .inr (4, [.ref a0_town, .ref a0_draft, .ref a0_images, .int a0_imagesKept, .ref a0_text, .ref a0_planner, .ref a0_trial, .ref a0_spread, .ref a0_spreadBehind, .ref a0_tally, .long a0_above, .long a0_below, .int (a0_refusedAsBad + (1 : Int32)), .int a0_refusedAsNo, .int a0_refusedAsFull]))] := hD
  refine lv_iload_n hx hb dX7_bad_10 rfl (lv_at hl 1 rfl) (W.pc 11 rfl ?_)
  cases hsp
  exact rWi hX hP hS rfl rfl dX7_bad_11
def sp_X7_no (a0_refusedAsNo : Int32) : Int32 × Int32 := ((-3 : Int32), (a0_refusedAsNo + (1 : Int32)))
set_option maxHeartbeats 4000000 in
set_option maxRecDepth 100000 in
theorem c_X7_no (l : Launch) (E : wE) (a0 a0_town a0_draft a0_images a0_text a0_planner a0_trial a0_spread a0_spreadBehind a0_tally : Nat) (a0_imagesKept : Int32) (a0_above : Int64) (a0_below : Int64) (a0_refusedAsBad : Int32) (a0_refusedAsNo : Int32) (a0_refusedAsFull : Int32) (z_0 : Int32) (z_1 : Int32) (hsp : sp_X7_no a0_refusedAsNo = (z_0, z_1)) : MW l yX7_no cX7_no 1 (some .int) 0 E [.ref a0] [(a0, .inr (4, [.ref a0_town, .ref a0_draft, .ref a0_images, .int a0_imagesKept, .ref a0_text, .ref a0_planner, .ref a0_trial, .ref a0_spread, .ref a0_spreadBehind, .ref a0_tally, .long a0_above, .long a0_below, .int a0_refusedAsBad, .int a0_refusedAsNo, .int a0_refusedAsFull]))] (some (.int z_0)) [(a0, .inr (4, [.ref a0_town, .ref a0_draft, .ref a0_images, .int a0_imagesKept, .ref a0_text, .ref a0_planner, .ref a0_trial, .ref a0_spread, .ref a0_spreadBehind, .ref a0_tally, .long a0_above, .long a0_below, .int a0_refusedAsBad, .int z_1, .int a0_refusedAsFull]))] := by
  refine MW.of (by decide +kernel) (Nat.le_of_ble_eq_true rfl) ?_
  intro p e s m below meth c ls A hX hK hP hD hS hA hl
  have hX : CX p s m [.ref a0].toArray meth c cX7_no 1 (some .int) RX7 := hX
  have hx := hX.1; have hb := hX.2.1; have hts := hX.2.2.2.2.1; have hown := hX.2.2.2.2.2.1
  have hl : lv_has ls 1 [(0, .ref a0)] := hl
  have hP : wP E [(a0, .inr (4, [.ref a0_town, .ref a0_draft, .ref a0_images, .int a0_imagesKept, .ref a0_text, .ref a0_planner, .ref a0_trial, .ref a0_spread, .ref a0_spreadBehind, .ref a0_tally, .long a0_above, .long a0_below, .int a0_refusedAsBad, .int a0_refusedAsNo, .int a0_refusedAsFull]))] s.heap := hP
  have hsp : (((-3 : Int32), (a0_refusedAsNo + (1 : Int32)))) = (z_0, z_1) := hsp
  refine lv_aload_n hx hb dX7_no_0 rfl (lv_at hl 0 rfl) (W.pc 1 rfl ?_)
  refine lv_dup hx hb dX7_no_1 rfl (W.pc 2 rfl ?_)
  refine va_get (D := E.1) (ci := 4) (v := .int a0_refusedAsNo) (C := RX7) (T := TX7) (N := 15) hx hb hts inT_X7 hown hK hP 0 rfl rfl 13 (by decide) (hts _ w_1_191) (fun _ h9 => h9) rfl dX7_no_2 (W.pc 5 rfl ?_)
  refine lv_iconst (v := (1 : Int32)) hx hb dX7_no_5 (by decide) (W.pc 6 rfl ?_)
  refine lv_iadd hx hb dX7_no_6 (W.pc 7 rfl ?_)
  refine va_put (D := E.1) (ci := 4) (v := .int (a0_refusedAsNo + (1 : Int32))) (ty := .int) (C := RX7) (T := TX7) (N := 15) hx hb hts inT_X7 tyX7 tyX7_ok nmX7 hown hK hP hD hS 0 rfl rfl 13 (by decide) (hts _ w_1_191) (fun _ h9 => h9) rfl (by decide +kernel) rfl rfl (Nat.le_of_ble_eq_true rfl) dX7_no_7 (fun H locs hP hD hS => W.pc 10 rfl ?_)
  have hP : wP E [(a0, .inr (4, [.ref a0_town, .ref a0_draft, .ref a0_images, .int a0_imagesKept, .ref a0_text, .ref a0_planner, .ref a0_trial, .ref a0_spread, .ref a0_spreadBehind, .ref a0_tally, .long a0_above, .long a0_below, .int a0_refusedAsBad, .int (a0_refusedAsNo + (1 : Int32)), .int a0_refusedAsFull]))] _ := hP
  have hD : va_D A [(a0, .inr (4, [.ref a0_town, .ref a0_draft, .ref a0_images, .int a0_imagesKept, .ref a0_text, .ref a0_planner, .ref a0_trial, .ref a0_spread, .ref a0_spreadBehind, .ref a0_tally, .long a0_above, .long a0_below, .int a0_refusedAsBad, .int (a0_refusedAsNo + (1 : Int32)), .int a0_refusedAsFull]))] := hD
  refine lv_bipush (v := (-3 : Int32)) hx hb dX7_no_10 (by decide) (W.pc 12 rfl ?_)
  cases hsp
  exact rWi hX hP hS rfl rfl dX7_no_12
def sp_X7_full (a0_refusedAsFull : Int32) : Int32 × Int32 := ((-4 : Int32), (a0_refusedAsFull + (1 : Int32)))
set_option maxHeartbeats 4000000 in
set_option maxRecDepth 100000 in
theorem c_X7_full (l : Launch) (E : wE) (a0 a0_town a0_draft a0_images a0_text a0_planner a0_trial a0_spread a0_spreadBehind a0_tally : Nat) (a0_imagesKept : Int32) (a0_above : Int64) (a0_below : Int64) (a0_refusedAsBad : Int32) (a0_refusedAsNo : Int32) (a0_refusedAsFull : Int32) (z_0 : Int32) (z_1 : Int32) (hsp : sp_X7_full a0_refusedAsFull = (z_0, z_1)) : MW l yX7_full cX7_full 1 (some .int) 0 E [.ref a0] [(a0, .inr (4, [.ref a0_town, .ref a0_draft, .ref a0_images, .int a0_imagesKept, .ref a0_text, .ref a0_planner, .ref a0_trial, .ref a0_spread, .ref a0_spreadBehind, .ref a0_tally, .long a0_above, .long a0_below, .int a0_refusedAsBad, .int a0_refusedAsNo, .int a0_refusedAsFull]))] (some (.int z_0)) [(a0, .inr (4, [.ref a0_town, .ref a0_draft, .ref a0_images, .int a0_imagesKept, .ref a0_text, .ref a0_planner, .ref a0_trial, .ref a0_spread, .ref a0_spreadBehind, .ref a0_tally, .long a0_above, .long a0_below, .int a0_refusedAsBad, .int a0_refusedAsNo, .int z_1]))] := by
  refine MW.of (by decide +kernel) (Nat.le_of_ble_eq_true rfl) ?_
  intro p e s m below meth c ls A hX hK hP hD hS hA hl
  have hX : CX p s m [.ref a0].toArray meth c cX7_full 1 (some .int) RX7 := hX
  have hx := hX.1; have hb := hX.2.1; have hts := hX.2.2.2.2.1; have hown := hX.2.2.2.2.2.1
  have hl : lv_has ls 1 [(0, .ref a0)] := hl
  have hP : wP E [(a0, .inr (4, [.ref a0_town, .ref a0_draft, .ref a0_images, .int a0_imagesKept, .ref a0_text, .ref a0_planner, .ref a0_trial, .ref a0_spread, .ref a0_spreadBehind, .ref a0_tally, .long a0_above, .long a0_below, .int a0_refusedAsBad, .int a0_refusedAsNo, .int a0_refusedAsFull]))] s.heap := hP
  have hsp : (((-4 : Int32), (a0_refusedAsFull + (1 : Int32)))) = (z_0, z_1) := hsp
  refine lv_aload_n hx hb dX7_full_0 rfl (lv_at hl 0 rfl) (W.pc 1 rfl ?_)
  refine lv_dup hx hb dX7_full_1 rfl (W.pc 2 rfl ?_)
  refine va_get (D := E.1) (ci := 4) (v := .int a0_refusedAsFull) (C := RX7) (T := TX7) (N := 15) hx hb hts inT_X7 hown hK hP 0 rfl rfl 14 (by decide) (hts _ w_1_192) (fun _ h9 => h9) rfl dX7_full_2 (W.pc 5 rfl ?_)
  refine lv_iconst (v := (1 : Int32)) hx hb dX7_full_5 (by decide) (W.pc 6 rfl ?_)
  refine lv_iadd hx hb dX7_full_6 (W.pc 7 rfl ?_)
  refine va_put (D := E.1) (ci := 4) (v := .int (a0_refusedAsFull + (1 : Int32))) (ty := .int) (C := RX7) (T := TX7) (N := 15) hx hb hts inT_X7 tyX7 tyX7_ok nmX7 hown hK hP hD hS 0 rfl rfl 14 (by decide) (hts _ w_1_192) (fun _ h9 => h9) rfl (by decide +kernel) rfl rfl (Nat.le_of_ble_eq_true rfl) dX7_full_7 (fun H locs hP hD hS => W.pc 10 rfl ?_)
  have hP : wP E [(a0, .inr (4, [.ref a0_town, .ref a0_draft, .ref a0_images, .int a0_imagesKept, .ref a0_text, .ref a0_planner, .ref a0_trial, .ref a0_spread, .ref a0_spreadBehind, .ref a0_tally, .long a0_above, .long a0_below, .int a0_refusedAsBad, .int a0_refusedAsNo, .int (a0_refusedAsFull + (1 : Int32))]))] _ := hP
  have hD : va_D A [(a0, .inr (4, [.ref a0_town, .ref a0_draft, .ref a0_images, .int a0_imagesKept, .ref a0_text, .ref a0_planner, .ref a0_trial, .ref a0_spread, .ref a0_spreadBehind, .ref a0_tally, .long a0_above, .long a0_below, .int a0_refusedAsBad, .int a0_refusedAsNo, .int (a0_refusedAsFull + (1 : Int32))]))] := hD
  refine lv_bipush (v := (-4 : Int32)) hx hb dX7_full_10 (by decide) (W.pc 12 rfl ?_)
  cases hsp
  exact rWi hX hP hS rfl rfl dX7_full_12
def sp_X7_isLevelKind (p0 : Int32) : Int32 := (sp_X2_within p0 (0 : Int32) (5 : Int32))
theorem bz_X7_isLevelKind {p0 : Int32} : narrow .boolean (.int (sp_X7_isLevelKind p0)) = .int (sp_X7_isLevelKind p0) := by
  unfold sp_X7_isLevelKind
  repeat' split
  all_goals first | rfl | apply bz_X2_within
set_option maxHeartbeats 4000000 in
set_option maxRecDepth 100000 in
theorem c_X7_isLevelKind (l : Launch) (E : wE) (p0 : Int32) (z : Int32) (hsp : sp_X7_isLevelKind p0 = z) : MR l yX7_isLevelKind cX7_isLevelKind 1 (some .boolean) 1 E [.int p0] [] (some (.int z)) := by
  refine MR.of (by decide +kernel) (Nat.le_of_ble_eq_true rfl) ?_
  intro p e s m below meth c ls hX hK hP hl
  have hX : CX p s m [.int p0].toArray meth c cX7_isLevelKind 1 (some .boolean) RX7 := hX
  have hx := hX.1; have hb := hX.2.1; have hts := hX.2.2.2.2.1; have hown := hX.2.2.2.2.2.1
  have hl : lv_has ls 1 [(0, .int p0)] := hl
  have hsp : ((sp_X2_within p0 (0 : Int32) (5 : Int32))) = z := hsp
  refine lv_iload_n hx hb dX7_isLevelKind_0 rfl (lv_at hl 0 rfl) (W.pc 1 rfl ?_)
  refine lv_iconst (v := (0 : Int32)) hx hb dX7_isLevelKind_1 (by decide) (W.pc 2 rfl ?_)
  refine lv_iconst (v := (5 : Int32)) hx hb dX7_isLevelKind_2 (by decide) (W.pc 3 rfl ?_)
  refine kSR (st1 := [.int (sp_X2_within p0 (0 : Int32) (5 : Int32))]) hX (c_X2_within l E p0 (0 : Int32) (5 : Int32) _ rfl) B_X2_within w_1_231 hK (hP.pick [] rfl) rfl hl.1 rfl (Nat.le_of_ble_eq_true rfl) ⟨Nat.le_of_ble_eq_true rfl, Nat.le_of_ble_eq_true rfl⟩ dX7_isLevelKind_3 rfl (W.pc 6 rfl ?_)
  subst hsp
  exact rRz hX (by apply bz_X2_within) rfl dX7_isLevelKind_6
def sp_X7_isTilt (p0 : Int32) : Int32 := (sp_X2_within p0 (-9 : Int32) (9 : Int32))
theorem bz_X7_isTilt {p0 : Int32} : narrow .boolean (.int (sp_X7_isTilt p0)) = .int (sp_X7_isTilt p0) := by
  unfold sp_X7_isTilt
  repeat' split
  all_goals first | rfl | apply bz_X2_within
set_option maxHeartbeats 4000000 in
set_option maxRecDepth 100000 in
theorem c_X7_isTilt (l : Launch) (E : wE) (p0 : Int32) (z : Int32) (hsp : sp_X7_isTilt p0 = z) : MR l yX7_isTilt cX7_isTilt 1 (some .boolean) 1 E [.int p0] [] (some (.int z)) := by
  refine MR.of (by decide +kernel) (Nat.le_of_ble_eq_true rfl) ?_
  intro p e s m below meth c ls hX hK hP hl
  have hX : CX p s m [.int p0].toArray meth c cX7_isTilt 1 (some .boolean) RX7 := hX
  have hx := hX.1; have hb := hX.2.1; have hts := hX.2.2.2.2.1; have hown := hX.2.2.2.2.2.1
  have hl : lv_has ls 1 [(0, .int p0)] := hl
  have hsp : ((sp_X2_within p0 (-9 : Int32) (9 : Int32))) = z := hsp
  refine lv_iload_n hx hb dX7_isTilt_0 rfl (lv_at hl 0 rfl) (W.pc 1 rfl ?_)
  refine lv_bipush (v := (-9 : Int32)) hx hb dX7_isTilt_1 (by decide) (W.pc 3 rfl ?_)
  refine lv_bipush (v := (9 : Int32)) hx hb dX7_isTilt_3 (by decide) (W.pc 5 rfl ?_)
  refine kSR (st1 := [.int (sp_X2_within p0 (-9 : Int32) (9 : Int32))]) hX (c_X2_within l E p0 (-9 : Int32) (9 : Int32) _ rfl) B_X2_within w_1_231 hK (hP.pick [] rfl) rfl hl.1 rfl (Nat.le_of_ble_eq_true rfl) ⟨Nat.le_of_ble_eq_true rfl, Nat.le_of_ble_eq_true rfl⟩ dX7_isTilt_5 rfl (W.pc 8 rfl ?_)
  subst hsp
  exact rRz hX (by apply bz_X2_within) rfl dX7_isTilt_8
def sp_X7_isPlot (p0 : Int32) : Int32 := (sp_X2_within p0 (0 : Int32) (5 : Int32))
theorem bz_X7_isPlot {p0 : Int32} : narrow .boolean (.int (sp_X7_isPlot p0)) = .int (sp_X7_isPlot p0) := by
  unfold sp_X7_isPlot
  repeat' split
  all_goals first | rfl | apply bz_X2_within
set_option maxHeartbeats 4000000 in
set_option maxRecDepth 100000 in
theorem c_X7_isPlot (l : Launch) (E : wE) (p0 : Int32) (z : Int32) (hsp : sp_X7_isPlot p0 = z) : MR l yX7_isPlot cX7_isPlot 1 (some .boolean) 1 E [.int p0] [] (some (.int z)) := by
  refine MR.of (by decide +kernel) (Nat.le_of_ble_eq_true rfl) ?_
  intro p e s m below meth c ls hX hK hP hl
  have hX : CX p s m [.int p0].toArray meth c cX7_isPlot 1 (some .boolean) RX7 := hX
  have hx := hX.1; have hb := hX.2.1; have hts := hX.2.2.2.2.1; have hown := hX.2.2.2.2.2.1
  have hl : lv_has ls 1 [(0, .int p0)] := hl
  have hsp : ((sp_X2_within p0 (0 : Int32) (5 : Int32))) = z := hsp
  refine lv_iload_n hx hb dX7_isPlot_0 rfl (lv_at hl 0 rfl) (W.pc 1 rfl ?_)
  refine lv_iconst (v := (0 : Int32)) hx hb dX7_isPlot_1 (by decide) (W.pc 2 rfl ?_)
  refine lv_iconst (v := (5 : Int32)) hx hb dX7_isPlot_2 (by decide) (W.pc 3 rfl ?_)
  refine kSR (st1 := [.int (sp_X2_within p0 (0 : Int32) (5 : Int32))]) hX (c_X2_within l E p0 (0 : Int32) (5 : Int32) _ rfl) B_X2_within w_1_231 hK (hP.pick [] rfl) rfl hl.1 rfl (Nat.le_of_ble_eq_true rfl) ⟨Nat.le_of_ble_eq_true rfl, Nat.le_of_ble_eq_true rfl⟩ dX7_isPlot_3 rfl (W.pc 6 rfl ?_)
  subst hsp
  exact rRz hX (by apply bz_X2_within) rfl dX7_isPlot_6
def sp_X7_isName (p0 : Int32) : Int32 := (sp_X2_within p0 (0 : Int32) (9 : Int32))
theorem bz_X7_isName {p0 : Int32} : narrow .boolean (.int (sp_X7_isName p0)) = .int (sp_X7_isName p0) := by
  unfold sp_X7_isName
  repeat' split
  all_goals first | rfl | apply bz_X2_within
set_option maxHeartbeats 4000000 in
set_option maxRecDepth 100000 in
theorem c_X7_isName (l : Launch) (E : wE) (p0 : Int32) (z : Int32) (hsp : sp_X7_isName p0 = z) : MR l yX7_isName cX7_isName 1 (some .boolean) 1 E [.int p0] [] (some (.int z)) := by
  refine MR.of (by decide +kernel) (Nat.le_of_ble_eq_true rfl) ?_
  intro p e s m below meth c ls hX hK hP hl
  have hX : CX p s m [.int p0].toArray meth c cX7_isName 1 (some .boolean) RX7 := hX
  have hx := hX.1; have hb := hX.2.1; have hts := hX.2.2.2.2.1; have hown := hX.2.2.2.2.2.1
  have hl : lv_has ls 1 [(0, .int p0)] := hl
  have hsp : ((sp_X2_within p0 (0 : Int32) (9 : Int32))) = z := hsp
  refine lv_iload_n hx hb dX7_isName_0 rfl (lv_at hl 0 rfl) (W.pc 1 rfl ?_)
  refine lv_iconst (v := (0 : Int32)) hx hb dX7_isName_1 (by decide) (W.pc 2 rfl ?_)
  refine lv_bipush (v := (9 : Int32)) hx hb dX7_isName_2 (by decide) (W.pc 4 rfl ?_)
  refine kSR (st1 := [.int (sp_X2_within p0 (0 : Int32) (9 : Int32))]) hX (c_X2_within l E p0 (0 : Int32) (9 : Int32) _ rfl) B_X2_within w_1_231 hK (hP.pick [] rfl) rfl hl.1 rfl (Nat.le_of_ble_eq_true rfl) ⟨Nat.le_of_ble_eq_true rfl, Nat.le_of_ble_eq_true rfl⟩ dX7_isName_4 rfl (W.pc 7 rfl ?_)
  subst hsp
  exact rRz hX (by apply bz_X2_within) rfl dX7_isName_7
def sp_X7_isBuilding (p0 : Int32) (p1 : Int32) (p2 : Int32) : Int32 := if (sp_X7_isPlot p0) = 0 then ((0 : Int32)) else (if (sp_X2_within p1 (0 : Int32) (5 : Int32)) = 0 then ((0 : Int32)) else (if (sp_X2_within p2 (0 : Int32) (1 : Int32)) = 0 then ((0 : Int32)) else ((1 : Int32))))
theorem bz_X7_isBuilding {p0 : Int32} {p1 : Int32} {p2 : Int32} : narrow .boolean (.int (sp_X7_isBuilding p0 p1 p2)) = .int (sp_X7_isBuilding p0 p1 p2) := by
  unfold sp_X7_isBuilding
  repeat' split
  all_goals first | rfl | apply bz_X2_within | apply bz_X7_isPlot
set_option maxHeartbeats 4000000 in
set_option maxRecDepth 100000 in
theorem c_X7_isBuilding (l : Launch) (E : wE) (p0 : Int32) (p1 : Int32) (p2 : Int32) (z : Int32) (hsp : sp_X7_isBuilding p0 p1 p2 = z) : MR l yX7_isBuilding cX7_isBuilding 3 (some .boolean) 2 E [.int p0, .int p1, .int p2] [] (some (.int z)) := by
  refine MR.of (by decide +kernel) (Nat.le_of_ble_eq_true rfl) ?_
  intro p e s m below meth c ls hX hK hP hl
  have hX : CX p s m [.int p0, .int p1, .int p2].toArray meth c cX7_isBuilding 3 (some .boolean) RX7 := hX
  have hx := hX.1; have hb := hX.2.1; have hts := hX.2.2.2.2.1; have hown := hX.2.2.2.2.2.1
  have hl : lv_has ls 3 [(0, .int p0), (1, .int p1), (2, .int p2)] := hl
  have hsp : (if (sp_X7_isPlot p0) = 0 then ((0 : Int32)) else (if (sp_X2_within p1 (0 : Int32) (5 : Int32)) = 0 then ((0 : Int32)) else (if (sp_X2_within p2 (0 : Int32) (1 : Int32)) = 0 then ((0 : Int32)) else ((1 : Int32))))) = z := hsp
  refine lv_iload_n hx hb dX7_isBuilding_0 rfl (lv_at hl 0 rfl) (W.pc 1 rfl ?_)
  refine kSR (st1 := [.int (sp_X7_isPlot p0)]) hX (c_X7_isPlot l E p0 _ rfl) B_X7_isPlot w_3_0 hK (hP.pick [] rfl) rfl hl.1 rfl (Nat.le_of_ble_eq_true rfl) ⟨Nat.le_of_ble_eq_true rfl, Nat.le_of_ble_eq_true rfl⟩ dX7_isBuilding_1 rfl (W.pc 4 rfl ?_)
  refine lv_if_eq (tgt := 29) hx hb dX7_isBuilding_4 (by decide) (fun c1 => ?_) (fun c1 => W.pc 7 rfl ?_)
  · have hsp := ip hsp c1
    refine lv_iconst (v := (0 : Int32)) hx hb dX7_isBuilding_29 (by decide) (W.pc 30 rfl ?_)
    subst hsp
    exact rRz hX rfl rfl dX7_isBuilding_30
  · have hsp := iq hsp c1
    refine lv_iload_n hx hb dX7_isBuilding_7 rfl (lv_at hl 1 rfl) (W.pc 8 rfl ?_)
    refine lv_iconst (v := (0 : Int32)) hx hb dX7_isBuilding_8 (by decide) (W.pc 9 rfl ?_)
    refine lv_iconst (v := (5 : Int32)) hx hb dX7_isBuilding_9 (by decide) (W.pc 10 rfl ?_)
    refine kSR (st1 := [.int (sp_X2_within p1 (0 : Int32) (5 : Int32))]) hX (c_X2_within l E p1 (0 : Int32) (5 : Int32) _ rfl) B_X2_within w_1_231 hK (hP.pick [] rfl) rfl hl.1 rfl (Nat.le_of_ble_eq_true rfl) ⟨Nat.le_of_ble_eq_true rfl, Nat.le_of_ble_eq_true rfl⟩ dX7_isBuilding_10 rfl (W.pc 13 rfl ?_)
    refine lv_if_eq (tgt := 29) hx hb dX7_isBuilding_13 (by decide) (fun c2 => ?_) (fun c2 => W.pc 16 rfl ?_)
    · have hsp := ip hsp c2
      refine lv_iconst (v := (0 : Int32)) hx hb dX7_isBuilding_29 (by decide) (W.pc 30 rfl ?_)
      subst hsp
      exact rRz hX rfl rfl dX7_isBuilding_30
    · have hsp := iq hsp c2
      refine lv_iload_n hx hb dX7_isBuilding_16 rfl (lv_at hl 2 rfl) (W.pc 17 rfl ?_)
      refine lv_iconst (v := (0 : Int32)) hx hb dX7_isBuilding_17 (by decide) (W.pc 18 rfl ?_)
      refine lv_iconst (v := (1 : Int32)) hx hb dX7_isBuilding_18 (by decide) (W.pc 19 rfl ?_)
      refine kSR (st1 := [.int (sp_X2_within p2 (0 : Int32) (1 : Int32))]) hX (c_X2_within l E p2 (0 : Int32) (1 : Int32) _ rfl) B_X2_within w_1_231 hK (hP.pick [] rfl) rfl hl.1 rfl (Nat.le_of_ble_eq_true rfl) ⟨Nat.le_of_ble_eq_true rfl, Nat.le_of_ble_eq_true rfl⟩ dX7_isBuilding_19 rfl (W.pc 22 rfl ?_)
      refine lv_if_eq (tgt := 29) hx hb dX7_isBuilding_22 (by decide) (fun c3 => ?_) (fun c3 => W.pc 25 rfl ?_)
      · have hsp := ip hsp c3
        refine lv_iconst (v := (0 : Int32)) hx hb dX7_isBuilding_29 (by decide) (W.pc 30 rfl ?_)
        subst hsp
        exact rRz hX rfl rfl dX7_isBuilding_30
      · have hsp := iq hsp c3
        refine lv_iconst (v := (1 : Int32)) hx hb dX7_isBuilding_25 (by decide) (W.pc 26 rfl ?_)
        refine lv_goto (tgt := 30) hx hb dX7_isBuilding_26 (by decide) ?_
        subst hsp
        exact rRz hX rfl rfl dX7_isBuilding_30
def sp_X7_tiltBuilt (p1 : Int32) (a0_town_site_off : Int32) : Int32 := if p1 = (1 : Int32) then ((0 : Int32)) else (a0_town_site_off)
set_option maxHeartbeats 4000000 in
set_option maxRecDepth 100000 in
theorem c_X7_tiltBuilt (l : Launch) (E : wE) (a0 a0_town a0_draft a0_images a0_text a0_planner a0_trial a0_spread a0_spreadBehind a0_tally a0_town_pulls a0_town_site a0_town_past a0_town_views a0_town_notes a0_town_marks a0_town_site_heights a0_town_site_storeyKinds a0_town_site_storeyTilts : Nat) (p1 : Int32) (a0_imagesKept : Int32) (a0_above : Int64) (a0_below : Int64) (a0_refusedAsBad : Int32) (a0_refusedAsNo : Int32) (a0_refusedAsFull : Int32) (a0_town_kind : Int32) (a0_town_pasts : Int32) (a0_town_members : Int32) (a0_town_noteCount : Int32) (a0_town_markCount : Int32) (a0_town_site_off : Int32) (a0_town_site_year : Int32) (z : Int32) (hsp : sp_X7_tiltBuilt p1 a0_town_site_off = z) : MR l yX7_tiltBuilt cX7_tiltBuilt 2 (some .int) 0 E [.ref a0, .int p1] [(a0, .inr (4, [.ref a0_town, .ref a0_draft, .ref a0_images, .int a0_imagesKept, .ref a0_text, .ref a0_planner, .ref a0_trial, .ref a0_spread, .ref a0_spreadBehind, .ref a0_tally, .long a0_above, .long a0_below, .int a0_refusedAsBad, .int a0_refusedAsNo, .int a0_refusedAsFull])), (a0_town, .inr (3, [.int a0_town_kind, .ref a0_town_pulls, .ref a0_town_site, .ref a0_town_past, .int a0_town_pasts, .ref a0_town_views, .int a0_town_members, .ref a0_town_notes, .int a0_town_noteCount, .ref a0_town_marks, .int a0_town_markCount])), (a0_town_site, .inr (1, [.int a0_town_site_off, .int a0_town_site_year, .ref a0_town_site_heights, .ref a0_town_site_storeyKinds, .ref a0_town_site_storeyTilts]))] (some (.int z)) := by
  refine MR.of (by decide +kernel) (Nat.le_of_ble_eq_true rfl) ?_
  intro p e s m below meth c ls hX hK hP hl
  have hX : CX p s m [.ref a0, .int p1].toArray meth c cX7_tiltBuilt 2 (some .int) RX7 := hX
  have hx := hX.1; have hb := hX.2.1; have hts := hX.2.2.2.2.1; have hown := hX.2.2.2.2.2.1
  have hl : lv_has ls 2 [(0, .ref a0), (1, .int p1)] := hl
  have hsp : (if p1 = (1 : Int32) then ((0 : Int32)) else (a0_town_site_off)) = z := hsp
  refine lv_iload_n hx hb dX7_tiltBuilt_0 rfl (lv_at hl 1 rfl) (W.pc 1 rfl ?_)
  refine lv_iconst (v := (1 : Int32)) hx hb dX7_tiltBuilt_1 (by decide) (W.pc 2 rfl ?_)
  refine lv_icmp_ne (tgt := 9) hx hb dX7_tiltBuilt_2 (by decide) (fun c1 => ?_) (fun c1 => W.pc 5 rfl ?_)
  · have hsp := iq hsp c1
    refine lv_aload_n hx hb dX7_tiltBuilt_9 rfl (lv_at hl 0 rfl) (W.pc 10 rfl ?_)
    refine va_get (D := E.1) (ci := 4) (v := .ref a0_town) (C := RX7) (T := TX7) (N := 15) hx hb hts inT_X7 hown hK hP 0 rfl rfl 0 (by decide) (hts _ w_1_178) (fun _ h9 => h9) rfl dX7_tiltBuilt_10 (W.pc 13 rfl ?_)
    refine va_get (D := E.1) (ci := 3) (v := .ref a0_town_site) (C := RX6) (T := TX6) (N := 11) hx hb hts inT_X6 hown hK hP 1 rfl rfl 2 (by decide) (hts _ w_1_68) (fun _ h9 => h9) rfl dX7_tiltBuilt_13 (W.pc 16 rfl ?_)
    refine va_get (D := E.1) (ci := 1) (v := .int a0_town_site_off) (C := RX3) (T := TX3) (N := 5) hx hb hts inT_X3 hown hK hP 2 rfl rfl 0 (by decide) (hts _ w_1_40) (fun _ h9 => h9) rfl dX7_tiltBuilt_16 (W.pc 19 rfl ?_)
    subst hsp
    exact rRi hX rfl dX7_tiltBuilt_19
  · have hsp := ip hsp c1
    refine lv_iconst (v := (0 : Int32)) hx hb dX7_tiltBuilt_5 (by decide) (W.pc 6 rfl ?_)
    refine lv_goto (tgt := 19) hx hb dX7_tiltBuilt_6 (by decide) ?_
    subst hsp
    exact rRi hX rfl dX7_tiltBuilt_19
noncomputable def lp_X7_levelPlots_4 (fa0_town_site_heights : Nat → Int32) (fa0_town_site_storeyTilts : Nat → Int32) : Nat → Int32 → Int32 → Option (Int32 × Int32)
 | 0, _, _ => none
 | fu + 1, x1_4, x2_4 => if (6 : Int32) ≤ x2_4 then (some (x1_4, x2_4)) else (lt_ (if (sp_X3_top x2_4 fa0_town_site_heights fa0_town_site_storeyTilts) = 0 then ((x1_4 ||| ((1 : Int32) <<< (x2_4 &&& 31)))) else (x1_4)) fun z3 => lp_X7_levelPlots_4 fa0_town_site_heights fa0_town_site_storeyTilts fu z3 (x2_4 + (1 : Int32)))
noncomputable def sp_X7_levelPlots (fa0_town_site_heights : Nat → Int32) (fa0_town_site_storeyTilts : Nat → Int32) : Option (Int32) := Option.bind (lp_X7_levelPlots_4 fa0_town_site_heights fa0_town_site_storeyTilts FU (0 : Int32) (0 : Int32)) fun z1 => some z1.1
set_option maxHeartbeats 4000000 in
set_option maxRecDepth 100000 in
theorem c_X7_levelPlots (l : Launch) (E : wE) (a0 a0_town a0_draft a0_images a0_text a0_planner a0_trial a0_spread a0_spreadBehind a0_tally a0_town_pulls a0_town_site a0_town_past a0_town_views a0_town_notes a0_town_marks a0_town_site_heights a0_town_site_storeyKinds a0_town_site_storeyTilts : Nat) (a0_imagesKept : Int32) (a0_above : Int64) (a0_below : Int64) (a0_refusedAsBad : Int32) (a0_refusedAsNo : Int32) (a0_refusedAsFull : Int32) (a0_town_kind : Int32) (a0_town_pasts : Int32) (a0_town_members : Int32) (a0_town_noteCount : Int32) (a0_town_markCount : Int32) (a0_town_site_off : Int32) (a0_town_site_year : Int32) (fa0_town_site_heights : Nat → Int32) (fa0_town_site_storeyTilts : Nat → Int32) (z : Int32) (hsp : sp_X7_levelPlots fa0_town_site_heights fa0_town_site_storeyTilts = some z) : MR l yX7_levelPlots cX7_levelPlots 3 (some .int) 3 E [.ref a0] [(a0, .inr (4, [.ref a0_town, .ref a0_draft, .ref a0_images, .int a0_imagesKept, .ref a0_text, .ref a0_planner, .ref a0_trial, .ref a0_spread, .ref a0_spreadBehind, .ref a0_tally, .long a0_above, .long a0_below, .int a0_refusedAsBad, .int a0_refusedAsNo, .int a0_refusedAsFull])), (a0_town, .inr (3, [.int a0_town_kind, .ref a0_town_pulls, .ref a0_town_site, .ref a0_town_past, .int a0_town_pasts, .ref a0_town_views, .int a0_town_members, .ref a0_town_notes, .int a0_town_noteCount, .ref a0_town_marks, .int a0_town_markCount])), (a0_town_site, .inr (1, [.int a0_town_site_off, .int a0_town_site_year, .ref a0_town_site_heights, .ref a0_town_site_storeyKinds, .ref a0_town_site_storeyTilts])), (a0_town_site_heights, aI E 6 fa0_town_site_heights), (a0_town_site_storeyTilts, aI E 30 fa0_town_site_storeyTilts)] (some (.int z)) := by
  refine MR.of (by decide +kernel) (Nat.le_of_ble_eq_true rfl) ?_
  intro p e s m below meth c ls hX hK hP hl
  have hX : CX p s m [.ref a0].toArray meth c cX7_levelPlots 3 (some .int) RX7 := hX
  have hx := hX.1; have hb := hX.2.1; have hts := hX.2.2.2.2.1; have hown := hX.2.2.2.2.2.1
  have hl : lv_has ls 3 [(0, .ref a0)] := hl
  have hsp : (Option.bind (lp_X7_levelPlots_4 fa0_town_site_heights fa0_town_site_storeyTilts FU (0 : Int32) (0 : Int32)) fun z1 => some z1.1) = some z := hsp
  refine lv_iconst (v := (0 : Int32)) hx hb dX7_levelPlots_0 (by decide) (W.pc 1 rfl ?_)
  refine lv_istore_n (lv' := [(1, .int (0 : Int32)), (0, .ref a0)]) hx hb dX7_levelPlots_1 rfl hl (by decide) rfl (fun ls hl => W.pc 2 rfl ?_)
  refine lv_iconst (v := (0 : Int32)) hx hb dX7_levelPlots_2 (by decide) (W.pc 3 rfl ?_)
  refine lv_istore_n (lv' := [(2, .int (0 : Int32)), (1, .int (0 : Int32)), (0, .ref a0)]) hx hb dX7_levelPlots_3 rfl hl (by decide) rfl (fun ls hl => W.pc 4 rfl ?_)
  have L_4 : ∀ (z1 : Int32 × Int32), (∀ (ls : Array Slot), lv_has ls 3 [(1, .int z1.1)] → W p l e (wR 3) s m [.ref a0].toArray below meth c s.heap [] 0 0 (MQ below (QRd E (some (.int z))) [.ref a0].toArray s 0 0 (fun _ => False)) (F0 m 36 ls [])) → ∀ (fu : Nat) (x1_4 : Int32) (x2_4 : Int32), ∀ (ls : Array Slot), lv_has ls 3 [(0, .ref a0), (1, .int x1_4), (2, .int x2_4)] → lp_X7_levelPlots_4 fa0_town_site_heights fa0_town_site_storeyTilts fu x1_4 x2_4 = some z1 → W p l e (wR 3) s m [.ref a0].toArray below meth c s.heap [] 0 0 (MQ below (QRd E (some (.int z))) [.ref a0].toArray s 0 0 (fun _ => False)) (F0 m 4 ls []) := by
    intro z1 hk_4 fu
    induction fu with
    | zero => intro x1_4 x2_4 ls hl hsp; exact absurd (show none = some _ from hsp) (by simp)
    | succ fu ih_4 =>
      intro x1_4 x2_4 ls hl hsp
      have hsp : (if (6 : Int32) ≤ x2_4 then (some (x1_4, x2_4)) else (lt_ (if (sp_X3_top x2_4 fa0_town_site_heights fa0_town_site_storeyTilts) = 0 then ((x1_4 ||| ((1 : Int32) <<< (x2_4 &&& 31)))) else (x1_4)) fun z3 => lp_X7_levelPlots_4 fa0_town_site_heights fa0_town_site_storeyTilts fu z3 (x2_4 + (1 : Int32)))) = some z1 := hsp
      refine lv_iload_n hx hb dX7_levelPlots_4 rfl (lv_at hl 2 rfl) (W.pc 5 rfl ?_)
      refine lv_bipush (v := (6 : Int32)) hx hb dX7_levelPlots_5 (by decide) (W.pc 7 rfl ?_)
      refine lv_icmp_ge (tgt := 36) hx hb dX7_levelPlots_7 (by decide) (fun c2 => ?_) (fun c2 => W.pc 10 rfl ?_)
      · have hsp := ip hsp c2
        obtain rfl := Option.some.inj hsp
        exact hk_4 _ (lv_sub hl [1] rfl)
      · have hsp := iq hsp c2
        refine lv_aload_n hx hb dX7_levelPlots_10 rfl (lv_at hl 0 rfl) (W.pc 11 rfl ?_)
        refine va_get (D := E.1) (ci := 4) (v := .ref a0_town) (C := RX7) (T := TX7) (N := 15) hx hb hts inT_X7 hown hK hP 0 rfl rfl 0 (by decide) (hts _ w_1_178) (fun _ h9 => h9) rfl dX7_levelPlots_11 (W.pc 14 rfl ?_)
        refine va_get (D := E.1) (ci := 3) (v := .ref a0_town_site) (C := RX6) (T := TX6) (N := 11) hx hb hts inT_X6 hown hK hP 1 rfl rfl 2 (by decide) (hts _ w_1_68) (fun _ h9 => h9) rfl dX7_levelPlots_14 (W.pc 17 rfl ?_)
        refine lv_iload_n hx hb dX7_levelPlots_17 rfl (lv_at hl 2 rfl) (W.pc 18 rfl ?_)
        refine kVR (st1 := [.int (sp_X3_top x2_4 fa0_town_site_heights fa0_town_site_storeyTilts)]) hX (c_X3_top l E a0_town_site a0_town_site_heights a0_town_site_storeyKinds a0_town_site_storeyTilts x2_4 a0_town_site_off a0_town_site_year fa0_town_site_heights fa0_town_site_storeyTilts _ rfl) B_X3_top w_3_53 hK (hP.pick [2, 3, 4] rfl) (q0 := 0) (ci := 1) rfl rfl rfl rfl hl.1 rfl (Nat.le_of_ble_eq_true rfl) ⟨Nat.le_of_ble_eq_true rfl, Nat.le_of_ble_eq_true rfl⟩ dX7_levelPlots_18 rfl (W.pc 21 rfl ?_)
        obtain ⟨z3, hr_z3, hsp⟩ := ltb_s hsp
        have J4 : ∀ (ls : Array Slot), lv_has ls 3 [(0, .ref a0), (1, .int z3), (2, .int x2_4)] → W p l e (wR 3) s m [.ref a0].toArray below meth c s.heap [] 0 0 (MQ below (QRd E (some (.int z))) [.ref a0].toArray s 0 0 (fun _ => False)) (F0 m 30 ls []) := by
          intro ls hl
          refine lv_iinc (v := (x2_4 + (1 : Int32))) (lv' := [(2, .int (x2_4 + (1 : Int32))), (0, .ref a0), (1, .int z3)]) hx hb dX7_levelPlots_30 hl (k := 2) rfl rfl (by decide) rfl (fun ls hl => W.pc 33 rfl ?_)
          refine lv_goto (tgt := 4) hx hb dX7_levelPlots_33 (by decide) ?_
          exact ih_4 z3 (x2_4 + (1 : Int32)) _ (lv_sub hl [1, 2, 0] rfl) hsp
        replace hsp := hr_z3
        refine lv_if_ne (tgt := 30) hx hb dX7_levelPlots_21 (by decide) (fun c5 => ?_) (fun c5 => W.pc 24 rfl ?_)
        · have hsp := iq hsp c5
          subst hsp
          exact J4 _ (lv_sub hl [0, 1, 2] rfl)
        · have hsp := ip hsp c5
          refine lv_iload_n hx hb dX7_levelPlots_24 rfl (lv_at hl 1 rfl) (W.pc 25 rfl ?_)
          refine lv_iconst (v := (1 : Int32)) hx hb dX7_levelPlots_25 (by decide) (W.pc 26 rfl ?_)
          refine lv_iload_n hx hb dX7_levelPlots_26 rfl (lv_at hl 2 rfl) (W.pc 27 rfl ?_)
          refine lv_ishl hx hb dX7_levelPlots_27 (W.pc 28 rfl ?_)
          refine lv_ior hx hb dX7_levelPlots_28 (W.pc 29 rfl ?_)
          refine lv_istore_n (lv' := [(1, .int (x1_4 ||| ((1 : Int32) <<< (x2_4 &&& 31)))), (0, .ref a0), (2, .int x2_4)]) hx hb dX7_levelPlots_29 rfl hl (by decide) rfl (fun ls hl => W.pc 30 rfl ?_)
          subst hsp
          exact J4 _ (lv_sub hl [1, 0, 2] rfl)
  obtain ⟨z1, hr_z1, hsp⟩ := bd_s hsp
  refine L_4 z1 (fun ls hl => ?_) FU (0 : Int32) (0 : Int32) _ (lv_sub hl [2, 1, 0] rfl) hr_z1
  refine lv_iload_n hx hb dX7_levelPlots_36 rfl (lv_at hl 0 rfl) (W.pc 37 rfl ?_)
  obtain rfl := Option.some.inj hsp
  exact rRi hX rfl dX7_levelPlots_37
noncomputable def lp_X7_steps_4 (fa0_town_site_heights : Nat → Int32) (fa0_town_site_storeyTilts : Nat → Int32) : Nat → Int32 → Int32 → Option (Int32 × Int32)
 | 0, _, _ => none
 | fu + 1, x1_4, x2_4 => if (5 : Int32) ≤ x2_4 then (some (x1_4, x2_4)) else (lt_ (if (j_abs ((sp_X3_top x2_4 fa0_town_site_heights fa0_town_site_storeyTilts) - (sp_X3_top (x2_4 + (1 : Int32)) fa0_town_site_heights fa0_town_site_storeyTilts))) < (3 : Int32) then (x1_4) else ((x1_4 ||| ((1 : Int32) <<< (x2_4 &&& 31))))) fun z3 => lp_X7_steps_4 fa0_town_site_heights fa0_town_site_storeyTilts fu z3 (x2_4 + (1 : Int32)))
noncomputable def sp_X7_steps (fa0_town_site_heights : Nat → Int32) (fa0_town_site_storeyTilts : Nat → Int32) : Option (Int32) := Option.bind (lp_X7_steps_4 fa0_town_site_heights fa0_town_site_storeyTilts FU (0 : Int32) (0 : Int32)) fun z1 => some z1.1
set_option maxHeartbeats 4000000 in
set_option maxRecDepth 100000 in
theorem c_X7_steps (l : Launch) (E : wE) (a0 a0_town a0_draft a0_images a0_text a0_planner a0_trial a0_spread a0_spreadBehind a0_tally a0_town_pulls a0_town_site a0_town_past a0_town_views a0_town_notes a0_town_marks a0_town_site_heights a0_town_site_storeyKinds a0_town_site_storeyTilts : Nat) (a0_imagesKept : Int32) (a0_above : Int64) (a0_below : Int64) (a0_refusedAsBad : Int32) (a0_refusedAsNo : Int32) (a0_refusedAsFull : Int32) (a0_town_kind : Int32) (a0_town_pasts : Int32) (a0_town_members : Int32) (a0_town_noteCount : Int32) (a0_town_markCount : Int32) (a0_town_site_off : Int32) (a0_town_site_year : Int32) (fa0_town_site_heights : Nat → Int32) (fa0_town_site_storeyTilts : Nat → Int32) (z : Int32) (hsp : sp_X7_steps fa0_town_site_heights fa0_town_site_storeyTilts = some z) : MR l yX7_steps cX7_steps 3 (some .int) 3 E [.ref a0] [(a0, .inr (4, [.ref a0_town, .ref a0_draft, .ref a0_images, .int a0_imagesKept, .ref a0_text, .ref a0_planner, .ref a0_trial, .ref a0_spread, .ref a0_spreadBehind, .ref a0_tally, .long a0_above, .long a0_below, .int a0_refusedAsBad, .int a0_refusedAsNo, .int a0_refusedAsFull])), (a0_town, .inr (3, [.int a0_town_kind, .ref a0_town_pulls, .ref a0_town_site, .ref a0_town_past, .int a0_town_pasts, .ref a0_town_views, .int a0_town_members, .ref a0_town_notes, .int a0_town_noteCount, .ref a0_town_marks, .int a0_town_markCount])), (a0_town_site, .inr (1, [.int a0_town_site_off, .int a0_town_site_year, .ref a0_town_site_heights, .ref a0_town_site_storeyKinds, .ref a0_town_site_storeyTilts])), (a0_town_site_heights, aI E 6 fa0_town_site_heights), (a0_town_site_storeyTilts, aI E 30 fa0_town_site_storeyTilts)] (some (.int z)) := by
  refine MR.of (by decide +kernel) (Nat.le_of_ble_eq_true rfl) ?_
  intro p e s m below meth c ls hX hK hP hl
  have hX : CX p s m [.ref a0].toArray meth c cX7_steps 3 (some .int) RX7 := hX
  have hx := hX.1; have hb := hX.2.1; have hts := hX.2.2.2.2.1; have hown := hX.2.2.2.2.2.1
  have hl : lv_has ls 3 [(0, .ref a0)] := hl
  have hsp : (Option.bind (lp_X7_steps_4 fa0_town_site_heights fa0_town_site_storeyTilts FU (0 : Int32) (0 : Int32)) fun z1 => some z1.1) = some z := hsp
  refine lv_iconst (v := (0 : Int32)) hx hb dX7_steps_0 (by decide) (W.pc 1 rfl ?_)
  refine lv_istore_n (lv' := [(1, .int (0 : Int32)), (0, .ref a0)]) hx hb dX7_steps_1 rfl hl (by decide) rfl (fun ls hl => W.pc 2 rfl ?_)
  refine lv_iconst (v := (0 : Int32)) hx hb dX7_steps_2 (by decide) (W.pc 3 rfl ?_)
  refine lv_istore_n (lv' := [(2, .int (0 : Int32)), (1, .int (0 : Int32)), (0, .ref a0)]) hx hb dX7_steps_3 rfl hl (by decide) rfl (fun ls hl => W.pc 4 rfl ?_)
  have L_4 : ∀ (z1 : Int32 × Int32), (∀ (ls : Array Slot), lv_has ls 3 [(1, .int z1.1)] → W p l e (wR 3) s m [.ref a0].toArray below meth c s.heap [] 0 0 (MQ below (QRd E (some (.int z))) [.ref a0].toArray s 0 0 (fun _ => False)) (F0 m 53 ls [])) → ∀ (fu : Nat) (x1_4 : Int32) (x2_4 : Int32), ∀ (ls : Array Slot), lv_has ls 3 [(0, .ref a0), (1, .int x1_4), (2, .int x2_4)] → lp_X7_steps_4 fa0_town_site_heights fa0_town_site_storeyTilts fu x1_4 x2_4 = some z1 → W p l e (wR 3) s m [.ref a0].toArray below meth c s.heap [] 0 0 (MQ below (QRd E (some (.int z))) [.ref a0].toArray s 0 0 (fun _ => False)) (F0 m 4 ls []) := by
    intro z1 hk_4 fu
    induction fu with
    | zero => intro x1_4 x2_4 ls hl hsp; exact absurd (show none = some _ from hsp) (by simp)
    | succ fu ih_4 =>
      intro x1_4 x2_4 ls hl hsp
      have hsp : (if (5 : Int32) ≤ x2_4 then (some (x1_4, x2_4)) else (lt_ (if (j_abs ((sp_X3_top x2_4 fa0_town_site_heights fa0_town_site_storeyTilts) - (sp_X3_top (x2_4 + (1 : Int32)) fa0_town_site_heights fa0_town_site_storeyTilts))) < (3 : Int32) then (x1_4) else ((x1_4 ||| ((1 : Int32) <<< (x2_4 &&& 31))))) fun z3 => lp_X7_steps_4 fa0_town_site_heights fa0_town_site_storeyTilts fu z3 (x2_4 + (1 : Int32)))) = some z1 := hsp
      refine lv_iload_n hx hb dX7_steps_4 rfl (lv_at hl 2 rfl) (W.pc 5 rfl ?_)
      refine lv_iconst (v := (5 : Int32)) hx hb dX7_steps_5 (by decide) (W.pc 6 rfl ?_)
      refine lv_icmp_ge (tgt := 53) hx hb dX7_steps_6 (by decide) (fun c2 => ?_) (fun c2 => W.pc 9 rfl ?_)
      · have hsp := ip hsp c2
        obtain rfl := Option.some.inj hsp
        exact hk_4 _ (lv_sub hl [1] rfl)
      · have hsp := iq hsp c2
        refine lv_aload_n hx hb dX7_steps_9 rfl (lv_at hl 0 rfl) (W.pc 10 rfl ?_)
        refine va_get (D := E.1) (ci := 4) (v := .ref a0_town) (C := RX7) (T := TX7) (N := 15) hx hb hts inT_X7 hown hK hP 0 rfl rfl 0 (by decide) (hts _ w_1_178) (fun _ h9 => h9) rfl dX7_steps_10 (W.pc 13 rfl ?_)
        refine va_get (D := E.1) (ci := 3) (v := .ref a0_town_site) (C := RX6) (T := TX6) (N := 11) hx hb hts inT_X6 hown hK hP 1 rfl rfl 2 (by decide) (hts _ w_1_68) (fun _ h9 => h9) rfl dX7_steps_13 (W.pc 16 rfl ?_)
        refine lv_iload_n hx hb dX7_steps_16 rfl (lv_at hl 2 rfl) (W.pc 17 rfl ?_)
        refine kVR (st1 := [.int (sp_X3_top x2_4 fa0_town_site_heights fa0_town_site_storeyTilts)]) hX (c_X3_top l E a0_town_site a0_town_site_heights a0_town_site_storeyKinds a0_town_site_storeyTilts x2_4 a0_town_site_off a0_town_site_year fa0_town_site_heights fa0_town_site_storeyTilts _ rfl) B_X3_top w_3_53 hK (hP.pick [2, 3, 4] rfl) (q0 := 0) (ci := 1) rfl rfl rfl rfl hl.1 rfl (Nat.le_of_ble_eq_true rfl) ⟨Nat.le_of_ble_eq_true rfl, Nat.le_of_ble_eq_true rfl⟩ dX7_steps_17 rfl (W.pc 20 rfl ?_)
        refine lv_aload_n hx hb dX7_steps_20 rfl (lv_at hl 0 rfl) (W.pc 21 rfl ?_)
        refine va_get (D := E.1) (ci := 4) (v := .ref a0_town) (C := RX7) (T := TX7) (N := 15) hx hb hts inT_X7 hown hK hP 0 rfl rfl 0 (by decide) (hts _ w_1_178) (fun _ h9 => h9) rfl dX7_steps_21 (W.pc 24 rfl ?_)
        refine va_get (D := E.1) (ci := 3) (v := .ref a0_town_site) (C := RX6) (T := TX6) (N := 11) hx hb hts inT_X6 hown hK hP 1 rfl rfl 2 (by decide) (hts _ w_1_68) (fun _ h9 => h9) rfl dX7_steps_24 (W.pc 27 rfl ?_)
        refine lv_iload_n hx hb dX7_steps_27 rfl (lv_at hl 2 rfl) (W.pc 28 rfl ?_)
        refine lv_iconst (v := (1 : Int32)) hx hb dX7_steps_28 (by decide) (W.pc 29 rfl ?_)
        refine lv_iadd hx hb dX7_steps_29 (W.pc 30 rfl ?_)
        refine kVR (st1 := [.int (sp_X3_top (x2_4 + (1 : Int32)) fa0_town_site_heights fa0_town_site_storeyTilts), .int (sp_X3_top x2_4 fa0_town_site_heights fa0_town_site_storeyTilts)]) hX (c_X3_top l E a0_town_site a0_town_site_heights a0_town_site_storeyKinds a0_town_site_storeyTilts (x2_4 + (1 : Int32)) a0_town_site_off a0_town_site_year fa0_town_site_heights fa0_town_site_storeyTilts _ rfl) B_X3_top w_3_53 hK (hP.pick [2, 3, 4] rfl) (q0 := 0) (ci := 1) rfl rfl rfl rfl hl.1 rfl (Nat.le_of_ble_eq_true rfl) ⟨Nat.le_of_ble_eq_true rfl, Nat.le_of_ble_eq_true rfl⟩ dX7_steps_30 rfl (W.pc 33 rfl ?_)
        refine lv_isub hx hb dX7_steps_33 (W.pc 34 rfl ?_)
        refine kAbs hX hl.1 w_3_74 w_2_180 w_1_13 w_2_181 ⟨Nat.le_of_ble_eq_true rfl, Nat.le_of_ble_eq_true rfl⟩ dX7_steps_34 (W.pc 37 rfl ?_)
        refine lv_iconst (v := (3 : Int32)) hx hb dX7_steps_37 (by decide) (W.pc 38 rfl ?_)
        obtain ⟨z3, hr_z3, hsp⟩ := ltb_s hsp
        have J4 : ∀ (ls : Array Slot), lv_has ls 3 [(0, .ref a0), (1, .int z3), (2, .int x2_4)] → W p l e (wR 3) s m [.ref a0].toArray below meth c s.heap [] 0 0 (MQ below (QRd E (some (.int z))) [.ref a0].toArray s 0 0 (fun _ => False)) (F0 m 47 ls []) := by
          intro ls hl
          refine lv_iinc (v := (x2_4 + (1 : Int32))) (lv' := [(2, .int (x2_4 + (1 : Int32))), (0, .ref a0), (1, .int z3)]) hx hb dX7_steps_47 hl (k := 2) rfl rfl (by decide) rfl (fun ls hl => W.pc 50 rfl ?_)
          refine lv_goto (tgt := 4) hx hb dX7_steps_50 (by decide) ?_
          exact ih_4 z3 (x2_4 + (1 : Int32)) _ (lv_sub hl [1, 2, 0] rfl) hsp
        replace hsp := hr_z3
        refine lv_icmp_lt (tgt := 47) hx hb dX7_steps_38 (by decide) (fun c5 => ?_) (fun c5 => W.pc 41 rfl ?_)
        · have hsp := ip hsp c5
          subst hsp
          exact J4 _ (lv_sub hl [0, 1, 2] rfl)
        · have hsp := iq hsp c5
          refine lv_iload_n hx hb dX7_steps_41 rfl (lv_at hl 1 rfl) (W.pc 42 rfl ?_)
          refine lv_iconst (v := (1 : Int32)) hx hb dX7_steps_42 (by decide) (W.pc 43 rfl ?_)
          refine lv_iload_n hx hb dX7_steps_43 rfl (lv_at hl 2 rfl) (W.pc 44 rfl ?_)
          refine lv_ishl hx hb dX7_steps_44 (W.pc 45 rfl ?_)
          refine lv_ior hx hb dX7_steps_45 (W.pc 46 rfl ?_)
          refine lv_istore_n (lv' := [(1, .int (x1_4 ||| ((1 : Int32) <<< (x2_4 &&& 31)))), (0, .ref a0), (2, .int x2_4)]) hx hb dX7_steps_46 rfl hl (by decide) rfl (fun ls hl => W.pc 47 rfl ?_)
          subst hsp
          exact J4 _ (lv_sub hl [1, 0, 2] rfl)
  obtain ⟨z1, hr_z1, hsp⟩ := bd_s hsp
  refine L_4 z1 (fun ls hl => ?_) FU (0 : Int32) (0 : Int32) _ (lv_sub hl [2, 1, 0] rfl) hr_z1
  refine lv_iload_n hx hb dX7_steps_53 rfl (lv_at hl 0 rfl) (W.pc 54 rfl ?_)
  obtain rfl := Option.some.inj hsp
  exact rRi hX rfl dX7_steps_54
noncomputable def lp_X7_yesVotes_4 (p1 : Int32) (a0_town_members : Int32) (fa0_town_views : Nat → Int32) : Nat → Int32 → Int32 → Option (Int32 × Int32)
 | 0, _, _ => none
 | fu + 1, x2_4, x3_4 => if a0_town_members ≤ x3_4 then (some (x2_4, x3_4)) else (lt_ (if ((sp_X2_at 5 x3_4 fa0_town_views) + p1) < (1 : Int32) then (x2_4) else ((x2_4 ||| ((1 : Int32) <<< (x3_4 &&& 31))))) fun z3 => lp_X7_yesVotes_4 p1 a0_town_members fa0_town_views fu z3 (x3_4 + (1 : Int32)))
noncomputable def sp_X7_yesVotes (p1 : Int32) (a0_town_members : Int32) (fa0_town_views : Nat → Int32) : Option (Int32) := Option.bind (lp_X7_yesVotes_4 p1 a0_town_members fa0_town_views FU (0 : Int32) (0 : Int32)) fun z1 => some z1.1
set_option maxHeartbeats 4000000 in
set_option maxRecDepth 100000 in
theorem c_X7_yesVotes (l : Launch) (E : wE) (a0 a0_town a0_draft a0_images a0_text a0_planner a0_trial a0_spread a0_spreadBehind a0_tally a0_town_pulls a0_town_site a0_town_past a0_town_views a0_town_notes a0_town_marks : Nat) (p1 : Int32) (a0_imagesKept : Int32) (a0_above : Int64) (a0_below : Int64) (a0_refusedAsBad : Int32) (a0_refusedAsNo : Int32) (a0_refusedAsFull : Int32) (a0_town_kind : Int32) (a0_town_pasts : Int32) (a0_town_members : Int32) (a0_town_noteCount : Int32) (a0_town_markCount : Int32) (fa0_town_views : Nat → Int32) (z : Int32) (hsp : sp_X7_yesVotes p1 a0_town_members fa0_town_views = some z) : MR l yX7_yesVotes cX7_yesVotes 4 (some .int) 1 E [.ref a0, .int p1] [(a0, .inr (4, [.ref a0_town, .ref a0_draft, .ref a0_images, .int a0_imagesKept, .ref a0_text, .ref a0_planner, .ref a0_trial, .ref a0_spread, .ref a0_spreadBehind, .ref a0_tally, .long a0_above, .long a0_below, .int a0_refusedAsBad, .int a0_refusedAsNo, .int a0_refusedAsFull])), (a0_town, .inr (3, [.int a0_town_kind, .ref a0_town_pulls, .ref a0_town_site, .ref a0_town_past, .int a0_town_pasts, .ref a0_town_views, .int a0_town_members, .ref a0_town_notes, .int a0_town_noteCount, .ref a0_town_marks, .int a0_town_markCount])), (a0_town_views, aI E 5 fa0_town_views)] (some (.int z)) := by
  refine MR.of (by decide +kernel) (Nat.le_of_ble_eq_true rfl) ?_
  intro p e s m below meth c ls hX hK hP hl
  have hX : CX p s m [.ref a0, .int p1].toArray meth c cX7_yesVotes 4 (some .int) RX7 := hX
  have hx := hX.1; have hb := hX.2.1; have hts := hX.2.2.2.2.1; have hown := hX.2.2.2.2.2.1
  have hl : lv_has ls 4 [(0, .ref a0), (1, .int p1)] := hl
  have hsp : (Option.bind (lp_X7_yesVotes_4 p1 a0_town_members fa0_town_views FU (0 : Int32) (0 : Int32)) fun z1 => some z1.1) = some z := hsp
  refine lv_iconst (v := (0 : Int32)) hx hb dX7_yesVotes_0 (by decide) (W.pc 1 rfl ?_)
  refine lv_istore_n (lv' := [(2, .int (0 : Int32)), (0, .ref a0), (1, .int p1)]) hx hb dX7_yesVotes_1 rfl hl (by decide) rfl (fun ls hl => W.pc 2 rfl ?_)
  refine lv_iconst (v := (0 : Int32)) hx hb dX7_yesVotes_2 (by decide) (W.pc 3 rfl ?_)
  refine lv_istore_n (lv' := [(3, .int (0 : Int32)), (2, .int (0 : Int32)), (0, .ref a0), (1, .int p1)]) hx hb dX7_yesVotes_3 rfl hl (by decide) rfl (fun ls hl => W.pc 4 rfl ?_)
  have L_4 : ∀ (z1 : Int32 × Int32), (∀ (ls : Array Slot), lv_has ls 4 [(2, .int z1.1)] → W p l e (wR 1) s m [.ref a0, .int p1].toArray below meth c s.heap [] 0 0 (MQ below (QRd E (some (.int z))) [.ref a0, .int p1].toArray s 0 0 (fun _ => False)) (F0 m 44 ls [])) → ∀ (fu : Nat) (x2_4 : Int32) (x3_4 : Int32), ∀ (ls : Array Slot), lv_has ls 4 [(0, .ref a0), (1, .int p1), (2, .int x2_4), (3, .int x3_4)] → lp_X7_yesVotes_4 p1 a0_town_members fa0_town_views fu x2_4 x3_4 = some z1 → W p l e (wR 1) s m [.ref a0, .int p1].toArray below meth c s.heap [] 0 0 (MQ below (QRd E (some (.int z))) [.ref a0, .int p1].toArray s 0 0 (fun _ => False)) (F0 m 4 ls []) := by
    intro z1 hk_4 fu
    induction fu with
    | zero => intro x2_4 x3_4 ls hl hsp; exact absurd (show none = some _ from hsp) (by simp)
    | succ fu ih_4 =>
      intro x2_4 x3_4 ls hl hsp
      have hsp : (if a0_town_members ≤ x3_4 then (some (x2_4, x3_4)) else (lt_ (if ((sp_X2_at 5 x3_4 fa0_town_views) + p1) < (1 : Int32) then (x2_4) else ((x2_4 ||| ((1 : Int32) <<< (x3_4 &&& 31))))) fun z3 => lp_X7_yesVotes_4 p1 a0_town_members fa0_town_views fu z3 (x3_4 + (1 : Int32)))) = some z1 := hsp
      refine lv_iload_n hx hb dX7_yesVotes_4 rfl (lv_at hl 3 rfl) (W.pc 5 rfl ?_)
      refine lv_aload_n hx hb dX7_yesVotes_5 rfl (lv_at hl 0 rfl) (W.pc 6 rfl ?_)
      refine va_get (D := E.1) (ci := 4) (v := .ref a0_town) (C := RX7) (T := TX7) (N := 15) hx hb hts inT_X7 hown hK hP 0 rfl rfl 0 (by decide) (hts _ w_1_178) (fun _ h9 => h9) rfl dX7_yesVotes_6 (W.pc 9 rfl ?_)
      refine va_get (D := E.1) (ci := 3) (v := .int a0_town_members) (C := RX6) (T := TX6) (N := 11) hx hb hts inT_X6 hown hK hP 1 rfl rfl 6 (by decide) (hts _ w_1_77) (fun _ h9 => h9) rfl dX7_yesVotes_9 (W.pc 12 rfl ?_)
      refine lv_icmp_ge (tgt := 44) hx hb dX7_yesVotes_12 (by decide) (fun c2 => ?_) (fun c2 => W.pc 15 rfl ?_)
      · have hsp := ip hsp c2
        obtain rfl := Option.some.inj hsp
        exact hk_4 _ (lv_sub hl [2] rfl)
      · have hsp := iq hsp c2
        refine lv_aload_n hx hb dX7_yesVotes_15 rfl (lv_at hl 0 rfl) (W.pc 16 rfl ?_)
        refine va_get (D := E.1) (ci := 4) (v := .ref a0_town) (C := RX7) (T := TX7) (N := 15) hx hb hts inT_X7 hown hK hP 0 rfl rfl 0 (by decide) (hts _ w_1_178) (fun _ h9 => h9) rfl dX7_yesVotes_16 (W.pc 19 rfl ?_)
        refine va_get (D := E.1) (ci := 3) (v := .ref a0_town_views) (C := RX6) (T := TX6) (N := 11) hx hb hts inT_X6 hown hK hP 1 rfl rfl 5 (by decide) (hts _ w_1_75) (fun _ h9 => h9) rfl dX7_yesVotes_19 (W.pc 22 rfl ?_)
        refine lv_iload_n hx hb dX7_yesVotes_22 rfl (lv_at hl 3 rfl) (W.pc 23 rfl ?_)
        refine kSR (st1 := [.int (sp_X2_at 5 x3_4 fa0_town_views)]) hX (c_X2_at l E a0_town_views 5 (by decide) x3_4 fa0_town_views _ rfl) B_X2_at w_2_28 hK (hP.pick [2] rfl) rfl hl.1 rfl (Nat.le_of_ble_eq_true rfl) ⟨Nat.le_of_ble_eq_true rfl, Nat.le_of_ble_eq_true rfl⟩ dX7_yesVotes_23 rfl (W.pc 26 rfl ?_)
        refine lv_iload_n hx hb dX7_yesVotes_26 rfl (lv_at hl 1 rfl) (W.pc 27 rfl ?_)
        refine lv_iadd hx hb dX7_yesVotes_27 (W.pc 28 rfl ?_)
        refine lv_iconst (v := (1 : Int32)) hx hb dX7_yesVotes_28 (by decide) (W.pc 29 rfl ?_)
        obtain ⟨z3, hr_z3, hsp⟩ := ltb_s hsp
        have J4 : ∀ (ls : Array Slot), lv_has ls 4 [(0, .ref a0), (1, .int p1), (2, .int z3), (3, .int x3_4)] → W p l e (wR 1) s m [.ref a0, .int p1].toArray below meth c s.heap [] 0 0 (MQ below (QRd E (some (.int z))) [.ref a0, .int p1].toArray s 0 0 (fun _ => False)) (F0 m 38 ls []) := by
          intro ls hl
          refine lv_iinc (v := (x3_4 + (1 : Int32))) (lv' := [(3, .int (x3_4 + (1 : Int32))), (0, .ref a0), (1, .int p1), (2, .int z3)]) hx hb dX7_yesVotes_38 hl (k := 3) rfl rfl (by decide) rfl (fun ls hl => W.pc 41 rfl ?_)
          refine lv_goto (tgt := 4) hx hb dX7_yesVotes_41 (by decide) ?_
          exact ih_4 z3 (x3_4 + (1 : Int32)) _ (lv_sub hl [1, 2, 3, 0] rfl) hsp
        replace hsp := hr_z3
        refine lv_icmp_lt (tgt := 38) hx hb dX7_yesVotes_29 (by decide) (fun c5 => ?_) (fun c5 => W.pc 32 rfl ?_)
        · have hsp := ip hsp c5
          subst hsp
          exact J4 _ (lv_sub hl [0, 1, 2, 3] rfl)
        · have hsp := iq hsp c5
          refine lv_iload_n hx hb dX7_yesVotes_32 rfl (lv_at hl 2 rfl) (W.pc 33 rfl ?_)
          refine lv_iconst (v := (1 : Int32)) hx hb dX7_yesVotes_33 (by decide) (W.pc 34 rfl ?_)
          refine lv_iload_n hx hb dX7_yesVotes_34 rfl (lv_at hl 3 rfl) (W.pc 35 rfl ?_)
          refine lv_ishl hx hb dX7_yesVotes_35 (W.pc 36 rfl ?_)
          refine lv_ior hx hb dX7_yesVotes_36 (W.pc 37 rfl ?_)
          refine lv_istore_n (lv' := [(2, .int (x2_4 ||| ((1 : Int32) <<< (x3_4 &&& 31)))), (0, .ref a0), (1, .int p1), (3, .int x3_4)]) hx hb dX7_yesVotes_37 rfl hl (by decide) rfl (fun ls hl => W.pc 38 rfl ?_)
          subst hsp
          exact J4 _ (lv_sub hl [1, 2, 0, 3] rfl)
  obtain ⟨z1, hr_z1, hsp⟩ := bd_s hsp
  refine L_4 z1 (fun ls hl => ?_) FU (0 : Int32) (0 : Int32) _ (lv_sub hl [2, 3, 1, 0] rfl) hr_z1
  refine lv_iload_n hx hb dX7_yesVotes_44 rfl (lv_at hl 0 rfl) (W.pc 45 rfl ?_)
  obtain rfl := Option.some.inj hsp
  exact rRi hX rfl dX7_yesVotes_45
def sp_X7_carries (p1 : Int32) (a0_town_members : Int32) : Int32 := if ((2 : Int32) * (sp_J6_bitCount_0f7a4 p1)) ≤ a0_town_members then ((0 : Int32)) else ((1 : Int32))
theorem bz_X7_carries {p1 : Int32} {a0_town_members : Int32} : narrow .boolean (.int (sp_X7_carries p1 a0_town_members)) = .int (sp_X7_carries p1 a0_town_members) := by
  unfold sp_X7_carries
  repeat' split
  all_goals first | rfl 
set_option maxHeartbeats 4000000 in
set_option maxRecDepth 100000 in
theorem c_X7_carries (l : Launch) (E : wE) (a0 a0_town a0_draft a0_images a0_text a0_planner a0_trial a0_spread a0_spreadBehind a0_tally a0_town_pulls a0_town_site a0_town_past a0_town_views a0_town_notes a0_town_marks : Nat) (p1 : Int32) (a0_imagesKept : Int32) (a0_above : Int64) (a0_below : Int64) (a0_refusedAsBad : Int32) (a0_refusedAsNo : Int32) (a0_refusedAsFull : Int32) (a0_town_kind : Int32) (a0_town_pasts : Int32) (a0_town_members : Int32) (a0_town_noteCount : Int32) (a0_town_markCount : Int32) (z : Int32) (hsp : sp_X7_carries p1 a0_town_members = z) : MR l yX7_carries cX7_carries 2 (some .boolean) 1 E [.ref a0, .int p1] [(a0, .inr (4, [.ref a0_town, .ref a0_draft, .ref a0_images, .int a0_imagesKept, .ref a0_text, .ref a0_planner, .ref a0_trial, .ref a0_spread, .ref a0_spreadBehind, .ref a0_tally, .long a0_above, .long a0_below, .int a0_refusedAsBad, .int a0_refusedAsNo, .int a0_refusedAsFull])), (a0_town, .inr (3, [.int a0_town_kind, .ref a0_town_pulls, .ref a0_town_site, .ref a0_town_past, .int a0_town_pasts, .ref a0_town_views, .int a0_town_members, .ref a0_town_notes, .int a0_town_noteCount, .ref a0_town_marks, .int a0_town_markCount]))] (some (.int z)) := by
  refine MR.of (by decide +kernel) (Nat.le_of_ble_eq_true rfl) ?_
  intro p e s m below meth c ls hX hK hP hl
  have hX : CX p s m [.ref a0, .int p1].toArray meth c cX7_carries 2 (some .boolean) RX7 := hX
  have hx := hX.1; have hb := hX.2.1; have hts := hX.2.2.2.2.1; have hown := hX.2.2.2.2.2.1
  have hl : lv_has ls 2 [(0, .ref a0), (1, .int p1)] := hl
  have hsp : (if ((2 : Int32) * (sp_J6_bitCount_0f7a4 p1)) ≤ a0_town_members then ((0 : Int32)) else ((1 : Int32))) = z := hsp
  refine lv_iconst (v := (2 : Int32)) hx hb dX7_carries_0 (by decide) (W.pc 1 rfl ?_)
  refine lv_iload_n hx hb dX7_carries_1 rfl (lv_at hl 1 rfl) (W.pc 2 rfl ?_)
  refine kSR (st1 := [.int (sp_J6_bitCount_0f7a4 p1), .int (2 : Int32)]) hX (c_J6_bitCount_0f7a4 l E p1 _ rfl) B_J6_bitCount_0f7a4 w_3_150 hK (hP.pick [] rfl) rfl hl.1 rfl (Nat.le_of_ble_eq_true rfl) ⟨Nat.le_of_ble_eq_true rfl, Nat.le_of_ble_eq_true rfl⟩ dX7_carries_2 rfl (W.pc 5 rfl ?_)
  refine lv_imul hx hb dX7_carries_5 (W.pc 6 rfl ?_)
  refine lv_aload_n hx hb dX7_carries_6 rfl (lv_at hl 0 rfl) (W.pc 7 rfl ?_)
  refine va_get (D := E.1) (ci := 4) (v := .ref a0_town) (C := RX7) (T := TX7) (N := 15) hx hb hts inT_X7 hown hK hP 0 rfl rfl 0 (by decide) (hts _ w_1_178) (fun _ h9 => h9) rfl dX7_carries_7 (W.pc 10 rfl ?_)
  refine va_get (D := E.1) (ci := 3) (v := .int a0_town_members) (C := RX6) (T := TX6) (N := 11) hx hb hts inT_X6 hown hK hP 1 rfl rfl 6 (by decide) (hts _ w_1_77) (fun _ h9 => h9) rfl dX7_carries_10 (W.pc 13 rfl ?_)
  refine lv_icmp_le (tgt := 20) hx hb dX7_carries_13 (by decide) (fun c1 => ?_) (fun c1 => W.pc 16 rfl ?_)
  · have hsp := ip hsp c1
    refine lv_iconst (v := (0 : Int32)) hx hb dX7_carries_20 (by decide) (W.pc 21 rfl ?_)
    subst hsp
    exact rRz hX rfl rfl dX7_carries_21
  · have hsp := iq hsp c1
    refine lv_iconst (v := (1 : Int32)) hx hb dX7_carries_16 (by decide) (W.pc 17 rfl ?_)
    refine lv_goto (tgt := 21) hx hb dX7_carries_17 (by decide) ?_
    subst hsp
    exact rRz hX rfl rfl dX7_carries_21
noncomputable def lp_X7_mostAlike_13 (p1 : Int32) (p2 : Int32) (p3 : Int32) (a0_town_site_off : Int32) : Nat → Int32 → Int32 → ((Nat → Int32)) → Option (Int32 × Int32 × (Nat → Int32))
 | 0, _, _, _ => none
 | fu + 1, x4_13, x5_13, ya0_tally_f_13 => if (6 : Int32) ≤ x5_13 then (some (x4_13, x5_13, ya0_tally_f_13)) else (lt_ (if (sp_X7_has p1 x5_13) = 0 then ((x4_13, ya0_tally_f_13)) else (lt_ (sp_X2_put 19 ((sp_X0_behind x5_13 p2 a0_town_site_off p3) + (9 : Int32)) ((sp_X2_at 19 ((sp_X0_behind x5_13 p2 a0_town_site_off p3) + (9 : Int32)) ya0_tally_f_13) + (1 : Int32)) ya0_tally_f_13) fun z7 => ((j_max x4_13 ((sp_X2_at 19 ((sp_X0_behind x5_13 p2 a0_town_site_off p3) + (9 : Int32)) ya0_tally_f_13) + (1 : Int32))), z7))) fun z4 => lp_X7_mostAlike_13 p1 p2 p3 a0_town_site_off fu z4.1 (x5_13 + (1 : Int32)) z4.2)
noncomputable def sp_X7_mostAlike (p1 : Int32) (p2 : Int32) (p3 : Int32) (fa0_tally : Nat → Int32) (a0_town_site_off : Int32) : Option (Int32 × (Nat → Int32)) := Option.bind (sp_X2_empty 19 fa0_tally) fun z1 => Option.bind (lp_X7_mostAlike_13 p1 p2 p3 a0_town_site_off FU (0 : Int32) (0 : Int32) z1) fun z2 => some (z2.1, z2.2.2)
set_option maxHeartbeats 4000000 in
set_option maxRecDepth 100000 in
theorem c_X7_mostAlike (l : Launch) (E : wE) (a0 a0_town a0_draft a0_images a0_text a0_planner a0_trial a0_spread a0_spreadBehind a0_tally a0_town_pulls a0_town_site a0_town_past a0_town_views a0_town_notes a0_town_marks a0_town_site_heights a0_town_site_storeyKinds a0_town_site_storeyTilts : Nat) (p1 : Int32) (p2 : Int32) (p3 : Int32) (a0_imagesKept : Int32) (a0_above : Int64) (a0_below : Int64) (a0_refusedAsBad : Int32) (a0_refusedAsNo : Int32) (a0_refusedAsFull : Int32) (fa0_tally : Nat → Int32) (a0_town_kind : Int32) (a0_town_pasts : Int32) (a0_town_members : Int32) (a0_town_noteCount : Int32) (a0_town_markCount : Int32) (a0_town_site_off : Int32) (a0_town_site_year : Int32) (z_0 : Int32) (z_1 : (Nat → Int32)) (hsp : sp_X7_mostAlike p1 p2 p3 fa0_tally a0_town_site_off = some (z_0, z_1)) : MW l yX7_mostAlike cX7_mostAlike 8 (some .int) 3 E [.ref a0, .int p1, .int p2, .int p3] [(a0, .inr (4, [.ref a0_town, .ref a0_draft, .ref a0_images, .int a0_imagesKept, .ref a0_text, .ref a0_planner, .ref a0_trial, .ref a0_spread, .ref a0_spreadBehind, .ref a0_tally, .long a0_above, .long a0_below, .int a0_refusedAsBad, .int a0_refusedAsNo, .int a0_refusedAsFull])), (a0_tally, aI E 19 fa0_tally), (a0_town, .inr (3, [.int a0_town_kind, .ref a0_town_pulls, .ref a0_town_site, .ref a0_town_past, .int a0_town_pasts, .ref a0_town_views, .int a0_town_members, .ref a0_town_notes, .int a0_town_noteCount, .ref a0_town_marks, .int a0_town_markCount])), (a0_town_site, .inr (1, [.int a0_town_site_off, .int a0_town_site_year, .ref a0_town_site_heights, .ref a0_town_site_storeyKinds, .ref a0_town_site_storeyTilts]))] (some (.int z_0)) [(a0, .inr (4, [.ref a0_town, .ref a0_draft, .ref a0_images, .int a0_imagesKept, .ref a0_text, .ref a0_planner, .ref a0_trial, .ref a0_spread, .ref a0_spreadBehind, .ref a0_tally, .long a0_above, .long a0_below, .int a0_refusedAsBad, .int a0_refusedAsNo, .int a0_refusedAsFull])), (a0_tally, aI E 19 z_1), (a0_town, .inr (3, [.int a0_town_kind, .ref a0_town_pulls, .ref a0_town_site, .ref a0_town_past, .int a0_town_pasts, .ref a0_town_views, .int a0_town_members, .ref a0_town_notes, .int a0_town_noteCount, .ref a0_town_marks, .int a0_town_markCount])), (a0_town_site, .inr (1, [.int a0_town_site_off, .int a0_town_site_year, .ref a0_town_site_heights, .ref a0_town_site_storeyKinds, .ref a0_town_site_storeyTilts]))] := by
  refine MW.of (by decide +kernel) (Nat.le_of_ble_eq_true rfl) ?_
  intro p e s m below meth c ls A hX hK hP hD hS hA hl
  have hX : CX p s m [.ref a0, .int p1, .int p2, .int p3].toArray meth c cX7_mostAlike 8 (some .int) RX7 := hX
  have hx := hX.1; have hb := hX.2.1; have hts := hX.2.2.2.2.1; have hown := hX.2.2.2.2.2.1
  have hl : lv_has ls 8 [(0, .ref a0), (1, .int p1), (2, .int p2), (3, .int p3)] := hl
  have hP : wP E [(a0, .inr (4, [.ref a0_town, .ref a0_draft, .ref a0_images, .int a0_imagesKept, .ref a0_text, .ref a0_planner, .ref a0_trial, .ref a0_spread, .ref a0_spreadBehind, .ref a0_tally, .long a0_above, .long a0_below, .int a0_refusedAsBad, .int a0_refusedAsNo, .int a0_refusedAsFull])), (a0_tally, aI E 19 fa0_tally), (a0_town, .inr (3, [.int a0_town_kind, .ref a0_town_pulls, .ref a0_town_site, .ref a0_town_past, .int a0_town_pasts, .ref a0_town_views, .int a0_town_members, .ref a0_town_notes, .int a0_town_noteCount, .ref a0_town_marks, .int a0_town_markCount])), (a0_town_site, .inr (1, [.int a0_town_site_off, .int a0_town_site_year, .ref a0_town_site_heights, .ref a0_town_site_storeyKinds, .ref a0_town_site_storeyTilts]))] s.heap := hP
  have hsp : (Option.bind (sp_X2_empty 19 fa0_tally) fun z1 => Option.bind (lp_X7_mostAlike_13 p1 p2 p3 a0_town_site_off FU (0 : Int32) (0 : Int32) z1) fun z2 => some (z2.1, z2.2.2)) = some (z_0, z_1) := hsp
  refine lv_aload_n hx hb dX7_mostAlike_0 rfl (lv_at hl 0 rfl) (W.pc 1 rfl ?_)
  refine va_get (D := E.1) (ci := 4) (v := .ref a0_tally) (C := RX7) (T := TX7) (N := 15) hx hb hts inT_X7 hown hK hP 0 rfl rfl 9 (by decide) (hts _ w_1_187) (fun _ h9 => h9) rfl dX7_mostAlike_1 (W.pc 4 rfl ?_)
  obtain ⟨z1, hr_z1, hsp⟩ := bd_s hsp
  refine kSW (st1 := []) (ws' := [(a0, .inr (4, [.ref a0_town, .ref a0_draft, .ref a0_images, .int a0_imagesKept, .ref a0_text, .ref a0_planner, .ref a0_trial, .ref a0_spread, .ref a0_spreadBehind, .ref a0_tally, .long a0_above, .long a0_below, .int a0_refusedAsBad, .int a0_refusedAsNo, .int a0_refusedAsFull])), (a0_tally, aI E 19 z1), (a0_town, .inr (3, [.int a0_town_kind, .ref a0_town_pulls, .ref a0_town_site, .ref a0_town_past, .int a0_town_pasts, .ref a0_town_views, .int a0_town_members, .ref a0_town_notes, .int a0_town_noteCount, .ref a0_town_marks, .int a0_town_markCount])), (a0_town_site, .inr (1, [.int a0_town_site_off, .int a0_town_site_year, .ref a0_town_site_heights, .ref a0_town_site_storeyKinds, .ref a0_town_site_storeyTilts]))]) [1] hX (c_X2_empty l E a0_tally 19 (by decide) fa0_tally z1 hr_z1) B_X2_empty w_3_197 hK hP hD hS hA (by decide) rfl rfl rfl rfl hl.1 rfl (Nat.le_of_ble_eq_true rfl) ⟨Nat.le_of_ble_eq_true rfl, Nat.le_of_ble_eq_true rfl⟩ dX7_mostAlike_4 rfl (fun H locs hP hD hS => W.pc 7 rfl ?_)
  refine lv_iconst (v := (0 : Int32)) hx hb dX7_mostAlike_7 (by decide) (W.pc 8 rfl ?_)
  refine lv_istore (lv' := [(4, .int (0 : Int32)), (0, .ref a0), (1, .int p1), (2, .int p2), (3, .int p3)]) hx hb dX7_mostAlike_8 hl (by decide) rfl (fun ls hl => W.pc 10 rfl ?_)
  refine lv_iconst (v := (0 : Int32)) hx hb dX7_mostAlike_10 (by decide) (W.pc 11 rfl ?_)
  refine lv_istore (lv' := [(5, .int (0 : Int32)), (4, .int (0 : Int32)), (0, .ref a0), (1, .int p1), (2, .int p2), (3, .int p3)]) hx hb dX7_mostAlike_11 hl (by decide) rfl (fun ls hl => W.pc 13 rfl ?_)
  have L_13 : ∀ (z2 : Int32 × Int32 × (Nat → Int32)), (∀ (H : Heap) (locs : List Loc) (ls : Array Slot), wP E [(a0, .inr (4, [.ref a0_town, .ref a0_draft, .ref a0_images, .int a0_imagesKept, .ref a0_text, .ref a0_planner, .ref a0_trial, .ref a0_spread, .ref a0_spreadBehind, .ref a0_tally, .long a0_above, .long a0_below, .int a0_refusedAsBad, .int a0_refusedAsNo, .int a0_refusedAsFull])), (a0_tally, aI E 19 z2.2.2), (a0_town, .inr (3, [.int a0_town_kind, .ref a0_town_pulls, .ref a0_town_site, .ref a0_town_past, .int a0_town_pasts, .ref a0_town_views, .int a0_town_members, .ref a0_town_notes, .int a0_town_noteCount, .ref a0_town_marks, .int a0_town_markCount])), (a0_town_site, .inr (1, [.int a0_town_site_off, .int a0_town_site_year, .ref a0_town_site_heights, .ref a0_town_site_storeyKinds, .ref a0_town_site_storeyTilts]))] H → va_D A [(a0, .inr (4, [.ref a0_town, .ref a0_draft, .ref a0_images, .int a0_imagesKept, .ref a0_text, .ref a0_planner, .ref a0_trial, .ref a0_spread, .ref a0_spreadBehind, .ref a0_tally, .long a0_above, .long a0_below, .int a0_refusedAsBad, .int a0_refusedAsNo, .int a0_refusedAsFull])), (a0_tally, aI E 19 z2.2.2), (a0_town, .inr (3, [.int a0_town_kind, .ref a0_town_pulls, .ref a0_town_site, .ref a0_town_past, .int a0_town_pasts, .ref a0_town_views, .int a0_town_members, .ref a0_town_notes, .int a0_town_noteCount, .ref a0_town_marks, .int a0_town_markCount])), (a0_town_site, .inr (1, [.int a0_town_site_off, .int a0_town_site_year, .ref a0_town_site_heights, .ref a0_town_site_storeyKinds, .ref a0_town_site_storeyTilts]))] → va_S A s.heap H locs → lv_has ls 8 [(4, .int z2.1)] → W p l e (wR 3) s m [.ref a0, .int p1, .int p2, .int p3].toArray below meth c H locs 0 0 (MQ below (QWd E A (some (.int z_0)) [(a0, .inr (4, [.ref a0_town, .ref a0_draft, .ref a0_images, .int a0_imagesKept, .ref a0_text, .ref a0_planner, .ref a0_trial, .ref a0_spread, .ref a0_spreadBehind, .ref a0_tally, .long a0_above, .long a0_below, .int a0_refusedAsBad, .int a0_refusedAsNo, .int a0_refusedAsFull])), (a0_tally, aI E 19 z_1), (a0_town, .inr (3, [.int a0_town_kind, .ref a0_town_pulls, .ref a0_town_site, .ref a0_town_past, .int a0_town_pasts, .ref a0_town_views, .int a0_town_members, .ref a0_town_notes, .int a0_town_noteCount, .ref a0_town_marks, .int a0_town_markCount])), (a0_town_site, .inr (1, [.int a0_town_site_off, .int a0_town_site_year, .ref a0_town_site_heights, .ref a0_town_site_storeyKinds, .ref a0_town_site_storeyTilts]))]) [.ref a0, .int p1, .int p2, .int p3].toArray s 0 0 A) (F0 m 90 ls [])) → ∀ (fu : Nat) (x4_13 : Int32) (x5_13 : Int32) (ya0_tally_f_13 : (Nat → Int32)), ∀ (H : Heap) (locs : List Loc) (ls : Array Slot), wP E [(a0, .inr (4, [.ref a0_town, .ref a0_draft, .ref a0_images, .int a0_imagesKept, .ref a0_text, .ref a0_planner, .ref a0_trial, .ref a0_spread, .ref a0_spreadBehind, .ref a0_tally, .long a0_above, .long a0_below, .int a0_refusedAsBad, .int a0_refusedAsNo, .int a0_refusedAsFull])), (a0_tally, aI E 19 ya0_tally_f_13), (a0_town, .inr (3, [.int a0_town_kind, .ref a0_town_pulls, .ref a0_town_site, .ref a0_town_past, .int a0_town_pasts, .ref a0_town_views, .int a0_town_members, .ref a0_town_notes, .int a0_town_noteCount, .ref a0_town_marks, .int a0_town_markCount])), (a0_town_site, .inr (1, [.int a0_town_site_off, .int a0_town_site_year, .ref a0_town_site_heights, .ref a0_town_site_storeyKinds, .ref a0_town_site_storeyTilts]))] H → va_D A [(a0, .inr (4, [.ref a0_town, .ref a0_draft, .ref a0_images, .int a0_imagesKept, .ref a0_text, .ref a0_planner, .ref a0_trial, .ref a0_spread, .ref a0_spreadBehind, .ref a0_tally, .long a0_above, .long a0_below, .int a0_refusedAsBad, .int a0_refusedAsNo, .int a0_refusedAsFull])), (a0_tally, aI E 19 ya0_tally_f_13), (a0_town, .inr (3, [.int a0_town_kind, .ref a0_town_pulls, .ref a0_town_site, .ref a0_town_past, .int a0_town_pasts, .ref a0_town_views, .int a0_town_members, .ref a0_town_notes, .int a0_town_noteCount, .ref a0_town_marks, .int a0_town_markCount])), (a0_town_site, .inr (1, [.int a0_town_site_off, .int a0_town_site_year, .ref a0_town_site_heights, .ref a0_town_site_storeyKinds, .ref a0_town_site_storeyTilts]))] → va_S A s.heap H locs → lv_has ls 8 [(0, .ref a0), (1, .int p1), (2, .int p2), (3, .int p3), (4, .int x4_13), (5, .int x5_13)] → lp_X7_mostAlike_13 p1 p2 p3 a0_town_site_off fu x4_13 x5_13 ya0_tally_f_13 = some z2 → W p l e (wR 3) s m [.ref a0, .int p1, .int p2, .int p3].toArray below meth c H locs 0 0 (MQ below (QWd E A (some (.int z_0)) [(a0, .inr (4, [.ref a0_town, .ref a0_draft, .ref a0_images, .int a0_imagesKept, .ref a0_text, .ref a0_planner, .ref a0_trial, .ref a0_spread, .ref a0_spreadBehind, .ref a0_tally, .long a0_above, .long a0_below, .int a0_refusedAsBad, .int a0_refusedAsNo, .int a0_refusedAsFull])), (a0_tally, aI E 19 z_1), (a0_town, .inr (3, [.int a0_town_kind, .ref a0_town_pulls, .ref a0_town_site, .ref a0_town_past, .int a0_town_pasts, .ref a0_town_views, .int a0_town_members, .ref a0_town_notes, .int a0_town_noteCount, .ref a0_town_marks, .int a0_town_markCount])), (a0_town_site, .inr (1, [.int a0_town_site_off, .int a0_town_site_year, .ref a0_town_site_heights, .ref a0_town_site_storeyKinds, .ref a0_town_site_storeyTilts]))]) [.ref a0, .int p1, .int p2, .int p3].toArray s 0 0 A) (F0 m 13 ls []) := by
    intro z2 hk_13 fu
    induction fu with
    | zero => intro x4_13 x5_13 ya0_tally_f_13 H locs ls hP hD hS hl hsp; exact absurd (show none = some _ from hsp) (by simp)
    | succ fu ih_13 =>
      intro x4_13 x5_13 ya0_tally_f_13 H locs ls hP hD hS hl hsp
      have hsp : (if (6 : Int32) ≤ x5_13 then (some (x4_13, x5_13, ya0_tally_f_13)) else (lt_ (if (sp_X7_has p1 x5_13) = 0 then ((x4_13, ya0_tally_f_13)) else (lt_ (sp_X2_put 19 ((sp_X0_behind x5_13 p2 a0_town_site_off p3) + (9 : Int32)) ((sp_X2_at 19 ((sp_X0_behind x5_13 p2 a0_town_site_off p3) + (9 : Int32)) ya0_tally_f_13) + (1 : Int32)) ya0_tally_f_13) fun z7 => ((j_max x4_13 ((sp_X2_at 19 ((sp_X0_behind x5_13 p2 a0_town_site_off p3) + (9 : Int32)) ya0_tally_f_13) + (1 : Int32))), z7))) fun z4 => lp_X7_mostAlike_13 p1 p2 p3 a0_town_site_off fu z4.1 (x5_13 + (1 : Int32)) z4.2)) = some z2 := hsp
      refine lv_iload hx hb dX7_mostAlike_13 (lv_at hl 5 rfl) (W.pc 15 rfl ?_)
      refine lv_bipush (v := (6 : Int32)) hx hb dX7_mostAlike_15 (by decide) (W.pc 17 rfl ?_)
      refine lv_icmp_ge (tgt := 90) hx hb dX7_mostAlike_17 (by decide) (fun c3 => ?_) (fun c3 => W.pc 20 rfl ?_)
      · have hsp := ip hsp c3
        obtain rfl := Option.some.inj hsp
        exact hk_13 _ _ _ hP hD hS (lv_sub hl [4] rfl)
      · have hsp := iq hsp c3
        refine lv_iload_n hx hb dX7_mostAlike_20 rfl (lv_at hl 1 rfl) (W.pc 21 rfl ?_)
        refine lv_iload hx hb dX7_mostAlike_21 (lv_at hl 5 rfl) (W.pc 23 rfl ?_)
        refine kSR (st1 := [.int (sp_X7_has p1 x5_13)]) hX (c_X7_has l E p1 x5_13 _ rfl) B_X7_has w_3_105 hK (hP.pick [] rfl) rfl hl.1 rfl (Nat.le_of_ble_eq_true rfl) ⟨Nat.le_of_ble_eq_true rfl, Nat.le_of_ble_eq_true rfl⟩ dX7_mostAlike_23 rfl (W.pc 26 rfl ?_)
        obtain ⟨z4, hr_z4, hsp⟩ := ltb_s hsp
        have J5 : ∀ (H : Heap) (locs : List Loc) (ls : Array Slot), wP E [(a0, .inr (4, [.ref a0_town, .ref a0_draft, .ref a0_images, .int a0_imagesKept, .ref a0_text, .ref a0_planner, .ref a0_trial, .ref a0_spread, .ref a0_spreadBehind, .ref a0_tally, .long a0_above, .long a0_below, .int a0_refusedAsBad, .int a0_refusedAsNo, .int a0_refusedAsFull])), (a0_tally, aI E 19 z4.2), (a0_town, .inr (3, [.int a0_town_kind, .ref a0_town_pulls, .ref a0_town_site, .ref a0_town_past, .int a0_town_pasts, .ref a0_town_views, .int a0_town_members, .ref a0_town_notes, .int a0_town_noteCount, .ref a0_town_marks, .int a0_town_markCount])), (a0_town_site, .inr (1, [.int a0_town_site_off, .int a0_town_site_year, .ref a0_town_site_heights, .ref a0_town_site_storeyKinds, .ref a0_town_site_storeyTilts]))] H → va_D A [(a0, .inr (4, [.ref a0_town, .ref a0_draft, .ref a0_images, .int a0_imagesKept, .ref a0_text, .ref a0_planner, .ref a0_trial, .ref a0_spread, .ref a0_spreadBehind, .ref a0_tally, .long a0_above, .long a0_below, .int a0_refusedAsBad, .int a0_refusedAsNo, .int a0_refusedAsFull])), (a0_tally, aI E 19 z4.2), (a0_town, .inr (3, [.int a0_town_kind, .ref a0_town_pulls, .ref a0_town_site, .ref a0_town_past, .int a0_town_pasts, .ref a0_town_views, .int a0_town_members, .ref a0_town_notes, .int a0_town_noteCount, .ref a0_town_marks, .int a0_town_markCount])), (a0_town_site, .inr (1, [.int a0_town_site_off, .int a0_town_site_year, .ref a0_town_site_heights, .ref a0_town_site_storeyKinds, .ref a0_town_site_storeyTilts]))] → va_S A s.heap H locs → lv_has ls 8 [(0, .ref a0), (1, .int p1), (2, .int p2), (3, .int p3), (4, .int z4.1), (5, .int x5_13)] → W p l e (wR 3) s m [.ref a0, .int p1, .int p2, .int p3].toArray below meth c H locs 0 0 (MQ below (QWd E A (some (.int z_0)) [(a0, .inr (4, [.ref a0_town, .ref a0_draft, .ref a0_images, .int a0_imagesKept, .ref a0_text, .ref a0_planner, .ref a0_trial, .ref a0_spread, .ref a0_spreadBehind, .ref a0_tally, .long a0_above, .long a0_below, .int a0_refusedAsBad, .int a0_refusedAsNo, .int a0_refusedAsFull])), (a0_tally, aI E 19 z_1), (a0_town, .inr (3, [.int a0_town_kind, .ref a0_town_pulls, .ref a0_town_site, .ref a0_town_past, .int a0_town_pasts, .ref a0_town_views, .int a0_town_members, .ref a0_town_notes, .int a0_town_noteCount, .ref a0_town_marks, .int a0_town_markCount])), (a0_town_site, .inr (1, [.int a0_town_site_off, .int a0_town_site_year, .ref a0_town_site_heights, .ref a0_town_site_storeyKinds, .ref a0_town_site_storeyTilts]))]) [.ref a0, .int p1, .int p2, .int p3].toArray s 0 0 A) (F0 m 84 ls []) := by
          intro H locs ls hP hD hS hl
          refine lv_iinc (v := (x5_13 + (1 : Int32))) (lv' := [(5, .int (x5_13 + (1 : Int32))), (0, .ref a0), (1, .int p1), (2, .int p2), (3, .int p3), (4, .int z4.1)]) hx hb dX7_mostAlike_84 hl (k := 5) rfl rfl (by decide) rfl (fun ls hl => W.pc 87 rfl ?_)
          refine lv_goto (tgt := 13) hx hb dX7_mostAlike_87 (by decide) ?_
          exact ih_13 z4.1 (x5_13 + (1 : Int32)) z4.2 _ _ _ hP hD hS (lv_sub hl [1, 2, 3, 4, 5, 0] rfl) hsp
        replace hsp := hr_z4
        refine lv_if_eq (tgt := 84) hx hb dX7_mostAlike_26 (by decide) (fun c6 => ?_) (fun c6 => W.pc 29 rfl ?_)
        · have hsp := ip hsp c6
          subst hsp
          exact J5 _ _ _ hP hD hS (lv_sub hl [0, 1, 2, 3, 4, 5] rfl)
        · have hsp := iq hsp c6
          refine lv_iload hx hb dX7_mostAlike_29 (lv_at hl 5 rfl) (W.pc 31 rfl ?_)
          refine lv_iload_n hx hb dX7_mostAlike_31 rfl (lv_at hl 2 rfl) (W.pc 32 rfl ?_)
          refine lv_aload_n hx hb dX7_mostAlike_32 rfl (lv_at hl 0 rfl) (W.pc 33 rfl ?_)
          refine va_get (D := E.1) (ci := 4) (v := .ref a0_town) (C := RX7) (T := TX7) (N := 15) hx hb hts inT_X7 hown hK hP 0 rfl rfl 0 (by decide) (hts _ w_1_178) (fun _ h9 => h9) rfl dX7_mostAlike_33 (W.pc 36 rfl ?_)
          refine va_get (D := E.1) (ci := 3) (v := .ref a0_town_site) (C := RX6) (T := TX6) (N := 11) hx hb hts inT_X6 hown hK hP 2 rfl rfl 2 (by decide) (hts _ w_1_68) (fun _ h9 => h9) rfl dX7_mostAlike_36 (W.pc 39 rfl ?_)
          refine va_get (D := E.1) (ci := 1) (v := .int a0_town_site_off) (C := RX3) (T := TX3) (N := 5) hx hb hts inT_X3 hown hK hP 3 rfl rfl 0 (by decide) (hts _ w_1_40) (fun _ h9 => h9) rfl dX7_mostAlike_39 (W.pc 42 rfl ?_)
          refine lv_iload_n hx hb dX7_mostAlike_42 rfl (lv_at hl 3 rfl) (W.pc 43 rfl ?_)
          refine kSR (st1 := [.int (sp_X0_behind x5_13 p2 a0_town_site_off p3)]) hX (c_X0_behind l E x5_13 p2 a0_town_site_off p3 _ rfl) B_X0_behind w_3_164 hK (hP.pick [] rfl) rfl hl.1 rfl (Nat.le_of_ble_eq_true rfl) ⟨Nat.le_of_ble_eq_true rfl, Nat.le_of_ble_eq_true rfl⟩ dX7_mostAlike_43 rfl (W.pc 46 rfl ?_)
          refine lv_bipush (v := (9 : Int32)) hx hb dX7_mostAlike_46 (by decide) (W.pc 48 rfl ?_)
          refine lv_iadd hx hb dX7_mostAlike_48 (W.pc 49 rfl ?_)
          refine lv_istore (lv' := [(6, .int ((sp_X0_behind x5_13 p2 a0_town_site_off p3) + (9 : Int32))), (0, .ref a0), (1, .int p1), (2, .int p2), (3, .int p3), (4, .int x4_13), (5, .int x5_13)]) hx hb dX7_mostAlike_49 hl (by decide) rfl (fun ls hl => W.pc 51 rfl ?_)
          refine lv_aload_n hx hb dX7_mostAlike_51 rfl (lv_at hl 1 rfl) (W.pc 52 rfl ?_)
          refine va_get (D := E.1) (ci := 4) (v := .ref a0_tally) (C := RX7) (T := TX7) (N := 15) hx hb hts inT_X7 hown hK hP 0 rfl rfl 9 (by decide) (hts _ w_1_187) (fun _ h9 => h9) rfl dX7_mostAlike_52 (W.pc 55 rfl ?_)
          refine lv_iload hx hb dX7_mostAlike_55 (lv_at hl 0 rfl) (W.pc 57 rfl ?_)
          refine kSR (st1 := [.int (sp_X2_at 19 ((sp_X0_behind x5_13 p2 a0_town_site_off p3) + (9 : Int32)) ya0_tally_f_13)]) hX (c_X2_at l E a0_tally 19 (by decide) ((sp_X0_behind x5_13 p2 a0_town_site_off p3) + (9 : Int32)) ya0_tally_f_13 _ rfl) B_X2_at w_2_28 hK (hP.pick [1] rfl) rfl hl.1 rfl (Nat.le_of_ble_eq_true rfl) ⟨Nat.le_of_ble_eq_true rfl, Nat.le_of_ble_eq_true rfl⟩ dX7_mostAlike_57 rfl (W.pc 60 rfl ?_)
          refine lv_iconst (v := (1 : Int32)) hx hb dX7_mostAlike_60 (by decide) (W.pc 61 rfl ?_)
          refine lv_iadd hx hb dX7_mostAlike_61 (W.pc 62 rfl ?_)
          refine lv_istore (lv' := [(7, .int ((sp_X2_at 19 ((sp_X0_behind x5_13 p2 a0_town_site_off p3) + (9 : Int32)) ya0_tally_f_13) + (1 : Int32))), (6, .int ((sp_X0_behind x5_13 p2 a0_town_site_off p3) + (9 : Int32))), (0, .ref a0), (1, .int p1), (2, .int p2), (3, .int p3), (4, .int x4_13), (5, .int x5_13)]) hx hb dX7_mostAlike_62 hl (by decide) rfl (fun ls hl => W.pc 64 rfl ?_)
          refine lv_aload_n hx hb dX7_mostAlike_64 rfl (lv_at hl 2 rfl) (W.pc 65 rfl ?_)
          refine va_get (D := E.1) (ci := 4) (v := .ref a0_tally) (C := RX7) (T := TX7) (N := 15) hx hb hts inT_X7 hown hK hP 0 rfl rfl 9 (by decide) (hts _ w_1_187) (fun _ h9 => h9) rfl dX7_mostAlike_65 (W.pc 68 rfl ?_)
          refine lv_iload hx hb dX7_mostAlike_68 (lv_at hl 1 rfl) (W.pc 70 rfl ?_)
          refine lv_iload hx hb dX7_mostAlike_70 (lv_at hl 0 rfl) (W.pc 72 rfl ?_)
          obtain ⟨z7, hr_z7, hsp⟩ := ltb_s hsp
          refine kSW (st1 := []) (ws' := [(a0, .inr (4, [.ref a0_town, .ref a0_draft, .ref a0_images, .int a0_imagesKept, .ref a0_text, .ref a0_planner, .ref a0_trial, .ref a0_spread, .ref a0_spreadBehind, .ref a0_tally, .long a0_above, .long a0_below, .int a0_refusedAsBad, .int a0_refusedAsNo, .int a0_refusedAsFull])), (a0_tally, aI E 19 z7), (a0_town, .inr (3, [.int a0_town_kind, .ref a0_town_pulls, .ref a0_town_site, .ref a0_town_past, .int a0_town_pasts, .ref a0_town_views, .int a0_town_members, .ref a0_town_notes, .int a0_town_noteCount, .ref a0_town_marks, .int a0_town_markCount])), (a0_town_site, .inr (1, [.int a0_town_site_off, .int a0_town_site_year, .ref a0_town_site_heights, .ref a0_town_site_storeyKinds, .ref a0_town_site_storeyTilts]))]) [1] hX (c_X2_put l E a0_tally 19 (by decide) ((sp_X0_behind x5_13 p2 a0_town_site_off p3) + (9 : Int32)) ((sp_X2_at 19 ((sp_X0_behind x5_13 p2 a0_town_site_off p3) + (9 : Int32)) ya0_tally_f_13) + (1 : Int32)) ya0_tally_f_13 z7 hr_z7) B_X2_put w_2_29 hK hP hD hS hA (by decide) rfl rfl rfl rfl hl.1 rfl (Nat.le_of_ble_eq_true rfl) ⟨Nat.le_of_ble_eq_true rfl, Nat.le_of_ble_eq_true rfl⟩ dX7_mostAlike_72 rfl (fun H locs hP hD hS => W.pc 75 rfl ?_)
          refine lv_iload hx hb dX7_mostAlike_75 (lv_at hl 6 rfl) (W.pc 77 rfl ?_)
          refine lv_iload hx hb dX7_mostAlike_77 (lv_at hl 0 rfl) (W.pc 79 rfl ?_)
          refine kMax hX hl.1 w_3_104 w_2_207 w_1_13 w_2_208 ⟨Nat.le_of_ble_eq_true rfl, Nat.le_of_ble_eq_true rfl⟩ dX7_mostAlike_79 (W.pc 82 rfl ?_)
          refine lv_istore (lv' := [(4, .int (j_max x4_13 ((sp_X2_at 19 ((sp_X0_behind x5_13 p2 a0_town_site_off p3) + (9 : Int32)) ya0_tally_f_13) + (1 : Int32)))), (7, .int ((sp_X2_at 19 ((sp_X0_behind x5_13 p2 a0_town_site_off p3) + (9 : Int32)) ya0_tally_f_13) + (1 : Int32))), (6, .int ((sp_X0_behind x5_13 p2 a0_town_site_off p3) + (9 : Int32))), (0, .ref a0), (1, .int p1), (2, .int p2), (3, .int p3), (5, .int x5_13)]) hx hb dX7_mostAlike_82 hl (by decide) rfl (fun ls hl => W.pc 84 rfl ?_)
          subst hsp
          exact J5 _ _ _ hP hD hS (lv_sub hl [3, 4, 5, 6, 0, 7] rfl)
  obtain ⟨z2, hr_z2, hsp⟩ := bd_s hsp
  refine L_13 z2 (fun H locs ls hP hD hS hl => ?_) FU (0 : Int32) (0 : Int32) z1 _ _ _ hP hD hS (lv_sub hl [2, 3, 4, 5, 1, 0] rfl) hr_z2
  refine lv_iload hx hb dX7_mostAlike_90 (lv_at hl 0 rfl) (W.pc 92 rfl ?_)
  cases hsp
  exact rWi hX hP hS rfl rfl dX7_mostAlike_92
noncomputable def lp_X7_greaterPart_5 (p0 : Int32) (p1 : Int32) (p2 : Int32) : Nat → Int32 → Int32 → Option (Int32 × Int32)
 | 0, _, _ => none
 | fu + 1, x3_5, x4_5 => if (6 : Int32) ≤ x4_5 then (some (x3_5, x4_5)) else (lt_ (if (sp_X7_has p0 x4_5) = 0 then (x3_5) else (if (sp_X4_stands x4_5 p1 (0 : Int32) p2) = 0 then (x3_5) else ((x3_5 + (1 : Int32))))) fun z3 => lp_X7_greaterPart_5 p0 p1 p2 fu z3 (x4_5 + (1 : Int32)))
noncomputable def sp_X7_greaterPart (p0 : Int32) (p1 : Int32) (p2 : Int32) : Option (Int32) := Option.bind (lp_X7_greaterPart_5 p0 p1 p2 FU (0 : Int32) (0 : Int32)) fun z1 => some (j_max z1.1 ((sp_J6_bitCount_0f7a4 p0) - z1.1))
set_option maxHeartbeats 4000000 in
set_option maxRecDepth 100000 in
theorem c_X7_greaterPart (l : Launch) (E : wE) (p0 : Int32) (p1 : Int32) (p2 : Int32) (z : Int32) (hsp : sp_X7_greaterPart p0 p1 p2 = some z) : MR l yX7_greaterPart cX7_greaterPart 5 (some .int) 2 E [.int p0, .int p1, .int p2] [] (some (.int z)) := by
  refine MR.of (by decide +kernel) (Nat.le_of_ble_eq_true rfl) ?_
  intro p e s m below meth c ls hX hK hP hl
  have hX : CX p s m [.int p0, .int p1, .int p2].toArray meth c cX7_greaterPart 5 (some .int) RX7 := hX
  have hx := hX.1; have hb := hX.2.1; have hts := hX.2.2.2.2.1; have hown := hX.2.2.2.2.2.1
  have hl : lv_has ls 5 [(0, .int p0), (1, .int p1), (2, .int p2)] := hl
  have hsp : (Option.bind (lp_X7_greaterPart_5 p0 p1 p2 FU (0 : Int32) (0 : Int32)) fun z1 => some (j_max z1.1 ((sp_J6_bitCount_0f7a4 p0) - z1.1))) = some z := hsp
  refine lv_iconst (v := (0 : Int32)) hx hb dX7_greaterPart_0 (by decide) (W.pc 1 rfl ?_)
  refine lv_istore_n (lv' := [(3, .int (0 : Int32)), (0, .int p0), (1, .int p1), (2, .int p2)]) hx hb dX7_greaterPart_1 rfl hl (by decide) rfl (fun ls hl => W.pc 2 rfl ?_)
  refine lv_iconst (v := (0 : Int32)) hx hb dX7_greaterPart_2 (by decide) (W.pc 3 rfl ?_)
  refine lv_istore (lv' := [(4, .int (0 : Int32)), (3, .int (0 : Int32)), (0, .int p0), (1, .int p1), (2, .int p2)]) hx hb dX7_greaterPart_3 hl (by decide) rfl (fun ls hl => W.pc 5 rfl ?_)
  have L_5 : ∀ (z1 : Int32 × Int32), (∀ (ls : Array Slot), lv_has ls 5 [(0, .int p0), (3, .int z1.1)] → W p l e (wR 2) s m [.int p0, .int p1, .int p2].toArray below meth c s.heap [] 0 0 (MQ below (QRd E (some (.int z))) [.int p0, .int p1, .int p2].toArray s 0 0 (fun _ => False)) (F0 m 41 ls [])) → ∀ (fu : Nat) (x3_5 : Int32) (x4_5 : Int32), ∀ (ls : Array Slot), lv_has ls 5 [(0, .int p0), (1, .int p1), (2, .int p2), (3, .int x3_5), (4, .int x4_5)] → lp_X7_greaterPart_5 p0 p1 p2 fu x3_5 x4_5 = some z1 → W p l e (wR 2) s m [.int p0, .int p1, .int p2].toArray below meth c s.heap [] 0 0 (MQ below (QRd E (some (.int z))) [.int p0, .int p1, .int p2].toArray s 0 0 (fun _ => False)) (F0 m 5 ls []) := by
    intro z1 hk_5 fu
    induction fu with
    | zero => intro x3_5 x4_5 ls hl hsp; exact absurd (show none = some _ from hsp) (by simp)
    | succ fu ih_5 =>
      intro x3_5 x4_5 ls hl hsp
      have hsp : (if (6 : Int32) ≤ x4_5 then (some (x3_5, x4_5)) else (lt_ (if (sp_X7_has p0 x4_5) = 0 then (x3_5) else (if (sp_X4_stands x4_5 p1 (0 : Int32) p2) = 0 then (x3_5) else ((x3_5 + (1 : Int32))))) fun z3 => lp_X7_greaterPart_5 p0 p1 p2 fu z3 (x4_5 + (1 : Int32)))) = some z1 := hsp
      refine lv_iload hx hb dX7_greaterPart_5 (lv_at hl 4 rfl) (W.pc 7 rfl ?_)
      refine lv_bipush (v := (6 : Int32)) hx hb dX7_greaterPart_7 (by decide) (W.pc 9 rfl ?_)
      refine lv_icmp_ge (tgt := 41) hx hb dX7_greaterPart_9 (by decide) (fun c2 => ?_) (fun c2 => W.pc 12 rfl ?_)
      · have hsp := ip hsp c2
        obtain rfl := Option.some.inj hsp
        exact hk_5 _ (lv_sub hl [0, 3] rfl)
      · have hsp := iq hsp c2
        refine lv_iload_n hx hb dX7_greaterPart_12 rfl (lv_at hl 0 rfl) (W.pc 13 rfl ?_)
        refine lv_iload hx hb dX7_greaterPart_13 (lv_at hl 4 rfl) (W.pc 15 rfl ?_)
        refine kSR (st1 := [.int (sp_X7_has p0 x4_5)]) hX (c_X7_has l E p0 x4_5 _ rfl) B_X7_has w_3_105 hK (hP.pick [] rfl) rfl hl.1 rfl (Nat.le_of_ble_eq_true rfl) ⟨Nat.le_of_ble_eq_true rfl, Nat.le_of_ble_eq_true rfl⟩ dX7_greaterPart_15 rfl (W.pc 18 rfl ?_)
        obtain ⟨z3, hr_z3, hsp⟩ := ltb_s hsp
        have J4 : ∀ (ls : Array Slot), lv_has ls 5 [(0, .int p0), (1, .int p1), (2, .int p2), (3, .int z3), (4, .int x4_5)] → W p l e (wR 2) s m [.int p0, .int p1, .int p2].toArray below meth c s.heap [] 0 0 (MQ below (QRd E (some (.int z))) [.int p0, .int p1, .int p2].toArray s 0 0 (fun _ => False)) (F0 m 35 ls []) := by
          intro ls hl
          refine lv_iinc (v := (x4_5 + (1 : Int32))) (lv' := [(4, .int (x4_5 + (1 : Int32))), (0, .int p0), (1, .int p1), (2, .int p2), (3, .int z3)]) hx hb dX7_greaterPart_35 hl (k := 4) rfl rfl (by decide) rfl (fun ls hl => W.pc 38 rfl ?_)
          refine lv_goto (tgt := 5) hx hb dX7_greaterPart_38 (by decide) ?_
          exact ih_5 z3 (x4_5 + (1 : Int32)) _ (lv_sub hl [1, 2, 3, 4, 0] rfl) hsp
        replace hsp := hr_z3
        refine lv_if_eq (tgt := 35) hx hb dX7_greaterPart_18 (by decide) (fun c5 => ?_) (fun c5 => W.pc 21 rfl ?_)
        · have hsp := ip hsp c5
          subst hsp
          exact J4 _ (lv_sub hl [0, 1, 2, 3, 4] rfl)
        · have hsp := iq hsp c5
          refine lv_iload hx hb dX7_greaterPart_21 (lv_at hl 4 rfl) (W.pc 23 rfl ?_)
          refine lv_iload_n hx hb dX7_greaterPart_23 rfl (lv_at hl 1 rfl) (W.pc 24 rfl ?_)
          refine lv_iconst (v := (0 : Int32)) hx hb dX7_greaterPart_24 (by decide) (W.pc 25 rfl ?_)
          refine lv_iload_n hx hb dX7_greaterPart_25 rfl (lv_at hl 2 rfl) (W.pc 26 rfl ?_)
          refine kSR (st1 := [.int (sp_X4_stands x4_5 p1 (0 : Int32) p2)]) hX (c_X4_stands l E x4_5 p1 (0 : Int32) p2 _ rfl) B_X4_stands w_3_215 hK (hP.pick [] rfl) rfl hl.1 rfl (Nat.le_of_ble_eq_true rfl) ⟨Nat.le_of_ble_eq_true rfl, Nat.le_of_ble_eq_true rfl⟩ dX7_greaterPart_26 rfl (W.pc 29 rfl ?_)
          refine lv_if_eq (tgt := 35) hx hb dX7_greaterPart_29 (by decide) (fun c6 => ?_) (fun c6 => W.pc 32 rfl ?_)
          · have hsp := ip hsp c6
            subst hsp
            exact J4 _ (lv_sub hl [0, 1, 2, 3, 4] rfl)
          · have hsp := iq hsp c6
            refine lv_iinc (v := (x3_5 + (1 : Int32))) (lv' := [(3, .int (x3_5 + (1 : Int32))), (0, .int p0), (1, .int p1), (2, .int p2), (4, .int x4_5)]) hx hb dX7_greaterPart_32 hl (k := 3) rfl rfl (by decide) rfl (fun ls hl => W.pc 35 rfl ?_)
            subst hsp
            exact J4 _ (lv_sub hl [1, 2, 3, 0, 4] rfl)
  obtain ⟨z1, hr_z1, hsp⟩ := bd_s hsp
  refine L_5 z1 (fun ls hl => ?_) FU (0 : Int32) (0 : Int32) _ (lv_sub hl [2, 3, 4, 1, 0] rfl) hr_z1
  refine lv_iload_n hx hb dX7_greaterPart_41 rfl (lv_at hl 1 rfl) (W.pc 42 rfl ?_)
  refine lv_iload_n hx hb dX7_greaterPart_42 rfl (lv_at hl 0 rfl) (W.pc 43 rfl ?_)
  refine kSR (st1 := [.int (sp_J6_bitCount_0f7a4 p0), .int z1.1]) hX (c_J6_bitCount_0f7a4 l E p0 _ rfl) B_J6_bitCount_0f7a4 w_3_150 hK (hP.pick [] rfl) rfl hl.1 rfl (Nat.le_of_ble_eq_true rfl) ⟨Nat.le_of_ble_eq_true rfl, Nat.le_of_ble_eq_true rfl⟩ dX7_greaterPart_43 rfl (W.pc 46 rfl ?_)
  refine lv_iload_n hx hb dX7_greaterPart_46 rfl (lv_at hl 1 rfl) (W.pc 47 rfl ?_)
  refine lv_isub hx hb dX7_greaterPart_47 (W.pc 48 rfl ?_)
  refine kMax hX hl.1 w_3_104 w_2_207 w_1_13 w_2_208 ⟨Nat.le_of_ble_eq_true rfl, Nat.le_of_ble_eq_true rfl⟩ dX7_greaterPart_48 (W.pc 51 rfl ?_)
  obtain rfl := Option.some.inj hsp
  exact rRi hX rfl dX7_greaterPart_51
def sp_X7_farOffBehind (p1 : Int32) (a0_town_kind : Int32) (a0_town_site_off : Int32) (a0_town_site_year : Int32) (fa0_town_pulls : Nat → Int32) : Int32 := if (sp_X7_has p1 (1 : Int32)) = 0 then (lt_ (if (sp_X7_has p1 (0 : Int32)) = 0 then ((0 : Int32)) else ((sp_X6_pullOf a0_town_site_year fa0_town_pulls))) fun z2 => (j_abs (sp_X0_behind a0_town_kind a0_town_site_year a0_town_site_off z2))) else ((j_abs a0_town_site_off))
set_option maxHeartbeats 4000000 in
set_option maxRecDepth 100000 in
theorem c_X7_farOffBehind (l : Launch) (E : wE) (a0 a0_town a0_draft a0_images a0_text a0_planner a0_trial a0_spread a0_spreadBehind a0_tally a0_town_pulls a0_town_site a0_town_past a0_town_views a0_town_notes a0_town_marks a0_town_site_heights a0_town_site_storeyKinds a0_town_site_storeyTilts : Nat) (p1 : Int32) (a0_imagesKept : Int32) (a0_above : Int64) (a0_below : Int64) (a0_refusedAsBad : Int32) (a0_refusedAsNo : Int32) (a0_refusedAsFull : Int32) (a0_town_kind : Int32) (a0_town_pasts : Int32) (a0_town_members : Int32) (a0_town_noteCount : Int32) (a0_town_markCount : Int32) (a0_town_site_off : Int32) (a0_town_site_year : Int32) (fa0_town_pulls : Nat → Int32) (z : Int32) (hsp : sp_X7_farOffBehind p1 a0_town_kind a0_town_site_off a0_town_site_year fa0_town_pulls = z) : MR l yX7_farOffBehind cX7_farOffBehind 4 (some .int) 3 E [.ref a0, .int p1] [(a0, .inr (4, [.ref a0_town, .ref a0_draft, .ref a0_images, .int a0_imagesKept, .ref a0_text, .ref a0_planner, .ref a0_trial, .ref a0_spread, .ref a0_spreadBehind, .ref a0_tally, .long a0_above, .long a0_below, .int a0_refusedAsBad, .int a0_refusedAsNo, .int a0_refusedAsFull])), (a0_town, .inr (3, [.int a0_town_kind, .ref a0_town_pulls, .ref a0_town_site, .ref a0_town_past, .int a0_town_pasts, .ref a0_town_views, .int a0_town_members, .ref a0_town_notes, .int a0_town_noteCount, .ref a0_town_marks, .int a0_town_markCount])), (a0_town_site, .inr (1, [.int a0_town_site_off, .int a0_town_site_year, .ref a0_town_site_heights, .ref a0_town_site_storeyKinds, .ref a0_town_site_storeyTilts])), (a0_town_pulls, aI E 6 fa0_town_pulls)] (some (.int z)) := by
  refine MR.of (by decide +kernel) (Nat.le_of_ble_eq_true rfl) ?_
  intro p e s m below meth c ls hX hK hP hl
  have hX : CX p s m [.ref a0, .int p1].toArray meth c cX7_farOffBehind 4 (some .int) RX7 := hX
  have hx := hX.1; have hb := hX.2.1; have hts := hX.2.2.2.2.1; have hown := hX.2.2.2.2.2.1
  have hl : lv_has ls 4 [(0, .ref a0), (1, .int p1)] := hl
  have hsp : (if (sp_X7_has p1 (1 : Int32)) = 0 then (lt_ (if (sp_X7_has p1 (0 : Int32)) = 0 then ((0 : Int32)) else ((sp_X6_pullOf a0_town_site_year fa0_town_pulls))) fun z2 => (j_abs (sp_X0_behind a0_town_kind a0_town_site_year a0_town_site_off z2))) else ((j_abs a0_town_site_off))) = z := hsp
  refine lv_aload_n hx hb dX7_farOffBehind_0 rfl (lv_at hl 0 rfl) (W.pc 1 rfl ?_)
  refine va_get (D := E.1) (ci := 4) (v := .ref a0_town) (C := RX7) (T := TX7) (N := 15) hx hb hts inT_X7 hown hK hP 0 rfl rfl 0 (by decide) (hts _ w_1_178) (fun _ h9 => h9) rfl dX7_farOffBehind_1 (W.pc 4 rfl ?_)
  refine va_get (D := E.1) (ci := 3) (v := .ref a0_town_site) (C := RX6) (T := TX6) (N := 11) hx hb hts inT_X6 hown hK hP 1 rfl rfl 2 (by decide) (hts _ w_1_68) (fun _ h9 => h9) rfl dX7_farOffBehind_4 (W.pc 7 rfl ?_)
  refine lv_astore_n (lv' := [(2, .ref a0_town_site), (0, .ref a0), (1, .int p1)]) hx hb dX7_farOffBehind_7 rfl hl (by decide) rfl (fun ls hl => W.pc 8 rfl ?_)
  refine lv_iload_n hx hb dX7_farOffBehind_8 rfl (lv_at hl 2 rfl) (W.pc 9 rfl ?_)
  refine lv_iconst (v := (1 : Int32)) hx hb dX7_farOffBehind_9 (by decide) (W.pc 10 rfl ?_)
  refine kSR (st1 := [.int (sp_X7_has p1 (1 : Int32))]) hX (c_X7_has l E p1 (1 : Int32) _ rfl) B_X7_has w_3_105 hK (hP.pick [] rfl) rfl hl.1 rfl (Nat.le_of_ble_eq_true rfl) ⟨Nat.le_of_ble_eq_true rfl, Nat.le_of_ble_eq_true rfl⟩ dX7_farOffBehind_10 rfl (W.pc 13 rfl ?_)
  refine lv_if_eq (tgt := 24) hx hb dX7_farOffBehind_13 (by decide) (fun c1 => ?_) (fun c1 => W.pc 16 rfl ?_)
  · have hsp := ip hsp c1
    refine lv_iload_n hx hb dX7_farOffBehind_24 rfl (lv_at hl 2 rfl) (W.pc 25 rfl ?_)
    refine lv_iconst (v := (0 : Int32)) hx hb dX7_farOffBehind_25 (by decide) (W.pc 26 rfl ?_)
    refine kSR (st1 := [.int (sp_X7_has p1 (0 : Int32))]) hX (c_X7_has l E p1 (0 : Int32) _ rfl) B_X7_has w_3_105 hK (hP.pick [] rfl) rfl hl.1 rfl (Nat.le_of_ble_eq_true rfl) ⟨Nat.le_of_ble_eq_true rfl, Nat.le_of_ble_eq_true rfl⟩ dX7_farOffBehind_26 rfl (W.pc 29 rfl ?_)
    obtain ⟨z2, hr_z2, hsp⟩ := ltb_s hsp
    have J3 : ∀ (ls : Array Slot), lv_has ls 4 [(0, .ref a0), (2, .ref a0_town_site)] → W p l e (wR 3) s m [.ref a0, .int p1].toArray below meth c s.heap [] 0 0 (MQ below (QRd E (some (.int z))) [.ref a0, .int p1].toArray s 0 0 (fun _ => False)) (F0 m 47 ls [.int z2]) := by
      intro ls hl
      refine lv_istore_n (lv' := [(3, .int z2), (0, .ref a0), (2, .ref a0_town_site)]) hx hb dX7_farOffBehind_47 rfl hl (by decide) rfl (fun ls hl => W.pc 48 rfl ?_)
      refine lv_aload_n hx hb dX7_farOffBehind_48 rfl (lv_at hl 1 rfl) (W.pc 49 rfl ?_)
      refine va_get (D := E.1) (ci := 4) (v := .ref a0_town) (C := RX7) (T := TX7) (N := 15) hx hb hts inT_X7 hown hK hP 0 rfl rfl 0 (by decide) (hts _ w_1_178) (fun _ h9 => h9) rfl dX7_farOffBehind_49 (W.pc 52 rfl ?_)
      refine va_get (D := E.1) (ci := 3) (v := .int a0_town_kind) (C := RX6) (T := TX6) (N := 11) hx hb hts inT_X6 hown hK hP 1 rfl rfl 0 (by decide) (hts _ w_1_63) (fun _ h9 => h9) rfl dX7_farOffBehind_52 (W.pc 55 rfl ?_)
      refine lv_aload_n hx hb dX7_farOffBehind_55 rfl (lv_at hl 2 rfl) (W.pc 56 rfl ?_)
      refine va_get (D := E.1) (ci := 1) (v := .int a0_town_site_year) (C := RX3) (T := TX3) (N := 5) hx hb hts inT_X3 hown hK hP 2 rfl rfl 1 (by decide) (hts _ w_1_45) (fun _ h9 => h9) rfl dX7_farOffBehind_56 (W.pc 59 rfl ?_)
      refine lv_aload_n hx hb dX7_farOffBehind_59 rfl (lv_at hl 2 rfl) (W.pc 60 rfl ?_)
      refine va_get (D := E.1) (ci := 1) (v := .int a0_town_site_off) (C := RX3) (T := TX3) (N := 5) hx hb hts inT_X3 hown hK hP 2 rfl rfl 0 (by decide) (hts _ w_1_40) (fun _ h9 => h9) rfl dX7_farOffBehind_60 (W.pc 63 rfl ?_)
      refine lv_iload_n hx hb dX7_farOffBehind_63 rfl (lv_at hl 0 rfl) (W.pc 64 rfl ?_)
      refine kSR (st1 := [.int (sp_X0_behind a0_town_kind a0_town_site_year a0_town_site_off z2)]) hX (c_X0_behind l E a0_town_kind a0_town_site_year a0_town_site_off z2 _ rfl) B_X0_behind w_3_164 hK (hP.pick [] rfl) rfl hl.1 rfl (Nat.le_of_ble_eq_true rfl) ⟨Nat.le_of_ble_eq_true rfl, Nat.le_of_ble_eq_true rfl⟩ dX7_farOffBehind_64 rfl (W.pc 67 rfl ?_)
      refine kAbs hX hl.1 w_3_74 w_2_180 w_1_13 w_2_181 ⟨Nat.le_of_ble_eq_true rfl, Nat.le_of_ble_eq_true rfl⟩ dX7_farOffBehind_67 (W.pc 70 rfl ?_)
      subst hsp
      exact rRi hX rfl dX7_farOffBehind_70
    replace hsp := hr_z2
    refine lv_if_eq (tgt := 46) hx hb dX7_farOffBehind_29 (by decide) (fun c4 => ?_) (fun c4 => W.pc 32 rfl ?_)
    · have hsp := ip hsp c4
      refine lv_iconst (v := (0 : Int32)) hx hb dX7_farOffBehind_46 (by decide) (W.pc 47 rfl ?_)
      subst hsp
      exact J3 _ (lv_sub hl [1, 0] rfl)
    · have hsp := iq hsp c4
      refine lv_aload_n hx hb dX7_farOffBehind_32 rfl (lv_at hl 1 rfl) (W.pc 33 rfl ?_)
      refine va_get (D := E.1) (ci := 4) (v := .ref a0_town) (C := RX7) (T := TX7) (N := 15) hx hb hts inT_X7 hown hK hP 0 rfl rfl 0 (by decide) (hts _ w_1_178) (fun _ h9 => h9) rfl dX7_farOffBehind_33 (W.pc 36 rfl ?_)
      refine lv_aload_n hx hb dX7_farOffBehind_36 rfl (lv_at hl 0 rfl) (W.pc 37 rfl ?_)
      refine va_get (D := E.1) (ci := 1) (v := .int a0_town_site_year) (C := RX3) (T := TX3) (N := 5) hx hb hts inT_X3 hown hK hP 2 rfl rfl 1 (by decide) (hts _ w_1_45) (fun _ h9 => h9) rfl dX7_farOffBehind_37 (W.pc 40 rfl ?_)
      refine kVR (st1 := [.int (sp_X6_pullOf a0_town_site_year fa0_town_pulls)]) hX (c_X6_pullOf l E a0_town a0_town_pulls a0_town_site a0_town_past a0_town_views a0_town_notes a0_town_marks a0_town_site_year a0_town_kind a0_town_pasts a0_town_members a0_town_noteCount a0_town_markCount fa0_town_pulls _ rfl) B_X6_pullOf w_3_38 hK (hP.pick [1, 3] rfl) (q0 := 0) (ci := 3) rfl rfl rfl rfl hl.1 rfl (Nat.le_of_ble_eq_true rfl) ⟨Nat.le_of_ble_eq_true rfl, Nat.le_of_ble_eq_true rfl⟩ dX7_farOffBehind_40 rfl (W.pc 43 rfl ?_)
      refine lv_goto (tgt := 47) hx hb dX7_farOffBehind_43 (by decide) ?_
      subst hsp
      exact J3 _ (lv_sub hl [1, 0] rfl)
  · have hsp := iq hsp c1
    refine lv_aload_n hx hb dX7_farOffBehind_16 rfl (lv_at hl 0 rfl) (W.pc 17 rfl ?_)
    refine va_get (D := E.1) (ci := 1) (v := .int a0_town_site_off) (C := RX3) (T := TX3) (N := 5) hx hb hts inT_X3 hown hK hP 2 rfl rfl 0 (by decide) (hts _ w_1_40) (fun _ h9 => h9) rfl dX7_farOffBehind_17 (W.pc 20 rfl ?_)
    refine kAbs hX hl.1 w_3_74 w_2_180 w_1_13 w_2_181 ⟨Nat.le_of_ble_eq_true rfl, Nat.le_of_ble_eq_true rfl⟩ dX7_farOffBehind_20 (W.pc 23 rfl ?_)
    subst hsp
    exact rRi hX rfl dX7_farOffBehind_23
def sp_X7_carrierGets (p1 : Int32) (a0_town_kind : Int32) (a0_town_site_off : Int32) (a0_town_site_year : Int32) (fa0_town_pulls : Nat → Int32) : Int32 := lt_ (if (sp_X7_has p1 (0 : Int32)) = 0 then ((0 : Int32)) else ((1 : Int32))) fun z1 => ((sp_X7_farOffBehind p1 a0_town_kind a0_town_site_off a0_town_site_year fa0_town_pulls) - z1)
set_option maxHeartbeats 4000000 in
set_option maxRecDepth 100000 in
theorem c_X7_carrierGets (l : Launch) (E : wE) (a0 a0_town a0_draft a0_images a0_text a0_planner a0_trial a0_spread a0_spreadBehind a0_tally a0_town_pulls a0_town_site a0_town_past a0_town_views a0_town_notes a0_town_marks a0_town_site_heights a0_town_site_storeyKinds a0_town_site_storeyTilts : Nat) (p1 : Int32) (a0_imagesKept : Int32) (a0_above : Int64) (a0_below : Int64) (a0_refusedAsBad : Int32) (a0_refusedAsNo : Int32) (a0_refusedAsFull : Int32) (a0_town_kind : Int32) (a0_town_pasts : Int32) (a0_town_members : Int32) (a0_town_noteCount : Int32) (a0_town_markCount : Int32) (a0_town_site_off : Int32) (a0_town_site_year : Int32) (fa0_town_pulls : Nat → Int32) (z : Int32) (hsp : sp_X7_carrierGets p1 a0_town_kind a0_town_site_off a0_town_site_year fa0_town_pulls = z) : MR l yX7_carrierGets cX7_carrierGets 2 (some .int) 4 E [.ref a0, .int p1] [(a0, .inr (4, [.ref a0_town, .ref a0_draft, .ref a0_images, .int a0_imagesKept, .ref a0_text, .ref a0_planner, .ref a0_trial, .ref a0_spread, .ref a0_spreadBehind, .ref a0_tally, .long a0_above, .long a0_below, .int a0_refusedAsBad, .int a0_refusedAsNo, .int a0_refusedAsFull])), (a0_town, .inr (3, [.int a0_town_kind, .ref a0_town_pulls, .ref a0_town_site, .ref a0_town_past, .int a0_town_pasts, .ref a0_town_views, .int a0_town_members, .ref a0_town_notes, .int a0_town_noteCount, .ref a0_town_marks, .int a0_town_markCount])), (a0_town_site, .inr (1, [.int a0_town_site_off, .int a0_town_site_year, .ref a0_town_site_heights, .ref a0_town_site_storeyKinds, .ref a0_town_site_storeyTilts])), (a0_town_pulls, aI E 6 fa0_town_pulls)] (some (.int z)) := by
  refine MR.of (by decide +kernel) (Nat.le_of_ble_eq_true rfl) ?_
  intro p e s m below meth c ls hX hK hP hl
  have hX : CX p s m [.ref a0, .int p1].toArray meth c cX7_carrierGets 2 (some .int) RX7 := hX
  have hx := hX.1; have hb := hX.2.1; have hts := hX.2.2.2.2.1; have hown := hX.2.2.2.2.2.1
  have hl : lv_has ls 2 [(0, .ref a0), (1, .int p1)] := hl
  have hsp : (lt_ (if (sp_X7_has p1 (0 : Int32)) = 0 then ((0 : Int32)) else ((1 : Int32))) fun z1 => ((sp_X7_farOffBehind p1 a0_town_kind a0_town_site_off a0_town_site_year fa0_town_pulls) - z1)) = z := hsp
  refine lv_aload_n hx hb dX7_carrierGets_0 rfl (lv_at hl 0 rfl) (W.pc 1 rfl ?_)
  refine lv_iload_n hx hb dX7_carrierGets_1 rfl (lv_at hl 1 rfl) (W.pc 2 rfl ?_)
  refine kVR (st1 := [.int (sp_X7_farOffBehind p1 a0_town_kind a0_town_site_off a0_town_site_year fa0_town_pulls)]) hX (c_X7_farOffBehind l E a0 a0_town a0_draft a0_images a0_text a0_planner a0_trial a0_spread a0_spreadBehind a0_tally a0_town_pulls a0_town_site a0_town_past a0_town_views a0_town_notes a0_town_marks a0_town_site_heights a0_town_site_storeyKinds a0_town_site_storeyTilts p1 a0_imagesKept a0_above a0_below a0_refusedAsBad a0_refusedAsNo a0_refusedAsFull a0_town_kind a0_town_pasts a0_town_members a0_town_noteCount a0_town_markCount a0_town_site_off a0_town_site_year fa0_town_pulls _ rfl) B_X7_farOffBehind w_3_224 hK (hP.pick [0, 1, 2, 3] rfl) (q0 := 0) (ci := 4) rfl rfl rfl rfl hl.1 rfl (Nat.le_of_ble_eq_true rfl) ⟨Nat.le_of_ble_eq_true rfl, Nat.le_of_ble_eq_true rfl⟩ dX7_carrierGets_2 rfl (W.pc 5 rfl ?_)
  refine lv_iload_n hx hb dX7_carrierGets_5 rfl (lv_at hl 1 rfl) (W.pc 6 rfl ?_)
  refine lv_iconst (v := (0 : Int32)) hx hb dX7_carrierGets_6 (by decide) (W.pc 7 rfl ?_)
  refine kSR (st1 := [.int (sp_X7_has p1 (0 : Int32)), .int (sp_X7_farOffBehind p1 a0_town_kind a0_town_site_off a0_town_site_year fa0_town_pulls)]) hX (c_X7_has l E p1 (0 : Int32) _ rfl) B_X7_has w_3_105 hK (hP.pick [] rfl) rfl hl.1 rfl (Nat.le_of_ble_eq_true rfl) ⟨Nat.le_of_ble_eq_true rfl, Nat.le_of_ble_eq_true rfl⟩ dX7_carrierGets_7 rfl (W.pc 10 rfl ?_)
  obtain ⟨z1, hr_z1, hsp⟩ := ltb_s hsp
  have J2 : ∀ (ls : Array Slot), lv_has ls 2 [] → W p l e (wR 4) s m [.ref a0, .int p1].toArray below meth c s.heap [] 0 0 (MQ below (QRd E (some (.int z))) [.ref a0, .int p1].toArray s 0 0 (fun _ => False)) (F0 m 18 ls [.int z1, .int (sp_X7_farOffBehind p1 a0_town_kind a0_town_site_off a0_town_site_year fa0_town_pulls)]) := by
    intro ls hl
    refine lv_isub hx hb dX7_carrierGets_18 (W.pc 19 rfl ?_)
    subst hsp
    exact rRi hX rfl dX7_carrierGets_19
  replace hsp := hr_z1
  refine lv_if_eq (tgt := 17) hx hb dX7_carrierGets_10 (by decide) (fun c3 => ?_) (fun c3 => W.pc 13 rfl ?_)
  · have hsp := ip hsp c3
    refine lv_iconst (v := (0 : Int32)) hx hb dX7_carrierGets_17 (by decide) (W.pc 18 rfl ?_)
    subst hsp
    exact J2 _ (lv_sub hl [] rfl)
  · have hsp := iq hsp c3
    refine lv_iconst (v := (1 : Int32)) hx hb dX7_carrierGets_13 (by decide) (W.pc 14 rfl ?_)
    refine lv_goto (tgt := 18) hx hb dX7_carrierGets_14 (by decide) ?_
    subst hsp
    exact J2 _ (lv_sub hl [] rfl)
def sp_X7_keeperGets (p1 : Int32) (a0_town_kind : Int32) (a0_town_site_off : Int32) (a0_town_site_year : Int32) (fa0_town_pulls : Nat → Int32) : Int32 := lt_ (if (sp_X7_has p1 (1 : Int32)) = 0 then ((0 : Int32)) else ((2 : Int32))) fun z1 => ((-(sp_X7_farOffBehind p1 a0_town_kind a0_town_site_off a0_town_site_year fa0_town_pulls)) - z1)
set_option maxHeartbeats 4000000 in
set_option maxRecDepth 100000 in
theorem c_X7_keeperGets (l : Launch) (E : wE) (a0 a0_town a0_draft a0_images a0_text a0_planner a0_trial a0_spread a0_spreadBehind a0_tally a0_town_pulls a0_town_site a0_town_past a0_town_views a0_town_notes a0_town_marks a0_town_site_heights a0_town_site_storeyKinds a0_town_site_storeyTilts : Nat) (p1 : Int32) (a0_imagesKept : Int32) (a0_above : Int64) (a0_below : Int64) (a0_refusedAsBad : Int32) (a0_refusedAsNo : Int32) (a0_refusedAsFull : Int32) (a0_town_kind : Int32) (a0_town_pasts : Int32) (a0_town_members : Int32) (a0_town_noteCount : Int32) (a0_town_markCount : Int32) (a0_town_site_off : Int32) (a0_town_site_year : Int32) (fa0_town_pulls : Nat → Int32) (z : Int32) (hsp : sp_X7_keeperGets p1 a0_town_kind a0_town_site_off a0_town_site_year fa0_town_pulls = z) : MR l yX7_keeperGets cX7_keeperGets 2 (some .int) 4 E [.ref a0, .int p1] [(a0, .inr (4, [.ref a0_town, .ref a0_draft, .ref a0_images, .int a0_imagesKept, .ref a0_text, .ref a0_planner, .ref a0_trial, .ref a0_spread, .ref a0_spreadBehind, .ref a0_tally, .long a0_above, .long a0_below, .int a0_refusedAsBad, .int a0_refusedAsNo, .int a0_refusedAsFull])), (a0_town, .inr (3, [.int a0_town_kind, .ref a0_town_pulls, .ref a0_town_site, .ref a0_town_past, .int a0_town_pasts, .ref a0_town_views, .int a0_town_members, .ref a0_town_notes, .int a0_town_noteCount, .ref a0_town_marks, .int a0_town_markCount])), (a0_town_site, .inr (1, [.int a0_town_site_off, .int a0_town_site_year, .ref a0_town_site_heights, .ref a0_town_site_storeyKinds, .ref a0_town_site_storeyTilts])), (a0_town_pulls, aI E 6 fa0_town_pulls)] (some (.int z)) := by
  refine MR.of (by decide +kernel) (Nat.le_of_ble_eq_true rfl) ?_
  intro p e s m below meth c ls hX hK hP hl
  have hX : CX p s m [.ref a0, .int p1].toArray meth c cX7_keeperGets 2 (some .int) RX7 := hX
  have hx := hX.1; have hb := hX.2.1; have hts := hX.2.2.2.2.1; have hown := hX.2.2.2.2.2.1
  have hl : lv_has ls 2 [(0, .ref a0), (1, .int p1)] := hl
  have hsp : (lt_ (if (sp_X7_has p1 (1 : Int32)) = 0 then ((0 : Int32)) else ((2 : Int32))) fun z1 => ((-(sp_X7_farOffBehind p1 a0_town_kind a0_town_site_off a0_town_site_year fa0_town_pulls)) - z1)) = z := hsp
  refine lv_aload_n hx hb dX7_keeperGets_0 rfl (lv_at hl 0 rfl) (W.pc 1 rfl ?_)
  refine lv_iload_n hx hb dX7_keeperGets_1 rfl (lv_at hl 1 rfl) (W.pc 2 rfl ?_)
  refine kVR (st1 := [.int (sp_X7_farOffBehind p1 a0_town_kind a0_town_site_off a0_town_site_year fa0_town_pulls)]) hX (c_X7_farOffBehind l E a0 a0_town a0_draft a0_images a0_text a0_planner a0_trial a0_spread a0_spreadBehind a0_tally a0_town_pulls a0_town_site a0_town_past a0_town_views a0_town_notes a0_town_marks a0_town_site_heights a0_town_site_storeyKinds a0_town_site_storeyTilts p1 a0_imagesKept a0_above a0_below a0_refusedAsBad a0_refusedAsNo a0_refusedAsFull a0_town_kind a0_town_pasts a0_town_members a0_town_noteCount a0_town_markCount a0_town_site_off a0_town_site_year fa0_town_pulls _ rfl) B_X7_farOffBehind w_3_224 hK (hP.pick [0, 1, 2, 3] rfl) (q0 := 0) (ci := 4) rfl rfl rfl rfl hl.1 rfl (Nat.le_of_ble_eq_true rfl) ⟨Nat.le_of_ble_eq_true rfl, Nat.le_of_ble_eq_true rfl⟩ dX7_keeperGets_2 rfl (W.pc 5 rfl ?_)
  refine lv_ineg hx hb dX7_keeperGets_5 (W.pc 6 rfl ?_)
  refine lv_iload_n hx hb dX7_keeperGets_6 rfl (lv_at hl 1 rfl) (W.pc 7 rfl ?_)
  refine lv_iconst (v := (1 : Int32)) hx hb dX7_keeperGets_7 (by decide) (W.pc 8 rfl ?_)
  refine kSR (st1 := [.int (sp_X7_has p1 (1 : Int32)), .int (-(sp_X7_farOffBehind p1 a0_town_kind a0_town_site_off a0_town_site_year fa0_town_pulls))]) hX (c_X7_has l E p1 (1 : Int32) _ rfl) B_X7_has w_3_105 hK (hP.pick [] rfl) rfl hl.1 rfl (Nat.le_of_ble_eq_true rfl) ⟨Nat.le_of_ble_eq_true rfl, Nat.le_of_ble_eq_true rfl⟩ dX7_keeperGets_8 rfl (W.pc 11 rfl ?_)
  obtain ⟨z1, hr_z1, hsp⟩ := ltb_s hsp
  have J2 : ∀ (ls : Array Slot), lv_has ls 2 [] → W p l e (wR 4) s m [.ref a0, .int p1].toArray below meth c s.heap [] 0 0 (MQ below (QRd E (some (.int z))) [.ref a0, .int p1].toArray s 0 0 (fun _ => False)) (F0 m 19 ls [.int z1, .int (-(sp_X7_farOffBehind p1 a0_town_kind a0_town_site_off a0_town_site_year fa0_town_pulls))]) := by
    intro ls hl
    refine lv_isub hx hb dX7_keeperGets_19 (W.pc 20 rfl ?_)
    subst hsp
    exact rRi hX rfl dX7_keeperGets_20
  replace hsp := hr_z1
  refine lv_if_eq (tgt := 18) hx hb dX7_keeperGets_11 (by decide) (fun c3 => ?_) (fun c3 => W.pc 14 rfl ?_)
  · have hsp := ip hsp c3
    refine lv_iconst (v := (0 : Int32)) hx hb dX7_keeperGets_18 (by decide) (W.pc 19 rfl ?_)
    subst hsp
    exact J2 _ (lv_sub hl [] rfl)
  · have hsp := iq hsp c3
    refine lv_iconst (v := (2 : Int32)) hx hb dX7_keeperGets_14 (by decide) (W.pc 15 rfl ?_)
    refine lv_goto (tgt := 19) hx hb dX7_keeperGets_15 (by decide) ?_
    subst hsp
    exact J2 _ (lv_sub hl [] rfl)
noncomputable def lp_X7_commonDivisor_7 : Nat → Int32 → Int32 → Int32 → Option (Int32 × Int32 × Int32)
 | 0, _, _, _ => none
 | fu + 1, x2_7, x3_7, x4_7 => if (100 : Int32) ≤ x4_7 then (some (x2_7, x3_7, x4_7)) else (if x3_7 = 0 then (some (x2_7, x3_7, x4_7)) else (lp_X7_commonDivisor_7 fu x3_7 (x2_7 - x2_7 / x3_7 * x3_7) (x4_7 + (1 : Int32))))
noncomputable def sp_X7_commonDivisor (p0 : Int32) (p1 : Int32) : Option (Int32) := Option.bind (lp_X7_commonDivisor_7 FU p0 p1 (0 : Int32)) fun z1 => some z1.1
set_option maxHeartbeats 4000000 in
set_option maxRecDepth 100000 in
theorem c_X7_commonDivisor (l : Launch) (E : wE) (p0 : Int32) (p1 : Int32) (z : Int32) (hsp : sp_X7_commonDivisor p0 p1 = some z) : MR l yX7_commonDivisor cX7_commonDivisor 6 (some .int) 0 E [.int p0, .int p1] [] (some (.int z)) := by
  refine MR.of (by decide +kernel) (Nat.le_of_ble_eq_true rfl) ?_
  intro p e s m below meth c ls hX hK hP hl
  have hX : CX p s m [.int p0, .int p1].toArray meth c cX7_commonDivisor 6 (some .int) RX7 := hX
  have hx := hX.1; have hb := hX.2.1; have hts := hX.2.2.2.2.1; have hown := hX.2.2.2.2.2.1
  have hl : lv_has ls 6 [(0, .int p0), (1, .int p1)] := hl
  have hsp : (Option.bind (lp_X7_commonDivisor_7 FU p0 p1 (0 : Int32)) fun z1 => some z1.1) = some z := hsp
  refine lv_iload_n hx hb dX7_commonDivisor_0 rfl (lv_at hl 0 rfl) (W.pc 1 rfl ?_)
  refine lv_istore_n (lv' := [(2, .int p0), (0, .int p0), (1, .int p1)]) hx hb dX7_commonDivisor_1 rfl hl (by decide) rfl (fun ls hl => W.pc 2 rfl ?_)
  refine lv_iload_n hx hb dX7_commonDivisor_2 rfl (lv_at hl 2 rfl) (W.pc 3 rfl ?_)
  refine lv_istore_n (lv' := [(3, .int p1), (2, .int p0), (0, .int p0), (1, .int p1)]) hx hb dX7_commonDivisor_3 rfl hl (by decide) rfl (fun ls hl => W.pc 4 rfl ?_)
  refine lv_iconst (v := (0 : Int32)) hx hb dX7_commonDivisor_4 (by decide) (W.pc 5 rfl ?_)
  refine lv_istore (lv' := [(4, .int (0 : Int32)), (3, .int p1), (2, .int p0), (0, .int p0), (1, .int p1)]) hx hb dX7_commonDivisor_5 hl (by decide) rfl (fun ls hl => W.pc 7 rfl ?_)
  have L_7 : ∀ (z1 : Int32 × Int32 × Int32), (∀ (ls : Array Slot), lv_has ls 6 [(2, .int z1.1)] → W p l e (wR 0) s m [.int p0, .int p1].toArray below meth c s.heap [] 0 0 (MQ below (QRd E (some (.int z))) [.int p0, .int p1].toArray s 0 0 (fun _ => False)) (F0 m 34 ls [])) → ∀ (fu : Nat) (x2_7 : Int32) (x3_7 : Int32) (x4_7 : Int32), ∀ (ls : Array Slot), lv_has ls 6 [(2, .int x2_7), (3, .int x3_7), (4, .int x4_7)] → lp_X7_commonDivisor_7 fu x2_7 x3_7 x4_7 = some z1 → W p l e (wR 0) s m [.int p0, .int p1].toArray below meth c s.heap [] 0 0 (MQ below (QRd E (some (.int z))) [.int p0, .int p1].toArray s 0 0 (fun _ => False)) (F0 m 7 ls []) := by
    intro z1 hk_7 fu
    induction fu with
    | zero => intro x2_7 x3_7 x4_7 ls hl hsp; exact absurd (show none = some _ from hsp) (by simp)
    | succ fu ih_7 =>
      intro x2_7 x3_7 x4_7 ls hl hsp
      have hsp : (if (100 : Int32) ≤ x4_7 then (some (x2_7, x3_7, x4_7)) else (if x3_7 = 0 then (some (x2_7, x3_7, x4_7)) else (lp_X7_commonDivisor_7 fu x3_7 (x2_7 - x2_7 / x3_7 * x3_7) (x4_7 + (1 : Int32))))) = some z1 := hsp
      refine lv_iload hx hb dX7_commonDivisor_7 (lv_at hl 2 rfl) (W.pc 9 rfl ?_)
      refine lv_bipush (v := (100 : Int32)) hx hb dX7_commonDivisor_9 (by decide) (W.pc 11 rfl ?_)
      refine lv_icmp_ge (tgt := 34) hx hb dX7_commonDivisor_11 (by decide) (fun c2 => ?_) (fun c2 => W.pc 14 rfl ?_)
      · have hsp := ip hsp c2
        obtain rfl := Option.some.inj hsp
        exact hk_7 _ (lv_sub hl [0] rfl)
      · have hsp := iq hsp c2
        refine lv_iload_n hx hb dX7_commonDivisor_14 rfl (lv_at hl 1 rfl) (W.pc 15 rfl ?_)
        refine lv_if_eq (tgt := 34) hx hb dX7_commonDivisor_15 (by decide) (fun c3 => ?_) (fun c3 => W.pc 18 rfl ?_)
        · have hsp := ip hsp c3
          obtain rfl := Option.some.inj hsp
          exact hk_7 _ (lv_sub hl [0] rfl)
        · have hsp := iq hsp c3
          refine lv_iload_n hx hb dX7_commonDivisor_18 rfl (lv_at hl 0 rfl) (W.pc 19 rfl ?_)
          refine lv_iload_n hx hb dX7_commonDivisor_19 rfl (lv_at hl 1 rfl) (W.pc 20 rfl ?_)
          refine lv_irem hx hb dX7_commonDivisor_20 c3 (W.pc 21 rfl ?_)
          refine lv_istore (lv' := [(5, .int (x2_7 - x2_7 / x3_7 * x3_7)), (2, .int x2_7), (3, .int x3_7), (4, .int x4_7)]) hx hb dX7_commonDivisor_21 hl (by decide) rfl (fun ls hl => W.pc 23 rfl ?_)
          refine lv_iload_n hx hb dX7_commonDivisor_23 rfl (lv_at hl 2 rfl) (W.pc 24 rfl ?_)
          refine lv_istore_n (lv' := [(2, .int x3_7), (5, .int (x2_7 - x2_7 / x3_7 * x3_7)), (3, .int x3_7), (4, .int x4_7)]) hx hb dX7_commonDivisor_24 rfl hl (by decide) rfl (fun ls hl => W.pc 25 rfl ?_)
          refine lv_iload hx hb dX7_commonDivisor_25 (lv_at hl 1 rfl) (W.pc 27 rfl ?_)
          refine lv_istore_n (lv' := [(3, .int (x2_7 - x2_7 / x3_7 * x3_7)), (2, .int x3_7), (5, .int (x2_7 - x2_7 / x3_7 * x3_7)), (4, .int x4_7)]) hx hb dX7_commonDivisor_27 rfl hl (by decide) rfl (fun ls hl => W.pc 28 rfl ?_)
          refine lv_iinc (v := (x4_7 + (1 : Int32))) (lv' := [(4, .int (x4_7 + (1 : Int32))), (3, .int (x2_7 - x2_7 / x3_7 * x3_7)), (2, .int x3_7), (5, .int (x2_7 - x2_7 / x3_7 * x3_7))]) hx hb dX7_commonDivisor_28 hl (k := 3) rfl rfl (by decide) rfl (fun ls hl => W.pc 31 rfl ?_)
          refine lv_goto (tgt := 7) hx hb dX7_commonDivisor_31 (by decide) ?_
          exact ih_7 x3_7 (x2_7 - x2_7 / x3_7 * x3_7) (x4_7 + (1 : Int32)) _ (lv_sub hl [2, 1, 0] rfl) hsp
  obtain ⟨z1, hr_z1, hsp⟩ := bd_s hsp
  refine L_7 z1 (fun ls hl => ?_) FU p0 p1 (0 : Int32) _ (lv_sub hl [2, 1, 0] rfl) hr_z1
  refine lv_iload_n hx hb dX7_commonDivisor_34 rfl (lv_at hl 0 rfl) (W.pc 35 rfl ?_)
  obtain rfl := Option.some.inj hsp
  exact rRi hX rfl dX7_commonDivisor_35
noncomputable def sp_X7_setFraction (p1 : Int32) (p2 : Int32) (a0_above : Int64) (a0_below : Int64) : Option (Int64 × Int64) := Option.bind (sp_X7_commonDivisor p1 p2) fun z1 => if z1 ≤ 0 then (some (a0_above, a0_below)) else (gd (¬ z1 = 0) (gd (¬ z1 = 0) (some (((p1 / z1)).toInt64, ((p2 / z1)).toInt64))))
set_option maxHeartbeats 4000000 in
set_option maxRecDepth 100000 in
theorem c_X7_setFraction (l : Launch) (E : wE) (a0 a0_town a0_draft a0_images a0_text a0_planner a0_trial a0_spread a0_spreadBehind a0_tally : Nat) (p1 : Int32) (p2 : Int32) (a0_imagesKept : Int32) (a0_above : Int64) (a0_below : Int64) (a0_refusedAsBad : Int32) (a0_refusedAsNo : Int32) (a0_refusedAsFull : Int32) (z_0 : Int64) (z_1 : Int64) (hsp : sp_X7_setFraction p1 p2 a0_above a0_below = some (z_0, z_1)) : MW l yX7_setFraction cX7_setFraction 4 none 1 E [.ref a0, .int p1, .int p2] [(a0, .inr (4, [.ref a0_town, .ref a0_draft, .ref a0_images, .int a0_imagesKept, .ref a0_text, .ref a0_planner, .ref a0_trial, .ref a0_spread, .ref a0_spreadBehind, .ref a0_tally, .long a0_above, .long a0_below, .int a0_refusedAsBad, .int a0_refusedAsNo, .int a0_refusedAsFull]))] none [(a0, .inr (4, [.ref a0_town, .ref a0_draft, .ref a0_images, .int a0_imagesKept, .ref a0_text, .ref a0_planner, .ref a0_trial, .ref a0_spread, .ref a0_spreadBehind, .ref a0_tally, .long z_0, .long z_1, .int a0_refusedAsBad, .int a0_refusedAsNo, .int a0_refusedAsFull]))] := by
  refine MW.of (by decide +kernel) (Nat.le_of_ble_eq_true rfl) ?_
  intro p e s m below meth c ls A hX hK hP hD hS hA hl
  have hX : CX p s m [.ref a0, .int p1, .int p2].toArray meth c cX7_setFraction 4 none RX7 := hX
  have hx := hX.1; have hb := hX.2.1; have hts := hX.2.2.2.2.1; have hown := hX.2.2.2.2.2.1
  have hl : lv_has ls 4 [(0, .ref a0), (1, .int p1), (2, .int p2)] := hl
  have hP : wP E [(a0, .inr (4, [.ref a0_town, .ref a0_draft, .ref a0_images, .int a0_imagesKept, .ref a0_text, .ref a0_planner, .ref a0_trial, .ref a0_spread, .ref a0_spreadBehind, .ref a0_tally, .long a0_above, .long a0_below, .int a0_refusedAsBad, .int a0_refusedAsNo, .int a0_refusedAsFull]))] s.heap := hP
  have hsp : (Option.bind (sp_X7_commonDivisor p1 p2) fun z1 => if z1 ≤ 0 then (some (a0_above, a0_below)) else (gd (¬ z1 = 0) (gd (¬ z1 = 0) (some (((p1 / z1)).toInt64, ((p2 / z1)).toInt64))))) = some (z_0, z_1) := hsp
  refine lv_iload_n hx hb dX7_setFraction_0 rfl (lv_at hl 1 rfl) (W.pc 1 rfl ?_)
  refine lv_iload_n hx hb dX7_setFraction_1 rfl (lv_at hl 2 rfl) (W.pc 2 rfl ?_)
  obtain ⟨z1, hr_z1, hsp⟩ := bd_s hsp
  refine kSR (st1 := [.int z1]) hX (c_X7_commonDivisor l E p1 p2 z1 hr_z1) B_X7_commonDivisor w_4_9 hK (hP.pick [] rfl) rfl hl.1 rfl (Nat.le_of_ble_eq_true rfl) ⟨Nat.le_of_ble_eq_true rfl, Nat.le_of_ble_eq_true rfl⟩ dX7_setFraction_2 rfl (W.pc 5 rfl ?_)
  refine lv_istore_n (lv' := [(3, .int z1), (0, .ref a0), (1, .int p1), (2, .int p2)]) hx hb dX7_setFraction_5 rfl hl (by decide) rfl (fun ls hl => W.pc 6 rfl ?_)
  refine lv_iload_n hx hb dX7_setFraction_6 rfl (lv_at hl 0 rfl) (W.pc 7 rfl ?_)
  refine lv_if_le (tgt := 26) hx hb dX7_setFraction_7 (by decide) (fun c2 => ?_) (fun c2 => W.pc 10 rfl ?_)
  · have hsp := ip hsp c2
    cases hsp
    exact rWv hX hP hS rfl dX7_setFraction_26
  · have hsp := iq hsp c2
    refine lv_aload_n hx hb dX7_setFraction_10 rfl (lv_at hl 1 rfl) (W.pc 11 rfl ?_)
    refine lv_iload_n hx hb dX7_setFraction_11 rfl (lv_at hl 2 rfl) (W.pc 12 rfl ?_)
    refine lv_iload_n hx hb dX7_setFraction_12 rfl (lv_at hl 0 rfl) (W.pc 13 rfl ?_)
    obtain ⟨h3, hsp⟩ := gd_s hsp
    refine lv_idiv hx hb dX7_setFraction_13 h3 (W.pc 14 rfl ?_)
    refine lv_i2l (v := ((p1 / z1)).toInt64) hx hb dX7_setFraction_14 rfl (W.pc 15 rfl ?_)
    refine va_put (D := E.1) (ci := 4) (v := .long ((p1 / z1)).toInt64) (ty := .long) (C := RX7) (T := TX7) (N := 15) hx hb hts inT_X7 tyX7 tyX7_ok nmX7 hown hK hP hD hS 0 rfl rfl 10 (by decide) (hts _ w_1_188) (fun _ h9 => h9) rfl (by decide +kernel) rfl rfl (Nat.le_of_ble_eq_true rfl) dX7_setFraction_15 (fun H locs hP hD hS => W.pc 18 rfl ?_)
    have hP : wP E [(a0, .inr (4, [.ref a0_town, .ref a0_draft, .ref a0_images, .int a0_imagesKept, .ref a0_text, .ref a0_planner, .ref a0_trial, .ref a0_spread, .ref a0_spreadBehind, .ref a0_tally, .long ((p1 / z1)).toInt64, .long a0_below, .int a0_refusedAsBad, .int a0_refusedAsNo, .int a0_refusedAsFull]))] _ := hP
    have hD : va_D A [(a0, .inr (4, [.ref a0_town, .ref a0_draft, .ref a0_images, .int a0_imagesKept, .ref a0_text, .ref a0_planner, .ref a0_trial, .ref a0_spread, .ref a0_spreadBehind, .ref a0_tally, .long ((p1 / z1)).toInt64, .long a0_below, .int a0_refusedAsBad, .int a0_refusedAsNo, .int a0_refusedAsFull]))] := hD
    refine lv_aload_n hx hb dX7_setFraction_18 rfl (lv_at hl 1 rfl) (W.pc 19 rfl ?_)
    refine lv_iload_n hx hb dX7_setFraction_19 rfl (lv_at hl 3 rfl) (W.pc 20 rfl ?_)
    refine lv_iload_n hx hb dX7_setFraction_20 rfl (lv_at hl 0 rfl) (W.pc 21 rfl ?_)
    obtain ⟨h4, hsp⟩ := gd_s hsp
    refine lv_idiv hx hb dX7_setFraction_21 h4 (W.pc 22 rfl ?_)
    refine lv_i2l (v := ((p2 / z1)).toInt64) hx hb dX7_setFraction_22 rfl (W.pc 23 rfl ?_)
    refine va_put (D := E.1) (ci := 4) (v := .long ((p2 / z1)).toInt64) (ty := .long) (C := RX7) (T := TX7) (N := 15) hx hb hts inT_X7 tyX7 tyX7_ok nmX7 hown hK hP hD hS 0 rfl rfl 11 (by decide) (hts _ w_1_189) (fun _ h9 => h9) rfl (by decide +kernel) rfl rfl (Nat.le_of_ble_eq_true rfl) dX7_setFraction_23 (fun H locs hP hD hS => W.pc 26 rfl ?_)
    have hP : wP E [(a0, .inr (4, [.ref a0_town, .ref a0_draft, .ref a0_images, .int a0_imagesKept, .ref a0_text, .ref a0_planner, .ref a0_trial, .ref a0_spread, .ref a0_spreadBehind, .ref a0_tally, .long ((p1 / z1)).toInt64, .long ((p2 / z1)).toInt64, .int a0_refusedAsBad, .int a0_refusedAsNo, .int a0_refusedAsFull]))] _ := hP
    have hD : va_D A [(a0, .inr (4, [.ref a0_town, .ref a0_draft, .ref a0_images, .int a0_imagesKept, .ref a0_text, .ref a0_planner, .ref a0_trial, .ref a0_spread, .ref a0_spreadBehind, .ref a0_tally, .long ((p1 / z1)).toInt64, .long ((p2 / z1)).toInt64, .int a0_refusedAsBad, .int a0_refusedAsNo, .int a0_refusedAsFull]))] := hD
    cases hsp
    exact rWv hX hP hS rfl dX7_setFraction_26
