theorem w_4_122 : Cond.methodLink RX8 82 yX8_isKind ∈ TBL := TBL_t (tin4 (List.mem_of_getElem? (i := 122) (by decide +kernel))) (by decide +kernel)
theorem w_4_132 : Cond.methodLink RX8 90 yX8_storeys ∈ TBL := TBL_t (tin4 (List.mem_of_getElem? (i := 132) (by decide +kernel))) (by decide +kernel)
theorem w_4_135 : Cond.methodLink RX8 94 yX8_empties ∈ TBL := TBL_t (tin4 (List.mem_of_getElem? (i := 135) (by decide +kernel))) (by decide +kernel)
theorem w_4_128 : Cond.methodLink RX8 86 yX8_bad ∈ TBL := TBL_t (tin4 (List.mem_of_getElem? (i := 128) (by decide +kernel))) (by decide +kernel)
theorem w_4_142 : Cond.methodLink RX8 98 yX8_isPlot ∈ TBL := TBL_t (tin4 (List.mem_of_getElem? (i := 142) (by decide +kernel))) (by decide +kernel)
theorem w_4_148 : Cond.methodLink RX8 104 yX8_badly ∈ TBL := TBL_t (tin4 (List.mem_of_getElem? (i := 148) (by decide +kernel))) (by decide +kernel)
theorem w_4_145 : Cond.methodLink RX8 101 yX8_isTilt ∈ TBL := TBL_t (tin4 (List.mem_of_getElem? (i := 145) (by decide +kernel))) (by decide +kernel)
theorem w_4_156 : Cond.methodLink RX8 107 yX8_full ∈ TBL := TBL_t (tin4 (List.mem_of_getElem? (i := 156) (by decide +kernel))) (by decide +kernel)
theorem w_4_69 : Cond.fieldLink RX8 110 "LevelGoneModel" "letters" "I" ∈ TBL := TBL_t (tin4 (List.mem_of_getElem? (i := 69) (by decide +kernel))) (by decide +kernel)
theorem w_5_15 : Cond.methodLink RX8 172 yX8_copies ∈ TBL := TBL_t (tin5 (List.mem_of_getElem? (i := 15) (by decide +kernel))) (by decide +kernel)
theorem w_5_22 : Cond.methodLink RX8 176 yX8_notes ∈ TBL := TBL_t (tin5 (List.mem_of_getElem? (i := 22) (by decide +kernel))) (by decide +kernel)
theorem w_4_234 : Cond.methodLink RX8 146 yX8_builds ∈ TBL := TBL_t (tin4 (List.mem_of_getElem? (i := 234) (by decide +kernel))) (by decide +kernel)
theorem w_4_215 : Cond.methodLink RX8 150 yX8_passes ∈ TBL := TBL_t (tin4 (List.mem_of_getElem? (i := 215) (by decide +kernel))) (by decide +kernel)
theorem w_5_34 : Cond.methodLink RX8 179 yX8_no ∈ TBL := TBL_t (tin5 (List.mem_of_getElem? (i := 34) (by decide +kernel))) (by decide +kernel)
theorem w_5_50 : Cond.methodLink RX8 182 yX8_top ∈ TBL := TBL_t (tin5 (List.mem_of_getElem? (i := 50) (by decide +kernel))) (by decide +kernel)
theorem w_4_124 : Cond.code yX8_isKind cX8_isKind 1 (some .boolean) ∈ TBL := TBL_t (tin4 (List.mem_of_getElem? (i := 124) (by decide +kernel))) (by decide +kernel)
theorem w_4_123 : Cond.static yX8_isKind ∈ TBL := TBL_t (tin4 (List.mem_of_getElem? (i := 123) (by decide +kernel))) (by decide +kernel)
theorem w_4_134 : Cond.code yX8_storeys cX8_storeys 3 (some .int) ∈ TBL := TBL_t (tin4 (List.mem_of_getElem? (i := 134) (by decide +kernel))) (by decide +kernel)
theorem w_4_133 : Cond.static yX8_storeys ∈ TBL := TBL_t (tin4 (List.mem_of_getElem? (i := 133) (by decide +kernel))) (by decide +kernel)
theorem w_4_137 : Cond.code yX8_empties cX8_empties 2 none ∈ TBL := TBL_t (tin4 (List.mem_of_getElem? (i := 137) (by decide +kernel))) (by decide +kernel)
theorem w_4_136 : Cond.static yX8_empties ∈ TBL := TBL_t (tin4 (List.mem_of_getElem? (i := 136) (by decide +kernel))) (by decide +kernel)
theorem w_4_131 : Cond.code yX8_bad cX8_bad 1 (some .int) ∈ TBL := TBL_t (tin4 (List.mem_of_getElem? (i := 131) (by decide +kernel))) (by decide +kernel)
theorem w_4_130 : Cond.instanceMethod yX8_bad ∈ TBL := TBL_t (tin4 (List.mem_of_getElem? (i := 130) (by decide +kernel))) (by decide +kernel)
theorem w_4_144 : Cond.code yX8_isPlot cX8_isPlot 1 (some .boolean) ∈ TBL := TBL_t (tin4 (List.mem_of_getElem? (i := 144) (by decide +kernel))) (by decide +kernel)
theorem w_4_143 : Cond.static yX8_isPlot ∈ TBL := TBL_t (tin4 (List.mem_of_getElem? (i := 143) (by decide +kernel))) (by decide +kernel)
theorem w_4_151 : Cond.code yX8_badly cX8_badly 2 (some .int) ∈ TBL := TBL_t (tin4 (List.mem_of_getElem? (i := 151) (by decide +kernel))) (by decide +kernel)
theorem w_4_150 : Cond.instanceMethod yX8_badly ∈ TBL := TBL_t (tin4 (List.mem_of_getElem? (i := 150) (by decide +kernel))) (by decide +kernel)
theorem w_4_147 : Cond.code yX8_isTilt cX8_isTilt 1 (some .boolean) ∈ TBL := TBL_t (tin4 (List.mem_of_getElem? (i := 147) (by decide +kernel))) (by decide +kernel)
theorem w_4_146 : Cond.static yX8_isTilt ∈ TBL := TBL_t (tin4 (List.mem_of_getElem? (i := 146) (by decide +kernel))) (by decide +kernel)
theorem w_4_159 : Cond.code yX8_full cX8_full 1 (some .int) ∈ TBL := TBL_t (tin4 (List.mem_of_getElem? (i := 159) (by decide +kernel))) (by decide +kernel)
theorem w_4_158 : Cond.instanceMethod yX8_full ∈ TBL := TBL_t (tin4 (List.mem_of_getElem? (i := 158) (by decide +kernel))) (by decide +kernel)
theorem w_5_17 : Cond.code yX8_copies cX8_copies 6 none ∈ TBL := TBL_t (tin5 (List.mem_of_getElem? (i := 17) (by decide +kernel))) (by decide +kernel)
theorem w_5_16 : Cond.static yX8_copies ∈ TBL := TBL_t (tin5 (List.mem_of_getElem? (i := 16) (by decide +kernel))) (by decide +kernel)
theorem w_5_25 : Cond.code yX8_notes cX8_notes 1 none ∈ TBL := TBL_t (tin5 (List.mem_of_getElem? (i := 25) (by decide +kernel))) (by decide +kernel)
theorem w_5_24 : Cond.instanceMethod yX8_notes ∈ TBL := TBL_t (tin5 (List.mem_of_getElem? (i := 24) (by decide +kernel))) (by decide +kernel)
theorem w_4_236 : Cond.code yX8_builds cX8_builds 7 none ∈ TBL := TBL_t (tin4 (List.mem_of_getElem? (i := 236) (by decide +kernel))) (by decide +kernel)
theorem w_4_235 : Cond.static yX8_builds ∈ TBL := TBL_t (tin4 (List.mem_of_getElem? (i := 235) (by decide +kernel))) (by decide +kernel)
theorem w_4_217 : Cond.code yX8_passes cX8_passes 1 none ∈ TBL := TBL_t (tin4 (List.mem_of_getElem? (i := 217) (by decide +kernel))) (by decide +kernel)
theorem w_4_216 : Cond.static yX8_passes ∈ TBL := TBL_t (tin4 (List.mem_of_getElem? (i := 216) (by decide +kernel))) (by decide +kernel)
theorem w_5_37 : Cond.code yX8_no cX8_no 1 (some .int) ∈ TBL := TBL_t (tin5 (List.mem_of_getElem? (i := 37) (by decide +kernel))) (by decide +kernel)
theorem w_5_36 : Cond.instanceMethod yX8_no ∈ TBL := TBL_t (tin5 (List.mem_of_getElem? (i := 36) (by decide +kernel))) (by decide +kernel)
theorem w_5_52 : Cond.code yX8_top cX8_top 2 (some .int) ∈ TBL := TBL_t (tin5 (List.mem_of_getElem? (i := 52) (by decide +kernel))) (by decide +kernel)
theorem w_5_51 : Cond.static yX8_top ∈ TBL := TBL_t (tin5 (List.mem_of_getElem? (i := 51) (by decide +kernel))) (by decide +kernel)
theorem ws_28 : Cond.selects yX8_bad.cls yX8_bad yX8_bad ∈ TBL := TBL_s (List.mem_of_getElem? (i := 28) (by decide +kernel)) (by decide +kernel)
theorem ws_29 : Cond.selects yX8_badly.cls yX8_badly yX8_badly ∈ TBL := TBL_s (List.mem_of_getElem? (i := 29) (by decide +kernel)) (by decide +kernel)
theorem ws_30 : Cond.selects yX8_full.cls yX8_full yX8_full ∈ TBL := TBL_s (List.mem_of_getElem? (i := 30) (by decide +kernel)) (by decide +kernel)
theorem ws_42 : Cond.selects yX8_notes.cls yX8_notes yX8_notes ∈ TBL := TBL_s (List.mem_of_getElem? (i := 42) (by decide +kernel)) (by decide +kernel)
theorem ws_43 : Cond.selects yX8_no.cls yX8_no yX8_no ∈ TBL := TBL_s (List.mem_of_getElem? (i := 43) (by decide +kernel)) (by decide +kernel)
theorem B_X8_isKind : cS yX8_isKind cX8_isKind 1 (some .boolean) 1 := ⟨w_4_124, w_4_123, w_1_6, by decide +kernel⟩
theorem B_X8_storeys : cS yX8_storeys cX8_storeys 3 (some .int) 1 := ⟨w_4_134, w_4_133, w_1_6, by decide +kernel⟩
theorem B_X8_empties : cS yX8_empties cX8_empties 2 none 1 := ⟨w_4_137, w_4_136, w_1_6, by decide +kernel⟩
theorem B_X8_bad : cV yX8_bad cX8_bad 1 (some .int) 0 := ⟨w_4_131, w_4_130, (ws_28), w_1_6, by decide +kernel⟩
theorem B_X8_isPlot : cS yX8_isPlot cX8_isPlot 1 (some .boolean) 1 := ⟨w_4_144, w_4_143, w_1_6, by decide +kernel⟩
theorem B_X8_badly : cV yX8_badly cX8_badly 2 (some .int) 1 := ⟨w_4_151, w_4_150, (ws_29), w_1_6, by decide +kernel⟩
theorem B_X8_isTilt : cS yX8_isTilt cX8_isTilt 1 (some .boolean) 1 := ⟨w_4_147, w_4_146, w_1_6, by decide +kernel⟩
theorem B_X8_full : cV yX8_full cX8_full 1 (some .int) 0 := ⟨w_4_159, w_4_158, (ws_30), w_1_6, by decide +kernel⟩
theorem B_X8_copies : cS yX8_copies cX8_copies 6 none 5 := ⟨w_5_17, w_5_16, w_1_6, by decide +kernel⟩
theorem B_X8_notes : cV yX8_notes cX8_notes 1 none 0 := ⟨w_5_25, w_5_24, (ws_42), w_1_6, by decide +kernel⟩
theorem B_X8_builds : cS yX8_builds cX8_builds 7 none 4 := ⟨w_4_236, w_4_235, w_1_6, by decide +kernel⟩
theorem B_X8_passes : cS yX8_passes cX8_passes 1 none 1 := ⟨w_4_217, w_4_216, w_1_6, by decide +kernel⟩
theorem B_X8_no : cV yX8_no cX8_no 1 (some .int) 0 := ⟨w_5_37, w_5_36, (ws_43), w_1_6, by decide +kernel⟩
theorem B_X8_top : cS yX8_top cX8_top 2 (some .int) 2 := ⟨w_5_52, w_5_51, w_1_6, by decide +kernel⟩
theorem dX8_town_0 : decode cX8_town 0 = .ok (.iload_n 1, 1) := by decide +kernel
theorem dX8_town_1 : decode cX8_town 1 = .ok (.invokestatic 82, 3) := by decide +kernel
theorem dX8_town_4 : decode cX8_town 4 = .ok (.ifCond .ne 8, 3) := by decide +kernel
theorem dX8_town_7 : decode cX8_town 7 = .ok (.aload_n 0, 1) := by decide +kernel
theorem dX8_town_8 : decode cX8_town 8 = .ok (.invokevirtual 86, 3) := by decide +kernel
theorem dX8_town_11 : decode cX8_town 11 = .ok (.ireturn, 1) := by decide +kernel
theorem dX8_town_12 : decode cX8_town 12 = .ok (.aload_n 0, 1) := by decide +kernel
theorem dX8_town_13 : decode cX8_town 13 = .ok (.getfield 13, 3) := by decide +kernel
theorem dX8_town_16 : decode cX8_town 16 = .ok (.invokestatic 90, 3) := by decide +kernel
theorem dX8_town_19 : decode cX8_town 19 = .ok (.istore_n 2, 1) := by decide +kernel
theorem dX8_town_20 : decode cX8_town 20 = .ok (.aload_n 0, 1) := by decide +kernel
theorem dX8_town_21 : decode cX8_town 21 = .ok (.getfield 13, 3) := by decide +kernel
theorem dX8_town_24 : decode cX8_town 24 = .ok (.invokestatic 94, 3) := by decide +kernel
theorem dX8_town_27 : decode cX8_town 27 = .ok (.aload_n 0, 1) := by decide +kernel
theorem dX8_town_28 : decode cX8_town 28 = .ok (.getfield 13, 3) := by decide +kernel
theorem dX8_town_31 : decode cX8_town 31 = .ok (.iconst 0, 1) := by decide +kernel
theorem dX8_town_32 : decode cX8_town 32 = .ok (.iload_n 1, 1) := by decide +kernel
theorem dX8_town_33 : decode cX8_town 33 = .ok (.iastore, 1) := by decide +kernel
theorem dX8_town_34 : decode cX8_town 34 = .ok (.iload_n 2, 1) := by decide +kernel
theorem dX8_town_35 : decode cX8_town 35 = .ok (.ireturn, 1) := by decide +kernel
theorem dX8_pull_0 : decode cX8_pull 0 = .ok (.iload_n 1, 1) := by decide +kernel
theorem dX8_pull_1 : decode cX8_pull 1 = .ok (.invokestatic 98, 3) := by decide +kernel
theorem dX8_pull_4 : decode cX8_pull 4 = .ok (.ifCond .eq 10, 3) := by decide +kernel
theorem dX8_pull_7 : decode cX8_pull 7 = .ok (.iload_n 2, 1) := by decide +kernel
theorem dX8_pull_8 : decode cX8_pull 8 = .ok (.invokestatic 101, 3) := by decide +kernel
theorem dX8_pull_11 : decode cX8_pull 11 = .ok (.ifCond .ne 10, 3) := by decide +kernel
theorem dX8_pull_14 : decode cX8_pull 14 = .ok (.aload_n 0, 1) := by decide +kernel
theorem dX8_pull_15 : decode cX8_pull 15 = .ok (.bipush (-100), 2) := by decide +kernel
theorem dX8_pull_17 : decode cX8_pull 17 = .ok (.invokevirtual 104, 3) := by decide +kernel
theorem dX8_pull_20 : decode cX8_pull 20 = .ok (.ireturn, 1) := by decide +kernel
theorem dX8_pull_21 : decode cX8_pull 21 = .ok (.aload_n 0, 1) := by decide +kernel
theorem dX8_pull_22 : decode cX8_pull 22 = .ok (.getfield 13, 3) := by decide +kernel
theorem dX8_pull_25 : decode cX8_pull 25 = .ok (.bipush 69, 2) := by decide +kernel
theorem dX8_pull_27 : decode cX8_pull 27 = .ok (.iload_n 1, 1) := by decide +kernel
theorem dX8_pull_28 : decode cX8_pull 28 = .ok (.iadd, 1) := by decide +kernel
theorem dX8_pull_29 : decode cX8_pull 29 = .ok (.iaload, 1) := by decide +kernel
theorem dX8_pull_30 : decode cX8_pull 30 = .ok (.istore_n 3, 1) := by decide +kernel
theorem dX8_pull_31 : decode cX8_pull 31 = .ok (.aload_n 0, 1) := by decide +kernel
theorem dX8_pull_32 : decode cX8_pull 32 = .ok (.getfield 13, 3) := by decide +kernel
theorem dX8_pull_35 : decode cX8_pull 35 = .ok (.bipush 69, 2) := by decide +kernel
theorem dX8_pull_37 : decode cX8_pull 37 = .ok (.iload_n 1, 1) := by decide +kernel
theorem dX8_pull_38 : decode cX8_pull 38 = .ok (.iadd, 1) := by decide +kernel
theorem dX8_pull_39 : decode cX8_pull 39 = .ok (.iload_n 2, 1) := by decide +kernel
theorem dX8_pull_40 : decode cX8_pull 40 = .ok (.iastore, 1) := by decide +kernel
theorem dX8_pull_41 : decode cX8_pull 41 = .ok (.aload_n 0, 1) := by decide +kernel
theorem dX8_pull_42 : decode cX8_pull 42 = .ok (.getfield 13, 3) := by decide +kernel
theorem dX8_pull_45 : decode cX8_pull 45 = .ok (.sipush 137, 3) := by decide +kernel
theorem dX8_pull_48 : decode cX8_pull 48 = .ok (.iconst 0, 1) := by decide +kernel
theorem dX8_pull_49 : decode cX8_pull 49 = .ok (.iastore, 1) := by decide +kernel
theorem dX8_pull_50 : decode cX8_pull 50 = .ok (.iload_n 3, 1) := by decide +kernel
theorem dX8_pull_51 : decode cX8_pull 51 = .ok (.ireturn, 1) := by decide +kernel
theorem dX8_member_0 : decode cX8_member 0 = .ok (.iload_n 1, 1) := by decide +kernel
theorem dX8_member_1 : decode cX8_member 1 = .ok (.invokestatic 101, 3) := by decide +kernel
theorem dX8_member_4 : decode cX8_member 4 = .ok (.ifCond .ne 8, 3) := by decide +kernel
theorem dX8_member_7 : decode cX8_member 7 = .ok (.aload_n 0, 1) := by decide +kernel
theorem dX8_member_8 : decode cX8_member 8 = .ok (.invokevirtual 86, 3) := by decide +kernel
theorem dX8_member_11 : decode cX8_member 11 = .ok (.ireturn, 1) := by decide +kernel
theorem dX8_member_12 : decode cX8_member 12 = .ok (.aload_n 0, 1) := by decide +kernel
theorem dX8_member_13 : decode cX8_member 13 = .ok (.getfield 13, 3) := by decide +kernel
theorem dX8_member_16 : decode cX8_member 16 = .ok (.bipush 75, 2) := by decide +kernel
theorem dX8_member_18 : decode cX8_member 18 = .ok (.iaload, 1) := by decide +kernel
theorem dX8_member_19 : decode cX8_member 19 = .ok (.iconst 5, 1) := by decide +kernel
theorem dX8_member_20 : decode cX8_member 20 = .ok (.if_icmp .ne 8, 3) := by decide +kernel
theorem dX8_member_23 : decode cX8_member 23 = .ok (.aload_n 0, 1) := by decide +kernel
theorem dX8_member_24 : decode cX8_member 24 = .ok (.invokevirtual 107, 3) := by decide +kernel
theorem dX8_member_27 : decode cX8_member 27 = .ok (.ireturn, 1) := by decide +kernel
theorem dX8_member_28 : decode cX8_member 28 = .ok (.aload_n 0, 1) := by decide +kernel
theorem dX8_member_29 : decode cX8_member 29 = .ok (.getfield 13, 3) := by decide +kernel
theorem dX8_member_32 : decode cX8_member 32 = .ok (.bipush 76, 2) := by decide +kernel
theorem dX8_member_34 : decode cX8_member 34 = .ok (.aload_n 0, 1) := by decide +kernel
theorem dX8_member_35 : decode cX8_member 35 = .ok (.getfield 13, 3) := by decide +kernel
theorem dX8_member_38 : decode cX8_member 38 = .ok (.bipush 75, 2) := by decide +kernel
theorem dX8_member_40 : decode cX8_member 40 = .ok (.iaload, 1) := by decide +kernel
theorem dX8_member_41 : decode cX8_member 41 = .ok (.iadd, 1) := by decide +kernel
theorem dX8_member_42 : decode cX8_member 42 = .ok (.iload_n 1, 1) := by decide +kernel
theorem dX8_member_43 : decode cX8_member 43 = .ok (.iastore, 1) := by decide +kernel
theorem dX8_member_44 : decode cX8_member 44 = .ok (.aload_n 0, 1) := by decide +kernel
theorem dX8_member_45 : decode cX8_member 45 = .ok (.getfield 13, 3) := by decide +kernel
theorem dX8_member_48 : decode cX8_member 48 = .ok (.bipush 75, 2) := by decide +kernel
theorem dX8_member_50 : decode cX8_member 50 = .ok (.dup2, 1) := by decide +kernel
theorem dX8_member_51 : decode cX8_member 51 = .ok (.iaload, 1) := by decide +kernel
theorem dX8_member_52 : decode cX8_member 52 = .ok (.iconst 1, 1) := by decide +kernel
theorem dX8_member_53 : decode cX8_member 53 = .ok (.iadd, 1) := by decide +kernel
theorem dX8_member_54 : decode cX8_member 54 = .ok (.iastore, 1) := by decide +kernel
theorem dX8_member_55 : decode cX8_member 55 = .ok (.aload_n 0, 1) := by decide +kernel
theorem dX8_member_56 : decode cX8_member 56 = .ok (.getfield 13, 3) := by decide +kernel
theorem dX8_member_59 : decode cX8_member 59 = .ok (.sipush 137, 3) := by decide +kernel
theorem dX8_member_62 : decode cX8_member 62 = .ok (.iconst 0, 1) := by decide +kernel
theorem dX8_member_63 : decode cX8_member 63 = .ok (.iastore, 1) := by decide +kernel
theorem dX8_member_64 : decode cX8_member 64 = .ok (.aload_n 0, 1) := by decide +kernel
theorem dX8_member_65 : decode cX8_member 65 = .ok (.getfield 13, 3) := by decide +kernel
theorem dX8_member_68 : decode cX8_member 68 = .ok (.bipush 75, 2) := by decide +kernel
theorem dX8_member_70 : decode cX8_member 70 = .ok (.iaload, 1) := by decide +kernel
theorem dX8_member_71 : decode cX8_member 71 = .ok (.iconst 1, 1) := by decide +kernel
theorem dX8_member_72 : decode cX8_member 72 = .ok (.isub, 1) := by decide +kernel
theorem dX8_member_73 : decode cX8_member 73 = .ok (.ireturn, 1) := by decide +kernel
theorem dX8_type_0 : decode cX8_type 0 = .ok (.iload_n 1, 1) := by decide +kernel
theorem dX8_type_1 : decode cX8_type 1 = .ok (.iconst 0, 1) := by decide +kernel
theorem dX8_type_2 : decode cX8_type 2 = .ok (.bipush 127, 2) := by decide +kernel
theorem dX8_type_4 : decode cX8_type 4 = .ok (.invokestatic 42, 3) := by decide +kernel
theorem dX8_type_7 : decode cX8_type 7 = .ok (.ifCond .ne 8, 3) := by decide +kernel
theorem dX8_type_10 : decode cX8_type 10 = .ok (.aload_n 0, 1) := by decide +kernel
theorem dX8_type_11 : decode cX8_type 11 = .ok (.invokevirtual 86, 3) := by decide +kernel
theorem dX8_type_14 : decode cX8_type 14 = .ok (.ireturn, 1) := by decide +kernel
theorem dX8_type_15 : decode cX8_type 15 = .ok (.aload_n 0, 1) := by decide +kernel
theorem dX8_type_16 : decode cX8_type 16 = .ok (.getfield 110, 3) := by decide +kernel
theorem dX8_type_19 : decode cX8_type 19 = .ok (.sipush 150, 3) := by decide +kernel
theorem dX8_type_22 : decode cX8_type 22 = .ok (.if_icmp .ne 8, 3) := by decide +kernel
theorem dX8_type_25 : decode cX8_type 25 = .ok (.aload_n 0, 1) := by decide +kernel
theorem dX8_type_26 : decode cX8_type 26 = .ok (.invokevirtual 107, 3) := by decide +kernel
theorem dX8_type_29 : decode cX8_type 29 = .ok (.ireturn, 1) := by decide +kernel
theorem dX8_type_30 : decode cX8_type 30 = .ok (.aload_n 0, 1) := by decide +kernel
theorem dX8_type_31 : decode cX8_type 31 = .ok (.getfield 7, 3) := by decide +kernel
theorem dX8_type_34 : decode cX8_type 34 = .ok (.aload_n 0, 1) := by decide +kernel
theorem dX8_type_35 : decode cX8_type 35 = .ok (.getfield 110, 3) := by decide +kernel
theorem dX8_type_38 : decode cX8_type 38 = .ok (.iload_n 1, 1) := by decide +kernel
theorem dX8_type_39 : decode cX8_type 39 = .ok (.iastore, 1) := by decide +kernel
theorem dX8_type_40 : decode cX8_type 40 = .ok (.aload_n 0, 1) := by decide +kernel
theorem dX8_type_41 : decode cX8_type 41 = .ok (.dup, 1) := by decide +kernel
theorem dX8_type_42 : decode cX8_type 42 = .ok (.getfield 110, 3) := by decide +kernel
theorem dX8_type_45 : decode cX8_type 45 = .ok (.iconst 1, 1) := by decide +kernel
theorem dX8_type_46 : decode cX8_type 46 = .ok (.iadd, 1) := by decide +kernel
theorem dX8_type_47 : decode cX8_type 47 = .ok (.putfield 110, 3) := by decide +kernel
theorem dX8_type_50 : decode cX8_type 50 = .ok (.aload_n 0, 1) := by decide +kernel
theorem dX8_type_51 : decode cX8_type 51 = .ok (.getfield 110, 3) := by decide +kernel
theorem dX8_type_54 : decode cX8_type 54 = .ok (.ireturn, 1) := by decide +kernel
theorem dX8_clear_0 : decode cX8_clear 0 = .ok (.aload_n 0, 1) := by decide +kernel
theorem dX8_clear_1 : decode cX8_clear 1 = .ok (.getfield 110, 3) := by decide +kernel
theorem dX8_clear_4 : decode cX8_clear 4 = .ok (.istore_n 1, 1) := by decide +kernel
theorem dX8_clear_5 : decode cX8_clear 5 = .ok (.aload_n 0, 1) := by decide +kernel
theorem dX8_clear_6 : decode cX8_clear 6 = .ok (.iconst 0, 1) := by decide +kernel
theorem dX8_clear_7 : decode cX8_clear 7 = .ok (.putfield 110, 3) := by decide +kernel
theorem dX8_clear_10 : decode cX8_clear 10 = .ok (.iload_n 1, 1) := by decide +kernel
theorem dX8_clear_11 : decode cX8_clear 11 = .ok (.ireturn, 1) := by decide +kernel
theorem dX8_triesOn_0 : decode cX8_triesOn 0 = .ok (.aload_n 0, 1) := by decide +kernel
theorem dX8_triesOn_1 : decode cX8_triesOn 1 = .ok (.getfield 13, 3) := by decide +kernel
theorem dX8_triesOn_4 : decode cX8_triesOn 4 = .ok (.iconst 0, 1) := by decide +kernel
theorem dX8_triesOn_5 : decode cX8_triesOn 5 = .ok (.aload_n 0, 1) := by decide +kernel
theorem dX8_triesOn_6 : decode cX8_triesOn 6 = .ok (.getfield 19, 3) := by decide +kernel
theorem dX8_triesOn_9 : decode cX8_triesOn 9 = .ok (.iconst 0, 1) := by decide +kernel
theorem dX8_triesOn_10 : decode cX8_triesOn 10 = .ok (.sipush 137, 3) := by decide +kernel
theorem dX8_triesOn_13 : decode cX8_triesOn 13 = .ok (.invokestatic 172, 3) := by decide +kernel
theorem dX8_triesOn_16 : decode cX8_triesOn 16 = .ok (.return_, 1) := by decide +kernel
theorem dX8_notes_0 : decode cX8_notes 0 = .ok (.aload_n 0, 1) := by decide +kernel
theorem dX8_notes_1 : decode cX8_notes 1 = .ok (.getfield 13, 3) := by decide +kernel
theorem dX8_notes_4 : decode cX8_notes 4 = .ok (.sipush 137, 3) := by decide +kernel
theorem dX8_notes_7 : decode cX8_notes 7 = .ok (.iaload, 1) := by decide +kernel
theorem dX8_notes_8 : decode cX8_notes 8 = .ok (.bipush 8, 2) := by decide +kernel
theorem dX8_notes_10 : decode cX8_notes 10 = .ok (.if_icmp .ne 35, 3) := by decide +kernel
theorem dX8_notes_13 : decode cX8_notes 13 = .ok (.aload_n 0, 1) := by decide +kernel
theorem dX8_notes_14 : decode cX8_notes 14 = .ok (.getfield 13, 3) := by decide +kernel
theorem dX8_notes_17 : decode cX8_notes 17 = .ok (.sipush 206, 3) := by decide +kernel
theorem dX8_notes_20 : decode cX8_notes 20 = .ok (.aload_n 0, 1) := by decide +kernel
theorem dX8_notes_21 : decode cX8_notes 21 = .ok (.getfield 13, 3) := by decide +kernel
theorem dX8_notes_24 : decode cX8_notes 24 = .ok (.sipush 138, 3) := by decide +kernel
theorem dX8_notes_27 : decode cX8_notes 27 = .ok (.sipush 476, 3) := by decide +kernel
theorem dX8_notes_30 : decode cX8_notes 30 = .ok (.invokestatic 172, 3) := by decide +kernel
theorem dX8_notes_33 : decode cX8_notes 33 = .ok (.aload_n 0, 1) := by decide +kernel
theorem dX8_notes_34 : decode cX8_notes 34 = .ok (.getfield 13, 3) := by decide +kernel
theorem dX8_notes_37 : decode cX8_notes 37 = .ok (.sipush 137, 3) := by decide +kernel
theorem dX8_notes_40 : decode cX8_notes 40 = .ok (.dup2, 1) := by decide +kernel
theorem dX8_notes_41 : decode cX8_notes 41 = .ok (.iaload, 1) := by decide +kernel
theorem dX8_notes_42 : decode cX8_notes 42 = .ok (.iconst 1, 1) := by decide +kernel
theorem dX8_notes_43 : decode cX8_notes 43 = .ok (.isub, 1) := by decide +kernel
theorem dX8_notes_44 : decode cX8_notes 44 = .ok (.iastore, 1) := by decide +kernel
theorem dX8_notes_45 : decode cX8_notes 45 = .ok (.aload_n 0, 1) := by decide +kernel
theorem dX8_notes_46 : decode cX8_notes 46 = .ok (.getfield 13, 3) := by decide +kernel
theorem dX8_notes_49 : decode cX8_notes 49 = .ok (.iconst 1, 1) := by decide +kernel
theorem dX8_notes_50 : decode cX8_notes 50 = .ok (.aload_n 0, 1) := by decide +kernel
theorem dX8_notes_51 : decode cX8_notes 51 = .ok (.getfield 13, 3) := by decide +kernel
theorem dX8_notes_54 : decode cX8_notes 54 = .ok (.sipush 138, 3) := by decide +kernel
theorem dX8_notes_57 : decode cX8_notes 57 = .ok (.bipush 68, 2) := by decide +kernel
theorem dX8_notes_59 : decode cX8_notes 59 = .ok (.aload_n 0, 1) := by decide +kernel
theorem dX8_notes_60 : decode cX8_notes 60 = .ok (.getfield 13, 3) := by decide +kernel
theorem dX8_notes_63 : decode cX8_notes 63 = .ok (.sipush 137, 3) := by decide +kernel
theorem dX8_notes_66 : decode cX8_notes 66 = .ok (.iaload, 1) := by decide +kernel
theorem dX8_notes_67 : decode cX8_notes 67 = .ok (.imul, 1) := by decide +kernel
theorem dX8_notes_68 : decode cX8_notes 68 = .ok (.iadd, 1) := by decide +kernel
theorem dX8_notes_69 : decode cX8_notes 69 = .ok (.bipush 68, 2) := by decide +kernel
theorem dX8_notes_71 : decode cX8_notes 71 = .ok (.invokestatic 172, 3) := by decide +kernel
theorem dX8_notes_74 : decode cX8_notes 74 = .ok (.aload_n 0, 1) := by decide +kernel
theorem dX8_notes_75 : decode cX8_notes 75 = .ok (.getfield 13, 3) := by decide +kernel
theorem dX8_notes_78 : decode cX8_notes 78 = .ok (.sipush 137, 3) := by decide +kernel
theorem dX8_notes_81 : decode cX8_notes 81 = .ok (.dup2, 1) := by decide +kernel
theorem dX8_notes_82 : decode cX8_notes 82 = .ok (.iaload, 1) := by decide +kernel
theorem dX8_notes_83 : decode cX8_notes 83 = .ok (.iconst 1, 1) := by decide +kernel
theorem dX8_notes_84 : decode cX8_notes 84 = .ok (.iadd, 1) := by decide +kernel
theorem dX8_notes_85 : decode cX8_notes 85 = .ok (.iastore, 1) := by decide +kernel
theorem dX8_notes_86 : decode cX8_notes 86 = .ok (.return_, 1) := by decide +kernel
theorem dX8_build_0 : decode cX8_build 0 = .ok (.iload_n 1, 1) := by decide +kernel
theorem dX8_build_1 : decode cX8_build 1 = .ok (.invokestatic 98, 3) := by decide +kernel
theorem dX8_build_4 : decode cX8_build 4 = .ok (.ifCond .eq 19, 3) := by decide +kernel
theorem dX8_build_7 : decode cX8_build 7 = .ok (.iload_n 2, 1) := by decide +kernel
theorem dX8_build_8 : decode cX8_build 8 = .ok (.invokestatic 82, 3) := by decide +kernel
theorem dX8_build_11 : decode cX8_build 11 = .ok (.ifCond .eq 12, 3) := by decide +kernel
theorem dX8_build_14 : decode cX8_build 14 = .ok (.iload_n 3, 1) := by decide +kernel
theorem dX8_build_15 : decode cX8_build 15 = .ok (.iconst 0, 1) := by decide +kernel
theorem dX8_build_16 : decode cX8_build 16 = .ok (.iconst 1, 1) := by decide +kernel
theorem dX8_build_17 : decode cX8_build 17 = .ok (.invokestatic 42, 3) := by decide +kernel
theorem dX8_build_20 : decode cX8_build 20 = .ok (.ifCond .ne 8, 3) := by decide +kernel
theorem dX8_build_23 : decode cX8_build 23 = .ok (.aload_n 0, 1) := by decide +kernel
theorem dX8_build_24 : decode cX8_build 24 = .ok (.invokevirtual 86, 3) := by decide +kernel
theorem dX8_build_27 : decode cX8_build 27 = .ok (.ireturn, 1) := by decide +kernel
theorem dX8_build_28 : decode cX8_build 28 = .ok (.aload_n 0, 1) := by decide +kernel
theorem dX8_build_29 : decode cX8_build 29 = .ok (.getfield 13, 3) := by decide +kernel
theorem dX8_build_32 : decode cX8_build 32 = .ok (.iconst 3, 1) := by decide +kernel
theorem dX8_build_33 : decode cX8_build 33 = .ok (.iload_n 1, 1) := by decide +kernel
theorem dX8_build_34 : decode cX8_build 34 = .ok (.iadd, 1) := by decide +kernel
theorem dX8_build_35 : decode cX8_build 35 = .ok (.iaload, 1) := by decide +kernel
theorem dX8_build_36 : decode cX8_build 36 = .ok (.iconst 5, 1) := by decide +kernel
theorem dX8_build_37 : decode cX8_build 37 = .ok (.if_icmp .ne 8, 3) := by decide +kernel
theorem dX8_build_40 : decode cX8_build 40 = .ok (.aload_n 0, 1) := by decide +kernel
theorem dX8_build_41 : decode cX8_build 41 = .ok (.invokevirtual 107, 3) := by decide +kernel
theorem dX8_build_44 : decode cX8_build 44 = .ok (.ireturn, 1) := by decide +kernel
theorem dX8_build_45 : decode cX8_build 45 = .ok (.aload_n 0, 1) := by decide +kernel
theorem dX8_build_46 : decode cX8_build 46 = .ok (.invokevirtual 176, 3) := by decide +kernel
theorem dX8_build_49 : decode cX8_build 49 = .ok (.aload_n 0, 1) := by decide +kernel
theorem dX8_build_50 : decode cX8_build 50 = .ok (.getfield 13, 3) := by decide +kernel
theorem dX8_build_53 : decode cX8_build 53 = .ok (.iload_n 1, 1) := by decide +kernel
theorem dX8_build_54 : decode cX8_build 54 = .ok (.iload_n 2, 1) := by decide +kernel
theorem dX8_build_55 : decode cX8_build 55 = .ok (.iload_n 3, 1) := by decide +kernel
theorem dX8_build_56 : decode cX8_build 56 = .ok (.iconst 1, 1) := by decide +kernel
theorem dX8_build_57 : decode cX8_build 57 = .ok (.if_icmp .ne 7, 3) := by decide +kernel
theorem dX8_build_60 : decode cX8_build 60 = .ok (.iconst 0, 1) := by decide +kernel
theorem dX8_build_61 : decode cX8_build 61 = .ok (.goto 9, 3) := by decide +kernel
theorem dX8_build_64 : decode cX8_build 64 = .ok (.aload_n 0, 1) := by decide +kernel
theorem dX8_build_65 : decode cX8_build 65 = .ok (.getfield 13, 3) := by decide +kernel
theorem dX8_build_68 : decode cX8_build 68 = .ok (.iconst 1, 1) := by decide +kernel
theorem dX8_build_69 : decode cX8_build 69 = .ok (.iaload, 1) := by decide +kernel
theorem dX8_build_70 : decode cX8_build 70 = .ok (.invokestatic 146, 3) := by decide +kernel
theorem dX8_build_73 : decode cX8_build 73 = .ok (.aload_n 0, 1) := by decide +kernel
theorem dX8_build_74 : decode cX8_build 74 = .ok (.getfield 13, 3) := by decide +kernel
theorem dX8_build_77 : decode cX8_build 77 = .ok (.iconst 3, 1) := by decide +kernel
theorem dX8_build_78 : decode cX8_build 78 = .ok (.iload_n 1, 1) := by decide +kernel
theorem dX8_build_79 : decode cX8_build 79 = .ok (.iadd, 1) := by decide +kernel
theorem dX8_build_80 : decode cX8_build 80 = .ok (.iaload, 1) := by decide +kernel
theorem dX8_build_81 : decode cX8_build 81 = .ok (.ireturn, 1) := by decide +kernel
theorem dX8_year_0 : decode cX8_year 0 = .ok (.iload_n 1, 1) := by decide +kernel
theorem dX8_year_1 : decode cX8_year 1 = .ok (.iconst 1, 1) := by decide +kernel
theorem dX8_year_2 : decode cX8_year 2 = .ok (.bipush 99, 2) := by decide +kernel
theorem dX8_year_4 : decode cX8_year 4 = .ok (.invokestatic 42, 3) := by decide +kernel
theorem dX8_year_7 : decode cX8_year 7 = .ok (.ifCond .ne 10, 3) := by decide +kernel
theorem dX8_year_10 : decode cX8_year 10 = .ok (.aload_n 0, 1) := by decide +kernel
theorem dX8_year_11 : decode cX8_year 11 = .ok (.bipush (-100), 2) := by decide +kernel
theorem dX8_year_13 : decode cX8_year 13 = .ok (.invokevirtual 104, 3) := by decide +kernel
theorem dX8_year_16 : decode cX8_year 16 = .ok (.ireturn, 1) := by decide +kernel
theorem dX8_year_17 : decode cX8_year 17 = .ok (.aload_n 0, 1) := by decide +kernel
theorem dX8_year_18 : decode cX8_year 18 = .ok (.invokevirtual 176, 3) := by decide +kernel
theorem dX8_year_21 : decode cX8_year 21 = .ok (.iconst 0, 1) := by decide +kernel
theorem dX8_year_22 : decode cX8_year 22 = .ok (.istore_n 2, 1) := by decide +kernel
theorem dX8_year_23 : decode cX8_year 23 = .ok (.iload_n 2, 1) := by decide +kernel
theorem dX8_year_24 : decode cX8_year 24 = .ok (.iload_n 1, 1) := by decide +kernel
theorem dX8_year_25 : decode cX8_year 25 = .ok (.if_icmp .ge 28, 3) := by decide +kernel
theorem dX8_year_28 : decode cX8_year 28 = .ok (.aload_n 0, 1) := by decide +kernel
theorem dX8_year_29 : decode cX8_year 29 = .ok (.getfield 13, 3) := by decide +kernel
theorem dX8_year_32 : decode cX8_year 32 = .ok (.iconst 2, 1) := by decide +kernel
theorem dX8_year_33 : decode cX8_year 33 = .ok (.iaload, 1) := by decide +kernel
theorem dX8_year_34 : decode cX8_year 34 = .ok (.sipush 9999, 3) := by decide +kernel
theorem dX8_year_37 : decode cX8_year 37 = .ok (.if_icmp .ge 16, 3) := by decide +kernel
theorem dX8_year_40 : decode cX8_year 40 = .ok (.aload_n 0, 1) := by decide +kernel
theorem dX8_year_41 : decode cX8_year 41 = .ok (.getfield 13, 3) := by decide +kernel
theorem dX8_year_44 : decode cX8_year 44 = .ok (.invokestatic 150, 3) := by decide +kernel
theorem dX8_year_47 : decode cX8_year 47 = .ok (.iinc 2 1, 3) := by decide +kernel
theorem dX8_year_50 : decode cX8_year 50 = .ok (.goto (-27), 3) := by decide +kernel
theorem dX8_year_53 : decode cX8_year 53 = .ok (.aload_n 0, 1) := by decide +kernel
theorem dX8_year_54 : decode cX8_year 54 = .ok (.getfield 13, 3) := by decide +kernel
theorem dX8_year_57 : decode cX8_year 57 = .ok (.iconst 1, 1) := by decide +kernel
theorem dX8_year_58 : decode cX8_year 58 = .ok (.iaload, 1) := by decide +kernel
theorem dX8_year_59 : decode cX8_year 59 = .ok (.ireturn, 1) := by decide +kernel
theorem dX8_undo_0 : decode cX8_undo 0 = .ok (.aload_n 0, 1) := by decide +kernel
theorem dX8_undo_1 : decode cX8_undo 1 = .ok (.getfield 13, 3) := by decide +kernel
theorem dX8_undo_4 : decode cX8_undo 4 = .ok (.sipush 137, 3) := by decide +kernel
theorem dX8_undo_7 : decode cX8_undo 7 = .ok (.iaload, 1) := by decide +kernel
theorem dX8_undo_8 : decode cX8_undo 8 = .ok (.ifCond .ne 8, 3) := by decide +kernel
theorem dX8_undo_11 : decode cX8_undo 11 = .ok (.aload_n 0, 1) := by decide +kernel
theorem dX8_undo_12 : decode cX8_undo 12 = .ok (.invokevirtual 179, 3) := by decide +kernel
theorem dX8_undo_15 : decode cX8_undo 15 = .ok (.ireturn, 1) := by decide +kernel
theorem dX8_undo_16 : decode cX8_undo 16 = .ok (.aload_n 0, 1) := by decide +kernel
theorem dX8_undo_17 : decode cX8_undo 17 = .ok (.getfield 13, 3) := by decide +kernel
theorem dX8_undo_20 : decode cX8_undo 20 = .ok (.sipush 137, 3) := by decide +kernel
theorem dX8_undo_23 : decode cX8_undo 23 = .ok (.dup2, 1) := by decide +kernel
theorem dX8_undo_24 : decode cX8_undo 24 = .ok (.iaload, 1) := by decide +kernel
theorem dX8_undo_25 : decode cX8_undo 25 = .ok (.iconst 1, 1) := by decide +kernel
theorem dX8_undo_26 : decode cX8_undo 26 = .ok (.isub, 1) := by decide +kernel
theorem dX8_undo_27 : decode cX8_undo 27 = .ok (.iastore, 1) := by decide +kernel
theorem dX8_undo_28 : decode cX8_undo 28 = .ok (.aload_n 0, 1) := by decide +kernel
theorem dX8_undo_29 : decode cX8_undo 29 = .ok (.getfield 13, 3) := by decide +kernel
theorem dX8_undo_32 : decode cX8_undo 32 = .ok (.sipush 138, 3) := by decide +kernel
theorem dX8_undo_35 : decode cX8_undo 35 = .ok (.bipush 68, 2) := by decide +kernel
theorem dX8_undo_37 : decode cX8_undo 37 = .ok (.aload_n 0, 1) := by decide +kernel
theorem dX8_undo_38 : decode cX8_undo 38 = .ok (.getfield 13, 3) := by decide +kernel
theorem dX8_undo_41 : decode cX8_undo 41 = .ok (.sipush 137, 3) := by decide +kernel
theorem dX8_undo_44 : decode cX8_undo 44 = .ok (.iaload, 1) := by decide +kernel
theorem dX8_undo_45 : decode cX8_undo 45 = .ok (.imul, 1) := by decide +kernel
theorem dX8_undo_46 : decode cX8_undo 46 = .ok (.iadd, 1) := by decide +kernel
theorem dX8_undo_47 : decode cX8_undo 47 = .ok (.aload_n 0, 1) := by decide +kernel
theorem dX8_undo_48 : decode cX8_undo 48 = .ok (.getfield 13, 3) := by decide +kernel
theorem dX8_undo_51 : decode cX8_undo 51 = .ok (.iconst 1, 1) := by decide +kernel
theorem dX8_undo_52 : decode cX8_undo 52 = .ok (.bipush 68, 2) := by decide +kernel
theorem dX8_undo_54 : decode cX8_undo 54 = .ok (.invokestatic 172, 3) := by decide +kernel
theorem dX8_undo_57 : decode cX8_undo 57 = .ok (.aload_n 0, 1) := by decide +kernel
theorem dX8_undo_58 : decode cX8_undo 58 = .ok (.getfield 13, 3) := by decide +kernel
theorem dX8_undo_61 : decode cX8_undo 61 = .ok (.iconst 2, 1) := by decide +kernel
theorem dX8_undo_62 : decode cX8_undo 62 = .ok (.iaload, 1) := by decide +kernel
theorem dX8_undo_63 : decode cX8_undo 63 = .ok (.ireturn, 1) := by decide +kernel
theorem dX8_now_0 : decode cX8_now 0 = .ok (.iload_n 1, 1) := by decide +kernel
theorem dX8_now_1 : decode cX8_now 1 = .ok (.iconst 0, 1) := by decide +kernel
theorem dX8_now_2 : decode cX8_now 2 = .ok (.iconst 3, 1) := by decide +kernel
theorem dX8_now_3 : decode cX8_now 3 = .ok (.invokestatic 42, 3) := by decide +kernel
theorem dX8_now_6 : decode cX8_now 6 = .ok (.ifCond .ne 12, 3) := by decide +kernel
theorem dX8_now_9 : decode cX8_now 9 = .ok (.aload_n 0, 1) := by decide +kernel
theorem dX8_now_10 : decode cX8_now 10 = .ok (.bipush (-100), 2) := by decide +kernel
theorem dX8_now_12 : decode cX8_now 12 = .ok (.invokevirtual 104, 3) := by decide +kernel
theorem dX8_now_15 : decode cX8_now 15 = .ok (.goto 30, 3) := by decide +kernel
theorem dX8_now_18 : decode cX8_now 18 = .ok (.iload_n 1, 1) := by decide +kernel
theorem dX8_now_19 : decode cX8_now 19 = .ok (.iconst 3, 1) := by decide +kernel
theorem dX8_now_20 : decode cX8_now 20 = .ok (.if_icmp .ne 19, 3) := by decide +kernel
theorem dX8_now_23 : decode cX8_now 23 = .ok (.aload_n 0, 1) := by decide +kernel
theorem dX8_now_24 : decode cX8_now 24 = .ok (.getfield 13, 3) := by decide +kernel
theorem dX8_now_27 : decode cX8_now 27 = .ok (.aload_n 0, 1) := by decide +kernel
theorem dX8_now_28 : decode cX8_now 28 = .ok (.getfield 13, 3) := by decide +kernel
theorem dX8_now_31 : decode cX8_now 31 = .ok (.iconst 2, 1) := by decide +kernel
theorem dX8_now_32 : decode cX8_now 32 = .ok (.iaload, 1) := by decide +kernel
theorem dX8_now_33 : decode cX8_now 33 = .ok (.invokestatic 75, 3) := by decide +kernel
theorem dX8_now_36 : decode cX8_now 36 = .ok (.goto 9, 3) := by decide +kernel
theorem dX8_now_39 : decode cX8_now 39 = .ok (.aload_n 0, 1) := by decide +kernel
theorem dX8_now_40 : decode cX8_now 40 = .ok (.getfield 13, 3) := by decide +kernel
theorem dX8_now_43 : decode cX8_now 43 = .ok (.iload_n 1, 1) := by decide +kernel
theorem dX8_now_44 : decode cX8_now 44 = .ok (.iaload, 1) := by decide +kernel
theorem dX8_now_45 : decode cX8_now 45 = .ok (.ireturn, 1) := by decide +kernel
theorem dX8_of_0 : decode cX8_of 0 = .ok (.iload_n 1, 1) := by decide +kernel
theorem dX8_of_1 : decode cX8_of 1 = .ok (.invokestatic 98, 3) := by decide +kernel
theorem dX8_of_4 : decode cX8_of 4 = .ok (.ifCond .eq 30, 3) := by decide +kernel
theorem dX8_of_7 : decode cX8_of 7 = .ok (.iload_n 3, 1) := by decide +kernel
theorem dX8_of_8 : decode cX8_of 8 = .ok (.iconst 0, 1) := by decide +kernel
theorem dX8_of_9 : decode cX8_of 9 = .ok (.iconst 2, 1) := by decide +kernel
theorem dX8_of_10 : decode cX8_of 10 = .ok (.invokestatic 42, 3) := by decide +kernel
theorem dX8_of_13 : decode cX8_of 13 = .ok (.ifCond .eq 21, 3) := by decide +kernel
theorem dX8_of_16 : decode cX8_of 16 = .ok (.iload_n 2, 1) := by decide +kernel
theorem dX8_of_17 : decode cX8_of 17 = .ok (.iconst 0, 1) := by decide +kernel
theorem dX8_of_18 : decode cX8_of 18 = .ok (.aload_n 0, 1) := by decide +kernel
theorem dX8_of_19 : decode cX8_of 19 = .ok (.getfield 13, 3) := by decide +kernel
theorem dX8_of_22 : decode cX8_of 22 = .ok (.iconst 3, 1) := by decide +kernel
theorem dX8_of_23 : decode cX8_of 23 = .ok (.iload_n 1, 1) := by decide +kernel
theorem dX8_of_24 : decode cX8_of 24 = .ok (.iadd, 1) := by decide +kernel
theorem dX8_of_25 : decode cX8_of 25 = .ok (.iaload, 1) := by decide +kernel
theorem dX8_of_26 : decode cX8_of 26 = .ok (.iconst 1, 1) := by decide +kernel
theorem dX8_of_27 : decode cX8_of 27 = .ok (.isub, 1) := by decide +kernel
theorem dX8_of_28 : decode cX8_of 28 = .ok (.invokestatic 42, 3) := by decide +kernel
theorem dX8_of_31 : decode cX8_of 31 = .ok (.ifCond .ne 10, 3) := by decide +kernel
theorem dX8_of_34 : decode cX8_of 34 = .ok (.aload_n 0, 1) := by decide +kernel
theorem dX8_of_35 : decode cX8_of 35 = .ok (.bipush (-100), 2) := by decide +kernel
theorem dX8_of_37 : decode cX8_of 37 = .ok (.invokevirtual 104, 3) := by decide +kernel
theorem dX8_of_40 : decode cX8_of 40 = .ok (.ireturn, 1) := by decide +kernel
theorem dX8_of_41 : decode cX8_of 41 = .ok (.iload_n 3, 1) := by decide +kernel
theorem dX8_of_42 : decode cX8_of 42 = .ok (.iconst 2, 1) := by decide +kernel
theorem dX8_of_43 : decode cX8_of 43 = .ok (.if_icmp .ne 15, 3) := by decide +kernel
theorem dX8_of_46 : decode cX8_of 46 = .ok (.aload_n 0, 1) := by decide +kernel
theorem dX8_of_47 : decode cX8_of 47 = .ok (.getfield 13, 3) := by decide +kernel
theorem dX8_of_50 : decode cX8_of 50 = .ok (.iload_n 1, 1) := by decide +kernel
theorem dX8_of_51 : decode cX8_of 51 = .ok (.iload_n 2, 1) := by decide +kernel
theorem dX8_of_52 : decode cX8_of 52 = .ok (.invokestatic 63, 3) := by decide +kernel
theorem dX8_of_55 : decode cX8_of 55 = .ok (.goto 15, 3) := by decide +kernel
theorem dX8_of_58 : decode cX8_of 58 = .ok (.aload_n 0, 1) := by decide +kernel
theorem dX8_of_59 : decode cX8_of 59 = .ok (.getfield 13, 3) := by decide +kernel
theorem dX8_of_62 : decode cX8_of 62 = .ok (.iload_n 1, 1) := by decide +kernel
theorem dX8_of_63 : decode cX8_of 63 = .ok (.iload_n 2, 1) := by decide +kernel
theorem dX8_of_64 : decode cX8_of 64 = .ok (.invokestatic 57, 3) := by decide +kernel
theorem dX8_of_67 : decode cX8_of 67 = .ok (.iload_n 3, 1) := by decide +kernel
theorem dX8_of_68 : decode cX8_of 68 = .ok (.iadd, 1) := by decide +kernel
theorem dX8_of_69 : decode cX8_of 69 = .ok (.iaload, 1) := by decide +kernel
theorem dX8_of_70 : decode cX8_of 70 = .ok (.ireturn, 1) := by decide +kernel
theorem dX8_plot_0 : decode cX8_plot 0 = .ok (.iload_n 1, 1) := by decide +kernel
theorem dX8_plot_1 : decode cX8_plot 1 = .ok (.invokestatic 98, 3) := by decide +kernel
theorem dX8_plot_4 : decode cX8_plot 4 = .ok (.ifCond .eq 12, 3) := by decide +kernel
theorem dX8_plot_7 : decode cX8_plot 7 = .ok (.iload_n 2, 1) := by decide +kernel
theorem dX8_plot_8 : decode cX8_plot 8 = .ok (.iconst 0, 1) := by decide +kernel
theorem dX8_plot_9 : decode cX8_plot 9 = .ok (.iconst 2, 1) := by decide +kernel
theorem dX8_plot_10 : decode cX8_plot 10 = .ok (.invokestatic 42, 3) := by decide +kernel
theorem dX8_plot_13 : decode cX8_plot 13 = .ok (.ifCond .ne 10, 3) := by decide +kernel
theorem dX8_plot_16 : decode cX8_plot 16 = .ok (.aload_n 0, 1) := by decide +kernel
theorem dX8_plot_17 : decode cX8_plot 17 = .ok (.bipush (-100), 2) := by decide +kernel
theorem dX8_plot_19 : decode cX8_plot 19 = .ok (.invokevirtual 104, 3) := by decide +kernel
theorem dX8_plot_22 : decode cX8_plot 22 = .ok (.ireturn, 1) := by decide +kernel
theorem dX8_plot_23 : decode cX8_plot 23 = .ok (.iload_n 2, 1) := by decide +kernel
theorem dX8_plot_24 : decode cX8_plot 24 = .ok (.ifCond .ne 14, 3) := by decide +kernel
theorem dX8_plot_27 : decode cX8_plot 27 = .ok (.aload_n 0, 1) := by decide +kernel
theorem dX8_plot_28 : decode cX8_plot 28 = .ok (.getfield 13, 3) := by decide +kernel
theorem dX8_plot_31 : decode cX8_plot 31 = .ok (.iconst 3, 1) := by decide +kernel
theorem dX8_plot_32 : decode cX8_plot 32 = .ok (.iload_n 1, 1) := by decide +kernel
theorem dX8_plot_33 : decode cX8_plot 33 = .ok (.iadd, 1) := by decide +kernel
theorem dX8_plot_34 : decode cX8_plot 34 = .ok (.iaload, 1) := by decide +kernel
theorem dX8_plot_35 : decode cX8_plot 35 = .ok (.goto 28, 3) := by decide +kernel
theorem dX8_plot_38 : decode cX8_plot 38 = .ok (.iload_n 2, 1) := by decide +kernel
theorem dX8_plot_39 : decode cX8_plot 39 = .ok (.iconst 1, 1) := by decide +kernel
theorem dX8_plot_40 : decode cX8_plot 40 = .ok (.if_icmp .ne 14, 3) := by decide +kernel
theorem dX8_plot_43 : decode cX8_plot 43 = .ok (.aload_n 0, 1) := by decide +kernel
theorem dX8_plot_44 : decode cX8_plot 44 = .ok (.getfield 13, 3) := by decide +kernel
theorem dX8_plot_47 : decode cX8_plot 47 = .ok (.iload_n 1, 1) := by decide +kernel
theorem dX8_plot_48 : decode cX8_plot 48 = .ok (.invokestatic 182, 3) := by decide +kernel
theorem dX8_plot_51 : decode cX8_plot 51 = .ok (.goto 12, 3) := by decide +kernel
theorem dX8_plot_54 : decode cX8_plot 54 = .ok (.aload_n 0, 1) := by decide +kernel
theorem dX8_plot_55 : decode cX8_plot 55 = .ok (.getfield 13, 3) := by decide +kernel
theorem dX8_plot_58 : decode cX8_plot 58 = .ok (.iload_n 1, 1) := by decide +kernel
theorem dX8_plot_59 : decode cX8_plot 59 = .ok (.iconst (-1), 1) := by decide +kernel
theorem dX8_plot_60 : decode cX8_plot 60 = .ok (.invokestatic 63, 3) := by decide +kernel
theorem dX8_plot_63 : decode cX8_plot 63 = .ok (.ireturn, 1) := by decide +kernel
noncomputable def sp_X8_town (p1 : Int32) (fa0_town : Nat → Int32) (fa0_refused : Nat → Int32) : Option (Int32 × (Nat → Int32) × (Nat → Int32)) := if (sp_X8_isKind p1) = 0 then (lt_ (sp_X8_bad fa0_refused) fun z4 => some (z4.1, fa0_town, z4.2)) else (Option.bind (sp_X8_storeys fa0_town) fun z2 => Option.bind (sp_X8_empties fa0_town) fun z3 => some (z2, (upd z3 ((0 : Int32)).toNatClampNeg p1), fa0_refused))
set_option maxHeartbeats 4000000 in
set_option maxRecDepth 100000 in
theorem c_X8_town (l : Launch) (E : wE) (a0 a0_text a0_town a0_draft a0_tried a0_images a0_kept a0_refused a0_line a0_best : Nat) (p1 : Int32) (a0_letters : Int32) (a0_above : Int64) (a0_below : Int64) (a0_at : Int32) (a0_start : Int32) (a0_isWell : Int32) (a0_faultAt : Int32) (fa0_town : Nat → Int32) (fa0_refused : Nat → Int32) (z_0 : Int32) (z_1 : (Nat → Int32)) (z_2 : (Nat → Int32)) (hsp : sp_X8_town p1 fa0_town fa0_refused = some (z_0, z_1, z_2)) : MW l yX8_town cX8_town 3 (some .int) 2 E [.ref a0, .int p1] [(a0, .inr (5, [.ref a0_text, .int a0_letters, .ref a0_town, .ref a0_draft, .ref a0_tried, .ref a0_images, .ref a0_kept, .ref a0_refused, .long a0_above, .long a0_below, .ref a0_line, .ref a0_best, .int a0_at, .int a0_start, .int a0_isWell, .int a0_faultAt])), (a0_town, aI E 682 fa0_town), (a0_refused, aI E 3 fa0_refused)] (some (.int z_0)) [(a0, .inr (5, [.ref a0_text, .int a0_letters, .ref a0_town, .ref a0_draft, .ref a0_tried, .ref a0_images, .ref a0_kept, .ref a0_refused, .long a0_above, .long a0_below, .ref a0_line, .ref a0_best, .int a0_at, .int a0_start, .int a0_isWell, .int a0_faultAt])), (a0_town, aI E 682 z_1), (a0_refused, aI E 3 z_2)] := by
  refine MW.of (by decide +kernel) (Nat.le_of_ble_eq_true rfl) ?_
  intro p e s m below meth c ls A hX hK hP hD hS hA hl
  have hX : CX p s m [.ref a0, .int p1].toArray meth c cX8_town 3 (some .int) RX8 := hX
  have hx := hX.1; have hb := hX.2.1; have hts := hX.2.2.2.2.1; have hown := hX.2.2.2.2.2.1
  have hl : lv_has ls 3 [(0, .ref a0), (1, .int p1)] := hl
  have hP : wP E [(a0, .inr (5, [.ref a0_text, .int a0_letters, .ref a0_town, .ref a0_draft, .ref a0_tried, .ref a0_images, .ref a0_kept, .ref a0_refused, .long a0_above, .long a0_below, .ref a0_line, .ref a0_best, .int a0_at, .int a0_start, .int a0_isWell, .int a0_faultAt])), (a0_town, aI E 682 fa0_town), (a0_refused, aI E 3 fa0_refused)] s.heap := hP
  have hsp : (if (sp_X8_isKind p1) = 0 then (lt_ (sp_X8_bad fa0_refused) fun z4 => some (z4.1, fa0_town, z4.2)) else (Option.bind (sp_X8_storeys fa0_town) fun z2 => Option.bind (sp_X8_empties fa0_town) fun z3 => some (z2, (upd z3 ((0 : Int32)).toNatClampNeg p1), fa0_refused))) = some (z_0, z_1, z_2) := hsp
  refine lv_iload_n hx hb dX8_town_0 rfl (lv_at hl 1 rfl) (W.pc 1 rfl ?_)
  refine kSR (st1 := [.int (sp_X8_isKind p1)]) hX (c_X8_isKind l E p1 _ rfl) B_X8_isKind w_4_122 hK (hP.pick [] rfl) rfl hl.1 rfl (Nat.le_of_ble_eq_true rfl) ⟨Nat.le_of_ble_eq_true rfl, Nat.le_of_ble_eq_true rfl⟩ dX8_town_1 rfl (W.pc 4 rfl ?_)
  refine lv_if_ne (tgt := 12) hx hb dX8_town_4 (by decide) (fun c1 => ?_) (fun c1 => W.pc 7 rfl ?_)
  · have hsp := iq hsp c1
    refine lv_aload_n hx hb dX8_town_12 rfl (lv_at hl 0 rfl) (W.pc 13 rfl ?_)
    refine va_get (D := E.1) (ci := 5) (v := .ref a0_town) (C := RX8) (T := TX8) (N := 16) hx hb hts inT_X8 hown hK hP 0 rfl rfl 2 (by decide) (hts _ w_4_70) (fun _ h9 => h9) rfl dX8_town_13 (W.pc 16 rfl ?_)
    obtain ⟨z2, hr_z2, hsp⟩ := bd_s hsp
    refine kSR (st1 := [.int z2]) hX (c_X8_storeys l E a0_town fa0_town z2 hr_z2) B_X8_storeys w_4_132 hK (hP.pick [1] rfl) rfl hl.1 rfl (Nat.le_of_ble_eq_true rfl) ⟨Nat.le_of_ble_eq_true rfl, Nat.le_of_ble_eq_true rfl⟩ dX8_town_16 rfl (W.pc 19 rfl ?_)
    refine lv_istore_n (lv' := [(2, .int z2), (0, .ref a0), (1, .int p1)]) hx hb dX8_town_19 rfl hl (by decide) rfl (fun ls hl => W.pc 20 rfl ?_)
    refine lv_aload_n hx hb dX8_town_20 rfl (lv_at hl 1 rfl) (W.pc 21 rfl ?_)
    refine va_get (D := E.1) (ci := 5) (v := .ref a0_town) (C := RX8) (T := TX8) (N := 16) hx hb hts inT_X8 hown hK hP 0 rfl rfl 2 (by decide) (hts _ w_4_70) (fun _ h9 => h9) rfl dX8_town_21 (W.pc 24 rfl ?_)
    obtain ⟨z3, hr_z3, hsp⟩ := bd_s hsp
    refine kSW (st1 := []) (ws' := [(a0, .inr (5, [.ref a0_text, .int a0_letters, .ref a0_town, .ref a0_draft, .ref a0_tried, .ref a0_images, .ref a0_kept, .ref a0_refused, .long a0_above, .long a0_below, .ref a0_line, .ref a0_best, .int a0_at, .int a0_start, .int a0_isWell, .int a0_faultAt])), (a0_town, aI E 682 z3), (a0_refused, aI E 3 fa0_refused)]) [1] hX (c_X8_empties l E a0_town fa0_town z3 hr_z3) B_X8_empties w_4_135 hK hP hD hS hA (by decide) rfl rfl rfl rfl hl.1 rfl (Nat.le_of_ble_eq_true rfl) ⟨Nat.le_of_ble_eq_true rfl, Nat.le_of_ble_eq_true rfl⟩ dX8_town_24 rfl (fun H locs hP hD hS => W.pc 27 rfl ?_)
    refine lv_aload_n hx hb dX8_town_27 rfl (lv_at hl 1 rfl) (W.pc 28 rfl ?_)
    refine va_get (D := E.1) (ci := 5) (v := .ref a0_town) (C := RX8) (T := TX8) (N := 16) hx hb hts inT_X8 hown hK hP 0 rfl rfl 2 (by decide) (hts _ w_4_70) (fun _ h9 => h9) rfl dX8_town_28 (W.pc 31 rfl ?_)
    refine lv_iconst (v := (0 : Int32)) hx hb dX8_town_31 (by decide) (W.pc 32 rfl ?_)
    refine lv_iload_n hx hb dX8_town_32 rfl (lv_at hl 2 rfl) (W.pc 33 rfl ?_)
    refine va_iast hx hb hK hP hD hS 1 0 rfl rfl (vp_in_nI (n := 0) (N := 682) (by decide) (by decide)) dX8_town_33 (fun H locs hP hD hS => W.pc 34 rfl ?_)
    have hP : wP E [(a0, .inr (5, [.ref a0_text, .int a0_letters, .ref a0_town, .ref a0_draft, .ref a0_tried, .ref a0_images, .ref a0_kept, .ref a0_refused, .long a0_above, .long a0_below, .ref a0_line, .ref a0_best, .int a0_at, .int a0_start, .int a0_isWell, .int a0_faultAt])), (a0_town, aI E 682 (upd z3 ((0 : Int32)).toNatClampNeg p1)), (a0_refused, aI E 3 fa0_refused)] _ := hP
    have hD : va_D A [(a0, .inr (5, [.ref a0_text, .int a0_letters, .ref a0_town, .ref a0_draft, .ref a0_tried, .ref a0_images, .ref a0_kept, .ref a0_refused, .long a0_above, .long a0_below, .ref a0_line, .ref a0_best, .int a0_at, .int a0_start, .int a0_isWell, .int a0_faultAt])), (a0_town, aI E 682 (upd z3 ((0 : Int32)).toNatClampNeg p1)), (a0_refused, aI E 3 fa0_refused)] := hD
    refine lv_iload_n hx hb dX8_town_34 rfl (lv_at hl 0 rfl) (W.pc 35 rfl ?_)
    cases hsp
    exact rWi hX hP hS rfl rfl dX8_town_35
  · have hsp := ip hsp c1
    refine lv_aload_n hx hb dX8_town_7 rfl (lv_at hl 0 rfl) (W.pc 8 rfl ?_)
    obtain ⟨z4, hr_z4, hsp⟩ := ltb_s hsp
    refine kVW (st1 := [.int z4.1]) (ws' := [(a0, .inr (5, [.ref a0_text, .int a0_letters, .ref a0_town, .ref a0_draft, .ref a0_tried, .ref a0_images, .ref a0_kept, .ref a0_refused, .long a0_above, .long a0_below, .ref a0_line, .ref a0_best, .int a0_at, .int a0_start, .int a0_isWell, .int a0_faultAt])), (a0_town, aI E 682 fa0_town), (a0_refused, aI E 3 z4.2)]) [0, 2] hX (c_X8_bad l E a0 a0_text a0_town a0_draft a0_tried a0_images a0_kept a0_refused a0_line a0_best a0_letters a0_above a0_below a0_at a0_start a0_isWell a0_faultAt fa0_refused z4.1 z4.2 hr_z4) B_X8_bad w_4_128 hK hP hD hS hA (by decide) rfl rfl rfl (q0 := 0) (ci := 5) rfl rfl rfl rfl hl.1 rfl (Nat.le_of_ble_eq_true rfl) ⟨Nat.le_of_ble_eq_true rfl, Nat.le_of_ble_eq_true rfl⟩ dX8_town_8 rfl (fun H locs hP hD hS => W.pc 11 rfl ?_)
    cases hsp
    exact rWi hX hP hS rfl rfl dX8_town_11
noncomputable def sp_X8_pull (p1 : Int32) (p2 : Int32) (fa0_refused : Nat → Int32) (fa0_town : Nat → Int32) : Option (Int32 × (Nat → Int32) × (Nat → Int32)) := if (sp_X8_isPlot p1) = 0 then (lt_ (sp_X8_badly (-100 : Int32) fa0_refused) fun z2 => some (z2.1, z2.2, fa0_town)) else (if (sp_X8_isTilt p2) = 0 then (lt_ (sp_X8_badly (-100 : Int32) fa0_refused) fun z5 => some (z5.1, z5.2, fa0_town)) else (gi ((69 : Int32) + p1) 682 (some ((fa0_town (((69 : Int32) + p1)).toNatClampNeg), fa0_refused, (upd (upd fa0_town (((69 : Int32) + p1)).toNatClampNeg p2) ((137 : Int32)).toNatClampNeg (0 : Int32))))))
set_option maxHeartbeats 4000000 in
set_option maxRecDepth 100000 in
theorem c_X8_pull (l : Launch) (E : wE) (a0 a0_text a0_town a0_draft a0_tried a0_images a0_kept a0_refused a0_line a0_best : Nat) (p1 : Int32) (p2 : Int32) (a0_letters : Int32) (a0_above : Int64) (a0_below : Int64) (a0_at : Int32) (a0_start : Int32) (a0_isWell : Int32) (a0_faultAt : Int32) (fa0_refused : Nat → Int32) (fa0_town : Nat → Int32) (z_0 : Int32) (z_1 : (Nat → Int32)) (z_2 : (Nat → Int32)) (hsp : sp_X8_pull p1 p2 fa0_refused fa0_town = some (z_0, z_1, z_2)) : MW l yX8_pull cX8_pull 4 (some .int) 2 E [.ref a0, .int p1, .int p2] [(a0, .inr (5, [.ref a0_text, .int a0_letters, .ref a0_town, .ref a0_draft, .ref a0_tried, .ref a0_images, .ref a0_kept, .ref a0_refused, .long a0_above, .long a0_below, .ref a0_line, .ref a0_best, .int a0_at, .int a0_start, .int a0_isWell, .int a0_faultAt])), (a0_refused, aI E 3 fa0_refused), (a0_town, aI E 682 fa0_town)] (some (.int z_0)) [(a0, .inr (5, [.ref a0_text, .int a0_letters, .ref a0_town, .ref a0_draft, .ref a0_tried, .ref a0_images, .ref a0_kept, .ref a0_refused, .long a0_above, .long a0_below, .ref a0_line, .ref a0_best, .int a0_at, .int a0_start, .int a0_isWell, .int a0_faultAt])), (a0_refused, aI E 3 z_1), (a0_town, aI E 682 z_2)] := by
  refine MW.of (by decide +kernel) (Nat.le_of_ble_eq_true rfl) ?_
  intro p e s m below meth c ls A hX hK hP hD hS hA hl
  have hX : CX p s m [.ref a0, .int p1, .int p2].toArray meth c cX8_pull 4 (some .int) RX8 := hX
  have hx := hX.1; have hb := hX.2.1; have hts := hX.2.2.2.2.1; have hown := hX.2.2.2.2.2.1
  have hl : lv_has ls 4 [(0, .ref a0), (1, .int p1), (2, .int p2)] := hl
  have hP : wP E [(a0, .inr (5, [.ref a0_text, .int a0_letters, .ref a0_town, .ref a0_draft, .ref a0_tried, .ref a0_images, .ref a0_kept, .ref a0_refused, .long a0_above, .long a0_below, .ref a0_line, .ref a0_best, .int a0_at, .int a0_start, .int a0_isWell, .int a0_faultAt])), (a0_refused, aI E 3 fa0_refused), (a0_town, aI E 682 fa0_town)] s.heap := hP
  have hsp : (if (sp_X8_isPlot p1) = 0 then (lt_ (sp_X8_badly (-100 : Int32) fa0_refused) fun z2 => some (z2.1, z2.2, fa0_town)) else (if (sp_X8_isTilt p2) = 0 then (lt_ (sp_X8_badly (-100 : Int32) fa0_refused) fun z5 => some (z5.1, z5.2, fa0_town)) else (gi ((69 : Int32) + p1) 682 (some ((fa0_town (((69 : Int32) + p1)).toNatClampNeg), fa0_refused, (upd (upd fa0_town (((69 : Int32) + p1)).toNatClampNeg p2) ((137 : Int32)).toNatClampNeg (0 : Int32))))))) = some (z_0, z_1, z_2) := hsp
  refine lv_iload_n hx hb dX8_pull_0 rfl (lv_at hl 1 rfl) (W.pc 1 rfl ?_)
  refine kSR (st1 := [.int (sp_X8_isPlot p1)]) hX (c_X8_isPlot l E p1 _ rfl) B_X8_isPlot w_4_142 hK (hP.pick [] rfl) rfl hl.1 rfl (Nat.le_of_ble_eq_true rfl) ⟨Nat.le_of_ble_eq_true rfl, Nat.le_of_ble_eq_true rfl⟩ dX8_pull_1 rfl (W.pc 4 rfl ?_)
  refine lv_if_eq (tgt := 14) hx hb dX8_pull_4 (by decide) (fun c1 => ?_) (fun c1 => W.pc 7 rfl ?_)
  · have hsp := ip hsp c1
    refine lv_aload_n hx hb dX8_pull_14 rfl (lv_at hl 0 rfl) (W.pc 15 rfl ?_)
    refine lv_bipush (v := (-100 : Int32)) hx hb dX8_pull_15 (by decide) (W.pc 17 rfl ?_)
    obtain ⟨z2, hr_z2, hsp⟩ := ltb_s hsp
    refine kVW (st1 := [.int z2.1]) (ws' := [(a0, .inr (5, [.ref a0_text, .int a0_letters, .ref a0_town, .ref a0_draft, .ref a0_tried, .ref a0_images, .ref a0_kept, .ref a0_refused, .long a0_above, .long a0_below, .ref a0_line, .ref a0_best, .int a0_at, .int a0_start, .int a0_isWell, .int a0_faultAt])), (a0_refused, aI E 3 z2.2), (a0_town, aI E 682 fa0_town)]) [0, 1] hX (c_X8_badly l E a0 a0_text a0_town a0_draft a0_tried a0_images a0_kept a0_refused a0_line a0_best (-100 : Int32) a0_letters a0_above a0_below a0_at a0_start a0_isWell a0_faultAt fa0_refused z2.1 z2.2 hr_z2) B_X8_badly w_4_148 hK hP hD hS hA (by decide) rfl rfl rfl (q0 := 0) (ci := 5) rfl rfl rfl rfl hl.1 rfl (Nat.le_of_ble_eq_true rfl) ⟨Nat.le_of_ble_eq_true rfl, Nat.le_of_ble_eq_true rfl⟩ dX8_pull_17 rfl (fun H locs hP hD hS => W.pc 20 rfl ?_)
    cases hsp
    exact rWi hX hP hS rfl rfl dX8_pull_20
  · have hsp := iq hsp c1
    refine lv_iload_n hx hb dX8_pull_7 rfl (lv_at hl 2 rfl) (W.pc 8 rfl ?_)
    refine kSR (st1 := [.int (sp_X8_isTilt p2)]) hX (c_X8_isTilt l E p2 _ rfl) B_X8_isTilt w_4_145 hK (hP.pick [] rfl) rfl hl.1 rfl (Nat.le_of_ble_eq_true rfl) ⟨Nat.le_of_ble_eq_true rfl, Nat.le_of_ble_eq_true rfl⟩ dX8_pull_8 rfl (W.pc 11 rfl ?_)
    refine lv_if_ne (tgt := 21) hx hb dX8_pull_11 (by decide) (fun c3 => ?_) (fun c3 => W.pc 14 rfl ?_)
    · have hsp := iq hsp c3
      refine lv_aload_n hx hb dX8_pull_21 rfl (lv_at hl 0 rfl) (W.pc 22 rfl ?_)
      refine va_get (D := E.1) (ci := 5) (v := .ref a0_town) (C := RX8) (T := TX8) (N := 16) hx hb hts inT_X8 hown hK hP 0 rfl rfl 2 (by decide) (hts _ w_4_70) (fun _ h9 => h9) rfl dX8_pull_22 (W.pc 25 rfl ?_)
      refine lv_bipush (v := (69 : Int32)) hx hb dX8_pull_25 (by decide) (W.pc 27 rfl ?_)
      refine lv_iload_n hx hb dX8_pull_27 rfl (lv_at hl 1 rfl) (W.pc 28 rfl ?_)
      refine lv_iadd hx hb dX8_pull_28 (W.pc 29 rfl ?_)
      obtain ⟨h4, hsp⟩ := gi_s hsp
      refine va_iald hx hb hK hP 2 0 rfl rfl h4 dX8_pull_29 (W.pc 30 rfl ?_)
      refine lv_istore_n (lv' := [(3, .int (fa0_town (((69 : Int32) + p1)).toNatClampNeg)), (0, .ref a0), (1, .int p1), (2, .int p2)]) hx hb dX8_pull_30 rfl hl (by decide) rfl (fun ls hl => W.pc 31 rfl ?_)
      refine lv_aload_n hx hb dX8_pull_31 rfl (lv_at hl 1 rfl) (W.pc 32 rfl ?_)
      refine va_get (D := E.1) (ci := 5) (v := .ref a0_town) (C := RX8) (T := TX8) (N := 16) hx hb hts inT_X8 hown hK hP 0 rfl rfl 2 (by decide) (hts _ w_4_70) (fun _ h9 => h9) rfl dX8_pull_32 (W.pc 35 rfl ?_)
      refine lv_bipush (v := (69 : Int32)) hx hb dX8_pull_35 (by decide) (W.pc 37 rfl ?_)
      refine lv_iload_n hx hb dX8_pull_37 rfl (lv_at hl 2 rfl) (W.pc 38 rfl ?_)
      refine lv_iadd hx hb dX8_pull_38 (W.pc 39 rfl ?_)
      refine lv_iload_n hx hb dX8_pull_39 rfl (lv_at hl 3 rfl) (W.pc 40 rfl ?_)
      refine va_iast hx hb hK hP hD hS 2 0 rfl rfl h4 dX8_pull_40 (fun H locs hP hD hS => W.pc 41 rfl ?_)
      have hP : wP E [(a0, .inr (5, [.ref a0_text, .int a0_letters, .ref a0_town, .ref a0_draft, .ref a0_tried, .ref a0_images, .ref a0_kept, .ref a0_refused, .long a0_above, .long a0_below, .ref a0_line, .ref a0_best, .int a0_at, .int a0_start, .int a0_isWell, .int a0_faultAt])), (a0_refused, aI E 3 fa0_refused), (a0_town, aI E 682 (upd fa0_town (((69 : Int32) + p1)).toNatClampNeg p2))] _ := hP
      have hD : va_D A [(a0, .inr (5, [.ref a0_text, .int a0_letters, .ref a0_town, .ref a0_draft, .ref a0_tried, .ref a0_images, .ref a0_kept, .ref a0_refused, .long a0_above, .long a0_below, .ref a0_line, .ref a0_best, .int a0_at, .int a0_start, .int a0_isWell, .int a0_faultAt])), (a0_refused, aI E 3 fa0_refused), (a0_town, aI E 682 (upd fa0_town (((69 : Int32) + p1)).toNatClampNeg p2))] := hD
      refine lv_aload_n hx hb dX8_pull_41 rfl (lv_at hl 1 rfl) (W.pc 42 rfl ?_)
      refine va_get (D := E.1) (ci := 5) (v := .ref a0_town) (C := RX8) (T := TX8) (N := 16) hx hb hts inT_X8 hown hK hP 0 rfl rfl 2 (by decide) (hts _ w_4_70) (fun _ h9 => h9) rfl dX8_pull_42 (W.pc 45 rfl ?_)
      refine lv_sipush (v := (137 : Int32)) hx hb dX8_pull_45 (by decide) (W.pc 48 rfl ?_)
      refine lv_iconst (v := (0 : Int32)) hx hb dX8_pull_48 (by decide) (W.pc 49 rfl ?_)
      refine va_iast hx hb hK hP hD hS 2 0 rfl rfl (vp_in_nI (n := 137) (N := 682) (by decide) (by decide)) dX8_pull_49 (fun H locs hP hD hS => W.pc 50 rfl ?_)
      have hP : wP E [(a0, .inr (5, [.ref a0_text, .int a0_letters, .ref a0_town, .ref a0_draft, .ref a0_tried, .ref a0_images, .ref a0_kept, .ref a0_refused, .long a0_above, .long a0_below, .ref a0_line, .ref a0_best, .int a0_at, .int a0_start, .int a0_isWell, .int a0_faultAt])), (a0_refused, aI E 3 fa0_refused), (a0_town, aI E 682 (upd (upd fa0_town (((69 : Int32) + p1)).toNatClampNeg p2) ((137 : Int32)).toNatClampNeg (0 : Int32)))] _ := hP
      have hD : va_D A [(a0, .inr (5, [.ref a0_text, .int a0_letters, .ref a0_town, .ref a0_draft, .ref a0_tried, .ref a0_images, .ref a0_kept, .ref a0_refused, .long a0_above, .long a0_below, .ref a0_line, .ref a0_best, .int a0_at, .int a0_start, .int a0_isWell, .int a0_faultAt])), (a0_refused, aI E 3 fa0_refused), (a0_town, aI E 682 (upd (upd fa0_town (((69 : Int32) + p1)).toNatClampNeg p2) ((137 : Int32)).toNatClampNeg (0 : Int32)))] := hD
      refine lv_iload_n hx hb dX8_pull_50 rfl (lv_at hl 0 rfl) (W.pc 51 rfl ?_)
      cases hsp
      exact rWi hX hP hS rfl rfl dX8_pull_51
    · have hsp := ip hsp c3
      refine lv_aload_n hx hb dX8_pull_14 rfl (lv_at hl 0 rfl) (W.pc 15 rfl ?_)
      refine lv_bipush (v := (-100 : Int32)) hx hb dX8_pull_15 (by decide) (W.pc 17 rfl ?_)
      obtain ⟨z5, hr_z5, hsp⟩ := ltb_s hsp
      refine kVW (st1 := [.int z5.1]) (ws' := [(a0, .inr (5, [.ref a0_text, .int a0_letters, .ref a0_town, .ref a0_draft, .ref a0_tried, .ref a0_images, .ref a0_kept, .ref a0_refused, .long a0_above, .long a0_below, .ref a0_line, .ref a0_best, .int a0_at, .int a0_start, .int a0_isWell, .int a0_faultAt])), (a0_refused, aI E 3 z5.2), (a0_town, aI E 682 fa0_town)]) [0, 1] hX (c_X8_badly l E a0 a0_text a0_town a0_draft a0_tried a0_images a0_kept a0_refused a0_line a0_best (-100 : Int32) a0_letters a0_above a0_below a0_at a0_start a0_isWell a0_faultAt fa0_refused z5.1 z5.2 hr_z5) B_X8_badly w_4_148 hK hP hD hS hA (by decide) rfl rfl rfl (q0 := 0) (ci := 5) rfl rfl rfl rfl hl.1 rfl (Nat.le_of_ble_eq_true rfl) ⟨Nat.le_of_ble_eq_true rfl, Nat.le_of_ble_eq_true rfl⟩ dX8_pull_17 rfl (fun H locs hP hD hS => W.pc 20 rfl ?_)
      cases hsp
      exact rWi hX hP hS rfl rfl dX8_pull_20
noncomputable def sp_X8_member (p1 : Int32) (fa0_town : Nat → Int32) (fa0_refused : Nat → Int32) : Option (Int32 × (Nat → Int32) × (Nat → Int32)) := if (sp_X8_isTilt p1) = 0 then (lt_ (sp_X8_bad fa0_refused) fun z5 => some (z5.1, fa0_town, z5.2)) else (if (fa0_town ((75 : Int32)).toNatClampNeg) = (5 : Int32) then (lt_ (sp_X8_full fa0_refused) fun z4 => some (z4.1, fa0_town, z4.2)) else (gi ((76 : Int32) + (fa0_town ((75 : Int32)).toNatClampNeg)) 682 (some ((((upd (upd (upd fa0_town (((76 : Int32) + (fa0_town ((75 : Int32)).toNatClampNeg))).toNatClampNeg p1) ((75 : Int32)).toNatClampNeg (((upd fa0_town (((76 : Int32) + (fa0_town ((75 : Int32)).toNatClampNeg))).toNatClampNeg p1) ((75 : Int32)).toNatClampNeg) + (1 : Int32))) ((137 : Int32)).toNatClampNeg (0 : Int32)) ((75 : Int32)).toNatClampNeg) - (1 : Int32)), (upd (upd (upd fa0_town (((76 : Int32) + (fa0_town ((75 : Int32)).toNatClampNeg))).toNatClampNeg p1) ((75 : Int32)).toNatClampNeg (((upd fa0_town (((76 : Int32) + (fa0_town ((75 : Int32)).toNatClampNeg))).toNatClampNeg p1) ((75 : Int32)).toNatClampNeg) + (1 : Int32))) ((137 : Int32)).toNatClampNeg (0 : Int32)), fa0_refused))))
set_option maxHeartbeats 4000000 in
set_option maxRecDepth 100000 in
theorem c_X8_member (l : Launch) (E : wE) (a0 a0_text a0_town a0_draft a0_tried a0_images a0_kept a0_refused a0_line a0_best : Nat) (p1 : Int32) (a0_letters : Int32) (a0_above : Int64) (a0_below : Int64) (a0_at : Int32) (a0_start : Int32) (a0_isWell : Int32) (a0_faultAt : Int32) (fa0_town : Nat → Int32) (fa0_refused : Nat → Int32) (z_0 : Int32) (z_1 : (Nat → Int32)) (z_2 : (Nat → Int32)) (hsp : sp_X8_member p1 fa0_town fa0_refused = some (z_0, z_1, z_2)) : MW l yX8_member cX8_member 2 (some .int) 2 E [.ref a0, .int p1] [(a0, .inr (5, [.ref a0_text, .int a0_letters, .ref a0_town, .ref a0_draft, .ref a0_tried, .ref a0_images, .ref a0_kept, .ref a0_refused, .long a0_above, .long a0_below, .ref a0_line, .ref a0_best, .int a0_at, .int a0_start, .int a0_isWell, .int a0_faultAt])), (a0_town, aI E 682 fa0_town), (a0_refused, aI E 3 fa0_refused)] (some (.int z_0)) [(a0, .inr (5, [.ref a0_text, .int a0_letters, .ref a0_town, .ref a0_draft, .ref a0_tried, .ref a0_images, .ref a0_kept, .ref a0_refused, .long a0_above, .long a0_below, .ref a0_line, .ref a0_best, .int a0_at, .int a0_start, .int a0_isWell, .int a0_faultAt])), (a0_town, aI E 682 z_1), (a0_refused, aI E 3 z_2)] := by
  refine MW.of (by decide +kernel) (Nat.le_of_ble_eq_true rfl) ?_
  intro p e s m below meth c ls A hX hK hP hD hS hA hl
  have hX : CX p s m [.ref a0, .int p1].toArray meth c cX8_member 2 (some .int) RX8 := hX
  have hx := hX.1; have hb := hX.2.1; have hts := hX.2.2.2.2.1; have hown := hX.2.2.2.2.2.1
  have hl : lv_has ls 2 [(0, .ref a0), (1, .int p1)] := hl
  have hP : wP E [(a0, .inr (5, [.ref a0_text, .int a0_letters, .ref a0_town, .ref a0_draft, .ref a0_tried, .ref a0_images, .ref a0_kept, .ref a0_refused, .long a0_above, .long a0_below, .ref a0_line, .ref a0_best, .int a0_at, .int a0_start, .int a0_isWell, .int a0_faultAt])), (a0_town, aI E 682 fa0_town), (a0_refused, aI E 3 fa0_refused)] s.heap := hP
  have hsp : (if (sp_X8_isTilt p1) = 0 then (lt_ (sp_X8_bad fa0_refused) fun z5 => some (z5.1, fa0_town, z5.2)) else (if (fa0_town ((75 : Int32)).toNatClampNeg) = (5 : Int32) then (lt_ (sp_X8_full fa0_refused) fun z4 => some (z4.1, fa0_town, z4.2)) else (gi ((76 : Int32) + (fa0_town ((75 : Int32)).toNatClampNeg)) 682 (some ((((upd (upd (upd fa0_town (((76 : Int32) + (fa0_town ((75 : Int32)).toNatClampNeg))).toNatClampNeg p1) ((75 : Int32)).toNatClampNeg (((upd fa0_town (((76 : Int32) + (fa0_town ((75 : Int32)).toNatClampNeg))).toNatClampNeg p1) ((75 : Int32)).toNatClampNeg) + (1 : Int32))) ((137 : Int32)).toNatClampNeg (0 : Int32)) ((75 : Int32)).toNatClampNeg) - (1 : Int32)), (upd (upd (upd fa0_town (((76 : Int32) + (fa0_town ((75 : Int32)).toNatClampNeg))).toNatClampNeg p1) ((75 : Int32)).toNatClampNeg (((upd fa0_town (((76 : Int32) + (fa0_town ((75 : Int32)).toNatClampNeg))).toNatClampNeg p1) ((75 : Int32)).toNatClampNeg) + (1 : Int32))) ((137 : Int32)).toNatClampNeg (0 : Int32)), fa0_refused))))) = some (z_0, z_1, z_2) := hsp
  refine lv_iload_n hx hb dX8_member_0 rfl (lv_at hl 1 rfl) (W.pc 1 rfl ?_)
  refine kSR (st1 := [.int (sp_X8_isTilt p1)]) hX (c_X8_isTilt l E p1 _ rfl) B_X8_isTilt w_4_145 hK (hP.pick [] rfl) rfl hl.1 rfl (Nat.le_of_ble_eq_true rfl) ⟨Nat.le_of_ble_eq_true rfl, Nat.le_of_ble_eq_true rfl⟩ dX8_member_1 rfl (W.pc 4 rfl ?_)
  refine lv_if_ne (tgt := 12) hx hb dX8_member_4 (by decide) (fun c1 => ?_) (fun c1 => W.pc 7 rfl ?_)
  · have hsp := iq hsp c1
    refine lv_aload_n hx hb dX8_member_12 rfl (lv_at hl 0 rfl) (W.pc 13 rfl ?_)
    refine va_get (D := E.1) (ci := 5) (v := .ref a0_town) (C := RX8) (T := TX8) (N := 16) hx hb hts inT_X8 hown hK hP 0 rfl rfl 2 (by decide) (hts _ w_4_70) (fun _ h9 => h9) rfl dX8_member_13 (W.pc 16 rfl ?_)
    refine lv_bipush (v := (75 : Int32)) hx hb dX8_member_16 (by decide) (W.pc 18 rfl ?_)
    refine va_iald hx hb hK hP 1 0 rfl rfl (vp_in_nI (n := 75) (N := 682) (by decide) (by decide)) dX8_member_18 (W.pc 19 rfl ?_)
    refine lv_iconst (v := (5 : Int32)) hx hb dX8_member_19 (by decide) (W.pc 20 rfl ?_)
    refine lv_icmp_ne (tgt := 28) hx hb dX8_member_20 (by decide) (fun c2 => ?_) (fun c2 => W.pc 23 rfl ?_)
    · have hsp := iq hsp c2
      refine lv_aload_n hx hb dX8_member_28 rfl (lv_at hl 0 rfl) (W.pc 29 rfl ?_)
      refine va_get (D := E.1) (ci := 5) (v := .ref a0_town) (C := RX8) (T := TX8) (N := 16) hx hb hts inT_X8 hown hK hP 0 rfl rfl 2 (by decide) (hts _ w_4_70) (fun _ h9 => h9) rfl dX8_member_29 (W.pc 32 rfl ?_)
      refine lv_bipush (v := (76 : Int32)) hx hb dX8_member_32 (by decide) (W.pc 34 rfl ?_)
      refine lv_aload_n hx hb dX8_member_34 rfl (lv_at hl 0 rfl) (W.pc 35 rfl ?_)
      refine va_get (D := E.1) (ci := 5) (v := .ref a0_town) (C := RX8) (T := TX8) (N := 16) hx hb hts inT_X8 hown hK hP 0 rfl rfl 2 (by decide) (hts _ w_4_70) (fun _ h9 => h9) rfl dX8_member_35 (W.pc 38 rfl ?_)
      refine lv_bipush (v := (75 : Int32)) hx hb dX8_member_38 (by decide) (W.pc 40 rfl ?_)
      refine va_iald hx hb hK hP 1 0 rfl rfl (vp_in_nI (n := 75) (N := 682) (by decide) (by decide)) dX8_member_40 (W.pc 41 rfl ?_)
      refine lv_iadd hx hb dX8_member_41 (W.pc 42 rfl ?_)
      refine lv_iload_n hx hb dX8_member_42 rfl (lv_at hl 1 rfl) (W.pc 43 rfl ?_)
      obtain ⟨h3, hsp⟩ := gi_s hsp
      refine va_iast hx hb hK hP hD hS 1 0 rfl rfl h3 dX8_member_43 (fun H locs hP hD hS => W.pc 44 rfl ?_)
      have hP : wP E [(a0, .inr (5, [.ref a0_text, .int a0_letters, .ref a0_town, .ref a0_draft, .ref a0_tried, .ref a0_images, .ref a0_kept, .ref a0_refused, .long a0_above, .long a0_below, .ref a0_line, .ref a0_best, .int a0_at, .int a0_start, .int a0_isWell, .int a0_faultAt])), (a0_town, aI E 682 (upd fa0_town (((76 : Int32) + (fa0_town ((75 : Int32)).toNatClampNeg))).toNatClampNeg p1)), (a0_refused, aI E 3 fa0_refused)] _ := hP
      have hD : va_D A [(a0, .inr (5, [.ref a0_text, .int a0_letters, .ref a0_town, .ref a0_draft, .ref a0_tried, .ref a0_images, .ref a0_kept, .ref a0_refused, .long a0_above, .long a0_below, .ref a0_line, .ref a0_best, .int a0_at, .int a0_start, .int a0_isWell, .int a0_faultAt])), (a0_town, aI E 682 (upd fa0_town (((76 : Int32) + (fa0_town ((75 : Int32)).toNatClampNeg))).toNatClampNeg p1)), (a0_refused, aI E 3 fa0_refused)] := hD
      refine lv_aload_n hx hb dX8_member_44 rfl (lv_at hl 0 rfl) (W.pc 45 rfl ?_)
      refine va_get (D := E.1) (ci := 5) (v := .ref a0_town) (C := RX8) (T := TX8) (N := 16) hx hb hts inT_X8 hown hK hP 0 rfl rfl 2 (by decide) (hts _ w_4_70) (fun _ h9 => h9) rfl dX8_member_45 (W.pc 48 rfl ?_)
      refine lv_bipush (v := (75 : Int32)) hx hb dX8_member_48 (by decide) (W.pc 50 rfl ?_)
      refine lv_dup2_11 hx hb dX8_member_50 rfl rfl (W.pc 51 rfl ?_)
      refine va_iald hx hb hK hP 1 0 rfl rfl (vp_in_nI (n := 75) (N := 682) (by decide) (by decide)) dX8_member_51 (W.pc 52 rfl ?_)
      refine lv_iconst (v := (1 : Int32)) hx hb dX8_member_52 (by decide) (W.pc 53 rfl ?_)
      refine lv_iadd hx hb dX8_member_53 (W.pc 54 rfl ?_)
      refine va_iast hx hb hK hP hD hS 1 0 rfl rfl (vp_in_nI (n := 75) (N := 682) (by decide) (by decide)) dX8_member_54 (fun H locs hP hD hS => W.pc 55 rfl ?_)
      have hP : wP E [(a0, .inr (5, [.ref a0_text, .int a0_letters, .ref a0_town, .ref a0_draft, .ref a0_tried, .ref a0_images, .ref a0_kept, .ref a0_refused, .long a0_above, .long a0_below, .ref a0_line, .ref a0_best, .int a0_at, .int a0_start, .int a0_isWell, .int a0_faultAt])), (a0_town, aI E 682 (upd (upd fa0_town (((76 : Int32) + (fa0_town ((75 : Int32)).toNatClampNeg))).toNatClampNeg p1) ((75 : Int32)).toNatClampNeg (((upd fa0_town (((76 : Int32) + (fa0_town ((75 : Int32)).toNatClampNeg))).toNatClampNeg p1) ((75 : Int32)).toNatClampNeg) + (1 : Int32)))), (a0_refused, aI E 3 fa0_refused)] _ := hP
      have hD : va_D A [(a0, .inr (5, [.ref a0_text, .int a0_letters, .ref a0_town, .ref a0_draft, .ref a0_tried, .ref a0_images, .ref a0_kept, .ref a0_refused, .long a0_above, .long a0_below, .ref a0_line, .ref a0_best, .int a0_at, .int a0_start, .int a0_isWell, .int a0_faultAt])), (a0_town, aI E 682 (upd (upd fa0_town (((76 : Int32) + (fa0_town ((75 : Int32)).toNatClampNeg))).toNatClampNeg p1) ((75 : Int32)).toNatClampNeg (((upd fa0_town (((76 : Int32) + (fa0_town ((75 : Int32)).toNatClampNeg))).toNatClampNeg p1) ((75 : Int32)).toNatClampNeg) + (1 : Int32)))), (a0_refused, aI E 3 fa0_refused)] := hD
      refine lv_aload_n hx hb dX8_member_55 rfl (lv_at hl 0 rfl) (W.pc 56 rfl ?_)
      refine va_get (D := E.1) (ci := 5) (v := .ref a0_town) (C := RX8) (T := TX8) (N := 16) hx hb hts inT_X8 hown hK hP 0 rfl rfl 2 (by decide) (hts _ w_4_70) (fun _ h9 => h9) rfl dX8_member_56 (W.pc 59 rfl ?_)
      refine lv_sipush (v := (137 : Int32)) hx hb dX8_member_59 (by decide) (W.pc 62 rfl ?_)
      refine lv_iconst (v := (0 : Int32)) hx hb dX8_member_62 (by decide) (W.pc 63 rfl ?_)
      refine va_iast hx hb hK hP hD hS 1 0 rfl rfl (vp_in_nI (n := 137) (N := 682) (by decide) (by decide)) dX8_member_63 (fun H locs hP hD hS => W.pc 64 rfl ?_)
      have hP : wP E [(a0, .inr (5, [.ref a0_text, .int a0_letters, .ref a0_town, .ref a0_draft, .ref a0_tried, .ref a0_images, .ref a0_kept, .ref a0_refused, .long a0_above, .long a0_below, .ref a0_line, .ref a0_best, .int a0_at, .int a0_start, .int a0_isWell, .int a0_faultAt])), (a0_town, aI E 682 (upd (upd (upd fa0_town (((76 : Int32) + (fa0_town ((75 : Int32)).toNatClampNeg))).toNatClampNeg p1) ((75 : Int32)).toNatClampNeg (((upd fa0_town (((76 : Int32) + (fa0_town ((75 : Int32)).toNatClampNeg))).toNatClampNeg p1) ((75 : Int32)).toNatClampNeg) + (1 : Int32))) ((137 : Int32)).toNatClampNeg (0 : Int32))), (a0_refused, aI E 3 fa0_refused)] _ := hP
      have hD : va_D A [(a0, .inr (5, [.ref a0_text, .int a0_letters, .ref a0_town, .ref a0_draft, .ref a0_tried, .ref a0_images, .ref a0_kept, .ref a0_refused, .long a0_above, .long a0_below, .ref a0_line, .ref a0_best, .int a0_at, .int a0_start, .int a0_isWell, .int a0_faultAt])), (a0_town, aI E 682 (upd (upd (upd fa0_town (((76 : Int32) + (fa0_town ((75 : Int32)).toNatClampNeg))).toNatClampNeg p1) ((75 : Int32)).toNatClampNeg (((upd fa0_town (((76 : Int32) + (fa0_town ((75 : Int32)).toNatClampNeg))).toNatClampNeg p1) ((75 : Int32)).toNatClampNeg) + (1 : Int32))) ((137 : Int32)).toNatClampNeg (0 : Int32))), (a0_refused, aI E 3 fa0_refused)] := hD
      refine lv_aload_n hx hb dX8_member_64 rfl (lv_at hl 0 rfl) (W.pc 65 rfl ?_)
      refine va_get (D := E.1) (ci := 5) (v := .ref a0_town) (C := RX8) (T := TX8) (N := 16) hx hb hts inT_X8 hown hK hP 0 rfl rfl 2 (by decide) (hts _ w_4_70) (fun _ h9 => h9) rfl dX8_member_65 (W.pc 68 rfl ?_)
      refine lv_bipush (v := (75 : Int32)) hx hb dX8_member_68 (by decide) (W.pc 70 rfl ?_)
      refine va_iald hx hb hK hP 1 0 rfl rfl (vp_in_nI (n := 75) (N := 682) (by decide) (by decide)) dX8_member_70 (W.pc 71 rfl ?_)
      refine lv_iconst (v := (1 : Int32)) hx hb dX8_member_71 (by decide) (W.pc 72 rfl ?_)
      refine lv_isub hx hb dX8_member_72 (W.pc 73 rfl ?_)
      cases hsp
      exact rWi hX hP hS rfl rfl dX8_member_73
    · have hsp := ip hsp c2
      refine lv_aload_n hx hb dX8_member_23 rfl (lv_at hl 0 rfl) (W.pc 24 rfl ?_)
      obtain ⟨z4, hr_z4, hsp⟩ := ltb_s hsp
      refine kVW (st1 := [.int z4.1]) (ws' := [(a0, .inr (5, [.ref a0_text, .int a0_letters, .ref a0_town, .ref a0_draft, .ref a0_tried, .ref a0_images, .ref a0_kept, .ref a0_refused, .long a0_above, .long a0_below, .ref a0_line, .ref a0_best, .int a0_at, .int a0_start, .int a0_isWell, .int a0_faultAt])), (a0_town, aI E 682 fa0_town), (a0_refused, aI E 3 z4.2)]) [0, 2] hX (c_X8_full l E a0 a0_text a0_town a0_draft a0_tried a0_images a0_kept a0_refused a0_line a0_best a0_letters a0_above a0_below a0_at a0_start a0_isWell a0_faultAt fa0_refused z4.1 z4.2 hr_z4) B_X8_full w_4_156 hK hP hD hS hA (by decide) rfl rfl rfl (q0 := 0) (ci := 5) rfl rfl rfl rfl hl.1 rfl (Nat.le_of_ble_eq_true rfl) ⟨Nat.le_of_ble_eq_true rfl, Nat.le_of_ble_eq_true rfl⟩ dX8_member_24 rfl (fun H locs hP hD hS => W.pc 27 rfl ?_)
      cases hsp
      exact rWi hX hP hS rfl rfl dX8_member_27
  · have hsp := ip hsp c1
    refine lv_aload_n hx hb dX8_member_7 rfl (lv_at hl 0 rfl) (W.pc 8 rfl ?_)
    obtain ⟨z5, hr_z5, hsp⟩ := ltb_s hsp
    refine kVW (st1 := [.int z5.1]) (ws' := [(a0, .inr (5, [.ref a0_text, .int a0_letters, .ref a0_town, .ref a0_draft, .ref a0_tried, .ref a0_images, .ref a0_kept, .ref a0_refused, .long a0_above, .long a0_below, .ref a0_line, .ref a0_best, .int a0_at, .int a0_start, .int a0_isWell, .int a0_faultAt])), (a0_town, aI E 682 fa0_town), (a0_refused, aI E 3 z5.2)]) [0, 2] hX (c_X8_bad l E a0 a0_text a0_town a0_draft a0_tried a0_images a0_kept a0_refused a0_line a0_best a0_letters a0_above a0_below a0_at a0_start a0_isWell a0_faultAt fa0_refused z5.1 z5.2 hr_z5) B_X8_bad w_4_128 hK hP hD hS hA (by decide) rfl rfl rfl (q0 := 0) (ci := 5) rfl rfl rfl rfl hl.1 rfl (Nat.le_of_ble_eq_true rfl) ⟨Nat.le_of_ble_eq_true rfl, Nat.le_of_ble_eq_true rfl⟩ dX8_member_8 rfl (fun H locs hP hD hS => W.pc 11 rfl ?_)
    cases hsp
    exact rWi hX hP hS rfl rfl dX8_member_11
noncomputable def sp_X8_type (p1 : Int32) (a0_letters : Int32) (fa0_text : Nat → Int32) (fa0_refused : Nat → Int32) : Option (Int32 × Int32 × (Nat → Int32) × (Nat → Int32)) := if (sp_X8_in p1 (0 : Int32) (127 : Int32)) = 0 then (lt_ (sp_X8_bad fa0_refused) fun z5 => some (z5.1, a0_letters, fa0_text, z5.2)) else (if a0_letters = (150 : Int32) then (lt_ (sp_X8_full fa0_refused) fun z4 => some (z4.1, a0_letters, fa0_text, z4.2)) else (gi a0_letters 150 (some ((a0_letters + (1 : Int32)), (a0_letters + (1 : Int32)), (upd fa0_text (a0_letters).toNatClampNeg p1), fa0_refused))))
set_option maxHeartbeats 4000000 in
set_option maxRecDepth 100000 in
theorem c_X8_type (l : Launch) (E : wE) (a0 a0_text a0_town a0_draft a0_tried a0_images a0_kept a0_refused a0_line a0_best : Nat) (p1 : Int32) (a0_letters : Int32) (a0_above : Int64) (a0_below : Int64) (a0_at : Int32) (a0_start : Int32) (a0_isWell : Int32) (a0_faultAt : Int32) (fa0_text : Nat → Int32) (fa0_refused : Nat → Int32) (z_0 : Int32) (z_1 : Int32) (z_2 : (Nat → Int32)) (z_3 : (Nat → Int32)) (hsp : sp_X8_type p1 a0_letters fa0_text fa0_refused = some (z_0, z_1, z_2, z_3)) : MW l yX8_type cX8_type 2 (some .int) 1 E [.ref a0, .int p1] [(a0, .inr (5, [.ref a0_text, .int a0_letters, .ref a0_town, .ref a0_draft, .ref a0_tried, .ref a0_images, .ref a0_kept, .ref a0_refused, .long a0_above, .long a0_below, .ref a0_line, .ref a0_best, .int a0_at, .int a0_start, .int a0_isWell, .int a0_faultAt])), (a0_text, aI E 150 fa0_text), (a0_refused, aI E 3 fa0_refused)] (some (.int z_0)) [(a0, .inr (5, [.ref a0_text, .int z_1, .ref a0_town, .ref a0_draft, .ref a0_tried, .ref a0_images, .ref a0_kept, .ref a0_refused, .long a0_above, .long a0_below, .ref a0_line, .ref a0_best, .int a0_at, .int a0_start, .int a0_isWell, .int a0_faultAt])), (a0_text, aI E 150 z_2), (a0_refused, aI E 3 z_3)] := by
  refine MW.of (by decide +kernel) (Nat.le_of_ble_eq_true rfl) ?_
  intro p e s m below meth c ls A hX hK hP hD hS hA hl
  have hX : CX p s m [.ref a0, .int p1].toArray meth c cX8_type 2 (some .int) RX8 := hX
  have hx := hX.1; have hb := hX.2.1; have hts := hX.2.2.2.2.1; have hown := hX.2.2.2.2.2.1
  have hl : lv_has ls 2 [(0, .ref a0), (1, .int p1)] := hl
  have hP : wP E [(a0, .inr (5, [.ref a0_text, .int a0_letters, .ref a0_town, .ref a0_draft, .ref a0_tried, .ref a0_images, .ref a0_kept, .ref a0_refused, .long a0_above, .long a0_below, .ref a0_line, .ref a0_best, .int a0_at, .int a0_start, .int a0_isWell, .int a0_faultAt])), (a0_text, aI E 150 fa0_text), (a0_refused, aI E 3 fa0_refused)] s.heap := hP
  have hsp : (if (sp_X8_in p1 (0 : Int32) (127 : Int32)) = 0 then (lt_ (sp_X8_bad fa0_refused) fun z5 => some (z5.1, a0_letters, fa0_text, z5.2)) else (if a0_letters = (150 : Int32) then (lt_ (sp_X8_full fa0_refused) fun z4 => some (z4.1, a0_letters, fa0_text, z4.2)) else (gi a0_letters 150 (some ((a0_letters + (1 : Int32)), (a0_letters + (1 : Int32)), (upd fa0_text (a0_letters).toNatClampNeg p1), fa0_refused))))) = some (z_0, z_1, z_2, z_3) := hsp
  refine lv_iload_n hx hb dX8_type_0 rfl (lv_at hl 1 rfl) (W.pc 1 rfl ?_)
  refine lv_iconst (v := (0 : Int32)) hx hb dX8_type_1 (by decide) (W.pc 2 rfl ?_)
  refine lv_bipush (v := (127 : Int32)) hx hb dX8_type_2 (by decide) (W.pc 4 rfl ?_)
  refine kSR (st1 := [.int (sp_X8_in p1 (0 : Int32) (127 : Int32))]) hX (c_X8_in l E p1 (0 : Int32) (127 : Int32) _ rfl) B_X8_in w_4_125 hK (hP.pick [] rfl) rfl hl.1 rfl (Nat.le_of_ble_eq_true rfl) ⟨Nat.le_of_ble_eq_true rfl, Nat.le_of_ble_eq_true rfl⟩ dX8_type_4 rfl (W.pc 7 rfl ?_)
  refine lv_if_ne (tgt := 15) hx hb dX8_type_7 (by decide) (fun c1 => ?_) (fun c1 => W.pc 10 rfl ?_)
  · have hsp := iq hsp c1
    refine lv_aload_n hx hb dX8_type_15 rfl (lv_at hl 0 rfl) (W.pc 16 rfl ?_)
    refine va_get (D := E.1) (ci := 5) (v := .int a0_letters) (C := RX8) (T := TX8) (N := 16) hx hb hts inT_X8 hown hK hP 0 rfl rfl 1 (by decide) (hts _ w_4_69) (fun _ h9 => h9) rfl dX8_type_16 (W.pc 19 rfl ?_)
    refine lv_sipush (v := (150 : Int32)) hx hb dX8_type_19 (by decide) (W.pc 22 rfl ?_)
    refine lv_icmp_ne (tgt := 30) hx hb dX8_type_22 (by decide) (fun c2 => ?_) (fun c2 => W.pc 25 rfl ?_)
    · have hsp := iq hsp c2
      refine lv_aload_n hx hb dX8_type_30 rfl (lv_at hl 0 rfl) (W.pc 31 rfl ?_)
      refine va_get (D := E.1) (ci := 5) (v := .ref a0_text) (C := RX8) (T := TX8) (N := 16) hx hb hts inT_X8 hown hK hP 0 rfl rfl 0 (by decide) (hts _ w_4_68) (fun _ h9 => h9) rfl dX8_type_31 (W.pc 34 rfl ?_)
      refine lv_aload_n hx hb dX8_type_34 rfl (lv_at hl 0 rfl) (W.pc 35 rfl ?_)
      refine va_get (D := E.1) (ci := 5) (v := .int a0_letters) (C := RX8) (T := TX8) (N := 16) hx hb hts inT_X8 hown hK hP 0 rfl rfl 1 (by decide) (hts _ w_4_69) (fun _ h9 => h9) rfl dX8_type_35 (W.pc 38 rfl ?_)
      refine lv_iload_n hx hb dX8_type_38 rfl (lv_at hl 1 rfl) (W.pc 39 rfl ?_)
      obtain ⟨h3, hsp⟩ := gi_s hsp
      refine va_iast hx hb hK hP hD hS 1 0 rfl rfl h3 dX8_type_39 (fun H locs hP hD hS => W.pc 40 rfl ?_)
      have hP : wP E [(a0, .inr (5, [.ref a0_text, .int a0_letters, .ref a0_town, .ref a0_draft, .ref a0_tried, .ref a0_images, .ref a0_kept, .ref a0_refused, .long a0_above, .long a0_below, .ref a0_line, .ref a0_best, .int a0_at, .int a0_start, .int a0_isWell, .int a0_faultAt])), (a0_text, aI E 150 (upd fa0_text (a0_letters).toNatClampNeg p1)), (a0_refused, aI E 3 fa0_refused)] _ := hP
      have hD : va_D A [(a0, .inr (5, [.ref a0_text, .int a0_letters, .ref a0_town, .ref a0_draft, .ref a0_tried, .ref a0_images, .ref a0_kept, .ref a0_refused, .long a0_above, .long a0_below, .ref a0_line, .ref a0_best, .int a0_at, .int a0_start, .int a0_isWell, .int a0_faultAt])), (a0_text, aI E 150 (upd fa0_text (a0_letters).toNatClampNeg p1)), (a0_refused, aI E 3 fa0_refused)] := hD
      refine lv_aload_n hx hb dX8_type_40 rfl (lv_at hl 0 rfl) (W.pc 41 rfl ?_)
      refine lv_dup hx hb dX8_type_41 rfl (W.pc 42 rfl ?_)
      refine va_get (D := E.1) (ci := 5) (v := .int a0_letters) (C := RX8) (T := TX8) (N := 16) hx hb hts inT_X8 hown hK hP 0 rfl rfl 1 (by decide) (hts _ w_4_69) (fun _ h9 => h9) rfl dX8_type_42 (W.pc 45 rfl ?_)
      refine lv_iconst (v := (1 : Int32)) hx hb dX8_type_45 (by decide) (W.pc 46 rfl ?_)
      refine lv_iadd hx hb dX8_type_46 (W.pc 47 rfl ?_)
      refine va_put (D := E.1) (ci := 5) (v := .int (a0_letters + (1 : Int32))) (ty := .int) (C := RX8) (T := TX8) (N := 16) hx hb hts inT_X8 tyX8 tyX8_ok nmX8 hown hK hP hD hS 0 rfl rfl 1 (by decide) (hts _ w_4_69) (fun _ h9 => h9) rfl (by decide +kernel) rfl rfl (Nat.le_of_ble_eq_true rfl) dX8_type_47 (fun H locs hP hD hS => W.pc 50 rfl ?_)
      have hP : wP E [(a0, .inr (5, [.ref a0_text, .int (a0_letters + (1 : Int32)), .ref a0_town, .ref a0_draft, .ref a0_tried, .ref a0_images, .ref a0_kept, .ref a0_refused, .long a0_above, .long a0_below, .ref a0_line, .ref a0_best, .int a0_at, .int a0_start, .int a0_isWell, .int a0_faultAt])), (a0_text, aI E 150 (upd fa0_text (a0_letters).toNatClampNeg p1)), (a0_refused, aI E 3 fa0_refused)] _ := hP
      have hD : va_D A [(a0, .inr (5, [.ref a0_text, .int (a0_letters + (1 : Int32)), .ref a0_town, .ref a0_draft, .ref a0_tried, .ref a0_images, .ref a0_kept, .ref a0_refused, .long a0_above, .long a0_below, .ref a0_line, .ref a0_best, .int a0_at, .int a0_start, .int a0_isWell, .int a0_faultAt])), (a0_text, aI E 150 (upd fa0_text (a0_letters).toNatClampNeg p1)), (a0_refused, aI E 3 fa0_refused)] := hD
      refine lv_aload_n hx hb dX8_type_50 rfl (lv_at hl 0 rfl) (W.pc 51 rfl ?_)
      refine va_get (D := E.1) (ci := 5) (v := .int (a0_letters + (1 : Int32))) (C := RX8) (T := TX8) (N := 16) hx hb hts inT_X8 hown hK hP 0 rfl rfl 1 (by decide) (hts _ w_4_69) (fun _ h9 => h9) rfl dX8_type_51 (W.pc 54 rfl ?_)
      cases hsp
      exact rWi hX hP hS rfl rfl dX8_type_54
    · have hsp := ip hsp c2
      refine lv_aload_n hx hb dX8_type_25 rfl (lv_at hl 0 rfl) (W.pc 26 rfl ?_)
      obtain ⟨z4, hr_z4, hsp⟩ := ltb_s hsp
      refine kVW (st1 := [.int z4.1]) (ws' := [(a0, .inr (5, [.ref a0_text, .int a0_letters, .ref a0_town, .ref a0_draft, .ref a0_tried, .ref a0_images, .ref a0_kept, .ref a0_refused, .long a0_above, .long a0_below, .ref a0_line, .ref a0_best, .int a0_at, .int a0_start, .int a0_isWell, .int a0_faultAt])), (a0_text, aI E 150 fa0_text), (a0_refused, aI E 3 z4.2)]) [0, 2] hX (c_X8_full l E a0 a0_text a0_town a0_draft a0_tried a0_images a0_kept a0_refused a0_line a0_best a0_letters a0_above a0_below a0_at a0_start a0_isWell a0_faultAt fa0_refused z4.1 z4.2 hr_z4) B_X8_full w_4_156 hK hP hD hS hA (by decide) rfl rfl rfl (q0 := 0) (ci := 5) rfl rfl rfl rfl hl.1 rfl (Nat.le_of_ble_eq_true rfl) ⟨Nat.le_of_ble_eq_true rfl, Nat.le_of_ble_eq_true rfl⟩ dX8_type_26 rfl (fun H locs hP hD hS => W.pc 29 rfl ?_)
      cases hsp
      exact rWi hX hP hS rfl rfl dX8_type_29
  · have hsp := ip hsp c1
    refine lv_aload_n hx hb dX8_type_10 rfl (lv_at hl 0 rfl) (W.pc 11 rfl ?_)
    obtain ⟨z5, hr_z5, hsp⟩ := ltb_s hsp
    refine kVW (st1 := [.int z5.1]) (ws' := [(a0, .inr (5, [.ref a0_text, .int a0_letters, .ref a0_town, .ref a0_draft, .ref a0_tried, .ref a0_images, .ref a0_kept, .ref a0_refused, .long a0_above, .long a0_below, .ref a0_line, .ref a0_best, .int a0_at, .int a0_start, .int a0_isWell, .int a0_faultAt])), (a0_text, aI E 150 fa0_text), (a0_refused, aI E 3 z5.2)]) [0, 2] hX (c_X8_bad l E a0 a0_text a0_town a0_draft a0_tried a0_images a0_kept a0_refused a0_line a0_best a0_letters a0_above a0_below a0_at a0_start a0_isWell a0_faultAt fa0_refused z5.1 z5.2 hr_z5) B_X8_bad w_4_128 hK hP hD hS hA (by decide) rfl rfl rfl (q0 := 0) (ci := 5) rfl rfl rfl rfl hl.1 rfl (Nat.le_of_ble_eq_true rfl) ⟨Nat.le_of_ble_eq_true rfl, Nat.le_of_ble_eq_true rfl⟩ dX8_type_11 rfl (fun H locs hP hD hS => W.pc 14 rfl ?_)
    cases hsp
    exact rWi hX hP hS rfl rfl dX8_type_14
def sp_X8_clear (a0_letters : Int32) : Int32 × Int32 := (a0_letters, (0 : Int32))
set_option maxHeartbeats 4000000 in
set_option maxRecDepth 100000 in
theorem c_X8_clear (l : Launch) (E : wE) (a0 a0_text a0_town a0_draft a0_tried a0_images a0_kept a0_refused a0_line a0_best : Nat) (a0_letters : Int32) (a0_above : Int64) (a0_below : Int64) (a0_at : Int32) (a0_start : Int32) (a0_isWell : Int32) (a0_faultAt : Int32) (z_0 : Int32) (z_1 : Int32) (hsp : sp_X8_clear a0_letters = (z_0, z_1)) : MW l yX8_clear cX8_clear 2 (some .int) 0 E [.ref a0] [(a0, .inr (5, [.ref a0_text, .int a0_letters, .ref a0_town, .ref a0_draft, .ref a0_tried, .ref a0_images, .ref a0_kept, .ref a0_refused, .long a0_above, .long a0_below, .ref a0_line, .ref a0_best, .int a0_at, .int a0_start, .int a0_isWell, .int a0_faultAt]))] (some (.int z_0)) [(a0, .inr (5, [.ref a0_text, .int z_1, .ref a0_town, .ref a0_draft, .ref a0_tried, .ref a0_images, .ref a0_kept, .ref a0_refused, .long a0_above, .long a0_below, .ref a0_line, .ref a0_best, .int a0_at, .int a0_start, .int a0_isWell, .int a0_faultAt]))] := by
  refine MW.of (by decide +kernel) (Nat.le_of_ble_eq_true rfl) ?_
  intro p e s m below meth c ls A hX hK hP hD hS hA hl
  have hX : CX p s m [.ref a0].toArray meth c cX8_clear 2 (some .int) RX8 := hX
  have hx := hX.1; have hb := hX.2.1; have hts := hX.2.2.2.2.1; have hown := hX.2.2.2.2.2.1
  have hl : lv_has ls 2 [(0, .ref a0)] := hl
  have hP : wP E [(a0, .inr (5, [.ref a0_text, .int a0_letters, .ref a0_town, .ref a0_draft, .ref a0_tried, .ref a0_images, .ref a0_kept, .ref a0_refused, .long a0_above, .long a0_below, .ref a0_line, .ref a0_best, .int a0_at, .int a0_start, .int a0_isWell, .int a0_faultAt]))] s.heap := hP
  have hsp : ((a0_letters, (0 : Int32))) = (z_0, z_1) := hsp
  refine lv_aload_n hx hb dX8_clear_0 rfl (lv_at hl 0 rfl) (W.pc 1 rfl ?_)
  refine va_get (D := E.1) (ci := 5) (v := .int a0_letters) (C := RX8) (T := TX8) (N := 16) hx hb hts inT_X8 hown hK hP 0 rfl rfl 1 (by decide) (hts _ w_4_69) (fun _ h9 => h9) rfl dX8_clear_1 (W.pc 4 rfl ?_)
  refine lv_istore_n (lv' := [(1, .int a0_letters), (0, .ref a0)]) hx hb dX8_clear_4 rfl hl (by decide) rfl (fun ls hl => W.pc 5 rfl ?_)
  refine lv_aload_n hx hb dX8_clear_5 rfl (lv_at hl 1 rfl) (W.pc 6 rfl ?_)
  refine lv_iconst (v := (0 : Int32)) hx hb dX8_clear_6 (by decide) (W.pc 7 rfl ?_)
  refine va_put (D := E.1) (ci := 5) (v := .int (0 : Int32)) (ty := .int) (C := RX8) (T := TX8) (N := 16) hx hb hts inT_X8 tyX8 tyX8_ok nmX8 hown hK hP hD hS 0 rfl rfl 1 (by decide) (hts _ w_4_69) (fun _ h9 => h9) rfl (by decide +kernel) rfl rfl (Nat.le_of_ble_eq_true rfl) dX8_clear_7 (fun H locs hP hD hS => W.pc 10 rfl ?_)
  have hP : wP E [(a0, .inr (5, [.ref a0_text, .int (0 : Int32), .ref a0_town, .ref a0_draft, .ref a0_tried, .ref a0_images, .ref a0_kept, .ref a0_refused, .long a0_above, .long a0_below, .ref a0_line, .ref a0_best, .int a0_at, .int a0_start, .int a0_isWell, .int a0_faultAt]))] _ := hP
  have hD : va_D A [(a0, .inr (5, [.ref a0_text, .int (0 : Int32), .ref a0_town, .ref a0_draft, .ref a0_tried, .ref a0_images, .ref a0_kept, .ref a0_refused, .long a0_above, .long a0_below, .ref a0_line, .ref a0_best, .int a0_at, .int a0_start, .int a0_isWell, .int a0_faultAt]))] := hD
  refine lv_iload_n hx hb dX8_clear_10 rfl (lv_at hl 0 rfl) (W.pc 11 rfl ?_)
  cases hsp
  exact rWi hX hP hS rfl rfl dX8_clear_11
noncomputable def sp_X8_triesOn (fa0_town : Nat → Int32) (fa0_tried : Nat → Int32) : Option ((Nat → Int32)) := Option.bind (sp_X8_copies_d 682 682 (0 : Int32) (0 : Int32) (137 : Int32) fa0_town fa0_tried) fun z1 => some z1
set_option maxHeartbeats 4000000 in
set_option maxRecDepth 100000 in
theorem c_X8_triesOn (l : Launch) (E : wE) (a0 a0_text a0_town a0_draft a0_tried a0_images a0_kept a0_refused a0_line a0_best : Nat) (a0_letters : Int32) (a0_above : Int64) (a0_below : Int64) (a0_at : Int32) (a0_start : Int32) (a0_isWell : Int32) (a0_faultAt : Int32) (fa0_town : Nat → Int32) (fa0_tried : Nat → Int32) (z : (Nat → Int32)) (hsp : sp_X8_triesOn fa0_town fa0_tried = some z) : MW l yX8_triesOn cX8_triesOn 1 none 1 E [.ref a0] [(a0, .inr (5, [.ref a0_text, .int a0_letters, .ref a0_town, .ref a0_draft, .ref a0_tried, .ref a0_images, .ref a0_kept, .ref a0_refused, .long a0_above, .long a0_below, .ref a0_line, .ref a0_best, .int a0_at, .int a0_start, .int a0_isWell, .int a0_faultAt])), (a0_town, aI E 682 fa0_town), (a0_tried, aI E 682 fa0_tried)] none [(a0, .inr (5, [.ref a0_text, .int a0_letters, .ref a0_town, .ref a0_draft, .ref a0_tried, .ref a0_images, .ref a0_kept, .ref a0_refused, .long a0_above, .long a0_below, .ref a0_line, .ref a0_best, .int a0_at, .int a0_start, .int a0_isWell, .int a0_faultAt])), (a0_town, aI E 682 fa0_town), (a0_tried, aI E 682 z)] := by
  refine MW.of (by decide +kernel) (Nat.le_of_ble_eq_true rfl) ?_
  intro p e s m below meth c ls A hX hK hP hD hS hA hl
  have hX : CX p s m [.ref a0].toArray meth c cX8_triesOn 1 none RX8 := hX
  have hx := hX.1; have hb := hX.2.1; have hts := hX.2.2.2.2.1; have hown := hX.2.2.2.2.2.1
  have hl : lv_has ls 1 [(0, .ref a0)] := hl
  have hP : wP E [(a0, .inr (5, [.ref a0_text, .int a0_letters, .ref a0_town, .ref a0_draft, .ref a0_tried, .ref a0_images, .ref a0_kept, .ref a0_refused, .long a0_above, .long a0_below, .ref a0_line, .ref a0_best, .int a0_at, .int a0_start, .int a0_isWell, .int a0_faultAt])), (a0_town, aI E 682 fa0_town), (a0_tried, aI E 682 fa0_tried)] s.heap := hP
  have hsp : (Option.bind (sp_X8_copies_d 682 682 (0 : Int32) (0 : Int32) (137 : Int32) fa0_town fa0_tried) fun z1 => some z1) = some z := hsp
  refine lv_aload_n hx hb dX8_triesOn_0 rfl (lv_at hl 0 rfl) (W.pc 1 rfl ?_)
  refine va_get (D := E.1) (ci := 5) (v := .ref a0_town) (C := RX8) (T := TX8) (N := 16) hx hb hts inT_X8 hown hK hP 0 rfl rfl 2 (by decide) (hts _ w_4_70) (fun _ h9 => h9) rfl dX8_triesOn_1 (W.pc 4 rfl ?_)
  refine lv_iconst (v := (0 : Int32)) hx hb dX8_triesOn_4 (by decide) (W.pc 5 rfl ?_)
  refine lv_aload_n hx hb dX8_triesOn_5 rfl (lv_at hl 0 rfl) (W.pc 6 rfl ?_)
  refine va_get (D := E.1) (ci := 5) (v := .ref a0_tried) (C := RX8) (T := TX8) (N := 16) hx hb hts inT_X8 hown hK hP 0 rfl rfl 4 (by decide) (hts _ w_4_72) (fun _ h9 => h9) rfl dX8_triesOn_6 (W.pc 9 rfl ?_)
  refine lv_iconst (v := (0 : Int32)) hx hb dX8_triesOn_9 (by decide) (W.pc 10 rfl ?_)
  refine lv_sipush (v := (137 : Int32)) hx hb dX8_triesOn_10 (by decide) (W.pc 13 rfl ?_)
  obtain ⟨z1, hr_z1, hsp⟩ := bd_s hsp
  refine kSW (st1 := []) (ws' := [(a0, .inr (5, [.ref a0_text, .int a0_letters, .ref a0_town, .ref a0_draft, .ref a0_tried, .ref a0_images, .ref a0_kept, .ref a0_refused, .long a0_above, .long a0_below, .ref a0_line, .ref a0_best, .int a0_at, .int a0_start, .int a0_isWell, .int a0_faultAt])), (a0_town, aI E 682 fa0_town), (a0_tried, aI E 682 z1)]) [1, 2] hX (c_X8_copies_d l E a0_town a0_tried 682 (by decide) 682 (by decide) (0 : Int32) (0 : Int32) (137 : Int32) fa0_town fa0_tried z1 hr_z1) B_X8_copies w_5_15 hK hP hD hS hA (by decide) rfl rfl rfl rfl hl.1 rfl (Nat.le_of_ble_eq_true rfl) ⟨Nat.le_of_ble_eq_true rfl, Nat.le_of_ble_eq_true rfl⟩ dX8_triesOn_13 rfl (fun H locs hP hD hS => W.pc 16 rfl ?_)
  obtain rfl := Option.some.inj hsp
  exact rWv hX hP hS rfl dX8_triesOn_16
noncomputable def sp_X8_notes (fa0_town : Nat → Int32) : Option ((Nat → Int32)) := Option.bind (if (fa0_town ((137 : Int32)).toNatClampNeg) = (8 : Int32) then (Option.bind (sp_X8_copies_s 682 (206 : Int32) (138 : Int32) (476 : Int32) fa0_town) fun z4 => some (upd z4 ((137 : Int32)).toNatClampNeg ((z4 ((137 : Int32)).toNatClampNeg) - (1 : Int32)))) else (some fa0_town)) fun z1 => Option.bind (sp_X8_copies_s 682 (1 : Int32) ((138 : Int32) + ((68 : Int32) * (z1 ((137 : Int32)).toNatClampNeg))) (68 : Int32) z1) fun z5 => some (upd z5 ((137 : Int32)).toNatClampNeg ((z5 ((137 : Int32)).toNatClampNeg) + (1 : Int32)))
set_option maxHeartbeats 4000000 in
set_option maxRecDepth 100000 in
theorem c_X8_notes (l : Launch) (E : wE) (a0 a0_text a0_town a0_draft a0_tried a0_images a0_kept a0_refused a0_line a0_best : Nat) (a0_letters : Int32) (a0_above : Int64) (a0_below : Int64) (a0_at : Int32) (a0_start : Int32) (a0_isWell : Int32) (a0_faultAt : Int32) (fa0_town : Nat → Int32) (z : (Nat → Int32)) (hsp : sp_X8_notes fa0_town = some z) : MW l yX8_notes cX8_notes 1 none 1 E [.ref a0] [(a0, .inr (5, [.ref a0_text, .int a0_letters, .ref a0_town, .ref a0_draft, .ref a0_tried, .ref a0_images, .ref a0_kept, .ref a0_refused, .long a0_above, .long a0_below, .ref a0_line, .ref a0_best, .int a0_at, .int a0_start, .int a0_isWell, .int a0_faultAt])), (a0_town, aI E 682 fa0_town)] none [(a0, .inr (5, [.ref a0_text, .int a0_letters, .ref a0_town, .ref a0_draft, .ref a0_tried, .ref a0_images, .ref a0_kept, .ref a0_refused, .long a0_above, .long a0_below, .ref a0_line, .ref a0_best, .int a0_at, .int a0_start, .int a0_isWell, .int a0_faultAt])), (a0_town, aI E 682 z)] := by
  refine MW.of (by decide +kernel) (Nat.le_of_ble_eq_true rfl) ?_
  intro p e s m below meth c ls A hX hK hP hD hS hA hl
  have hX : CX p s m [.ref a0].toArray meth c cX8_notes 1 none RX8 := hX
  have hx := hX.1; have hb := hX.2.1; have hts := hX.2.2.2.2.1; have hown := hX.2.2.2.2.2.1
  have hl : lv_has ls 1 [(0, .ref a0)] := hl
  have hP : wP E [(a0, .inr (5, [.ref a0_text, .int a0_letters, .ref a0_town, .ref a0_draft, .ref a0_tried, .ref a0_images, .ref a0_kept, .ref a0_refused, .long a0_above, .long a0_below, .ref a0_line, .ref a0_best, .int a0_at, .int a0_start, .int a0_isWell, .int a0_faultAt])), (a0_town, aI E 682 fa0_town)] s.heap := hP
  have hsp : (Option.bind (if (fa0_town ((137 : Int32)).toNatClampNeg) = (8 : Int32) then (Option.bind (sp_X8_copies_s 682 (206 : Int32) (138 : Int32) (476 : Int32) fa0_town) fun z4 => some (upd z4 ((137 : Int32)).toNatClampNeg ((z4 ((137 : Int32)).toNatClampNeg) - (1 : Int32)))) else (some fa0_town)) fun z1 => Option.bind (sp_X8_copies_s 682 (1 : Int32) ((138 : Int32) + ((68 : Int32) * (z1 ((137 : Int32)).toNatClampNeg))) (68 : Int32) z1) fun z5 => some (upd z5 ((137 : Int32)).toNatClampNeg ((z5 ((137 : Int32)).toNatClampNeg) + (1 : Int32)))) = some z := hsp
  refine lv_aload_n hx hb dX8_notes_0 rfl (lv_at hl 0 rfl) (W.pc 1 rfl ?_)
  refine va_get (D := E.1) (ci := 5) (v := .ref a0_town) (C := RX8) (T := TX8) (N := 16) hx hb hts inT_X8 hown hK hP 0 rfl rfl 2 (by decide) (hts _ w_4_70) (fun _ h9 => h9) rfl dX8_notes_1 (W.pc 4 rfl ?_)
  refine lv_sipush (v := (137 : Int32)) hx hb dX8_notes_4 (by decide) (W.pc 7 rfl ?_)
  refine va_iald hx hb hK hP 1 0 rfl rfl (vp_in_nI (n := 137) (N := 682) (by decide) (by decide)) dX8_notes_7 (W.pc 8 rfl ?_)
  refine lv_bipush (v := (8 : Int32)) hx hb dX8_notes_8 (by decide) (W.pc 10 rfl ?_)
  obtain ⟨z1, hr_z1, hsp⟩ := bd_s hsp
  have J2 : ∀ (H : Heap) (locs : List Loc) (ls : Array Slot), wP E [(a0, .inr (5, [.ref a0_text, .int a0_letters, .ref a0_town, .ref a0_draft, .ref a0_tried, .ref a0_images, .ref a0_kept, .ref a0_refused, .long a0_above, .long a0_below, .ref a0_line, .ref a0_best, .int a0_at, .int a0_start, .int a0_isWell, .int a0_faultAt])), (a0_town, aI E 682 z1)] H → va_D A [(a0, .inr (5, [.ref a0_text, .int a0_letters, .ref a0_town, .ref a0_draft, .ref a0_tried, .ref a0_images, .ref a0_kept, .ref a0_refused, .long a0_above, .long a0_below, .ref a0_line, .ref a0_best, .int a0_at, .int a0_start, .int a0_isWell, .int a0_faultAt])), (a0_town, aI E 682 z1)] → va_S A s.heap H locs → lv_has ls 1 [(0, .ref a0)] → W p l e (wR 1) s m [.ref a0].toArray below meth c H locs 0 0 (MQ below (QWd E A none [(a0, .inr (5, [.ref a0_text, .int a0_letters, .ref a0_town, .ref a0_draft, .ref a0_tried, .ref a0_images, .ref a0_kept, .ref a0_refused, .long a0_above, .long a0_below, .ref a0_line, .ref a0_best, .int a0_at, .int a0_start, .int a0_isWell, .int a0_faultAt])), (a0_town, aI E 682 z)]) [.ref a0].toArray s 0 0 A) (F0 m 45 ls []) := by
    intro H locs ls hP hD hS hl
    refine lv_aload_n hx hb dX8_notes_45 rfl (lv_at hl 0 rfl) (W.pc 46 rfl ?_)
    refine va_get (D := E.1) (ci := 5) (v := .ref a0_town) (C := RX8) (T := TX8) (N := 16) hx hb hts inT_X8 hown hK hP 0 rfl rfl 2 (by decide) (hts _ w_4_70) (fun _ h9 => h9) rfl dX8_notes_46 (W.pc 49 rfl ?_)
    refine lv_iconst (v := (1 : Int32)) hx hb dX8_notes_49 (by decide) (W.pc 50 rfl ?_)
    refine lv_aload_n hx hb dX8_notes_50 rfl (lv_at hl 0 rfl) (W.pc 51 rfl ?_)
    refine va_get (D := E.1) (ci := 5) (v := .ref a0_town) (C := RX8) (T := TX8) (N := 16) hx hb hts inT_X8 hown hK hP 0 rfl rfl 2 (by decide) (hts _ w_4_70) (fun _ h9 => h9) rfl dX8_notes_51 (W.pc 54 rfl ?_)
    refine lv_sipush (v := (138 : Int32)) hx hb dX8_notes_54 (by decide) (W.pc 57 rfl ?_)
    refine lv_bipush (v := (68 : Int32)) hx hb dX8_notes_57 (by decide) (W.pc 59 rfl ?_)
    refine lv_aload_n hx hb dX8_notes_59 rfl (lv_at hl 0 rfl) (W.pc 60 rfl ?_)
    refine va_get (D := E.1) (ci := 5) (v := .ref a0_town) (C := RX8) (T := TX8) (N := 16) hx hb hts inT_X8 hown hK hP 0 rfl rfl 2 (by decide) (hts _ w_4_70) (fun _ h9 => h9) rfl dX8_notes_60 (W.pc 63 rfl ?_)
    refine lv_sipush (v := (137 : Int32)) hx hb dX8_notes_63 (by decide) (W.pc 66 rfl ?_)
    refine va_iald hx hb hK hP 1 0 rfl rfl (vp_in_nI (n := 137) (N := 682) (by decide) (by decide)) dX8_notes_66 (W.pc 67 rfl ?_)
    refine lv_imul hx hb dX8_notes_67 (W.pc 68 rfl ?_)
    refine lv_iadd hx hb dX8_notes_68 (W.pc 69 rfl ?_)
    refine lv_bipush (v := (68 : Int32)) hx hb dX8_notes_69 (by decide) (W.pc 71 rfl ?_)
    obtain ⟨z5, hr_z5, hsp⟩ := bd_s hsp
    refine kSW (st1 := []) (ws' := [(a0, .inr (5, [.ref a0_text, .int a0_letters, .ref a0_town, .ref a0_draft, .ref a0_tried, .ref a0_images, .ref a0_kept, .ref a0_refused, .long a0_above, .long a0_below, .ref a0_line, .ref a0_best, .int a0_at, .int a0_start, .int a0_isWell, .int a0_faultAt])), (a0_town, aI E 682 z5)]) [1] hX (c_X8_copies_s l E a0_town 682 (by decide) (1 : Int32) ((138 : Int32) + ((68 : Int32) * (z1 ((137 : Int32)).toNatClampNeg))) (68 : Int32) z1 z5 hr_z5) B_X8_copies w_5_15 hK hP hD hS hA (by decide) rfl rfl rfl rfl hl.1 rfl (Nat.le_of_ble_eq_true rfl) ⟨Nat.le_of_ble_eq_true rfl, Nat.le_of_ble_eq_true rfl⟩ dX8_notes_71 rfl (fun H locs hP hD hS => W.pc 74 rfl ?_)
    refine lv_aload_n hx hb dX8_notes_74 rfl (lv_at hl 0 rfl) (W.pc 75 rfl ?_)
    refine va_get (D := E.1) (ci := 5) (v := .ref a0_town) (C := RX8) (T := TX8) (N := 16) hx hb hts inT_X8 hown hK hP 0 rfl rfl 2 (by decide) (hts _ w_4_70) (fun _ h9 => h9) rfl dX8_notes_75 (W.pc 78 rfl ?_)
    refine lv_sipush (v := (137 : Int32)) hx hb dX8_notes_78 (by decide) (W.pc 81 rfl ?_)
    refine lv_dup2_11 hx hb dX8_notes_81 rfl rfl (W.pc 82 rfl ?_)
    refine va_iald hx hb hK hP 1 0 rfl rfl (vp_in_nI (n := 137) (N := 682) (by decide) (by decide)) dX8_notes_82 (W.pc 83 rfl ?_)
    refine lv_iconst (v := (1 : Int32)) hx hb dX8_notes_83 (by decide) (W.pc 84 rfl ?_)
    refine lv_iadd hx hb dX8_notes_84 (W.pc 85 rfl ?_)
    refine va_iast hx hb hK hP hD hS 1 0 rfl rfl (vp_in_nI (n := 137) (N := 682) (by decide) (by decide)) dX8_notes_85 (fun H locs hP hD hS => W.pc 86 rfl ?_)
    have hP : wP E [(a0, .inr (5, [.ref a0_text, .int a0_letters, .ref a0_town, .ref a0_draft, .ref a0_tried, .ref a0_images, .ref a0_kept, .ref a0_refused, .long a0_above, .long a0_below, .ref a0_line, .ref a0_best, .int a0_at, .int a0_start, .int a0_isWell, .int a0_faultAt])), (a0_town, aI E 682 (upd z5 ((137 : Int32)).toNatClampNeg ((z5 ((137 : Int32)).toNatClampNeg) + (1 : Int32))))] _ := hP
    have hD : va_D A [(a0, .inr (5, [.ref a0_text, .int a0_letters, .ref a0_town, .ref a0_draft, .ref a0_tried, .ref a0_images, .ref a0_kept, .ref a0_refused, .long a0_above, .long a0_below, .ref a0_line, .ref a0_best, .int a0_at, .int a0_start, .int a0_isWell, .int a0_faultAt])), (a0_town, aI E 682 (upd z5 ((137 : Int32)).toNatClampNeg ((z5 ((137 : Int32)).toNatClampNeg) + (1 : Int32))))] := hD
    obtain rfl := Option.some.inj hsp
    exact rWv hX hP hS rfl dX8_notes_86
  replace hsp := hr_z1
  refine lv_icmp_ne (tgt := 45) hx hb dX8_notes_10 (by decide) (fun c3 => ?_) (fun c3 => W.pc 13 rfl ?_)
  · have hsp := iq hsp c3
    obtain rfl := Option.some.inj hsp
    exact J2 _ _ _ hP hD hS (lv_sub hl [0] rfl)
  · have hsp := ip hsp c3
    refine lv_aload_n hx hb dX8_notes_13 rfl (lv_at hl 0 rfl) (W.pc 14 rfl ?_)
    refine va_get (D := E.1) (ci := 5) (v := .ref a0_town) (C := RX8) (T := TX8) (N := 16) hx hb hts inT_X8 hown hK hP 0 rfl rfl 2 (by decide) (hts _ w_4_70) (fun _ h9 => h9) rfl dX8_notes_14 (W.pc 17 rfl ?_)
    refine lv_sipush (v := (206 : Int32)) hx hb dX8_notes_17 (by decide) (W.pc 20 rfl ?_)
    refine lv_aload_n hx hb dX8_notes_20 rfl (lv_at hl 0 rfl) (W.pc 21 rfl ?_)
    refine va_get (D := E.1) (ci := 5) (v := .ref a0_town) (C := RX8) (T := TX8) (N := 16) hx hb hts inT_X8 hown hK hP 0 rfl rfl 2 (by decide) (hts _ w_4_70) (fun _ h9 => h9) rfl dX8_notes_21 (W.pc 24 rfl ?_)
    refine lv_sipush (v := (138 : Int32)) hx hb dX8_notes_24 (by decide) (W.pc 27 rfl ?_)
    refine lv_sipush (v := (476 : Int32)) hx hb dX8_notes_27 (by decide) (W.pc 30 rfl ?_)
    obtain ⟨z4, hr_z4, hsp⟩ := bd_s hsp
    refine kSW (st1 := []) (ws' := [(a0, .inr (5, [.ref a0_text, .int a0_letters, .ref a0_town, .ref a0_draft, .ref a0_tried, .ref a0_images, .ref a0_kept, .ref a0_refused, .long a0_above, .long a0_below, .ref a0_line, .ref a0_best, .int a0_at, .int a0_start, .int a0_isWell, .int a0_faultAt])), (a0_town, aI E 682 z4)]) [1] hX (c_X8_copies_s l E a0_town 682 (by decide) (206 : Int32) (138 : Int32) (476 : Int32) fa0_town z4 hr_z4) B_X8_copies w_5_15 hK hP hD hS hA (by decide) rfl rfl rfl rfl hl.1 rfl (Nat.le_of_ble_eq_true rfl) ⟨Nat.le_of_ble_eq_true rfl, Nat.le_of_ble_eq_true rfl⟩ dX8_notes_30 rfl (fun H locs hP hD hS => W.pc 33 rfl ?_)
    refine lv_aload_n hx hb dX8_notes_33 rfl (lv_at hl 0 rfl) (W.pc 34 rfl ?_)
    refine va_get (D := E.1) (ci := 5) (v := .ref a0_town) (C := RX8) (T := TX8) (N := 16) hx hb hts inT_X8 hown hK hP 0 rfl rfl 2 (by decide) (hts _ w_4_70) (fun _ h9 => h9) rfl dX8_notes_34 (W.pc 37 rfl ?_)
    refine lv_sipush (v := (137 : Int32)) hx hb dX8_notes_37 (by decide) (W.pc 40 rfl ?_)
    refine lv_dup2_11 hx hb dX8_notes_40 rfl rfl (W.pc 41 rfl ?_)
    refine va_iald hx hb hK hP 1 0 rfl rfl (vp_in_nI (n := 137) (N := 682) (by decide) (by decide)) dX8_notes_41 (W.pc 42 rfl ?_)
    refine lv_iconst (v := (1 : Int32)) hx hb dX8_notes_42 (by decide) (W.pc 43 rfl ?_)
    refine lv_isub hx hb dX8_notes_43 (W.pc 44 rfl ?_)
    refine va_iast hx hb hK hP hD hS 1 0 rfl rfl (vp_in_nI (n := 137) (N := 682) (by decide) (by decide)) dX8_notes_44 (fun H locs hP hD hS => W.pc 45 rfl ?_)
    have hP : wP E [(a0, .inr (5, [.ref a0_text, .int a0_letters, .ref a0_town, .ref a0_draft, .ref a0_tried, .ref a0_images, .ref a0_kept, .ref a0_refused, .long a0_above, .long a0_below, .ref a0_line, .ref a0_best, .int a0_at, .int a0_start, .int a0_isWell, .int a0_faultAt])), (a0_town, aI E 682 (upd z4 ((137 : Int32)).toNatClampNeg ((z4 ((137 : Int32)).toNatClampNeg) - (1 : Int32))))] _ := hP
    have hD : va_D A [(a0, .inr (5, [.ref a0_text, .int a0_letters, .ref a0_town, .ref a0_draft, .ref a0_tried, .ref a0_images, .ref a0_kept, .ref a0_refused, .long a0_above, .long a0_below, .ref a0_line, .ref a0_best, .int a0_at, .int a0_start, .int a0_isWell, .int a0_faultAt])), (a0_town, aI E 682 (upd z4 ((137 : Int32)).toNatClampNeg ((z4 ((137 : Int32)).toNatClampNeg) - (1 : Int32))))] := hD
    obtain rfl := Option.some.inj hsp
    exact J2 _ _ _ hP hD hS (lv_sub hl [0] rfl)
noncomputable def sp_X8_build (p1 : Int32) (p2 : Int32) (p3 : Int32) (fa0_refused : Nat → Int32) (fa0_town : Nat → Int32) : Option (Int32 × (Nat → Int32) × (Nat → Int32)) := if (sp_X8_isPlot p1) = 0 then (lt_ (sp_X8_bad fa0_refused) fun z2 => some (z2.1, z2.2, fa0_town)) else (if (sp_X8_isKind p2) = 0 then (lt_ (sp_X8_bad fa0_refused) fun z4 => some (z4.1, z4.2, fa0_town)) else (if (sp_X8_in p3 (0 : Int32) (1 : Int32)) = 0 then (lt_ (sp_X8_bad fa0_refused) fun z14 => some (z14.1, z14.2, fa0_town)) else (gi ((3 : Int32) + p1) 682 (if (fa0_town (((3 : Int32) + p1)).toNatClampNeg) = (5 : Int32) then (lt_ (sp_X8_full fa0_refused) fun z13 => some (z13.1, z13.2, fa0_town)) else (Option.bind (sp_X8_notes fa0_town) fun z8 => lt_ (if p3 = (1 : Int32) then ((0 : Int32)) else ((z8 ((1 : Int32)).toNatClampNeg))) fun z9 => Option.bind (sp_X8_builds p1 p2 z9 z8) fun z12 => some ((z12 (((3 : Int32) + p1)).toNatClampNeg), fa0_refused, z12))))))
set_option maxHeartbeats 4000000 in
set_option maxRecDepth 100000 in
theorem c_X8_build (l : Launch) (E : wE) (a0 a0_text a0_town a0_draft a0_tried a0_images a0_kept a0_refused a0_line a0_best : Nat) (p1 : Int32) (p2 : Int32) (p3 : Int32) (a0_letters : Int32) (a0_above : Int64) (a0_below : Int64) (a0_at : Int32) (a0_start : Int32) (a0_isWell : Int32) (a0_faultAt : Int32) (fa0_refused : Nat → Int32) (fa0_town : Nat → Int32) (z_0 : Int32) (z_1 : (Nat → Int32)) (z_2 : (Nat → Int32)) (hsp : sp_X8_build p1 p2 p3 fa0_refused fa0_town = some (z_0, z_1, z_2)) : MW l yX8_build cX8_build 4 (some .int) 4 E [.ref a0, .int p1, .int p2, .int p3] [(a0, .inr (5, [.ref a0_text, .int a0_letters, .ref a0_town, .ref a0_draft, .ref a0_tried, .ref a0_images, .ref a0_kept, .ref a0_refused, .long a0_above, .long a0_below, .ref a0_line, .ref a0_best, .int a0_at, .int a0_start, .int a0_isWell, .int a0_faultAt])), (a0_refused, aI E 3 fa0_refused), (a0_town, aI E 682 fa0_town)] (some (.int z_0)) [(a0, .inr (5, [.ref a0_text, .int a0_letters, .ref a0_town, .ref a0_draft, .ref a0_tried, .ref a0_images, .ref a0_kept, .ref a0_refused, .long a0_above, .long a0_below, .ref a0_line, .ref a0_best, .int a0_at, .int a0_start, .int a0_isWell, .int a0_faultAt])), (a0_refused, aI E 3 z_1), (a0_town, aI E 682 z_2)] := by
  refine MW.of (by decide +kernel) (Nat.le_of_ble_eq_true rfl) ?_
  intro p e s m below meth c ls A hX hK hP hD hS hA hl
  have hX : CX p s m [.ref a0, .int p1, .int p2, .int p3].toArray meth c cX8_build 4 (some .int) RX8 := hX
  have hx := hX.1; have hb := hX.2.1; have hts := hX.2.2.2.2.1; have hown := hX.2.2.2.2.2.1
  have hl : lv_has ls 4 [(0, .ref a0), (1, .int p1), (2, .int p2), (3, .int p3)] := hl
  have hP : wP E [(a0, .inr (5, [.ref a0_text, .int a0_letters, .ref a0_town, .ref a0_draft, .ref a0_tried, .ref a0_images, .ref a0_kept, .ref a0_refused, .long a0_above, .long a0_below, .ref a0_line, .ref a0_best, .int a0_at, .int a0_start, .int a0_isWell, .int a0_faultAt])), (a0_refused, aI E 3 fa0_refused), (a0_town, aI E 682 fa0_town)] s.heap := hP
  have hsp : (if (sp_X8_isPlot p1) = 0 then (lt_ (sp_X8_bad fa0_refused) fun z2 => some (z2.1, z2.2, fa0_town)) else (if (sp_X8_isKind p2) = 0 then (lt_ (sp_X8_bad fa0_refused) fun z4 => some (z4.1, z4.2, fa0_town)) else (if (sp_X8_in p3 (0 : Int32) (1 : Int32)) = 0 then (lt_ (sp_X8_bad fa0_refused) fun z14 => some (z14.1, z14.2, fa0_town)) else (gi ((3 : Int32) + p1) 682 (if (fa0_town (((3 : Int32) + p1)).toNatClampNeg) = (5 : Int32) then (lt_ (sp_X8_full fa0_refused) fun z13 => some (z13.1, z13.2, fa0_town)) else (Option.bind (sp_X8_notes fa0_town) fun z8 => lt_ (if p3 = (1 : Int32) then ((0 : Int32)) else ((z8 ((1 : Int32)).toNatClampNeg))) fun z9 => Option.bind (sp_X8_builds p1 p2 z9 z8) fun z12 => some ((z12 (((3 : Int32) + p1)).toNatClampNeg), fa0_refused, z12))))))) = some (z_0, z_1, z_2) := hsp
  refine lv_iload_n hx hb dX8_build_0 rfl (lv_at hl 1 rfl) (W.pc 1 rfl ?_)
  refine kSR (st1 := [.int (sp_X8_isPlot p1)]) hX (c_X8_isPlot l E p1 _ rfl) B_X8_isPlot w_4_142 hK (hP.pick [] rfl) rfl hl.1 rfl (Nat.le_of_ble_eq_true rfl) ⟨Nat.le_of_ble_eq_true rfl, Nat.le_of_ble_eq_true rfl⟩ dX8_build_1 rfl (W.pc 4 rfl ?_)
  refine lv_if_eq (tgt := 23) hx hb dX8_build_4 (by decide) (fun c1 => ?_) (fun c1 => W.pc 7 rfl ?_)
  · have hsp := ip hsp c1
    refine lv_aload_n hx hb dX8_build_23 rfl (lv_at hl 0 rfl) (W.pc 24 rfl ?_)
    obtain ⟨z2, hr_z2, hsp⟩ := ltb_s hsp
    refine kVW (st1 := [.int z2.1]) (ws' := [(a0, .inr (5, [.ref a0_text, .int a0_letters, .ref a0_town, .ref a0_draft, .ref a0_tried, .ref a0_images, .ref a0_kept, .ref a0_refused, .long a0_above, .long a0_below, .ref a0_line, .ref a0_best, .int a0_at, .int a0_start, .int a0_isWell, .int a0_faultAt])), (a0_refused, aI E 3 z2.2), (a0_town, aI E 682 fa0_town)]) [0, 1] hX (c_X8_bad l E a0 a0_text a0_town a0_draft a0_tried a0_images a0_kept a0_refused a0_line a0_best a0_letters a0_above a0_below a0_at a0_start a0_isWell a0_faultAt fa0_refused z2.1 z2.2 hr_z2) B_X8_bad w_4_128 hK hP hD hS hA (by decide) rfl rfl rfl (q0 := 0) (ci := 5) rfl rfl rfl rfl hl.1 rfl (Nat.le_of_ble_eq_true rfl) ⟨Nat.le_of_ble_eq_true rfl, Nat.le_of_ble_eq_true rfl⟩ dX8_build_24 rfl (fun H locs hP hD hS => W.pc 27 rfl ?_)
    cases hsp
    exact rWi hX hP hS rfl rfl dX8_build_27
  · have hsp := iq hsp c1
    refine lv_iload_n hx hb dX8_build_7 rfl (lv_at hl 2 rfl) (W.pc 8 rfl ?_)
    refine kSR (st1 := [.int (sp_X8_isKind p2)]) hX (c_X8_isKind l E p2 _ rfl) B_X8_isKind w_4_122 hK (hP.pick [] rfl) rfl hl.1 rfl (Nat.le_of_ble_eq_true rfl) ⟨Nat.le_of_ble_eq_true rfl, Nat.le_of_ble_eq_true rfl⟩ dX8_build_8 rfl (W.pc 11 rfl ?_)
    refine lv_if_eq (tgt := 23) hx hb dX8_build_11 (by decide) (fun c3 => ?_) (fun c3 => W.pc 14 rfl ?_)
    · have hsp := ip hsp c3
      refine lv_aload_n hx hb dX8_build_23 rfl (lv_at hl 0 rfl) (W.pc 24 rfl ?_)
      obtain ⟨z4, hr_z4, hsp⟩ := ltb_s hsp
      refine kVW (st1 := [.int z4.1]) (ws' := [(a0, .inr (5, [.ref a0_text, .int a0_letters, .ref a0_town, .ref a0_draft, .ref a0_tried, .ref a0_images, .ref a0_kept, .ref a0_refused, .long a0_above, .long a0_below, .ref a0_line, .ref a0_best, .int a0_at, .int a0_start, .int a0_isWell, .int a0_faultAt])), (a0_refused, aI E 3 z4.2), (a0_town, aI E 682 fa0_town)]) [0, 1] hX (c_X8_bad l E a0 a0_text a0_town a0_draft a0_tried a0_images a0_kept a0_refused a0_line a0_best a0_letters a0_above a0_below a0_at a0_start a0_isWell a0_faultAt fa0_refused z4.1 z4.2 hr_z4) B_X8_bad w_4_128 hK hP hD hS hA (by decide) rfl rfl rfl (q0 := 0) (ci := 5) rfl rfl rfl rfl hl.1 rfl (Nat.le_of_ble_eq_true rfl) ⟨Nat.le_of_ble_eq_true rfl, Nat.le_of_ble_eq_true rfl⟩ dX8_build_24 rfl (fun H locs hP hD hS => W.pc 27 rfl ?_)
      cases hsp
      exact rWi hX hP hS rfl rfl dX8_build_27
    · have hsp := iq hsp c3
      refine lv_iload_n hx hb dX8_build_14 rfl (lv_at hl 3 rfl) (W.pc 15 rfl ?_)
      refine lv_iconst (v := (0 : Int32)) hx hb dX8_build_15 (by decide) (W.pc 16 rfl ?_)
      refine lv_iconst (v := (1 : Int32)) hx hb dX8_build_16 (by decide) (W.pc 17 rfl ?_)
      refine kSR (st1 := [.int (sp_X8_in p3 (0 : Int32) (1 : Int32))]) hX (c_X8_in l E p3 (0 : Int32) (1 : Int32) _ rfl) B_X8_in w_4_125 hK (hP.pick [] rfl) rfl hl.1 rfl (Nat.le_of_ble_eq_true rfl) ⟨Nat.le_of_ble_eq_true rfl, Nat.le_of_ble_eq_true rfl⟩ dX8_build_17 rfl (W.pc 20 rfl ?_)
      refine lv_if_ne (tgt := 28) hx hb dX8_build_20 (by decide) (fun c5 => ?_) (fun c5 => W.pc 23 rfl ?_)
      · have hsp := iq hsp c5
        refine lv_aload_n hx hb dX8_build_28 rfl (lv_at hl 0 rfl) (W.pc 29 rfl ?_)
        refine va_get (D := E.1) (ci := 5) (v := .ref a0_town) (C := RX8) (T := TX8) (N := 16) hx hb hts inT_X8 hown hK hP 0 rfl rfl 2 (by decide) (hts _ w_4_70) (fun _ h9 => h9) rfl dX8_build_29 (W.pc 32 rfl ?_)
        refine lv_iconst (v := (3 : Int32)) hx hb dX8_build_32 (by decide) (W.pc 33 rfl ?_)
        refine lv_iload_n hx hb dX8_build_33 rfl (lv_at hl 1 rfl) (W.pc 34 rfl ?_)
        refine lv_iadd hx hb dX8_build_34 (W.pc 35 rfl ?_)
        obtain ⟨h6, hsp⟩ := gi_s hsp
        refine va_iald hx hb hK hP 2 0 rfl rfl h6 dX8_build_35 (W.pc 36 rfl ?_)
        refine lv_iconst (v := (5 : Int32)) hx hb dX8_build_36 (by decide) (W.pc 37 rfl ?_)
        refine lv_icmp_ne (tgt := 45) hx hb dX8_build_37 (by decide) (fun c7 => ?_) (fun c7 => W.pc 40 rfl ?_)
        · have hsp := iq hsp c7
          refine lv_aload_n hx hb dX8_build_45 rfl (lv_at hl 0 rfl) (W.pc 46 rfl ?_)
          obtain ⟨z8, hr_z8, hsp⟩ := bd_s hsp
          refine kVW (st1 := []) (ws' := [(a0, .inr (5, [.ref a0_text, .int a0_letters, .ref a0_town, .ref a0_draft, .ref a0_tried, .ref a0_images, .ref a0_kept, .ref a0_refused, .long a0_above, .long a0_below, .ref a0_line, .ref a0_best, .int a0_at, .int a0_start, .int a0_isWell, .int a0_faultAt])), (a0_refused, aI E 3 fa0_refused), (a0_town, aI E 682 z8)]) [0, 2] hX (c_X8_notes l E a0 a0_text a0_town a0_draft a0_tried a0_images a0_kept a0_refused a0_line a0_best a0_letters a0_above a0_below a0_at a0_start a0_isWell a0_faultAt fa0_town z8 hr_z8) B_X8_notes w_5_22 hK hP hD hS hA (by decide) rfl rfl rfl (q0 := 0) (ci := 5) rfl rfl rfl rfl hl.1 rfl (Nat.le_of_ble_eq_true rfl) ⟨Nat.le_of_ble_eq_true rfl, Nat.le_of_ble_eq_true rfl⟩ dX8_build_46 rfl (fun H locs hP hD hS => W.pc 49 rfl ?_)
          refine lv_aload_n hx hb dX8_build_49 rfl (lv_at hl 0 rfl) (W.pc 50 rfl ?_)
          refine va_get (D := E.1) (ci := 5) (v := .ref a0_town) (C := RX8) (T := TX8) (N := 16) hx hb hts inT_X8 hown hK hP 0 rfl rfl 2 (by decide) (hts _ w_4_70) (fun _ h9 => h9) rfl dX8_build_50 (W.pc 53 rfl ?_)
          refine lv_iload_n hx hb dX8_build_53 rfl (lv_at hl 1 rfl) (W.pc 54 rfl ?_)
          refine lv_iload_n hx hb dX8_build_54 rfl (lv_at hl 2 rfl) (W.pc 55 rfl ?_)
          refine lv_iload_n hx hb dX8_build_55 rfl (lv_at hl 3 rfl) (W.pc 56 rfl ?_)
          refine lv_iconst (v := (1 : Int32)) hx hb dX8_build_56 (by decide) (W.pc 57 rfl ?_)
          obtain ⟨z9, hr_z9, hsp⟩ := ltb_s hsp
          have J10 : ∀ (H : Heap) (locs : List Loc) (ls : Array Slot), wP E [(a0, .inr (5, [.ref a0_text, .int a0_letters, .ref a0_town, .ref a0_draft, .ref a0_tried, .ref a0_images, .ref a0_kept, .ref a0_refused, .long a0_above, .long a0_below, .ref a0_line, .ref a0_best, .int a0_at, .int a0_start, .int a0_isWell, .int a0_faultAt])), (a0_refused, aI E 3 fa0_refused), (a0_town, aI E 682 z8)] H → va_D A [(a0, .inr (5, [.ref a0_text, .int a0_letters, .ref a0_town, .ref a0_draft, .ref a0_tried, .ref a0_images, .ref a0_kept, .ref a0_refused, .long a0_above, .long a0_below, .ref a0_line, .ref a0_best, .int a0_at, .int a0_start, .int a0_isWell, .int a0_faultAt])), (a0_refused, aI E 3 fa0_refused), (a0_town, aI E 682 z8)] → va_S A s.heap H locs → lv_has ls 4 [(0, .ref a0), (1, .int p1)] → W p l e (wR 4) s m [.ref a0, .int p1, .int p2, .int p3].toArray below meth c H locs 0 0 (MQ below (QWd E A (some (.int z_0)) [(a0, .inr (5, [.ref a0_text, .int a0_letters, .ref a0_town, .ref a0_draft, .ref a0_tried, .ref a0_images, .ref a0_kept, .ref a0_refused, .long a0_above, .long a0_below, .ref a0_line, .ref a0_best, .int a0_at, .int a0_start, .int a0_isWell, .int a0_faultAt])), (a0_refused, aI E 3 z_1), (a0_town, aI E 682 z_2)]) [.ref a0, .int p1, .int p2, .int p3].toArray s 0 0 A) (F0 m 70 ls [.int z9, .int p2, .int p1, .ref a0_town]) := by
            intro H locs ls hP hD hS hl
            obtain ⟨z12, hr_z12, hsp⟩ := bd_s hsp
            refine kSW (st1 := []) (ws' := [(a0, .inr (5, [.ref a0_text, .int a0_letters, .ref a0_town, .ref a0_draft, .ref a0_tried, .ref a0_images, .ref a0_kept, .ref a0_refused, .long a0_above, .long a0_below, .ref a0_line, .ref a0_best, .int a0_at, .int a0_start, .int a0_isWell, .int a0_faultAt])), (a0_refused, aI E 3 fa0_refused), (a0_town, aI E 682 z12)]) [2] hX (c_X8_builds l E a0_town p1 p2 z9 z8 z12 hr_z12) B_X8_builds w_4_234 hK hP hD hS hA (by decide) rfl rfl rfl rfl hl.1 rfl (Nat.le_of_ble_eq_true rfl) ⟨Nat.le_of_ble_eq_true rfl, Nat.le_of_ble_eq_true rfl⟩ dX8_build_70 rfl (fun H locs hP hD hS => W.pc 73 rfl ?_)
            refine lv_aload_n hx hb dX8_build_73 rfl (lv_at hl 0 rfl) (W.pc 74 rfl ?_)
            refine va_get (D := E.1) (ci := 5) (v := .ref a0_town) (C := RX8) (T := TX8) (N := 16) hx hb hts inT_X8 hown hK hP 0 rfl rfl 2 (by decide) (hts _ w_4_70) (fun _ h9 => h9) rfl dX8_build_74 (W.pc 77 rfl ?_)
            refine lv_iconst (v := (3 : Int32)) hx hb dX8_build_77 (by decide) (W.pc 78 rfl ?_)
            refine lv_iload_n hx hb dX8_build_78 rfl (lv_at hl 1 rfl) (W.pc 79 rfl ?_)
            refine lv_iadd hx hb dX8_build_79 (W.pc 80 rfl ?_)
            refine va_iald hx hb hK hP 2 0 rfl rfl h6 dX8_build_80 (W.pc 81 rfl ?_)
            cases hsp
            exact rWi hX hP hS rfl rfl dX8_build_81
          replace hsp := hr_z9
          refine lv_icmp_ne (tgt := 64) hx hb dX8_build_57 (by decide) (fun c11 => ?_) (fun c11 => W.pc 60 rfl ?_)
          · have hsp := iq hsp c11
            refine lv_aload_n hx hb dX8_build_64 rfl (lv_at hl 0 rfl) (W.pc 65 rfl ?_)
            refine va_get (D := E.1) (ci := 5) (v := .ref a0_town) (C := RX8) (T := TX8) (N := 16) hx hb hts inT_X8 hown hK hP 0 rfl rfl 2 (by decide) (hts _ w_4_70) (fun _ h9 => h9) rfl dX8_build_65 (W.pc 68 rfl ?_)
            refine lv_iconst (v := (1 : Int32)) hx hb dX8_build_68 (by decide) (W.pc 69 rfl ?_)
            refine va_iald hx hb hK hP 2 0 rfl rfl (vp_in_nI (n := 1) (N := 682) (by decide) (by decide)) dX8_build_69 (W.pc 70 rfl ?_)
            subst hsp
            exact J10 _ _ _ hP hD hS (lv_sub hl [0, 1] rfl)
          · have hsp := ip hsp c11
            refine lv_iconst (v := (0 : Int32)) hx hb dX8_build_60 (by decide) (W.pc 61 rfl ?_)
            refine lv_goto (tgt := 70) hx hb dX8_build_61 (by decide) ?_
            subst hsp
            exact J10 _ _ _ hP hD hS (lv_sub hl [0, 1] rfl)
        · have hsp := ip hsp c7
          refine lv_aload_n hx hb dX8_build_40 rfl (lv_at hl 0 rfl) (W.pc 41 rfl ?_)
          obtain ⟨z13, hr_z13, hsp⟩ := ltb_s hsp
          refine kVW (st1 := [.int z13.1]) (ws' := [(a0, .inr (5, [.ref a0_text, .int a0_letters, .ref a0_town, .ref a0_draft, .ref a0_tried, .ref a0_images, .ref a0_kept, .ref a0_refused, .long a0_above, .long a0_below, .ref a0_line, .ref a0_best, .int a0_at, .int a0_start, .int a0_isWell, .int a0_faultAt])), (a0_refused, aI E 3 z13.2), (a0_town, aI E 682 fa0_town)]) [0, 1] hX (c_X8_full l E a0 a0_text a0_town a0_draft a0_tried a0_images a0_kept a0_refused a0_line a0_best a0_letters a0_above a0_below a0_at a0_start a0_isWell a0_faultAt fa0_refused z13.1 z13.2 hr_z13) B_X8_full w_4_156 hK hP hD hS hA (by decide) rfl rfl rfl (q0 := 0) (ci := 5) rfl rfl rfl rfl hl.1 rfl (Nat.le_of_ble_eq_true rfl) ⟨Nat.le_of_ble_eq_true rfl, Nat.le_of_ble_eq_true rfl⟩ dX8_build_41 rfl (fun H locs hP hD hS => W.pc 44 rfl ?_)
          cases hsp
          exact rWi hX hP hS rfl rfl dX8_build_44
      · have hsp := ip hsp c5
        refine lv_aload_n hx hb dX8_build_23 rfl (lv_at hl 0 rfl) (W.pc 24 rfl ?_)
        obtain ⟨z14, hr_z14, hsp⟩ := ltb_s hsp
        refine kVW (st1 := [.int z14.1]) (ws' := [(a0, .inr (5, [.ref a0_text, .int a0_letters, .ref a0_town, .ref a0_draft, .ref a0_tried, .ref a0_images, .ref a0_kept, .ref a0_refused, .long a0_above, .long a0_below, .ref a0_line, .ref a0_best, .int a0_at, .int a0_start, .int a0_isWell, .int a0_faultAt])), (a0_refused, aI E 3 z14.2), (a0_town, aI E 682 fa0_town)]) [0, 1] hX (c_X8_bad l E a0 a0_text a0_town a0_draft a0_tried a0_images a0_kept a0_refused a0_line a0_best a0_letters a0_above a0_below a0_at a0_start a0_isWell a0_faultAt fa0_refused z14.1 z14.2 hr_z14) B_X8_bad w_4_128 hK hP hD hS hA (by decide) rfl rfl rfl (q0 := 0) (ci := 5) rfl rfl rfl rfl hl.1 rfl (Nat.le_of_ble_eq_true rfl) ⟨Nat.le_of_ble_eq_true rfl, Nat.le_of_ble_eq_true rfl⟩ dX8_build_24 rfl (fun H locs hP hD hS => W.pc 27 rfl ?_)
        cases hsp
        exact rWi hX hP hS rfl rfl dX8_build_27
noncomputable def lp_X8_year_23 (p1 : Int32) : Nat → Int32 → ((Nat → Int32)) → Option (Int32 × (Nat → Int32))
 | 0, _, _ => none
 | fu + 1, x2_23, ya0_town_f_23 => if p1 ≤ x2_23 then (some (x2_23, ya0_town_f_23)) else (if (9999 : Int32) ≤ (ya0_town_f_23 ((2 : Int32)).toNatClampNeg) then (some (x2_23, ya0_town_f_23)) else (Option.bind (sp_X8_passes ya0_town_f_23) fun z6 => lp_X8_year_23 p1 fu (x2_23 + (1 : Int32)) z6))
noncomputable def sp_X8_year (p1 : Int32) (fa0_town : Nat → Int32) (fa0_refused : Nat → Int32) : Option (Int32 × (Nat → Int32) × (Nat → Int32)) := if (sp_X8_in p1 (1 : Int32) (99 : Int32)) = 0 then (lt_ (sp_X8_badly (-100 : Int32) fa0_refused) fun z7 => some (z7.1, fa0_town, z7.2)) else (Option.bind (sp_X8_notes fa0_town) fun z2 => Option.bind (lp_X8_year_23 p1 FU (0 : Int32) z2) fun z3 => some ((z3.2 ((1 : Int32)).toNatClampNeg), z3.2, fa0_refused))
set_option maxHeartbeats 4000000 in
set_option maxRecDepth 100000 in
theorem c_X8_year (l : Launch) (E : wE) (a0 a0_text a0_town a0_draft a0_tried a0_images a0_kept a0_refused a0_line a0_best : Nat) (p1 : Int32) (a0_letters : Int32) (a0_above : Int64) (a0_below : Int64) (a0_at : Int32) (a0_start : Int32) (a0_isWell : Int32) (a0_faultAt : Int32) (fa0_town : Nat → Int32) (fa0_refused : Nat → Int32) (z_0 : Int32) (z_1 : (Nat → Int32)) (z_2 : (Nat → Int32)) (hsp : sp_X8_year p1 fa0_town fa0_refused = some (z_0, z_1, z_2)) : MW l yX8_year cX8_year 3 (some .int) 3 E [.ref a0, .int p1] [(a0, .inr (5, [.ref a0_text, .int a0_letters, .ref a0_town, .ref a0_draft, .ref a0_tried, .ref a0_images, .ref a0_kept, .ref a0_refused, .long a0_above, .long a0_below, .ref a0_line, .ref a0_best, .int a0_at, .int a0_start, .int a0_isWell, .int a0_faultAt])), (a0_town, aI E 682 fa0_town), (a0_refused, aI E 3 fa0_refused)] (some (.int z_0)) [(a0, .inr (5, [.ref a0_text, .int a0_letters, .ref a0_town, .ref a0_draft, .ref a0_tried, .ref a0_images, .ref a0_kept, .ref a0_refused, .long a0_above, .long a0_below, .ref a0_line, .ref a0_best, .int a0_at, .int a0_start, .int a0_isWell, .int a0_faultAt])), (a0_town, aI E 682 z_1), (a0_refused, aI E 3 z_2)] := by
  refine MW.of (by decide +kernel) (Nat.le_of_ble_eq_true rfl) ?_
  intro p e s m below meth c ls A hX hK hP hD hS hA hl
  have hX : CX p s m [.ref a0, .int p1].toArray meth c cX8_year 3 (some .int) RX8 := hX
  have hx := hX.1; have hb := hX.2.1; have hts := hX.2.2.2.2.1; have hown := hX.2.2.2.2.2.1
  have hl : lv_has ls 3 [(0, .ref a0), (1, .int p1)] := hl
  have hP : wP E [(a0, .inr (5, [.ref a0_text, .int a0_letters, .ref a0_town, .ref a0_draft, .ref a0_tried, .ref a0_images, .ref a0_kept, .ref a0_refused, .long a0_above, .long a0_below, .ref a0_line, .ref a0_best, .int a0_at, .int a0_start, .int a0_isWell, .int a0_faultAt])), (a0_town, aI E 682 fa0_town), (a0_refused, aI E 3 fa0_refused)] s.heap := hP
  have hsp : (if (sp_X8_in p1 (1 : Int32) (99 : Int32)) = 0 then (lt_ (sp_X8_badly (-100 : Int32) fa0_refused) fun z7 => some (z7.1, fa0_town, z7.2)) else (Option.bind (sp_X8_notes fa0_town) fun z2 => Option.bind (lp_X8_year_23 p1 FU (0 : Int32) z2) fun z3 => some ((z3.2 ((1 : Int32)).toNatClampNeg), z3.2, fa0_refused))) = some (z_0, z_1, z_2) := hsp
  refine lv_iload_n hx hb dX8_year_0 rfl (lv_at hl 1 rfl) (W.pc 1 rfl ?_)
  refine lv_iconst (v := (1 : Int32)) hx hb dX8_year_1 (by decide) (W.pc 2 rfl ?_)
  refine lv_bipush (v := (99 : Int32)) hx hb dX8_year_2 (by decide) (W.pc 4 rfl ?_)
  refine kSR (st1 := [.int (sp_X8_in p1 (1 : Int32) (99 : Int32))]) hX (c_X8_in l E p1 (1 : Int32) (99 : Int32) _ rfl) B_X8_in w_4_125 hK (hP.pick [] rfl) rfl hl.1 rfl (Nat.le_of_ble_eq_true rfl) ⟨Nat.le_of_ble_eq_true rfl, Nat.le_of_ble_eq_true rfl⟩ dX8_year_4 rfl (W.pc 7 rfl ?_)
  refine lv_if_ne (tgt := 17) hx hb dX8_year_7 (by decide) (fun c1 => ?_) (fun c1 => W.pc 10 rfl ?_)
  · have hsp := iq hsp c1
    refine lv_aload_n hx hb dX8_year_17 rfl (lv_at hl 0 rfl) (W.pc 18 rfl ?_)
    obtain ⟨z2, hr_z2, hsp⟩ := bd_s hsp
    refine kVW (st1 := []) (ws' := [(a0, .inr (5, [.ref a0_text, .int a0_letters, .ref a0_town, .ref a0_draft, .ref a0_tried, .ref a0_images, .ref a0_kept, .ref a0_refused, .long a0_above, .long a0_below, .ref a0_line, .ref a0_best, .int a0_at, .int a0_start, .int a0_isWell, .int a0_faultAt])), (a0_town, aI E 682 z2), (a0_refused, aI E 3 fa0_refused)]) [0, 1] hX (c_X8_notes l E a0 a0_text a0_town a0_draft a0_tried a0_images a0_kept a0_refused a0_line a0_best a0_letters a0_above a0_below a0_at a0_start a0_isWell a0_faultAt fa0_town z2 hr_z2) B_X8_notes w_5_22 hK hP hD hS hA (by decide) rfl rfl rfl (q0 := 0) (ci := 5) rfl rfl rfl rfl hl.1 rfl (Nat.le_of_ble_eq_true rfl) ⟨Nat.le_of_ble_eq_true rfl, Nat.le_of_ble_eq_true rfl⟩ dX8_year_18 rfl (fun H locs hP hD hS => W.pc 21 rfl ?_)
    refine lv_iconst (v := (0 : Int32)) hx hb dX8_year_21 (by decide) (W.pc 22 rfl ?_)
    refine lv_istore_n (lv' := [(2, .int (0 : Int32)), (0, .ref a0), (1, .int p1)]) hx hb dX8_year_22 rfl hl (by decide) rfl (fun ls hl => W.pc 23 rfl ?_)
    have L_23 : ∀ (z3 : Int32 × (Nat → Int32)), (∀ (H : Heap) (locs : List Loc) (ls : Array Slot), wP E [(a0, .inr (5, [.ref a0_text, .int a0_letters, .ref a0_town, .ref a0_draft, .ref a0_tried, .ref a0_images, .ref a0_kept, .ref a0_refused, .long a0_above, .long a0_below, .ref a0_line, .ref a0_best, .int a0_at, .int a0_start, .int a0_isWell, .int a0_faultAt])), (a0_town, aI E 682 z3.2), (a0_refused, aI E 3 fa0_refused)] H → va_D A [(a0, .inr (5, [.ref a0_text, .int a0_letters, .ref a0_town, .ref a0_draft, .ref a0_tried, .ref a0_images, .ref a0_kept, .ref a0_refused, .long a0_above, .long a0_below, .ref a0_line, .ref a0_best, .int a0_at, .int a0_start, .int a0_isWell, .int a0_faultAt])), (a0_town, aI E 682 z3.2), (a0_refused, aI E 3 fa0_refused)] → va_S A s.heap H locs → lv_has ls 3 [(0, .ref a0)] → W p l e (wR 3) s m [.ref a0, .int p1].toArray below meth c H locs 0 0 (MQ below (QWd E A (some (.int z_0)) [(a0, .inr (5, [.ref a0_text, .int a0_letters, .ref a0_town, .ref a0_draft, .ref a0_tried, .ref a0_images, .ref a0_kept, .ref a0_refused, .long a0_above, .long a0_below, .ref a0_line, .ref a0_best, .int a0_at, .int a0_start, .int a0_isWell, .int a0_faultAt])), (a0_town, aI E 682 z_1), (a0_refused, aI E 3 z_2)]) [.ref a0, .int p1].toArray s 0 0 A) (F0 m 53 ls [])) → ∀ (fu : Nat) (x2_23 : Int32) (ya0_town_f_23 : (Nat → Int32)), ∀ (H : Heap) (locs : List Loc) (ls : Array Slot), wP E [(a0, .inr (5, [.ref a0_text, .int a0_letters, .ref a0_town, .ref a0_draft, .ref a0_tried, .ref a0_images, .ref a0_kept, .ref a0_refused, .long a0_above, .long a0_below, .ref a0_line, .ref a0_best, .int a0_at, .int a0_start, .int a0_isWell, .int a0_faultAt])), (a0_town, aI E 682 ya0_town_f_23), (a0_refused, aI E 3 fa0_refused)] H → va_D A [(a0, .inr (5, [.ref a0_text, .int a0_letters, .ref a0_town, .ref a0_draft, .ref a0_tried, .ref a0_images, .ref a0_kept, .ref a0_refused, .long a0_above, .long a0_below, .ref a0_line, .ref a0_best, .int a0_at, .int a0_start, .int a0_isWell, .int a0_faultAt])), (a0_town, aI E 682 ya0_town_f_23), (a0_refused, aI E 3 fa0_refused)] → va_S A s.heap H locs → lv_has ls 3 [(0, .ref a0), (1, .int p1), (2, .int x2_23)] → lp_X8_year_23 p1 fu x2_23 ya0_town_f_23 = some z3 → W p l e (wR 3) s m [.ref a0, .int p1].toArray below meth c H locs 0 0 (MQ below (QWd E A (some (.int z_0)) [(a0, .inr (5, [.ref a0_text, .int a0_letters, .ref a0_town, .ref a0_draft, .ref a0_tried, .ref a0_images, .ref a0_kept, .ref a0_refused, .long a0_above, .long a0_below, .ref a0_line, .ref a0_best, .int a0_at, .int a0_start, .int a0_isWell, .int a0_faultAt])), (a0_town, aI E 682 z_1), (a0_refused, aI E 3 z_2)]) [.ref a0, .int p1].toArray s 0 0 A) (F0 m 23 ls []) := by
      intro z3 hk_23 fu
      induction fu with
      | zero => intro x2_23 ya0_town_f_23 H locs ls hP hD hS hl hsp; exact absurd (show none = some _ from hsp) (by simp)
      | succ fu ih_23 =>
        intro x2_23 ya0_town_f_23 H locs ls hP hD hS hl hsp
        have hsp : (if p1 ≤ x2_23 then (some (x2_23, ya0_town_f_23)) else (if (9999 : Int32) ≤ (ya0_town_f_23 ((2 : Int32)).toNatClampNeg) then (some (x2_23, ya0_town_f_23)) else (Option.bind (sp_X8_passes ya0_town_f_23) fun z6 => lp_X8_year_23 p1 fu (x2_23 + (1 : Int32)) z6))) = some z3 := hsp
        refine lv_iload_n hx hb dX8_year_23 rfl (lv_at hl 2 rfl) (W.pc 24 rfl ?_)
        refine lv_iload_n hx hb dX8_year_24 rfl (lv_at hl 1 rfl) (W.pc 25 rfl ?_)
        refine lv_icmp_ge (tgt := 53) hx hb dX8_year_25 (by decide) (fun c4 => ?_) (fun c4 => W.pc 28 rfl ?_)
        · have hsp := ip hsp c4
          obtain rfl := Option.some.inj hsp
          exact hk_23 _ _ _ hP hD hS (lv_sub hl [0] rfl)
        · have hsp := iq hsp c4
          refine lv_aload_n hx hb dX8_year_28 rfl (lv_at hl 0 rfl) (W.pc 29 rfl ?_)
          refine va_get (D := E.1) (ci := 5) (v := .ref a0_town) (C := RX8) (T := TX8) (N := 16) hx hb hts inT_X8 hown hK hP 0 rfl rfl 2 (by decide) (hts _ w_4_70) (fun _ h9 => h9) rfl dX8_year_29 (W.pc 32 rfl ?_)
          refine lv_iconst (v := (2 : Int32)) hx hb dX8_year_32 (by decide) (W.pc 33 rfl ?_)
          refine va_iald hx hb hK hP 1 0 rfl rfl (vp_in_nI (n := 2) (N := 682) (by decide) (by decide)) dX8_year_33 (W.pc 34 rfl ?_)
          refine lv_sipush (v := (9999 : Int32)) hx hb dX8_year_34 (by decide) (W.pc 37 rfl ?_)
          refine lv_icmp_ge (tgt := 53) hx hb dX8_year_37 (by decide) (fun c5 => ?_) (fun c5 => W.pc 40 rfl ?_)
          · have hsp := ip hsp c5
            obtain rfl := Option.some.inj hsp
            exact hk_23 _ _ _ hP hD hS (lv_sub hl [0] rfl)
          · have hsp := iq hsp c5
            refine lv_aload_n hx hb dX8_year_40 rfl (lv_at hl 0 rfl) (W.pc 41 rfl ?_)
            refine va_get (D := E.1) (ci := 5) (v := .ref a0_town) (C := RX8) (T := TX8) (N := 16) hx hb hts inT_X8 hown hK hP 0 rfl rfl 2 (by decide) (hts _ w_4_70) (fun _ h9 => h9) rfl dX8_year_41 (W.pc 44 rfl ?_)
            obtain ⟨z6, hr_z6, hsp⟩ := bd_s hsp
            refine kSW (st1 := []) (ws' := [(a0, .inr (5, [.ref a0_text, .int a0_letters, .ref a0_town, .ref a0_draft, .ref a0_tried, .ref a0_images, .ref a0_kept, .ref a0_refused, .long a0_above, .long a0_below, .ref a0_line, .ref a0_best, .int a0_at, .int a0_start, .int a0_isWell, .int a0_faultAt])), (a0_town, aI E 682 z6), (a0_refused, aI E 3 fa0_refused)]) [1] hX (c_X8_passes l E a0_town ya0_town_f_23 z6 hr_z6) B_X8_passes w_4_215 hK hP hD hS hA (by decide) rfl rfl rfl rfl hl.1 rfl (Nat.le_of_ble_eq_true rfl) ⟨Nat.le_of_ble_eq_true rfl, Nat.le_of_ble_eq_true rfl⟩ dX8_year_44 rfl (fun H locs hP hD hS => W.pc 47 rfl ?_)
            refine lv_iinc (v := (x2_23 + (1 : Int32))) (lv' := [(2, .int (x2_23 + (1 : Int32))), (0, .ref a0), (1, .int p1)]) hx hb dX8_year_47 hl (k := 2) rfl rfl (by decide) rfl (fun ls hl => W.pc 50 rfl ?_)
            refine lv_goto (tgt := 23) hx hb dX8_year_50 (by decide) ?_
            exact ih_23 (x2_23 + (1 : Int32)) z6 _ _ _ hP hD hS (lv_sub hl [1, 2, 0] rfl) hsp
    obtain ⟨z3, hr_z3, hsp⟩ := bd_s hsp
    refine L_23 z3 (fun H locs ls hP hD hS hl => ?_) FU (0 : Int32) z2 _ _ _ hP hD hS (lv_sub hl [1, 2, 0] rfl) hr_z3
    refine lv_aload_n hx hb dX8_year_53 rfl (lv_at hl 0 rfl) (W.pc 54 rfl ?_)
    refine va_get (D := E.1) (ci := 5) (v := .ref a0_town) (C := RX8) (T := TX8) (N := 16) hx hb hts inT_X8 hown hK hP 0 rfl rfl 2 (by decide) (hts _ w_4_70) (fun _ h9 => h9) rfl dX8_year_54 (W.pc 57 rfl ?_)
    refine lv_iconst (v := (1 : Int32)) hx hb dX8_year_57 (by decide) (W.pc 58 rfl ?_)
    refine va_iald hx hb hK hP 1 0 rfl rfl (vp_in_nI (n := 1) (N := 682) (by decide) (by decide)) dX8_year_58 (W.pc 59 rfl ?_)
    cases hsp
    exact rWi hX hP hS rfl rfl dX8_year_59
  · have hsp := ip hsp c1
    refine lv_aload_n hx hb dX8_year_10 rfl (lv_at hl 0 rfl) (W.pc 11 rfl ?_)
    refine lv_bipush (v := (-100 : Int32)) hx hb dX8_year_11 (by decide) (W.pc 13 rfl ?_)
    obtain ⟨z7, hr_z7, hsp⟩ := ltb_s hsp
    refine kVW (st1 := [.int z7.1]) (ws' := [(a0, .inr (5, [.ref a0_text, .int a0_letters, .ref a0_town, .ref a0_draft, .ref a0_tried, .ref a0_images, .ref a0_kept, .ref a0_refused, .long a0_above, .long a0_below, .ref a0_line, .ref a0_best, .int a0_at, .int a0_start, .int a0_isWell, .int a0_faultAt])), (a0_town, aI E 682 fa0_town), (a0_refused, aI E 3 z7.2)]) [0, 2] hX (c_X8_badly l E a0 a0_text a0_town a0_draft a0_tried a0_images a0_kept a0_refused a0_line a0_best (-100 : Int32) a0_letters a0_above a0_below a0_at a0_start a0_isWell a0_faultAt fa0_refused z7.1 z7.2 hr_z7) B_X8_badly w_4_148 hK hP hD hS hA (by decide) rfl rfl rfl (q0 := 0) (ci := 5) rfl rfl rfl rfl hl.1 rfl (Nat.le_of_ble_eq_true rfl) ⟨Nat.le_of_ble_eq_true rfl, Nat.le_of_ble_eq_true rfl⟩ dX8_year_13 rfl (fun H locs hP hD hS => W.pc 16 rfl ?_)
    cases hsp
    exact rWi hX hP hS rfl rfl dX8_year_16
noncomputable def sp_X8_undo (fa0_town : Nat → Int32) (fa0_refused : Nat → Int32) : Option (Int32 × (Nat → Int32) × (Nat → Int32)) := if (fa0_town ((137 : Int32)).toNatClampNeg) = 0 then (lt_ (sp_X8_no fa0_refused) fun z3 => some (z3.1, fa0_town, z3.2)) else (Option.bind (sp_X8_copies_s 682 ((138 : Int32) + ((68 : Int32) * ((upd fa0_town ((137 : Int32)).toNatClampNeg ((fa0_town ((137 : Int32)).toNatClampNeg) - (1 : Int32))) ((137 : Int32)).toNatClampNeg))) (1 : Int32) (68 : Int32) (upd fa0_town ((137 : Int32)).toNatClampNeg ((fa0_town ((137 : Int32)).toNatClampNeg) - (1 : Int32)))) fun z2 => some ((z2 ((2 : Int32)).toNatClampNeg), z2, fa0_refused))
set_option maxHeartbeats 4000000 in
set_option maxRecDepth 100000 in
theorem c_X8_undo (l : Launch) (E : wE) (a0 a0_text a0_town a0_draft a0_tried a0_images a0_kept a0_refused a0_line a0_best : Nat) (a0_letters : Int32) (a0_above : Int64) (a0_below : Int64) (a0_at : Int32) (a0_start : Int32) (a0_isWell : Int32) (a0_faultAt : Int32) (fa0_town : Nat → Int32) (fa0_refused : Nat → Int32) (z_0 : Int32) (z_1 : (Nat → Int32)) (z_2 : (Nat → Int32)) (hsp : sp_X8_undo fa0_town fa0_refused = some (z_0, z_1, z_2)) : MW l yX8_undo cX8_undo 1 (some .int) 1 E [.ref a0] [(a0, .inr (5, [.ref a0_text, .int a0_letters, .ref a0_town, .ref a0_draft, .ref a0_tried, .ref a0_images, .ref a0_kept, .ref a0_refused, .long a0_above, .long a0_below, .ref a0_line, .ref a0_best, .int a0_at, .int a0_start, .int a0_isWell, .int a0_faultAt])), (a0_town, aI E 682 fa0_town), (a0_refused, aI E 3 fa0_refused)] (some (.int z_0)) [(a0, .inr (5, [.ref a0_text, .int a0_letters, .ref a0_town, .ref a0_draft, .ref a0_tried, .ref a0_images, .ref a0_kept, .ref a0_refused, .long a0_above, .long a0_below, .ref a0_line, .ref a0_best, .int a0_at, .int a0_start, .int a0_isWell, .int a0_faultAt])), (a0_town, aI E 682 z_1), (a0_refused, aI E 3 z_2)] := by
  refine MW.of (by decide +kernel) (Nat.le_of_ble_eq_true rfl) ?_
  intro p e s m below meth c ls A hX hK hP hD hS hA hl
  have hX : CX p s m [.ref a0].toArray meth c cX8_undo 1 (some .int) RX8 := hX
  have hx := hX.1; have hb := hX.2.1; have hts := hX.2.2.2.2.1; have hown := hX.2.2.2.2.2.1
  have hl : lv_has ls 1 [(0, .ref a0)] := hl
  have hP : wP E [(a0, .inr (5, [.ref a0_text, .int a0_letters, .ref a0_town, .ref a0_draft, .ref a0_tried, .ref a0_images, .ref a0_kept, .ref a0_refused, .long a0_above, .long a0_below, .ref a0_line, .ref a0_best, .int a0_at, .int a0_start, .int a0_isWell, .int a0_faultAt])), (a0_town, aI E 682 fa0_town), (a0_refused, aI E 3 fa0_refused)] s.heap := hP
  have hsp : (if (fa0_town ((137 : Int32)).toNatClampNeg) = 0 then (lt_ (sp_X8_no fa0_refused) fun z3 => some (z3.1, fa0_town, z3.2)) else (Option.bind (sp_X8_copies_s 682 ((138 : Int32) + ((68 : Int32) * ((upd fa0_town ((137 : Int32)).toNatClampNeg ((fa0_town ((137 : Int32)).toNatClampNeg) - (1 : Int32))) ((137 : Int32)).toNatClampNeg))) (1 : Int32) (68 : Int32) (upd fa0_town ((137 : Int32)).toNatClampNeg ((fa0_town ((137 : Int32)).toNatClampNeg) - (1 : Int32)))) fun z2 => some ((z2 ((2 : Int32)).toNatClampNeg), z2, fa0_refused))) = some (z_0, z_1, z_2) := hsp
  refine lv_aload_n hx hb dX8_undo_0 rfl (lv_at hl 0 rfl) (W.pc 1 rfl ?_)
  refine va_get (D := E.1) (ci := 5) (v := .ref a0_town) (C := RX8) (T := TX8) (N := 16) hx hb hts inT_X8 hown hK hP 0 rfl rfl 2 (by decide) (hts _ w_4_70) (fun _ h9 => h9) rfl dX8_undo_1 (W.pc 4 rfl ?_)
  refine lv_sipush (v := (137 : Int32)) hx hb dX8_undo_4 (by decide) (W.pc 7 rfl ?_)
  refine va_iald hx hb hK hP 1 0 rfl rfl (vp_in_nI (n := 137) (N := 682) (by decide) (by decide)) dX8_undo_7 (W.pc 8 rfl ?_)
  refine lv_if_ne (tgt := 16) hx hb dX8_undo_8 (by decide) (fun c1 => ?_) (fun c1 => W.pc 11 rfl ?_)
  · have hsp := iq hsp c1
    refine lv_aload_n hx hb dX8_undo_16 rfl (lv_at hl 0 rfl) (W.pc 17 rfl ?_)
    refine va_get (D := E.1) (ci := 5) (v := .ref a0_town) (C := RX8) (T := TX8) (N := 16) hx hb hts inT_X8 hown hK hP 0 rfl rfl 2 (by decide) (hts _ w_4_70) (fun _ h9 => h9) rfl dX8_undo_17 (W.pc 20 rfl ?_)
    refine lv_sipush (v := (137 : Int32)) hx hb dX8_undo_20 (by decide) (W.pc 23 rfl ?_)
    refine lv_dup2_11 hx hb dX8_undo_23 rfl rfl (W.pc 24 rfl ?_)
    refine va_iald hx hb hK hP 1 0 rfl rfl (vp_in_nI (n := 137) (N := 682) (by decide) (by decide)) dX8_undo_24 (W.pc 25 rfl ?_)
    refine lv_iconst (v := (1 : Int32)) hx hb dX8_undo_25 (by decide) (W.pc 26 rfl ?_)
    refine lv_isub hx hb dX8_undo_26 (W.pc 27 rfl ?_)
    refine va_iast hx hb hK hP hD hS 1 0 rfl rfl (vp_in_nI (n := 137) (N := 682) (by decide) (by decide)) dX8_undo_27 (fun H locs hP hD hS => W.pc 28 rfl ?_)
    have hP : wP E [(a0, .inr (5, [.ref a0_text, .int a0_letters, .ref a0_town, .ref a0_draft, .ref a0_tried, .ref a0_images, .ref a0_kept, .ref a0_refused, .long a0_above, .long a0_below, .ref a0_line, .ref a0_best, .int a0_at, .int a0_start, .int a0_isWell, .int a0_faultAt])), (a0_town, aI E 682 (upd fa0_town ((137 : Int32)).toNatClampNeg ((fa0_town ((137 : Int32)).toNatClampNeg) - (1 : Int32)))), (a0_refused, aI E 3 fa0_refused)] _ := hP
    have hD : va_D A [(a0, .inr (5, [.ref a0_text, .int a0_letters, .ref a0_town, .ref a0_draft, .ref a0_tried, .ref a0_images, .ref a0_kept, .ref a0_refused, .long a0_above, .long a0_below, .ref a0_line, .ref a0_best, .int a0_at, .int a0_start, .int a0_isWell, .int a0_faultAt])), (a0_town, aI E 682 (upd fa0_town ((137 : Int32)).toNatClampNeg ((fa0_town ((137 : Int32)).toNatClampNeg) - (1 : Int32)))), (a0_refused, aI E 3 fa0_refused)] := hD
    refine lv_aload_n hx hb dX8_undo_28 rfl (lv_at hl 0 rfl) (W.pc 29 rfl ?_)
    refine va_get (D := E.1) (ci := 5) (v := .ref a0_town) (C := RX8) (T := TX8) (N := 16) hx hb hts inT_X8 hown hK hP 0 rfl rfl 2 (by decide) (hts _ w_4_70) (fun _ h9 => h9) rfl dX8_undo_29 (W.pc 32 rfl ?_)
    refine lv_sipush (v := (138 : Int32)) hx hb dX8_undo_32 (by decide) (W.pc 35 rfl ?_)
    refine lv_bipush (v := (68 : Int32)) hx hb dX8_undo_35 (by decide) (W.pc 37 rfl ?_)
    refine lv_aload_n hx hb dX8_undo_37 rfl (lv_at hl 0 rfl) (W.pc 38 rfl ?_)
    refine va_get (D := E.1) (ci := 5) (v := .ref a0_town) (C := RX8) (T := TX8) (N := 16) hx hb hts inT_X8 hown hK hP 0 rfl rfl 2 (by decide) (hts _ w_4_70) (fun _ h9 => h9) rfl dX8_undo_38 (W.pc 41 rfl ?_)
    refine lv_sipush (v := (137 : Int32)) hx hb dX8_undo_41 (by decide) (W.pc 44 rfl ?_)
    refine va_iald hx hb hK hP 1 0 rfl rfl (vp_in_nI (n := 137) (N := 682) (by decide) (by decide)) dX8_undo_44 (W.pc 45 rfl ?_)
    refine lv_imul hx hb dX8_undo_45 (W.pc 46 rfl ?_)
    refine lv_iadd hx hb dX8_undo_46 (W.pc 47 rfl ?_)
    refine lv_aload_n hx hb dX8_undo_47 rfl (lv_at hl 0 rfl) (W.pc 48 rfl ?_)
    refine va_get (D := E.1) (ci := 5) (v := .ref a0_town) (C := RX8) (T := TX8) (N := 16) hx hb hts inT_X8 hown hK hP 0 rfl rfl 2 (by decide) (hts _ w_4_70) (fun _ h9 => h9) rfl dX8_undo_48 (W.pc 51 rfl ?_)
    refine lv_iconst (v := (1 : Int32)) hx hb dX8_undo_51 (by decide) (W.pc 52 rfl ?_)
    refine lv_bipush (v := (68 : Int32)) hx hb dX8_undo_52 (by decide) (W.pc 54 rfl ?_)
    obtain ⟨z2, hr_z2, hsp⟩ := bd_s hsp
    refine kSW (st1 := []) (ws' := [(a0, .inr (5, [.ref a0_text, .int a0_letters, .ref a0_town, .ref a0_draft, .ref a0_tried, .ref a0_images, .ref a0_kept, .ref a0_refused, .long a0_above, .long a0_below, .ref a0_line, .ref a0_best, .int a0_at, .int a0_start, .int a0_isWell, .int a0_faultAt])), (a0_town, aI E 682 z2), (a0_refused, aI E 3 fa0_refused)]) [1] hX (c_X8_copies_s l E a0_town 682 (by decide) ((138 : Int32) + ((68 : Int32) * ((upd fa0_town ((137 : Int32)).toNatClampNeg ((fa0_town ((137 : Int32)).toNatClampNeg) - (1 : Int32))) ((137 : Int32)).toNatClampNeg))) (1 : Int32) (68 : Int32) (upd fa0_town ((137 : Int32)).toNatClampNeg ((fa0_town ((137 : Int32)).toNatClampNeg) - (1 : Int32))) z2 hr_z2) B_X8_copies w_5_15 hK hP hD hS hA (by decide) rfl rfl rfl rfl hl.1 rfl (Nat.le_of_ble_eq_true rfl) ⟨Nat.le_of_ble_eq_true rfl, Nat.le_of_ble_eq_true rfl⟩ dX8_undo_54 rfl (fun H locs hP hD hS => W.pc 57 rfl ?_)
    refine lv_aload_n hx hb dX8_undo_57 rfl (lv_at hl 0 rfl) (W.pc 58 rfl ?_)
    refine va_get (D := E.1) (ci := 5) (v := .ref a0_town) (C := RX8) (T := TX8) (N := 16) hx hb hts inT_X8 hown hK hP 0 rfl rfl 2 (by decide) (hts _ w_4_70) (fun _ h9 => h9) rfl dX8_undo_58 (W.pc 61 rfl ?_)
    refine lv_iconst (v := (2 : Int32)) hx hb dX8_undo_61 (by decide) (W.pc 62 rfl ?_)
    refine va_iald hx hb hK hP 1 0 rfl rfl (vp_in_nI (n := 2) (N := 682) (by decide) (by decide)) dX8_undo_62 (W.pc 63 rfl ?_)
    cases hsp
    exact rWi hX hP hS rfl rfl dX8_undo_63
  · have hsp := ip hsp c1
    refine lv_aload_n hx hb dX8_undo_11 rfl (lv_at hl 0 rfl) (W.pc 12 rfl ?_)
    obtain ⟨z3, hr_z3, hsp⟩ := ltb_s hsp
    refine kVW (st1 := [.int z3.1]) (ws' := [(a0, .inr (5, [.ref a0_text, .int a0_letters, .ref a0_town, .ref a0_draft, .ref a0_tried, .ref a0_images, .ref a0_kept, .ref a0_refused, .long a0_above, .long a0_below, .ref a0_line, .ref a0_best, .int a0_at, .int a0_start, .int a0_isWell, .int a0_faultAt])), (a0_town, aI E 682 fa0_town), (a0_refused, aI E 3 z3.2)]) [0, 2] hX (c_X8_no l E a0 a0_text a0_town a0_draft a0_tried a0_images a0_kept a0_refused a0_line a0_best a0_letters a0_above a0_below a0_at a0_start a0_isWell a0_faultAt fa0_refused z3.1 z3.2 hr_z3) B_X8_no w_5_34 hK hP hD hS hA (by decide) rfl rfl rfl (q0 := 0) (ci := 5) rfl rfl rfl rfl hl.1 rfl (Nat.le_of_ble_eq_true rfl) ⟨Nat.le_of_ble_eq_true rfl, Nat.le_of_ble_eq_true rfl⟩ dX8_undo_12 rfl (fun H locs hP hD hS => W.pc 15 rfl ?_)
    cases hsp
    exact rWi hX hP hS rfl rfl dX8_undo_15
noncomputable def sp_X8_now (p1 : Int32) (fa0_town : Nat → Int32) (fa0_refused : Nat → Int32) : Option (Int32 × (Nat → Int32)) := if (sp_X8_in p1 (0 : Int32) (3 : Int32)) = 0 then (lt_ (sp_X8_badly (-100 : Int32) fa0_refused) fun z5 => some (z5.1, z5.2)) else (if p1 = (3 : Int32) then (Option.bind (sp_X8_pullIn (fa0_town ((2 : Int32)).toNatClampNeg) fa0_town) fun z4 => some (z4, fa0_refused)) else (gi p1 682 (some ((fa0_town (p1).toNatClampNeg), fa0_refused))))
set_option maxHeartbeats 4000000 in
set_option maxRecDepth 100000 in
theorem c_X8_now (l : Launch) (E : wE) (a0 a0_text a0_town a0_draft a0_tried a0_images a0_kept a0_refused a0_line a0_best : Nat) (p1 : Int32) (a0_letters : Int32) (a0_above : Int64) (a0_below : Int64) (a0_at : Int32) (a0_start : Int32) (a0_isWell : Int32) (a0_faultAt : Int32) (fa0_town : Nat → Int32) (fa0_refused : Nat → Int32) (z_0 : Int32) (z_1 : (Nat → Int32)) (hsp : sp_X8_now p1 fa0_town fa0_refused = some (z_0, z_1)) : MW l yX8_now cX8_now 2 (some .int) 1 E [.ref a0, .int p1] [(a0, .inr (5, [.ref a0_text, .int a0_letters, .ref a0_town, .ref a0_draft, .ref a0_tried, .ref a0_images, .ref a0_kept, .ref a0_refused, .long a0_above, .long a0_below, .ref a0_line, .ref a0_best, .int a0_at, .int a0_start, .int a0_isWell, .int a0_faultAt])), (a0_town, aI E 682 fa0_town), (a0_refused, aI E 3 fa0_refused)] (some (.int z_0)) [(a0, .inr (5, [.ref a0_text, .int a0_letters, .ref a0_town, .ref a0_draft, .ref a0_tried, .ref a0_images, .ref a0_kept, .ref a0_refused, .long a0_above, .long a0_below, .ref a0_line, .ref a0_best, .int a0_at, .int a0_start, .int a0_isWell, .int a0_faultAt])), (a0_town, aI E 682 fa0_town), (a0_refused, aI E 3 z_1)] := by
  refine MW.of (by decide +kernel) (Nat.le_of_ble_eq_true rfl) ?_
  intro p e s m below meth c ls A hX hK hP hD hS hA hl
  have hX : CX p s m [.ref a0, .int p1].toArray meth c cX8_now 2 (some .int) RX8 := hX
  have hx := hX.1; have hb := hX.2.1; have hts := hX.2.2.2.2.1; have hown := hX.2.2.2.2.2.1
  have hl : lv_has ls 2 [(0, .ref a0), (1, .int p1)] := hl
  have hP : wP E [(a0, .inr (5, [.ref a0_text, .int a0_letters, .ref a0_town, .ref a0_draft, .ref a0_tried, .ref a0_images, .ref a0_kept, .ref a0_refused, .long a0_above, .long a0_below, .ref a0_line, .ref a0_best, .int a0_at, .int a0_start, .int a0_isWell, .int a0_faultAt])), (a0_town, aI E 682 fa0_town), (a0_refused, aI E 3 fa0_refused)] s.heap := hP
  have hsp : (if (sp_X8_in p1 (0 : Int32) (3 : Int32)) = 0 then (lt_ (sp_X8_badly (-100 : Int32) fa0_refused) fun z5 => some (z5.1, z5.2)) else (if p1 = (3 : Int32) then (Option.bind (sp_X8_pullIn (fa0_town ((2 : Int32)).toNatClampNeg) fa0_town) fun z4 => some (z4, fa0_refused)) else (gi p1 682 (some ((fa0_town (p1).toNatClampNeg), fa0_refused))))) = some (z_0, z_1) := hsp
  refine lv_iload_n hx hb dX8_now_0 rfl (lv_at hl 1 rfl) (W.pc 1 rfl ?_)
  refine lv_iconst (v := (0 : Int32)) hx hb dX8_now_1 (by decide) (W.pc 2 rfl ?_)
  refine lv_iconst (v := (3 : Int32)) hx hb dX8_now_2 (by decide) (W.pc 3 rfl ?_)
  refine kSR (st1 := [.int (sp_X8_in p1 (0 : Int32) (3 : Int32))]) hX (c_X8_in l E p1 (0 : Int32) (3 : Int32) _ rfl) B_X8_in w_4_125 hK (hP.pick [] rfl) rfl hl.1 rfl (Nat.le_of_ble_eq_true rfl) ⟨Nat.le_of_ble_eq_true rfl, Nat.le_of_ble_eq_true rfl⟩ dX8_now_3 rfl (W.pc 6 rfl ?_)
  refine lv_if_ne (tgt := 18) hx hb dX8_now_6 (by decide) (fun c1 => ?_) (fun c1 => W.pc 9 rfl ?_)
  · have hsp := iq hsp c1
    refine lv_iload_n hx hb dX8_now_18 rfl (lv_at hl 1 rfl) (W.pc 19 rfl ?_)
    refine lv_iconst (v := (3 : Int32)) hx hb dX8_now_19 (by decide) (W.pc 20 rfl ?_)
    refine lv_icmp_ne (tgt := 39) hx hb dX8_now_20 (by decide) (fun c2 => ?_) (fun c2 => W.pc 23 rfl ?_)
    · have hsp := iq hsp c2
      refine lv_aload_n hx hb dX8_now_39 rfl (lv_at hl 0 rfl) (W.pc 40 rfl ?_)
      refine va_get (D := E.1) (ci := 5) (v := .ref a0_town) (C := RX8) (T := TX8) (N := 16) hx hb hts inT_X8 hown hK hP 0 rfl rfl 2 (by decide) (hts _ w_4_70) (fun _ h9 => h9) rfl dX8_now_40 (W.pc 43 rfl ?_)
      refine lv_iload_n hx hb dX8_now_43 rfl (lv_at hl 1 rfl) (W.pc 44 rfl ?_)
      obtain ⟨h3, hsp⟩ := gi_s hsp
      refine va_iald hx hb hK hP 1 0 rfl rfl h3 dX8_now_44 (W.pc 45 rfl ?_)
      cases hsp
      exact rWi hX hP hS rfl rfl dX8_now_45
    · have hsp := ip hsp c2
      refine lv_aload_n hx hb dX8_now_23 rfl (lv_at hl 0 rfl) (W.pc 24 rfl ?_)
      refine va_get (D := E.1) (ci := 5) (v := .ref a0_town) (C := RX8) (T := TX8) (N := 16) hx hb hts inT_X8 hown hK hP 0 rfl rfl 2 (by decide) (hts _ w_4_70) (fun _ h9 => h9) rfl dX8_now_24 (W.pc 27 rfl ?_)
      refine lv_aload_n hx hb dX8_now_27 rfl (lv_at hl 0 rfl) (W.pc 28 rfl ?_)
      refine va_get (D := E.1) (ci := 5) (v := .ref a0_town) (C := RX8) (T := TX8) (N := 16) hx hb hts inT_X8 hown hK hP 0 rfl rfl 2 (by decide) (hts _ w_4_70) (fun _ h9 => h9) rfl dX8_now_28 (W.pc 31 rfl ?_)
      refine lv_iconst (v := (2 : Int32)) hx hb dX8_now_31 (by decide) (W.pc 32 rfl ?_)
      refine va_iald hx hb hK hP 1 0 rfl rfl (vp_in_nI (n := 2) (N := 682) (by decide) (by decide)) dX8_now_32 (W.pc 33 rfl ?_)
      obtain ⟨z4, hr_z4, hsp⟩ := bd_s hsp
      refine kSR (st1 := [.int z4]) hX (c_X8_pullIn l E a0_town (fa0_town ((2 : Int32)).toNatClampNeg) fa0_town z4 hr_z4) B_X8_pullIn w_4_218 hK (hP.pick [1] rfl) rfl hl.1 rfl (Nat.le_of_ble_eq_true rfl) ⟨Nat.le_of_ble_eq_true rfl, Nat.le_of_ble_eq_true rfl⟩ dX8_now_33 rfl (W.pc 36 rfl ?_)
      refine lv_goto (tgt := 45) hx hb dX8_now_36 (by decide) ?_
      cases hsp
      exact rWi hX hP hS rfl rfl dX8_now_45
  · have hsp := ip hsp c1
    refine lv_aload_n hx hb dX8_now_9 rfl (lv_at hl 0 rfl) (W.pc 10 rfl ?_)
    refine lv_bipush (v := (-100 : Int32)) hx hb dX8_now_10 (by decide) (W.pc 12 rfl ?_)
    obtain ⟨z5, hr_z5, hsp⟩ := ltb_s hsp
    refine kVW (st1 := [.int z5.1]) (ws' := [(a0, .inr (5, [.ref a0_text, .int a0_letters, .ref a0_town, .ref a0_draft, .ref a0_tried, .ref a0_images, .ref a0_kept, .ref a0_refused, .long a0_above, .long a0_below, .ref a0_line, .ref a0_best, .int a0_at, .int a0_start, .int a0_isWell, .int a0_faultAt])), (a0_town, aI E 682 fa0_town), (a0_refused, aI E 3 z5.2)]) [0, 2] hX (c_X8_badly l E a0 a0_text a0_town a0_draft a0_tried a0_images a0_kept a0_refused a0_line a0_best (-100 : Int32) a0_letters a0_above a0_below a0_at a0_start a0_isWell a0_faultAt fa0_refused z5.1 z5.2 hr_z5) B_X8_badly w_4_148 hK hP hD hS hA (by decide) rfl rfl rfl (q0 := 0) (ci := 5) rfl rfl rfl rfl hl.1 rfl (Nat.le_of_ble_eq_true rfl) ⟨Nat.le_of_ble_eq_true rfl, Nat.le_of_ble_eq_true rfl⟩ dX8_now_12 rfl (fun H locs hP hD hS => W.pc 15 rfl ?_)
    refine lv_goto (tgt := 45) hx hb dX8_now_15 (by decide) ?_
    cases hsp
    exact rWi hX hP hS rfl rfl dX8_now_45
noncomputable def sp_X8_of (p1 : Int32) (p2 : Int32) (p3 : Int32) (fa0_refused : Nat → Int32) (fa0_town : Nat → Int32) : Option (Int32 × (Nat → Int32)) := if (sp_X8_isPlot p1) = 0 then (lt_ (sp_X8_badly (-100 : Int32) fa0_refused) fun z2 => some (z2.1, z2.2)) else (if (sp_X8_in p3 (0 : Int32) (2 : Int32)) = 0 then (lt_ (sp_X8_badly (-100 : Int32) fa0_refused) fun z4 => some (z4.1, z4.2)) else (gi ((3 : Int32) + p1) 682 (if (sp_X8_in p2 (0 : Int32) ((fa0_town (((3 : Int32) + p1)).toNatClampNeg) - (1 : Int32))) = 0 then (lt_ (sp_X8_badly (-100 : Int32) fa0_refused) fun z10 => some (z10.1, z10.2)) else (if p3 = (2 : Int32) then (Option.bind (sp_X8_loadOn p1 p2 fa0_town) fun z9 => some (z9, fa0_refused)) else (gi ((sp_X8_storey p1 p2) + p3) 682 (some ((fa0_town (((sp_X8_storey p1 p2) + p3)).toNatClampNeg), fa0_refused)))))))
set_option maxHeartbeats 4000000 in
set_option maxRecDepth 100000 in
theorem c_X8_of (l : Launch) (E : wE) (a0 a0_text a0_town a0_draft a0_tried a0_images a0_kept a0_refused a0_line a0_best : Nat) (p1 : Int32) (p2 : Int32) (p3 : Int32) (a0_letters : Int32) (a0_above : Int64) (a0_below : Int64) (a0_at : Int32) (a0_start : Int32) (a0_isWell : Int32) (a0_faultAt : Int32) (fa0_refused : Nat → Int32) (fa0_town : Nat → Int32) (z_0 : Int32) (z_1 : (Nat → Int32)) (hsp : sp_X8_of p1 p2 p3 fa0_refused fa0_town = some (z_0, z_1)) : MW l yX8_of cX8_of 4 (some .int) 2 E [.ref a0, .int p1, .int p2, .int p3] [(a0, .inr (5, [.ref a0_text, .int a0_letters, .ref a0_town, .ref a0_draft, .ref a0_tried, .ref a0_images, .ref a0_kept, .ref a0_refused, .long a0_above, .long a0_below, .ref a0_line, .ref a0_best, .int a0_at, .int a0_start, .int a0_isWell, .int a0_faultAt])), (a0_refused, aI E 3 fa0_refused), (a0_town, aI E 682 fa0_town)] (some (.int z_0)) [(a0, .inr (5, [.ref a0_text, .int a0_letters, .ref a0_town, .ref a0_draft, .ref a0_tried, .ref a0_images, .ref a0_kept, .ref a0_refused, .long a0_above, .long a0_below, .ref a0_line, .ref a0_best, .int a0_at, .int a0_start, .int a0_isWell, .int a0_faultAt])), (a0_refused, aI E 3 z_1), (a0_town, aI E 682 fa0_town)] := by
  refine MW.of (by decide +kernel) (Nat.le_of_ble_eq_true rfl) ?_
  intro p e s m below meth c ls A hX hK hP hD hS hA hl
  have hX : CX p s m [.ref a0, .int p1, .int p2, .int p3].toArray meth c cX8_of 4 (some .int) RX8 := hX
  have hx := hX.1; have hb := hX.2.1; have hts := hX.2.2.2.2.1; have hown := hX.2.2.2.2.2.1
  have hl : lv_has ls 4 [(0, .ref a0), (1, .int p1), (2, .int p2), (3, .int p3)] := hl
  have hP : wP E [(a0, .inr (5, [.ref a0_text, .int a0_letters, .ref a0_town, .ref a0_draft, .ref a0_tried, .ref a0_images, .ref a0_kept, .ref a0_refused, .long a0_above, .long a0_below, .ref a0_line, .ref a0_best, .int a0_at, .int a0_start, .int a0_isWell, .int a0_faultAt])), (a0_refused, aI E 3 fa0_refused), (a0_town, aI E 682 fa0_town)] s.heap := hP
  have hsp : (if (sp_X8_isPlot p1) = 0 then (lt_ (sp_X8_badly (-100 : Int32) fa0_refused) fun z2 => some (z2.1, z2.2)) else (if (sp_X8_in p3 (0 : Int32) (2 : Int32)) = 0 then (lt_ (sp_X8_badly (-100 : Int32) fa0_refused) fun z4 => some (z4.1, z4.2)) else (gi ((3 : Int32) + p1) 682 (if (sp_X8_in p2 (0 : Int32) ((fa0_town (((3 : Int32) + p1)).toNatClampNeg) - (1 : Int32))) = 0 then (lt_ (sp_X8_badly (-100 : Int32) fa0_refused) fun z10 => some (z10.1, z10.2)) else (if p3 = (2 : Int32) then (Option.bind (sp_X8_loadOn p1 p2 fa0_town) fun z9 => some (z9, fa0_refused)) else (gi ((sp_X8_storey p1 p2) + p3) 682 (some ((fa0_town (((sp_X8_storey p1 p2) + p3)).toNatClampNeg), fa0_refused)))))))) = some (z_0, z_1) := hsp
  refine lv_iload_n hx hb dX8_of_0 rfl (lv_at hl 1 rfl) (W.pc 1 rfl ?_)
  refine kSR (st1 := [.int (sp_X8_isPlot p1)]) hX (c_X8_isPlot l E p1 _ rfl) B_X8_isPlot w_4_142 hK (hP.pick [] rfl) rfl hl.1 rfl (Nat.le_of_ble_eq_true rfl) ⟨Nat.le_of_ble_eq_true rfl, Nat.le_of_ble_eq_true rfl⟩ dX8_of_1 rfl (W.pc 4 rfl ?_)
  refine lv_if_eq (tgt := 34) hx hb dX8_of_4 (by decide) (fun c1 => ?_) (fun c1 => W.pc 7 rfl ?_)
  · have hsp := ip hsp c1
    refine lv_aload_n hx hb dX8_of_34 rfl (lv_at hl 0 rfl) (W.pc 35 rfl ?_)
    refine lv_bipush (v := (-100 : Int32)) hx hb dX8_of_35 (by decide) (W.pc 37 rfl ?_)
    obtain ⟨z2, hr_z2, hsp⟩ := ltb_s hsp
    refine kVW (st1 := [.int z2.1]) (ws' := [(a0, .inr (5, [.ref a0_text, .int a0_letters, .ref a0_town, .ref a0_draft, .ref a0_tried, .ref a0_images, .ref a0_kept, .ref a0_refused, .long a0_above, .long a0_below, .ref a0_line, .ref a0_best, .int a0_at, .int a0_start, .int a0_isWell, .int a0_faultAt])), (a0_refused, aI E 3 z2.2), (a0_town, aI E 682 fa0_town)]) [0, 1] hX (c_X8_badly l E a0 a0_text a0_town a0_draft a0_tried a0_images a0_kept a0_refused a0_line a0_best (-100 : Int32) a0_letters a0_above a0_below a0_at a0_start a0_isWell a0_faultAt fa0_refused z2.1 z2.2 hr_z2) B_X8_badly w_4_148 hK hP hD hS hA (by decide) rfl rfl rfl (q0 := 0) (ci := 5) rfl rfl rfl rfl hl.1 rfl (Nat.le_of_ble_eq_true rfl) ⟨Nat.le_of_ble_eq_true rfl, Nat.le_of_ble_eq_true rfl⟩ dX8_of_37 rfl (fun H locs hP hD hS => W.pc 40 rfl ?_)
    cases hsp
    exact rWi hX hP hS rfl rfl dX8_of_40
  · have hsp := iq hsp c1
    refine lv_iload_n hx hb dX8_of_7 rfl (lv_at hl 3 rfl) (W.pc 8 rfl ?_)
    refine lv_iconst (v := (0 : Int32)) hx hb dX8_of_8 (by decide) (W.pc 9 rfl ?_)
    refine lv_iconst (v := (2 : Int32)) hx hb dX8_of_9 (by decide) (W.pc 10 rfl ?_)
    refine kSR (st1 := [.int (sp_X8_in p3 (0 : Int32) (2 : Int32))]) hX (c_X8_in l E p3 (0 : Int32) (2 : Int32) _ rfl) B_X8_in w_4_125 hK (hP.pick [] rfl) rfl hl.1 rfl (Nat.le_of_ble_eq_true rfl) ⟨Nat.le_of_ble_eq_true rfl, Nat.le_of_ble_eq_true rfl⟩ dX8_of_10 rfl (W.pc 13 rfl ?_)
    refine lv_if_eq (tgt := 34) hx hb dX8_of_13 (by decide) (fun c3 => ?_) (fun c3 => W.pc 16 rfl ?_)
    · have hsp := ip hsp c3
      refine lv_aload_n hx hb dX8_of_34 rfl (lv_at hl 0 rfl) (W.pc 35 rfl ?_)
      refine lv_bipush (v := (-100 : Int32)) hx hb dX8_of_35 (by decide) (W.pc 37 rfl ?_)
      obtain ⟨z4, hr_z4, hsp⟩ := ltb_s hsp
      refine kVW (st1 := [.int z4.1]) (ws' := [(a0, .inr (5, [.ref a0_text, .int a0_letters, .ref a0_town, .ref a0_draft, .ref a0_tried, .ref a0_images, .ref a0_kept, .ref a0_refused, .long a0_above, .long a0_below, .ref a0_line, .ref a0_best, .int a0_at, .int a0_start, .int a0_isWell, .int a0_faultAt])), (a0_refused, aI E 3 z4.2), (a0_town, aI E 682 fa0_town)]) [0, 1] hX (c_X8_badly l E a0 a0_text a0_town a0_draft a0_tried a0_images a0_kept a0_refused a0_line a0_best (-100 : Int32) a0_letters a0_above a0_below a0_at a0_start a0_isWell a0_faultAt fa0_refused z4.1 z4.2 hr_z4) B_X8_badly w_4_148 hK hP hD hS hA (by decide) rfl rfl rfl (q0 := 0) (ci := 5) rfl rfl rfl rfl hl.1 rfl (Nat.le_of_ble_eq_true rfl) ⟨Nat.le_of_ble_eq_true rfl, Nat.le_of_ble_eq_true rfl⟩ dX8_of_37 rfl (fun H locs hP hD hS => W.pc 40 rfl ?_)
      cases hsp
      exact rWi hX hP hS rfl rfl dX8_of_40
    · have hsp := iq hsp c3
      refine lv_iload_n hx hb dX8_of_16 rfl (lv_at hl 2 rfl) (W.pc 17 rfl ?_)
      refine lv_iconst (v := (0 : Int32)) hx hb dX8_of_17 (by decide) (W.pc 18 rfl ?_)
      refine lv_aload_n hx hb dX8_of_18 rfl (lv_at hl 0 rfl) (W.pc 19 rfl ?_)
      refine va_get (D := E.1) (ci := 5) (v := .ref a0_town) (C := RX8) (T := TX8) (N := 16) hx hb hts inT_X8 hown hK hP 0 rfl rfl 2 (by decide) (hts _ w_4_70) (fun _ h9 => h9) rfl dX8_of_19 (W.pc 22 rfl ?_)
      refine lv_iconst (v := (3 : Int32)) hx hb dX8_of_22 (by decide) (W.pc 23 rfl ?_)
      refine lv_iload_n hx hb dX8_of_23 rfl (lv_at hl 1 rfl) (W.pc 24 rfl ?_)
      refine lv_iadd hx hb dX8_of_24 (W.pc 25 rfl ?_)
      obtain ⟨h5, hsp⟩ := gi_s hsp
      refine va_iald hx hb hK hP 2 0 rfl rfl h5 dX8_of_25 (W.pc 26 rfl ?_)
      refine lv_iconst (v := (1 : Int32)) hx hb dX8_of_26 (by decide) (W.pc 27 rfl ?_)
      refine lv_isub hx hb dX8_of_27 (W.pc 28 rfl ?_)
      refine kSR (st1 := [.int (sp_X8_in p2 (0 : Int32) ((fa0_town (((3 : Int32) + p1)).toNatClampNeg) - (1 : Int32)))]) hX (c_X8_in l E p2 (0 : Int32) ((fa0_town (((3 : Int32) + p1)).toNatClampNeg) - (1 : Int32)) _ rfl) B_X8_in w_4_125 hK (hP.pick [] rfl) rfl hl.1 rfl (Nat.le_of_ble_eq_true rfl) ⟨Nat.le_of_ble_eq_true rfl, Nat.le_of_ble_eq_true rfl⟩ dX8_of_28 rfl (W.pc 31 rfl ?_)
      refine lv_if_ne (tgt := 41) hx hb dX8_of_31 (by decide) (fun c6 => ?_) (fun c6 => W.pc 34 rfl ?_)
      · have hsp := iq hsp c6
        refine lv_iload_n hx hb dX8_of_41 rfl (lv_at hl 3 rfl) (W.pc 42 rfl ?_)
        refine lv_iconst (v := (2 : Int32)) hx hb dX8_of_42 (by decide) (W.pc 43 rfl ?_)
        refine lv_icmp_ne (tgt := 58) hx hb dX8_of_43 (by decide) (fun c7 => ?_) (fun c7 => W.pc 46 rfl ?_)
        · have hsp := iq hsp c7
          refine lv_aload_n hx hb dX8_of_58 rfl (lv_at hl 0 rfl) (W.pc 59 rfl ?_)
          refine va_get (D := E.1) (ci := 5) (v := .ref a0_town) (C := RX8) (T := TX8) (N := 16) hx hb hts inT_X8 hown hK hP 0 rfl rfl 2 (by decide) (hts _ w_4_70) (fun _ h9 => h9) rfl dX8_of_59 (W.pc 62 rfl ?_)
          refine lv_iload_n hx hb dX8_of_62 rfl (lv_at hl 1 rfl) (W.pc 63 rfl ?_)
          refine lv_iload_n hx hb dX8_of_63 rfl (lv_at hl 2 rfl) (W.pc 64 rfl ?_)
          refine kSR (st1 := [.int (sp_X8_storey p1 p2), .ref a0_town]) hX (c_X8_storey l E p1 p2 _ rfl) B_X8_storey w_4_237 hK (hP.pick [] rfl) rfl hl.1 rfl (Nat.le_of_ble_eq_true rfl) ⟨Nat.le_of_ble_eq_true rfl, Nat.le_of_ble_eq_true rfl⟩ dX8_of_64 rfl (W.pc 67 rfl ?_)
          refine lv_iload_n hx hb dX8_of_67 rfl (lv_at hl 3 rfl) (W.pc 68 rfl ?_)
          refine lv_iadd hx hb dX8_of_68 (W.pc 69 rfl ?_)
          obtain ⟨h8, hsp⟩ := gi_s hsp
          refine va_iald hx hb hK hP 2 0 rfl rfl h8 dX8_of_69 (W.pc 70 rfl ?_)
          cases hsp
          exact rWi hX hP hS rfl rfl dX8_of_70
        · have hsp := ip hsp c7
          refine lv_aload_n hx hb dX8_of_46 rfl (lv_at hl 0 rfl) (W.pc 47 rfl ?_)
          refine va_get (D := E.1) (ci := 5) (v := .ref a0_town) (C := RX8) (T := TX8) (N := 16) hx hb hts inT_X8 hown hK hP 0 rfl rfl 2 (by decide) (hts _ w_4_70) (fun _ h9 => h9) rfl dX8_of_47 (W.pc 50 rfl ?_)
          refine lv_iload_n hx hb dX8_of_50 rfl (lv_at hl 1 rfl) (W.pc 51 rfl ?_)
          refine lv_iload_n hx hb dX8_of_51 rfl (lv_at hl 2 rfl) (W.pc 52 rfl ?_)
          obtain ⟨z9, hr_z9, hsp⟩ := bd_s hsp
          refine kSR (st1 := [.int z9]) hX (c_X8_loadOn l E a0_town p1 p2 fa0_town z9 hr_z9) B_X8_loadOn w_5_3 hK (hP.pick [2] rfl) rfl hl.1 rfl (Nat.le_of_ble_eq_true rfl) ⟨Nat.le_of_ble_eq_true rfl, Nat.le_of_ble_eq_true rfl⟩ dX8_of_52 rfl (W.pc 55 rfl ?_)
          refine lv_goto (tgt := 70) hx hb dX8_of_55 (by decide) ?_
          cases hsp
          exact rWi hX hP hS rfl rfl dX8_of_70
      · have hsp := ip hsp c6
        refine lv_aload_n hx hb dX8_of_34 rfl (lv_at hl 0 rfl) (W.pc 35 rfl ?_)
        refine lv_bipush (v := (-100 : Int32)) hx hb dX8_of_35 (by decide) (W.pc 37 rfl ?_)
        obtain ⟨z10, hr_z10, hsp⟩ := ltb_s hsp
        refine kVW (st1 := [.int z10.1]) (ws' := [(a0, .inr (5, [.ref a0_text, .int a0_letters, .ref a0_town, .ref a0_draft, .ref a0_tried, .ref a0_images, .ref a0_kept, .ref a0_refused, .long a0_above, .long a0_below, .ref a0_line, .ref a0_best, .int a0_at, .int a0_start, .int a0_isWell, .int a0_faultAt])), (a0_refused, aI E 3 z10.2), (a0_town, aI E 682 fa0_town)]) [0, 1] hX (c_X8_badly l E a0 a0_text a0_town a0_draft a0_tried a0_images a0_kept a0_refused a0_line a0_best (-100 : Int32) a0_letters a0_above a0_below a0_at a0_start a0_isWell a0_faultAt fa0_refused z10.1 z10.2 hr_z10) B_X8_badly w_4_148 hK hP hD hS hA (by decide) rfl rfl rfl (q0 := 0) (ci := 5) rfl rfl rfl rfl hl.1 rfl (Nat.le_of_ble_eq_true rfl) ⟨Nat.le_of_ble_eq_true rfl, Nat.le_of_ble_eq_true rfl⟩ dX8_of_37 rfl (fun H locs hP hD hS => W.pc 40 rfl ?_)
        cases hsp
        exact rWi hX hP hS rfl rfl dX8_of_40
noncomputable def sp_X8_plot (p1 : Int32) (p2 : Int32) (fa0_refused : Nat → Int32) (fa0_town : Nat → Int32) : Option (Int32 × (Nat → Int32)) := if (sp_X8_isPlot p1) = 0 then (lt_ (sp_X8_badly (-100 : Int32) fa0_refused) fun z2 => some (z2.1, z2.2)) else (if (sp_X8_in p2 (0 : Int32) (2 : Int32)) = 0 then (lt_ (sp_X8_badly (-100 : Int32) fa0_refused) fun z9 => some (z9.1, z9.2)) else (if p2 = 0 then (gi ((3 : Int32) + p1) 682 (some ((fa0_town (((3 : Int32) + p1)).toNatClampNeg), fa0_refused))) else (if p2 = (1 : Int32) then (Option.bind (sp_X8_top p1 fa0_town) fun z7 => some (z7, fa0_refused)) else (Option.bind (sp_X8_loadOn p1 (-1 : Int32) fa0_town) fun z6 => some (z6, fa0_refused)))))
set_option maxHeartbeats 4000000 in
set_option maxRecDepth 100000 in
theorem c_X8_plot (l : Launch) (E : wE) (a0 a0_text a0_town a0_draft a0_tried a0_images a0_kept a0_refused a0_line a0_best : Nat) (p1 : Int32) (p2 : Int32) (a0_letters : Int32) (a0_above : Int64) (a0_below : Int64) (a0_at : Int32) (a0_start : Int32) (a0_isWell : Int32) (a0_faultAt : Int32) (fa0_refused : Nat → Int32) (fa0_town : Nat → Int32) (z_0 : Int32) (z_1 : (Nat → Int32)) (hsp : sp_X8_plot p1 p2 fa0_refused fa0_town = some (z_0, z_1)) : MW l yX8_plot cX8_plot 3 (some .int) 2 E [.ref a0, .int p1, .int p2] [(a0, .inr (5, [.ref a0_text, .int a0_letters, .ref a0_town, .ref a0_draft, .ref a0_tried, .ref a0_images, .ref a0_kept, .ref a0_refused, .long a0_above, .long a0_below, .ref a0_line, .ref a0_best, .int a0_at, .int a0_start, .int a0_isWell, .int a0_faultAt])), (a0_refused, aI E 3 fa0_refused), (a0_town, aI E 682 fa0_town)] (some (.int z_0)) [(a0, .inr (5, [.ref a0_text, .int a0_letters, .ref a0_town, .ref a0_draft, .ref a0_tried, .ref a0_images, .ref a0_kept, .ref a0_refused, .long a0_above, .long a0_below, .ref a0_line, .ref a0_best, .int a0_at, .int a0_start, .int a0_isWell, .int a0_faultAt])), (a0_refused, aI E 3 z_1), (a0_town, aI E 682 fa0_town)] := by
  refine MW.of (by decide +kernel) (Nat.le_of_ble_eq_true rfl) ?_
  intro p e s m below meth c ls A hX hK hP hD hS hA hl
  have hX : CX p s m [.ref a0, .int p1, .int p2].toArray meth c cX8_plot 3 (some .int) RX8 := hX
  have hx := hX.1; have hb := hX.2.1; have hts := hX.2.2.2.2.1; have hown := hX.2.2.2.2.2.1
  have hl : lv_has ls 3 [(0, .ref a0), (1, .int p1), (2, .int p2)] := hl
  have hP : wP E [(a0, .inr (5, [.ref a0_text, .int a0_letters, .ref a0_town, .ref a0_draft, .ref a0_tried, .ref a0_images, .ref a0_kept, .ref a0_refused, .long a0_above, .long a0_below, .ref a0_line, .ref a0_best, .int a0_at, .int a0_start, .int a0_isWell, .int a0_faultAt])), (a0_refused, aI E 3 fa0_refused), (a0_town, aI E 682 fa0_town)] s.heap := hP
  have hsp : (if (sp_X8_isPlot p1) = 0 then (lt_ (sp_X8_badly (-100 : Int32) fa0_refused) fun z2 => some (z2.1, z2.2)) else (if (sp_X8_in p2 (0 : Int32) (2 : Int32)) = 0 then (lt_ (sp_X8_badly (-100 : Int32) fa0_refused) fun z9 => some (z9.1, z9.2)) else (if p2 = 0 then (gi ((3 : Int32) + p1) 682 (some ((fa0_town (((3 : Int32) + p1)).toNatClampNeg), fa0_refused))) else (if p2 = (1 : Int32) then (Option.bind (sp_X8_top p1 fa0_town) fun z7 => some (z7, fa0_refused)) else (Option.bind (sp_X8_loadOn p1 (-1 : Int32) fa0_town) fun z6 => some (z6, fa0_refused)))))) = some (z_0, z_1) := hsp
  refine lv_iload_n hx hb dX8_plot_0 rfl (lv_at hl 1 rfl) (W.pc 1 rfl ?_)
  refine kSR (st1 := [.int (sp_X8_isPlot p1)]) hX (c_X8_isPlot l E p1 _ rfl) B_X8_isPlot w_4_142 hK (hP.pick [] rfl) rfl hl.1 rfl (Nat.le_of_ble_eq_true rfl) ⟨Nat.le_of_ble_eq_true rfl, Nat.le_of_ble_eq_true rfl⟩ dX8_plot_1 rfl (W.pc 4 rfl ?_)
  refine lv_if_eq (tgt := 16) hx hb dX8_plot_4 (by decide) (fun c1 => ?_) (fun c1 => W.pc 7 rfl ?_)
  · have hsp := ip hsp c1
    refine lv_aload_n hx hb dX8_plot_16 rfl (lv_at hl 0 rfl) (W.pc 17 rfl ?_)
    refine lv_bipush (v := (-100 : Int32)) hx hb dX8_plot_17 (by decide) (W.pc 19 rfl ?_)
    obtain ⟨z2, hr_z2, hsp⟩ := ltb_s hsp
    refine kVW (st1 := [.int z2.1]) (ws' := [(a0, .inr (5, [.ref a0_text, .int a0_letters, .ref a0_town, .ref a0_draft, .ref a0_tried, .ref a0_images, .ref a0_kept, .ref a0_refused, .long a0_above, .long a0_below, .ref a0_line, .ref a0_best, .int a0_at, .int a0_start, .int a0_isWell, .int a0_faultAt])), (a0_refused, aI E 3 z2.2), (a0_town, aI E 682 fa0_town)]) [0, 1] hX (c_X8_badly l E a0 a0_text a0_town a0_draft a0_tried a0_images a0_kept a0_refused a0_line a0_best (-100 : Int32) a0_letters a0_above a0_below a0_at a0_start a0_isWell a0_faultAt fa0_refused z2.1 z2.2 hr_z2) B_X8_badly w_4_148 hK hP hD hS hA (by decide) rfl rfl rfl (q0 := 0) (ci := 5) rfl rfl rfl rfl hl.1 rfl (Nat.le_of_ble_eq_true rfl) ⟨Nat.le_of_ble_eq_true rfl, Nat.le_of_ble_eq_true rfl⟩ dX8_plot_19 rfl (fun H locs hP hD hS => W.pc 22 rfl ?_)
    cases hsp
    exact rWi hX hP hS rfl rfl dX8_plot_22
  · have hsp := iq hsp c1
    refine lv_iload_n hx hb dX8_plot_7 rfl (lv_at hl 2 rfl) (W.pc 8 rfl ?_)
    refine lv_iconst (v := (0 : Int32)) hx hb dX8_plot_8 (by decide) (W.pc 9 rfl ?_)
    refine lv_iconst (v := (2 : Int32)) hx hb dX8_plot_9 (by decide) (W.pc 10 rfl ?_)
    refine kSR (st1 := [.int (sp_X8_in p2 (0 : Int32) (2 : Int32))]) hX (c_X8_in l E p2 (0 : Int32) (2 : Int32) _ rfl) B_X8_in w_4_125 hK (hP.pick [] rfl) rfl hl.1 rfl (Nat.le_of_ble_eq_true rfl) ⟨Nat.le_of_ble_eq_true rfl, Nat.le_of_ble_eq_true rfl⟩ dX8_plot_10 rfl (W.pc 13 rfl ?_)
    refine lv_if_ne (tgt := 23) hx hb dX8_plot_13 (by decide) (fun c3 => ?_) (fun c3 => W.pc 16 rfl ?_)
    · have hsp := iq hsp c3
      refine lv_iload_n hx hb dX8_plot_23 rfl (lv_at hl 2 rfl) (W.pc 24 rfl ?_)
      refine lv_if_ne (tgt := 38) hx hb dX8_plot_24 (by decide) (fun c4 => ?_) (fun c4 => W.pc 27 rfl ?_)
      · have hsp := iq hsp c4
        refine lv_iload_n hx hb dX8_plot_38 rfl (lv_at hl 2 rfl) (W.pc 39 rfl ?_)
        refine lv_iconst (v := (1 : Int32)) hx hb dX8_plot_39 (by decide) (W.pc 40 rfl ?_)
        refine lv_icmp_ne (tgt := 54) hx hb dX8_plot_40 (by decide) (fun c5 => ?_) (fun c5 => W.pc 43 rfl ?_)
        · have hsp := iq hsp c5
          refine lv_aload_n hx hb dX8_plot_54 rfl (lv_at hl 0 rfl) (W.pc 55 rfl ?_)
          refine va_get (D := E.1) (ci := 5) (v := .ref a0_town) (C := RX8) (T := TX8) (N := 16) hx hb hts inT_X8 hown hK hP 0 rfl rfl 2 (by decide) (hts _ w_4_70) (fun _ h9 => h9) rfl dX8_plot_55 (W.pc 58 rfl ?_)
          refine lv_iload_n hx hb dX8_plot_58 rfl (lv_at hl 1 rfl) (W.pc 59 rfl ?_)
          refine lv_iconst (v := (-1 : Int32)) hx hb dX8_plot_59 (by decide) (W.pc 60 rfl ?_)
          obtain ⟨z6, hr_z6, hsp⟩ := bd_s hsp
          refine kSR (st1 := [.int z6]) hX (c_X8_loadOn l E a0_town p1 (-1 : Int32) fa0_town z6 hr_z6) B_X8_loadOn w_5_3 hK (hP.pick [2] rfl) rfl hl.1 rfl (Nat.le_of_ble_eq_true rfl) ⟨Nat.le_of_ble_eq_true rfl, Nat.le_of_ble_eq_true rfl⟩ dX8_plot_60 rfl (W.pc 63 rfl ?_)
          cases hsp
          exact rWi hX hP hS rfl rfl dX8_plot_63
        · have hsp := ip hsp c5
          refine lv_aload_n hx hb dX8_plot_43 rfl (lv_at hl 0 rfl) (W.pc 44 rfl ?_)
          refine va_get (D := E.1) (ci := 5) (v := .ref a0_town) (C := RX8) (T := TX8) (N := 16) hx hb hts inT_X8 hown hK hP 0 rfl rfl 2 (by decide) (hts _ w_4_70) (fun _ h9 => h9) rfl dX8_plot_44 (W.pc 47 rfl ?_)
          refine lv_iload_n hx hb dX8_plot_47 rfl (lv_at hl 1 rfl) (W.pc 48 rfl ?_)
          obtain ⟨z7, hr_z7, hsp⟩ := bd_s hsp
          refine kSR (st1 := [.int z7]) hX (c_X8_top l E a0_town p1 fa0_town z7 hr_z7) B_X8_top w_5_50 hK (hP.pick [2] rfl) rfl hl.1 rfl (Nat.le_of_ble_eq_true rfl) ⟨Nat.le_of_ble_eq_true rfl, Nat.le_of_ble_eq_true rfl⟩ dX8_plot_48 rfl (W.pc 51 rfl ?_)
          refine lv_goto (tgt := 63) hx hb dX8_plot_51 (by decide) ?_
          cases hsp
          exact rWi hX hP hS rfl rfl dX8_plot_63
      · have hsp := ip hsp c4
        refine lv_aload_n hx hb dX8_plot_27 rfl (lv_at hl 0 rfl) (W.pc 28 rfl ?_)
        refine va_get (D := E.1) (ci := 5) (v := .ref a0_town) (C := RX8) (T := TX8) (N := 16) hx hb hts inT_X8 hown hK hP 0 rfl rfl 2 (by decide) (hts _ w_4_70) (fun _ h9 => h9) rfl dX8_plot_28 (W.pc 31 rfl ?_)
        refine lv_iconst (v := (3 : Int32)) hx hb dX8_plot_31 (by decide) (W.pc 32 rfl ?_)
        refine lv_iload_n hx hb dX8_plot_32 rfl (lv_at hl 1 rfl) (W.pc 33 rfl ?_)
        refine lv_iadd hx hb dX8_plot_33 (W.pc 34 rfl ?_)
        obtain ⟨h8, hsp⟩ := gi_s hsp
        refine va_iald hx hb hK hP 2 0 rfl rfl h8 dX8_plot_34 (W.pc 35 rfl ?_)
        refine lv_goto (tgt := 63) hx hb dX8_plot_35 (by decide) ?_
        cases hsp
        exact rWi hX hP hS rfl rfl dX8_plot_63
    · have hsp := ip hsp c3
      refine lv_aload_n hx hb dX8_plot_16 rfl (lv_at hl 0 rfl) (W.pc 17 rfl ?_)
      refine lv_bipush (v := (-100 : Int32)) hx hb dX8_plot_17 (by decide) (W.pc 19 rfl ?_)
      obtain ⟨z9, hr_z9, hsp⟩ := ltb_s hsp
      refine kVW (st1 := [.int z9.1]) (ws' := [(a0, .inr (5, [.ref a0_text, .int a0_letters, .ref a0_town, .ref a0_draft, .ref a0_tried, .ref a0_images, .ref a0_kept, .ref a0_refused, .long a0_above, .long a0_below, .ref a0_line, .ref a0_best, .int a0_at, .int a0_start, .int a0_isWell, .int a0_faultAt])), (a0_refused, aI E 3 z9.2), (a0_town, aI E 682 fa0_town)]) [0, 1] hX (c_X8_badly l E a0 a0_text a0_town a0_draft a0_tried a0_images a0_kept a0_refused a0_line a0_best (-100 : Int32) a0_letters a0_above a0_below a0_at a0_start a0_isWell a0_faultAt fa0_refused z9.1 z9.2 hr_z9) B_X8_badly w_4_148 hK hP hD hS hA (by decide) rfl rfl rfl (q0 := 0) (ci := 5) rfl rfl rfl rfl hl.1 rfl (Nat.le_of_ble_eq_true rfl) ⟨Nat.le_of_ble_eq_true rfl, Nat.le_of_ble_eq_true rfl⟩ dX8_plot_19 rfl (fun H locs hP hD hS => W.pc 22 rfl ?_)
      cases hsp
      exact rWi hX hP hS rfl rfl dX8_plot_22
