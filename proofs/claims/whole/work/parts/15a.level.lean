theorem w_1_228 : Cond.methodLink RX7 58 yX7_isLevelKind ∈ TBL := TBL_t (tin1 (List.mem_of_getElem? (i := 228) (by decide +kernel))) (by decide +kernel)
theorem w_1_238 : Cond.methodLink RX7 69 yX3_storeys ∈ TBL := TBL_t (tin1 (List.mem_of_getElem? (i := 238) (by decide +kernel))) (by decide +kernel)
theorem w_2_9 : Cond.methodLink RX7 73 yX6_begin ∈ TBL := TBL_t (tin2 (List.mem_of_getElem? (i := 9) (by decide +kernel))) (by decide +kernel)
theorem w_1_234 : Cond.methodLink RX7 62 yX7_bad ∈ TBL := TBL_t (tin1 (List.mem_of_getElem? (i := 234) (by decide +kernel))) (by decide +kernel)
theorem w_2_25 : Cond.methodLink RX7 83 yX7_isTilt ∈ TBL := TBL_t (tin2 (List.mem_of_getElem? (i := 25) (by decide +kernel))) (by decide +kernel)
theorem w_1_65 : Cond.fieldLink RX7 86 "LevelGone$Town" "pulls" "[I" ∈ TBL := TBL_t (tin1 (List.mem_of_getElem? (i := 65) (by decide +kernel))) (by decide +kernel)
theorem w_1_73 : Cond.fieldLink RX7 97 "LevelGone$Town" "pasts" "I" ∈ TBL := TBL_t (tin1 (List.mem_of_getElem? (i := 73) (by decide +kernel))) (by decide +kernel)
theorem w_2_36 : Cond.methodLink RX7 104 yX7_full ∈ TBL := TBL_t (tin2 (List.mem_of_getElem? (i := 36) (by decide +kernel))) (by decide +kernel)
theorem w_1_182 : Cond.fieldLink RX7 26 "LevelGone" "text" "LLevelGone$Text;" ∈ TBL := TBL_t (tin1 (List.mem_of_getElem? (i := 182) (by decide +kernel))) (by decide +kernel)
theorem w_1_118 : Cond.fieldLink RX7 110 "LevelGone$Text" "length" "I" ∈ TBL := TBL_t (tin1 (List.mem_of_getElem? (i := 118) (by decide +kernel))) (by decide +kernel)
theorem w_1_117 : Cond.fieldLink RX7 113 "LevelGone$Text" "bytes" "[I" ∈ TBL := TBL_t (tin1 (List.mem_of_getElem? (i := 117) (by decide +kernel))) (by decide +kernel)
theorem w_3_3 : Cond.methodLink RX7 127 yX3_height ∈ TBL := TBL_t (tin3 (List.mem_of_getElem? (i := 3) (by decide +kernel))) (by decide +kernel)
theorem w_3_43 : Cond.methodLink RX7 164 yX3_kindAt ∈ TBL := TBL_t (tin3 (List.mem_of_getElem? (i := 43) (by decide +kernel))) (by decide +kernel)
theorem w_3_44 : Cond.methodLink RX7 168 yX3_tiltAt ∈ TBL := TBL_t (tin3 (List.mem_of_getElem? (i := 44) (by decide +kernel))) (by decide +kernel)
theorem w_3_45 : Cond.methodLink RX7 171 yX3_loadOn ∈ TBL := TBL_t (tin3 (List.mem_of_getElem? (i := 45) (by decide +kernel))) (by decide +kernel)
theorem w_3_57 : Cond.methodLink RX7 177 yX3_weight ∈ TBL := TBL_t (tin3 (List.mem_of_getElem? (i := 57) (by decide +kernel))) (by decide +kernel)
theorem w_1_230 : Cond.code yX7_isLevelKind cX7_isLevelKind 1 (some .boolean) ∈ TBL := TBL_t (tin1 (List.mem_of_getElem? (i := 230) (by decide +kernel))) (by decide +kernel)
theorem w_1_229 : Cond.static yX7_isLevelKind ∈ TBL := TBL_t (tin1 (List.mem_of_getElem? (i := 229) (by decide +kernel))) (by decide +kernel)
theorem w_2_0 : Cond.selects yX3_storeys.cls yX3_storeys yX3_storeys ∈ TBL := TBL_t (tin2 (List.mem_of_getElem? (i := 0) (by decide +kernel))) (by decide +kernel)
theorem w_2_1 : Cond.code yX3_storeys cX3_storeys 3 (some .int) ∈ TBL := TBL_t (tin2 (List.mem_of_getElem? (i := 1) (by decide +kernel))) (by decide +kernel)
theorem w_1_239 : Cond.instanceMethod yX3_storeys ∈ TBL := TBL_t (tin1 (List.mem_of_getElem? (i := 239) (by decide +kernel))) (by decide +kernel)
theorem w_2_11 : Cond.selects yX6_begin.cls yX6_begin yX6_begin ∈ TBL := TBL_t (tin2 (List.mem_of_getElem? (i := 11) (by decide +kernel))) (by decide +kernel)
theorem w_2_12 : Cond.code yX6_begin cX6_begin 2 none ∈ TBL := TBL_t (tin2 (List.mem_of_getElem? (i := 12) (by decide +kernel))) (by decide +kernel)
theorem w_2_10 : Cond.instanceMethod yX6_begin ∈ TBL := TBL_t (tin2 (List.mem_of_getElem? (i := 10) (by decide +kernel))) (by decide +kernel)
theorem w_1_237 : Cond.code yX7_bad cX7_bad 2 (some .int) ∈ TBL := TBL_t (tin1 (List.mem_of_getElem? (i := 237) (by decide +kernel))) (by decide +kernel)
theorem w_1_236 : Cond.instanceMethod yX7_bad ∈ TBL := TBL_t (tin1 (List.mem_of_getElem? (i := 236) (by decide +kernel))) (by decide +kernel)
theorem w_2_27 : Cond.code yX7_isTilt cX7_isTilt 1 (some .boolean) ∈ TBL := TBL_t (tin2 (List.mem_of_getElem? (i := 27) (by decide +kernel))) (by decide +kernel)
theorem w_2_26 : Cond.static yX7_isTilt ∈ TBL := TBL_t (tin2 (List.mem_of_getElem? (i := 26) (by decide +kernel))) (by decide +kernel)
theorem w_2_39 : Cond.code yX7_full cX7_full 1 (some .int) ∈ TBL := TBL_t (tin2 (List.mem_of_getElem? (i := 39) (by decide +kernel))) (by decide +kernel)
theorem w_2_38 : Cond.instanceMethod yX7_full ∈ TBL := TBL_t (tin2 (List.mem_of_getElem? (i := 38) (by decide +kernel))) (by decide +kernel)
theorem w_3_59 : Cond.selects yX3_weight.cls yX3_weight yX3_weight ∈ TBL := TBL_t (tin3 (List.mem_of_getElem? (i := 59) (by decide +kernel))) (by decide +kernel)
theorem w_3_60 : Cond.code yX3_weight cX3_weight 2 (some .int) ∈ TBL := TBL_t (tin3 (List.mem_of_getElem? (i := 60) (by decide +kernel))) (by decide +kernel)
theorem w_3_58 : Cond.instanceMethod yX3_weight ∈ TBL := TBL_t (tin3 (List.mem_of_getElem? (i := 58) (by decide +kernel))) (by decide +kernel)
theorem ws_0 : Cond.selects yX7_bad.cls yX7_bad yX7_bad ∈ TBL := TBL_s (List.mem_of_getElem? (i := 0) (by decide +kernel)) (by decide +kernel)
theorem ws_1 : Cond.selects yX7_full.cls yX7_full yX7_full ∈ TBL := TBL_s (List.mem_of_getElem? (i := 1) (by decide +kernel)) (by decide +kernel)
theorem B_X7_isLevelKind : cS yX7_isLevelKind cX7_isLevelKind 1 (some .boolean) 1 := ⟨w_1_230, w_1_229, w_1_1, by decide +kernel⟩
theorem B_X3_storeys : cV yX3_storeys cX3_storeys 3 (some .int) 0 := ⟨w_2_1, w_1_239, w_2_0, w_1_3, by decide +kernel⟩
theorem B_X6_begin : cV yX6_begin cX6_begin 2 none 1 := ⟨w_2_12, w_2_10, w_2_11, w_1_2, by decide +kernel⟩
theorem B_X7_bad : cV yX7_bad cX7_bad 2 (some .int) 1 := ⟨w_1_237, w_1_236, (ws_0), w_1_1, by decide +kernel⟩
theorem B_X7_isTilt : cS yX7_isTilt cX7_isTilt 1 (some .boolean) 1 := ⟨w_2_27, w_2_26, w_1_1, by decide +kernel⟩
theorem B_X7_full : cV yX7_full cX7_full 1 (some .int) 0 := ⟨w_2_39, w_2_38, (ws_1), w_1_1, by decide +kernel⟩
theorem B_X3_weight : cV yX3_weight cX3_weight 2 (some .int) 1 := ⟨w_3_60, w_3_58, w_3_59, w_1_3, by decide +kernel⟩
theorem dX7_town_0 : decode cX7_town 0 = .ok (.iload_n 1, 1) := by decide +kernel
theorem dX7_town_1 : decode cX7_town 1 = .ok (.invokestatic 58, 3) := by decide +kernel
theorem dX7_town_4 : decode cX7_town 4 = .ok (.ifCond .ne 10, 3) := by decide +kernel
theorem dX7_town_7 : decode cX7_town 7 = .ok (.aload_n 0, 1) := by decide +kernel
theorem dX7_town_8 : decode cX7_town 8 = .ok (.bipush (-2), 2) := by decide +kernel
theorem dX7_town_10 : decode cX7_town 10 = .ok (.invokevirtual 62, 3) := by decide +kernel
theorem dX7_town_13 : decode cX7_town 13 = .ok (.ireturn, 1) := by decide +kernel
theorem dX7_town_14 : decode cX7_town 14 = .ok (.aload_n 0, 1) := by decide +kernel
theorem dX7_town_15 : decode cX7_town 15 = .ok (.getfield 10, 3) := by decide +kernel
theorem dX7_town_18 : decode cX7_town 18 = .ok (.getfield 66, 3) := by decide +kernel
theorem dX7_town_21 : decode cX7_town 21 = .ok (.invokevirtual 69, 3) := by decide +kernel
theorem dX7_town_24 : decode cX7_town 24 = .ok (.istore_n 2, 1) := by decide +kernel
theorem dX7_town_25 : decode cX7_town 25 = .ok (.aload_n 0, 1) := by decide +kernel
theorem dX7_town_26 : decode cX7_town 26 = .ok (.getfield 10, 3) := by decide +kernel
theorem dX7_town_29 : decode cX7_town 29 = .ok (.iload_n 1, 1) := by decide +kernel
theorem dX7_town_30 : decode cX7_town 30 = .ok (.invokevirtual 73, 3) := by decide +kernel
theorem dX7_town_33 : decode cX7_town 33 = .ok (.iload_n 2, 1) := by decide +kernel
theorem dX7_town_34 : decode cX7_town 34 = .ok (.ireturn, 1) := by decide +kernel
theorem dX7_pull_0 : decode cX7_pull 0 = .ok (.iload_n 1, 1) := by decide +kernel
theorem dX7_pull_1 : decode cX7_pull 1 = .ok (.iconst 0, 1) := by decide +kernel
theorem dX7_pull_2 : decode cX7_pull 2 = .ok (.iconst 5, 1) := by decide +kernel
theorem dX7_pull_3 : decode cX7_pull 3 = .ok (.invokestatic 77, 3) := by decide +kernel
theorem dX7_pull_6 : decode cX7_pull 6 = .ok (.ifCond .eq 10, 3) := by decide +kernel
theorem dX7_pull_9 : decode cX7_pull 9 = .ok (.iload_n 2, 1) := by decide +kernel
theorem dX7_pull_10 : decode cX7_pull 10 = .ok (.invokestatic 83, 3) := by decide +kernel
theorem dX7_pull_13 : decode cX7_pull 13 = .ok (.ifCond .ne 10, 3) := by decide +kernel
theorem dX7_pull_16 : decode cX7_pull 16 = .ok (.aload_n 0, 1) := by decide +kernel
theorem dX7_pull_17 : decode cX7_pull 17 = .ok (.bipush (-100), 2) := by decide +kernel
theorem dX7_pull_19 : decode cX7_pull 19 = .ok (.invokevirtual 62, 3) := by decide +kernel
theorem dX7_pull_22 : decode cX7_pull 22 = .ok (.ireturn, 1) := by decide +kernel
theorem dX7_pull_23 : decode cX7_pull 23 = .ok (.aload_n 0, 1) := by decide +kernel
theorem dX7_pull_24 : decode cX7_pull 24 = .ok (.getfield 10, 3) := by decide +kernel
theorem dX7_pull_27 : decode cX7_pull 27 = .ok (.getfield 86, 3) := by decide +kernel
theorem dX7_pull_30 : decode cX7_pull 30 = .ok (.iload_n 1, 1) := by decide +kernel
theorem dX7_pull_31 : decode cX7_pull 31 = .ok (.invokestatic 89, 3) := by decide +kernel
theorem dX7_pull_34 : decode cX7_pull 34 = .ok (.istore_n 3, 1) := by decide +kernel
theorem dX7_pull_35 : decode cX7_pull 35 = .ok (.aload_n 0, 1) := by decide +kernel
theorem dX7_pull_36 : decode cX7_pull 36 = .ok (.getfield 10, 3) := by decide +kernel
theorem dX7_pull_39 : decode cX7_pull 39 = .ok (.getfield 86, 3) := by decide +kernel
theorem dX7_pull_42 : decode cX7_pull 42 = .ok (.iload_n 1, 1) := by decide +kernel
theorem dX7_pull_43 : decode cX7_pull 43 = .ok (.iload_n 2, 1) := by decide +kernel
theorem dX7_pull_44 : decode cX7_pull 44 = .ok (.invokestatic 93, 3) := by decide +kernel
theorem dX7_pull_47 : decode cX7_pull 47 = .ok (.aload_n 0, 1) := by decide +kernel
theorem dX7_pull_48 : decode cX7_pull 48 = .ok (.getfield 10, 3) := by decide +kernel
theorem dX7_pull_51 : decode cX7_pull 51 = .ok (.iconst 0, 1) := by decide +kernel
theorem dX7_pull_52 : decode cX7_pull 52 = .ok (.putfield 97, 3) := by decide +kernel
theorem dX7_pull_55 : decode cX7_pull 55 = .ok (.iload_n 3, 1) := by decide +kernel
theorem dX7_pull_56 : decode cX7_pull 56 = .ok (.ireturn, 1) := by decide +kernel
theorem dX7_member_0 : decode cX7_member 0 = .ok (.iload_n 1, 1) := by decide +kernel
theorem dX7_member_1 : decode cX7_member 1 = .ok (.invokestatic 83, 3) := by decide +kernel
theorem dX7_member_4 : decode cX7_member 4 = .ok (.ifCond .ne 10, 3) := by decide +kernel
theorem dX7_member_7 : decode cX7_member 7 = .ok (.aload_n 0, 1) := by decide +kernel
theorem dX7_member_8 : decode cX7_member 8 = .ok (.bipush (-2), 2) := by decide +kernel
theorem dX7_member_10 : decode cX7_member 10 = .ok (.invokevirtual 62, 3) := by decide +kernel
theorem dX7_member_13 : decode cX7_member 13 = .ok (.ireturn, 1) := by decide +kernel
theorem dX7_member_14 : decode cX7_member 14 = .ok (.aload_n 0, 1) := by decide +kernel
theorem dX7_member_15 : decode cX7_member 15 = .ok (.getfield 10, 3) := by decide +kernel
theorem dX7_member_18 : decode cX7_member 18 = .ok (.getfield 101, 3) := by decide +kernel
theorem dX7_member_21 : decode cX7_member 21 = .ok (.iconst 5, 1) := by decide +kernel
theorem dX7_member_22 : decode cX7_member 22 = .ok (.if_icmp .lt 8, 3) := by decide +kernel
theorem dX7_member_25 : decode cX7_member 25 = .ok (.aload_n 0, 1) := by decide +kernel
theorem dX7_member_26 : decode cX7_member 26 = .ok (.invokevirtual 104, 3) := by decide +kernel
theorem dX7_member_29 : decode cX7_member 29 = .ok (.ireturn, 1) := by decide +kernel
theorem dX7_member_30 : decode cX7_member 30 = .ok (.aload_n 0, 1) := by decide +kernel
theorem dX7_member_31 : decode cX7_member 31 = .ok (.getfield 10, 3) := by decide +kernel
theorem dX7_member_34 : decode cX7_member 34 = .ok (.getfield 101, 3) := by decide +kernel
theorem dX7_member_37 : decode cX7_member 37 = .ok (.istore_n 2, 1) := by decide +kernel
theorem dX7_member_38 : decode cX7_member 38 = .ok (.aload_n 0, 1) := by decide +kernel
theorem dX7_member_39 : decode cX7_member 39 = .ok (.getfield 10, 3) := by decide +kernel
theorem dX7_member_42 : decode cX7_member 42 = .ok (.getfield 107, 3) := by decide +kernel
theorem dX7_member_45 : decode cX7_member 45 = .ok (.iload_n 2, 1) := by decide +kernel
theorem dX7_member_46 : decode cX7_member 46 = .ok (.iload_n 1, 1) := by decide +kernel
theorem dX7_member_47 : decode cX7_member 47 = .ok (.invokestatic 93, 3) := by decide +kernel
theorem dX7_member_50 : decode cX7_member 50 = .ok (.aload_n 0, 1) := by decide +kernel
theorem dX7_member_51 : decode cX7_member 51 = .ok (.getfield 10, 3) := by decide +kernel
theorem dX7_member_54 : decode cX7_member 54 = .ok (.iload_n 2, 1) := by decide +kernel
theorem dX7_member_55 : decode cX7_member 55 = .ok (.iconst 1, 1) := by decide +kernel
theorem dX7_member_56 : decode cX7_member 56 = .ok (.iadd, 1) := by decide +kernel
theorem dX7_member_57 : decode cX7_member 57 = .ok (.putfield 101, 3) := by decide +kernel
theorem dX7_member_60 : decode cX7_member 60 = .ok (.aload_n 0, 1) := by decide +kernel
theorem dX7_member_61 : decode cX7_member 61 = .ok (.getfield 10, 3) := by decide +kernel
theorem dX7_member_64 : decode cX7_member 64 = .ok (.iconst 0, 1) := by decide +kernel
theorem dX7_member_65 : decode cX7_member 65 = .ok (.putfield 97, 3) := by decide +kernel
theorem dX7_member_68 : decode cX7_member 68 = .ok (.iload_n 2, 1) := by decide +kernel
theorem dX7_member_69 : decode cX7_member 69 = .ok (.ireturn, 1) := by decide +kernel
theorem dX7_type_0 : decode cX7_type 0 = .ok (.iload_n 1, 1) := by decide +kernel
theorem dX7_type_1 : decode cX7_type 1 = .ok (.iconst 0, 1) := by decide +kernel
theorem dX7_type_2 : decode cX7_type 2 = .ok (.bipush 127, 2) := by decide +kernel
theorem dX7_type_4 : decode cX7_type 4 = .ok (.invokestatic 77, 3) := by decide +kernel
theorem dX7_type_7 : decode cX7_type 7 = .ok (.ifCond .ne 10, 3) := by decide +kernel
theorem dX7_type_10 : decode cX7_type 10 = .ok (.aload_n 0, 1) := by decide +kernel
theorem dX7_type_11 : decode cX7_type 11 = .ok (.bipush (-2), 2) := by decide +kernel
theorem dX7_type_13 : decode cX7_type 13 = .ok (.invokevirtual 62, 3) := by decide +kernel
theorem dX7_type_16 : decode cX7_type 16 = .ok (.ireturn, 1) := by decide +kernel
theorem dX7_type_17 : decode cX7_type 17 = .ok (.aload_n 0, 1) := by decide +kernel
theorem dX7_type_18 : decode cX7_type 18 = .ok (.getfield 26, 3) := by decide +kernel
theorem dX7_type_21 : decode cX7_type 21 = .ok (.getfield 110, 3) := by decide +kernel
theorem dX7_type_24 : decode cX7_type 24 = .ok (.sipush 150, 3) := by decide +kernel
theorem dX7_type_27 : decode cX7_type 27 = .ok (.if_icmp .lt 8, 3) := by decide +kernel
theorem dX7_type_30 : decode cX7_type 30 = .ok (.aload_n 0, 1) := by decide +kernel
theorem dX7_type_31 : decode cX7_type 31 = .ok (.invokevirtual 104, 3) := by decide +kernel
theorem dX7_type_34 : decode cX7_type 34 = .ok (.ireturn, 1) := by decide +kernel
theorem dX7_type_35 : decode cX7_type 35 = .ok (.aload_n 0, 1) := by decide +kernel
theorem dX7_type_36 : decode cX7_type 36 = .ok (.getfield 26, 3) := by decide +kernel
theorem dX7_type_39 : decode cX7_type 39 = .ok (.getfield 113, 3) := by decide +kernel
theorem dX7_type_42 : decode cX7_type 42 = .ok (.aload_n 0, 1) := by decide +kernel
theorem dX7_type_43 : decode cX7_type 43 = .ok (.getfield 26, 3) := by decide +kernel
theorem dX7_type_46 : decode cX7_type 46 = .ok (.getfield 110, 3) := by decide +kernel
theorem dX7_type_49 : decode cX7_type 49 = .ok (.iload_n 1, 1) := by decide +kernel
theorem dX7_type_50 : decode cX7_type 50 = .ok (.invokestatic 93, 3) := by decide +kernel
theorem dX7_type_53 : decode cX7_type 53 = .ok (.aload_n 0, 1) := by decide +kernel
theorem dX7_type_54 : decode cX7_type 54 = .ok (.getfield 26, 3) := by decide +kernel
theorem dX7_type_57 : decode cX7_type 57 = .ok (.dup, 1) := by decide +kernel
theorem dX7_type_58 : decode cX7_type 58 = .ok (.getfield 110, 3) := by decide +kernel
theorem dX7_type_61 : decode cX7_type 61 = .ok (.iconst 1, 1) := by decide +kernel
theorem dX7_type_62 : decode cX7_type 62 = .ok (.iadd, 1) := by decide +kernel
theorem dX7_type_63 : decode cX7_type 63 = .ok (.putfield 110, 3) := by decide +kernel
theorem dX7_type_66 : decode cX7_type 66 = .ok (.aload_n 0, 1) := by decide +kernel
theorem dX7_type_67 : decode cX7_type 67 = .ok (.getfield 26, 3) := by decide +kernel
theorem dX7_type_70 : decode cX7_type 70 = .ok (.getfield 110, 3) := by decide +kernel
theorem dX7_type_73 : decode cX7_type 73 = .ok (.ireturn, 1) := by decide +kernel
theorem dX7_clear_0 : decode cX7_clear 0 = .ok (.aload_n 0, 1) := by decide +kernel
theorem dX7_clear_1 : decode cX7_clear 1 = .ok (.getfield 26, 3) := by decide +kernel
theorem dX7_clear_4 : decode cX7_clear 4 = .ok (.getfield 110, 3) := by decide +kernel
theorem dX7_clear_7 : decode cX7_clear 7 = .ok (.istore_n 1, 1) := by decide +kernel
theorem dX7_clear_8 : decode cX7_clear 8 = .ok (.aload_n 0, 1) := by decide +kernel
theorem dX7_clear_9 : decode cX7_clear 9 = .ok (.getfield 26, 3) := by decide +kernel
theorem dX7_clear_12 : decode cX7_clear 12 = .ok (.iconst 0, 1) := by decide +kernel
theorem dX7_clear_13 : decode cX7_clear 13 = .ok (.putfield 110, 3) := by decide +kernel
theorem dX7_clear_16 : decode cX7_clear 16 = .ok (.iload_n 1, 1) := by decide +kernel
theorem dX7_clear_17 : decode cX7_clear 17 = .ok (.ireturn, 1) := by decide +kernel
theorem dX7_now_0 : decode cX7_now 0 = .ok (.iload_n 1, 1) := by decide +kernel
theorem dX7_now_1 : decode cX7_now 1 = .ok (.tableswitch 79 0 3 #[31, 39, 50, 61], 31) := by decide +kernel
theorem dX7_now_32 : decode cX7_now 32 = .ok (.aload_n 0, 1) := by decide +kernel
theorem dX7_now_33 : decode cX7_now 33 = .ok (.getfield 10, 3) := by decide +kernel
theorem dX7_now_36 : decode cX7_now 36 = .ok (.getfield 155, 3) := by decide +kernel
theorem dX7_now_39 : decode cX7_now 39 = .ok (.ireturn, 1) := by decide +kernel
theorem dX7_now_40 : decode cX7_now 40 = .ok (.aload_n 0, 1) := by decide +kernel
theorem dX7_now_41 : decode cX7_now 41 = .ok (.getfield 10, 3) := by decide +kernel
theorem dX7_now_44 : decode cX7_now 44 = .ok (.getfield 66, 3) := by decide +kernel
theorem dX7_now_47 : decode cX7_now 47 = .ok (.getfield 143, 3) := by decide +kernel
theorem dX7_now_50 : decode cX7_now 50 = .ok (.ireturn, 1) := by decide +kernel
theorem dX7_now_51 : decode cX7_now 51 = .ok (.aload_n 0, 1) := by decide +kernel
theorem dX7_now_52 : decode cX7_now 52 = .ok (.getfield 10, 3) := by decide +kernel
theorem dX7_now_55 : decode cX7_now 55 = .ok (.getfield 66, 3) := by decide +kernel
theorem dX7_now_58 : decode cX7_now 58 = .ok (.getfield 152, 3) := by decide +kernel
theorem dX7_now_61 : decode cX7_now 61 = .ok (.ireturn, 1) := by decide +kernel
theorem dX7_now_62 : decode cX7_now 62 = .ok (.aload_n 0, 1) := by decide +kernel
theorem dX7_now_63 : decode cX7_now 63 = .ok (.getfield 10, 3) := by decide +kernel
theorem dX7_now_66 : decode cX7_now 66 = .ok (.aload_n 0, 1) := by decide +kernel
theorem dX7_now_67 : decode cX7_now 67 = .ok (.getfield 10, 3) := by decide +kernel
theorem dX7_now_70 : decode cX7_now 70 = .ok (.getfield 66, 3) := by decide +kernel
theorem dX7_now_73 : decode cX7_now 73 = .ok (.getfield 152, 3) := by decide +kernel
theorem dX7_now_76 : decode cX7_now 76 = .ok (.invokevirtual 158, 3) := by decide +kernel
theorem dX7_now_79 : decode cX7_now 79 = .ok (.ireturn, 1) := by decide +kernel
theorem dX7_now_80 : decode cX7_now 80 = .ok (.aload_n 0, 1) := by decide +kernel
theorem dX7_now_81 : decode cX7_now 81 = .ok (.bipush (-100), 2) := by decide +kernel
theorem dX7_now_83 : decode cX7_now 83 = .ok (.invokevirtual 62, 3) := by decide +kernel
theorem dX7_now_86 : decode cX7_now 86 = .ok (.ireturn, 1) := by decide +kernel
theorem dX7_of_0 : decode cX7_of 0 = .ok (.iload_n 1, 1) := by decide +kernel
theorem dX7_of_1 : decode cX7_of 1 = .ok (.invokestatic 161, 3) := by decide +kernel
theorem dX7_of_4 : decode cX7_of 4 = .ok (.ifCond .eq 24, 3) := by decide +kernel
theorem dX7_of_7 : decode cX7_of 7 = .ok (.iload_n 2, 1) := by decide +kernel
theorem dX7_of_8 : decode cX7_of 8 = .ok (.iconst 0, 1) := by decide +kernel
theorem dX7_of_9 : decode cX7_of 9 = .ok (.aload_n 0, 1) := by decide +kernel
theorem dX7_of_10 : decode cX7_of 10 = .ok (.getfield 10, 3) := by decide +kernel
theorem dX7_of_13 : decode cX7_of 13 = .ok (.getfield 66, 3) := by decide +kernel
theorem dX7_of_16 : decode cX7_of 16 = .ok (.iload_n 1, 1) := by decide +kernel
theorem dX7_of_17 : decode cX7_of 17 = .ok (.invokevirtual 127, 3) := by decide +kernel
theorem dX7_of_20 : decode cX7_of 20 = .ok (.iconst 1, 1) := by decide +kernel
theorem dX7_of_21 : decode cX7_of 21 = .ok (.isub, 1) := by decide +kernel
theorem dX7_of_22 : decode cX7_of 22 = .ok (.invokestatic 77, 3) := by decide +kernel
theorem dX7_of_25 : decode cX7_of 25 = .ok (.ifCond .ne 10, 3) := by decide +kernel
theorem dX7_of_28 : decode cX7_of 28 = .ok (.aload_n 0, 1) := by decide +kernel
theorem dX7_of_29 : decode cX7_of 29 = .ok (.bipush (-100), 2) := by decide +kernel
theorem dX7_of_31 : decode cX7_of 31 = .ok (.invokevirtual 62, 3) := by decide +kernel
theorem dX7_of_34 : decode cX7_of 34 = .ok (.ireturn, 1) := by decide +kernel
theorem dX7_of_35 : decode cX7_of 35 = .ok (.iload_n 3, 1) := by decide +kernel
theorem dX7_of_36 : decode cX7_of 36 = .ok (.tableswitch 67 0 2 #[28, 41, 54], 28) := by decide +kernel
theorem dX7_of_64 : decode cX7_of 64 = .ok (.aload_n 0, 1) := by decide +kernel
theorem dX7_of_65 : decode cX7_of 65 = .ok (.getfield 10, 3) := by decide +kernel
theorem dX7_of_68 : decode cX7_of 68 = .ok (.getfield 66, 3) := by decide +kernel
theorem dX7_of_71 : decode cX7_of 71 = .ok (.iload_n 1, 1) := by decide +kernel
theorem dX7_of_72 : decode cX7_of 72 = .ok (.iload_n 2, 1) := by decide +kernel
theorem dX7_of_73 : decode cX7_of 73 = .ok (.invokevirtual 164, 3) := by decide +kernel
theorem dX7_of_76 : decode cX7_of 76 = .ok (.ireturn, 1) := by decide +kernel
theorem dX7_of_77 : decode cX7_of 77 = .ok (.aload_n 0, 1) := by decide +kernel
theorem dX7_of_78 : decode cX7_of 78 = .ok (.getfield 10, 3) := by decide +kernel
theorem dX7_of_81 : decode cX7_of 81 = .ok (.getfield 66, 3) := by decide +kernel
theorem dX7_of_84 : decode cX7_of 84 = .ok (.iload_n 1, 1) := by decide +kernel
theorem dX7_of_85 : decode cX7_of 85 = .ok (.iload_n 2, 1) := by decide +kernel
theorem dX7_of_86 : decode cX7_of 86 = .ok (.invokevirtual 168, 3) := by decide +kernel
theorem dX7_of_89 : decode cX7_of 89 = .ok (.ireturn, 1) := by decide +kernel
theorem dX7_of_90 : decode cX7_of 90 = .ok (.aload_n 0, 1) := by decide +kernel
theorem dX7_of_91 : decode cX7_of 91 = .ok (.getfield 10, 3) := by decide +kernel
theorem dX7_of_94 : decode cX7_of 94 = .ok (.getfield 66, 3) := by decide +kernel
theorem dX7_of_97 : decode cX7_of 97 = .ok (.iload_n 1, 1) := by decide +kernel
theorem dX7_of_98 : decode cX7_of 98 = .ok (.iload_n 2, 1) := by decide +kernel
theorem dX7_of_99 : decode cX7_of 99 = .ok (.invokevirtual 171, 3) := by decide +kernel
theorem dX7_of_102 : decode cX7_of 102 = .ok (.ireturn, 1) := by decide +kernel
theorem dX7_of_103 : decode cX7_of 103 = .ok (.aload_n 0, 1) := by decide +kernel
theorem dX7_of_104 : decode cX7_of 104 = .ok (.bipush (-100), 2) := by decide +kernel
theorem dX7_of_106 : decode cX7_of 106 = .ok (.invokevirtual 62, 3) := by decide +kernel
theorem dX7_of_109 : decode cX7_of 109 = .ok (.ireturn, 1) := by decide +kernel
theorem dX7_plot_0 : decode cX7_plot 0 = .ok (.iload_n 1, 1) := by decide +kernel
theorem dX7_plot_1 : decode cX7_plot 1 = .ok (.invokestatic 161, 3) := by decide +kernel
theorem dX7_plot_4 : decode cX7_plot 4 = .ok (.ifCond .ne 10, 3) := by decide +kernel
theorem dX7_plot_7 : decode cX7_plot 7 = .ok (.aload_n 0, 1) := by decide +kernel
theorem dX7_plot_8 : decode cX7_plot 8 = .ok (.bipush (-100), 2) := by decide +kernel
theorem dX7_plot_10 : decode cX7_plot 10 = .ok (.invokevirtual 62, 3) := by decide +kernel
theorem dX7_plot_13 : decode cX7_plot 13 = .ok (.ireturn, 1) := by decide +kernel
theorem dX7_plot_14 : decode cX7_plot 14 = .ok (.iload_n 2, 1) := by decide +kernel
theorem dX7_plot_15 : decode cX7_plot 15 = .ok (.tableswitch 61 0 2 #[25, 37, 49], 25) := by decide +kernel
theorem dX7_plot_40 : decode cX7_plot 40 = .ok (.aload_n 0, 1) := by decide +kernel
theorem dX7_plot_41 : decode cX7_plot 41 = .ok (.getfield 10, 3) := by decide +kernel
theorem dX7_plot_44 : decode cX7_plot 44 = .ok (.getfield 66, 3) := by decide +kernel
theorem dX7_plot_47 : decode cX7_plot 47 = .ok (.iload_n 1, 1) := by decide +kernel
theorem dX7_plot_48 : decode cX7_plot 48 = .ok (.invokevirtual 127, 3) := by decide +kernel
theorem dX7_plot_51 : decode cX7_plot 51 = .ok (.ireturn, 1) := by decide +kernel
theorem dX7_plot_52 : decode cX7_plot 52 = .ok (.aload_n 0, 1) := by decide +kernel
theorem dX7_plot_53 : decode cX7_plot 53 = .ok (.getfield 10, 3) := by decide +kernel
theorem dX7_plot_56 : decode cX7_plot 56 = .ok (.getfield 66, 3) := by decide +kernel
theorem dX7_plot_59 : decode cX7_plot 59 = .ok (.iload_n 1, 1) := by decide +kernel
theorem dX7_plot_60 : decode cX7_plot 60 = .ok (.invokevirtual 174, 3) := by decide +kernel
theorem dX7_plot_63 : decode cX7_plot 63 = .ok (.ireturn, 1) := by decide +kernel
theorem dX7_plot_64 : decode cX7_plot 64 = .ok (.aload_n 0, 1) := by decide +kernel
theorem dX7_plot_65 : decode cX7_plot 65 = .ok (.getfield 10, 3) := by decide +kernel
theorem dX7_plot_68 : decode cX7_plot 68 = .ok (.getfield 66, 3) := by decide +kernel
theorem dX7_plot_71 : decode cX7_plot 71 = .ok (.iload_n 1, 1) := by decide +kernel
theorem dX7_plot_72 : decode cX7_plot 72 = .ok (.invokevirtual 177, 3) := by decide +kernel
theorem dX7_plot_75 : decode cX7_plot 75 = .ok (.ireturn, 1) := by decide +kernel
theorem dX7_plot_76 : decode cX7_plot 76 = .ok (.aload_n 0, 1) := by decide +kernel
theorem dX7_plot_77 : decode cX7_plot 77 = .ok (.bipush (-100), 2) := by decide +kernel
theorem dX7_plot_79 : decode cX7_plot 79 = .ok (.invokevirtual 62, 3) := by decide +kernel
theorem dX7_plot_82 : decode cX7_plot 82 = .ok (.ireturn, 1) := by decide +kernel
noncomputable def sp_X7_town (p1 : Int32) (a0_refusedAsBad : Int32) (a0_town_kind : Int32) (a0_town_pasts : Int32) (a0_town_members : Int32) (a0_town_noteCount : Int32) (a0_town_markCount : Int32) (a0_town_site_off : Int32) (a0_town_site_year : Int32) (fa0_town_site_heights : Nat → Int32) (fa0_town_pulls : Nat → Int32) : Option (Int32 × Int32 × Int32 × Int32 × Int32 × Int32 × Int32 × Int32 × (Nat → Int32) × (Nat → Int32) × Int32) := if (sp_X7_isLevelKind p1) = 0 then (lt_ (sp_X7_bad (-2 : Int32) a0_refusedAsBad) fun z4 => some (z4.1, a0_town_kind, a0_town_pasts, a0_town_members, a0_town_noteCount, a0_town_markCount, a0_town_site_off, a0_town_site_year, fa0_town_site_heights, fa0_town_pulls, z4.2)) else (Option.bind (sp_X3_storeys fa0_town_site_heights) fun z2 => Option.bind (sp_X6_begin p1 fa0_town_pulls fa0_town_site_heights) fun z3 => some (z2, z3.1, z3.2.1, z3.2.2.1, z3.2.2.2.1, z3.2.2.2.2.1, z3.2.2.2.2.2.2.1, z3.2.2.2.2.2.2.2.1, z3.2.2.2.2.2.2.2.2, z3.2.2.2.2.2.1, a0_refusedAsBad))
set_option maxHeartbeats 4000000 in
set_option maxRecDepth 100000 in
theorem c_X7_town (l : Launch) (E : wE) (a0 a0_town a0_draft a0_images a0_text a0_planner a0_trial a0_spread a0_spreadBehind a0_tally a0_town_pulls a0_town_site a0_town_past a0_town_views a0_town_notes a0_town_marks a0_town_site_heights a0_town_site_storeyKinds a0_town_site_storeyTilts : Nat) (p1 : Int32) (a0_imagesKept : Int32) (a0_above : Int64) (a0_below : Int64) (a0_refusedAsBad : Int32) (a0_refusedAsNo : Int32) (a0_refusedAsFull : Int32) (a0_town_kind : Int32) (a0_town_pasts : Int32) (a0_town_members : Int32) (a0_town_noteCount : Int32) (a0_town_markCount : Int32) (a0_town_site_off : Int32) (a0_town_site_year : Int32) (fa0_town_site_heights : Nat → Int32) (fa0_town_pulls : Nat → Int32) (z_0 : Int32) (z_1 : Int32) (z_2 : Int32) (z_3 : Int32) (z_4 : Int32) (z_5 : Int32) (z_6 : Int32) (z_7 : Int32) (z_8 : (Nat → Int32)) (z_9 : (Nat → Int32)) (z_10 : Int32) (hsp : sp_X7_town p1 a0_refusedAsBad a0_town_kind a0_town_pasts a0_town_members a0_town_noteCount a0_town_markCount a0_town_site_off a0_town_site_year fa0_town_site_heights fa0_town_pulls = some (z_0, z_1, z_2, z_3, z_4, z_5, z_6, z_7, z_8, z_9, z_10)) : MW l yX7_town cX7_town 3 (some .int) 3 E [.ref a0, .int p1] [(a0, .inr (4, [.ref a0_town, .ref a0_draft, .ref a0_images, .int a0_imagesKept, .ref a0_text, .ref a0_planner, .ref a0_trial, .ref a0_spread, .ref a0_spreadBehind, .ref a0_tally, .long a0_above, .long a0_below, .int a0_refusedAsBad, .int a0_refusedAsNo, .int a0_refusedAsFull])), (a0_town, .inr (3, [.int a0_town_kind, .ref a0_town_pulls, .ref a0_town_site, .ref a0_town_past, .int a0_town_pasts, .ref a0_town_views, .int a0_town_members, .ref a0_town_notes, .int a0_town_noteCount, .ref a0_town_marks, .int a0_town_markCount])), (a0_town_site, .inr (1, [.int a0_town_site_off, .int a0_town_site_year, .ref a0_town_site_heights, .ref a0_town_site_storeyKinds, .ref a0_town_site_storeyTilts])), (a0_town_site_heights, aI E 6 fa0_town_site_heights), (a0_town_pulls, aI E 6 fa0_town_pulls)] (some (.int z_0)) [(a0, .inr (4, [.ref a0_town, .ref a0_draft, .ref a0_images, .int a0_imagesKept, .ref a0_text, .ref a0_planner, .ref a0_trial, .ref a0_spread, .ref a0_spreadBehind, .ref a0_tally, .long a0_above, .long a0_below, .int z_10, .int a0_refusedAsNo, .int a0_refusedAsFull])), (a0_town, .inr (3, [.int z_1, .ref a0_town_pulls, .ref a0_town_site, .ref a0_town_past, .int z_2, .ref a0_town_views, .int z_3, .ref a0_town_notes, .int z_4, .ref a0_town_marks, .int z_5])), (a0_town_site, .inr (1, [.int z_6, .int z_7, .ref a0_town_site_heights, .ref a0_town_site_storeyKinds, .ref a0_town_site_storeyTilts])), (a0_town_site_heights, aI E 6 z_8), (a0_town_pulls, aI E 6 z_9)] := by
  refine MW.of (by decide +kernel) (Nat.le_of_ble_eq_true rfl) ?_
  intro p e s m below meth c ls A hX hK hP hD hS hA hl
  have hX : CX p s m [.ref a0, .int p1].toArray meth c cX7_town 3 (some .int) RX7 := hX
  have hx := hX.1; have hb := hX.2.1; have hts := hX.2.2.2.2.1; have hown := hX.2.2.2.2.2.1
  have hl : lv_has ls 3 [(0, .ref a0), (1, .int p1)] := hl
  have hP : wP E [(a0, .inr (4, [.ref a0_town, .ref a0_draft, .ref a0_images, .int a0_imagesKept, .ref a0_text, .ref a0_planner, .ref a0_trial, .ref a0_spread, .ref a0_spreadBehind, .ref a0_tally, .long a0_above, .long a0_below, .int a0_refusedAsBad, .int a0_refusedAsNo, .int a0_refusedAsFull])), (a0_town, .inr (3, [.int a0_town_kind, .ref a0_town_pulls, .ref a0_town_site, .ref a0_town_past, .int a0_town_pasts, .ref a0_town_views, .int a0_town_members, .ref a0_town_notes, .int a0_town_noteCount, .ref a0_town_marks, .int a0_town_markCount])), (a0_town_site, .inr (1, [.int a0_town_site_off, .int a0_town_site_year, .ref a0_town_site_heights, .ref a0_town_site_storeyKinds, .ref a0_town_site_storeyTilts])), (a0_town_site_heights, aI E 6 fa0_town_site_heights), (a0_town_pulls, aI E 6 fa0_town_pulls)] s.heap := hP
  have hsp : (if (sp_X7_isLevelKind p1) = 0 then (lt_ (sp_X7_bad (-2 : Int32) a0_refusedAsBad) fun z4 => some (z4.1, a0_town_kind, a0_town_pasts, a0_town_members, a0_town_noteCount, a0_town_markCount, a0_town_site_off, a0_town_site_year, fa0_town_site_heights, fa0_town_pulls, z4.2)) else (Option.bind (sp_X3_storeys fa0_town_site_heights) fun z2 => Option.bind (sp_X6_begin p1 fa0_town_pulls fa0_town_site_heights) fun z3 => some (z2, z3.1, z3.2.1, z3.2.2.1, z3.2.2.2.1, z3.2.2.2.2.1, z3.2.2.2.2.2.2.1, z3.2.2.2.2.2.2.2.1, z3.2.2.2.2.2.2.2.2, z3.2.2.2.2.2.1, a0_refusedAsBad))) = some (z_0, z_1, z_2, z_3, z_4, z_5, z_6, z_7, z_8, z_9, z_10) := hsp
  refine lv_iload_n hx hb dX7_town_0 rfl (lv_at hl 1 rfl) (W.pc 1 rfl ?_)
  refine kSR (st1 := [.int (sp_X7_isLevelKind p1)]) hX (c_X7_isLevelKind l E p1 _ rfl) B_X7_isLevelKind w_1_228 hK (hP.pick [] rfl) rfl hl.1 rfl (Nat.le_of_ble_eq_true rfl) ⟨Nat.le_of_ble_eq_true rfl, Nat.le_of_ble_eq_true rfl⟩ dX7_town_1 rfl (W.pc 4 rfl ?_)
  refine lv_if_ne (tgt := 14) hx hb dX7_town_4 (by decide) (fun c1 => ?_) (fun c1 => W.pc 7 rfl ?_)
  · have hsp := iq hsp c1
    refine lv_aload_n hx hb dX7_town_14 rfl (lv_at hl 0 rfl) (W.pc 15 rfl ?_)
    refine va_get (D := E.1) (ci := 4) (v := .ref a0_town) (C := RX7) (T := TX7) (N := 15) hx hb hts inT_X7 hown hK hP 0 rfl rfl 0 (by decide) (hts _ w_1_178) (fun _ h9 => h9) rfl dX7_town_15 (W.pc 18 rfl ?_)
    refine va_get (D := E.1) (ci := 3) (v := .ref a0_town_site) (C := RX6) (T := TX6) (N := 11) hx hb hts inT_X6 hown hK hP 1 rfl rfl 2 (by decide) (hts _ w_1_68) (fun _ h9 => h9) rfl dX7_town_18 (W.pc 21 rfl ?_)
    obtain ⟨z2, hr_z2, hsp⟩ := bd_s hsp
    refine kVR (st1 := [.int z2]) hX (c_X3_storeys l E a0_town_site a0_town_site_heights a0_town_site_storeyKinds a0_town_site_storeyTilts a0_town_site_off a0_town_site_year fa0_town_site_heights z2 hr_z2) B_X3_storeys w_1_238 hK (hP.pick [2, 3] rfl) (q0 := 0) (ci := 1) rfl rfl rfl rfl hl.1 rfl (Nat.le_of_ble_eq_true rfl) ⟨Nat.le_of_ble_eq_true rfl, Nat.le_of_ble_eq_true rfl⟩ dX7_town_21 rfl (W.pc 24 rfl ?_)
    refine lv_istore_n (lv' := [(2, .int z2), (0, .ref a0), (1, .int p1)]) hx hb dX7_town_24 rfl hl (by decide) rfl (fun ls hl => W.pc 25 rfl ?_)
    refine lv_aload_n hx hb dX7_town_25 rfl (lv_at hl 1 rfl) (W.pc 26 rfl ?_)
    refine va_get (D := E.1) (ci := 4) (v := .ref a0_town) (C := RX7) (T := TX7) (N := 15) hx hb hts inT_X7 hown hK hP 0 rfl rfl 0 (by decide) (hts _ w_1_178) (fun _ h9 => h9) rfl dX7_town_26 (W.pc 29 rfl ?_)
    refine lv_iload_n hx hb dX7_town_29 rfl (lv_at hl 2 rfl) (W.pc 30 rfl ?_)
    obtain ⟨z3, hr_z3, hsp⟩ := bd_s hsp
    refine kVW (st1 := []) (ws' := [(a0, .inr (4, [.ref a0_town, .ref a0_draft, .ref a0_images, .int a0_imagesKept, .ref a0_text, .ref a0_planner, .ref a0_trial, .ref a0_spread, .ref a0_spreadBehind, .ref a0_tally, .long a0_above, .long a0_below, .int a0_refusedAsBad, .int a0_refusedAsNo, .int a0_refusedAsFull])), (a0_town, .inr (3, [.int z3.1, .ref a0_town_pulls, .ref a0_town_site, .ref a0_town_past, .int z3.2.1, .ref a0_town_views, .int z3.2.2.1, .ref a0_town_notes, .int z3.2.2.2.1, .ref a0_town_marks, .int z3.2.2.2.2.1])), (a0_town_site, .inr (1, [.int z3.2.2.2.2.2.2.1, .int z3.2.2.2.2.2.2.2.1, .ref a0_town_site_heights, .ref a0_town_site_storeyKinds, .ref a0_town_site_storeyTilts])), (a0_town_site_heights, aI E 6 z3.2.2.2.2.2.2.2.2), (a0_town_pulls, aI E 6 z3.2.2.2.2.2.1)]) [1, 4, 2, 3] hX (c_X6_begin l E a0_town a0_town_pulls a0_town_site a0_town_past a0_town_views a0_town_notes a0_town_marks a0_town_site_heights a0_town_site_storeyKinds a0_town_site_storeyTilts p1 a0_town_kind a0_town_pasts a0_town_members a0_town_noteCount a0_town_markCount fa0_town_pulls a0_town_site_off a0_town_site_year fa0_town_site_heights z3.1 z3.2.1 z3.2.2.1 z3.2.2.2.1 z3.2.2.2.2.1 z3.2.2.2.2.2.1 z3.2.2.2.2.2.2.1 z3.2.2.2.2.2.2.2.1 z3.2.2.2.2.2.2.2.2 hr_z3) B_X6_begin w_2_9 hK hP hD hS hA (by decide) rfl rfl rfl (q0 := 1) (ci := 3) rfl rfl rfl rfl hl.1 rfl (Nat.le_of_ble_eq_true rfl) ⟨Nat.le_of_ble_eq_true rfl, Nat.le_of_ble_eq_true rfl⟩ dX7_town_30 rfl (fun H locs hP hD hS => W.pc 33 rfl ?_)
    refine lv_iload_n hx hb dX7_town_33 rfl (lv_at hl 0 rfl) (W.pc 34 rfl ?_)
    cases hsp
    exact rWi hX hP hS rfl rfl dX7_town_34
  · have hsp := ip hsp c1
    refine lv_aload_n hx hb dX7_town_7 rfl (lv_at hl 0 rfl) (W.pc 8 rfl ?_)
    refine lv_bipush (v := (-2 : Int32)) hx hb dX7_town_8 (by decide) (W.pc 10 rfl ?_)
    obtain ⟨z4, hr_z4, hsp⟩ := ltb_s hsp
    refine kVW (st1 := [.int z4.1]) (ws' := [(a0, .inr (4, [.ref a0_town, .ref a0_draft, .ref a0_images, .int a0_imagesKept, .ref a0_text, .ref a0_planner, .ref a0_trial, .ref a0_spread, .ref a0_spreadBehind, .ref a0_tally, .long a0_above, .long a0_below, .int z4.2, .int a0_refusedAsNo, .int a0_refusedAsFull])), (a0_town, .inr (3, [.int a0_town_kind, .ref a0_town_pulls, .ref a0_town_site, .ref a0_town_past, .int a0_town_pasts, .ref a0_town_views, .int a0_town_members, .ref a0_town_notes, .int a0_town_noteCount, .ref a0_town_marks, .int a0_town_markCount])), (a0_town_site, .inr (1, [.int a0_town_site_off, .int a0_town_site_year, .ref a0_town_site_heights, .ref a0_town_site_storeyKinds, .ref a0_town_site_storeyTilts])), (a0_town_site_heights, aI E 6 fa0_town_site_heights), (a0_town_pulls, aI E 6 fa0_town_pulls)]) [0] hX (c_X7_bad l E a0 a0_town a0_draft a0_images a0_text a0_planner a0_trial a0_spread a0_spreadBehind a0_tally (-2 : Int32) a0_imagesKept a0_above a0_below a0_refusedAsBad a0_refusedAsNo a0_refusedAsFull z4.1 z4.2 hr_z4) B_X7_bad w_1_234 hK hP hD hS hA (by decide) rfl rfl rfl (q0 := 0) (ci := 4) rfl rfl rfl rfl hl.1 rfl (Nat.le_of_ble_eq_true rfl) ⟨Nat.le_of_ble_eq_true rfl, Nat.le_of_ble_eq_true rfl⟩ dX7_town_10 rfl (fun H locs hP hD hS => W.pc 13 rfl ?_)
    cases hsp
    exact rWi hX hP hS rfl rfl dX7_town_13
def sp_X7_pull (p1 : Int32) (p2 : Int32) (a0_refusedAsBad : Int32) (a0_town_pasts : Int32) (fa0_town_pulls : Nat → Int32) : Int32 × Int32 × Int32 × (Nat → Int32) := if (sp_X2_within p1 (0 : Int32) (5 : Int32)) = 0 then (lt_ (sp_X7_bad (-100 : Int32) a0_refusedAsBad) fun z2 => (z2.1, z2.2, a0_town_pasts, fa0_town_pulls)) else (if (sp_X7_isTilt p2) = 0 then (lt_ (sp_X7_bad (-100 : Int32) a0_refusedAsBad) fun z5 => (z5.1, z5.2, a0_town_pasts, fa0_town_pulls)) else (lt_ (sp_X2_put 6 p1 p2 fa0_town_pulls) fun z4 => ((sp_X2_at 6 p1 fa0_town_pulls), a0_refusedAsBad, (0 : Int32), z4)))
set_option maxHeartbeats 4000000 in
set_option maxRecDepth 100000 in
theorem c_X7_pull (l : Launch) (E : wE) (a0 a0_town a0_draft a0_images a0_text a0_planner a0_trial a0_spread a0_spreadBehind a0_tally a0_town_pulls a0_town_site a0_town_past a0_town_views a0_town_notes a0_town_marks : Nat) (p1 : Int32) (p2 : Int32) (a0_imagesKept : Int32) (a0_above : Int64) (a0_below : Int64) (a0_refusedAsBad : Int32) (a0_refusedAsNo : Int32) (a0_refusedAsFull : Int32) (a0_town_kind : Int32) (a0_town_pasts : Int32) (a0_town_members : Int32) (a0_town_noteCount : Int32) (a0_town_markCount : Int32) (fa0_town_pulls : Nat → Int32) (z_0 : Int32) (z_1 : Int32) (z_2 : Int32) (z_3 : (Nat → Int32)) (hsp : sp_X7_pull p1 p2 a0_refusedAsBad a0_town_pasts fa0_town_pulls = (z_0, z_1, z_2, z_3)) : MW l yX7_pull cX7_pull 4 (some .int) 2 E [.ref a0, .int p1, .int p2] [(a0, .inr (4, [.ref a0_town, .ref a0_draft, .ref a0_images, .int a0_imagesKept, .ref a0_text, .ref a0_planner, .ref a0_trial, .ref a0_spread, .ref a0_spreadBehind, .ref a0_tally, .long a0_above, .long a0_below, .int a0_refusedAsBad, .int a0_refusedAsNo, .int a0_refusedAsFull])), (a0_town, .inr (3, [.int a0_town_kind, .ref a0_town_pulls, .ref a0_town_site, .ref a0_town_past, .int a0_town_pasts, .ref a0_town_views, .int a0_town_members, .ref a0_town_notes, .int a0_town_noteCount, .ref a0_town_marks, .int a0_town_markCount])), (a0_town_pulls, aI E 6 fa0_town_pulls)] (some (.int z_0)) [(a0, .inr (4, [.ref a0_town, .ref a0_draft, .ref a0_images, .int a0_imagesKept, .ref a0_text, .ref a0_planner, .ref a0_trial, .ref a0_spread, .ref a0_spreadBehind, .ref a0_tally, .long a0_above, .long a0_below, .int z_1, .int a0_refusedAsNo, .int a0_refusedAsFull])), (a0_town, .inr (3, [.int a0_town_kind, .ref a0_town_pulls, .ref a0_town_site, .ref a0_town_past, .int z_2, .ref a0_town_views, .int a0_town_members, .ref a0_town_notes, .int a0_town_noteCount, .ref a0_town_marks, .int a0_town_markCount])), (a0_town_pulls, aI E 6 z_3)] := by
  refine MW.of (by decide +kernel) (Nat.le_of_ble_eq_true rfl) ?_
  intro p e s m below meth c ls A hX hK hP hD hS hA hl
  have hX : CX p s m [.ref a0, .int p1, .int p2].toArray meth c cX7_pull 4 (some .int) RX7 := hX
  have hx := hX.1; have hb := hX.2.1; have hts := hX.2.2.2.2.1; have hown := hX.2.2.2.2.2.1
  have hl : lv_has ls 4 [(0, .ref a0), (1, .int p1), (2, .int p2)] := hl
  have hP : wP E [(a0, .inr (4, [.ref a0_town, .ref a0_draft, .ref a0_images, .int a0_imagesKept, .ref a0_text, .ref a0_planner, .ref a0_trial, .ref a0_spread, .ref a0_spreadBehind, .ref a0_tally, .long a0_above, .long a0_below, .int a0_refusedAsBad, .int a0_refusedAsNo, .int a0_refusedAsFull])), (a0_town, .inr (3, [.int a0_town_kind, .ref a0_town_pulls, .ref a0_town_site, .ref a0_town_past, .int a0_town_pasts, .ref a0_town_views, .int a0_town_members, .ref a0_town_notes, .int a0_town_noteCount, .ref a0_town_marks, .int a0_town_markCount])), (a0_town_pulls, aI E 6 fa0_town_pulls)] s.heap := hP
  have hsp : (if (sp_X2_within p1 (0 : Int32) (5 : Int32)) = 0 then (lt_ (sp_X7_bad (-100 : Int32) a0_refusedAsBad) fun z2 => (z2.1, z2.2, a0_town_pasts, fa0_town_pulls)) else (if (sp_X7_isTilt p2) = 0 then (lt_ (sp_X7_bad (-100 : Int32) a0_refusedAsBad) fun z5 => (z5.1, z5.2, a0_town_pasts, fa0_town_pulls)) else (lt_ (sp_X2_put 6 p1 p2 fa0_town_pulls) fun z4 => ((sp_X2_at 6 p1 fa0_town_pulls), a0_refusedAsBad, (0 : Int32), z4)))) = (z_0, z_1, z_2, z_3) := hsp
  refine lv_iload_n hx hb dX7_pull_0 rfl (lv_at hl 1 rfl) (W.pc 1 rfl ?_)
  refine lv_iconst (v := (0 : Int32)) hx hb dX7_pull_1 (by decide) (W.pc 2 rfl ?_)
  refine lv_iconst (v := (5 : Int32)) hx hb dX7_pull_2 (by decide) (W.pc 3 rfl ?_)
  refine kSR (st1 := [.int (sp_X2_within p1 (0 : Int32) (5 : Int32))]) hX (c_X2_within l E p1 (0 : Int32) (5 : Int32) _ rfl) B_X2_within w_1_231 hK (hP.pick [] rfl) rfl hl.1 rfl (Nat.le_of_ble_eq_true rfl) ⟨Nat.le_of_ble_eq_true rfl, Nat.le_of_ble_eq_true rfl⟩ dX7_pull_3 rfl (W.pc 6 rfl ?_)
  refine lv_if_eq (tgt := 16) hx hb dX7_pull_6 (by decide) (fun c1 => ?_) (fun c1 => W.pc 9 rfl ?_)
  · have hsp := ip hsp c1
    refine lv_aload_n hx hb dX7_pull_16 rfl (lv_at hl 0 rfl) (W.pc 17 rfl ?_)
    refine lv_bipush (v := (-100 : Int32)) hx hb dX7_pull_17 (by decide) (W.pc 19 rfl ?_)
    obtain ⟨z2, hr_z2, hsp⟩ := ltb_s hsp
    refine kVW (st1 := [.int z2.1]) (ws' := [(a0, .inr (4, [.ref a0_town, .ref a0_draft, .ref a0_images, .int a0_imagesKept, .ref a0_text, .ref a0_planner, .ref a0_trial, .ref a0_spread, .ref a0_spreadBehind, .ref a0_tally, .long a0_above, .long a0_below, .int z2.2, .int a0_refusedAsNo, .int a0_refusedAsFull])), (a0_town, .inr (3, [.int a0_town_kind, .ref a0_town_pulls, .ref a0_town_site, .ref a0_town_past, .int a0_town_pasts, .ref a0_town_views, .int a0_town_members, .ref a0_town_notes, .int a0_town_noteCount, .ref a0_town_marks, .int a0_town_markCount])), (a0_town_pulls, aI E 6 fa0_town_pulls)]) [0] hX (c_X7_bad l E a0 a0_town a0_draft a0_images a0_text a0_planner a0_trial a0_spread a0_spreadBehind a0_tally (-100 : Int32) a0_imagesKept a0_above a0_below a0_refusedAsBad a0_refusedAsNo a0_refusedAsFull z2.1 z2.2 hr_z2) B_X7_bad w_1_234 hK hP hD hS hA (by decide) rfl rfl rfl (q0 := 0) (ci := 4) rfl rfl rfl rfl hl.1 rfl (Nat.le_of_ble_eq_true rfl) ⟨Nat.le_of_ble_eq_true rfl, Nat.le_of_ble_eq_true rfl⟩ dX7_pull_19 rfl (fun H locs hP hD hS => W.pc 22 rfl ?_)
    cases hsp
    exact rWi hX hP hS rfl rfl dX7_pull_22
  · have hsp := iq hsp c1
    refine lv_iload_n hx hb dX7_pull_9 rfl (lv_at hl 2 rfl) (W.pc 10 rfl ?_)
    refine kSR (st1 := [.int (sp_X7_isTilt p2)]) hX (c_X7_isTilt l E p2 _ rfl) B_X7_isTilt w_2_25 hK (hP.pick [] rfl) rfl hl.1 rfl (Nat.le_of_ble_eq_true rfl) ⟨Nat.le_of_ble_eq_true rfl, Nat.le_of_ble_eq_true rfl⟩ dX7_pull_10 rfl (W.pc 13 rfl ?_)
    refine lv_if_ne (tgt := 23) hx hb dX7_pull_13 (by decide) (fun c3 => ?_) (fun c3 => W.pc 16 rfl ?_)
    · have hsp := iq hsp c3
      refine lv_aload_n hx hb dX7_pull_23 rfl (lv_at hl 0 rfl) (W.pc 24 rfl ?_)
      refine va_get (D := E.1) (ci := 4) (v := .ref a0_town) (C := RX7) (T := TX7) (N := 15) hx hb hts inT_X7 hown hK hP 0 rfl rfl 0 (by decide) (hts _ w_1_178) (fun _ h9 => h9) rfl dX7_pull_24 (W.pc 27 rfl ?_)
      refine va_get (D := E.1) (ci := 3) (v := .ref a0_town_pulls) (C := RX6) (T := TX6) (N := 11) hx hb hts inT_X6 hown hK hP 1 rfl rfl 1 (by decide) (hts _ w_1_65) (fun _ h9 => h9) rfl dX7_pull_27 (W.pc 30 rfl ?_)
      refine lv_iload_n hx hb dX7_pull_30 rfl (lv_at hl 1 rfl) (W.pc 31 rfl ?_)
      refine kSR (st1 := [.int (sp_X2_at 6 p1 fa0_town_pulls)]) hX (c_X2_at l E a0_town_pulls 6 (by decide) p1 fa0_town_pulls _ rfl) B_X2_at w_2_28 hK (hP.pick [2] rfl) rfl hl.1 rfl (Nat.le_of_ble_eq_true rfl) ⟨Nat.le_of_ble_eq_true rfl, Nat.le_of_ble_eq_true rfl⟩ dX7_pull_31 rfl (W.pc 34 rfl ?_)
      refine lv_istore_n (lv' := [(3, .int (sp_X2_at 6 p1 fa0_town_pulls)), (0, .ref a0), (1, .int p1), (2, .int p2)]) hx hb dX7_pull_34 rfl hl (by decide) rfl (fun ls hl => W.pc 35 rfl ?_)
      refine lv_aload_n hx hb dX7_pull_35 rfl (lv_at hl 1 rfl) (W.pc 36 rfl ?_)
      refine va_get (D := E.1) (ci := 4) (v := .ref a0_town) (C := RX7) (T := TX7) (N := 15) hx hb hts inT_X7 hown hK hP 0 rfl rfl 0 (by decide) (hts _ w_1_178) (fun _ h9 => h9) rfl dX7_pull_36 (W.pc 39 rfl ?_)
      refine va_get (D := E.1) (ci := 3) (v := .ref a0_town_pulls) (C := RX6) (T := TX6) (N := 11) hx hb hts inT_X6 hown hK hP 1 rfl rfl 1 (by decide) (hts _ w_1_65) (fun _ h9 => h9) rfl dX7_pull_39 (W.pc 42 rfl ?_)
      refine lv_iload_n hx hb dX7_pull_42 rfl (lv_at hl 2 rfl) (W.pc 43 rfl ?_)
      refine lv_iload_n hx hb dX7_pull_43 rfl (lv_at hl 3 rfl) (W.pc 44 rfl ?_)
      obtain ⟨z4, hr_z4, hsp⟩ := ltb_s hsp
      refine kSW (st1 := []) (ws' := [(a0, .inr (4, [.ref a0_town, .ref a0_draft, .ref a0_images, .int a0_imagesKept, .ref a0_text, .ref a0_planner, .ref a0_trial, .ref a0_spread, .ref a0_spreadBehind, .ref a0_tally, .long a0_above, .long a0_below, .int a0_refusedAsBad, .int a0_refusedAsNo, .int a0_refusedAsFull])), (a0_town, .inr (3, [.int a0_town_kind, .ref a0_town_pulls, .ref a0_town_site, .ref a0_town_past, .int a0_town_pasts, .ref a0_town_views, .int a0_town_members, .ref a0_town_notes, .int a0_town_noteCount, .ref a0_town_marks, .int a0_town_markCount])), (a0_town_pulls, aI E 6 z4)]) [2] hX (c_X2_put l E a0_town_pulls 6 (by decide) p1 p2 fa0_town_pulls z4 hr_z4) B_X2_put w_2_29 hK hP hD hS hA (by decide) rfl rfl rfl rfl hl.1 rfl (Nat.le_of_ble_eq_true rfl) ⟨Nat.le_of_ble_eq_true rfl, Nat.le_of_ble_eq_true rfl⟩ dX7_pull_44 rfl (fun H locs hP hD hS => W.pc 47 rfl ?_)
      refine lv_aload_n hx hb dX7_pull_47 rfl (lv_at hl 1 rfl) (W.pc 48 rfl ?_)
      refine va_get (D := E.1) (ci := 4) (v := .ref a0_town) (C := RX7) (T := TX7) (N := 15) hx hb hts inT_X7 hown hK hP 0 rfl rfl 0 (by decide) (hts _ w_1_178) (fun _ h9 => h9) rfl dX7_pull_48 (W.pc 51 rfl ?_)
      refine lv_iconst (v := (0 : Int32)) hx hb dX7_pull_51 (by decide) (W.pc 52 rfl ?_)
      refine va_put (D := E.1) (ci := 3) (v := .int (0 : Int32)) (ty := .int) (C := RX6) (T := TX6) (N := 11) hx hb hts inT_X6 tyX6 tyX6_ok nmX6 hown hK hP hD hS 1 rfl rfl 4 (by decide) (hts _ w_1_73) (fun _ h9 => h9) rfl (by decide +kernel) rfl rfl (Nat.le_of_ble_eq_true rfl) dX7_pull_52 (fun H locs hP hD hS => W.pc 55 rfl ?_)
      have hP : wP E [(a0, .inr (4, [.ref a0_town, .ref a0_draft, .ref a0_images, .int a0_imagesKept, .ref a0_text, .ref a0_planner, .ref a0_trial, .ref a0_spread, .ref a0_spreadBehind, .ref a0_tally, .long a0_above, .long a0_below, .int a0_refusedAsBad, .int a0_refusedAsNo, .int a0_refusedAsFull])), (a0_town, .inr (3, [.int a0_town_kind, .ref a0_town_pulls, .ref a0_town_site, .ref a0_town_past, .int (0 : Int32), .ref a0_town_views, .int a0_town_members, .ref a0_town_notes, .int a0_town_noteCount, .ref a0_town_marks, .int a0_town_markCount])), (a0_town_pulls, aI E 6 z4)] _ := hP
      have hD : va_D A [(a0, .inr (4, [.ref a0_town, .ref a0_draft, .ref a0_images, .int a0_imagesKept, .ref a0_text, .ref a0_planner, .ref a0_trial, .ref a0_spread, .ref a0_spreadBehind, .ref a0_tally, .long a0_above, .long a0_below, .int a0_refusedAsBad, .int a0_refusedAsNo, .int a0_refusedAsFull])), (a0_town, .inr (3, [.int a0_town_kind, .ref a0_town_pulls, .ref a0_town_site, .ref a0_town_past, .int (0 : Int32), .ref a0_town_views, .int a0_town_members, .ref a0_town_notes, .int a0_town_noteCount, .ref a0_town_marks, .int a0_town_markCount])), (a0_town_pulls, aI E 6 z4)] := hD
      refine lv_iload_n hx hb dX7_pull_55 rfl (lv_at hl 0 rfl) (W.pc 56 rfl ?_)
      cases hsp
      exact rWi hX hP hS rfl rfl dX7_pull_56
    · have hsp := ip hsp c3
      refine lv_aload_n hx hb dX7_pull_16 rfl (lv_at hl 0 rfl) (W.pc 17 rfl ?_)
      refine lv_bipush (v := (-100 : Int32)) hx hb dX7_pull_17 (by decide) (W.pc 19 rfl ?_)
      obtain ⟨z5, hr_z5, hsp⟩ := ltb_s hsp
      refine kVW (st1 := [.int z5.1]) (ws' := [(a0, .inr (4, [.ref a0_town, .ref a0_draft, .ref a0_images, .int a0_imagesKept, .ref a0_text, .ref a0_planner, .ref a0_trial, .ref a0_spread, .ref a0_spreadBehind, .ref a0_tally, .long a0_above, .long a0_below, .int z5.2, .int a0_refusedAsNo, .int a0_refusedAsFull])), (a0_town, .inr (3, [.int a0_town_kind, .ref a0_town_pulls, .ref a0_town_site, .ref a0_town_past, .int a0_town_pasts, .ref a0_town_views, .int a0_town_members, .ref a0_town_notes, .int a0_town_noteCount, .ref a0_town_marks, .int a0_town_markCount])), (a0_town_pulls, aI E 6 fa0_town_pulls)]) [0] hX (c_X7_bad l E a0 a0_town a0_draft a0_images a0_text a0_planner a0_trial a0_spread a0_spreadBehind a0_tally (-100 : Int32) a0_imagesKept a0_above a0_below a0_refusedAsBad a0_refusedAsNo a0_refusedAsFull z5.1 z5.2 hr_z5) B_X7_bad w_1_234 hK hP hD hS hA (by decide) rfl rfl rfl (q0 := 0) (ci := 4) rfl rfl rfl rfl hl.1 rfl (Nat.le_of_ble_eq_true rfl) ⟨Nat.le_of_ble_eq_true rfl, Nat.le_of_ble_eq_true rfl⟩ dX7_pull_19 rfl (fun H locs hP hD hS => W.pc 22 rfl ?_)
      cases hsp
      exact rWi hX hP hS rfl rfl dX7_pull_22
def sp_X7_member (p1 : Int32) (a0_refusedAsBad : Int32) (a0_refusedAsFull : Int32) (a0_town_pasts : Int32) (a0_town_members : Int32) (fa0_town_views : Nat → Int32) : Int32 × Int32 × Int32 × (Nat → Int32) × Int32 × Int32 := if (sp_X7_isTilt p1) = 0 then (lt_ (sp_X7_bad (-2 : Int32) a0_refusedAsBad) fun z5 => (z5.1, a0_town_pasts, a0_town_members, fa0_town_views, a0_refusedAsFull, z5.2)) else (if a0_town_members < (5 : Int32) then (lt_ (sp_X2_put 5 a0_town_members p1 fa0_town_views) fun z3 => (a0_town_members, (0 : Int32), (a0_town_members + (1 : Int32)), z3, a0_refusedAsFull, a0_refusedAsBad)) else (lt_ (sp_X7_full a0_refusedAsFull) fun z4 => (z4.1, a0_town_pasts, a0_town_members, fa0_town_views, z4.2, a0_refusedAsBad)))
set_option maxHeartbeats 4000000 in
set_option maxRecDepth 100000 in
theorem c_X7_member (l : Launch) (E : wE) (a0 a0_town a0_draft a0_images a0_text a0_planner a0_trial a0_spread a0_spreadBehind a0_tally a0_town_pulls a0_town_site a0_town_past a0_town_views a0_town_notes a0_town_marks : Nat) (p1 : Int32) (a0_imagesKept : Int32) (a0_above : Int64) (a0_below : Int64) (a0_refusedAsBad : Int32) (a0_refusedAsNo : Int32) (a0_refusedAsFull : Int32) (a0_town_kind : Int32) (a0_town_pasts : Int32) (a0_town_members : Int32) (a0_town_noteCount : Int32) (a0_town_markCount : Int32) (fa0_town_views : Nat → Int32) (z_0 : Int32) (z_1 : Int32) (z_2 : Int32) (z_3 : (Nat → Int32)) (z_4 : Int32) (z_5 : Int32) (hsp : sp_X7_member p1 a0_refusedAsBad a0_refusedAsFull a0_town_pasts a0_town_members fa0_town_views = (z_0, z_1, z_2, z_3, z_4, z_5)) : MW l yX7_member cX7_member 3 (some .int) 2 E [.ref a0, .int p1] [(a0, .inr (4, [.ref a0_town, .ref a0_draft, .ref a0_images, .int a0_imagesKept, .ref a0_text, .ref a0_planner, .ref a0_trial, .ref a0_spread, .ref a0_spreadBehind, .ref a0_tally, .long a0_above, .long a0_below, .int a0_refusedAsBad, .int a0_refusedAsNo, .int a0_refusedAsFull])), (a0_town, .inr (3, [.int a0_town_kind, .ref a0_town_pulls, .ref a0_town_site, .ref a0_town_past, .int a0_town_pasts, .ref a0_town_views, .int a0_town_members, .ref a0_town_notes, .int a0_town_noteCount, .ref a0_town_marks, .int a0_town_markCount])), (a0_town_views, aI E 5 fa0_town_views)] (some (.int z_0)) [(a0, .inr (4, [.ref a0_town, .ref a0_draft, .ref a0_images, .int a0_imagesKept, .ref a0_text, .ref a0_planner, .ref a0_trial, .ref a0_spread, .ref a0_spreadBehind, .ref a0_tally, .long a0_above, .long a0_below, .int z_5, .int a0_refusedAsNo, .int z_4])), (a0_town, .inr (3, [.int a0_town_kind, .ref a0_town_pulls, .ref a0_town_site, .ref a0_town_past, .int z_1, .ref a0_town_views, .int z_2, .ref a0_town_notes, .int a0_town_noteCount, .ref a0_town_marks, .int a0_town_markCount])), (a0_town_views, aI E 5 z_3)] := by
  refine MW.of (by decide +kernel) (Nat.le_of_ble_eq_true rfl) ?_
  intro p e s m below meth c ls A hX hK hP hD hS hA hl
  have hX : CX p s m [.ref a0, .int p1].toArray meth c cX7_member 3 (some .int) RX7 := hX
  have hx := hX.1; have hb := hX.2.1; have hts := hX.2.2.2.2.1; have hown := hX.2.2.2.2.2.1
  have hl : lv_has ls 3 [(0, .ref a0), (1, .int p1)] := hl
  have hP : wP E [(a0, .inr (4, [.ref a0_town, .ref a0_draft, .ref a0_images, .int a0_imagesKept, .ref a0_text, .ref a0_planner, .ref a0_trial, .ref a0_spread, .ref a0_spreadBehind, .ref a0_tally, .long a0_above, .long a0_below, .int a0_refusedAsBad, .int a0_refusedAsNo, .int a0_refusedAsFull])), (a0_town, .inr (3, [.int a0_town_kind, .ref a0_town_pulls, .ref a0_town_site, .ref a0_town_past, .int a0_town_pasts, .ref a0_town_views, .int a0_town_members, .ref a0_town_notes, .int a0_town_noteCount, .ref a0_town_marks, .int a0_town_markCount])), (a0_town_views, aI E 5 fa0_town_views)] s.heap := hP
  have hsp : (if (sp_X7_isTilt p1) = 0 then (lt_ (sp_X7_bad (-2 : Int32) a0_refusedAsBad) fun z5 => (z5.1, a0_town_pasts, a0_town_members, fa0_town_views, a0_refusedAsFull, z5.2)) else (if a0_town_members < (5 : Int32) then (lt_ (sp_X2_put 5 a0_town_members p1 fa0_town_views) fun z3 => (a0_town_members, (0 : Int32), (a0_town_members + (1 : Int32)), z3, a0_refusedAsFull, a0_refusedAsBad)) else (lt_ (sp_X7_full a0_refusedAsFull) fun z4 => (z4.1, a0_town_pasts, a0_town_members, fa0_town_views, z4.2, a0_refusedAsBad)))) = (z_0, z_1, z_2, z_3, z_4, z_5) := hsp
  refine lv_iload_n hx hb dX7_member_0 rfl (lv_at hl 1 rfl) (W.pc 1 rfl ?_)
  refine kSR (st1 := [.int (sp_X7_isTilt p1)]) hX (c_X7_isTilt l E p1 _ rfl) B_X7_isTilt w_2_25 hK (hP.pick [] rfl) rfl hl.1 rfl (Nat.le_of_ble_eq_true rfl) ⟨Nat.le_of_ble_eq_true rfl, Nat.le_of_ble_eq_true rfl⟩ dX7_member_1 rfl (W.pc 4 rfl ?_)
  refine lv_if_ne (tgt := 14) hx hb dX7_member_4 (by decide) (fun c1 => ?_) (fun c1 => W.pc 7 rfl ?_)
  · have hsp := iq hsp c1
    refine lv_aload_n hx hb dX7_member_14 rfl (lv_at hl 0 rfl) (W.pc 15 rfl ?_)
    refine va_get (D := E.1) (ci := 4) (v := .ref a0_town) (C := RX7) (T := TX7) (N := 15) hx hb hts inT_X7 hown hK hP 0 rfl rfl 0 (by decide) (hts _ w_1_178) (fun _ h9 => h9) rfl dX7_member_15 (W.pc 18 rfl ?_)
    refine va_get (D := E.1) (ci := 3) (v := .int a0_town_members) (C := RX6) (T := TX6) (N := 11) hx hb hts inT_X6 hown hK hP 1 rfl rfl 6 (by decide) (hts _ w_1_77) (fun _ h9 => h9) rfl dX7_member_18 (W.pc 21 rfl ?_)
    refine lv_iconst (v := (5 : Int32)) hx hb dX7_member_21 (by decide) (W.pc 22 rfl ?_)
    refine lv_icmp_lt (tgt := 30) hx hb dX7_member_22 (by decide) (fun c2 => ?_) (fun c2 => W.pc 25 rfl ?_)
    · have hsp := ip hsp c2
      refine lv_aload_n hx hb dX7_member_30 rfl (lv_at hl 0 rfl) (W.pc 31 rfl ?_)
      refine va_get (D := E.1) (ci := 4) (v := .ref a0_town) (C := RX7) (T := TX7) (N := 15) hx hb hts inT_X7 hown hK hP 0 rfl rfl 0 (by decide) (hts _ w_1_178) (fun _ h9 => h9) rfl dX7_member_31 (W.pc 34 rfl ?_)
      refine va_get (D := E.1) (ci := 3) (v := .int a0_town_members) (C := RX6) (T := TX6) (N := 11) hx hb hts inT_X6 hown hK hP 1 rfl rfl 6 (by decide) (hts _ w_1_77) (fun _ h9 => h9) rfl dX7_member_34 (W.pc 37 rfl ?_)
      refine lv_istore_n (lv' := [(2, .int a0_town_members), (0, .ref a0), (1, .int p1)]) hx hb dX7_member_37 rfl hl (by decide) rfl (fun ls hl => W.pc 38 rfl ?_)
      refine lv_aload_n hx hb dX7_member_38 rfl (lv_at hl 1 rfl) (W.pc 39 rfl ?_)
      refine va_get (D := E.1) (ci := 4) (v := .ref a0_town) (C := RX7) (T := TX7) (N := 15) hx hb hts inT_X7 hown hK hP 0 rfl rfl 0 (by decide) (hts _ w_1_178) (fun _ h9 => h9) rfl dX7_member_39 (W.pc 42 rfl ?_)
      refine va_get (D := E.1) (ci := 3) (v := .ref a0_town_views) (C := RX6) (T := TX6) (N := 11) hx hb hts inT_X6 hown hK hP 1 rfl rfl 5 (by decide) (hts _ w_1_75) (fun _ h9 => h9) rfl dX7_member_42 (W.pc 45 rfl ?_)
      refine lv_iload_n hx hb dX7_member_45 rfl (lv_at hl 0 rfl) (W.pc 46 rfl ?_)
      refine lv_iload_n hx hb dX7_member_46 rfl (lv_at hl 2 rfl) (W.pc 47 rfl ?_)
      obtain ⟨z3, hr_z3, hsp⟩ := ltb_s hsp
      refine kSW (st1 := []) (ws' := [(a0, .inr (4, [.ref a0_town, .ref a0_draft, .ref a0_images, .int a0_imagesKept, .ref a0_text, .ref a0_planner, .ref a0_trial, .ref a0_spread, .ref a0_spreadBehind, .ref a0_tally, .long a0_above, .long a0_below, .int a0_refusedAsBad, .int a0_refusedAsNo, .int a0_refusedAsFull])), (a0_town, .inr (3, [.int a0_town_kind, .ref a0_town_pulls, .ref a0_town_site, .ref a0_town_past, .int a0_town_pasts, .ref a0_town_views, .int a0_town_members, .ref a0_town_notes, .int a0_town_noteCount, .ref a0_town_marks, .int a0_town_markCount])), (a0_town_views, aI E 5 z3)]) [2] hX (c_X2_put l E a0_town_views 5 (by decide) a0_town_members p1 fa0_town_views z3 hr_z3) B_X2_put w_2_29 hK hP hD hS hA (by decide) rfl rfl rfl rfl hl.1 rfl (Nat.le_of_ble_eq_true rfl) ⟨Nat.le_of_ble_eq_true rfl, Nat.le_of_ble_eq_true rfl⟩ dX7_member_47 rfl (fun H locs hP hD hS => W.pc 50 rfl ?_)
      refine lv_aload_n hx hb dX7_member_50 rfl (lv_at hl 1 rfl) (W.pc 51 rfl ?_)
      refine va_get (D := E.1) (ci := 4) (v := .ref a0_town) (C := RX7) (T := TX7) (N := 15) hx hb hts inT_X7 hown hK hP 0 rfl rfl 0 (by decide) (hts _ w_1_178) (fun _ h9 => h9) rfl dX7_member_51 (W.pc 54 rfl ?_)
      refine lv_iload_n hx hb dX7_member_54 rfl (lv_at hl 0 rfl) (W.pc 55 rfl ?_)
      refine lv_iconst (v := (1 : Int32)) hx hb dX7_member_55 (by decide) (W.pc 56 rfl ?_)
      refine lv_iadd hx hb dX7_member_56 (W.pc 57 rfl ?_)
      refine va_put (D := E.1) (ci := 3) (v := .int (a0_town_members + (1 : Int32))) (ty := .int) (C := RX6) (T := TX6) (N := 11) hx hb hts inT_X6 tyX6 tyX6_ok nmX6 hown hK hP hD hS 1 rfl rfl 6 (by decide) (hts _ w_1_77) (fun _ h9 => h9) rfl (by decide +kernel) rfl rfl (Nat.le_of_ble_eq_true rfl) dX7_member_57 (fun H locs hP hD hS => W.pc 60 rfl ?_)
      have hP : wP E [(a0, .inr (4, [.ref a0_town, .ref a0_draft, .ref a0_images, .int a0_imagesKept, .ref a0_text, .ref a0_planner, .ref a0_trial, .ref a0_spread, .ref a0_spreadBehind, .ref a0_tally, .long a0_above, .long a0_below, .int a0_refusedAsBad, .int a0_refusedAsNo, .int a0_refusedAsFull])), (a0_town, .inr (3, [.int a0_town_kind, .ref a0_town_pulls, .ref a0_town_site, .ref a0_town_past, .int a0_town_pasts, .ref a0_town_views, .int (a0_town_members + (1 : Int32)), .ref a0_town_notes, .int a0_town_noteCount, .ref a0_town_marks, .int a0_town_markCount])), (a0_town_views, aI E 5 z3)] _ := hP
      have hD : va_D A [(a0, .inr (4, [.ref a0_town, .ref a0_draft, .ref a0_images, .int a0_imagesKept, .ref a0_text, .ref a0_planner, .ref a0_trial, .ref a0_spread, .ref a0_spreadBehind, .ref a0_tally, .long a0_above, .long a0_below, .int a0_refusedAsBad, .int a0_refusedAsNo, .int a0_refusedAsFull])), (a0_town, .inr (3, [.int a0_town_kind, .ref a0_town_pulls, .ref a0_town_site, .ref a0_town_past, .int a0_town_pasts, .ref a0_town_views, .int (a0_town_members + (1 : Int32)), .ref a0_town_notes, .int a0_town_noteCount, .ref a0_town_marks, .int a0_town_markCount])), (a0_town_views, aI E 5 z3)] := hD
      refine lv_aload_n hx hb dX7_member_60 rfl (lv_at hl 1 rfl) (W.pc 61 rfl ?_)
      refine va_get (D := E.1) (ci := 4) (v := .ref a0_town) (C := RX7) (T := TX7) (N := 15) hx hb hts inT_X7 hown hK hP 0 rfl rfl 0 (by decide) (hts _ w_1_178) (fun _ h9 => h9) rfl dX7_member_61 (W.pc 64 rfl ?_)
      refine lv_iconst (v := (0 : Int32)) hx hb dX7_member_64 (by decide) (W.pc 65 rfl ?_)
      refine va_put (D := E.1) (ci := 3) (v := .int (0 : Int32)) (ty := .int) (C := RX6) (T := TX6) (N := 11) hx hb hts inT_X6 tyX6 tyX6_ok nmX6 hown hK hP hD hS 1 rfl rfl 4 (by decide) (hts _ w_1_73) (fun _ h9 => h9) rfl (by decide +kernel) rfl rfl (Nat.le_of_ble_eq_true rfl) dX7_member_65 (fun H locs hP hD hS => W.pc 68 rfl ?_)
      have hP : wP E [(a0, .inr (4, [.ref a0_town, .ref a0_draft, .ref a0_images, .int a0_imagesKept, .ref a0_text, .ref a0_planner, .ref a0_trial, .ref a0_spread, .ref a0_spreadBehind, .ref a0_tally, .long a0_above, .long a0_below, .int a0_refusedAsBad, .int a0_refusedAsNo, .int a0_refusedAsFull])), (a0_town, .inr (3, [.int a0_town_kind, .ref a0_town_pulls, .ref a0_town_site, .ref a0_town_past, .int (0 : Int32), .ref a0_town_views, .int (a0_town_members + (1 : Int32)), .ref a0_town_notes, .int a0_town_noteCount, .ref a0_town_marks, .int a0_town_markCount])), (a0_town_views, aI E 5 z3)] _ := hP
      have hD : va_D A [(a0, .inr (4, [.ref a0_town, .ref a0_draft, .ref a0_images, .int a0_imagesKept, .ref a0_text, .ref a0_planner, .ref a0_trial, .ref a0_spread, .ref a0_spreadBehind, .ref a0_tally, .long a0_above, .long a0_below, .int a0_refusedAsBad, .int a0_refusedAsNo, .int a0_refusedAsFull])), (a0_town, .inr (3, [.int a0_town_kind, .ref a0_town_pulls, .ref a0_town_site, .ref a0_town_past, .int (0 : Int32), .ref a0_town_views, .int (a0_town_members + (1 : Int32)), .ref a0_town_notes, .int a0_town_noteCount, .ref a0_town_marks, .int a0_town_markCount])), (a0_town_views, aI E 5 z3)] := hD
      refine lv_iload_n hx hb dX7_member_68 rfl (lv_at hl 0 rfl) (W.pc 69 rfl ?_)
      cases hsp
      exact rWi hX hP hS rfl rfl dX7_member_69
    · have hsp := iq hsp c2
      refine lv_aload_n hx hb dX7_member_25 rfl (lv_at hl 0 rfl) (W.pc 26 rfl ?_)
      obtain ⟨z4, hr_z4, hsp⟩ := ltb_s hsp
      refine kVW (st1 := [.int z4.1]) (ws' := [(a0, .inr (4, [.ref a0_town, .ref a0_draft, .ref a0_images, .int a0_imagesKept, .ref a0_text, .ref a0_planner, .ref a0_trial, .ref a0_spread, .ref a0_spreadBehind, .ref a0_tally, .long a0_above, .long a0_below, .int a0_refusedAsBad, .int a0_refusedAsNo, .int z4.2])), (a0_town, .inr (3, [.int a0_town_kind, .ref a0_town_pulls, .ref a0_town_site, .ref a0_town_past, .int a0_town_pasts, .ref a0_town_views, .int a0_town_members, .ref a0_town_notes, .int a0_town_noteCount, .ref a0_town_marks, .int a0_town_markCount])), (a0_town_views, aI E 5 fa0_town_views)]) [0] hX (c_X7_full l E a0 a0_town a0_draft a0_images a0_text a0_planner a0_trial a0_spread a0_spreadBehind a0_tally a0_imagesKept a0_above a0_below a0_refusedAsBad a0_refusedAsNo a0_refusedAsFull z4.1 z4.2 hr_z4) B_X7_full w_2_36 hK hP hD hS hA (by decide) rfl rfl rfl (q0 := 0) (ci := 4) rfl rfl rfl rfl hl.1 rfl (Nat.le_of_ble_eq_true rfl) ⟨Nat.le_of_ble_eq_true rfl, Nat.le_of_ble_eq_true rfl⟩ dX7_member_26 rfl (fun H locs hP hD hS => W.pc 29 rfl ?_)
      cases hsp
      exact rWi hX hP hS rfl rfl dX7_member_29
  · have hsp := ip hsp c1
    refine lv_aload_n hx hb dX7_member_7 rfl (lv_at hl 0 rfl) (W.pc 8 rfl ?_)
    refine lv_bipush (v := (-2 : Int32)) hx hb dX7_member_8 (by decide) (W.pc 10 rfl ?_)
    obtain ⟨z5, hr_z5, hsp⟩ := ltb_s hsp
    refine kVW (st1 := [.int z5.1]) (ws' := [(a0, .inr (4, [.ref a0_town, .ref a0_draft, .ref a0_images, .int a0_imagesKept, .ref a0_text, .ref a0_planner, .ref a0_trial, .ref a0_spread, .ref a0_spreadBehind, .ref a0_tally, .long a0_above, .long a0_below, .int z5.2, .int a0_refusedAsNo, .int a0_refusedAsFull])), (a0_town, .inr (3, [.int a0_town_kind, .ref a0_town_pulls, .ref a0_town_site, .ref a0_town_past, .int a0_town_pasts, .ref a0_town_views, .int a0_town_members, .ref a0_town_notes, .int a0_town_noteCount, .ref a0_town_marks, .int a0_town_markCount])), (a0_town_views, aI E 5 fa0_town_views)]) [0] hX (c_X7_bad l E a0 a0_town a0_draft a0_images a0_text a0_planner a0_trial a0_spread a0_spreadBehind a0_tally (-2 : Int32) a0_imagesKept a0_above a0_below a0_refusedAsBad a0_refusedAsNo a0_refusedAsFull z5.1 z5.2 hr_z5) B_X7_bad w_1_234 hK hP hD hS hA (by decide) rfl rfl rfl (q0 := 0) (ci := 4) rfl rfl rfl rfl hl.1 rfl (Nat.le_of_ble_eq_true rfl) ⟨Nat.le_of_ble_eq_true rfl, Nat.le_of_ble_eq_true rfl⟩ dX7_member_10 rfl (fun H locs hP hD hS => W.pc 13 rfl ?_)
    cases hsp
    exact rWi hX hP hS rfl rfl dX7_member_13
def sp_X7_type (p1 : Int32) (a0_refusedAsBad : Int32) (a0_refusedAsFull : Int32) (a0_text_length : Int32) (fa0_text_bytes : Nat → Int32) : Int32 × Int32 × (Nat → Int32) × Int32 × Int32 := if (sp_X2_within p1 (0 : Int32) (127 : Int32)) = 0 then (lt_ (sp_X7_bad (-2 : Int32) a0_refusedAsBad) fun z5 => (z5.1, a0_text_length, fa0_text_bytes, a0_refusedAsFull, z5.2)) else (if a0_text_length < (150 : Int32) then (lt_ (sp_X2_put 150 a0_text_length p1 fa0_text_bytes) fun z3 => ((a0_text_length + (1 : Int32)), (a0_text_length + (1 : Int32)), z3, a0_refusedAsFull, a0_refusedAsBad)) else (lt_ (sp_X7_full a0_refusedAsFull) fun z4 => (z4.1, a0_text_length, fa0_text_bytes, z4.2, a0_refusedAsBad)))
set_option maxHeartbeats 4000000 in
set_option maxRecDepth 100000 in
theorem c_X7_type (l : Launch) (E : wE) (a0 a0_town a0_draft a0_images a0_text a0_planner a0_trial a0_spread a0_spreadBehind a0_tally a0_text_bytes : Nat) (p1 : Int32) (a0_imagesKept : Int32) (a0_above : Int64) (a0_below : Int64) (a0_refusedAsBad : Int32) (a0_refusedAsNo : Int32) (a0_refusedAsFull : Int32) (a0_text_length : Int32) (a0_text_token : Int32) (a0_text_start : Int32) (a0_text_behind : Int32) (a0_text_value : Int32) (fa0_text_bytes : Nat → Int32) (z_0 : Int32) (z_1 : Int32) (z_2 : (Nat → Int32)) (z_3 : Int32) (z_4 : Int32) (hsp : sp_X7_type p1 a0_refusedAsBad a0_refusedAsFull a0_text_length fa0_text_bytes = (z_0, z_1, z_2, z_3, z_4)) : MW l yX7_type cX7_type 2 (some .int) 1 E [.ref a0, .int p1] [(a0, .inr (4, [.ref a0_town, .ref a0_draft, .ref a0_images, .int a0_imagesKept, .ref a0_text, .ref a0_planner, .ref a0_trial, .ref a0_spread, .ref a0_spreadBehind, .ref a0_tally, .long a0_above, .long a0_below, .int a0_refusedAsBad, .int a0_refusedAsNo, .int a0_refusedAsFull])), (a0_text, .inr (2, [.ref a0_text_bytes, .int a0_text_length, .int a0_text_token, .int a0_text_start, .int a0_text_behind, .int a0_text_value])), (a0_text_bytes, aI E 150 fa0_text_bytes)] (some (.int z_0)) [(a0, .inr (4, [.ref a0_town, .ref a0_draft, .ref a0_images, .int a0_imagesKept, .ref a0_text, .ref a0_planner, .ref a0_trial, .ref a0_spread, .ref a0_spreadBehind, .ref a0_tally, .long a0_above, .long a0_below, .int z_4, .int a0_refusedAsNo, .int z_3])), (a0_text, .inr (2, [.ref a0_text_bytes, .int z_1, .int a0_text_token, .int a0_text_start, .int a0_text_behind, .int a0_text_value])), (a0_text_bytes, aI E 150 z_2)] := by
  refine MW.of (by decide +kernel) (Nat.le_of_ble_eq_true rfl) ?_
  intro p e s m below meth c ls A hX hK hP hD hS hA hl
  have hX : CX p s m [.ref a0, .int p1].toArray meth c cX7_type 2 (some .int) RX7 := hX
  have hx := hX.1; have hb := hX.2.1; have hts := hX.2.2.2.2.1; have hown := hX.2.2.2.2.2.1
  have hl : lv_has ls 2 [(0, .ref a0), (1, .int p1)] := hl
  have hP : wP E [(a0, .inr (4, [.ref a0_town, .ref a0_draft, .ref a0_images, .int a0_imagesKept, .ref a0_text, .ref a0_planner, .ref a0_trial, .ref a0_spread, .ref a0_spreadBehind, .ref a0_tally, .long a0_above, .long a0_below, .int a0_refusedAsBad, .int a0_refusedAsNo, .int a0_refusedAsFull])), (a0_text, .inr (2, [.ref a0_text_bytes, .int a0_text_length, .int a0_text_token, .int a0_text_start, .int a0_text_behind, .int a0_text_value])), (a0_text_bytes, aI E 150 fa0_text_bytes)] s.heap := hP
  have hsp : (if (sp_X2_within p1 (0 : Int32) (127 : Int32)) = 0 then (lt_ (sp_X7_bad (-2 : Int32) a0_refusedAsBad) fun z5 => (z5.1, a0_text_length, fa0_text_bytes, a0_refusedAsFull, z5.2)) else (if a0_text_length < (150 : Int32) then (lt_ (sp_X2_put 150 a0_text_length p1 fa0_text_bytes) fun z3 => ((a0_text_length + (1 : Int32)), (a0_text_length + (1 : Int32)), z3, a0_refusedAsFull, a0_refusedAsBad)) else (lt_ (sp_X7_full a0_refusedAsFull) fun z4 => (z4.1, a0_text_length, fa0_text_bytes, z4.2, a0_refusedAsBad)))) = (z_0, z_1, z_2, z_3, z_4) := hsp
  refine lv_iload_n hx hb dX7_type_0 rfl (lv_at hl 1 rfl) (W.pc 1 rfl ?_)
  refine lv_iconst (v := (0 : Int32)) hx hb dX7_type_1 (by decide) (W.pc 2 rfl ?_)
  refine lv_bipush (v := (127 : Int32)) hx hb dX7_type_2 (by decide) (W.pc 4 rfl ?_)
  refine kSR (st1 := [.int (sp_X2_within p1 (0 : Int32) (127 : Int32))]) hX (c_X2_within l E p1 (0 : Int32) (127 : Int32) _ rfl) B_X2_within w_1_231 hK (hP.pick [] rfl) rfl hl.1 rfl (Nat.le_of_ble_eq_true rfl) ⟨Nat.le_of_ble_eq_true rfl, Nat.le_of_ble_eq_true rfl⟩ dX7_type_4 rfl (W.pc 7 rfl ?_)
  refine lv_if_ne (tgt := 17) hx hb dX7_type_7 (by decide) (fun c1 => ?_) (fun c1 => W.pc 10 rfl ?_)
  · have hsp := iq hsp c1
    refine lv_aload_n hx hb dX7_type_17 rfl (lv_at hl 0 rfl) (W.pc 18 rfl ?_)
    refine va_get (D := E.1) (ci := 4) (v := .ref a0_text) (C := RX7) (T := TX7) (N := 15) hx hb hts inT_X7 hown hK hP 0 rfl rfl 4 (by decide) (hts _ w_1_182) (fun _ h9 => h9) rfl dX7_type_18 (W.pc 21 rfl ?_)
    refine va_get (D := E.1) (ci := 2) (v := .int a0_text_length) (C := RX5) (T := TX5) (N := 6) hx hb hts inT_X5 hown hK hP 1 rfl rfl 1 (by decide) (hts _ w_1_118) (fun _ h9 => h9) rfl dX7_type_21 (W.pc 24 rfl ?_)
    refine lv_sipush (v := (150 : Int32)) hx hb dX7_type_24 (by decide) (W.pc 27 rfl ?_)
    refine lv_icmp_lt (tgt := 35) hx hb dX7_type_27 (by decide) (fun c2 => ?_) (fun c2 => W.pc 30 rfl ?_)
    · have hsp := ip hsp c2
      refine lv_aload_n hx hb dX7_type_35 rfl (lv_at hl 0 rfl) (W.pc 36 rfl ?_)
      refine va_get (D := E.1) (ci := 4) (v := .ref a0_text) (C := RX7) (T := TX7) (N := 15) hx hb hts inT_X7 hown hK hP 0 rfl rfl 4 (by decide) (hts _ w_1_182) (fun _ h9 => h9) rfl dX7_type_36 (W.pc 39 rfl ?_)
      refine va_get (D := E.1) (ci := 2) (v := .ref a0_text_bytes) (C := RX5) (T := TX5) (N := 6) hx hb hts inT_X5 hown hK hP 1 rfl rfl 0 (by decide) (hts _ w_1_117) (fun _ h9 => h9) rfl dX7_type_39 (W.pc 42 rfl ?_)
      refine lv_aload_n hx hb dX7_type_42 rfl (lv_at hl 0 rfl) (W.pc 43 rfl ?_)
      refine va_get (D := E.1) (ci := 4) (v := .ref a0_text) (C := RX7) (T := TX7) (N := 15) hx hb hts inT_X7 hown hK hP 0 rfl rfl 4 (by decide) (hts _ w_1_182) (fun _ h9 => h9) rfl dX7_type_43 (W.pc 46 rfl ?_)
      refine va_get (D := E.1) (ci := 2) (v := .int a0_text_length) (C := RX5) (T := TX5) (N := 6) hx hb hts inT_X5 hown hK hP 1 rfl rfl 1 (by decide) (hts _ w_1_118) (fun _ h9 => h9) rfl dX7_type_46 (W.pc 49 rfl ?_)
      refine lv_iload_n hx hb dX7_type_49 rfl (lv_at hl 1 rfl) (W.pc 50 rfl ?_)
      obtain ⟨z3, hr_z3, hsp⟩ := ltb_s hsp
      refine kSW (st1 := []) (ws' := [(a0, .inr (4, [.ref a0_town, .ref a0_draft, .ref a0_images, .int a0_imagesKept, .ref a0_text, .ref a0_planner, .ref a0_trial, .ref a0_spread, .ref a0_spreadBehind, .ref a0_tally, .long a0_above, .long a0_below, .int a0_refusedAsBad, .int a0_refusedAsNo, .int a0_refusedAsFull])), (a0_text, .inr (2, [.ref a0_text_bytes, .int a0_text_length, .int a0_text_token, .int a0_text_start, .int a0_text_behind, .int a0_text_value])), (a0_text_bytes, aI E 150 z3)]) [2] hX (c_X2_put l E a0_text_bytes 150 (by decide) a0_text_length p1 fa0_text_bytes z3 hr_z3) B_X2_put w_2_29 hK hP hD hS hA (by decide) rfl rfl rfl rfl hl.1 rfl (Nat.le_of_ble_eq_true rfl) ⟨Nat.le_of_ble_eq_true rfl, Nat.le_of_ble_eq_true rfl⟩ dX7_type_50 rfl (fun H locs hP hD hS => W.pc 53 rfl ?_)
      refine lv_aload_n hx hb dX7_type_53 rfl (lv_at hl 0 rfl) (W.pc 54 rfl ?_)
      refine va_get (D := E.1) (ci := 4) (v := .ref a0_text) (C := RX7) (T := TX7) (N := 15) hx hb hts inT_X7 hown hK hP 0 rfl rfl 4 (by decide) (hts _ w_1_182) (fun _ h9 => h9) rfl dX7_type_54 (W.pc 57 rfl ?_)
      refine lv_dup hx hb dX7_type_57 rfl (W.pc 58 rfl ?_)
      refine va_get (D := E.1) (ci := 2) (v := .int a0_text_length) (C := RX5) (T := TX5) (N := 6) hx hb hts inT_X5 hown hK hP 1 rfl rfl 1 (by decide) (hts _ w_1_118) (fun _ h9 => h9) rfl dX7_type_58 (W.pc 61 rfl ?_)
      refine lv_iconst (v := (1 : Int32)) hx hb dX7_type_61 (by decide) (W.pc 62 rfl ?_)
      refine lv_iadd hx hb dX7_type_62 (W.pc 63 rfl ?_)
      refine va_put (D := E.1) (ci := 2) (v := .int (a0_text_length + (1 : Int32))) (ty := .int) (C := RX5) (T := TX5) (N := 6) hx hb hts inT_X5 tyX5 tyX5_ok nmX5 hown hK hP hD hS 1 rfl rfl 1 (by decide) (hts _ w_1_118) (fun _ h9 => h9) rfl (by decide +kernel) rfl rfl (Nat.le_of_ble_eq_true rfl) dX7_type_63 (fun H locs hP hD hS => W.pc 66 rfl ?_)
      have hP : wP E [(a0, .inr (4, [.ref a0_town, .ref a0_draft, .ref a0_images, .int a0_imagesKept, .ref a0_text, .ref a0_planner, .ref a0_trial, .ref a0_spread, .ref a0_spreadBehind, .ref a0_tally, .long a0_above, .long a0_below, .int a0_refusedAsBad, .int a0_refusedAsNo, .int a0_refusedAsFull])), (a0_text, .inr (2, [.ref a0_text_bytes, .int (a0_text_length + (1 : Int32)), .int a0_text_token, .int a0_text_start, .int a0_text_behind, .int a0_text_value])), (a0_text_bytes, aI E 150 z3)] _ := hP
      have hD : va_D A [(a0, .inr (4, [.ref a0_town, .ref a0_draft, .ref a0_images, .int a0_imagesKept, .ref a0_text, .ref a0_planner, .ref a0_trial, .ref a0_spread, .ref a0_spreadBehind, .ref a0_tally, .long a0_above, .long a0_below, .int a0_refusedAsBad, .int a0_refusedAsNo, .int a0_refusedAsFull])), (a0_text, .inr (2, [.ref a0_text_bytes, .int (a0_text_length + (1 : Int32)), .int a0_text_token, .int a0_text_start, .int a0_text_behind, .int a0_text_value])), (a0_text_bytes, aI E 150 z3)] := hD
      refine lv_aload_n hx hb dX7_type_66 rfl (lv_at hl 0 rfl) (W.pc 67 rfl ?_)
      refine va_get (D := E.1) (ci := 4) (v := .ref a0_text) (C := RX7) (T := TX7) (N := 15) hx hb hts inT_X7 hown hK hP 0 rfl rfl 4 (by decide) (hts _ w_1_182) (fun _ h9 => h9) rfl dX7_type_67 (W.pc 70 rfl ?_)
      refine va_get (D := E.1) (ci := 2) (v := .int (a0_text_length + (1 : Int32))) (C := RX5) (T := TX5) (N := 6) hx hb hts inT_X5 hown hK hP 1 rfl rfl 1 (by decide) (hts _ w_1_118) (fun _ h9 => h9) rfl dX7_type_70 (W.pc 73 rfl ?_)
      cases hsp
      exact rWi hX hP hS rfl rfl dX7_type_73
    · have hsp := iq hsp c2
      refine lv_aload_n hx hb dX7_type_30 rfl (lv_at hl 0 rfl) (W.pc 31 rfl ?_)
      obtain ⟨z4, hr_z4, hsp⟩ := ltb_s hsp
      refine kVW (st1 := [.int z4.1]) (ws' := [(a0, .inr (4, [.ref a0_town, .ref a0_draft, .ref a0_images, .int a0_imagesKept, .ref a0_text, .ref a0_planner, .ref a0_trial, .ref a0_spread, .ref a0_spreadBehind, .ref a0_tally, .long a0_above, .long a0_below, .int a0_refusedAsBad, .int a0_refusedAsNo, .int z4.2])), (a0_text, .inr (2, [.ref a0_text_bytes, .int a0_text_length, .int a0_text_token, .int a0_text_start, .int a0_text_behind, .int a0_text_value])), (a0_text_bytes, aI E 150 fa0_text_bytes)]) [0] hX (c_X7_full l E a0 a0_town a0_draft a0_images a0_text a0_planner a0_trial a0_spread a0_spreadBehind a0_tally a0_imagesKept a0_above a0_below a0_refusedAsBad a0_refusedAsNo a0_refusedAsFull z4.1 z4.2 hr_z4) B_X7_full w_2_36 hK hP hD hS hA (by decide) rfl rfl rfl (q0 := 0) (ci := 4) rfl rfl rfl rfl hl.1 rfl (Nat.le_of_ble_eq_true rfl) ⟨Nat.le_of_ble_eq_true rfl, Nat.le_of_ble_eq_true rfl⟩ dX7_type_31 rfl (fun H locs hP hD hS => W.pc 34 rfl ?_)
      cases hsp
      exact rWi hX hP hS rfl rfl dX7_type_34
  · have hsp := ip hsp c1
    refine lv_aload_n hx hb dX7_type_10 rfl (lv_at hl 0 rfl) (W.pc 11 rfl ?_)
    refine lv_bipush (v := (-2 : Int32)) hx hb dX7_type_11 (by decide) (W.pc 13 rfl ?_)
    obtain ⟨z5, hr_z5, hsp⟩ := ltb_s hsp
    refine kVW (st1 := [.int z5.1]) (ws' := [(a0, .inr (4, [.ref a0_town, .ref a0_draft, .ref a0_images, .int a0_imagesKept, .ref a0_text, .ref a0_planner, .ref a0_trial, .ref a0_spread, .ref a0_spreadBehind, .ref a0_tally, .long a0_above, .long a0_below, .int z5.2, .int a0_refusedAsNo, .int a0_refusedAsFull])), (a0_text, .inr (2, [.ref a0_text_bytes, .int a0_text_length, .int a0_text_token, .int a0_text_start, .int a0_text_behind, .int a0_text_value])), (a0_text_bytes, aI E 150 fa0_text_bytes)]) [0] hX (c_X7_bad l E a0 a0_town a0_draft a0_images a0_text a0_planner a0_trial a0_spread a0_spreadBehind a0_tally (-2 : Int32) a0_imagesKept a0_above a0_below a0_refusedAsBad a0_refusedAsNo a0_refusedAsFull z5.1 z5.2 hr_z5) B_X7_bad w_1_234 hK hP hD hS hA (by decide) rfl rfl rfl (q0 := 0) (ci := 4) rfl rfl rfl rfl hl.1 rfl (Nat.le_of_ble_eq_true rfl) ⟨Nat.le_of_ble_eq_true rfl, Nat.le_of_ble_eq_true rfl⟩ dX7_type_13 rfl (fun H locs hP hD hS => W.pc 16 rfl ?_)
    cases hsp
    exact rWi hX hP hS rfl rfl dX7_type_16
def sp_X7_clear (a0_text_length : Int32) : Int32 × Int32 := (a0_text_length, (0 : Int32))
set_option maxHeartbeats 4000000 in
set_option maxRecDepth 100000 in
theorem c_X7_clear (l : Launch) (E : wE) (a0 a0_town a0_draft a0_images a0_text a0_planner a0_trial a0_spread a0_spreadBehind a0_tally a0_text_bytes : Nat) (a0_imagesKept : Int32) (a0_above : Int64) (a0_below : Int64) (a0_refusedAsBad : Int32) (a0_refusedAsNo : Int32) (a0_refusedAsFull : Int32) (a0_text_length : Int32) (a0_text_token : Int32) (a0_text_start : Int32) (a0_text_behind : Int32) (a0_text_value : Int32) (z_0 : Int32) (z_1 : Int32) (hsp : sp_X7_clear a0_text_length = (z_0, z_1)) : MW l yX7_clear cX7_clear 2 (some .int) 0 E [.ref a0] [(a0, .inr (4, [.ref a0_town, .ref a0_draft, .ref a0_images, .int a0_imagesKept, .ref a0_text, .ref a0_planner, .ref a0_trial, .ref a0_spread, .ref a0_spreadBehind, .ref a0_tally, .long a0_above, .long a0_below, .int a0_refusedAsBad, .int a0_refusedAsNo, .int a0_refusedAsFull])), (a0_text, .inr (2, [.ref a0_text_bytes, .int a0_text_length, .int a0_text_token, .int a0_text_start, .int a0_text_behind, .int a0_text_value]))] (some (.int z_0)) [(a0, .inr (4, [.ref a0_town, .ref a0_draft, .ref a0_images, .int a0_imagesKept, .ref a0_text, .ref a0_planner, .ref a0_trial, .ref a0_spread, .ref a0_spreadBehind, .ref a0_tally, .long a0_above, .long a0_below, .int a0_refusedAsBad, .int a0_refusedAsNo, .int a0_refusedAsFull])), (a0_text, .inr (2, [.ref a0_text_bytes, .int z_1, .int a0_text_token, .int a0_text_start, .int a0_text_behind, .int a0_text_value]))] := by
  refine MW.of (by decide +kernel) (Nat.le_of_ble_eq_true rfl) ?_
  intro p e s m below meth c ls A hX hK hP hD hS hA hl
  have hX : CX p s m [.ref a0].toArray meth c cX7_clear 2 (some .int) RX7 := hX
  have hx := hX.1; have hb := hX.2.1; have hts := hX.2.2.2.2.1; have hown := hX.2.2.2.2.2.1
  have hl : lv_has ls 2 [(0, .ref a0)] := hl
  have hP : wP E [(a0, .inr (4, [.ref a0_town, .ref a0_draft, .ref a0_images, .int a0_imagesKept, .ref a0_text, .ref a0_planner, .ref a0_trial, .ref a0_spread, .ref a0_spreadBehind, .ref a0_tally, .long a0_above, .long a0_below, .int a0_refusedAsBad, .int a0_refusedAsNo, .int a0_refusedAsFull])), (a0_text, .inr (2, [.ref a0_text_bytes, .int a0_text_length, .int a0_text_token, .int a0_text_start, .int a0_text_behind, .int a0_text_value]))] s.heap := hP
  have hsp : ((a0_text_length, (0 : Int32))) = (z_0, z_1) := hsp
  refine lv_aload_n hx hb dX7_clear_0 rfl (lv_at hl 0 rfl) (W.pc 1 rfl ?_)
  refine va_get (D := E.1) (ci := 4) (v := .ref a0_text) (C := RX7) (T := TX7) (N := 15) hx hb hts inT_X7 hown hK hP 0 rfl rfl 4 (by decide) (hts _ w_1_182) (fun _ h9 => h9) rfl dX7_clear_1 (W.pc 4 rfl ?_)
  refine va_get (D := E.1) (ci := 2) (v := .int a0_text_length) (C := RX5) (T := TX5) (N := 6) hx hb hts inT_X5 hown hK hP 1 rfl rfl 1 (by decide) (hts _ w_1_118) (fun _ h9 => h9) rfl dX7_clear_4 (W.pc 7 rfl ?_)
  refine lv_istore_n (lv' := [(1, .int a0_text_length), (0, .ref a0)]) hx hb dX7_clear_7 rfl hl (by decide) rfl (fun ls hl => W.pc 8 rfl ?_)
  refine lv_aload_n hx hb dX7_clear_8 rfl (lv_at hl 1 rfl) (W.pc 9 rfl ?_)
  refine va_get (D := E.1) (ci := 4) (v := .ref a0_text) (C := RX7) (T := TX7) (N := 15) hx hb hts inT_X7 hown hK hP 0 rfl rfl 4 (by decide) (hts _ w_1_182) (fun _ h9 => h9) rfl dX7_clear_9 (W.pc 12 rfl ?_)
  refine lv_iconst (v := (0 : Int32)) hx hb dX7_clear_12 (by decide) (W.pc 13 rfl ?_)
  refine va_put (D := E.1) (ci := 2) (v := .int (0 : Int32)) (ty := .int) (C := RX5) (T := TX5) (N := 6) hx hb hts inT_X5 tyX5 tyX5_ok nmX5 hown hK hP hD hS 1 rfl rfl 1 (by decide) (hts _ w_1_118) (fun _ h9 => h9) rfl (by decide +kernel) rfl rfl (Nat.le_of_ble_eq_true rfl) dX7_clear_13 (fun H locs hP hD hS => W.pc 16 rfl ?_)
  have hP : wP E [(a0, .inr (4, [.ref a0_town, .ref a0_draft, .ref a0_images, .int a0_imagesKept, .ref a0_text, .ref a0_planner, .ref a0_trial, .ref a0_spread, .ref a0_spreadBehind, .ref a0_tally, .long a0_above, .long a0_below, .int a0_refusedAsBad, .int a0_refusedAsNo, .int a0_refusedAsFull])), (a0_text, .inr (2, [.ref a0_text_bytes, .int (0 : Int32), .int a0_text_token, .int a0_text_start, .int a0_text_behind, .int a0_text_value]))] _ := hP
  have hD : va_D A [(a0, .inr (4, [.ref a0_town, .ref a0_draft, .ref a0_images, .int a0_imagesKept, .ref a0_text, .ref a0_planner, .ref a0_trial, .ref a0_spread, .ref a0_spreadBehind, .ref a0_tally, .long a0_above, .long a0_below, .int a0_refusedAsBad, .int a0_refusedAsNo, .int a0_refusedAsFull])), (a0_text, .inr (2, [.ref a0_text_bytes, .int (0 : Int32), .int a0_text_token, .int a0_text_start, .int a0_text_behind, .int a0_text_value]))] := hD
  refine lv_iload_n hx hb dX7_clear_16 rfl (lv_at hl 0 rfl) (W.pc 17 rfl ?_)
  cases hsp
  exact rWi hX hP hS rfl rfl dX7_clear_17
def sp_X7_now (p1 : Int32) (a0_refusedAsBad : Int32) (a0_town_kind : Int32) (a0_town_site_off : Int32) (a0_town_site_year : Int32) (fa0_town_pulls : Nat → Int32) : Int32 × Int32 := if p1 = (0 : Int32) then ((a0_town_kind, a0_refusedAsBad)) else (if p1 = (1 : Int32) then ((a0_town_site_off, a0_refusedAsBad)) else (if p1 = (2 : Int32) then ((a0_town_site_year, a0_refusedAsBad)) else (if p1 = (3 : Int32) then (((sp_X6_pullOf a0_town_site_year fa0_town_pulls), a0_refusedAsBad)) else ((lt_ (sp_X7_bad (-100 : Int32) a0_refusedAsBad) fun z5 => (z5.1, z5.2))))))
set_option maxHeartbeats 4000000 in
set_option maxRecDepth 100000 in
theorem c_X7_now (l : Launch) (E : wE) (a0 a0_town a0_draft a0_images a0_text a0_planner a0_trial a0_spread a0_spreadBehind a0_tally a0_town_pulls a0_town_site a0_town_past a0_town_views a0_town_notes a0_town_marks a0_town_site_heights a0_town_site_storeyKinds a0_town_site_storeyTilts : Nat) (p1 : Int32) (a0_imagesKept : Int32) (a0_above : Int64) (a0_below : Int64) (a0_refusedAsBad : Int32) (a0_refusedAsNo : Int32) (a0_refusedAsFull : Int32) (a0_town_kind : Int32) (a0_town_pasts : Int32) (a0_town_members : Int32) (a0_town_noteCount : Int32) (a0_town_markCount : Int32) (a0_town_site_off : Int32) (a0_town_site_year : Int32) (fa0_town_pulls : Nat → Int32) (z_0 : Int32) (z_1 : Int32) (hsp : sp_X7_now p1 a0_refusedAsBad a0_town_kind a0_town_site_off a0_town_site_year fa0_town_pulls = (z_0, z_1)) : MW l yX7_now cX7_now 2 (some .int) 2 E [.ref a0, .int p1] [(a0, .inr (4, [.ref a0_town, .ref a0_draft, .ref a0_images, .int a0_imagesKept, .ref a0_text, .ref a0_planner, .ref a0_trial, .ref a0_spread, .ref a0_spreadBehind, .ref a0_tally, .long a0_above, .long a0_below, .int a0_refusedAsBad, .int a0_refusedAsNo, .int a0_refusedAsFull])), (a0_town, .inr (3, [.int a0_town_kind, .ref a0_town_pulls, .ref a0_town_site, .ref a0_town_past, .int a0_town_pasts, .ref a0_town_views, .int a0_town_members, .ref a0_town_notes, .int a0_town_noteCount, .ref a0_town_marks, .int a0_town_markCount])), (a0_town_site, .inr (1, [.int a0_town_site_off, .int a0_town_site_year, .ref a0_town_site_heights, .ref a0_town_site_storeyKinds, .ref a0_town_site_storeyTilts])), (a0_town_pulls, aI E 6 fa0_town_pulls)] (some (.int z_0)) [(a0, .inr (4, [.ref a0_town, .ref a0_draft, .ref a0_images, .int a0_imagesKept, .ref a0_text, .ref a0_planner, .ref a0_trial, .ref a0_spread, .ref a0_spreadBehind, .ref a0_tally, .long a0_above, .long a0_below, .int z_1, .int a0_refusedAsNo, .int a0_refusedAsFull])), (a0_town, .inr (3, [.int a0_town_kind, .ref a0_town_pulls, .ref a0_town_site, .ref a0_town_past, .int a0_town_pasts, .ref a0_town_views, .int a0_town_members, .ref a0_town_notes, .int a0_town_noteCount, .ref a0_town_marks, .int a0_town_markCount])), (a0_town_site, .inr (1, [.int a0_town_site_off, .int a0_town_site_year, .ref a0_town_site_heights, .ref a0_town_site_storeyKinds, .ref a0_town_site_storeyTilts])), (a0_town_pulls, aI E 6 fa0_town_pulls)] := by
  refine MW.of (by decide +kernel) (Nat.le_of_ble_eq_true rfl) ?_
  intro p e s m below meth c ls A hX hK hP hD hS hA hl
  have hX : CX p s m [.ref a0, .int p1].toArray meth c cX7_now 2 (some .int) RX7 := hX
  have hx := hX.1; have hb := hX.2.1; have hts := hX.2.2.2.2.1; have hown := hX.2.2.2.2.2.1
  have hl : lv_has ls 2 [(0, .ref a0), (1, .int p1)] := hl
  have hP : wP E [(a0, .inr (4, [.ref a0_town, .ref a0_draft, .ref a0_images, .int a0_imagesKept, .ref a0_text, .ref a0_planner, .ref a0_trial, .ref a0_spread, .ref a0_spreadBehind, .ref a0_tally, .long a0_above, .long a0_below, .int a0_refusedAsBad, .int a0_refusedAsNo, .int a0_refusedAsFull])), (a0_town, .inr (3, [.int a0_town_kind, .ref a0_town_pulls, .ref a0_town_site, .ref a0_town_past, .int a0_town_pasts, .ref a0_town_views, .int a0_town_members, .ref a0_town_notes, .int a0_town_noteCount, .ref a0_town_marks, .int a0_town_markCount])), (a0_town_site, .inr (1, [.int a0_town_site_off, .int a0_town_site_year, .ref a0_town_site_heights, .ref a0_town_site_storeyKinds, .ref a0_town_site_storeyTilts])), (a0_town_pulls, aI E 6 fa0_town_pulls)] s.heap := hP
  have hsp : (if p1 = (0 : Int32) then ((a0_town_kind, a0_refusedAsBad)) else (if p1 = (1 : Int32) then ((a0_town_site_off, a0_refusedAsBad)) else (if p1 = (2 : Int32) then ((a0_town_site_year, a0_refusedAsBad)) else (if p1 = (3 : Int32) then (((sp_X6_pullOf a0_town_site_year fa0_town_pulls), a0_refusedAsBad)) else ((lt_ (sp_X7_bad (-100 : Int32) a0_refusedAsBad) fun z5 => (z5.1, z5.2))))))) = (z_0, z_1) := hsp
  refine lv_iload_n hx hb dX7_now_0 rfl (lv_at hl 1 rfl) (W.pc 1 rfl ?_)
  by_cases c1 : p1 = (0 : Int32)
  · have hsp := ip hsp c1
    refine lv_tableIn (off := 31) (tgt := 32) hx hb dX7_now_1 (by rw [c1]; decide) (by rw [c1]; decide) (by rw [c1]; rfl) (by decide) ?_
    refine lv_aload_n hx hb dX7_now_32 rfl (lv_at hl 0 rfl) (W.pc 33 rfl ?_)
    refine va_get (D := E.1) (ci := 4) (v := .ref a0_town) (C := RX7) (T := TX7) (N := 15) hx hb hts inT_X7 hown hK hP 0 rfl rfl 0 (by decide) (hts _ w_1_178) (fun _ h9 => h9) rfl dX7_now_33 (W.pc 36 rfl ?_)
    refine va_get (D := E.1) (ci := 3) (v := .int a0_town_kind) (C := RX6) (T := TX6) (N := 11) hx hb hts inT_X6 hown hK hP 1 rfl rfl 0 (by decide) (hts _ w_1_63) (fun _ h9 => h9) rfl dX7_now_36 (W.pc 39 rfl ?_)
    cases hsp
    exact rWi hX hP hS rfl rfl dX7_now_39
  · have hsp := iq hsp c1
    by_cases c2 : p1 = (1 : Int32)
    · have hsp := ip hsp c2
      refine lv_tableIn (off := 39) (tgt := 40) hx hb dX7_now_1 (by rw [c2]; decide) (by rw [c2]; decide) (by rw [c2]; rfl) (by decide) ?_
      refine lv_aload_n hx hb dX7_now_40 rfl (lv_at hl 0 rfl) (W.pc 41 rfl ?_)
      refine va_get (D := E.1) (ci := 4) (v := .ref a0_town) (C := RX7) (T := TX7) (N := 15) hx hb hts inT_X7 hown hK hP 0 rfl rfl 0 (by decide) (hts _ w_1_178) (fun _ h9 => h9) rfl dX7_now_41 (W.pc 44 rfl ?_)
      refine va_get (D := E.1) (ci := 3) (v := .ref a0_town_site) (C := RX6) (T := TX6) (N := 11) hx hb hts inT_X6 hown hK hP 1 rfl rfl 2 (by decide) (hts _ w_1_68) (fun _ h9 => h9) rfl dX7_now_44 (W.pc 47 rfl ?_)
      refine va_get (D := E.1) (ci := 1) (v := .int a0_town_site_off) (C := RX3) (T := TX3) (N := 5) hx hb hts inT_X3 hown hK hP 2 rfl rfl 0 (by decide) (hts _ w_1_40) (fun _ h9 => h9) rfl dX7_now_47 (W.pc 50 rfl ?_)
      cases hsp
      exact rWi hX hP hS rfl rfl dX7_now_50
    · have hsp := iq hsp c2
      by_cases c3 : p1 = (2 : Int32)
      · have hsp := ip hsp c3
        refine lv_tableIn (off := 50) (tgt := 51) hx hb dX7_now_1 (by rw [c3]; decide) (by rw [c3]; decide) (by rw [c3]; rfl) (by decide) ?_
        refine lv_aload_n hx hb dX7_now_51 rfl (lv_at hl 0 rfl) (W.pc 52 rfl ?_)
        refine va_get (D := E.1) (ci := 4) (v := .ref a0_town) (C := RX7) (T := TX7) (N := 15) hx hb hts inT_X7 hown hK hP 0 rfl rfl 0 (by decide) (hts _ w_1_178) (fun _ h9 => h9) rfl dX7_now_52 (W.pc 55 rfl ?_)
        refine va_get (D := E.1) (ci := 3) (v := .ref a0_town_site) (C := RX6) (T := TX6) (N := 11) hx hb hts inT_X6 hown hK hP 1 rfl rfl 2 (by decide) (hts _ w_1_68) (fun _ h9 => h9) rfl dX7_now_55 (W.pc 58 rfl ?_)
        refine va_get (D := E.1) (ci := 1) (v := .int a0_town_site_year) (C := RX3) (T := TX3) (N := 5) hx hb hts inT_X3 hown hK hP 2 rfl rfl 1 (by decide) (hts _ w_1_45) (fun _ h9 => h9) rfl dX7_now_58 (W.pc 61 rfl ?_)
        cases hsp
        exact rWi hX hP hS rfl rfl dX7_now_61
      · have hsp := iq hsp c3
        by_cases c4 : p1 = (3 : Int32)
        · have hsp := ip hsp c4
          refine lv_tableIn (off := 61) (tgt := 62) hx hb dX7_now_1 (by rw [c4]; decide) (by rw [c4]; decide) (by rw [c4]; rfl) (by decide) ?_
          refine lv_aload_n hx hb dX7_now_62 rfl (lv_at hl 0 rfl) (W.pc 63 rfl ?_)
          refine va_get (D := E.1) (ci := 4) (v := .ref a0_town) (C := RX7) (T := TX7) (N := 15) hx hb hts inT_X7 hown hK hP 0 rfl rfl 0 (by decide) (hts _ w_1_178) (fun _ h9 => h9) rfl dX7_now_63 (W.pc 66 rfl ?_)
          refine lv_aload_n hx hb dX7_now_66 rfl (lv_at hl 0 rfl) (W.pc 67 rfl ?_)
          refine va_get (D := E.1) (ci := 4) (v := .ref a0_town) (C := RX7) (T := TX7) (N := 15) hx hb hts inT_X7 hown hK hP 0 rfl rfl 0 (by decide) (hts _ w_1_178) (fun _ h9 => h9) rfl dX7_now_67 (W.pc 70 rfl ?_)
          refine va_get (D := E.1) (ci := 3) (v := .ref a0_town_site) (C := RX6) (T := TX6) (N := 11) hx hb hts inT_X6 hown hK hP 1 rfl rfl 2 (by decide) (hts _ w_1_68) (fun _ h9 => h9) rfl dX7_now_70 (W.pc 73 rfl ?_)
          refine va_get (D := E.1) (ci := 1) (v := .int a0_town_site_year) (C := RX3) (T := TX3) (N := 5) hx hb hts inT_X3 hown hK hP 2 rfl rfl 1 (by decide) (hts _ w_1_45) (fun _ h9 => h9) rfl dX7_now_73 (W.pc 76 rfl ?_)
          refine kVR (st1 := [.int (sp_X6_pullOf a0_town_site_year fa0_town_pulls)]) hX (c_X6_pullOf l E a0_town a0_town_pulls a0_town_site a0_town_past a0_town_views a0_town_notes a0_town_marks a0_town_site_year a0_town_kind a0_town_pasts a0_town_members a0_town_noteCount a0_town_markCount fa0_town_pulls _ rfl) B_X6_pullOf w_3_38 hK (hP.pick [1, 3] rfl) (q0 := 0) (ci := 3) rfl rfl rfl rfl hl.1 rfl (Nat.le_of_ble_eq_true rfl) ⟨Nat.le_of_ble_eq_true rfl, Nat.le_of_ble_eq_true rfl⟩ dX7_now_76 rfl (W.pc 79 rfl ?_)
          cases hsp
          exact rWi hX hP hS rfl rfl dX7_now_79
        · have hsp := iq hsp c4
          refine lv_tableOut (tgt := 80) hx hb dX7_now_1 (by have := lv_neT c1 (a := 0) rfl; have := lv_neT c2 (a := 1) rfl; have := lv_neT c3 (a := 2) rfl; have := lv_neT c4 (a := 3) rfl;  omega) (by decide) ?_
          refine lv_aload_n hx hb dX7_now_80 rfl (lv_at hl 0 rfl) (W.pc 81 rfl ?_)
          refine lv_bipush (v := (-100 : Int32)) hx hb dX7_now_81 (by decide) (W.pc 83 rfl ?_)
          obtain ⟨z5, hr_z5, hsp⟩ := ltb_s hsp
          refine kVW (st1 := [.int z5.1]) (ws' := [(a0, .inr (4, [.ref a0_town, .ref a0_draft, .ref a0_images, .int a0_imagesKept, .ref a0_text, .ref a0_planner, .ref a0_trial, .ref a0_spread, .ref a0_spreadBehind, .ref a0_tally, .long a0_above, .long a0_below, .int z5.2, .int a0_refusedAsNo, .int a0_refusedAsFull])), (a0_town, .inr (3, [.int a0_town_kind, .ref a0_town_pulls, .ref a0_town_site, .ref a0_town_past, .int a0_town_pasts, .ref a0_town_views, .int a0_town_members, .ref a0_town_notes, .int a0_town_noteCount, .ref a0_town_marks, .int a0_town_markCount])), (a0_town_site, .inr (1, [.int a0_town_site_off, .int a0_town_site_year, .ref a0_town_site_heights, .ref a0_town_site_storeyKinds, .ref a0_town_site_storeyTilts])), (a0_town_pulls, aI E 6 fa0_town_pulls)]) [0] hX (c_X7_bad l E a0 a0_town a0_draft a0_images a0_text a0_planner a0_trial a0_spread a0_spreadBehind a0_tally (-100 : Int32) a0_imagesKept a0_above a0_below a0_refusedAsBad a0_refusedAsNo a0_refusedAsFull z5.1 z5.2 hr_z5) B_X7_bad w_1_234 hK hP hD hS hA (by decide) rfl rfl rfl (q0 := 0) (ci := 4) rfl rfl rfl rfl hl.1 rfl (Nat.le_of_ble_eq_true rfl) ⟨Nat.le_of_ble_eq_true rfl, Nat.le_of_ble_eq_true rfl⟩ dX7_now_83 rfl (fun H locs hP hD hS => W.pc 86 rfl ?_)
          cases hsp
          exact rWi hX hP hS rfl rfl dX7_now_86
noncomputable def sp_X7_of (p1 : Int32) (p2 : Int32) (p3 : Int32) (a0_refusedAsBad : Int32) (fa0_town_site_heights : Nat → Int32) (fa0_town_site_storeyKinds : Nat → Int32) (fa0_town_site_storeyTilts : Nat → Int32) : Option (Int32 × Int32) := if (sp_X7_isPlot p1) = 0 then (lt_ (sp_X7_bad (-100 : Int32) a0_refusedAsBad) fun z2 => some (z2.1, z2.2)) else (if (sp_X2_within p2 (0 : Int32) ((sp_X3_height p1 fa0_town_site_heights) - (1 : Int32))) = 0 then (lt_ (sp_X7_bad (-100 : Int32) a0_refusedAsBad) fun z9 => some (z9.1, z9.2)) else (if p3 = (0 : Int32) then (some ((sp_X3_kindAt p1 p2 fa0_town_site_storeyKinds), a0_refusedAsBad)) else (if p3 = (1 : Int32) then (some ((sp_X3_tiltAt p1 p2 fa0_town_site_storeyTilts), a0_refusedAsBad)) else (if p3 = (2 : Int32) then (Option.bind (sp_X3_loadOn p1 p2 fa0_town_site_heights fa0_town_site_storeyKinds) fun z7 => some (z7, a0_refusedAsBad)) else ((lt_ (sp_X7_bad (-100 : Int32) a0_refusedAsBad) fun z8 => some (z8.1, z8.2)))))))
set_option maxHeartbeats 4000000 in
set_option maxRecDepth 100000 in
theorem c_X7_of (l : Launch) (E : wE) (a0 a0_town a0_draft a0_images a0_text a0_planner a0_trial a0_spread a0_spreadBehind a0_tally a0_town_pulls a0_town_site a0_town_past a0_town_views a0_town_notes a0_town_marks a0_town_site_heights a0_town_site_storeyKinds a0_town_site_storeyTilts : Nat) (p1 : Int32) (p2 : Int32) (p3 : Int32) (a0_imagesKept : Int32) (a0_above : Int64) (a0_below : Int64) (a0_refusedAsBad : Int32) (a0_refusedAsNo : Int32) (a0_refusedAsFull : Int32) (a0_town_kind : Int32) (a0_town_pasts : Int32) (a0_town_members : Int32) (a0_town_noteCount : Int32) (a0_town_markCount : Int32) (a0_town_site_off : Int32) (a0_town_site_year : Int32) (fa0_town_site_heights : Nat → Int32) (fa0_town_site_storeyKinds : Nat → Int32) (fa0_town_site_storeyTilts : Nat → Int32) (z_0 : Int32) (z_1 : Int32) (hsp : sp_X7_of p1 p2 p3 a0_refusedAsBad fa0_town_site_heights fa0_town_site_storeyKinds fa0_town_site_storeyTilts = some (z_0, z_1)) : MW l yX7_of cX7_of 4 (some .int) 3 E [.ref a0, .int p1, .int p2, .int p3] [(a0, .inr (4, [.ref a0_town, .ref a0_draft, .ref a0_images, .int a0_imagesKept, .ref a0_text, .ref a0_planner, .ref a0_trial, .ref a0_spread, .ref a0_spreadBehind, .ref a0_tally, .long a0_above, .long a0_below, .int a0_refusedAsBad, .int a0_refusedAsNo, .int a0_refusedAsFull])), (a0_town, .inr (3, [.int a0_town_kind, .ref a0_town_pulls, .ref a0_town_site, .ref a0_town_past, .int a0_town_pasts, .ref a0_town_views, .int a0_town_members, .ref a0_town_notes, .int a0_town_noteCount, .ref a0_town_marks, .int a0_town_markCount])), (a0_town_site, .inr (1, [.int a0_town_site_off, .int a0_town_site_year, .ref a0_town_site_heights, .ref a0_town_site_storeyKinds, .ref a0_town_site_storeyTilts])), (a0_town_site_heights, aI E 6 fa0_town_site_heights), (a0_town_site_storeyKinds, aI E 30 fa0_town_site_storeyKinds), (a0_town_site_storeyTilts, aI E 30 fa0_town_site_storeyTilts)] (some (.int z_0)) [(a0, .inr (4, [.ref a0_town, .ref a0_draft, .ref a0_images, .int a0_imagesKept, .ref a0_text, .ref a0_planner, .ref a0_trial, .ref a0_spread, .ref a0_spreadBehind, .ref a0_tally, .long a0_above, .long a0_below, .int z_1, .int a0_refusedAsNo, .int a0_refusedAsFull])), (a0_town, .inr (3, [.int a0_town_kind, .ref a0_town_pulls, .ref a0_town_site, .ref a0_town_past, .int a0_town_pasts, .ref a0_town_views, .int a0_town_members, .ref a0_town_notes, .int a0_town_noteCount, .ref a0_town_marks, .int a0_town_markCount])), (a0_town_site, .inr (1, [.int a0_town_site_off, .int a0_town_site_year, .ref a0_town_site_heights, .ref a0_town_site_storeyKinds, .ref a0_town_site_storeyTilts])), (a0_town_site_heights, aI E 6 fa0_town_site_heights), (a0_town_site_storeyKinds, aI E 30 fa0_town_site_storeyKinds), (a0_town_site_storeyTilts, aI E 30 fa0_town_site_storeyTilts)] := by
  refine MW.of (by decide +kernel) (Nat.le_of_ble_eq_true rfl) ?_
  intro p e s m below meth c ls A hX hK hP hD hS hA hl
  have hX : CX p s m [.ref a0, .int p1, .int p2, .int p3].toArray meth c cX7_of 4 (some .int) RX7 := hX
  have hx := hX.1; have hb := hX.2.1; have hts := hX.2.2.2.2.1; have hown := hX.2.2.2.2.2.1
  have hl : lv_has ls 4 [(0, .ref a0), (1, .int p1), (2, .int p2), (3, .int p3)] := hl
  have hP : wP E [(a0, .inr (4, [.ref a0_town, .ref a0_draft, .ref a0_images, .int a0_imagesKept, .ref a0_text, .ref a0_planner, .ref a0_trial, .ref a0_spread, .ref a0_spreadBehind, .ref a0_tally, .long a0_above, .long a0_below, .int a0_refusedAsBad, .int a0_refusedAsNo, .int a0_refusedAsFull])), (a0_town, .inr (3, [.int a0_town_kind, .ref a0_town_pulls, .ref a0_town_site, .ref a0_town_past, .int a0_town_pasts, .ref a0_town_views, .int a0_town_members, .ref a0_town_notes, .int a0_town_noteCount, .ref a0_town_marks, .int a0_town_markCount])), (a0_town_site, .inr (1, [.int a0_town_site_off, .int a0_town_site_year, .ref a0_town_site_heights, .ref a0_town_site_storeyKinds, .ref a0_town_site_storeyTilts])), (a0_town_site_heights, aI E 6 fa0_town_site_heights), (a0_town_site_storeyKinds, aI E 30 fa0_town_site_storeyKinds), (a0_town_site_storeyTilts, aI E 30 fa0_town_site_storeyTilts)] s.heap := hP
  have hsp : (if (sp_X7_isPlot p1) = 0 then (lt_ (sp_X7_bad (-100 : Int32) a0_refusedAsBad) fun z2 => some (z2.1, z2.2)) else (if (sp_X2_within p2 (0 : Int32) ((sp_X3_height p1 fa0_town_site_heights) - (1 : Int32))) = 0 then (lt_ (sp_X7_bad (-100 : Int32) a0_refusedAsBad) fun z9 => some (z9.1, z9.2)) else (if p3 = (0 : Int32) then (some ((sp_X3_kindAt p1 p2 fa0_town_site_storeyKinds), a0_refusedAsBad)) else (if p3 = (1 : Int32) then (some ((sp_X3_tiltAt p1 p2 fa0_town_site_storeyTilts), a0_refusedAsBad)) else (if p3 = (2 : Int32) then (Option.bind (sp_X3_loadOn p1 p2 fa0_town_site_heights fa0_town_site_storeyKinds) fun z7 => some (z7, a0_refusedAsBad)) else ((lt_ (sp_X7_bad (-100 : Int32) a0_refusedAsBad) fun z8 => some (z8.1, z8.2)))))))) = some (z_0, z_1) := hsp
  refine lv_iload_n hx hb dX7_of_0 rfl (lv_at hl 1 rfl) (W.pc 1 rfl ?_)
  refine kSR (st1 := [.int (sp_X7_isPlot p1)]) hX (c_X7_isPlot l E p1 _ rfl) B_X7_isPlot w_3_0 hK (hP.pick [] rfl) rfl hl.1 rfl (Nat.le_of_ble_eq_true rfl) ⟨Nat.le_of_ble_eq_true rfl, Nat.le_of_ble_eq_true rfl⟩ dX7_of_1 rfl (W.pc 4 rfl ?_)
  refine lv_if_eq (tgt := 28) hx hb dX7_of_4 (by decide) (fun c1 => ?_) (fun c1 => W.pc 7 rfl ?_)
  · have hsp := ip hsp c1
    refine lv_aload_n hx hb dX7_of_28 rfl (lv_at hl 0 rfl) (W.pc 29 rfl ?_)
    refine lv_bipush (v := (-100 : Int32)) hx hb dX7_of_29 (by decide) (W.pc 31 rfl ?_)
    obtain ⟨z2, hr_z2, hsp⟩ := ltb_s hsp
    refine kVW (st1 := [.int z2.1]) (ws' := [(a0, .inr (4, [.ref a0_town, .ref a0_draft, .ref a0_images, .int a0_imagesKept, .ref a0_text, .ref a0_planner, .ref a0_trial, .ref a0_spread, .ref a0_spreadBehind, .ref a0_tally, .long a0_above, .long a0_below, .int z2.2, .int a0_refusedAsNo, .int a0_refusedAsFull])), (a0_town, .inr (3, [.int a0_town_kind, .ref a0_town_pulls, .ref a0_town_site, .ref a0_town_past, .int a0_town_pasts, .ref a0_town_views, .int a0_town_members, .ref a0_town_notes, .int a0_town_noteCount, .ref a0_town_marks, .int a0_town_markCount])), (a0_town_site, .inr (1, [.int a0_town_site_off, .int a0_town_site_year, .ref a0_town_site_heights, .ref a0_town_site_storeyKinds, .ref a0_town_site_storeyTilts])), (a0_town_site_heights, aI E 6 fa0_town_site_heights), (a0_town_site_storeyKinds, aI E 30 fa0_town_site_storeyKinds), (a0_town_site_storeyTilts, aI E 30 fa0_town_site_storeyTilts)]) [0] hX (c_X7_bad l E a0 a0_town a0_draft a0_images a0_text a0_planner a0_trial a0_spread a0_spreadBehind a0_tally (-100 : Int32) a0_imagesKept a0_above a0_below a0_refusedAsBad a0_refusedAsNo a0_refusedAsFull z2.1 z2.2 hr_z2) B_X7_bad w_1_234 hK hP hD hS hA (by decide) rfl rfl rfl (q0 := 0) (ci := 4) rfl rfl rfl rfl hl.1 rfl (Nat.le_of_ble_eq_true rfl) ⟨Nat.le_of_ble_eq_true rfl, Nat.le_of_ble_eq_true rfl⟩ dX7_of_31 rfl (fun H locs hP hD hS => W.pc 34 rfl ?_)
    cases hsp
    exact rWi hX hP hS rfl rfl dX7_of_34
  · have hsp := iq hsp c1
    refine lv_iload_n hx hb dX7_of_7 rfl (lv_at hl 2 rfl) (W.pc 8 rfl ?_)
    refine lv_iconst (v := (0 : Int32)) hx hb dX7_of_8 (by decide) (W.pc 9 rfl ?_)
    refine lv_aload_n hx hb dX7_of_9 rfl (lv_at hl 0 rfl) (W.pc 10 rfl ?_)
    refine va_get (D := E.1) (ci := 4) (v := .ref a0_town) (C := RX7) (T := TX7) (N := 15) hx hb hts inT_X7 hown hK hP 0 rfl rfl 0 (by decide) (hts _ w_1_178) (fun _ h9 => h9) rfl dX7_of_10 (W.pc 13 rfl ?_)
    refine va_get (D := E.1) (ci := 3) (v := .ref a0_town_site) (C := RX6) (T := TX6) (N := 11) hx hb hts inT_X6 hown hK hP 1 rfl rfl 2 (by decide) (hts _ w_1_68) (fun _ h9 => h9) rfl dX7_of_13 (W.pc 16 rfl ?_)
    refine lv_iload_n hx hb dX7_of_16 rfl (lv_at hl 1 rfl) (W.pc 17 rfl ?_)
    refine kVR (st1 := [.int (sp_X3_height p1 fa0_town_site_heights), .int (0 : Int32), .int p2]) hX (c_X3_height l E a0_town_site a0_town_site_heights a0_town_site_storeyKinds a0_town_site_storeyTilts p1 a0_town_site_off a0_town_site_year fa0_town_site_heights _ rfl) B_X3_height w_3_3 hK (hP.pick [2, 3] rfl) (q0 := 0) (ci := 1) rfl rfl rfl rfl hl.1 rfl (Nat.le_of_ble_eq_true rfl) ⟨Nat.le_of_ble_eq_true rfl, Nat.le_of_ble_eq_true rfl⟩ dX7_of_17 rfl (W.pc 20 rfl ?_)
    refine lv_iconst (v := (1 : Int32)) hx hb dX7_of_20 (by decide) (W.pc 21 rfl ?_)
    refine lv_isub hx hb dX7_of_21 (W.pc 22 rfl ?_)
    refine kSR (st1 := [.int (sp_X2_within p2 (0 : Int32) ((sp_X3_height p1 fa0_town_site_heights) - (1 : Int32)))]) hX (c_X2_within l E p2 (0 : Int32) ((sp_X3_height p1 fa0_town_site_heights) - (1 : Int32)) _ rfl) B_X2_within w_1_231 hK (hP.pick [] rfl) rfl hl.1 rfl (Nat.le_of_ble_eq_true rfl) ⟨Nat.le_of_ble_eq_true rfl, Nat.le_of_ble_eq_true rfl⟩ dX7_of_22 rfl (W.pc 25 rfl ?_)
    refine lv_if_ne (tgt := 35) hx hb dX7_of_25 (by decide) (fun c3 => ?_) (fun c3 => W.pc 28 rfl ?_)
    · have hsp := iq hsp c3
      refine lv_iload_n hx hb dX7_of_35 rfl (lv_at hl 3 rfl) (W.pc 36 rfl ?_)
      by_cases c4 : p3 = (0 : Int32)
      · have hsp := ip hsp c4
        refine lv_tableIn (off := 28) (tgt := 64) hx hb dX7_of_36 (by rw [c4]; decide) (by rw [c4]; decide) (by rw [c4]; rfl) (by decide) ?_
        refine lv_aload_n hx hb dX7_of_64 rfl (lv_at hl 0 rfl) (W.pc 65 rfl ?_)
        refine va_get (D := E.1) (ci := 4) (v := .ref a0_town) (C := RX7) (T := TX7) (N := 15) hx hb hts inT_X7 hown hK hP 0 rfl rfl 0 (by decide) (hts _ w_1_178) (fun _ h9 => h9) rfl dX7_of_65 (W.pc 68 rfl ?_)
        refine va_get (D := E.1) (ci := 3) (v := .ref a0_town_site) (C := RX6) (T := TX6) (N := 11) hx hb hts inT_X6 hown hK hP 1 rfl rfl 2 (by decide) (hts _ w_1_68) (fun _ h9 => h9) rfl dX7_of_68 (W.pc 71 rfl ?_)
        refine lv_iload_n hx hb dX7_of_71 rfl (lv_at hl 1 rfl) (W.pc 72 rfl ?_)
        refine lv_iload_n hx hb dX7_of_72 rfl (lv_at hl 2 rfl) (W.pc 73 rfl ?_)
        refine kVR (st1 := [.int (sp_X3_kindAt p1 p2 fa0_town_site_storeyKinds)]) hX (c_X3_kindAt l E a0_town_site a0_town_site_heights a0_town_site_storeyKinds a0_town_site_storeyTilts p1 p2 a0_town_site_off a0_town_site_year fa0_town_site_storeyKinds _ rfl) B_X3_kindAt w_3_43 hK (hP.pick [2, 4] rfl) (q0 := 0) (ci := 1) rfl rfl rfl rfl hl.1 rfl (Nat.le_of_ble_eq_true rfl) ⟨Nat.le_of_ble_eq_true rfl, Nat.le_of_ble_eq_true rfl⟩ dX7_of_73 rfl (W.pc 76 rfl ?_)
        cases hsp
        exact rWi hX hP hS rfl rfl dX7_of_76
      · have hsp := iq hsp c4
        by_cases c5 : p3 = (1 : Int32)
        · have hsp := ip hsp c5
          refine lv_tableIn (off := 41) (tgt := 77) hx hb dX7_of_36 (by rw [c5]; decide) (by rw [c5]; decide) (by rw [c5]; rfl) (by decide) ?_
          refine lv_aload_n hx hb dX7_of_77 rfl (lv_at hl 0 rfl) (W.pc 78 rfl ?_)
          refine va_get (D := E.1) (ci := 4) (v := .ref a0_town) (C := RX7) (T := TX7) (N := 15) hx hb hts inT_X7 hown hK hP 0 rfl rfl 0 (by decide) (hts _ w_1_178) (fun _ h9 => h9) rfl dX7_of_78 (W.pc 81 rfl ?_)
          refine va_get (D := E.1) (ci := 3) (v := .ref a0_town_site) (C := RX6) (T := TX6) (N := 11) hx hb hts inT_X6 hown hK hP 1 rfl rfl 2 (by decide) (hts _ w_1_68) (fun _ h9 => h9) rfl dX7_of_81 (W.pc 84 rfl ?_)
          refine lv_iload_n hx hb dX7_of_84 rfl (lv_at hl 1 rfl) (W.pc 85 rfl ?_)
          refine lv_iload_n hx hb dX7_of_85 rfl (lv_at hl 2 rfl) (W.pc 86 rfl ?_)
          refine kVR (st1 := [.int (sp_X3_tiltAt p1 p2 fa0_town_site_storeyTilts)]) hX (c_X3_tiltAt l E a0_town_site a0_town_site_heights a0_town_site_storeyKinds a0_town_site_storeyTilts p1 p2 a0_town_site_off a0_town_site_year fa0_town_site_storeyTilts _ rfl) B_X3_tiltAt w_3_44 hK (hP.pick [2, 5] rfl) (q0 := 0) (ci := 1) rfl rfl rfl rfl hl.1 rfl (Nat.le_of_ble_eq_true rfl) ⟨Nat.le_of_ble_eq_true rfl, Nat.le_of_ble_eq_true rfl⟩ dX7_of_86 rfl (W.pc 89 rfl ?_)
          cases hsp
          exact rWi hX hP hS rfl rfl dX7_of_89
        · have hsp := iq hsp c5
          by_cases c6 : p3 = (2 : Int32)
          · have hsp := ip hsp c6
            refine lv_tableIn (off := 54) (tgt := 90) hx hb dX7_of_36 (by rw [c6]; decide) (by rw [c6]; decide) (by rw [c6]; rfl) (by decide) ?_
            refine lv_aload_n hx hb dX7_of_90 rfl (lv_at hl 0 rfl) (W.pc 91 rfl ?_)
            refine va_get (D := E.1) (ci := 4) (v := .ref a0_town) (C := RX7) (T := TX7) (N := 15) hx hb hts inT_X7 hown hK hP 0 rfl rfl 0 (by decide) (hts _ w_1_178) (fun _ h9 => h9) rfl dX7_of_91 (W.pc 94 rfl ?_)
            refine va_get (D := E.1) (ci := 3) (v := .ref a0_town_site) (C := RX6) (T := TX6) (N := 11) hx hb hts inT_X6 hown hK hP 1 rfl rfl 2 (by decide) (hts _ w_1_68) (fun _ h9 => h9) rfl dX7_of_94 (W.pc 97 rfl ?_)
            refine lv_iload_n hx hb dX7_of_97 rfl (lv_at hl 1 rfl) (W.pc 98 rfl ?_)
            refine lv_iload_n hx hb dX7_of_98 rfl (lv_at hl 2 rfl) (W.pc 99 rfl ?_)
            obtain ⟨z7, hr_z7, hsp⟩ := bd_s hsp
            refine kVR (st1 := [.int z7]) hX (c_X3_loadOn l E a0_town_site a0_town_site_heights a0_town_site_storeyKinds a0_town_site_storeyTilts p1 p2 a0_town_site_off a0_town_site_year fa0_town_site_heights fa0_town_site_storeyKinds z7 hr_z7) B_X3_loadOn w_3_45 hK (hP.pick [2, 3, 4] rfl) (q0 := 0) (ci := 1) rfl rfl rfl rfl hl.1 rfl (Nat.le_of_ble_eq_true rfl) ⟨Nat.le_of_ble_eq_true rfl, Nat.le_of_ble_eq_true rfl⟩ dX7_of_99 rfl (W.pc 102 rfl ?_)
            cases hsp
            exact rWi hX hP hS rfl rfl dX7_of_102
          · have hsp := iq hsp c6
            refine lv_tableOut (tgt := 103) hx hb dX7_of_36 (by have := lv_neT c4 (a := 0) rfl; have := lv_neT c5 (a := 1) rfl; have := lv_neT c6 (a := 2) rfl;  omega) (by decide) ?_
            refine lv_aload_n hx hb dX7_of_103 rfl (lv_at hl 0 rfl) (W.pc 104 rfl ?_)
            refine lv_bipush (v := (-100 : Int32)) hx hb dX7_of_104 (by decide) (W.pc 106 rfl ?_)
            obtain ⟨z8, hr_z8, hsp⟩ := ltb_s hsp
            refine kVW (st1 := [.int z8.1]) (ws' := [(a0, .inr (4, [.ref a0_town, .ref a0_draft, .ref a0_images, .int a0_imagesKept, .ref a0_text, .ref a0_planner, .ref a0_trial, .ref a0_spread, .ref a0_spreadBehind, .ref a0_tally, .long a0_above, .long a0_below, .int z8.2, .int a0_refusedAsNo, .int a0_refusedAsFull])), (a0_town, .inr (3, [.int a0_town_kind, .ref a0_town_pulls, .ref a0_town_site, .ref a0_town_past, .int a0_town_pasts, .ref a0_town_views, .int a0_town_members, .ref a0_town_notes, .int a0_town_noteCount, .ref a0_town_marks, .int a0_town_markCount])), (a0_town_site, .inr (1, [.int a0_town_site_off, .int a0_town_site_year, .ref a0_town_site_heights, .ref a0_town_site_storeyKinds, .ref a0_town_site_storeyTilts])), (a0_town_site_heights, aI E 6 fa0_town_site_heights), (a0_town_site_storeyKinds, aI E 30 fa0_town_site_storeyKinds), (a0_town_site_storeyTilts, aI E 30 fa0_town_site_storeyTilts)]) [0] hX (c_X7_bad l E a0 a0_town a0_draft a0_images a0_text a0_planner a0_trial a0_spread a0_spreadBehind a0_tally (-100 : Int32) a0_imagesKept a0_above a0_below a0_refusedAsBad a0_refusedAsNo a0_refusedAsFull z8.1 z8.2 hr_z8) B_X7_bad w_1_234 hK hP hD hS hA (by decide) rfl rfl rfl (q0 := 0) (ci := 4) rfl rfl rfl rfl hl.1 rfl (Nat.le_of_ble_eq_true rfl) ⟨Nat.le_of_ble_eq_true rfl, Nat.le_of_ble_eq_true rfl⟩ dX7_of_106 rfl (fun H locs hP hD hS => W.pc 109 rfl ?_)
            cases hsp
            exact rWi hX hP hS rfl rfl dX7_of_109
    · have hsp := ip hsp c3
      refine lv_aload_n hx hb dX7_of_28 rfl (lv_at hl 0 rfl) (W.pc 29 rfl ?_)
      refine lv_bipush (v := (-100 : Int32)) hx hb dX7_of_29 (by decide) (W.pc 31 rfl ?_)
      obtain ⟨z9, hr_z9, hsp⟩ := ltb_s hsp
      refine kVW (st1 := [.int z9.1]) (ws' := [(a0, .inr (4, [.ref a0_town, .ref a0_draft, .ref a0_images, .int a0_imagesKept, .ref a0_text, .ref a0_planner, .ref a0_trial, .ref a0_spread, .ref a0_spreadBehind, .ref a0_tally, .long a0_above, .long a0_below, .int z9.2, .int a0_refusedAsNo, .int a0_refusedAsFull])), (a0_town, .inr (3, [.int a0_town_kind, .ref a0_town_pulls, .ref a0_town_site, .ref a0_town_past, .int a0_town_pasts, .ref a0_town_views, .int a0_town_members, .ref a0_town_notes, .int a0_town_noteCount, .ref a0_town_marks, .int a0_town_markCount])), (a0_town_site, .inr (1, [.int a0_town_site_off, .int a0_town_site_year, .ref a0_town_site_heights, .ref a0_town_site_storeyKinds, .ref a0_town_site_storeyTilts])), (a0_town_site_heights, aI E 6 fa0_town_site_heights), (a0_town_site_storeyKinds, aI E 30 fa0_town_site_storeyKinds), (a0_town_site_storeyTilts, aI E 30 fa0_town_site_storeyTilts)]) [0] hX (c_X7_bad l E a0 a0_town a0_draft a0_images a0_text a0_planner a0_trial a0_spread a0_spreadBehind a0_tally (-100 : Int32) a0_imagesKept a0_above a0_below a0_refusedAsBad a0_refusedAsNo a0_refusedAsFull z9.1 z9.2 hr_z9) B_X7_bad w_1_234 hK hP hD hS hA (by decide) rfl rfl rfl (q0 := 0) (ci := 4) rfl rfl rfl rfl hl.1 rfl (Nat.le_of_ble_eq_true rfl) ⟨Nat.le_of_ble_eq_true rfl, Nat.le_of_ble_eq_true rfl⟩ dX7_of_31 rfl (fun H locs hP hD hS => W.pc 34 rfl ?_)
      cases hsp
      exact rWi hX hP hS rfl rfl dX7_of_34
noncomputable def sp_X7_plot (p1 : Int32) (p2 : Int32) (a0_refusedAsBad : Int32) (fa0_town_site_heights : Nat → Int32) (fa0_town_site_storeyTilts : Nat → Int32) (fa0_town_site_storeyKinds : Nat → Int32) : Option (Int32 × Int32) := if (sp_X7_isPlot p1) = 0 then (lt_ (sp_X7_bad (-100 : Int32) a0_refusedAsBad) fun z7 => some (z7.1, z7.2)) else (if p2 = (0 : Int32) then (some ((sp_X3_height p1 fa0_town_site_heights), a0_refusedAsBad)) else (if p2 = (1 : Int32) then (some ((sp_X3_top p1 fa0_town_site_heights fa0_town_site_storeyTilts), a0_refusedAsBad)) else (if p2 = (2 : Int32) then (Option.bind (sp_X3_weight p1 fa0_town_site_heights fa0_town_site_storeyKinds) fun z5 => some (z5, a0_refusedAsBad)) else ((lt_ (sp_X7_bad (-100 : Int32) a0_refusedAsBad) fun z6 => some (z6.1, z6.2))))))
set_option maxHeartbeats 4000000 in
set_option maxRecDepth 100000 in
theorem c_X7_plot (l : Launch) (E : wE) (a0 a0_town a0_draft a0_images a0_text a0_planner a0_trial a0_spread a0_spreadBehind a0_tally a0_town_pulls a0_town_site a0_town_past a0_town_views a0_town_notes a0_town_marks a0_town_site_heights a0_town_site_storeyKinds a0_town_site_storeyTilts : Nat) (p1 : Int32) (p2 : Int32) (a0_imagesKept : Int32) (a0_above : Int64) (a0_below : Int64) (a0_refusedAsBad : Int32) (a0_refusedAsNo : Int32) (a0_refusedAsFull : Int32) (a0_town_kind : Int32) (a0_town_pasts : Int32) (a0_town_members : Int32) (a0_town_noteCount : Int32) (a0_town_markCount : Int32) (a0_town_site_off : Int32) (a0_town_site_year : Int32) (fa0_town_site_heights : Nat → Int32) (fa0_town_site_storeyTilts : Nat → Int32) (fa0_town_site_storeyKinds : Nat → Int32) (z_0 : Int32) (z_1 : Int32) (hsp : sp_X7_plot p1 p2 a0_refusedAsBad fa0_town_site_heights fa0_town_site_storeyTilts fa0_town_site_storeyKinds = some (z_0, z_1)) : MW l yX7_plot cX7_plot 3 (some .int) 4 E [.ref a0, .int p1, .int p2] [(a0, .inr (4, [.ref a0_town, .ref a0_draft, .ref a0_images, .int a0_imagesKept, .ref a0_text, .ref a0_planner, .ref a0_trial, .ref a0_spread, .ref a0_spreadBehind, .ref a0_tally, .long a0_above, .long a0_below, .int a0_refusedAsBad, .int a0_refusedAsNo, .int a0_refusedAsFull])), (a0_town, .inr (3, [.int a0_town_kind, .ref a0_town_pulls, .ref a0_town_site, .ref a0_town_past, .int a0_town_pasts, .ref a0_town_views, .int a0_town_members, .ref a0_town_notes, .int a0_town_noteCount, .ref a0_town_marks, .int a0_town_markCount])), (a0_town_site, .inr (1, [.int a0_town_site_off, .int a0_town_site_year, .ref a0_town_site_heights, .ref a0_town_site_storeyKinds, .ref a0_town_site_storeyTilts])), (a0_town_site_heights, aI E 6 fa0_town_site_heights), (a0_town_site_storeyTilts, aI E 30 fa0_town_site_storeyTilts), (a0_town_site_storeyKinds, aI E 30 fa0_town_site_storeyKinds)] (some (.int z_0)) [(a0, .inr (4, [.ref a0_town, .ref a0_draft, .ref a0_images, .int a0_imagesKept, .ref a0_text, .ref a0_planner, .ref a0_trial, .ref a0_spread, .ref a0_spreadBehind, .ref a0_tally, .long a0_above, .long a0_below, .int z_1, .int a0_refusedAsNo, .int a0_refusedAsFull])), (a0_town, .inr (3, [.int a0_town_kind, .ref a0_town_pulls, .ref a0_town_site, .ref a0_town_past, .int a0_town_pasts, .ref a0_town_views, .int a0_town_members, .ref a0_town_notes, .int a0_town_noteCount, .ref a0_town_marks, .int a0_town_markCount])), (a0_town_site, .inr (1, [.int a0_town_site_off, .int a0_town_site_year, .ref a0_town_site_heights, .ref a0_town_site_storeyKinds, .ref a0_town_site_storeyTilts])), (a0_town_site_heights, aI E 6 fa0_town_site_heights), (a0_town_site_storeyTilts, aI E 30 fa0_town_site_storeyTilts), (a0_town_site_storeyKinds, aI E 30 fa0_town_site_storeyKinds)] := by
  refine MW.of (by decide +kernel) (Nat.le_of_ble_eq_true rfl) ?_
  intro p e s m below meth c ls A hX hK hP hD hS hA hl
  have hX : CX p s m [.ref a0, .int p1, .int p2].toArray meth c cX7_plot 3 (some .int) RX7 := hX
  have hx := hX.1; have hb := hX.2.1; have hts := hX.2.2.2.2.1; have hown := hX.2.2.2.2.2.1
  have hl : lv_has ls 3 [(0, .ref a0), (1, .int p1), (2, .int p2)] := hl
  have hP : wP E [(a0, .inr (4, [.ref a0_town, .ref a0_draft, .ref a0_images, .int a0_imagesKept, .ref a0_text, .ref a0_planner, .ref a0_trial, .ref a0_spread, .ref a0_spreadBehind, .ref a0_tally, .long a0_above, .long a0_below, .int a0_refusedAsBad, .int a0_refusedAsNo, .int a0_refusedAsFull])), (a0_town, .inr (3, [.int a0_town_kind, .ref a0_town_pulls, .ref a0_town_site, .ref a0_town_past, .int a0_town_pasts, .ref a0_town_views, .int a0_town_members, .ref a0_town_notes, .int a0_town_noteCount, .ref a0_town_marks, .int a0_town_markCount])), (a0_town_site, .inr (1, [.int a0_town_site_off, .int a0_town_site_year, .ref a0_town_site_heights, .ref a0_town_site_storeyKinds, .ref a0_town_site_storeyTilts])), (a0_town_site_heights, aI E 6 fa0_town_site_heights), (a0_town_site_storeyTilts, aI E 30 fa0_town_site_storeyTilts), (a0_town_site_storeyKinds, aI E 30 fa0_town_site_storeyKinds)] s.heap := hP
  have hsp : (if (sp_X7_isPlot p1) = 0 then (lt_ (sp_X7_bad (-100 : Int32) a0_refusedAsBad) fun z7 => some (z7.1, z7.2)) else (if p2 = (0 : Int32) then (some ((sp_X3_height p1 fa0_town_site_heights), a0_refusedAsBad)) else (if p2 = (1 : Int32) then (some ((sp_X3_top p1 fa0_town_site_heights fa0_town_site_storeyTilts), a0_refusedAsBad)) else (if p2 = (2 : Int32) then (Option.bind (sp_X3_weight p1 fa0_town_site_heights fa0_town_site_storeyKinds) fun z5 => some (z5, a0_refusedAsBad)) else ((lt_ (sp_X7_bad (-100 : Int32) a0_refusedAsBad) fun z6 => some (z6.1, z6.2))))))) = some (z_0, z_1) := hsp
  refine lv_iload_n hx hb dX7_plot_0 rfl (lv_at hl 1 rfl) (W.pc 1 rfl ?_)
  refine kSR (st1 := [.int (sp_X7_isPlot p1)]) hX (c_X7_isPlot l E p1 _ rfl) B_X7_isPlot w_3_0 hK (hP.pick [] rfl) rfl hl.1 rfl (Nat.le_of_ble_eq_true rfl) ⟨Nat.le_of_ble_eq_true rfl, Nat.le_of_ble_eq_true rfl⟩ dX7_plot_1 rfl (W.pc 4 rfl ?_)
  refine lv_if_ne (tgt := 14) hx hb dX7_plot_4 (by decide) (fun c1 => ?_) (fun c1 => W.pc 7 rfl ?_)
  · have hsp := iq hsp c1
    refine lv_iload_n hx hb dX7_plot_14 rfl (lv_at hl 2 rfl) (W.pc 15 rfl ?_)
    by_cases c2 : p2 = (0 : Int32)
    · have hsp := ip hsp c2
      refine lv_tableIn (off := 25) (tgt := 40) hx hb dX7_plot_15 (by rw [c2]; decide) (by rw [c2]; decide) (by rw [c2]; rfl) (by decide) ?_
      refine lv_aload_n hx hb dX7_plot_40 rfl (lv_at hl 0 rfl) (W.pc 41 rfl ?_)
      refine va_get (D := E.1) (ci := 4) (v := .ref a0_town) (C := RX7) (T := TX7) (N := 15) hx hb hts inT_X7 hown hK hP 0 rfl rfl 0 (by decide) (hts _ w_1_178) (fun _ h9 => h9) rfl dX7_plot_41 (W.pc 44 rfl ?_)
      refine va_get (D := E.1) (ci := 3) (v := .ref a0_town_site) (C := RX6) (T := TX6) (N := 11) hx hb hts inT_X6 hown hK hP 1 rfl rfl 2 (by decide) (hts _ w_1_68) (fun _ h9 => h9) rfl dX7_plot_44 (W.pc 47 rfl ?_)
      refine lv_iload_n hx hb dX7_plot_47 rfl (lv_at hl 1 rfl) (W.pc 48 rfl ?_)
      refine kVR (st1 := [.int (sp_X3_height p1 fa0_town_site_heights)]) hX (c_X3_height l E a0_town_site a0_town_site_heights a0_town_site_storeyKinds a0_town_site_storeyTilts p1 a0_town_site_off a0_town_site_year fa0_town_site_heights _ rfl) B_X3_height w_3_3 hK (hP.pick [2, 3] rfl) (q0 := 0) (ci := 1) rfl rfl rfl rfl hl.1 rfl (Nat.le_of_ble_eq_true rfl) ⟨Nat.le_of_ble_eq_true rfl, Nat.le_of_ble_eq_true rfl⟩ dX7_plot_48 rfl (W.pc 51 rfl ?_)
      cases hsp
      exact rWi hX hP hS rfl rfl dX7_plot_51
    · have hsp := iq hsp c2
      by_cases c3 : p2 = (1 : Int32)
      · have hsp := ip hsp c3
        refine lv_tableIn (off := 37) (tgt := 52) hx hb dX7_plot_15 (by rw [c3]; decide) (by rw [c3]; decide) (by rw [c3]; rfl) (by decide) ?_
        refine lv_aload_n hx hb dX7_plot_52 rfl (lv_at hl 0 rfl) (W.pc 53 rfl ?_)
        refine va_get (D := E.1) (ci := 4) (v := .ref a0_town) (C := RX7) (T := TX7) (N := 15) hx hb hts inT_X7 hown hK hP 0 rfl rfl 0 (by decide) (hts _ w_1_178) (fun _ h9 => h9) rfl dX7_plot_53 (W.pc 56 rfl ?_)
        refine va_get (D := E.1) (ci := 3) (v := .ref a0_town_site) (C := RX6) (T := TX6) (N := 11) hx hb hts inT_X6 hown hK hP 1 rfl rfl 2 (by decide) (hts _ w_1_68) (fun _ h9 => h9) rfl dX7_plot_56 (W.pc 59 rfl ?_)
        refine lv_iload_n hx hb dX7_plot_59 rfl (lv_at hl 1 rfl) (W.pc 60 rfl ?_)
        refine kVR (st1 := [.int (sp_X3_top p1 fa0_town_site_heights fa0_town_site_storeyTilts)]) hX (c_X3_top l E a0_town_site a0_town_site_heights a0_town_site_storeyKinds a0_town_site_storeyTilts p1 a0_town_site_off a0_town_site_year fa0_town_site_heights fa0_town_site_storeyTilts _ rfl) B_X3_top w_3_53 hK (hP.pick [2, 3, 4] rfl) (q0 := 0) (ci := 1) rfl rfl rfl rfl hl.1 rfl (Nat.le_of_ble_eq_true rfl) ⟨Nat.le_of_ble_eq_true rfl, Nat.le_of_ble_eq_true rfl⟩ dX7_plot_60 rfl (W.pc 63 rfl ?_)
        cases hsp
        exact rWi hX hP hS rfl rfl dX7_plot_63
      · have hsp := iq hsp c3
        by_cases c4 : p2 = (2 : Int32)
        · have hsp := ip hsp c4
          refine lv_tableIn (off := 49) (tgt := 64) hx hb dX7_plot_15 (by rw [c4]; decide) (by rw [c4]; decide) (by rw [c4]; rfl) (by decide) ?_
          refine lv_aload_n hx hb dX7_plot_64 rfl (lv_at hl 0 rfl) (W.pc 65 rfl ?_)
          refine va_get (D := E.1) (ci := 4) (v := .ref a0_town) (C := RX7) (T := TX7) (N := 15) hx hb hts inT_X7 hown hK hP 0 rfl rfl 0 (by decide) (hts _ w_1_178) (fun _ h9 => h9) rfl dX7_plot_65 (W.pc 68 rfl ?_)
          refine va_get (D := E.1) (ci := 3) (v := .ref a0_town_site) (C := RX6) (T := TX6) (N := 11) hx hb hts inT_X6 hown hK hP 1 rfl rfl 2 (by decide) (hts _ w_1_68) (fun _ h9 => h9) rfl dX7_plot_68 (W.pc 71 rfl ?_)
          refine lv_iload_n hx hb dX7_plot_71 rfl (lv_at hl 1 rfl) (W.pc 72 rfl ?_)
          obtain ⟨z5, hr_z5, hsp⟩ := bd_s hsp
          refine kVR (st1 := [.int z5]) hX (c_X3_weight l E a0_town_site a0_town_site_heights a0_town_site_storeyKinds a0_town_site_storeyTilts p1 a0_town_site_off a0_town_site_year fa0_town_site_heights fa0_town_site_storeyKinds z5 hr_z5) B_X3_weight w_3_57 hK (hP.pick [2, 3, 5] rfl) (q0 := 0) (ci := 1) rfl rfl rfl rfl hl.1 rfl (Nat.le_of_ble_eq_true rfl) ⟨Nat.le_of_ble_eq_true rfl, Nat.le_of_ble_eq_true rfl⟩ dX7_plot_72 rfl (W.pc 75 rfl ?_)
          cases hsp
          exact rWi hX hP hS rfl rfl dX7_plot_75
        · have hsp := iq hsp c4
          refine lv_tableOut (tgt := 76) hx hb dX7_plot_15 (by have := lv_neT c2 (a := 0) rfl; have := lv_neT c3 (a := 1) rfl; have := lv_neT c4 (a := 2) rfl;  omega) (by decide) ?_
          refine lv_aload_n hx hb dX7_plot_76 rfl (lv_at hl 0 rfl) (W.pc 77 rfl ?_)
          refine lv_bipush (v := (-100 : Int32)) hx hb dX7_plot_77 (by decide) (W.pc 79 rfl ?_)
          obtain ⟨z6, hr_z6, hsp⟩ := ltb_s hsp
          refine kVW (st1 := [.int z6.1]) (ws' := [(a0, .inr (4, [.ref a0_town, .ref a0_draft, .ref a0_images, .int a0_imagesKept, .ref a0_text, .ref a0_planner, .ref a0_trial, .ref a0_spread, .ref a0_spreadBehind, .ref a0_tally, .long a0_above, .long a0_below, .int z6.2, .int a0_refusedAsNo, .int a0_refusedAsFull])), (a0_town, .inr (3, [.int a0_town_kind, .ref a0_town_pulls, .ref a0_town_site, .ref a0_town_past, .int a0_town_pasts, .ref a0_town_views, .int a0_town_members, .ref a0_town_notes, .int a0_town_noteCount, .ref a0_town_marks, .int a0_town_markCount])), (a0_town_site, .inr (1, [.int a0_town_site_off, .int a0_town_site_year, .ref a0_town_site_heights, .ref a0_town_site_storeyKinds, .ref a0_town_site_storeyTilts])), (a0_town_site_heights, aI E 6 fa0_town_site_heights), (a0_town_site_storeyTilts, aI E 30 fa0_town_site_storeyTilts), (a0_town_site_storeyKinds, aI E 30 fa0_town_site_storeyKinds)]) [0] hX (c_X7_bad l E a0 a0_town a0_draft a0_images a0_text a0_planner a0_trial a0_spread a0_spreadBehind a0_tally (-100 : Int32) a0_imagesKept a0_above a0_below a0_refusedAsBad a0_refusedAsNo a0_refusedAsFull z6.1 z6.2 hr_z6) B_X7_bad w_1_234 hK hP hD hS hA (by decide) rfl rfl rfl (q0 := 0) (ci := 4) rfl rfl rfl rfl hl.1 rfl (Nat.le_of_ble_eq_true rfl) ⟨Nat.le_of_ble_eq_true rfl, Nat.le_of_ble_eq_true rfl⟩ dX7_plot_79 rfl (fun H locs hP hD hS => W.pc 82 rfl ?_)
          cases hsp
          exact rWi hX hP hS rfl rfl dX7_plot_82
  · have hsp := ip hsp c1
    refine lv_aload_n hx hb dX7_plot_7 rfl (lv_at hl 0 rfl) (W.pc 8 rfl ?_)
    refine lv_bipush (v := (-100 : Int32)) hx hb dX7_plot_8 (by decide) (W.pc 10 rfl ?_)
    obtain ⟨z7, hr_z7, hsp⟩ := ltb_s hsp
    refine kVW (st1 := [.int z7.1]) (ws' := [(a0, .inr (4, [.ref a0_town, .ref a0_draft, .ref a0_images, .int a0_imagesKept, .ref a0_text, .ref a0_planner, .ref a0_trial, .ref a0_spread, .ref a0_spreadBehind, .ref a0_tally, .long a0_above, .long a0_below, .int z7.2, .int a0_refusedAsNo, .int a0_refusedAsFull])), (a0_town, .inr (3, [.int a0_town_kind, .ref a0_town_pulls, .ref a0_town_site, .ref a0_town_past, .int a0_town_pasts, .ref a0_town_views, .int a0_town_members, .ref a0_town_notes, .int a0_town_noteCount, .ref a0_town_marks, .int a0_town_markCount])), (a0_town_site, .inr (1, [.int a0_town_site_off, .int a0_town_site_year, .ref a0_town_site_heights, .ref a0_town_site_storeyKinds, .ref a0_town_site_storeyTilts])), (a0_town_site_heights, aI E 6 fa0_town_site_heights), (a0_town_site_storeyTilts, aI E 30 fa0_town_site_storeyTilts), (a0_town_site_storeyKinds, aI E 30 fa0_town_site_storeyKinds)]) [0] hX (c_X7_bad l E a0 a0_town a0_draft a0_images a0_text a0_planner a0_trial a0_spread a0_spreadBehind a0_tally (-100 : Int32) a0_imagesKept a0_above a0_below a0_refusedAsBad a0_refusedAsNo a0_refusedAsFull z7.1 z7.2 hr_z7) B_X7_bad w_1_234 hK hP hD hS hA (by decide) rfl rfl rfl (q0 := 0) (ci := 4) rfl rfl rfl rfl hl.1 rfl (Nat.le_of_ble_eq_true rfl) ⟨Nat.le_of_ble_eq_true rfl, Nat.le_of_ble_eq_true rfl⟩ dX7_plot_10 rfl (fun H locs hP hD hS => W.pc 13 rfl ?_)
    cases hsp
    exact rWi hX hP hS rfl rfl dX7_plot_13
