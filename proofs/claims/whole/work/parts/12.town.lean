theorem w_1_62 : Cond.fieldLink RX6 35 "LevelGone$Town" "kind" "I" ∈ TBL := TBL_t (tin1 (List.mem_of_getElem? (i := 62) (by decide +kernel))) (by decide +kernel)
theorem w_1_64 : Cond.fieldLink RX6 9 "LevelGone$Town" "pulls" "[I" ∈ TBL := TBL_t (tin1 (List.mem_of_getElem? (i := 64) (by decide +kernel))) (by decide +kernel)
theorem w_2_13 : Cond.methodLink RX6 39 yX2_empty ∈ TBL := TBL_t (tin2 (List.mem_of_getElem? (i := 13) (by decide +kernel))) (by decide +kernel)
theorem w_1_67 : Cond.fieldLink RX6 18 "LevelGone$Town" "site" "LLevelGone$Site;" ∈ TBL := TBL_t (tin1 (List.mem_of_getElem? (i := 67) (by decide +kernel))) (by decide +kernel)
theorem w_2_16 : Cond.methodLink RX6 45 yX3_empty ∈ TBL := TBL_t (tin2 (List.mem_of_getElem? (i := 16) (by decide +kernel))) (by decide +kernel)
theorem w_1_72 : Cond.fieldLink RX6 47 "LevelGone$Town" "pasts" "I" ∈ TBL := TBL_t (tin1 (List.mem_of_getElem? (i := 72) (by decide +kernel))) (by decide +kernel)
theorem w_1_76 : Cond.fieldLink RX6 50 "LevelGone$Town" "members" "I" ∈ TBL := TBL_t (tin1 (List.mem_of_getElem? (i := 76) (by decide +kernel))) (by decide +kernel)
theorem w_1_80 : Cond.fieldLink RX6 53 "LevelGone$Town" "noteCount" "I" ∈ TBL := TBL_t (tin1 (List.mem_of_getElem? (i := 80) (by decide +kernel))) (by decide +kernel)
theorem w_1_84 : Cond.fieldLink RX6 56 "LevelGone$Town" "markCount" "I" ∈ TBL := TBL_t (tin1 (List.mem_of_getElem? (i := 84) (by decide +kernel))) (by decide +kernel)
theorem w_2_196 : Cond.methodLink RX6 74 yX2_at ∈ TBL := TBL_t (tin2 (List.mem_of_getElem? (i := 196) (by decide +kernel))) (by decide +kernel)
theorem w_2_192 : Cond.methodLink RX6 78 yX6_pullOf ∈ TBL := TBL_t (tin2 (List.mem_of_getElem? (i := 192) (by decide +kernel))) (by decide +kernel)
theorem w_2_197 : Cond.methodLink RX6 82 yX0_behind ∈ TBL := TBL_t (tin2 (List.mem_of_getElem? (i := 197) (by decide +kernel))) (by decide +kernel)
theorem w_1_44 : Cond.fieldLink RX6 88 "LevelGone$Site" "year" "I" ∈ TBL := TBL_t (tin1 (List.mem_of_getElem? (i := 44) (by decide +kernel))) (by decide +kernel)
theorem w_1_41 : Cond.fieldLink RX6 91 "LevelGone$Site" "off" "I" ∈ TBL := TBL_t (tin1 (List.mem_of_getElem? (i := 41) (by decide +kernel))) (by decide +kernel)
theorem w_1_78 : Cond.fieldLink RX6 29 "LevelGone$Town" "notes" "[I" ∈ TBL := TBL_t (tin1 (List.mem_of_getElem? (i := 78) (by decide +kernel))) (by decide +kernel)
theorem w_1_82 : Cond.fieldLink RX6 32 "LevelGone$Town" "marks" "[I" ∈ TBL := TBL_t (tin1 (List.mem_of_getElem? (i := 82) (by decide +kernel))) (by decide +kernel)
theorem w_3_206 : Cond.methodLink RX6 94 yX4_stands ∈ TBL := TBL_t (tin3 (List.mem_of_getElem? (i := 206) (by decide +kernel))) (by decide +kernel)
theorem w_2_18 : Cond.selects yX3_empty.cls yX3_empty yX3_empty ∈ TBL := TBL_t (tin2 (List.mem_of_getElem? (i := 18) (by decide +kernel))) (by decide +kernel)
theorem w_2_19 : Cond.code yX3_empty cX3_empty 1 none ∈ TBL := TBL_t (tin2 (List.mem_of_getElem? (i := 19) (by decide +kernel))) (by decide +kernel)
theorem w_2_17 : Cond.instanceMethod yX3_empty ∈ TBL := TBL_t (tin2 (List.mem_of_getElem? (i := 17) (by decide +kernel))) (by decide +kernel)
theorem w_2_194 : Cond.selects yX6_pullOf.cls yX6_pullOf yX6_pullOf ∈ TBL := TBL_t (tin2 (List.mem_of_getElem? (i := 194) (by decide +kernel))) (by decide +kernel)
theorem w_2_195 : Cond.code yX6_pullOf cX6_pullOf 2 (some .int) ∈ TBL := TBL_t (tin2 (List.mem_of_getElem? (i := 195) (by decide +kernel))) (by decide +kernel)
theorem w_2_193 : Cond.instanceMethod yX6_pullOf ∈ TBL := TBL_t (tin2 (List.mem_of_getElem? (i := 193) (by decide +kernel))) (by decide +kernel)
theorem w_1_2 : Cond.initialized RX6 ∈ TBL := TBL_t (tin1 (List.mem_of_getElem? (i := 2) (by decide +kernel))) (by decide +kernel)
theorem w_2_199 : Cond.code yX0_behind cX0_behind 7 (some .int) ∈ TBL := TBL_t (tin2 (List.mem_of_getElem? (i := 199) (by decide +kernel))) (by decide +kernel)
theorem w_2_198 : Cond.static yX0_behind ∈ TBL := TBL_t (tin2 (List.mem_of_getElem? (i := 198) (by decide +kernel))) (by decide +kernel)
theorem B_X3_empty : cV yX3_empty cX3_empty 1 none 0 := ⟨w_2_19, w_2_17, w_2_18, w_1_3, by decide +kernel⟩
theorem B_X6_pullOf : cV yX6_pullOf cX6_pullOf 2 (some .int) 1 := ⟨w_2_195, w_2_193, w_2_194, w_1_2, by decide +kernel⟩
theorem B_X0_behind : cS yX0_behind cX0_behind 7 (some .int) 4 := ⟨w_2_199, w_2_198, w_1_14, by decide +kernel⟩
theorem dX6_begin_0 : decode cX6_begin 0 = .ok (.aload_n 0, 1) := by decide +kernel
theorem dX6_begin_1 : decode cX6_begin 1 = .ok (.iload_n 1, 1) := by decide +kernel
theorem dX6_begin_2 : decode cX6_begin 2 = .ok (.putfield 35, 3) := by decide +kernel
theorem dX6_begin_5 : decode cX6_begin 5 = .ok (.aload_n 0, 1) := by decide +kernel
theorem dX6_begin_6 : decode cX6_begin 6 = .ok (.getfield 9, 3) := by decide +kernel
theorem dX6_begin_9 : decode cX6_begin 9 = .ok (.invokestatic 39, 3) := by decide +kernel
theorem dX6_begin_12 : decode cX6_begin 12 = .ok (.aload_n 0, 1) := by decide +kernel
theorem dX6_begin_13 : decode cX6_begin 13 = .ok (.getfield 18, 3) := by decide +kernel
theorem dX6_begin_16 : decode cX6_begin 16 = .ok (.invokevirtual 45, 3) := by decide +kernel
theorem dX6_begin_19 : decode cX6_begin 19 = .ok (.aload_n 0, 1) := by decide +kernel
theorem dX6_begin_20 : decode cX6_begin 20 = .ok (.iconst 0, 1) := by decide +kernel
theorem dX6_begin_21 : decode cX6_begin 21 = .ok (.putfield 47, 3) := by decide +kernel
theorem dX6_begin_24 : decode cX6_begin 24 = .ok (.aload_n 0, 1) := by decide +kernel
theorem dX6_begin_25 : decode cX6_begin 25 = .ok (.iconst 0, 1) := by decide +kernel
theorem dX6_begin_26 : decode cX6_begin 26 = .ok (.putfield 50, 3) := by decide +kernel
theorem dX6_begin_29 : decode cX6_begin 29 = .ok (.aload_n 0, 1) := by decide +kernel
theorem dX6_begin_30 : decode cX6_begin 30 = .ok (.iconst 0, 1) := by decide +kernel
theorem dX6_begin_31 : decode cX6_begin 31 = .ok (.putfield 53, 3) := by decide +kernel
theorem dX6_begin_34 : decode cX6_begin 34 = .ok (.aload_n 0, 1) := by decide +kernel
theorem dX6_begin_35 : decode cX6_begin 35 = .ok (.iconst 0, 1) := by decide +kernel
theorem dX6_begin_36 : decode cX6_begin 36 = .ok (.putfield 56, 3) := by decide +kernel
theorem dX6_begin_39 : decode cX6_begin 39 = .ok (.return_, 1) := by decide +kernel
theorem dX6_pullOf_0 : decode cX6_pullOf 0 = .ok (.aload_n 0, 1) := by decide +kernel
theorem dX6_pullOf_1 : decode cX6_pullOf 1 = .ok (.getfield 9, 3) := by decide +kernel
theorem dX6_pullOf_4 : decode cX6_pullOf 4 = .ok (.iload_n 1, 1) := by decide +kernel
theorem dX6_pullOf_5 : decode cX6_pullOf 5 = .ok (.bipush 6, 2) := by decide +kernel
theorem dX6_pullOf_7 : decode cX6_pullOf 7 = .ok (.irem, 1) := by decide +kernel
theorem dX6_pullOf_8 : decode cX6_pullOf 8 = .ok (.invokestatic 74, 3) := by decide +kernel
theorem dX6_pullOf_11 : decode cX6_pullOf 11 = .ok (.ireturn, 1) := by decide +kernel
theorem dX6_offBehind_0 : decode cX6_offBehind 0 = .ok (.aload_n 0, 1) := by decide +kernel
theorem dX6_offBehind_1 : decode cX6_offBehind 1 = .ok (.getfield 35, 3) := by decide +kernel
theorem dX6_offBehind_4 : decode cX6_offBehind 4 = .ok (.iload_n 1, 1) := by decide +kernel
theorem dX6_offBehind_5 : decode cX6_offBehind 5 = .ok (.iload_n 2, 1) := by decide +kernel
theorem dX6_offBehind_6 : decode cX6_offBehind 6 = .ok (.aload_n 0, 1) := by decide +kernel
theorem dX6_offBehind_7 : decode cX6_offBehind 7 = .ok (.iload_n 1, 1) := by decide +kernel
theorem dX6_offBehind_8 : decode cX6_offBehind 8 = .ok (.invokevirtual 78, 3) := by decide +kernel
theorem dX6_offBehind_11 : decode cX6_offBehind 11 = .ok (.invokestatic 82, 3) := by decide +kernel
theorem dX6_offBehind_14 : decode cX6_offBehind 14 = .ok (.ireturn, 1) := by decide +kernel
theorem dX6_goOn_0 : decode cX6_goOn 0 = .ok (.iconst 0, 1) := by decide +kernel
theorem dX6_goOn_1 : decode cX6_goOn 1 = .ok (.istore_n 2, 1) := by decide +kernel
theorem dX6_goOn_2 : decode cX6_goOn 2 = .ok (.iload_n 2, 1) := by decide +kernel
theorem dX6_goOn_3 : decode cX6_goOn 3 = .ok (.iload_n 1, 1) := by decide +kernel
theorem dX6_goOn_4 : decode cX6_goOn 4 = .ok (.if_icmp .ge 74, 3) := by decide +kernel
theorem dX6_goOn_7 : decode cX6_goOn 7 = .ok (.aload_n 0, 1) := by decide +kernel
theorem dX6_goOn_8 : decode cX6_goOn 8 = .ok (.getfield 18, 3) := by decide +kernel
theorem dX6_goOn_11 : decode cX6_goOn 11 = .ok (.getfield 88, 3) := by decide +kernel
theorem dX6_goOn_14 : decode cX6_goOn 14 = .ok (.sipush 9999, 3) := by decide +kernel
theorem dX6_goOn_17 : decode cX6_goOn 17 = .ok (.if_icmp .ge 61, 3) := by decide +kernel
theorem dX6_goOn_20 : decode cX6_goOn 20 = .ok (.aload_n 0, 1) := by decide +kernel
theorem dX6_goOn_21 : decode cX6_goOn 21 = .ok (.getfield 18, 3) := by decide +kernel
theorem dX6_goOn_24 : decode cX6_goOn 24 = .ok (.aload_n 0, 1) := by decide +kernel
theorem dX6_goOn_25 : decode cX6_goOn 25 = .ok (.getfield 35, 3) := by decide +kernel
theorem dX6_goOn_28 : decode cX6_goOn 28 = .ok (.aload_n 0, 1) := by decide +kernel
theorem dX6_goOn_29 : decode cX6_goOn 29 = .ok (.getfield 18, 3) := by decide +kernel
theorem dX6_goOn_32 : decode cX6_goOn 32 = .ok (.getfield 88, 3) := by decide +kernel
theorem dX6_goOn_35 : decode cX6_goOn 35 = .ok (.aload_n 0, 1) := by decide +kernel
theorem dX6_goOn_36 : decode cX6_goOn 36 = .ok (.getfield 18, 3) := by decide +kernel
theorem dX6_goOn_39 : decode cX6_goOn 39 = .ok (.getfield 91, 3) := by decide +kernel
theorem dX6_goOn_42 : decode cX6_goOn 42 = .ok (.aload_n 0, 1) := by decide +kernel
theorem dX6_goOn_43 : decode cX6_goOn 43 = .ok (.aload_n 0, 1) := by decide +kernel
theorem dX6_goOn_44 : decode cX6_goOn 44 = .ok (.getfield 18, 3) := by decide +kernel
theorem dX6_goOn_47 : decode cX6_goOn 47 = .ok (.getfield 88, 3) := by decide +kernel
theorem dX6_goOn_50 : decode cX6_goOn 50 = .ok (.invokevirtual 78, 3) := by decide +kernel
theorem dX6_goOn_53 : decode cX6_goOn 53 = .ok (.invokestatic 82, 3) := by decide +kernel
theorem dX6_goOn_56 : decode cX6_goOn 56 = .ok (.putfield 91, 3) := by decide +kernel
theorem dX6_goOn_59 : decode cX6_goOn 59 = .ok (.aload_n 0, 1) := by decide +kernel
theorem dX6_goOn_60 : decode cX6_goOn 60 = .ok (.getfield 18, 3) := by decide +kernel
theorem dX6_goOn_63 : decode cX6_goOn 63 = .ok (.dup, 1) := by decide +kernel
theorem dX6_goOn_64 : decode cX6_goOn 64 = .ok (.getfield 88, 3) := by decide +kernel
theorem dX6_goOn_67 : decode cX6_goOn 67 = .ok (.iconst 1, 1) := by decide +kernel
theorem dX6_goOn_68 : decode cX6_goOn 68 = .ok (.iadd, 1) := by decide +kernel
theorem dX6_goOn_69 : decode cX6_goOn 69 = .ok (.putfield 88, 3) := by decide +kernel
theorem dX6_goOn_72 : decode cX6_goOn 72 = .ok (.iinc 2 1, 3) := by decide +kernel
theorem dX6_goOn_75 : decode cX6_goOn 75 = .ok (.goto (-73), 3) := by decide +kernel
theorem dX6_goOn_78 : decode cX6_goOn 78 = .ok (.return_, 1) := by decide +kernel
theorem dX6_notesFit_0 : decode cX6_notesFit 0 = .ok (.iconst 0, 1) := by decide +kernel
theorem dX6_notesFit_1 : decode cX6_notesFit 1 = .ok (.istore_n 2, 1) := by decide +kernel
theorem dX6_notesFit_2 : decode cX6_notesFit 2 = .ok (.iload_n 2, 1) := by decide +kernel
theorem dX6_notesFit_3 : decode cX6_notesFit 3 = .ok (.aload_n 0, 1) := by decide +kernel
theorem dX6_notesFit_4 : decode cX6_notesFit 4 = .ok (.getfield 53, 3) := by decide +kernel
theorem dX6_notesFit_7 : decode cX6_notesFit 7 = .ok (.if_icmp .ge 72, 3) := by decide +kernel
theorem dX6_notesFit_10 : decode cX6_notesFit 10 = .ok (.iload_n 2, 1) := by decide +kernel
theorem dX6_notesFit_11 : decode cX6_notesFit 11 = .ok (.iconst 4, 1) := by decide +kernel
theorem dX6_notesFit_12 : decode cX6_notesFit 12 = .ok (.imul, 1) := by decide +kernel
theorem dX6_notesFit_13 : decode cX6_notesFit 13 = .ok (.istore_n 3, 1) := by decide +kernel
theorem dX6_notesFit_14 : decode cX6_notesFit 14 = .ok (.aload_n 0, 1) := by decide +kernel
theorem dX6_notesFit_15 : decode cX6_notesFit 15 = .ok (.getfield 29, 3) := by decide +kernel
theorem dX6_notesFit_18 : decode cX6_notesFit 18 = .ok (.iload_n 3, 1) := by decide +kernel
theorem dX6_notesFit_19 : decode cX6_notesFit 19 = .ok (.invokestatic 74, 3) := by decide +kernel
theorem dX6_notesFit_22 : decode cX6_notesFit 22 = .ok (.istore 4, 2) := by decide +kernel
theorem dX6_notesFit_24 : decode cX6_notesFit 24 = .ok (.aload_n 0, 1) := by decide +kernel
theorem dX6_notesFit_25 : decode cX6_notesFit 25 = .ok (.getfield 29, 3) := by decide +kernel
theorem dX6_notesFit_28 : decode cX6_notesFit 28 = .ok (.iload_n 3, 1) := by decide +kernel
theorem dX6_notesFit_29 : decode cX6_notesFit 29 = .ok (.iconst 1, 1) := by decide +kernel
theorem dX6_notesFit_30 : decode cX6_notesFit 30 = .ok (.iadd, 1) := by decide +kernel
theorem dX6_notesFit_31 : decode cX6_notesFit 31 = .ok (.invokestatic 74, 3) := by decide +kernel
theorem dX6_notesFit_34 : decode cX6_notesFit 34 = .ok (.istore 5, 2) := by decide +kernel
theorem dX6_notesFit_36 : decode cX6_notesFit 36 = .ok (.aload_n 0, 1) := by decide +kernel
theorem dX6_notesFit_37 : decode cX6_notesFit 37 = .ok (.getfield 29, 3) := by decide +kernel
theorem dX6_notesFit_40 : decode cX6_notesFit 40 = .ok (.iload_n 3, 1) := by decide +kernel
theorem dX6_notesFit_41 : decode cX6_notesFit 41 = .ok (.iconst 2, 1) := by decide +kernel
theorem dX6_notesFit_42 : decode cX6_notesFit 42 = .ok (.iadd, 1) := by decide +kernel
theorem dX6_notesFit_43 : decode cX6_notesFit 43 = .ok (.invokestatic 74, 3) := by decide +kernel
theorem dX6_notesFit_46 : decode cX6_notesFit 46 = .ok (.istore 6, 2) := by decide +kernel
theorem dX6_notesFit_48 : decode cX6_notesFit 48 = .ok (.iload_n 1, 1) := by decide +kernel
theorem dX6_notesFit_49 : decode cX6_notesFit 49 = .ok (.iload 6, 2) := by decide +kernel
theorem dX6_notesFit_51 : decode cX6_notesFit 51 = .ok (.iload 4, 2) := by decide +kernel
theorem dX6_notesFit_53 : decode cX6_notesFit 53 = .ok (.iload 5, 2) := by decide +kernel
theorem dX6_notesFit_55 : decode cX6_notesFit 55 = .ok (.invokestatic 82, 3) := by decide +kernel
theorem dX6_notesFit_58 : decode cX6_notesFit 58 = .ok (.aload_n 0, 1) := by decide +kernel
theorem dX6_notesFit_59 : decode cX6_notesFit 59 = .ok (.getfield 29, 3) := by decide +kernel
theorem dX6_notesFit_62 : decode cX6_notesFit 62 = .ok (.iload_n 3, 1) := by decide +kernel
theorem dX6_notesFit_63 : decode cX6_notesFit 63 = .ok (.iconst 3, 1) := by decide +kernel
theorem dX6_notesFit_64 : decode cX6_notesFit 64 = .ok (.iadd, 1) := by decide +kernel
theorem dX6_notesFit_65 : decode cX6_notesFit 65 = .ok (.invokestatic 74, 3) := by decide +kernel
theorem dX6_notesFit_68 : decode cX6_notesFit 68 = .ok (.if_icmp .eq 5, 3) := by decide +kernel
theorem dX6_notesFit_71 : decode cX6_notesFit 71 = .ok (.iconst 0, 1) := by decide +kernel
theorem dX6_notesFit_72 : decode cX6_notesFit 72 = .ok (.ireturn, 1) := by decide +kernel
theorem dX6_notesFit_73 : decode cX6_notesFit 73 = .ok (.iinc 2 1, 3) := by decide +kernel
theorem dX6_notesFit_76 : decode cX6_notesFit 76 = .ok (.goto (-74), 3) := by decide +kernel
theorem dX6_notesFit_79 : decode cX6_notesFit 79 = .ok (.iconst 1, 1) := by decide +kernel
theorem dX6_notesFit_80 : decode cX6_notesFit 80 = .ok (.ireturn, 1) := by decide +kernel
theorem dX6_marksFit_0 : decode cX6_marksFit 0 = .ok (.iconst 0, 1) := by decide +kernel
theorem dX6_marksFit_1 : decode cX6_marksFit 1 = .ok (.istore_n 3, 1) := by decide +kernel
theorem dX6_marksFit_2 : decode cX6_marksFit 2 = .ok (.iload_n 3, 1) := by decide +kernel
theorem dX6_marksFit_3 : decode cX6_marksFit 3 = .ok (.aload_n 0, 1) := by decide +kernel
theorem dX6_marksFit_4 : decode cX6_marksFit 4 = .ok (.getfield 56, 3) := by decide +kernel
theorem dX6_marksFit_7 : decode cX6_marksFit 7 = .ok (.if_icmp .ge 105, 3) := by decide +kernel
theorem dX6_marksFit_10 : decode cX6_marksFit 10 = .ok (.iload_n 3, 1) := by decide +kernel
theorem dX6_marksFit_11 : decode cX6_marksFit 11 = .ok (.iconst 5, 1) := by decide +kernel
theorem dX6_marksFit_12 : decode cX6_marksFit 12 = .ok (.imul, 1) := by decide +kernel
theorem dX6_marksFit_13 : decode cX6_marksFit 13 = .ok (.istore 4, 2) := by decide +kernel
theorem dX6_marksFit_15 : decode cX6_marksFit 15 = .ok (.aload_n 0, 1) := by decide +kernel
theorem dX6_marksFit_16 : decode cX6_marksFit 16 = .ok (.getfield 32, 3) := by decide +kernel
theorem dX6_marksFit_19 : decode cX6_marksFit 19 = .ok (.iload 4, 2) := by decide +kernel
theorem dX6_marksFit_21 : decode cX6_marksFit 21 = .ok (.iconst 1, 1) := by decide +kernel
theorem dX6_marksFit_22 : decode cX6_marksFit 22 = .ok (.iadd, 1) := by decide +kernel
theorem dX6_marksFit_23 : decode cX6_marksFit 23 = .ok (.invokestatic 74, 3) := by decide +kernel
theorem dX6_marksFit_26 : decode cX6_marksFit 26 = .ok (.istore 5, 2) := by decide +kernel
theorem dX6_marksFit_28 : decode cX6_marksFit 28 = .ok (.aload_n 0, 1) := by decide +kernel
theorem dX6_marksFit_29 : decode cX6_marksFit 29 = .ok (.getfield 32, 3) := by decide +kernel
theorem dX6_marksFit_32 : decode cX6_marksFit 32 = .ok (.iload 4, 2) := by decide +kernel
theorem dX6_marksFit_34 : decode cX6_marksFit 34 = .ok (.iconst 2, 1) := by decide +kernel
theorem dX6_marksFit_35 : decode cX6_marksFit 35 = .ok (.iadd, 1) := by decide +kernel
theorem dX6_marksFit_36 : decode cX6_marksFit 36 = .ok (.invokestatic 74, 3) := by decide +kernel
theorem dX6_marksFit_39 : decode cX6_marksFit 39 = .ok (.istore 6, 2) := by decide +kernel
theorem dX6_marksFit_41 : decode cX6_marksFit 41 = .ok (.aload_n 0, 1) := by decide +kernel
theorem dX6_marksFit_42 : decode cX6_marksFit 42 = .ok (.getfield 32, 3) := by decide +kernel
theorem dX6_marksFit_45 : decode cX6_marksFit 45 = .ok (.iload 4, 2) := by decide +kernel
theorem dX6_marksFit_47 : decode cX6_marksFit 47 = .ok (.iconst 3, 1) := by decide +kernel
theorem dX6_marksFit_48 : decode cX6_marksFit 48 = .ok (.iadd, 1) := by decide +kernel
theorem dX6_marksFit_49 : decode cX6_marksFit 49 = .ok (.invokestatic 74, 3) := by decide +kernel
theorem dX6_marksFit_52 : decode cX6_marksFit 52 = .ok (.istore 7, 2) := by decide +kernel
theorem dX6_marksFit_54 : decode cX6_marksFit 54 = .ok (.aload_n 0, 1) := by decide +kernel
theorem dX6_marksFit_55 : decode cX6_marksFit 55 = .ok (.getfield 32, 3) := by decide +kernel
theorem dX6_marksFit_58 : decode cX6_marksFit 58 = .ok (.iload 4, 2) := by decide +kernel
theorem dX6_marksFit_60 : decode cX6_marksFit 60 = .ok (.iconst 4, 1) := by decide +kernel
theorem dX6_marksFit_61 : decode cX6_marksFit 61 = .ok (.iadd, 1) := by decide +kernel
theorem dX6_marksFit_62 : decode cX6_marksFit 62 = .ok (.invokestatic 74, 3) := by decide +kernel
theorem dX6_marksFit_65 : decode cX6_marksFit 65 = .ok (.iconst 1, 1) := by decide +kernel
theorem dX6_marksFit_66 : decode cX6_marksFit 66 = .ok (.if_icmp .ne 7, 3) := by decide +kernel
theorem dX6_marksFit_69 : decode cX6_marksFit 69 = .ok (.iconst 1, 1) := by decide +kernel
theorem dX6_marksFit_70 : decode cX6_marksFit 70 = .ok (.goto 4, 3) := by decide +kernel
theorem dX6_marksFit_73 : decode cX6_marksFit 73 = .ok (.iconst 0, 1) := by decide +kernel
theorem dX6_marksFit_74 : decode cX6_marksFit 74 = .ok (.istore 8, 2) := by decide +kernel
theorem dX6_marksFit_76 : decode cX6_marksFit 76 = .ok (.aload_n 0, 1) := by decide +kernel
theorem dX6_marksFit_77 : decode cX6_marksFit 77 = .ok (.getfield 32, 3) := by decide +kernel
theorem dX6_marksFit_80 : decode cX6_marksFit 80 = .ok (.iload 4, 2) := by decide +kernel
theorem dX6_marksFit_82 : decode cX6_marksFit 82 = .ok (.invokestatic 74, 3) := by decide +kernel
theorem dX6_marksFit_85 : decode cX6_marksFit 85 = .ok (.iload_n 1, 1) := by decide +kernel
theorem dX6_marksFit_86 : decode cX6_marksFit 86 = .ok (.if_icmp .ne 20, 3) := by decide +kernel
theorem dX6_marksFit_89 : decode cX6_marksFit 89 = .ok (.iload_n 2, 1) := by decide +kernel
theorem dX6_marksFit_90 : decode cX6_marksFit 90 = .ok (.iload 5, 2) := by decide +kernel
theorem dX6_marksFit_92 : decode cX6_marksFit 92 = .ok (.iload 6, 2) := by decide +kernel
theorem dX6_marksFit_94 : decode cX6_marksFit 94 = .ok (.iload 7, 2) := by decide +kernel
theorem dX6_marksFit_96 : decode cX6_marksFit 96 = .ok (.invokestatic 94, 3) := by decide +kernel
theorem dX6_marksFit_99 : decode cX6_marksFit 99 = .ok (.iload 8, 2) := by decide +kernel
theorem dX6_marksFit_101 : decode cX6_marksFit 101 = .ok (.if_icmp .eq 5, 3) := by decide +kernel
theorem dX6_marksFit_104 : decode cX6_marksFit 104 = .ok (.iconst 0, 1) := by decide +kernel
theorem dX6_marksFit_105 : decode cX6_marksFit 105 = .ok (.ireturn, 1) := by decide +kernel
theorem dX6_marksFit_106 : decode cX6_marksFit 106 = .ok (.iinc 3 1, 3) := by decide +kernel
theorem dX6_marksFit_109 : decode cX6_marksFit 109 = .ok (.goto (-107), 3) := by decide +kernel
theorem dX6_marksFit_112 : decode cX6_marksFit 112 = .ok (.iconst 1, 1) := by decide +kernel
theorem dX6_marksFit_113 : decode cX6_marksFit 113 = .ok (.ireturn, 1) := by decide +kernel
noncomputable def sp_X6_begin (p1 : Int32) (fa0_pulls : Nat → Int32) (fa0_site_heights : Nat → Int32) : Option (Int32 × Int32 × Int32 × Int32 × Int32 × (Nat → Int32) × Int32 × Int32 × (Nat → Int32)) := Option.bind (sp_X2_empty 6 fa0_pulls) fun z1 => Option.bind (sp_X3_empty fa0_site_heights) fun z2 => some (p1, (0 : Int32), (0 : Int32), (0 : Int32), (0 : Int32), z1, z2.1, z2.2.1, z2.2.2)
set_option maxHeartbeats 4000000 in
set_option maxRecDepth 100000 in
theorem c_X6_begin (l : Launch) (E : wE) (a0 a0_pulls a0_site a0_past a0_views a0_notes a0_marks a0_site_heights a0_site_storeyKinds a0_site_storeyTilts : Nat) (p1 : Int32) (a0_kind : Int32) (a0_pasts : Int32) (a0_members : Int32) (a0_noteCount : Int32) (a0_markCount : Int32) (fa0_pulls : Nat → Int32) (a0_site_off : Int32) (a0_site_year : Int32) (fa0_site_heights : Nat → Int32) (z_0 : Int32) (z_1 : Int32) (z_2 : Int32) (z_3 : Int32) (z_4 : Int32) (z_5 : (Nat → Int32)) (z_6 : Int32) (z_7 : Int32) (z_8 : (Nat → Int32)) (hsp : sp_X6_begin p1 fa0_pulls fa0_site_heights = some (z_0, z_1, z_2, z_3, z_4, z_5, z_6, z_7, z_8)) : MW l yX6_begin cX6_begin 2 none 2 E [.ref a0, .int p1] [(a0, .inr (3, [.int a0_kind, .ref a0_pulls, .ref a0_site, .ref a0_past, .int a0_pasts, .ref a0_views, .int a0_members, .ref a0_notes, .int a0_noteCount, .ref a0_marks, .int a0_markCount])), (a0_pulls, aI E 6 fa0_pulls), (a0_site, .inr (1, [.int a0_site_off, .int a0_site_year, .ref a0_site_heights, .ref a0_site_storeyKinds, .ref a0_site_storeyTilts])), (a0_site_heights, aI E 6 fa0_site_heights)] none [(a0, .inr (3, [.int z_0, .ref a0_pulls, .ref a0_site, .ref a0_past, .int z_1, .ref a0_views, .int z_2, .ref a0_notes, .int z_3, .ref a0_marks, .int z_4])), (a0_pulls, aI E 6 z_5), (a0_site, .inr (1, [.int z_6, .int z_7, .ref a0_site_heights, .ref a0_site_storeyKinds, .ref a0_site_storeyTilts])), (a0_site_heights, aI E 6 z_8)] := by
  refine MW.of (by decide +kernel) (Nat.le_of_ble_eq_true rfl) ?_
  intro p e s m below meth c ls A hX hK hP hD hS hA hl
  have hX : CX p s m [.ref a0, .int p1].toArray meth c cX6_begin 2 none RX6 := hX
  have hx := hX.1; have hb := hX.2.1; have hts := hX.2.2.2.2.1; have hown := hX.2.2.2.2.2.1
  have hl : lv_has ls 2 [(0, .ref a0), (1, .int p1)] := hl
  have hP : wP E [(a0, .inr (3, [.int a0_kind, .ref a0_pulls, .ref a0_site, .ref a0_past, .int a0_pasts, .ref a0_views, .int a0_members, .ref a0_notes, .int a0_noteCount, .ref a0_marks, .int a0_markCount])), (a0_pulls, aI E 6 fa0_pulls), (a0_site, .inr (1, [.int a0_site_off, .int a0_site_year, .ref a0_site_heights, .ref a0_site_storeyKinds, .ref a0_site_storeyTilts])), (a0_site_heights, aI E 6 fa0_site_heights)] s.heap := hP
  have hsp : (Option.bind (sp_X2_empty 6 fa0_pulls) fun z1 => Option.bind (sp_X3_empty fa0_site_heights) fun z2 => some (p1, (0 : Int32), (0 : Int32), (0 : Int32), (0 : Int32), z1, z2.1, z2.2.1, z2.2.2)) = some (z_0, z_1, z_2, z_3, z_4, z_5, z_6, z_7, z_8) := hsp
  refine lv_aload_n hx hb dX6_begin_0 rfl (lv_at hl 0 rfl) (W.pc 1 rfl ?_)
  refine lv_iload_n hx hb dX6_begin_1 rfl (lv_at hl 1 rfl) (W.pc 2 rfl ?_)
  refine va_put (D := E.1) (ci := 3) (v := .int p1) (ty := .int) (C := RX6) (T := TX6) (N := 11) hx hb hts inT_X6 tyX6 tyX6_ok nmX6 hown hK hP hD hS 0 rfl rfl 0 (by decide) (hts _ w_1_62) (fun _ h9 => h9) rfl (by decide +kernel) rfl rfl (Nat.le_of_ble_eq_true rfl) dX6_begin_2 (fun H locs hP hD hS => W.pc 5 rfl ?_)
  have hP : wP E [(a0, .inr (3, [.int p1, .ref a0_pulls, .ref a0_site, .ref a0_past, .int a0_pasts, .ref a0_views, .int a0_members, .ref a0_notes, .int a0_noteCount, .ref a0_marks, .int a0_markCount])), (a0_pulls, aI E 6 fa0_pulls), (a0_site, .inr (1, [.int a0_site_off, .int a0_site_year, .ref a0_site_heights, .ref a0_site_storeyKinds, .ref a0_site_storeyTilts])), (a0_site_heights, aI E 6 fa0_site_heights)] _ := hP
  have hD : va_D A [(a0, .inr (3, [.int p1, .ref a0_pulls, .ref a0_site, .ref a0_past, .int a0_pasts, .ref a0_views, .int a0_members, .ref a0_notes, .int a0_noteCount, .ref a0_marks, .int a0_markCount])), (a0_pulls, aI E 6 fa0_pulls), (a0_site, .inr (1, [.int a0_site_off, .int a0_site_year, .ref a0_site_heights, .ref a0_site_storeyKinds, .ref a0_site_storeyTilts])), (a0_site_heights, aI E 6 fa0_site_heights)] := hD
  refine lv_aload_n hx hb dX6_begin_5 rfl (lv_at hl 0 rfl) (W.pc 6 rfl ?_)
  refine va_get (D := E.1) (ci := 3) (v := .ref a0_pulls) (C := RX6) (T := TX6) (N := 11) hx hb hts inT_X6 hown hK hP 0 rfl rfl 1 (by decide) (hts _ w_1_64) (fun _ h9 => h9) rfl dX6_begin_6 (W.pc 9 rfl ?_)
  obtain ⟨z1, hr_z1, hsp⟩ := bd_s hsp
  refine kSW (st1 := []) (ws' := [(a0, .inr (3, [.int p1, .ref a0_pulls, .ref a0_site, .ref a0_past, .int a0_pasts, .ref a0_views, .int a0_members, .ref a0_notes, .int a0_noteCount, .ref a0_marks, .int a0_markCount])), (a0_pulls, aI E 6 z1), (a0_site, .inr (1, [.int a0_site_off, .int a0_site_year, .ref a0_site_heights, .ref a0_site_storeyKinds, .ref a0_site_storeyTilts])), (a0_site_heights, aI E 6 fa0_site_heights)]) [1] hX (c_X2_empty l E a0_pulls 6 (by decide) fa0_pulls z1 hr_z1) B_X2_empty w_2_13 hK hP hD hS hA (by decide) rfl rfl rfl rfl hl.1 rfl (Nat.le_of_ble_eq_true rfl) ⟨Nat.le_of_ble_eq_true rfl, Nat.le_of_ble_eq_true rfl⟩ dX6_begin_9 rfl (fun H locs hP hD hS => W.pc 12 rfl ?_)
  refine lv_aload_n hx hb dX6_begin_12 rfl (lv_at hl 0 rfl) (W.pc 13 rfl ?_)
  refine va_get (D := E.1) (ci := 3) (v := .ref a0_site) (C := RX6) (T := TX6) (N := 11) hx hb hts inT_X6 hown hK hP 0 rfl rfl 2 (by decide) (hts _ w_1_67) (fun _ h9 => h9) rfl dX6_begin_13 (W.pc 16 rfl ?_)
  obtain ⟨z2, hr_z2, hsp⟩ := bd_s hsp
  refine kVW (st1 := []) (ws' := [(a0, .inr (3, [.int p1, .ref a0_pulls, .ref a0_site, .ref a0_past, .int a0_pasts, .ref a0_views, .int a0_members, .ref a0_notes, .int a0_noteCount, .ref a0_marks, .int a0_markCount])), (a0_pulls, aI E 6 z1), (a0_site, .inr (1, [.int z2.1, .int z2.2.1, .ref a0_site_heights, .ref a0_site_storeyKinds, .ref a0_site_storeyTilts])), (a0_site_heights, aI E 6 z2.2.2)]) [2, 3] hX (c_X3_empty l E a0_site a0_site_heights a0_site_storeyKinds a0_site_storeyTilts a0_site_off a0_site_year fa0_site_heights z2.1 z2.2.1 z2.2.2 hr_z2) B_X3_empty w_2_16 hK hP hD hS hA (by decide) rfl rfl rfl (q0 := 2) (ci := 1) rfl rfl rfl rfl hl.1 rfl (Nat.le_of_ble_eq_true rfl) ⟨Nat.le_of_ble_eq_true rfl, Nat.le_of_ble_eq_true rfl⟩ dX6_begin_16 rfl (fun H locs hP hD hS => W.pc 19 rfl ?_)
  refine lv_aload_n hx hb dX6_begin_19 rfl (lv_at hl 0 rfl) (W.pc 20 rfl ?_)
  refine lv_iconst (v := (0 : Int32)) hx hb dX6_begin_20 (by decide) (W.pc 21 rfl ?_)
  refine va_put (D := E.1) (ci := 3) (v := .int (0 : Int32)) (ty := .int) (C := RX6) (T := TX6) (N := 11) hx hb hts inT_X6 tyX6 tyX6_ok nmX6 hown hK hP hD hS 0 rfl rfl 4 (by decide) (hts _ w_1_72) (fun _ h9 => h9) rfl (by decide +kernel) rfl rfl (Nat.le_of_ble_eq_true rfl) dX6_begin_21 (fun H locs hP hD hS => W.pc 24 rfl ?_)
  have hP : wP E [(a0, .inr (3, [.int p1, .ref a0_pulls, .ref a0_site, .ref a0_past, .int (0 : Int32), .ref a0_views, .int a0_members, .ref a0_notes, .int a0_noteCount, .ref a0_marks, .int a0_markCount])), (a0_pulls, aI E 6 z1), (a0_site, .inr (1, [.int z2.1, .int z2.2.1, .ref a0_site_heights, .ref a0_site_storeyKinds, .ref a0_site_storeyTilts])), (a0_site_heights, aI E 6 z2.2.2)] _ := hP
  have hD : va_D A [(a0, .inr (3, [.int p1, .ref a0_pulls, .ref a0_site, .ref a0_past, .int (0 : Int32), .ref a0_views, .int a0_members, .ref a0_notes, .int a0_noteCount, .ref a0_marks, .int a0_markCount])), (a0_pulls, aI E 6 z1), (a0_site, .inr (1, [.int z2.1, .int z2.2.1, .ref a0_site_heights, .ref a0_site_storeyKinds, .ref a0_site_storeyTilts])), (a0_site_heights, aI E 6 z2.2.2)] := hD
  refine lv_aload_n hx hb dX6_begin_24 rfl (lv_at hl 0 rfl) (W.pc 25 rfl ?_)
  refine lv_iconst (v := (0 : Int32)) hx hb dX6_begin_25 (by decide) (W.pc 26 rfl ?_)
  refine va_put (D := E.1) (ci := 3) (v := .int (0 : Int32)) (ty := .int) (C := RX6) (T := TX6) (N := 11) hx hb hts inT_X6 tyX6 tyX6_ok nmX6 hown hK hP hD hS 0 rfl rfl 6 (by decide) (hts _ w_1_76) (fun _ h9 => h9) rfl (by decide +kernel) rfl rfl (Nat.le_of_ble_eq_true rfl) dX6_begin_26 (fun H locs hP hD hS => W.pc 29 rfl ?_)
  have hP : wP E [(a0, .inr (3, [.int p1, .ref a0_pulls, .ref a0_site, .ref a0_past, .int (0 : Int32), .ref a0_views, .int (0 : Int32), .ref a0_notes, .int a0_noteCount, .ref a0_marks, .int a0_markCount])), (a0_pulls, aI E 6 z1), (a0_site, .inr (1, [.int z2.1, .int z2.2.1, .ref a0_site_heights, .ref a0_site_storeyKinds, .ref a0_site_storeyTilts])), (a0_site_heights, aI E 6 z2.2.2)] _ := hP
  have hD : va_D A [(a0, .inr (3, [.int p1, .ref a0_pulls, .ref a0_site, .ref a0_past, .int (0 : Int32), .ref a0_views, .int (0 : Int32), .ref a0_notes, .int a0_noteCount, .ref a0_marks, .int a0_markCount])), (a0_pulls, aI E 6 z1), (a0_site, .inr (1, [.int z2.1, .int z2.2.1, .ref a0_site_heights, .ref a0_site_storeyKinds, .ref a0_site_storeyTilts])), (a0_site_heights, aI E 6 z2.2.2)] := hD
  refine lv_aload_n hx hb dX6_begin_29 rfl (lv_at hl 0 rfl) (W.pc 30 rfl ?_)
  refine lv_iconst (v := (0 : Int32)) hx hb dX6_begin_30 (by decide) (W.pc 31 rfl ?_)
  refine va_put (D := E.1) (ci := 3) (v := .int (0 : Int32)) (ty := .int) (C := RX6) (T := TX6) (N := 11) hx hb hts inT_X6 tyX6 tyX6_ok nmX6 hown hK hP hD hS 0 rfl rfl 8 (by decide) (hts _ w_1_80) (fun _ h9 => h9) rfl (by decide +kernel) rfl rfl (Nat.le_of_ble_eq_true rfl) dX6_begin_31 (fun H locs hP hD hS => W.pc 34 rfl ?_)
  have hP : wP E [(a0, .inr (3, [.int p1, .ref a0_pulls, .ref a0_site, .ref a0_past, .int (0 : Int32), .ref a0_views, .int (0 : Int32), .ref a0_notes, .int (0 : Int32), .ref a0_marks, .int a0_markCount])), (a0_pulls, aI E 6 z1), (a0_site, .inr (1, [.int z2.1, .int z2.2.1, .ref a0_site_heights, .ref a0_site_storeyKinds, .ref a0_site_storeyTilts])), (a0_site_heights, aI E 6 z2.2.2)] _ := hP
  have hD : va_D A [(a0, .inr (3, [.int p1, .ref a0_pulls, .ref a0_site, .ref a0_past, .int (0 : Int32), .ref a0_views, .int (0 : Int32), .ref a0_notes, .int (0 : Int32), .ref a0_marks, .int a0_markCount])), (a0_pulls, aI E 6 z1), (a0_site, .inr (1, [.int z2.1, .int z2.2.1, .ref a0_site_heights, .ref a0_site_storeyKinds, .ref a0_site_storeyTilts])), (a0_site_heights, aI E 6 z2.2.2)] := hD
  refine lv_aload_n hx hb dX6_begin_34 rfl (lv_at hl 0 rfl) (W.pc 35 rfl ?_)
  refine lv_iconst (v := (0 : Int32)) hx hb dX6_begin_35 (by decide) (W.pc 36 rfl ?_)
  refine va_put (D := E.1) (ci := 3) (v := .int (0 : Int32)) (ty := .int) (C := RX6) (T := TX6) (N := 11) hx hb hts inT_X6 tyX6 tyX6_ok nmX6 hown hK hP hD hS 0 rfl rfl 10 (by decide) (hts _ w_1_84) (fun _ h9 => h9) rfl (by decide +kernel) rfl rfl (Nat.le_of_ble_eq_true rfl) dX6_begin_36 (fun H locs hP hD hS => W.pc 39 rfl ?_)
  have hP : wP E [(a0, .inr (3, [.int p1, .ref a0_pulls, .ref a0_site, .ref a0_past, .int (0 : Int32), .ref a0_views, .int (0 : Int32), .ref a0_notes, .int (0 : Int32), .ref a0_marks, .int (0 : Int32)])), (a0_pulls, aI E 6 z1), (a0_site, .inr (1, [.int z2.1, .int z2.2.1, .ref a0_site_heights, .ref a0_site_storeyKinds, .ref a0_site_storeyTilts])), (a0_site_heights, aI E 6 z2.2.2)] _ := hP
  have hD : va_D A [(a0, .inr (3, [.int p1, .ref a0_pulls, .ref a0_site, .ref a0_past, .int (0 : Int32), .ref a0_views, .int (0 : Int32), .ref a0_notes, .int (0 : Int32), .ref a0_marks, .int (0 : Int32)])), (a0_pulls, aI E 6 z1), (a0_site, .inr (1, [.int z2.1, .int z2.2.1, .ref a0_site_heights, .ref a0_site_storeyKinds, .ref a0_site_storeyTilts])), (a0_site_heights, aI E 6 z2.2.2)] := hD
  cases hsp
  exact rWv hX hP hS rfl dX6_begin_39
def sp_X6_pullOf (p1 : Int32) (fa0_pulls : Nat → Int32) : Int32 := (sp_X2_at 6 (p1 - p1 / (6 : Int32) * (6 : Int32)) fa0_pulls)
set_option maxHeartbeats 4000000 in
set_option maxRecDepth 100000 in
theorem c_X6_pullOf (l : Launch) (E : wE) (a0 a0_pulls a0_site a0_past a0_views a0_notes a0_marks : Nat) (p1 : Int32) (a0_kind : Int32) (a0_pasts : Int32) (a0_members : Int32) (a0_noteCount : Int32) (a0_markCount : Int32) (fa0_pulls : Nat → Int32) (z : Int32) (hsp : sp_X6_pullOf p1 fa0_pulls = z) : MR l yX6_pullOf cX6_pullOf 2 (some .int) 1 E [.ref a0, .int p1] [(a0, .inr (3, [.int a0_kind, .ref a0_pulls, .ref a0_site, .ref a0_past, .int a0_pasts, .ref a0_views, .int a0_members, .ref a0_notes, .int a0_noteCount, .ref a0_marks, .int a0_markCount])), (a0_pulls, aI E 6 fa0_pulls)] (some (.int z)) := by
  refine MR.of (by decide +kernel) (Nat.le_of_ble_eq_true rfl) ?_
  intro p e s m below meth c ls hX hK hP hl
  have hX : CX p s m [.ref a0, .int p1].toArray meth c cX6_pullOf 2 (some .int) RX6 := hX
  have hx := hX.1; have hb := hX.2.1; have hts := hX.2.2.2.2.1; have hown := hX.2.2.2.2.2.1
  have hl : lv_has ls 2 [(0, .ref a0), (1, .int p1)] := hl
  have hsp : ((sp_X2_at 6 (p1 - p1 / (6 : Int32) * (6 : Int32)) fa0_pulls)) = z := hsp
  refine lv_aload_n hx hb dX6_pullOf_0 rfl (lv_at hl 0 rfl) (W.pc 1 rfl ?_)
  refine va_get (D := E.1) (ci := 3) (v := .ref a0_pulls) (C := RX6) (T := TX6) (N := 11) hx hb hts inT_X6 hown hK hP 0 rfl rfl 1 (by decide) (hts _ w_1_64) (fun _ h9 => h9) rfl dX6_pullOf_1 (W.pc 4 rfl ?_)
  refine lv_iload_n hx hb dX6_pullOf_4 rfl (lv_at hl 1 rfl) (W.pc 5 rfl ?_)
  refine lv_bipush (v := (6 : Int32)) hx hb dX6_pullOf_5 (by decide) (W.pc 7 rfl ?_)
  refine lv_irem hx hb dX6_pullOf_7 (by decide) (W.pc 8 rfl ?_)
  refine kSR (st1 := [.int (sp_X2_at 6 (p1 - p1 / (6 : Int32) * (6 : Int32)) fa0_pulls)]) hX (c_X2_at l E a0_pulls 6 (by decide) (p1 - p1 / (6 : Int32) * (6 : Int32)) fa0_pulls _ rfl) B_X2_at w_2_196 hK (hP.pick [1] rfl) rfl hl.1 rfl (Nat.le_of_ble_eq_true rfl) ⟨Nat.le_of_ble_eq_true rfl, Nat.le_of_ble_eq_true rfl⟩ dX6_pullOf_8 rfl (W.pc 11 rfl ?_)
  subst hsp
  exact rRi hX rfl dX6_pullOf_11
def sp_X6_offBehind (p1 : Int32) (p2 : Int32) (a0_kind : Int32) (fa0_pulls : Nat → Int32) : Int32 := (sp_X0_behind a0_kind p1 p2 (sp_X6_pullOf p1 fa0_pulls))
set_option maxHeartbeats 4000000 in
set_option maxRecDepth 100000 in
theorem c_X6_offBehind (l : Launch) (E : wE) (a0 a0_pulls a0_site a0_past a0_views a0_notes a0_marks : Nat) (p1 : Int32) (p2 : Int32) (a0_kind : Int32) (a0_pasts : Int32) (a0_members : Int32) (a0_noteCount : Int32) (a0_markCount : Int32) (fa0_pulls : Nat → Int32) (z : Int32) (hsp : sp_X6_offBehind p1 p2 a0_kind fa0_pulls = z) : MR l yX6_offBehind cX6_offBehind 3 (some .int) 3 E [.ref a0, .int p1, .int p2] [(a0, .inr (3, [.int a0_kind, .ref a0_pulls, .ref a0_site, .ref a0_past, .int a0_pasts, .ref a0_views, .int a0_members, .ref a0_notes, .int a0_noteCount, .ref a0_marks, .int a0_markCount])), (a0_pulls, aI E 6 fa0_pulls)] (some (.int z)) := by
  refine MR.of (by decide +kernel) (Nat.le_of_ble_eq_true rfl) ?_
  intro p e s m below meth c ls hX hK hP hl
  have hX : CX p s m [.ref a0, .int p1, .int p2].toArray meth c cX6_offBehind 3 (some .int) RX6 := hX
  have hx := hX.1; have hb := hX.2.1; have hts := hX.2.2.2.2.1; have hown := hX.2.2.2.2.2.1
  have hl : lv_has ls 3 [(0, .ref a0), (1, .int p1), (2, .int p2)] := hl
  have hsp : ((sp_X0_behind a0_kind p1 p2 (sp_X6_pullOf p1 fa0_pulls))) = z := hsp
  refine lv_aload_n hx hb dX6_offBehind_0 rfl (lv_at hl 0 rfl) (W.pc 1 rfl ?_)
  refine va_get (D := E.1) (ci := 3) (v := .int a0_kind) (C := RX6) (T := TX6) (N := 11) hx hb hts inT_X6 hown hK hP 0 rfl rfl 0 (by decide) (hts _ w_1_62) (fun _ h9 => h9) rfl dX6_offBehind_1 (W.pc 4 rfl ?_)
  refine lv_iload_n hx hb dX6_offBehind_4 rfl (lv_at hl 1 rfl) (W.pc 5 rfl ?_)
  refine lv_iload_n hx hb dX6_offBehind_5 rfl (lv_at hl 2 rfl) (W.pc 6 rfl ?_)
  refine lv_aload_n hx hb dX6_offBehind_6 rfl (lv_at hl 0 rfl) (W.pc 7 rfl ?_)
  refine lv_iload_n hx hb dX6_offBehind_7 rfl (lv_at hl 1 rfl) (W.pc 8 rfl ?_)
  refine kVR (st1 := [.int (sp_X6_pullOf p1 fa0_pulls), .int p2, .int p1, .int a0_kind]) hX (c_X6_pullOf l E a0 a0_pulls a0_site a0_past a0_views a0_notes a0_marks p1 a0_kind a0_pasts a0_members a0_noteCount a0_markCount fa0_pulls _ rfl) B_X6_pullOf w_2_192 hK (hP.pick [0, 1] rfl) (q0 := 0) (ci := 3) rfl rfl rfl rfl hl.1 rfl (Nat.le_of_ble_eq_true rfl) ⟨Nat.le_of_ble_eq_true rfl, Nat.le_of_ble_eq_true rfl⟩ dX6_offBehind_8 rfl (W.pc 11 rfl ?_)
  refine kSR (st1 := [.int (sp_X0_behind a0_kind p1 p2 (sp_X6_pullOf p1 fa0_pulls))]) hX (c_X0_behind l E a0_kind p1 p2 (sp_X6_pullOf p1 fa0_pulls) _ rfl) B_X0_behind w_2_197 hK (hP.pick [] rfl) rfl hl.1 rfl (Nat.le_of_ble_eq_true rfl) ⟨Nat.le_of_ble_eq_true rfl, Nat.le_of_ble_eq_true rfl⟩ dX6_offBehind_11 rfl (W.pc 14 rfl ?_)
  subst hsp
  exact rRi hX rfl dX6_offBehind_14
noncomputable def lp_X6_goOn_2 (p1 : Int32) (a0_kind : Int32) (fa0_pulls : Nat → Int32) : Nat → Int32 → Int32 → Int32 → Option (Int32 × Int32 × Int32)
 | 0, _, _, _ => none
 | fu + 1, x2_2, ya0_site_0_2, ya0_site_1_2 => if p1 ≤ x2_2 then (some (x2_2, ya0_site_0_2, ya0_site_1_2)) else (if (9999 : Int32) ≤ ya0_site_1_2 then (some (x2_2, ya0_site_0_2, ya0_site_1_2)) else (lp_X6_goOn_2 p1 a0_kind fa0_pulls fu (x2_2 + (1 : Int32)) (sp_X0_behind a0_kind ya0_site_1_2 ya0_site_0_2 (sp_X6_pullOf ya0_site_1_2 fa0_pulls)) (ya0_site_1_2 + (1 : Int32))))
noncomputable def sp_X6_goOn (p1 : Int32) (a0_kind : Int32) (a0_site_off : Int32) (a0_site_year : Int32) (fa0_pulls : Nat → Int32) : Option (Int32 × Int32) := Option.bind (lp_X6_goOn_2 p1 a0_kind fa0_pulls FU (0 : Int32) a0_site_off a0_site_year) fun z1 => some (z1.2.1, z1.2.2)
set_option maxHeartbeats 4000000 in
set_option maxRecDepth 100000 in
theorem c_X6_goOn (l : Launch) (E : wE) (a0 a0_pulls a0_site a0_past a0_views a0_notes a0_marks a0_site_heights a0_site_storeyKinds a0_site_storeyTilts : Nat) (p1 : Int32) (a0_kind : Int32) (a0_pasts : Int32) (a0_members : Int32) (a0_noteCount : Int32) (a0_markCount : Int32) (a0_site_off : Int32) (a0_site_year : Int32) (fa0_pulls : Nat → Int32) (z_0 : Int32) (z_1 : Int32) (hsp : sp_X6_goOn p1 a0_kind a0_site_off a0_site_year fa0_pulls = some (z_0, z_1)) : MW l yX6_goOn cX6_goOn 3 none 3 E [.ref a0, .int p1] [(a0, .inr (3, [.int a0_kind, .ref a0_pulls, .ref a0_site, .ref a0_past, .int a0_pasts, .ref a0_views, .int a0_members, .ref a0_notes, .int a0_noteCount, .ref a0_marks, .int a0_markCount])), (a0_site, .inr (1, [.int a0_site_off, .int a0_site_year, .ref a0_site_heights, .ref a0_site_storeyKinds, .ref a0_site_storeyTilts])), (a0_pulls, aI E 6 fa0_pulls)] none [(a0, .inr (3, [.int a0_kind, .ref a0_pulls, .ref a0_site, .ref a0_past, .int a0_pasts, .ref a0_views, .int a0_members, .ref a0_notes, .int a0_noteCount, .ref a0_marks, .int a0_markCount])), (a0_site, .inr (1, [.int z_0, .int z_1, .ref a0_site_heights, .ref a0_site_storeyKinds, .ref a0_site_storeyTilts])), (a0_pulls, aI E 6 fa0_pulls)] := by
  refine MW.of (by decide +kernel) (Nat.le_of_ble_eq_true rfl) ?_
  intro p e s m below meth c ls A hX hK hP hD hS hA hl
  have hX : CX p s m [.ref a0, .int p1].toArray meth c cX6_goOn 3 none RX6 := hX
  have hx := hX.1; have hb := hX.2.1; have hts := hX.2.2.2.2.1; have hown := hX.2.2.2.2.2.1
  have hl : lv_has ls 3 [(0, .ref a0), (1, .int p1)] := hl
  have hP : wP E [(a0, .inr (3, [.int a0_kind, .ref a0_pulls, .ref a0_site, .ref a0_past, .int a0_pasts, .ref a0_views, .int a0_members, .ref a0_notes, .int a0_noteCount, .ref a0_marks, .int a0_markCount])), (a0_site, .inr (1, [.int a0_site_off, .int a0_site_year, .ref a0_site_heights, .ref a0_site_storeyKinds, .ref a0_site_storeyTilts])), (a0_pulls, aI E 6 fa0_pulls)] s.heap := hP
  have hsp : (Option.bind (lp_X6_goOn_2 p1 a0_kind fa0_pulls FU (0 : Int32) a0_site_off a0_site_year) fun z1 => some (z1.2.1, z1.2.2)) = some (z_0, z_1) := hsp
  refine lv_iconst (v := (0 : Int32)) hx hb dX6_goOn_0 (by decide) (W.pc 1 rfl ?_)
  refine lv_istore_n (lv' := [(2, .int (0 : Int32)), (0, .ref a0), (1, .int p1)]) hx hb dX6_goOn_1 rfl hl (by decide) rfl (fun ls hl => W.pc 2 rfl ?_)
  have L_2 : ∀ (z1 : Int32 × Int32 × Int32), (∀ (H : Heap) (locs : List Loc) (ls : Array Slot), wP E [(a0, .inr (3, [.int a0_kind, .ref a0_pulls, .ref a0_site, .ref a0_past, .int a0_pasts, .ref a0_views, .int a0_members, .ref a0_notes, .int a0_noteCount, .ref a0_marks, .int a0_markCount])), (a0_site, .inr (1, [.int z1.2.1, .int z1.2.2, .ref a0_site_heights, .ref a0_site_storeyKinds, .ref a0_site_storeyTilts])), (a0_pulls, aI E 6 fa0_pulls)] H → va_D A [(a0, .inr (3, [.int a0_kind, .ref a0_pulls, .ref a0_site, .ref a0_past, .int a0_pasts, .ref a0_views, .int a0_members, .ref a0_notes, .int a0_noteCount, .ref a0_marks, .int a0_markCount])), (a0_site, .inr (1, [.int z1.2.1, .int z1.2.2, .ref a0_site_heights, .ref a0_site_storeyKinds, .ref a0_site_storeyTilts])), (a0_pulls, aI E 6 fa0_pulls)] → va_S A s.heap H locs → lv_has ls 3 [] → W p l e (wR 3) s m [.ref a0, .int p1].toArray below meth c H locs 0 0 (MQ below (QWd E A none [(a0, .inr (3, [.int a0_kind, .ref a0_pulls, .ref a0_site, .ref a0_past, .int a0_pasts, .ref a0_views, .int a0_members, .ref a0_notes, .int a0_noteCount, .ref a0_marks, .int a0_markCount])), (a0_site, .inr (1, [.int z_0, .int z_1, .ref a0_site_heights, .ref a0_site_storeyKinds, .ref a0_site_storeyTilts])), (a0_pulls, aI E 6 fa0_pulls)]) [.ref a0, .int p1].toArray s 0 0 A) (F0 m 78 ls [])) → ∀ (fu : Nat) (x2_2 : Int32) (ya0_site_0_2 : Int32) (ya0_site_1_2 : Int32), ∀ (H : Heap) (locs : List Loc) (ls : Array Slot), wP E [(a0, .inr (3, [.int a0_kind, .ref a0_pulls, .ref a0_site, .ref a0_past, .int a0_pasts, .ref a0_views, .int a0_members, .ref a0_notes, .int a0_noteCount, .ref a0_marks, .int a0_markCount])), (a0_site, .inr (1, [.int ya0_site_0_2, .int ya0_site_1_2, .ref a0_site_heights, .ref a0_site_storeyKinds, .ref a0_site_storeyTilts])), (a0_pulls, aI E 6 fa0_pulls)] H → va_D A [(a0, .inr (3, [.int a0_kind, .ref a0_pulls, .ref a0_site, .ref a0_past, .int a0_pasts, .ref a0_views, .int a0_members, .ref a0_notes, .int a0_noteCount, .ref a0_marks, .int a0_markCount])), (a0_site, .inr (1, [.int ya0_site_0_2, .int ya0_site_1_2, .ref a0_site_heights, .ref a0_site_storeyKinds, .ref a0_site_storeyTilts])), (a0_pulls, aI E 6 fa0_pulls)] → va_S A s.heap H locs → lv_has ls 3 [(0, .ref a0), (1, .int p1), (2, .int x2_2)] → lp_X6_goOn_2 p1 a0_kind fa0_pulls fu x2_2 ya0_site_0_2 ya0_site_1_2 = some z1 → W p l e (wR 3) s m [.ref a0, .int p1].toArray below meth c H locs 0 0 (MQ below (QWd E A none [(a0, .inr (3, [.int a0_kind, .ref a0_pulls, .ref a0_site, .ref a0_past, .int a0_pasts, .ref a0_views, .int a0_members, .ref a0_notes, .int a0_noteCount, .ref a0_marks, .int a0_markCount])), (a0_site, .inr (1, [.int z_0, .int z_1, .ref a0_site_heights, .ref a0_site_storeyKinds, .ref a0_site_storeyTilts])), (a0_pulls, aI E 6 fa0_pulls)]) [.ref a0, .int p1].toArray s 0 0 A) (F0 m 2 ls []) := by
    intro z1 hk_2 fu
    induction fu with
    | zero => intro x2_2 ya0_site_0_2 ya0_site_1_2 H locs ls hP hD hS hl hsp; exact absurd (show none = some _ from hsp) (by simp)
    | succ fu ih_2 =>
      intro x2_2 ya0_site_0_2 ya0_site_1_2 H locs ls hP hD hS hl hsp
      have hsp : (if p1 ≤ x2_2 then (some (x2_2, ya0_site_0_2, ya0_site_1_2)) else (if (9999 : Int32) ≤ ya0_site_1_2 then (some (x2_2, ya0_site_0_2, ya0_site_1_2)) else (lp_X6_goOn_2 p1 a0_kind fa0_pulls fu (x2_2 + (1 : Int32)) (sp_X0_behind a0_kind ya0_site_1_2 ya0_site_0_2 (sp_X6_pullOf ya0_site_1_2 fa0_pulls)) (ya0_site_1_2 + (1 : Int32))))) = some z1 := hsp
      refine lv_iload_n hx hb dX6_goOn_2 rfl (lv_at hl 2 rfl) (W.pc 3 rfl ?_)
      refine lv_iload_n hx hb dX6_goOn_3 rfl (lv_at hl 1 rfl) (W.pc 4 rfl ?_)
      refine lv_icmp_ge (tgt := 78) hx hb dX6_goOn_4 (by decide) (fun c2 => ?_) (fun c2 => W.pc 7 rfl ?_)
      · have hsp := ip hsp c2
        obtain rfl := Option.some.inj hsp
        exact hk_2 _ _ _ hP hD hS (lv_sub hl [] rfl)
      · have hsp := iq hsp c2
        refine lv_aload_n hx hb dX6_goOn_7 rfl (lv_at hl 0 rfl) (W.pc 8 rfl ?_)
        refine va_get (D := E.1) (ci := 3) (v := .ref a0_site) (C := RX6) (T := TX6) (N := 11) hx hb hts inT_X6 hown hK hP 0 rfl rfl 2 (by decide) (hts _ w_1_67) (fun _ h9 => h9) rfl dX6_goOn_8 (W.pc 11 rfl ?_)
        refine va_get (D := E.1) (ci := 1) (v := .int ya0_site_1_2) (C := RX3) (T := TX3) (N := 5) hx hb hts inT_X3 hown hK hP 1 rfl rfl 1 (by decide) (hts _ w_1_44) (fun _ h9 => h9) rfl dX6_goOn_11 (W.pc 14 rfl ?_)
        refine lv_sipush (v := (9999 : Int32)) hx hb dX6_goOn_14 (by decide) (W.pc 17 rfl ?_)
        refine lv_icmp_ge (tgt := 78) hx hb dX6_goOn_17 (by decide) (fun c3 => ?_) (fun c3 => W.pc 20 rfl ?_)
        · have hsp := ip hsp c3
          obtain rfl := Option.some.inj hsp
          exact hk_2 _ _ _ hP hD hS (lv_sub hl [] rfl)
        · have hsp := iq hsp c3
          refine lv_aload_n hx hb dX6_goOn_20 rfl (lv_at hl 0 rfl) (W.pc 21 rfl ?_)
          refine va_get (D := E.1) (ci := 3) (v := .ref a0_site) (C := RX6) (T := TX6) (N := 11) hx hb hts inT_X6 hown hK hP 0 rfl rfl 2 (by decide) (hts _ w_1_67) (fun _ h9 => h9) rfl dX6_goOn_21 (W.pc 24 rfl ?_)
          refine lv_aload_n hx hb dX6_goOn_24 rfl (lv_at hl 0 rfl) (W.pc 25 rfl ?_)
          refine va_get (D := E.1) (ci := 3) (v := .int a0_kind) (C := RX6) (T := TX6) (N := 11) hx hb hts inT_X6 hown hK hP 0 rfl rfl 0 (by decide) (hts _ w_1_62) (fun _ h9 => h9) rfl dX6_goOn_25 (W.pc 28 rfl ?_)
          refine lv_aload_n hx hb dX6_goOn_28 rfl (lv_at hl 0 rfl) (W.pc 29 rfl ?_)
          refine va_get (D := E.1) (ci := 3) (v := .ref a0_site) (C := RX6) (T := TX6) (N := 11) hx hb hts inT_X6 hown hK hP 0 rfl rfl 2 (by decide) (hts _ w_1_67) (fun _ h9 => h9) rfl dX6_goOn_29 (W.pc 32 rfl ?_)
          refine va_get (D := E.1) (ci := 1) (v := .int ya0_site_1_2) (C := RX3) (T := TX3) (N := 5) hx hb hts inT_X3 hown hK hP 1 rfl rfl 1 (by decide) (hts _ w_1_44) (fun _ h9 => h9) rfl dX6_goOn_32 (W.pc 35 rfl ?_)
          refine lv_aload_n hx hb dX6_goOn_35 rfl (lv_at hl 0 rfl) (W.pc 36 rfl ?_)
          refine va_get (D := E.1) (ci := 3) (v := .ref a0_site) (C := RX6) (T := TX6) (N := 11) hx hb hts inT_X6 hown hK hP 0 rfl rfl 2 (by decide) (hts _ w_1_67) (fun _ h9 => h9) rfl dX6_goOn_36 (W.pc 39 rfl ?_)
          refine va_get (D := E.1) (ci := 1) (v := .int ya0_site_0_2) (C := RX3) (T := TX3) (N := 5) hx hb hts inT_X3 hown hK hP 1 rfl rfl 0 (by decide) (hts _ w_1_41) (fun _ h9 => h9) rfl dX6_goOn_39 (W.pc 42 rfl ?_)
          refine lv_aload_n hx hb dX6_goOn_42 rfl (lv_at hl 0 rfl) (W.pc 43 rfl ?_)
          refine lv_aload_n hx hb dX6_goOn_43 rfl (lv_at hl 0 rfl) (W.pc 44 rfl ?_)
          refine va_get (D := E.1) (ci := 3) (v := .ref a0_site) (C := RX6) (T := TX6) (N := 11) hx hb hts inT_X6 hown hK hP 0 rfl rfl 2 (by decide) (hts _ w_1_67) (fun _ h9 => h9) rfl dX6_goOn_44 (W.pc 47 rfl ?_)
          refine va_get (D := E.1) (ci := 1) (v := .int ya0_site_1_2) (C := RX3) (T := TX3) (N := 5) hx hb hts inT_X3 hown hK hP 1 rfl rfl 1 (by decide) (hts _ w_1_44) (fun _ h9 => h9) rfl dX6_goOn_47 (W.pc 50 rfl ?_)
          refine kVR (st1 := [.int (sp_X6_pullOf ya0_site_1_2 fa0_pulls), .int ya0_site_0_2, .int ya0_site_1_2, .int a0_kind, .ref a0_site]) hX (c_X6_pullOf l E a0 a0_pulls a0_site a0_past a0_views a0_notes a0_marks ya0_site_1_2 a0_kind a0_pasts a0_members a0_noteCount a0_markCount fa0_pulls _ rfl) B_X6_pullOf w_2_192 hK (hP.pick [0, 2] rfl) (q0 := 0) (ci := 3) rfl rfl rfl rfl hl.1 rfl (Nat.le_of_ble_eq_true rfl) ⟨Nat.le_of_ble_eq_true rfl, Nat.le_of_ble_eq_true rfl⟩ dX6_goOn_50 rfl (W.pc 53 rfl ?_)
          refine kSR (st1 := [.int (sp_X0_behind a0_kind ya0_site_1_2 ya0_site_0_2 (sp_X6_pullOf ya0_site_1_2 fa0_pulls)), .ref a0_site]) hX (c_X0_behind l E a0_kind ya0_site_1_2 ya0_site_0_2 (sp_X6_pullOf ya0_site_1_2 fa0_pulls) _ rfl) B_X0_behind w_2_197 hK (hP.pick [] rfl) rfl hl.1 rfl (Nat.le_of_ble_eq_true rfl) ⟨Nat.le_of_ble_eq_true rfl, Nat.le_of_ble_eq_true rfl⟩ dX6_goOn_53 rfl (W.pc 56 rfl ?_)
          refine va_put (D := E.1) (ci := 1) (v := .int (sp_X0_behind a0_kind ya0_site_1_2 ya0_site_0_2 (sp_X6_pullOf ya0_site_1_2 fa0_pulls))) (ty := .int) (C := RX3) (T := TX3) (N := 5) hx hb hts inT_X3 tyX3 tyX3_ok nmX3 hown hK hP hD hS 1 rfl rfl 0 (by decide) (hts _ w_1_41) (fun _ h9 => h9) rfl (by decide +kernel) rfl rfl (Nat.le_of_ble_eq_true rfl) dX6_goOn_56 (fun H locs hP hD hS => W.pc 59 rfl ?_)
          have hP : wP E [(a0, .inr (3, [.int a0_kind, .ref a0_pulls, .ref a0_site, .ref a0_past, .int a0_pasts, .ref a0_views, .int a0_members, .ref a0_notes, .int a0_noteCount, .ref a0_marks, .int a0_markCount])), (a0_site, .inr (1, [.int (sp_X0_behind a0_kind ya0_site_1_2 ya0_site_0_2 (sp_X6_pullOf ya0_site_1_2 fa0_pulls)), .int ya0_site_1_2, .ref a0_site_heights, .ref a0_site_storeyKinds, .ref a0_site_storeyTilts])), (a0_pulls, aI E 6 fa0_pulls)] _ := hP
          have hD : va_D A [(a0, .inr (3, [.int a0_kind, .ref a0_pulls, .ref a0_site, .ref a0_past, .int a0_pasts, .ref a0_views, .int a0_members, .ref a0_notes, .int a0_noteCount, .ref a0_marks, .int a0_markCount])), (a0_site, .inr (1, [.int (sp_X0_behind a0_kind ya0_site_1_2 ya0_site_0_2 (sp_X6_pullOf ya0_site_1_2 fa0_pulls)), .int ya0_site_1_2, .ref a0_site_heights, .ref a0_site_storeyKinds, .ref a0_site_storeyTilts])), (a0_pulls, aI E 6 fa0_pulls)] := hD
          refine lv_aload_n hx hb dX6_goOn_59 rfl (lv_at hl 0 rfl) (W.pc 60 rfl ?_)
          refine va_get (D := E.1) (ci := 3) (v := .ref a0_site) (C := RX6) (T := TX6) (N := 11) hx hb hts inT_X6 hown hK hP 0 rfl rfl 2 (by decide) (hts _ w_1_67) (fun _ h9 => h9) rfl dX6_goOn_60 (W.pc 63 rfl ?_)
          refine lv_dup hx hb dX6_goOn_63 rfl (W.pc 64 rfl ?_)
          refine va_get (D := E.1) (ci := 1) (v := .int ya0_site_1_2) (C := RX3) (T := TX3) (N := 5) hx hb hts inT_X3 hown hK hP 1 rfl rfl 1 (by decide) (hts _ w_1_44) (fun _ h9 => h9) rfl dX6_goOn_64 (W.pc 67 rfl ?_)
          refine lv_iconst (v := (1 : Int32)) hx hb dX6_goOn_67 (by decide) (W.pc 68 rfl ?_)
          refine lv_iadd hx hb dX6_goOn_68 (W.pc 69 rfl ?_)
          refine va_put (D := E.1) (ci := 1) (v := .int (ya0_site_1_2 + (1 : Int32))) (ty := .int) (C := RX3) (T := TX3) (N := 5) hx hb hts inT_X3 tyX3 tyX3_ok nmX3 hown hK hP hD hS 1 rfl rfl 1 (by decide) (hts _ w_1_44) (fun _ h9 => h9) rfl (by decide +kernel) rfl rfl (Nat.le_of_ble_eq_true rfl) dX6_goOn_69 (fun H locs hP hD hS => W.pc 72 rfl ?_)
          have hP : wP E [(a0, .inr (3, [.int a0_kind, .ref a0_pulls, .ref a0_site, .ref a0_past, .int a0_pasts, .ref a0_views, .int a0_members, .ref a0_notes, .int a0_noteCount, .ref a0_marks, .int a0_markCount])), (a0_site, .inr (1, [.int (sp_X0_behind a0_kind ya0_site_1_2 ya0_site_0_2 (sp_X6_pullOf ya0_site_1_2 fa0_pulls)), .int (ya0_site_1_2 + (1 : Int32)), .ref a0_site_heights, .ref a0_site_storeyKinds, .ref a0_site_storeyTilts])), (a0_pulls, aI E 6 fa0_pulls)] _ := hP
          have hD : va_D A [(a0, .inr (3, [.int a0_kind, .ref a0_pulls, .ref a0_site, .ref a0_past, .int a0_pasts, .ref a0_views, .int a0_members, .ref a0_notes, .int a0_noteCount, .ref a0_marks, .int a0_markCount])), (a0_site, .inr (1, [.int (sp_X0_behind a0_kind ya0_site_1_2 ya0_site_0_2 (sp_X6_pullOf ya0_site_1_2 fa0_pulls)), .int (ya0_site_1_2 + (1 : Int32)), .ref a0_site_heights, .ref a0_site_storeyKinds, .ref a0_site_storeyTilts])), (a0_pulls, aI E 6 fa0_pulls)] := hD
          refine lv_iinc (v := (x2_2 + (1 : Int32))) (lv' := [(2, .int (x2_2 + (1 : Int32))), (0, .ref a0), (1, .int p1)]) hx hb dX6_goOn_72 hl (k := 2) rfl rfl (by decide) rfl (fun ls hl => W.pc 75 rfl ?_)
          refine lv_goto (tgt := 2) hx hb dX6_goOn_75 (by decide) ?_
          exact ih_2 (x2_2 + (1 : Int32)) (sp_X0_behind a0_kind ya0_site_1_2 ya0_site_0_2 (sp_X6_pullOf ya0_site_1_2 fa0_pulls)) (ya0_site_1_2 + (1 : Int32)) _ _ _ hP hD hS (lv_sub hl [1, 2, 0] rfl) hsp
  obtain ⟨z1, hr_z1, hsp⟩ := bd_s hsp
  refine L_2 z1 (fun H locs ls hP hD hS hl => ?_) FU (0 : Int32) a0_site_off a0_site_year _ _ _ hP hD hS (lv_sub hl [1, 2, 0] rfl) hr_z1
  cases hsp
  exact rWv hX hP hS rfl dX6_goOn_78
noncomputable def lp_X6_notesFit_2 (p1 : Int32) (a0_noteCount : Int32) (fa0_notes : Nat → Int32) : Nat → Int32 → Option (Int32)
 | 0, _ => none
 | fu + 1, x2_2 => if a0_noteCount ≤ x2_2 then (some (1 : Int32)) else (if (sp_X0_behind p1 (sp_X2_at 24 ((x2_2 * (4 : Int32)) + (2 : Int32)) fa0_notes) (sp_X2_at 24 (x2_2 * (4 : Int32)) fa0_notes) (sp_X2_at 24 ((x2_2 * (4 : Int32)) + (1 : Int32)) fa0_notes)) = (sp_X2_at 24 ((x2_2 * (4 : Int32)) + (3 : Int32)) fa0_notes) then (lp_X6_notesFit_2 p1 a0_noteCount fa0_notes fu (x2_2 + (1 : Int32))) else (some (0 : Int32)))
noncomputable def sp_X6_notesFit (p1 : Int32) (a0_noteCount : Int32) (fa0_notes : Nat → Int32) : Option (Int32) := lp_X6_notesFit_2 p1 a0_noteCount fa0_notes FU (0 : Int32)
set_option maxHeartbeats 4000000 in
set_option maxRecDepth 100000 in
theorem c_X6_notesFit (l : Launch) (E : wE) (a0 a0_pulls a0_site a0_past a0_views a0_notes a0_marks : Nat) (p1 : Int32) (a0_kind : Int32) (a0_pasts : Int32) (a0_members : Int32) (a0_noteCount : Int32) (a0_markCount : Int32) (fa0_notes : Nat → Int32) (z : Int32) (hsp : sp_X6_notesFit p1 a0_noteCount fa0_notes = some z) : MR l yX6_notesFit cX6_notesFit 7 (some .boolean) 3 E [.ref a0, .int p1] [(a0, .inr (3, [.int a0_kind, .ref a0_pulls, .ref a0_site, .ref a0_past, .int a0_pasts, .ref a0_views, .int a0_members, .ref a0_notes, .int a0_noteCount, .ref a0_marks, .int a0_markCount])), (a0_notes, aI E 24 fa0_notes)] (some (.int z)) := by
  refine MR.of (by decide +kernel) (Nat.le_of_ble_eq_true rfl) ?_
  intro p e s m below meth c ls hX hK hP hl
  have hX : CX p s m [.ref a0, .int p1].toArray meth c cX6_notesFit 7 (some .boolean) RX6 := hX
  have hx := hX.1; have hb := hX.2.1; have hts := hX.2.2.2.2.1; have hown := hX.2.2.2.2.2.1
  have hl : lv_has ls 7 [(0, .ref a0), (1, .int p1)] := hl
  have hsp : (lp_X6_notesFit_2 p1 a0_noteCount fa0_notes FU (0 : Int32)) = some z := hsp
  refine lv_iconst (v := (0 : Int32)) hx hb dX6_notesFit_0 (by decide) (W.pc 1 rfl ?_)
  refine lv_istore_n (lv' := [(2, .int (0 : Int32)), (0, .ref a0), (1, .int p1)]) hx hb dX6_notesFit_1 rfl hl (by decide) rfl (fun ls hl => W.pc 2 rfl ?_)
  have L_2 : ∀ (fu : Nat) (x2_2 : Int32), ∀ (ls : Array Slot), lv_has ls 7 [(0, .ref a0), (1, .int p1), (2, .int x2_2)] → lp_X6_notesFit_2 p1 a0_noteCount fa0_notes fu x2_2 = some z → W p l e (wR 3) s m [.ref a0, .int p1].toArray below meth c s.heap [] 0 0 (MQ below (QRd E (some (.int z))) [.ref a0, .int p1].toArray s 0 0 (fun _ => False)) (F0 m 2 ls []) := by
    intro fu
    induction fu with
    | zero => intro x2_2 ls hl hsp; exact absurd (show none = some _ from hsp) (by simp)
    | succ fu ih_2 =>
      intro x2_2 ls hl hsp
      have hsp : (if a0_noteCount ≤ x2_2 then (some (1 : Int32)) else (if (sp_X0_behind p1 (sp_X2_at 24 ((x2_2 * (4 : Int32)) + (2 : Int32)) fa0_notes) (sp_X2_at 24 (x2_2 * (4 : Int32)) fa0_notes) (sp_X2_at 24 ((x2_2 * (4 : Int32)) + (1 : Int32)) fa0_notes)) = (sp_X2_at 24 ((x2_2 * (4 : Int32)) + (3 : Int32)) fa0_notes) then (lp_X6_notesFit_2 p1 a0_noteCount fa0_notes fu (x2_2 + (1 : Int32))) else (some (0 : Int32)))) = some z := hsp
      refine lv_iload_n hx hb dX6_notesFit_2 rfl (lv_at hl 2 rfl) (W.pc 3 rfl ?_)
      refine lv_aload_n hx hb dX6_notesFit_3 rfl (lv_at hl 0 rfl) (W.pc 4 rfl ?_)
      refine va_get (D := E.1) (ci := 3) (v := .int a0_noteCount) (C := RX6) (T := TX6) (N := 11) hx hb hts inT_X6 hown hK hP 0 rfl rfl 8 (by decide) (hts _ w_1_80) (fun _ h9 => h9) rfl dX6_notesFit_4 (W.pc 7 rfl ?_)
      refine lv_icmp_ge (tgt := 79) hx hb dX6_notesFit_7 (by decide) (fun c1 => ?_) (fun c1 => W.pc 10 rfl ?_)
      · have hsp := ip hsp c1
        refine lv_iconst (v := (1 : Int32)) hx hb dX6_notesFit_79 (by decide) (W.pc 80 rfl ?_)
        obtain rfl := Option.some.inj hsp
        exact rRz hX rfl rfl dX6_notesFit_80
      · have hsp := iq hsp c1
        refine lv_iload_n hx hb dX6_notesFit_10 rfl (lv_at hl 2 rfl) (W.pc 11 rfl ?_)
        refine lv_iconst (v := (4 : Int32)) hx hb dX6_notesFit_11 (by decide) (W.pc 12 rfl ?_)
        refine lv_imul hx hb dX6_notesFit_12 (W.pc 13 rfl ?_)
        refine lv_istore_n (lv' := [(3, .int (x2_2 * (4 : Int32))), (0, .ref a0), (1, .int p1), (2, .int x2_2)]) hx hb dX6_notesFit_13 rfl hl (by decide) rfl (fun ls hl => W.pc 14 rfl ?_)
        refine lv_aload_n hx hb dX6_notesFit_14 rfl (lv_at hl 1 rfl) (W.pc 15 rfl ?_)
        refine va_get (D := E.1) (ci := 3) (v := .ref a0_notes) (C := RX6) (T := TX6) (N := 11) hx hb hts inT_X6 hown hK hP 0 rfl rfl 7 (by decide) (hts _ w_1_78) (fun _ h9 => h9) rfl dX6_notesFit_15 (W.pc 18 rfl ?_)
        refine lv_iload_n hx hb dX6_notesFit_18 rfl (lv_at hl 0 rfl) (W.pc 19 rfl ?_)
        refine kSR (st1 := [.int (sp_X2_at 24 (x2_2 * (4 : Int32)) fa0_notes)]) hX (c_X2_at l E a0_notes 24 (by decide) (x2_2 * (4 : Int32)) fa0_notes _ rfl) B_X2_at w_2_196 hK (hP.pick [1] rfl) rfl hl.1 rfl (Nat.le_of_ble_eq_true rfl) ⟨Nat.le_of_ble_eq_true rfl, Nat.le_of_ble_eq_true rfl⟩ dX6_notesFit_19 rfl (W.pc 22 rfl ?_)
        refine lv_istore (lv' := [(4, .int (sp_X2_at 24 (x2_2 * (4 : Int32)) fa0_notes)), (3, .int (x2_2 * (4 : Int32))), (0, .ref a0), (1, .int p1), (2, .int x2_2)]) hx hb dX6_notesFit_22 hl (by decide) rfl (fun ls hl => W.pc 24 rfl ?_)
        refine lv_aload_n hx hb dX6_notesFit_24 rfl (lv_at hl 2 rfl) (W.pc 25 rfl ?_)
        refine va_get (D := E.1) (ci := 3) (v := .ref a0_notes) (C := RX6) (T := TX6) (N := 11) hx hb hts inT_X6 hown hK hP 0 rfl rfl 7 (by decide) (hts _ w_1_78) (fun _ h9 => h9) rfl dX6_notesFit_25 (W.pc 28 rfl ?_)
        refine lv_iload_n hx hb dX6_notesFit_28 rfl (lv_at hl 1 rfl) (W.pc 29 rfl ?_)
        refine lv_iconst (v := (1 : Int32)) hx hb dX6_notesFit_29 (by decide) (W.pc 30 rfl ?_)
        refine lv_iadd hx hb dX6_notesFit_30 (W.pc 31 rfl ?_)
        refine kSR (st1 := [.int (sp_X2_at 24 ((x2_2 * (4 : Int32)) + (1 : Int32)) fa0_notes)]) hX (c_X2_at l E a0_notes 24 (by decide) ((x2_2 * (4 : Int32)) + (1 : Int32)) fa0_notes _ rfl) B_X2_at w_2_196 hK (hP.pick [1] rfl) rfl hl.1 rfl (Nat.le_of_ble_eq_true rfl) ⟨Nat.le_of_ble_eq_true rfl, Nat.le_of_ble_eq_true rfl⟩ dX6_notesFit_31 rfl (W.pc 34 rfl ?_)
        refine lv_istore (lv' := [(5, .int (sp_X2_at 24 ((x2_2 * (4 : Int32)) + (1 : Int32)) fa0_notes)), (4, .int (sp_X2_at 24 (x2_2 * (4 : Int32)) fa0_notes)), (3, .int (x2_2 * (4 : Int32))), (0, .ref a0), (1, .int p1), (2, .int x2_2)]) hx hb dX6_notesFit_34 hl (by decide) rfl (fun ls hl => W.pc 36 rfl ?_)
        refine lv_aload_n hx hb dX6_notesFit_36 rfl (lv_at hl 3 rfl) (W.pc 37 rfl ?_)
        refine va_get (D := E.1) (ci := 3) (v := .ref a0_notes) (C := RX6) (T := TX6) (N := 11) hx hb hts inT_X6 hown hK hP 0 rfl rfl 7 (by decide) (hts _ w_1_78) (fun _ h9 => h9) rfl dX6_notesFit_37 (W.pc 40 rfl ?_)
        refine lv_iload_n hx hb dX6_notesFit_40 rfl (lv_at hl 2 rfl) (W.pc 41 rfl ?_)
        refine lv_iconst (v := (2 : Int32)) hx hb dX6_notesFit_41 (by decide) (W.pc 42 rfl ?_)
        refine lv_iadd hx hb dX6_notesFit_42 (W.pc 43 rfl ?_)
        refine kSR (st1 := [.int (sp_X2_at 24 ((x2_2 * (4 : Int32)) + (2 : Int32)) fa0_notes)]) hX (c_X2_at l E a0_notes 24 (by decide) ((x2_2 * (4 : Int32)) + (2 : Int32)) fa0_notes _ rfl) B_X2_at w_2_196 hK (hP.pick [1] rfl) rfl hl.1 rfl (Nat.le_of_ble_eq_true rfl) ⟨Nat.le_of_ble_eq_true rfl, Nat.le_of_ble_eq_true rfl⟩ dX6_notesFit_43 rfl (W.pc 46 rfl ?_)
        refine lv_istore (lv' := [(6, .int (sp_X2_at 24 ((x2_2 * (4 : Int32)) + (2 : Int32)) fa0_notes)), (5, .int (sp_X2_at 24 ((x2_2 * (4 : Int32)) + (1 : Int32)) fa0_notes)), (4, .int (sp_X2_at 24 (x2_2 * (4 : Int32)) fa0_notes)), (3, .int (x2_2 * (4 : Int32))), (0, .ref a0), (1, .int p1), (2, .int x2_2)]) hx hb dX6_notesFit_46 hl (by decide) rfl (fun ls hl => W.pc 48 rfl ?_)
        refine lv_iload_n hx hb dX6_notesFit_48 rfl (lv_at hl 5 rfl) (W.pc 49 rfl ?_)
        refine lv_iload hx hb dX6_notesFit_49 (lv_at hl 0 rfl) (W.pc 51 rfl ?_)
        refine lv_iload hx hb dX6_notesFit_51 (lv_at hl 2 rfl) (W.pc 53 rfl ?_)
        refine lv_iload hx hb dX6_notesFit_53 (lv_at hl 1 rfl) (W.pc 55 rfl ?_)
        refine kSR (st1 := [.int (sp_X0_behind p1 (sp_X2_at 24 ((x2_2 * (4 : Int32)) + (2 : Int32)) fa0_notes) (sp_X2_at 24 (x2_2 * (4 : Int32)) fa0_notes) (sp_X2_at 24 ((x2_2 * (4 : Int32)) + (1 : Int32)) fa0_notes))]) hX (c_X0_behind l E p1 (sp_X2_at 24 ((x2_2 * (4 : Int32)) + (2 : Int32)) fa0_notes) (sp_X2_at 24 (x2_2 * (4 : Int32)) fa0_notes) (sp_X2_at 24 ((x2_2 * (4 : Int32)) + (1 : Int32)) fa0_notes) _ rfl) B_X0_behind w_2_197 hK (hP.pick [] rfl) rfl hl.1 rfl (Nat.le_of_ble_eq_true rfl) ⟨Nat.le_of_ble_eq_true rfl, Nat.le_of_ble_eq_true rfl⟩ dX6_notesFit_55 rfl (W.pc 58 rfl ?_)
        refine lv_aload_n hx hb dX6_notesFit_58 rfl (lv_at hl 4 rfl) (W.pc 59 rfl ?_)
        refine va_get (D := E.1) (ci := 3) (v := .ref a0_notes) (C := RX6) (T := TX6) (N := 11) hx hb hts inT_X6 hown hK hP 0 rfl rfl 7 (by decide) (hts _ w_1_78) (fun _ h9 => h9) rfl dX6_notesFit_59 (W.pc 62 rfl ?_)
        refine lv_iload_n hx hb dX6_notesFit_62 rfl (lv_at hl 3 rfl) (W.pc 63 rfl ?_)
        refine lv_iconst (v := (3 : Int32)) hx hb dX6_notesFit_63 (by decide) (W.pc 64 rfl ?_)
        refine lv_iadd hx hb dX6_notesFit_64 (W.pc 65 rfl ?_)
        refine kSR (st1 := [.int (sp_X2_at 24 ((x2_2 * (4 : Int32)) + (3 : Int32)) fa0_notes), .int (sp_X0_behind p1 (sp_X2_at 24 ((x2_2 * (4 : Int32)) + (2 : Int32)) fa0_notes) (sp_X2_at 24 (x2_2 * (4 : Int32)) fa0_notes) (sp_X2_at 24 ((x2_2 * (4 : Int32)) + (1 : Int32)) fa0_notes))]) hX (c_X2_at l E a0_notes 24 (by decide) ((x2_2 * (4 : Int32)) + (3 : Int32)) fa0_notes _ rfl) B_X2_at w_2_196 hK (hP.pick [1] rfl) rfl hl.1 rfl (Nat.le_of_ble_eq_true rfl) ⟨Nat.le_of_ble_eq_true rfl, Nat.le_of_ble_eq_true rfl⟩ dX6_notesFit_65 rfl (W.pc 68 rfl ?_)
        refine lv_icmp_eq (tgt := 73) hx hb dX6_notesFit_68 (by decide) (fun c2 => ?_) (fun c2 => W.pc 71 rfl ?_)
        · have hsp := ip hsp c2
          refine lv_iinc (v := (x2_2 + (1 : Int32))) (lv' := [(2, .int (x2_2 + (1 : Int32))), (6, .int (sp_X2_at 24 ((x2_2 * (4 : Int32)) + (2 : Int32)) fa0_notes)), (5, .int (sp_X2_at 24 ((x2_2 * (4 : Int32)) + (1 : Int32)) fa0_notes)), (4, .int (sp_X2_at 24 (x2_2 * (4 : Int32)) fa0_notes)), (3, .int (x2_2 * (4 : Int32))), (0, .ref a0), (1, .int p1)]) hx hb dX6_notesFit_73 hl (k := 6) rfl rfl (by decide) rfl (fun ls hl => W.pc 76 rfl ?_)
          refine lv_goto (tgt := 2) hx hb dX6_notesFit_76 (by decide) ?_
          exact ih_2 (x2_2 + (1 : Int32)) _ (lv_sub hl [5, 6, 0] rfl) hsp
        · have hsp := iq hsp c2
          refine lv_iconst (v := (0 : Int32)) hx hb dX6_notesFit_71 (by decide) (W.pc 72 rfl ?_)
          obtain rfl := Option.some.inj hsp
          exact rRz hX rfl rfl dX6_notesFit_72
  exact L_2 FU (0 : Int32) _ (lv_sub hl [1, 2, 0] rfl) hsp
noncomputable def lp_X6_marksFit_2 (p1 : Int32) (p2 : Int32) (a0_markCount : Int32) (fa0_marks : Nat → Int32) : Nat → Int32 → Option (Int32)
 | 0, _ => none
 | fu + 1, x3_2 => if a0_markCount ≤ x3_2 then (some (1 : Int32)) else (lt_ (if (sp_X2_at 30 ((x3_2 * (5 : Int32)) + (4 : Int32)) fa0_marks) = (1 : Int32) then ((1 : Int32)) else ((0 : Int32))) fun z2 => if (sp_X2_at 30 (x3_2 * (5 : Int32)) fa0_marks) = p1 then (if (sp_X4_stands p2 (sp_X2_at 30 ((x3_2 * (5 : Int32)) + (1 : Int32)) fa0_marks) (sp_X2_at 30 ((x3_2 * (5 : Int32)) + (2 : Int32)) fa0_marks) (sp_X2_at 30 ((x3_2 * (5 : Int32)) + (3 : Int32)) fa0_marks)) = z2 then (lp_X6_marksFit_2 p1 p2 a0_markCount fa0_marks fu (x3_2 + (1 : Int32))) else (some (0 : Int32))) else (lp_X6_marksFit_2 p1 p2 a0_markCount fa0_marks fu (x3_2 + (1 : Int32))))
noncomputable def sp_X6_marksFit (p1 : Int32) (p2 : Int32) (a0_markCount : Int32) (fa0_marks : Nat → Int32) : Option (Int32) := lp_X6_marksFit_2 p1 p2 a0_markCount fa0_marks FU (0 : Int32)
set_option maxHeartbeats 4000000 in
set_option maxRecDepth 100000 in
theorem c_X6_marksFit (l : Launch) (E : wE) (a0 a0_pulls a0_site a0_past a0_views a0_notes a0_marks : Nat) (p1 : Int32) (p2 : Int32) (a0_kind : Int32) (a0_pasts : Int32) (a0_members : Int32) (a0_noteCount : Int32) (a0_markCount : Int32) (fa0_marks : Nat → Int32) (z : Int32) (hsp : sp_X6_marksFit p1 p2 a0_markCount fa0_marks = some z) : MR l yX6_marksFit cX6_marksFit 9 (some .boolean) 2 E [.ref a0, .int p1, .int p2] [(a0, .inr (3, [.int a0_kind, .ref a0_pulls, .ref a0_site, .ref a0_past, .int a0_pasts, .ref a0_views, .int a0_members, .ref a0_notes, .int a0_noteCount, .ref a0_marks, .int a0_markCount])), (a0_marks, aI E 30 fa0_marks)] (some (.int z)) := by
  refine MR.of (by decide +kernel) (Nat.le_of_ble_eq_true rfl) ?_
  intro p e s m below meth c ls hX hK hP hl
  have hX : CX p s m [.ref a0, .int p1, .int p2].toArray meth c cX6_marksFit 9 (some .boolean) RX6 := hX
  have hx := hX.1; have hb := hX.2.1; have hts := hX.2.2.2.2.1; have hown := hX.2.2.2.2.2.1
  have hl : lv_has ls 9 [(0, .ref a0), (1, .int p1), (2, .int p2)] := hl
  have hsp : (lp_X6_marksFit_2 p1 p2 a0_markCount fa0_marks FU (0 : Int32)) = some z := hsp
  refine lv_iconst (v := (0 : Int32)) hx hb dX6_marksFit_0 (by decide) (W.pc 1 rfl ?_)
  refine lv_istore_n (lv' := [(3, .int (0 : Int32)), (0, .ref a0), (1, .int p1), (2, .int p2)]) hx hb dX6_marksFit_1 rfl hl (by decide) rfl (fun ls hl => W.pc 2 rfl ?_)
  have L_2 : ∀ (fu : Nat) (x3_2 : Int32), ∀ (ls : Array Slot), lv_has ls 9 [(0, .ref a0), (1, .int p1), (2, .int p2), (3, .int x3_2)] → lp_X6_marksFit_2 p1 p2 a0_markCount fa0_marks fu x3_2 = some z → W p l e (wR 2) s m [.ref a0, .int p1, .int p2].toArray below meth c s.heap [] 0 0 (MQ below (QRd E (some (.int z))) [.ref a0, .int p1, .int p2].toArray s 0 0 (fun _ => False)) (F0 m 2 ls []) := by
    intro fu
    induction fu with
    | zero => intro x3_2 ls hl hsp; exact absurd (show none = some _ from hsp) (by simp)
    | succ fu ih_2 =>
      intro x3_2 ls hl hsp
      have hsp : (if a0_markCount ≤ x3_2 then (some (1 : Int32)) else (lt_ (if (sp_X2_at 30 ((x3_2 * (5 : Int32)) + (4 : Int32)) fa0_marks) = (1 : Int32) then ((1 : Int32)) else ((0 : Int32))) fun z2 => if (sp_X2_at 30 (x3_2 * (5 : Int32)) fa0_marks) = p1 then (if (sp_X4_stands p2 (sp_X2_at 30 ((x3_2 * (5 : Int32)) + (1 : Int32)) fa0_marks) (sp_X2_at 30 ((x3_2 * (5 : Int32)) + (2 : Int32)) fa0_marks) (sp_X2_at 30 ((x3_2 * (5 : Int32)) + (3 : Int32)) fa0_marks)) = z2 then (lp_X6_marksFit_2 p1 p2 a0_markCount fa0_marks fu (x3_2 + (1 : Int32))) else (some (0 : Int32))) else (lp_X6_marksFit_2 p1 p2 a0_markCount fa0_marks fu (x3_2 + (1 : Int32))))) = some z := hsp
      refine lv_iload_n hx hb dX6_marksFit_2 rfl (lv_at hl 3 rfl) (W.pc 3 rfl ?_)
      refine lv_aload_n hx hb dX6_marksFit_3 rfl (lv_at hl 0 rfl) (W.pc 4 rfl ?_)
      refine va_get (D := E.1) (ci := 3) (v := .int a0_markCount) (C := RX6) (T := TX6) (N := 11) hx hb hts inT_X6 hown hK hP 0 rfl rfl 10 (by decide) (hts _ w_1_84) (fun _ h9 => h9) rfl dX6_marksFit_4 (W.pc 7 rfl ?_)
      refine lv_icmp_ge (tgt := 112) hx hb dX6_marksFit_7 (by decide) (fun c1 => ?_) (fun c1 => W.pc 10 rfl ?_)
      · have hsp := ip hsp c1
        refine lv_iconst (v := (1 : Int32)) hx hb dX6_marksFit_112 (by decide) (W.pc 113 rfl ?_)
        obtain rfl := Option.some.inj hsp
        exact rRz hX rfl rfl dX6_marksFit_113
      · have hsp := iq hsp c1
        refine lv_iload_n hx hb dX6_marksFit_10 rfl (lv_at hl 3 rfl) (W.pc 11 rfl ?_)
        refine lv_iconst (v := (5 : Int32)) hx hb dX6_marksFit_11 (by decide) (W.pc 12 rfl ?_)
        refine lv_imul hx hb dX6_marksFit_12 (W.pc 13 rfl ?_)
        refine lv_istore (lv' := [(4, .int (x3_2 * (5 : Int32))), (0, .ref a0), (1, .int p1), (2, .int p2), (3, .int x3_2)]) hx hb dX6_marksFit_13 hl (by decide) rfl (fun ls hl => W.pc 15 rfl ?_)
        refine lv_aload_n hx hb dX6_marksFit_15 rfl (lv_at hl 1 rfl) (W.pc 16 rfl ?_)
        refine va_get (D := E.1) (ci := 3) (v := .ref a0_marks) (C := RX6) (T := TX6) (N := 11) hx hb hts inT_X6 hown hK hP 0 rfl rfl 9 (by decide) (hts _ w_1_82) (fun _ h9 => h9) rfl dX6_marksFit_16 (W.pc 19 rfl ?_)
        refine lv_iload hx hb dX6_marksFit_19 (lv_at hl 0 rfl) (W.pc 21 rfl ?_)
        refine lv_iconst (v := (1 : Int32)) hx hb dX6_marksFit_21 (by decide) (W.pc 22 rfl ?_)
        refine lv_iadd hx hb dX6_marksFit_22 (W.pc 23 rfl ?_)
        refine kSR (st1 := [.int (sp_X2_at 30 ((x3_2 * (5 : Int32)) + (1 : Int32)) fa0_marks)]) hX (c_X2_at l E a0_marks 30 (by decide) ((x3_2 * (5 : Int32)) + (1 : Int32)) fa0_marks _ rfl) B_X2_at w_2_196 hK (hP.pick [1] rfl) rfl hl.1 rfl (Nat.le_of_ble_eq_true rfl) ⟨Nat.le_of_ble_eq_true rfl, Nat.le_of_ble_eq_true rfl⟩ dX6_marksFit_23 rfl (W.pc 26 rfl ?_)
        refine lv_istore (lv' := [(5, .int (sp_X2_at 30 ((x3_2 * (5 : Int32)) + (1 : Int32)) fa0_marks)), (4, .int (x3_2 * (5 : Int32))), (0, .ref a0), (1, .int p1), (2, .int p2), (3, .int x3_2)]) hx hb dX6_marksFit_26 hl (by decide) rfl (fun ls hl => W.pc 28 rfl ?_)
        refine lv_aload_n hx hb dX6_marksFit_28 rfl (lv_at hl 2 rfl) (W.pc 29 rfl ?_)
        refine va_get (D := E.1) (ci := 3) (v := .ref a0_marks) (C := RX6) (T := TX6) (N := 11) hx hb hts inT_X6 hown hK hP 0 rfl rfl 9 (by decide) (hts _ w_1_82) (fun _ h9 => h9) rfl dX6_marksFit_29 (W.pc 32 rfl ?_)
        refine lv_iload hx hb dX6_marksFit_32 (lv_at hl 1 rfl) (W.pc 34 rfl ?_)
        refine lv_iconst (v := (2 : Int32)) hx hb dX6_marksFit_34 (by decide) (W.pc 35 rfl ?_)
        refine lv_iadd hx hb dX6_marksFit_35 (W.pc 36 rfl ?_)
        refine kSR (st1 := [.int (sp_X2_at 30 ((x3_2 * (5 : Int32)) + (2 : Int32)) fa0_marks)]) hX (c_X2_at l E a0_marks 30 (by decide) ((x3_2 * (5 : Int32)) + (2 : Int32)) fa0_marks _ rfl) B_X2_at w_2_196 hK (hP.pick [1] rfl) rfl hl.1 rfl (Nat.le_of_ble_eq_true rfl) ⟨Nat.le_of_ble_eq_true rfl, Nat.le_of_ble_eq_true rfl⟩ dX6_marksFit_36 rfl (W.pc 39 rfl ?_)
        refine lv_istore (lv' := [(6, .int (sp_X2_at 30 ((x3_2 * (5 : Int32)) + (2 : Int32)) fa0_marks)), (5, .int (sp_X2_at 30 ((x3_2 * (5 : Int32)) + (1 : Int32)) fa0_marks)), (4, .int (x3_2 * (5 : Int32))), (0, .ref a0), (1, .int p1), (2, .int p2), (3, .int x3_2)]) hx hb dX6_marksFit_39 hl (by decide) rfl (fun ls hl => W.pc 41 rfl ?_)
        refine lv_aload_n hx hb dX6_marksFit_41 rfl (lv_at hl 3 rfl) (W.pc 42 rfl ?_)
        refine va_get (D := E.1) (ci := 3) (v := .ref a0_marks) (C := RX6) (T := TX6) (N := 11) hx hb hts inT_X6 hown hK hP 0 rfl rfl 9 (by decide) (hts _ w_1_82) (fun _ h9 => h9) rfl dX6_marksFit_42 (W.pc 45 rfl ?_)
        refine lv_iload hx hb dX6_marksFit_45 (lv_at hl 2 rfl) (W.pc 47 rfl ?_)
        refine lv_iconst (v := (3 : Int32)) hx hb dX6_marksFit_47 (by decide) (W.pc 48 rfl ?_)
        refine lv_iadd hx hb dX6_marksFit_48 (W.pc 49 rfl ?_)
        refine kSR (st1 := [.int (sp_X2_at 30 ((x3_2 * (5 : Int32)) + (3 : Int32)) fa0_marks)]) hX (c_X2_at l E a0_marks 30 (by decide) ((x3_2 * (5 : Int32)) + (3 : Int32)) fa0_marks _ rfl) B_X2_at w_2_196 hK (hP.pick [1] rfl) rfl hl.1 rfl (Nat.le_of_ble_eq_true rfl) ⟨Nat.le_of_ble_eq_true rfl, Nat.le_of_ble_eq_true rfl⟩ dX6_marksFit_49 rfl (W.pc 52 rfl ?_)
        refine lv_istore (lv' := [(7, .int (sp_X2_at 30 ((x3_2 * (5 : Int32)) + (3 : Int32)) fa0_marks)), (6, .int (sp_X2_at 30 ((x3_2 * (5 : Int32)) + (2 : Int32)) fa0_marks)), (5, .int (sp_X2_at 30 ((x3_2 * (5 : Int32)) + (1 : Int32)) fa0_marks)), (4, .int (x3_2 * (5 : Int32))), (0, .ref a0), (1, .int p1), (2, .int p2), (3, .int x3_2)]) hx hb dX6_marksFit_52 hl (by decide) rfl (fun ls hl => W.pc 54 rfl ?_)
        refine lv_aload_n hx hb dX6_marksFit_54 rfl (lv_at hl 4 rfl) (W.pc 55 rfl ?_)
        refine va_get (D := E.1) (ci := 3) (v := .ref a0_marks) (C := RX6) (T := TX6) (N := 11) hx hb hts inT_X6 hown hK hP 0 rfl rfl 9 (by decide) (hts _ w_1_82) (fun _ h9 => h9) rfl dX6_marksFit_55 (W.pc 58 rfl ?_)
        refine lv_iload hx hb dX6_marksFit_58 (lv_at hl 3 rfl) (W.pc 60 rfl ?_)
        refine lv_iconst (v := (4 : Int32)) hx hb dX6_marksFit_60 (by decide) (W.pc 61 rfl ?_)
        refine lv_iadd hx hb dX6_marksFit_61 (W.pc 62 rfl ?_)
        refine kSR (st1 := [.int (sp_X2_at 30 ((x3_2 * (5 : Int32)) + (4 : Int32)) fa0_marks)]) hX (c_X2_at l E a0_marks 30 (by decide) ((x3_2 * (5 : Int32)) + (4 : Int32)) fa0_marks _ rfl) B_X2_at w_2_196 hK (hP.pick [1] rfl) rfl hl.1 rfl (Nat.le_of_ble_eq_true rfl) ⟨Nat.le_of_ble_eq_true rfl, Nat.le_of_ble_eq_true rfl⟩ dX6_marksFit_62 rfl (W.pc 65 rfl ?_)
        refine lv_iconst (v := (1 : Int32)) hx hb dX6_marksFit_65 (by decide) (W.pc 66 rfl ?_)
        obtain ⟨z2, hr_z2, hsp⟩ := ltb_s hsp
        have J3 : ∀ (ls : Array Slot), lv_has ls 9 [(0, .ref a0), (1, .int p1), (2, .int p2), (3, .int x3_2), (4, .int (x3_2 * (5 : Int32))), (5, .int (sp_X2_at 30 ((x3_2 * (5 : Int32)) + (1 : Int32)) fa0_marks)), (6, .int (sp_X2_at 30 ((x3_2 * (5 : Int32)) + (2 : Int32)) fa0_marks)), (7, .int (sp_X2_at 30 ((x3_2 * (5 : Int32)) + (3 : Int32)) fa0_marks))] → W p l e (wR 2) s m [.ref a0, .int p1, .int p2].toArray below meth c s.heap [] 0 0 (MQ below (QRd E (some (.int z))) [.ref a0, .int p1, .int p2].toArray s 0 0 (fun _ => False)) (F0 m 74 ls [.int z2]) := by
          intro ls hl
          refine lv_istore (lv' := [(8, .int z2), (0, .ref a0), (1, .int p1), (2, .int p2), (3, .int x3_2), (4, .int (x3_2 * (5 : Int32))), (5, .int (sp_X2_at 30 ((x3_2 * (5 : Int32)) + (1 : Int32)) fa0_marks)), (6, .int (sp_X2_at 30 ((x3_2 * (5 : Int32)) + (2 : Int32)) fa0_marks)), (7, .int (sp_X2_at 30 ((x3_2 * (5 : Int32)) + (3 : Int32)) fa0_marks))]) hx hb dX6_marksFit_74 hl (by decide) rfl (fun ls hl => W.pc 76 rfl ?_)
          refine lv_aload_n hx hb dX6_marksFit_76 rfl (lv_at hl 1 rfl) (W.pc 77 rfl ?_)
          refine va_get (D := E.1) (ci := 3) (v := .ref a0_marks) (C := RX6) (T := TX6) (N := 11) hx hb hts inT_X6 hown hK hP 0 rfl rfl 9 (by decide) (hts _ w_1_82) (fun _ h9 => h9) rfl dX6_marksFit_77 (W.pc 80 rfl ?_)
          refine lv_iload hx hb dX6_marksFit_80 (lv_at hl 5 rfl) (W.pc 82 rfl ?_)
          refine kSR (st1 := [.int (sp_X2_at 30 (x3_2 * (5 : Int32)) fa0_marks)]) hX (c_X2_at l E a0_marks 30 (by decide) (x3_2 * (5 : Int32)) fa0_marks _ rfl) B_X2_at w_2_196 hK (hP.pick [1] rfl) rfl hl.1 rfl (Nat.le_of_ble_eq_true rfl) ⟨Nat.le_of_ble_eq_true rfl, Nat.le_of_ble_eq_true rfl⟩ dX6_marksFit_82 rfl (W.pc 85 rfl ?_)
          refine lv_iload_n hx hb dX6_marksFit_85 rfl (lv_at hl 2 rfl) (W.pc 86 rfl ?_)
          refine lv_icmp_ne (tgt := 106) hx hb dX6_marksFit_86 (by decide) (fun c5 => ?_) (fun c5 => W.pc 89 rfl ?_)
          · have hsp := iq hsp c5
            refine lv_iinc (v := (x3_2 + (1 : Int32))) (lv' := [(3, .int (x3_2 + (1 : Int32))), (8, .int z2), (0, .ref a0), (1, .int p1), (2, .int p2), (4, .int (x3_2 * (5 : Int32))), (5, .int (sp_X2_at 30 ((x3_2 * (5 : Int32)) + (1 : Int32)) fa0_marks)), (6, .int (sp_X2_at 30 ((x3_2 * (5 : Int32)) + (2 : Int32)) fa0_marks)), (7, .int (sp_X2_at 30 ((x3_2 * (5 : Int32)) + (3 : Int32)) fa0_marks))]) hx hb dX6_marksFit_106 hl (k := 4) rfl rfl (by decide) rfl (fun ls hl => W.pc 109 rfl ?_)
            refine lv_goto (tgt := 2) hx hb dX6_marksFit_109 (by decide) ?_
            exact ih_2 (x3_2 + (1 : Int32)) _ (lv_sub hl [2, 3, 4, 0] rfl) hsp
          · have hsp := ip hsp c5
            refine lv_iload_n hx hb dX6_marksFit_89 rfl (lv_at hl 3 rfl) (W.pc 90 rfl ?_)
            refine lv_iload hx hb dX6_marksFit_90 (lv_at hl 6 rfl) (W.pc 92 rfl ?_)
            refine lv_iload hx hb dX6_marksFit_92 (lv_at hl 7 rfl) (W.pc 94 rfl ?_)
            refine lv_iload hx hb dX6_marksFit_94 (lv_at hl 8 rfl) (W.pc 96 rfl ?_)
            refine kSR (st1 := [.int (sp_X4_stands p2 (sp_X2_at 30 ((x3_2 * (5 : Int32)) + (1 : Int32)) fa0_marks) (sp_X2_at 30 ((x3_2 * (5 : Int32)) + (2 : Int32)) fa0_marks) (sp_X2_at 30 ((x3_2 * (5 : Int32)) + (3 : Int32)) fa0_marks))]) hX (c_X4_stands l E p2 (sp_X2_at 30 ((x3_2 * (5 : Int32)) + (1 : Int32)) fa0_marks) (sp_X2_at 30 ((x3_2 * (5 : Int32)) + (2 : Int32)) fa0_marks) (sp_X2_at 30 ((x3_2 * (5 : Int32)) + (3 : Int32)) fa0_marks) _ rfl) B_X4_stands w_3_206 hK (hP.pick [] rfl) rfl hl.1 rfl (Nat.le_of_ble_eq_true rfl) ⟨Nat.le_of_ble_eq_true rfl, Nat.le_of_ble_eq_true rfl⟩ dX6_marksFit_96 rfl (W.pc 99 rfl ?_)
            refine lv_iload hx hb dX6_marksFit_99 (lv_at hl 0 rfl) (W.pc 101 rfl ?_)
            refine lv_icmp_eq (tgt := 106) hx hb dX6_marksFit_101 (by decide) (fun c6 => ?_) (fun c6 => W.pc 104 rfl ?_)
            · have hsp := ip hsp c6
              refine lv_iinc (v := (x3_2 + (1 : Int32))) (lv' := [(3, .int (x3_2 + (1 : Int32))), (8, .int z2), (0, .ref a0), (1, .int p1), (2, .int p2), (4, .int (x3_2 * (5 : Int32))), (5, .int (sp_X2_at 30 ((x3_2 * (5 : Int32)) + (1 : Int32)) fa0_marks)), (6, .int (sp_X2_at 30 ((x3_2 * (5 : Int32)) + (2 : Int32)) fa0_marks)), (7, .int (sp_X2_at 30 ((x3_2 * (5 : Int32)) + (3 : Int32)) fa0_marks))]) hx hb dX6_marksFit_106 hl (k := 4) rfl rfl (by decide) rfl (fun ls hl => W.pc 109 rfl ?_)
              refine lv_goto (tgt := 2) hx hb dX6_marksFit_109 (by decide) ?_
              exact ih_2 (x3_2 + (1 : Int32)) _ (lv_sub hl [2, 3, 4, 0] rfl) hsp
            · have hsp := iq hsp c6
              refine lv_iconst (v := (0 : Int32)) hx hb dX6_marksFit_104 (by decide) (W.pc 105 rfl ?_)
              obtain rfl := Option.some.inj hsp
              exact rRz hX rfl rfl dX6_marksFit_105
        replace hsp := hr_z2
        refine lv_icmp_ne (tgt := 73) hx hb dX6_marksFit_66 (by decide) (fun c4 => ?_) (fun c4 => W.pc 69 rfl ?_)
        · have hsp := iq hsp c4
          refine lv_iconst (v := (0 : Int32)) hx hb dX6_marksFit_73 (by decide) (W.pc 74 rfl ?_)
          subst hsp
          exact J3 _ (lv_sub hl [4, 5, 6, 7, 3, 2, 1, 0] rfl)
        · have hsp := ip hsp c4
          refine lv_iconst (v := (1 : Int32)) hx hb dX6_marksFit_69 (by decide) (W.pc 70 rfl ?_)
          refine lv_goto (tgt := 74) hx hb dX6_marksFit_70 (by decide) ?_
          subst hsp
          exact J3 _ (lv_sub hl [4, 5, 6, 7, 3, 2, 1, 0] rfl)
  exact L_2 FU (0 : Int32) _ (lv_sub hl [1, 2, 3, 0] rfl) hsp
