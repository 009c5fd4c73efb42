theorem w_4_125 : Cond.methodLink RX8 42 yX8_in ∈ TBL := TBL_t (tin4 (List.mem_of_getElem? (i := 125) (by decide +kernel))) (by decide +kernel)
theorem w_4_224 : Cond.methodLink RX8 46 yX8_within ∈ TBL := TBL_t (tin4 (List.mem_of_getElem? (i := 224) (by decide +kernel))) (by decide +kernel)
theorem w_4_227 : Cond.methodLink RX8 50 yX8_nearer ∈ TBL := TBL_t (tin4 (List.mem_of_getElem? (i := 227) (by decide +kernel))) (by decide +kernel)
theorem w_5_12 : Cond.methodLink RX8 53 yX8_size ∈ TBL := TBL_t (tin5 (List.mem_of_getElem? (i := 12) (by decide +kernel))) (by decide +kernel)
theorem w_4_237 : Cond.methodLink RX8 57 yX8_storey ∈ TBL := TBL_t (tin4 (List.mem_of_getElem? (i := 237) (by decide +kernel))) (by decide +kernel)
theorem w_5_6 : Cond.methodLink RX8 60 yX8_heavy ∈ TBL := TBL_t (tin5 (List.mem_of_getElem? (i := 6) (by decide +kernel))) (by decide +kernel)
theorem w_5_3 : Cond.methodLink RX8 63 yX8_loadOn ∈ TBL := TBL_t (tin5 (List.mem_of_getElem? (i := 3) (by decide +kernel))) (by decide +kernel)
theorem w_5_9 : Cond.methodLink RX8 67 yX8_stands ∈ TBL := TBL_t (tin5 (List.mem_of_getElem? (i := 9) (by decide +kernel))) (by decide +kernel)
theorem w_5_0 : Cond.methodLink RX8 71 yX8_falling ∈ TBL := TBL_t (tin5 (List.mem_of_getElem? (i := 0) (by decide +kernel))) (by decide +kernel)
theorem w_4_218 : Cond.methodLink RX8 75 yX8_pullIn ∈ TBL := TBL_t (tin4 (List.mem_of_getElem? (i := 218) (by decide +kernel))) (by decide +kernel)
theorem w_4_221 : Cond.methodLink RX8 78 yX8_behind ∈ TBL := TBL_t (tin4 (List.mem_of_getElem? (i := 221) (by decide +kernel))) (by decide +kernel)
theorem w_4_127 : Cond.code yX8_in cX8_in 3 (some .boolean) ∈ TBL := TBL_t (tin4 (List.mem_of_getElem? (i := 127) (by decide +kernel))) (by decide +kernel)
theorem w_4_126 : Cond.static yX8_in ∈ TBL := TBL_t (tin4 (List.mem_of_getElem? (i := 126) (by decide +kernel))) (by decide +kernel)
theorem w_4_226 : Cond.code yX8_within cX8_within 2 (some .int) ∈ TBL := TBL_t (tin4 (List.mem_of_getElem? (i := 226) (by decide +kernel))) (by decide +kernel)
theorem w_4_225 : Cond.static yX8_within ∈ TBL := TBL_t (tin4 (List.mem_of_getElem? (i := 225) (by decide +kernel))) (by decide +kernel)
theorem w_4_229 : Cond.code yX8_nearer cX8_nearer 2 (some .int) ∈ TBL := TBL_t (tin4 (List.mem_of_getElem? (i := 229) (by decide +kernel))) (by decide +kernel)
theorem w_4_228 : Cond.static yX8_nearer ∈ TBL := TBL_t (tin4 (List.mem_of_getElem? (i := 228) (by decide +kernel))) (by decide +kernel)
theorem w_5_14 : Cond.code yX8_size cX8_size 1 (some .int) ∈ TBL := TBL_t (tin5 (List.mem_of_getElem? (i := 14) (by decide +kernel))) (by decide +kernel)
theorem w_5_13 : Cond.static yX8_size ∈ TBL := TBL_t (tin5 (List.mem_of_getElem? (i := 13) (by decide +kernel))) (by decide +kernel)
theorem w_4_239 : Cond.code yX8_storey cX8_storey 2 (some .int) ∈ TBL := TBL_t (tin4 (List.mem_of_getElem? (i := 239) (by decide +kernel))) (by decide +kernel)
theorem w_4_238 : Cond.static yX8_storey ∈ TBL := TBL_t (tin4 (List.mem_of_getElem? (i := 238) (by decide +kernel))) (by decide +kernel)
theorem w_5_8 : Cond.code yX8_heavy cX8_heavy 1 (some .int) ∈ TBL := TBL_t (tin5 (List.mem_of_getElem? (i := 8) (by decide +kernel))) (by decide +kernel)
theorem w_5_7 : Cond.static yX8_heavy ∈ TBL := TBL_t (tin5 (List.mem_of_getElem? (i := 7) (by decide +kernel))) (by decide +kernel)
theorem w_5_5 : Cond.code yX8_loadOn cX8_loadOn 5 (some .int) ∈ TBL := TBL_t (tin5 (List.mem_of_getElem? (i := 5) (by decide +kernel))) (by decide +kernel)
theorem w_5_4 : Cond.static yX8_loadOn ∈ TBL := TBL_t (tin5 (List.mem_of_getElem? (i := 4) (by decide +kernel))) (by decide +kernel)
theorem w_5_11 : Cond.code yX8_stands cX8_stands 5 (some .boolean) ∈ TBL := TBL_t (tin5 (List.mem_of_getElem? (i := 11) (by decide +kernel))) (by decide +kernel)
theorem w_5_10 : Cond.static yX8_stands ∈ TBL := TBL_t (tin5 (List.mem_of_getElem? (i := 10) (by decide +kernel))) (by decide +kernel)
theorem w_5_2 : Cond.code yX8_falling cX8_falling 5 (some .int) ∈ TBL := TBL_t (tin5 (List.mem_of_getElem? (i := 2) (by decide +kernel))) (by decide +kernel)
theorem w_5_1 : Cond.static yX8_falling ∈ TBL := TBL_t (tin5 (List.mem_of_getElem? (i := 1) (by decide +kernel))) (by decide +kernel)
theorem w_4_220 : Cond.code yX8_pullIn cX8_pullIn 2 (some .int) ∈ TBL := TBL_t (tin4 (List.mem_of_getElem? (i := 220) (by decide +kernel))) (by decide +kernel)
theorem w_4_219 : Cond.static yX8_pullIn ∈ TBL := TBL_t (tin4 (List.mem_of_getElem? (i := 219) (by decide +kernel))) (by decide +kernel)
theorem w_4_223 : Cond.code yX8_behind cX8_behind 6 (some .int) ∈ TBL := TBL_t (tin4 (List.mem_of_getElem? (i := 223) (by decide +kernel))) (by decide +kernel)
theorem w_4_222 : Cond.static yX8_behind ∈ TBL := TBL_t (tin4 (List.mem_of_getElem? (i := 222) (by decide +kernel))) (by decide +kernel)
theorem B_X8_in : cS yX8_in cX8_in 3 (some .boolean) 3 := ⟨w_4_127, w_4_126, w_1_6, by decide +kernel⟩
theorem B_X8_within : cS yX8_within cX8_within 2 (some .int) 2 := ⟨w_4_226, w_4_225, w_1_6, by decide +kernel⟩
theorem B_X8_nearer : cS yX8_nearer cX8_nearer 2 (some .int) 2 := ⟨w_4_229, w_4_228, w_1_6, by decide +kernel⟩
theorem B_X8_size : cS yX8_size cX8_size 1 (some .int) 1 := ⟨w_5_14, w_5_13, w_1_6, by decide +kernel⟩
theorem B_X8_storey : cS yX8_storey cX8_storey 2 (some .int) 2 := ⟨w_4_239, w_4_238, w_1_6, by decide +kernel⟩
theorem B_X8_heavy : cS yX8_heavy cX8_heavy 1 (some .int) 1 := ⟨w_5_8, w_5_7, w_1_6, by decide +kernel⟩
theorem B_X8_loadOn : cS yX8_loadOn cX8_loadOn 5 (some .int) 3 := ⟨w_5_5, w_5_4, w_1_6, by decide +kernel⟩
theorem B_X8_stands : cS yX8_stands cX8_stands 5 (some .boolean) 4 := ⟨w_5_11, w_5_10, w_1_6, by decide +kernel⟩
theorem B_X8_falling : cS yX8_falling cX8_falling 5 (some .int) 2 := ⟨w_5_2, w_5_1, w_1_6, by decide +kernel⟩
theorem B_X8_pullIn : cS yX8_pullIn cX8_pullIn 2 (some .int) 2 := ⟨w_4_220, w_4_219, w_1_6, by decide +kernel⟩
theorem B_X8_behind : cS yX8_behind cX8_behind 6 (some .int) 4 := ⟨w_4_223, w_4_222, w_1_6, by decide +kernel⟩
theorem dX8_in_0 : decode cX8_in 0 = .ok (.iload_n 0, 1) := by decide +kernel
theorem dX8_in_1 : decode cX8_in 1 = .ok (.iload_n 1, 1) := by decide +kernel
theorem dX8_in_2 : decode cX8_in 2 = .ok (.if_icmp .lt 12, 3) := by decide +kernel
theorem dX8_in_5 : decode cX8_in 5 = .ok (.iload_n 0, 1) := by decide +kernel
theorem dX8_in_6 : decode cX8_in 6 = .ok (.iload_n 2, 1) := by decide +kernel
theorem dX8_in_7 : decode cX8_in 7 = .ok (.if_icmp .gt 7, 3) := by decide +kernel
theorem dX8_in_10 : decode cX8_in 10 = .ok (.iconst 1, 1) := by decide +kernel
theorem dX8_in_11 : decode cX8_in 11 = .ok (.goto 4, 3) := by decide +kernel
theorem dX8_in_14 : decode cX8_in 14 = .ok (.iconst 0, 1) := by decide +kernel
theorem dX8_in_15 : decode cX8_in 15 = .ok (.ireturn, 1) := by decide +kernel
theorem dX8_has_0 : decode cX8_has 0 = .ok (.iload_n 0, 1) := by decide +kernel
theorem dX8_has_1 : decode cX8_has 1 = .ok (.iload_n 1, 1) := by decide +kernel
theorem dX8_has_2 : decode cX8_has 2 = .ok (.ishr, 1) := by decide +kernel
theorem dX8_has_3 : decode cX8_has 3 = .ok (.iconst 1, 1) := by decide +kernel
theorem dX8_has_4 : decode cX8_has 4 = .ok (.iand, 1) := by decide +kernel
theorem dX8_has_5 : decode cX8_has 5 = .ok (.iconst 1, 1) := by decide +kernel
theorem dX8_has_6 : decode cX8_has 6 = .ok (.if_icmp .ne 7, 3) := by decide +kernel
theorem dX8_has_9 : decode cX8_has 9 = .ok (.iconst 1, 1) := by decide +kernel
theorem dX8_has_10 : decode cX8_has 10 = .ok (.goto 4, 3) := by decide +kernel
theorem dX8_has_13 : decode cX8_has 13 = .ok (.iconst 0, 1) := by decide +kernel
theorem dX8_has_14 : decode cX8_has 14 = .ok (.ireturn, 1) := by decide +kernel
theorem dX8_ones_0 : decode cX8_ones 0 = .ok (.iconst 0, 1) := by decide +kernel
theorem dX8_ones_1 : decode cX8_ones 1 = .ok (.istore_n 1, 1) := by decide +kernel
theorem dX8_ones_2 : decode cX8_ones 2 = .ok (.iconst 0, 1) := by decide +kernel
theorem dX8_ones_3 : decode cX8_ones 3 = .ok (.istore_n 2, 1) := by decide +kernel
theorem dX8_ones_4 : decode cX8_ones 4 = .ok (.iload_n 2, 1) := by decide +kernel
theorem dX8_ones_5 : decode cX8_ones 5 = .ok (.bipush 30, 2) := by decide +kernel
theorem dX8_ones_7 : decode cX8_ones 7 = .ok (.if_icmp .ge 17, 3) := by decide +kernel
theorem dX8_ones_10 : decode cX8_ones 10 = .ok (.iload_n 1, 1) := by decide +kernel
theorem dX8_ones_11 : decode cX8_ones 11 = .ok (.iload_n 0, 1) := by decide +kernel
theorem dX8_ones_12 : decode cX8_ones 12 = .ok (.iload_n 2, 1) := by decide +kernel
theorem dX8_ones_13 : decode cX8_ones 13 = .ok (.ishr, 1) := by decide +kernel
theorem dX8_ones_14 : decode cX8_ones 14 = .ok (.iconst 1, 1) := by decide +kernel
theorem dX8_ones_15 : decode cX8_ones 15 = .ok (.iand, 1) := by decide +kernel
theorem dX8_ones_16 : decode cX8_ones 16 = .ok (.iadd, 1) := by decide +kernel
theorem dX8_ones_17 : decode cX8_ones 17 = .ok (.istore_n 1, 1) := by decide +kernel
theorem dX8_ones_18 : decode cX8_ones 18 = .ok (.iinc 2 1, 3) := by decide +kernel
theorem dX8_ones_21 : decode cX8_ones 21 = .ok (.goto (-17), 3) := by decide +kernel
theorem dX8_ones_24 : decode cX8_ones 24 = .ok (.iload_n 1, 1) := by decide +kernel
theorem dX8_ones_25 : decode cX8_ones 25 = .ok (.ireturn, 1) := by decide +kernel
theorem dX8_bad_0 : decode cX8_bad 0 = .ok (.aload_n 0, 1) := by decide +kernel
theorem dX8_bad_1 : decode cX8_bad 1 = .ok (.getfield 29, 3) := by decide +kernel
theorem dX8_bad_4 : decode cX8_bad 4 = .ok (.iconst 0, 1) := by decide +kernel
theorem dX8_bad_5 : decode cX8_bad 5 = .ok (.dup2, 1) := by decide +kernel
theorem dX8_bad_6 : decode cX8_bad 6 = .ok (.iaload, 1) := by decide +kernel
theorem dX8_bad_7 : decode cX8_bad 7 = .ok (.iconst 1, 1) := by decide +kernel
theorem dX8_bad_8 : decode cX8_bad 8 = .ok (.iadd, 1) := by decide +kernel
theorem dX8_bad_9 : decode cX8_bad 9 = .ok (.iastore, 1) := by decide +kernel
theorem dX8_bad_10 : decode cX8_bad 10 = .ok (.bipush (-2), 2) := by decide +kernel
theorem dX8_bad_12 : decode cX8_bad 12 = .ok (.ireturn, 1) := by decide +kernel
theorem dX8_badly_0 : decode cX8_badly 0 = .ok (.aload_n 0, 1) := by decide +kernel
theorem dX8_badly_1 : decode cX8_badly 1 = .ok (.getfield 29, 3) := by decide +kernel
theorem dX8_badly_4 : decode cX8_badly 4 = .ok (.iconst 0, 1) := by decide +kernel
theorem dX8_badly_5 : decode cX8_badly 5 = .ok (.dup2, 1) := by decide +kernel
theorem dX8_badly_6 : decode cX8_badly 6 = .ok (.iaload, 1) := by decide +kernel
theorem dX8_badly_7 : decode cX8_badly 7 = .ok (.iconst 1, 1) := by decide +kernel
theorem dX8_badly_8 : decode cX8_badly 8 = .ok (.iadd, 1) := by decide +kernel
theorem dX8_badly_9 : decode cX8_badly 9 = .ok (.iastore, 1) := by decide +kernel
theorem dX8_badly_10 : decode cX8_badly 10 = .ok (.iload_n 1, 1) := by decide +kernel
theorem dX8_badly_11 : decode cX8_badly 11 = .ok (.ireturn, 1) := by decide +kernel
theorem dX8_no_0 : decode cX8_no 0 = .ok (.aload_n 0, 1) := by decide +kernel
theorem dX8_no_1 : decode cX8_no 1 = .ok (.getfield 29, 3) := by decide +kernel
theorem dX8_no_4 : decode cX8_no 4 = .ok (.iconst 1, 1) := by decide +kernel
theorem dX8_no_5 : decode cX8_no 5 = .ok (.dup2, 1) := by decide +kernel
theorem dX8_no_6 : decode cX8_no 6 = .ok (.iaload, 1) := by decide +kernel
theorem dX8_no_7 : decode cX8_no 7 = .ok (.iconst 1, 1) := by decide +kernel
theorem dX8_no_8 : decode cX8_no 8 = .ok (.iadd, 1) := by decide +kernel
theorem dX8_no_9 : decode cX8_no 9 = .ok (.iastore, 1) := by decide +kernel
theorem dX8_no_10 : decode cX8_no 10 = .ok (.bipush (-3), 2) := by decide +kernel
theorem dX8_no_12 : decode cX8_no 12 = .ok (.ireturn, 1) := by decide +kernel
theorem dX8_full_0 : decode cX8_full 0 = .ok (.aload_n 0, 1) := by decide +kernel
theorem dX8_full_1 : decode cX8_full 1 = .ok (.getfield 29, 3) := by decide +kernel
theorem dX8_full_4 : decode cX8_full 4 = .ok (.iconst 2, 1) := by decide +kernel
theorem dX8_full_5 : decode cX8_full 5 = .ok (.dup2, 1) := by decide +kernel
theorem dX8_full_6 : decode cX8_full 6 = .ok (.iaload, 1) := by decide +kernel
theorem dX8_full_7 : decode cX8_full 7 = .ok (.iconst 1, 1) := by decide +kernel
theorem dX8_full_8 : decode cX8_full 8 = .ok (.iadd, 1) := by decide +kernel
theorem dX8_full_9 : decode cX8_full 9 = .ok (.iastore, 1) := by decide +kernel
theorem dX8_full_10 : decode cX8_full 10 = .ok (.bipush (-4), 2) := by decide +kernel
theorem dX8_full_12 : decode cX8_full 12 = .ok (.ireturn, 1) := by decide +kernel
theorem dX8_copies_0 : decode cX8_copies 0 = .ok (.iconst 0, 1) := by decide +kernel
theorem dX8_copies_1 : decode cX8_copies 1 = .ok (.istore 5, 2) := by decide +kernel
theorem dX8_copies_3 : decode cX8_copies 3 = .ok (.iload 5, 2) := by decide +kernel
theorem dX8_copies_5 : decode cX8_copies 5 = .ok (.iload 4, 2) := by decide +kernel
theorem dX8_copies_7 : decode cX8_copies 7 = .ok (.if_icmp .ge 21, 3) := by decide +kernel
theorem dX8_copies_10 : decode cX8_copies 10 = .ok (.aload_n 2, 1) := by decide +kernel
theorem dX8_copies_11 : decode cX8_copies 11 = .ok (.iload_n 3, 1) := by decide +kernel
theorem dX8_copies_12 : decode cX8_copies 12 = .ok (.iload 5, 2) := by decide +kernel
theorem dX8_copies_14 : decode cX8_copies 14 = .ok (.iadd, 1) := by decide +kernel
theorem dX8_copies_15 : decode cX8_copies 15 = .ok (.aload_n 0, 1) := by decide +kernel
theorem dX8_copies_16 : decode cX8_copies 16 = .ok (.iload_n 1, 1) := by decide +kernel
theorem dX8_copies_17 : decode cX8_copies 17 = .ok (.iload 5, 2) := by decide +kernel
theorem dX8_copies_19 : decode cX8_copies 19 = .ok (.iadd, 1) := by decide +kernel
theorem dX8_copies_20 : decode cX8_copies 20 = .ok (.iaload, 1) := by decide +kernel
theorem dX8_copies_21 : decode cX8_copies 21 = .ok (.iastore, 1) := by decide +kernel
theorem dX8_copies_22 : decode cX8_copies 22 = .ok (.iinc 5 1, 3) := by decide +kernel
theorem dX8_copies_25 : decode cX8_copies 25 = .ok (.goto (-22), 3) := by decide +kernel
theorem dX8_copies_28 : decode cX8_copies 28 = .ok (.return_, 1) := by decide +kernel
theorem dX8_isKind_0 : decode cX8_isKind 0 = .ok (.iload_n 0, 1) := by decide +kernel
theorem dX8_isKind_1 : decode cX8_isKind 1 = .ok (.iconst 0, 1) := by decide +kernel
theorem dX8_isKind_2 : decode cX8_isKind 2 = .ok (.iconst 5, 1) := by decide +kernel
theorem dX8_isKind_3 : decode cX8_isKind 3 = .ok (.invokestatic 42, 3) := by decide +kernel
theorem dX8_isKind_6 : decode cX8_isKind 6 = .ok (.ireturn, 1) := by decide +kernel
theorem dX8_isTilt_0 : decode cX8_isTilt 0 = .ok (.iload_n 0, 1) := by decide +kernel
theorem dX8_isTilt_1 : decode cX8_isTilt 1 = .ok (.bipush (-9), 2) := by decide +kernel
theorem dX8_isTilt_3 : decode cX8_isTilt 3 = .ok (.bipush 9, 2) := by decide +kernel
theorem dX8_isTilt_5 : decode cX8_isTilt 5 = .ok (.invokestatic 42, 3) := by decide +kernel
theorem dX8_isTilt_8 : decode cX8_isTilt 8 = .ok (.ireturn, 1) := by decide +kernel
theorem dX8_within_0 : decode cX8_within 0 = .ok (.iload_n 0, 1) := by decide +kernel
theorem dX8_within_1 : decode cX8_within 1 = .ok (.iload_n 1, 1) := by decide +kernel
theorem dX8_within_2 : decode cX8_within 2 = .ok (.if_icmp .le 7, 3) := by decide +kernel
theorem dX8_within_5 : decode cX8_within 5 = .ok (.iload_n 1, 1) := by decide +kernel
theorem dX8_within_6 : decode cX8_within 6 = .ok (.goto 15, 3) := by decide +kernel
theorem dX8_within_9 : decode cX8_within 9 = .ok (.iload_n 0, 1) := by decide +kernel
theorem dX8_within_10 : decode cX8_within 10 = .ok (.iload_n 1, 1) := by decide +kernel
theorem dX8_within_11 : decode cX8_within 11 = .ok (.ineg, 1) := by decide +kernel
theorem dX8_within_12 : decode cX8_within 12 = .ok (.if_icmp .ge 8, 3) := by decide +kernel
theorem dX8_within_15 : decode cX8_within 15 = .ok (.iload_n 1, 1) := by decide +kernel
theorem dX8_within_16 : decode cX8_within 16 = .ok (.ineg, 1) := by decide +kernel
theorem dX8_within_17 : decode cX8_within 17 = .ok (.goto 4, 3) := by decide +kernel
theorem dX8_within_20 : decode cX8_within 20 = .ok (.iload_n 0, 1) := by decide +kernel
theorem dX8_within_21 : decode cX8_within 21 = .ok (.ireturn, 1) := by decide +kernel
theorem dX8_size_0 : decode cX8_size 0 = .ok (.iload_n 0, 1) := by decide +kernel
theorem dX8_size_1 : decode cX8_size 1 = .ok (.ifCond .ge 8, 3) := by decide +kernel
theorem dX8_size_4 : decode cX8_size 4 = .ok (.iload_n 0, 1) := by decide +kernel
theorem dX8_size_5 : decode cX8_size 5 = .ok (.ineg, 1) := by decide +kernel
theorem dX8_size_6 : decode cX8_size 6 = .ok (.goto 4, 3) := by decide +kernel
theorem dX8_size_9 : decode cX8_size 9 = .ok (.iload_n 0, 1) := by decide +kernel
theorem dX8_size_10 : decode cX8_size 10 = .ok (.ireturn, 1) := by decide +kernel
theorem dX8_nearer_0 : decode cX8_nearer 0 = .ok (.iload_n 0, 1) := by decide +kernel
theorem dX8_nearer_1 : decode cX8_nearer 1 = .ok (.iload_n 1, 1) := by decide +kernel
theorem dX8_nearer_2 : decode cX8_nearer 2 = .ok (.if_icmp .ge 9, 3) := by decide +kernel
theorem dX8_nearer_5 : decode cX8_nearer 5 = .ok (.iload_n 0, 1) := by decide +kernel
theorem dX8_nearer_6 : decode cX8_nearer 6 = .ok (.iconst 1, 1) := by decide +kernel
theorem dX8_nearer_7 : decode cX8_nearer 7 = .ok (.iadd, 1) := by decide +kernel
theorem dX8_nearer_8 : decode cX8_nearer 8 = .ok (.goto 15, 3) := by decide +kernel
theorem dX8_nearer_11 : decode cX8_nearer 11 = .ok (.iload_n 0, 1) := by decide +kernel
theorem dX8_nearer_12 : decode cX8_nearer 12 = .ok (.iload_n 1, 1) := by decide +kernel
theorem dX8_nearer_13 : decode cX8_nearer 13 = .ok (.if_icmp .le 9, 3) := by decide +kernel
theorem dX8_nearer_16 : decode cX8_nearer 16 = .ok (.iload_n 0, 1) := by decide +kernel
theorem dX8_nearer_17 : decode cX8_nearer 17 = .ok (.iconst 1, 1) := by decide +kernel
theorem dX8_nearer_18 : decode cX8_nearer 18 = .ok (.isub, 1) := by decide +kernel
theorem dX8_nearer_19 : decode cX8_nearer 19 = .ok (.goto 4, 3) := by decide +kernel
theorem dX8_nearer_22 : decode cX8_nearer 22 = .ok (.iload_n 0, 1) := by decide +kernel
theorem dX8_nearer_23 : decode cX8_nearer 23 = .ok (.ireturn, 1) := by decide +kernel
theorem dX8_behind_0 : decode cX8_behind 0 = .ok (.iload_n 3, 1) := by decide +kernel
theorem dX8_behind_1 : decode cX8_behind 1 = .ok (.iconst 2, 1) := by decide +kernel
theorem dX8_behind_2 : decode cX8_behind 2 = .ok (.irem, 1) := by decide +kernel
theorem dX8_behind_3 : decode cX8_behind 3 = .ok (.ifCond .ne 9, 3) := by decide +kernel
theorem dX8_behind_6 : decode cX8_behind 6 = .ok (.iload_n 1, 1) := by decide +kernel
theorem dX8_behind_7 : decode cX8_behind 7 = .ok (.iconst 1, 1) := by decide +kernel
theorem dX8_behind_8 : decode cX8_behind 8 = .ok (.iadd, 1) := by decide +kernel
theorem dX8_behind_9 : decode cX8_behind 9 = .ok (.goto 4, 3) := by decide +kernel
theorem dX8_behind_12 : decode cX8_behind 12 = .ok (.iload_n 1, 1) := by decide +kernel
theorem dX8_behind_13 : decode cX8_behind 13 = .ok (.bipush 9, 2) := by decide +kernel
theorem dX8_behind_15 : decode cX8_behind 15 = .ok (.invokestatic 46, 3) := by decide +kernel
theorem dX8_behind_18 : decode cX8_behind 18 = .ok (.istore 4, 2) := by decide +kernel
theorem dX8_behind_20 : decode cX8_behind 20 = .ok (.iload_n 1, 1) := by decide +kernel
theorem dX8_behind_21 : decode cX8_behind 21 = .ok (.iload_n 2, 1) := by decide +kernel
theorem dX8_behind_22 : decode cX8_behind 22 = .ok (.invokestatic 50, 3) := by decide +kernel
theorem dX8_behind_25 : decode cX8_behind 25 = .ok (.iload_n 2, 1) := by decide +kernel
theorem dX8_behind_26 : decode cX8_behind 26 = .ok (.invokestatic 50, 3) := by decide +kernel
theorem dX8_behind_29 : decode cX8_behind 29 = .ok (.istore 5, 2) := by decide +kernel
theorem dX8_behind_31 : decode cX8_behind 31 = .ok (.iload_n 0, 1) := by decide +kernel
theorem dX8_behind_32 : decode cX8_behind 32 = .ok (.tableswitch 79 1 5 #[36, 39, 45, 48, 72], 36) := by decide +kernel
theorem dX8_behind_68 : decode cX8_behind 68 = .ok (.iload 4, 2) := by decide +kernel
theorem dX8_behind_70 : decode cX8_behind 70 = .ok (.ireturn, 1) := by decide +kernel
theorem dX8_behind_71 : decode cX8_behind 71 = .ok (.iload_n 1, 1) := by decide +kernel
theorem dX8_behind_72 : decode cX8_behind 72 = .ok (.iload_n 2, 1) := by decide +kernel
theorem dX8_behind_73 : decode cX8_behind 73 = .ok (.invokestatic 50, 3) := by decide +kernel
theorem dX8_behind_76 : decode cX8_behind 76 = .ok (.ireturn, 1) := by decide +kernel
theorem dX8_behind_77 : decode cX8_behind 77 = .ok (.iload 5, 2) := by decide +kernel
theorem dX8_behind_79 : decode cX8_behind 79 = .ok (.ireturn, 1) := by decide +kernel
theorem dX8_behind_80 : decode cX8_behind 80 = .ok (.iload_n 3, 1) := by decide +kernel
theorem dX8_behind_81 : decode cX8_behind 81 = .ok (.iconst 2, 1) := by decide +kernel
theorem dX8_behind_82 : decode cX8_behind 82 = .ok (.irem, 1) := by decide +kernel
theorem dX8_behind_83 : decode cX8_behind 83 = .ok (.iconst 1, 1) := by decide +kernel
theorem dX8_behind_84 : decode cX8_behind 84 = .ok (.if_icmp .ne 10, 3) := by decide +kernel
theorem dX8_behind_87 : decode cX8_behind 87 = .ok (.iload 5, 2) := by decide +kernel
theorem dX8_behind_89 : decode cX8_behind 89 = .ok (.iconst 1, 1) := by decide +kernel
theorem dX8_behind_90 : decode cX8_behind 90 = .ok (.iadd, 1) := by decide +kernel
theorem dX8_behind_91 : decode cX8_behind 91 = .ok (.goto 7, 3) := by decide +kernel
theorem dX8_behind_94 : decode cX8_behind 94 = .ok (.iload 5, 2) := by decide +kernel
theorem dX8_behind_96 : decode cX8_behind 96 = .ok (.iconst 1, 1) := by decide +kernel
theorem dX8_behind_97 : decode cX8_behind 97 = .ok (.isub, 1) := by decide +kernel
theorem dX8_behind_98 : decode cX8_behind 98 = .ok (.bipush 9, 2) := by decide +kernel
theorem dX8_behind_100 : decode cX8_behind 100 = .ok (.invokestatic 46, 3) := by decide +kernel
theorem dX8_behind_103 : decode cX8_behind 103 = .ok (.ireturn, 1) := by decide +kernel
theorem dX8_behind_104 : decode cX8_behind 104 = .ok (.iload 4, 2) := by decide +kernel
theorem dX8_behind_106 : decode cX8_behind 106 = .ok (.iconst 3, 1) := by decide +kernel
theorem dX8_behind_107 : decode cX8_behind 107 = .ok (.invokestatic 46, 3) := by decide +kernel
theorem dX8_behind_110 : decode cX8_behind 110 = .ok (.ireturn, 1) := by decide +kernel
theorem dX8_behind_111 : decode cX8_behind 111 = .ok (.iload_n 1, 1) := by decide +kernel
theorem dX8_behind_112 : decode cX8_behind 112 = .ok (.ireturn, 1) := by decide +kernel
theorem dX8_stands_0 : decode cX8_stands 0 = .ok (.iload_n 1, 1) := by decide +kernel
theorem dX8_stands_1 : decode cX8_stands 1 = .ok (.iload_n 2, 1) := by decide +kernel
theorem dX8_stands_2 : decode cX8_stands 2 = .ok (.isub, 1) := by decide +kernel
theorem dX8_stands_3 : decode cX8_stands 3 = .ok (.invokestatic 53, 3) := by decide +kernel
theorem dX8_stands_6 : decode cX8_stands 6 = .ok (.istore 4, 2) := by decide +kernel
theorem dX8_stands_8 : decode cX8_stands 8 = .ok (.iload_n 0, 1) := by decide +kernel
theorem dX8_stands_9 : decode cX8_stands 9 = .ok (.tableswitch 114 1 5 #[35, 53, 65, 76, 94], 35) := by decide +kernel
theorem dX8_stands_44 : decode cX8_stands 44 = .ok (.iload 4, 2) := by decide +kernel
theorem dX8_stands_46 : decode cX8_stands 46 = .ok (.iconst 3, 1) := by decide +kernel
theorem dX8_stands_47 : decode cX8_stands 47 = .ok (.if_icmp .ge 13, 3) := by decide +kernel
theorem dX8_stands_50 : decode cX8_stands 50 = .ok (.iload_n 3, 1) := by decide +kernel
theorem dX8_stands_51 : decode cX8_stands 51 = .ok (.bipush 9, 2) := by decide +kernel
theorem dX8_stands_53 : decode cX8_stands 53 = .ok (.if_icmp .ge 7, 3) := by decide +kernel
theorem dX8_stands_56 : decode cX8_stands 56 = .ok (.iconst 1, 1) := by decide +kernel
theorem dX8_stands_57 : decode cX8_stands 57 = .ok (.goto 4, 3) := by decide +kernel
theorem dX8_stands_60 : decode cX8_stands 60 = .ok (.iconst 0, 1) := by decide +kernel
theorem dX8_stands_61 : decode cX8_stands 61 = .ok (.ireturn, 1) := by decide +kernel
theorem dX8_stands_62 : decode cX8_stands 62 = .ok (.iload 4, 2) := by decide +kernel
theorem dX8_stands_64 : decode cX8_stands 64 = .ok (.iconst 2, 1) := by decide +kernel
theorem dX8_stands_65 : decode cX8_stands 65 = .ok (.if_icmp .ge 7, 3) := by decide +kernel
theorem dX8_stands_68 : decode cX8_stands 68 = .ok (.iconst 1, 1) := by decide +kernel
theorem dX8_stands_69 : decode cX8_stands 69 = .ok (.goto 4, 3) := by decide +kernel
theorem dX8_stands_72 : decode cX8_stands 72 = .ok (.iconst 0, 1) := by decide +kernel
theorem dX8_stands_73 : decode cX8_stands 73 = .ok (.ireturn, 1) := by decide +kernel
theorem dX8_stands_74 : decode cX8_stands 74 = .ok (.iload_n 3, 1) := by decide +kernel
theorem dX8_stands_75 : decode cX8_stands 75 = .ok (.iconst 4, 1) := by decide +kernel
theorem dX8_stands_76 : decode cX8_stands 76 = .ok (.if_icmp .ge 7, 3) := by decide +kernel
theorem dX8_stands_79 : decode cX8_stands 79 = .ok (.iconst 1, 1) := by decide +kernel
theorem dX8_stands_80 : decode cX8_stands 80 = .ok (.goto 4, 3) := by decide +kernel
theorem dX8_stands_83 : decode cX8_stands 83 = .ok (.iconst 0, 1) := by decide +kernel
theorem dX8_stands_84 : decode cX8_stands 84 = .ok (.ireturn, 1) := by decide +kernel
theorem dX8_stands_85 : decode cX8_stands 85 = .ok (.iload 4, 2) := by decide +kernel
theorem dX8_stands_87 : decode cX8_stands 87 = .ok (.iconst 2, 1) := by decide +kernel
theorem dX8_stands_88 : decode cX8_stands 88 = .ok (.if_icmp .ge 13, 3) := by decide +kernel
theorem dX8_stands_91 : decode cX8_stands 91 = .ok (.iload_n 3, 1) := by decide +kernel
theorem dX8_stands_92 : decode cX8_stands 92 = .ok (.bipush 6, 2) := by decide +kernel
theorem dX8_stands_94 : decode cX8_stands 94 = .ok (.if_icmp .ge 7, 3) := by decide +kernel
theorem dX8_stands_97 : decode cX8_stands 97 = .ok (.iconst 1, 1) := by decide +kernel
theorem dX8_stands_98 : decode cX8_stands 98 = .ok (.goto 4, 3) := by decide +kernel
theorem dX8_stands_101 : decode cX8_stands 101 = .ok (.iconst 0, 1) := by decide +kernel
theorem dX8_stands_102 : decode cX8_stands 102 = .ok (.ireturn, 1) := by decide +kernel
theorem dX8_stands_103 : decode cX8_stands 103 = .ok (.iload_n 3, 1) := by decide +kernel
theorem dX8_stands_104 : decode cX8_stands 104 = .ok (.iconst 4, 1) := by decide +kernel
theorem dX8_stands_105 : decode cX8_stands 105 = .ok (.if_icmp .ge 16, 3) := by decide +kernel
theorem dX8_stands_108 : decode cX8_stands 108 = .ok (.iload_n 1, 1) := by decide +kernel
theorem dX8_stands_109 : decode cX8_stands 109 = .ok (.invokestatic 53, 3) := by decide +kernel
theorem dX8_stands_112 : decode cX8_stands 112 = .ok (.bipush 7, 2) := by decide +kernel
theorem dX8_stands_114 : decode cX8_stands 114 = .ok (.if_icmp .ge 7, 3) := by decide +kernel
theorem dX8_stands_117 : decode cX8_stands 117 = .ok (.iconst 1, 1) := by decide +kernel
theorem dX8_stands_118 : decode cX8_stands 118 = .ok (.goto 4, 3) := by decide +kernel
theorem dX8_stands_121 : decode cX8_stands 121 = .ok (.iconst 0, 1) := by decide +kernel
theorem dX8_stands_122 : decode cX8_stands 122 = .ok (.ireturn, 1) := by decide +kernel
theorem dX8_stands_123 : decode cX8_stands 123 = .ok (.iload 4, 2) := by decide +kernel
theorem dX8_stands_125 : decode cX8_stands 125 = .ok (.iconst 3, 1) := by decide +kernel
theorem dX8_stands_126 : decode cX8_stands 126 = .ok (.if_icmp .ge 7, 3) := by decide +kernel
theorem dX8_stands_129 : decode cX8_stands 129 = .ok (.iconst 1, 1) := by decide +kernel
theorem dX8_stands_130 : decode cX8_stands 130 = .ok (.goto 4, 3) := by decide +kernel
theorem dX8_stands_133 : decode cX8_stands 133 = .ok (.iconst 0, 1) := by decide +kernel
theorem dX8_stands_134 : decode cX8_stands 134 = .ok (.ireturn, 1) := by decide +kernel
theorem dX8_heavy_0 : decode cX8_heavy 0 = .ok (.iload_n 0, 1) := by decide +kernel
theorem dX8_heavy_1 : decode cX8_heavy 1 = .ok (.tableswitch 43 1 5 #[35, 37, 39, 41, 39], 35) := by decide +kernel
theorem dX8_heavy_36 : decode cX8_heavy 36 = .ok (.iconst 3, 1) := by decide +kernel
theorem dX8_heavy_37 : decode cX8_heavy 37 = .ok (.ireturn, 1) := by decide +kernel
theorem dX8_heavy_38 : decode cX8_heavy 38 = .ok (.iconst 4, 1) := by decide +kernel
theorem dX8_heavy_39 : decode cX8_heavy 39 = .ok (.ireturn, 1) := by decide +kernel
theorem dX8_heavy_40 : decode cX8_heavy 40 = .ok (.iconst 1, 1) := by decide +kernel
theorem dX8_heavy_41 : decode cX8_heavy 41 = .ok (.ireturn, 1) := by decide +kernel
theorem dX8_heavy_42 : decode cX8_heavy 42 = .ok (.iconst 5, 1) := by decide +kernel
theorem dX8_heavy_43 : decode cX8_heavy 43 = .ok (.ireturn, 1) := by decide +kernel
theorem dX8_heavy_44 : decode cX8_heavy 44 = .ok (.iconst 2, 1) := by decide +kernel
theorem dX8_heavy_45 : decode cX8_heavy 45 = .ok (.ireturn, 1) := by decide +kernel
theorem dX8_storey_0 : decode cX8_storey 0 = .ok (.bipush 9, 2) := by decide +kernel
theorem dX8_storey_2 : decode cX8_storey 2 = .ok (.bipush 10, 2) := by decide +kernel
theorem dX8_storey_4 : decode cX8_storey 4 = .ok (.iload_n 0, 1) := by decide +kernel
theorem dX8_storey_5 : decode cX8_storey 5 = .ok (.imul, 1) := by decide +kernel
theorem dX8_storey_6 : decode cX8_storey 6 = .ok (.iadd, 1) := by decide +kernel
theorem dX8_storey_7 : decode cX8_storey 7 = .ok (.iconst 2, 1) := by decide +kernel
theorem dX8_storey_8 : decode cX8_storey 8 = .ok (.iload_n 1, 1) := by decide +kernel
theorem dX8_storey_9 : decode cX8_storey 9 = .ok (.imul, 1) := by decide +kernel
theorem dX8_storey_10 : decode cX8_storey 10 = .ok (.iadd, 1) := by decide +kernel
theorem dX8_storey_11 : decode cX8_storey 11 = .ok (.ireturn, 1) := by decide +kernel
theorem dX8_loadOn_0 : decode cX8_loadOn 0 = .ok (.iconst 0, 1) := by decide +kernel
theorem dX8_loadOn_1 : decode cX8_loadOn 1 = .ok (.istore_n 3, 1) := by decide +kernel
theorem dX8_loadOn_2 : decode cX8_loadOn 2 = .ok (.iload_n 2, 1) := by decide +kernel
theorem dX8_loadOn_3 : decode cX8_loadOn 3 = .ok (.iconst 1, 1) := by decide +kernel
theorem dX8_loadOn_4 : decode cX8_loadOn 4 = .ok (.iadd, 1) := by decide +kernel
theorem dX8_loadOn_5 : decode cX8_loadOn 5 = .ok (.istore 4, 2) := by decide +kernel
theorem dX8_loadOn_7 : decode cX8_loadOn 7 = .ok (.iload 4, 2) := by decide +kernel
theorem dX8_loadOn_9 : decode cX8_loadOn 9 = .ok (.aload_n 0, 1) := by decide +kernel
theorem dX8_loadOn_10 : decode cX8_loadOn 10 = .ok (.iconst 3, 1) := by decide +kernel
theorem dX8_loadOn_11 : decode cX8_loadOn 11 = .ok (.iload_n 1, 1) := by decide +kernel
theorem dX8_loadOn_12 : decode cX8_loadOn 12 = .ok (.iadd, 1) := by decide +kernel
theorem dX8_loadOn_13 : decode cX8_loadOn 13 = .ok (.iaload, 1) := by decide +kernel
theorem dX8_loadOn_14 : decode cX8_loadOn 14 = .ok (.if_icmp .ge 23, 3) := by decide +kernel
theorem dX8_loadOn_17 : decode cX8_loadOn 17 = .ok (.iload_n 3, 1) := by decide +kernel
theorem dX8_loadOn_18 : decode cX8_loadOn 18 = .ok (.aload_n 0, 1) := by decide +kernel
theorem dX8_loadOn_19 : decode cX8_loadOn 19 = .ok (.iload_n 1, 1) := by decide +kernel
theorem dX8_loadOn_20 : decode cX8_loadOn 20 = .ok (.iload 4, 2) := by decide +kernel
theorem dX8_loadOn_22 : decode cX8_loadOn 22 = .ok (.invokestatic 57, 3) := by decide +kernel
theorem dX8_loadOn_25 : decode cX8_loadOn 25 = .ok (.iaload, 1) := by decide +kernel
theorem dX8_loadOn_26 : decode cX8_loadOn 26 = .ok (.invokestatic 60, 3) := by decide +kernel
theorem dX8_loadOn_29 : decode cX8_loadOn 29 = .ok (.iadd, 1) := by decide +kernel
theorem dX8_loadOn_30 : decode cX8_loadOn 30 = .ok (.istore_n 3, 1) := by decide +kernel
theorem dX8_loadOn_31 : decode cX8_loadOn 31 = .ok (.iinc 4 1, 3) := by decide +kernel
theorem dX8_loadOn_34 : decode cX8_loadOn 34 = .ok (.goto (-27), 3) := by decide +kernel
theorem dX8_loadOn_37 : decode cX8_loadOn 37 = .ok (.iload_n 3, 1) := by decide +kernel
theorem dX8_loadOn_38 : decode cX8_loadOn 38 = .ok (.ireturn, 1) := by decide +kernel
theorem dX8_top_0 : decode cX8_top 0 = .ok (.aload_n 0, 1) := by decide +kernel
theorem dX8_top_1 : decode cX8_top 1 = .ok (.iconst 3, 1) := by decide +kernel
theorem dX8_top_2 : decode cX8_top 2 = .ok (.iload_n 1, 1) := by decide +kernel
theorem dX8_top_3 : decode cX8_top 3 = .ok (.iadd, 1) := by decide +kernel
theorem dX8_top_4 : decode cX8_top 4 = .ok (.iaload, 1) := by decide +kernel
theorem dX8_top_5 : decode cX8_top 5 = .ok (.ifCond .ne 7, 3) := by decide +kernel
theorem dX8_top_8 : decode cX8_top 8 = .ok (.iconst 0, 1) := by decide +kernel
theorem dX8_top_9 : decode cX8_top 9 = .ok (.goto 18, 3) := by decide +kernel
theorem dX8_top_12 : decode cX8_top 12 = .ok (.aload_n 0, 1) := by decide +kernel
theorem dX8_top_13 : decode cX8_top 13 = .ok (.iload_n 1, 1) := by decide +kernel
theorem dX8_top_14 : decode cX8_top 14 = .ok (.aload_n 0, 1) := by decide +kernel
theorem dX8_top_15 : decode cX8_top 15 = .ok (.iconst 3, 1) := by decide +kernel
theorem dX8_top_16 : decode cX8_top 16 = .ok (.iload_n 1, 1) := by decide +kernel
theorem dX8_top_17 : decode cX8_top 17 = .ok (.iadd, 1) := by decide +kernel
theorem dX8_top_18 : decode cX8_top 18 = .ok (.iaload, 1) := by decide +kernel
theorem dX8_top_19 : decode cX8_top 19 = .ok (.iconst 1, 1) := by decide +kernel
theorem dX8_top_20 : decode cX8_top 20 = .ok (.isub, 1) := by decide +kernel
theorem dX8_top_21 : decode cX8_top 21 = .ok (.invokestatic 57, 3) := by decide +kernel
theorem dX8_top_24 : decode cX8_top 24 = .ok (.iconst 1, 1) := by decide +kernel
theorem dX8_top_25 : decode cX8_top 25 = .ok (.iadd, 1) := by decide +kernel
theorem dX8_top_26 : decode cX8_top 26 = .ok (.iaload, 1) := by decide +kernel
theorem dX8_top_27 : decode cX8_top 27 = .ok (.ireturn, 1) := by decide +kernel
theorem dX8_falling_0 : decode cX8_falling 0 = .ok (.iconst 0, 1) := by decide +kernel
theorem dX8_falling_1 : decode cX8_falling 1 = .ok (.istore_n 2, 1) := by decide +kernel
theorem dX8_falling_2 : decode cX8_falling 2 = .ok (.iconst 1, 1) := by decide +kernel
theorem dX8_falling_3 : decode cX8_falling 3 = .ok (.istore_n 3, 1) := by decide +kernel
theorem dX8_falling_4 : decode cX8_falling 4 = .ok (.iload_n 2, 1) := by decide +kernel
theorem dX8_falling_5 : decode cX8_falling 5 = .ok (.aload_n 0, 1) := by decide +kernel
theorem dX8_falling_6 : decode cX8_falling 6 = .ok (.iconst 3, 1) := by decide +kernel
theorem dX8_falling_7 : decode cX8_falling 7 = .ok (.iload_n 1, 1) := by decide +kernel
theorem dX8_falling_8 : decode cX8_falling 8 = .ok (.iadd, 1) := by decide +kernel
theorem dX8_falling_9 : decode cX8_falling 9 = .ok (.iaload, 1) := by decide +kernel
theorem dX8_falling_10 : decode cX8_falling 10 = .ok (.if_icmp .ge 63, 3) := by decide +kernel
theorem dX8_falling_13 : decode cX8_falling 13 = .ok (.iload_n 3, 1) := by decide +kernel
theorem dX8_falling_14 : decode cX8_falling 14 = .ok (.ifCond .eq 59, 3) := by decide +kernel
theorem dX8_falling_17 : decode cX8_falling 17 = .ok (.iload_n 1, 1) := by decide +kernel
theorem dX8_falling_18 : decode cX8_falling 18 = .ok (.iload_n 2, 1) := by decide +kernel
theorem dX8_falling_19 : decode cX8_falling 19 = .ok (.invokestatic 57, 3) := by decide +kernel
theorem dX8_falling_22 : decode cX8_falling 22 = .ok (.istore 4, 2) := by decide +kernel
theorem dX8_falling_24 : decode cX8_falling 24 = .ok (.aload_n 0, 1) := by decide +kernel
theorem dX8_falling_25 : decode cX8_falling 25 = .ok (.iload 4, 2) := by decide +kernel
theorem dX8_falling_27 : decode cX8_falling 27 = .ok (.iaload, 1) := by decide +kernel
theorem dX8_falling_28 : decode cX8_falling 28 = .ok (.aload_n 0, 1) := by decide +kernel
theorem dX8_falling_29 : decode cX8_falling 29 = .ok (.iload 4, 2) := by decide +kernel
theorem dX8_falling_31 : decode cX8_falling 31 = .ok (.iconst 1, 1) := by decide +kernel
theorem dX8_falling_32 : decode cX8_falling 32 = .ok (.iadd, 1) := by decide +kernel
theorem dX8_falling_33 : decode cX8_falling 33 = .ok (.iaload, 1) := by decide +kernel
theorem dX8_falling_34 : decode cX8_falling 34 = .ok (.iload_n 2, 1) := by decide +kernel
theorem dX8_falling_35 : decode cX8_falling 35 = .ok (.ifCond .ne 7, 3) := by decide +kernel
theorem dX8_falling_38 : decode cX8_falling 38 = .ok (.iconst 0, 1) := by decide +kernel
theorem dX8_falling_39 : decode cX8_falling 39 = .ok (.goto 9, 3) := by decide +kernel
theorem dX8_falling_42 : decode cX8_falling 42 = .ok (.aload_n 0, 1) := by decide +kernel
theorem dX8_falling_43 : decode cX8_falling 43 = .ok (.iload 4, 2) := by decide +kernel
theorem dX8_falling_45 : decode cX8_falling 45 = .ok (.iconst 1, 1) := by decide +kernel
theorem dX8_falling_46 : decode cX8_falling 46 = .ok (.isub, 1) := by decide +kernel
theorem dX8_falling_47 : decode cX8_falling 47 = .ok (.iaload, 1) := by decide +kernel
theorem dX8_falling_48 : decode cX8_falling 48 = .ok (.aload_n 0, 1) := by decide +kernel
theorem dX8_falling_49 : decode cX8_falling 49 = .ok (.iload_n 1, 1) := by decide +kernel
theorem dX8_falling_50 : decode cX8_falling 50 = .ok (.iload_n 2, 1) := by decide +kernel
theorem dX8_falling_51 : decode cX8_falling 51 = .ok (.invokestatic 63, 3) := by decide +kernel
theorem dX8_falling_54 : decode cX8_falling 54 = .ok (.invokestatic 67, 3) := by decide +kernel
theorem dX8_falling_57 : decode cX8_falling 57 = .ok (.istore_n 3, 1) := by decide +kernel
theorem dX8_falling_58 : decode cX8_falling 58 = .ok (.iload_n 2, 1) := by decide +kernel
theorem dX8_falling_59 : decode cX8_falling 59 = .ok (.iload_n 3, 1) := by decide +kernel
theorem dX8_falling_60 : decode cX8_falling 60 = .ok (.ifCond .eq 7, 3) := by decide +kernel
theorem dX8_falling_63 : decode cX8_falling 63 = .ok (.iconst 1, 1) := by decide +kernel
theorem dX8_falling_64 : decode cX8_falling 64 = .ok (.goto 4, 3) := by decide +kernel
theorem dX8_falling_67 : decode cX8_falling 67 = .ok (.iconst 0, 1) := by decide +kernel
theorem dX8_falling_68 : decode cX8_falling 68 = .ok (.iadd, 1) := by decide +kernel
theorem dX8_falling_69 : decode cX8_falling 69 = .ok (.istore_n 2, 1) := by decide +kernel
theorem dX8_falling_70 : decode cX8_falling 70 = .ok (.goto (-66), 3) := by decide +kernel
theorem dX8_falling_73 : decode cX8_falling 73 = .ok (.iload_n 2, 1) := by decide +kernel
theorem dX8_falling_74 : decode cX8_falling 74 = .ok (.ireturn, 1) := by decide +kernel
theorem dX8_builds_0 : decode cX8_builds 0 = .ok (.iload_n 1, 1) := by decide +kernel
theorem dX8_builds_1 : decode cX8_builds 1 = .ok (.aload_n 0, 1) := by decide +kernel
theorem dX8_builds_2 : decode cX8_builds 2 = .ok (.iconst 3, 1) := by decide +kernel
theorem dX8_builds_3 : decode cX8_builds 3 = .ok (.iload_n 1, 1) := by decide +kernel
theorem dX8_builds_4 : decode cX8_builds 4 = .ok (.iadd, 1) := by decide +kernel
theorem dX8_builds_5 : decode cX8_builds 5 = .ok (.iaload, 1) := by decide +kernel
theorem dX8_builds_6 : decode cX8_builds 6 = .ok (.invokestatic 57, 3) := by decide +kernel
theorem dX8_builds_9 : decode cX8_builds 9 = .ok (.istore 4, 2) := by decide +kernel
theorem dX8_builds_11 : decode cX8_builds 11 = .ok (.aload_n 0, 1) := by decide +kernel
theorem dX8_builds_12 : decode cX8_builds 12 = .ok (.iload 4, 2) := by decide +kernel
theorem dX8_builds_14 : decode cX8_builds 14 = .ok (.iload_n 2, 1) := by decide +kernel
theorem dX8_builds_15 : decode cX8_builds 15 = .ok (.iastore, 1) := by decide +kernel
theorem dX8_builds_16 : decode cX8_builds 16 = .ok (.aload_n 0, 1) := by decide +kernel
theorem dX8_builds_17 : decode cX8_builds 17 = .ok (.iload 4, 2) := by decide +kernel
theorem dX8_builds_19 : decode cX8_builds 19 = .ok (.iconst 1, 1) := by decide +kernel
theorem dX8_builds_20 : decode cX8_builds 20 = .ok (.iadd, 1) := by decide +kernel
theorem dX8_builds_21 : decode cX8_builds 21 = .ok (.iload_n 3, 1) := by decide +kernel
theorem dX8_builds_22 : decode cX8_builds 22 = .ok (.iastore, 1) := by decide +kernel
theorem dX8_builds_23 : decode cX8_builds 23 = .ok (.aload_n 0, 1) := by decide +kernel
theorem dX8_builds_24 : decode cX8_builds 24 = .ok (.iconst 3, 1) := by decide +kernel
theorem dX8_builds_25 : decode cX8_builds 25 = .ok (.iload_n 1, 1) := by decide +kernel
theorem dX8_builds_26 : decode cX8_builds 26 = .ok (.iadd, 1) := by decide +kernel
theorem dX8_builds_27 : decode cX8_builds 27 = .ok (.dup2, 1) := by decide +kernel
theorem dX8_builds_28 : decode cX8_builds 28 = .ok (.iaload, 1) := by decide +kernel
theorem dX8_builds_29 : decode cX8_builds 29 = .ok (.iconst 1, 1) := by decide +kernel
theorem dX8_builds_30 : decode cX8_builds 30 = .ok (.iadd, 1) := by decide +kernel
theorem dX8_builds_31 : decode cX8_builds 31 = .ok (.iastore, 1) := by decide +kernel
theorem dX8_builds_32 : decode cX8_builds 32 = .ok (.aload_n 0, 1) := by decide +kernel
theorem dX8_builds_33 : decode cX8_builds 33 = .ok (.iload_n 1, 1) := by decide +kernel
theorem dX8_builds_34 : decode cX8_builds 34 = .ok (.invokestatic 71, 3) := by decide +kernel
theorem dX8_builds_37 : decode cX8_builds 37 = .ok (.istore 5, 2) := by decide +kernel
theorem dX8_builds_39 : decode cX8_builds 39 = .ok (.iload 5, 2) := by decide +kernel
theorem dX8_builds_41 : decode cX8_builds 41 = .ok (.aload_n 0, 1) := by decide +kernel
theorem dX8_builds_42 : decode cX8_builds 42 = .ok (.iconst 3, 1) := by decide +kernel
theorem dX8_builds_43 : decode cX8_builds 43 = .ok (.iload_n 1, 1) := by decide +kernel
theorem dX8_builds_44 : decode cX8_builds 44 = .ok (.iadd, 1) := by decide +kernel
theorem dX8_builds_45 : decode cX8_builds 45 = .ok (.iaload, 1) := by decide +kernel
theorem dX8_builds_46 : decode cX8_builds 46 = .ok (.if_icmp .ge 54, 3) := by decide +kernel
theorem dX8_builds_49 : decode cX8_builds 49 = .ok (.iload_n 1, 1) := by decide +kernel
theorem dX8_builds_50 : decode cX8_builds 50 = .ok (.iload 5, 2) := by decide +kernel
theorem dX8_builds_52 : decode cX8_builds 52 = .ok (.invokestatic 57, 3) := by decide +kernel
theorem dX8_builds_55 : decode cX8_builds 55 = .ok (.istore 6, 2) := by decide +kernel
theorem dX8_builds_57 : decode cX8_builds 57 = .ok (.iload 6, 2) := by decide +kernel
theorem dX8_builds_59 : decode cX8_builds 59 = .ok (.bipush 9, 2) := by decide +kernel
theorem dX8_builds_61 : decode cX8_builds 61 = .ok (.bipush 10, 2) := by decide +kernel
theorem dX8_builds_63 : decode cX8_builds 63 = .ok (.iload_n 1, 1) := by decide +kernel
theorem dX8_builds_64 : decode cX8_builds 64 = .ok (.imul, 1) := by decide +kernel
theorem dX8_builds_65 : decode cX8_builds 65 = .ok (.iadd, 1) := by decide +kernel
theorem dX8_builds_66 : decode cX8_builds 66 = .ok (.bipush 10, 2) := by decide +kernel
theorem dX8_builds_68 : decode cX8_builds 68 = .ok (.iadd, 1) := by decide +kernel
theorem dX8_builds_69 : decode cX8_builds 69 = .ok (.if_icmp .ge 14, 3) := by decide +kernel
theorem dX8_builds_72 : decode cX8_builds 72 = .ok (.aload_n 0, 1) := by decide +kernel
theorem dX8_builds_73 : decode cX8_builds 73 = .ok (.iload 6, 2) := by decide +kernel
theorem dX8_builds_75 : decode cX8_builds 75 = .ok (.iconst 0, 1) := by decide +kernel
theorem dX8_builds_76 : decode cX8_builds 76 = .ok (.iastore, 1) := by decide +kernel
theorem dX8_builds_77 : decode cX8_builds 77 = .ok (.iinc 6 1, 3) := by decide +kernel
theorem dX8_builds_80 : decode cX8_builds 80 = .ok (.goto (-23), 3) := by decide +kernel
theorem dX8_builds_83 : decode cX8_builds 83 = .ok (.aload_n 0, 1) := by decide +kernel
theorem dX8_builds_84 : decode cX8_builds 84 = .ok (.iconst 3, 1) := by decide +kernel
theorem dX8_builds_85 : decode cX8_builds 85 = .ok (.iload_n 1, 1) := by decide +kernel
theorem dX8_builds_86 : decode cX8_builds 86 = .ok (.iadd, 1) := by decide +kernel
theorem dX8_builds_87 : decode cX8_builds 87 = .ok (.iload 5, 2) := by decide +kernel
theorem dX8_builds_89 : decode cX8_builds 89 = .ok (.iastore, 1) := by decide +kernel
theorem dX8_builds_90 : decode cX8_builds 90 = .ok (.aload_n 0, 1) := by decide +kernel
theorem dX8_builds_91 : decode cX8_builds 91 = .ok (.iload_n 1, 1) := by decide +kernel
theorem dX8_builds_92 : decode cX8_builds 92 = .ok (.invokestatic 71, 3) := by decide +kernel
theorem dX8_builds_95 : decode cX8_builds 95 = .ok (.istore 5, 2) := by decide +kernel
theorem dX8_builds_97 : decode cX8_builds 97 = .ok (.goto (-58), 3) := by decide +kernel
theorem dX8_builds_100 : decode cX8_builds 100 = .ok (.return_, 1) := by decide +kernel
theorem dX8_pullIn_0 : decode cX8_pullIn 0 = .ok (.aload_n 0, 1) := by decide +kernel
theorem dX8_pullIn_1 : decode cX8_pullIn 1 = .ok (.bipush 69, 2) := by decide +kernel
theorem dX8_pullIn_3 : decode cX8_pullIn 3 = .ok (.iload_n 1, 1) := by decide +kernel
theorem dX8_pullIn_4 : decode cX8_pullIn 4 = .ok (.bipush 6, 2) := by decide +kernel
theorem dX8_pullIn_6 : decode cX8_pullIn 6 = .ok (.irem, 1) := by decide +kernel
theorem dX8_pullIn_7 : decode cX8_pullIn 7 = .ok (.iadd, 1) := by decide +kernel
theorem dX8_pullIn_8 : decode cX8_pullIn 8 = .ok (.iaload, 1) := by decide +kernel
theorem dX8_pullIn_9 : decode cX8_pullIn 9 = .ok (.ireturn, 1) := by decide +kernel
theorem dX8_passes_0 : decode cX8_passes 0 = .ok (.aload_n 0, 1) := by decide +kernel
theorem dX8_passes_1 : decode cX8_passes 1 = .ok (.iconst 1, 1) := by decide +kernel
theorem dX8_passes_2 : decode cX8_passes 2 = .ok (.aload_n 0, 1) := by decide +kernel
theorem dX8_passes_3 : decode cX8_passes 3 = .ok (.iconst 0, 1) := by decide +kernel
theorem dX8_passes_4 : decode cX8_passes 4 = .ok (.iaload, 1) := by decide +kernel
theorem dX8_passes_5 : decode cX8_passes 5 = .ok (.aload_n 0, 1) := by decide +kernel
theorem dX8_passes_6 : decode cX8_passes 6 = .ok (.iconst 1, 1) := by decide +kernel
theorem dX8_passes_7 : decode cX8_passes 7 = .ok (.iaload, 1) := by decide +kernel
theorem dX8_passes_8 : decode cX8_passes 8 = .ok (.aload_n 0, 1) := by decide +kernel
theorem dX8_passes_9 : decode cX8_passes 9 = .ok (.aload_n 0, 1) := by decide +kernel
theorem dX8_passes_10 : decode cX8_passes 10 = .ok (.iconst 2, 1) := by decide +kernel
theorem dX8_passes_11 : decode cX8_passes 11 = .ok (.iaload, 1) := by decide +kernel
theorem dX8_passes_12 : decode cX8_passes 12 = .ok (.invokestatic 75, 3) := by decide +kernel
theorem dX8_passes_15 : decode cX8_passes 15 = .ok (.aload_n 0, 1) := by decide +kernel
theorem dX8_passes_16 : decode cX8_passes 16 = .ok (.iconst 2, 1) := by decide +kernel
theorem dX8_passes_17 : decode cX8_passes 17 = .ok (.iaload, 1) := by decide +kernel
theorem dX8_passes_18 : decode cX8_passes 18 = .ok (.invokestatic 78, 3) := by decide +kernel
theorem dX8_passes_21 : decode cX8_passes 21 = .ok (.iastore, 1) := by decide +kernel
theorem dX8_passes_22 : decode cX8_passes 22 = .ok (.aload_n 0, 1) := by decide +kernel
theorem dX8_passes_23 : decode cX8_passes 23 = .ok (.iconst 2, 1) := by decide +kernel
theorem dX8_passes_24 : decode cX8_passes 24 = .ok (.dup2, 1) := by decide +kernel
theorem dX8_passes_25 : decode cX8_passes 25 = .ok (.iaload, 1) := by decide +kernel
theorem dX8_passes_26 : decode cX8_passes 26 = .ok (.iconst 1, 1) := by decide +kernel
theorem dX8_passes_27 : decode cX8_passes 27 = .ok (.iadd, 1) := by decide +kernel
theorem dX8_passes_28 : decode cX8_passes 28 = .ok (.iastore, 1) := by decide +kernel
theorem dX8_passes_29 : decode cX8_passes 29 = .ok (.return_, 1) := by decide +kernel
theorem dX8_storeys_0 : decode cX8_storeys 0 = .ok (.iconst 0, 1) := by decide +kernel
theorem dX8_storeys_1 : decode cX8_storeys 1 = .ok (.istore_n 1, 1) := by decide +kernel
theorem dX8_storeys_2 : decode cX8_storeys 2 = .ok (.iconst 0, 1) := by decide +kernel
theorem dX8_storeys_3 : decode cX8_storeys 3 = .ok (.istore_n 2, 1) := by decide +kernel
theorem dX8_storeys_4 : decode cX8_storeys 4 = .ok (.iload_n 2, 1) := by decide +kernel
theorem dX8_storeys_5 : decode cX8_storeys 5 = .ok (.bipush 6, 2) := by decide +kernel
theorem dX8_storeys_7 : decode cX8_storeys 7 = .ok (.if_icmp .ge 17, 3) := by decide +kernel
theorem dX8_storeys_10 : decode cX8_storeys 10 = .ok (.iload_n 1, 1) := by decide +kernel
theorem dX8_storeys_11 : decode cX8_storeys 11 = .ok (.aload_n 0, 1) := by decide +kernel
theorem dX8_storeys_12 : decode cX8_storeys 12 = .ok (.iconst 3, 1) := by decide +kernel
theorem dX8_storeys_13 : decode cX8_storeys 13 = .ok (.iload_n 2, 1) := by decide +kernel
theorem dX8_storeys_14 : decode cX8_storeys 14 = .ok (.iadd, 1) := by decide +kernel
theorem dX8_storeys_15 : decode cX8_storeys 15 = .ok (.iaload, 1) := by decide +kernel
theorem dX8_storeys_16 : decode cX8_storeys 16 = .ok (.iadd, 1) := by decide +kernel
theorem dX8_storeys_17 : decode cX8_storeys 17 = .ok (.istore_n 1, 1) := by decide +kernel
theorem dX8_storeys_18 : decode cX8_storeys 18 = .ok (.iinc 2 1, 3) := by decide +kernel
theorem dX8_storeys_21 : decode cX8_storeys 21 = .ok (.goto (-17), 3) := by decide +kernel
theorem dX8_storeys_24 : decode cX8_storeys 24 = .ok (.iload_n 1, 1) := by decide +kernel
theorem dX8_storeys_25 : decode cX8_storeys 25 = .ok (.ireturn, 1) := by decide +kernel
theorem dX8_isPlot_0 : decode cX8_isPlot 0 = .ok (.iload_n 0, 1) := by decide +kernel
theorem dX8_isPlot_1 : decode cX8_isPlot 1 = .ok (.iconst 0, 1) := by decide +kernel
theorem dX8_isPlot_2 : decode cX8_isPlot 2 = .ok (.iconst 5, 1) := by decide +kernel
theorem dX8_isPlot_3 : decode cX8_isPlot 3 = .ok (.invokestatic 42, 3) := by decide +kernel
theorem dX8_isPlot_6 : decode cX8_isPlot 6 = .ok (.ireturn, 1) := by decide +kernel
theorem dX8_empties_0 : decode cX8_empties 0 = .ok (.iconst 0, 1) := by decide +kernel
theorem dX8_empties_1 : decode cX8_empties 1 = .ok (.istore_n 1, 1) := by decide +kernel
theorem dX8_empties_2 : decode cX8_empties 2 = .ok (.iload_n 1, 1) := by decide +kernel
theorem dX8_empties_3 : decode cX8_empties 3 = .ok (.sipush 682, 3) := by decide +kernel
theorem dX8_empties_6 : decode cX8_empties 6 = .ok (.if_icmp .ge 13, 3) := by decide +kernel
theorem dX8_empties_9 : decode cX8_empties 9 = .ok (.aload_n 0, 1) := by decide +kernel
theorem dX8_empties_10 : decode cX8_empties 10 = .ok (.iload_n 1, 1) := by decide +kernel
theorem dX8_empties_11 : decode cX8_empties 11 = .ok (.iconst 0, 1) := by decide +kernel
theorem dX8_empties_12 : decode cX8_empties 12 = .ok (.iastore, 1) := by decide +kernel
theorem dX8_empties_13 : decode cX8_empties 13 = .ok (.iinc 1 1, 3) := by decide +kernel
theorem dX8_empties_16 : decode cX8_empties 16 = .ok (.goto (-14), 3) := by decide +kernel
theorem dX8_empties_19 : decode cX8_empties 19 = .ok (.return_, 1) := by decide +kernel
def sp_X8_in (p0 : Int32) (p1 : Int32) (p2 : Int32) : Int32 := if p0 < p1 then ((0 : Int32)) else (if p2 < p0 then ((0 : Int32)) else ((1 : Int32)))
theorem bz_X8_in {p0 : Int32} {p1 : Int32} {p2 : Int32} : narrow .boolean (.int (sp_X8_in p0 p1 p2)) = .int (sp_X8_in p0 p1 p2) := by
  unfold sp_X8_in
  repeat' split
  all_goals first | rfl 
set_option maxHeartbeats 4000000 in
set_option maxRecDepth 100000 in
theorem c_X8_in (l : Launch) (E : wE) (p0 : Int32) (p1 : Int32) (p2 : Int32) (z : Int32) (hsp : sp_X8_in p0 p1 p2 = z) : MR l yX8_in cX8_in 3 (some .boolean) 0 E [.int p0, .int p1, .int p2] [] (some (.int z)) := by
  refine MR.of (by decide +kernel) (Nat.le_of_ble_eq_true rfl) ?_
  intro p e s m below meth c ls hX hK hP hl
  have hX : CX p s m [.int p0, .int p1, .int p2].toArray meth c cX8_in 3 (some .boolean) RX8 := hX
  have hx := hX.1; have hb := hX.2.1; have hts := hX.2.2.2.2.1; have hown := hX.2.2.2.2.2.1
  have hl : lv_has ls 3 [(0, .int p0), (1, .int p1), (2, .int p2)] := hl
  have hsp : (if p0 < p1 then ((0 : Int32)) else (if p2 < p0 then ((0 : Int32)) else ((1 : Int32)))) = z := hsp
  refine lv_iload_n hx hb dX8_in_0 rfl (lv_at hl 0 rfl) (W.pc 1 rfl ?_)
  refine lv_iload_n hx hb dX8_in_1 rfl (lv_at hl 1 rfl) (W.pc 2 rfl ?_)
  refine lv_icmp_lt (tgt := 14) hx hb dX8_in_2 (by decide) (fun c1 => ?_) (fun c1 => W.pc 5 rfl ?_)
  · have hsp := ip hsp c1
    refine lv_iconst (v := (0 : Int32)) hx hb dX8_in_14 (by decide) (W.pc 15 rfl ?_)
    subst hsp
    exact rRz hX rfl rfl dX8_in_15
  · have hsp := iq hsp c1
    refine lv_iload_n hx hb dX8_in_5 rfl (lv_at hl 0 rfl) (W.pc 6 rfl ?_)
    refine lv_iload_n hx hb dX8_in_6 rfl (lv_at hl 2 rfl) (W.pc 7 rfl ?_)
    refine lv_icmp_gt (tgt := 14) hx hb dX8_in_7 (by decide) (fun c2 => ?_) (fun c2 => W.pc 10 rfl ?_)
    · have hsp := ip hsp c2
      refine lv_iconst (v := (0 : Int32)) hx hb dX8_in_14 (by decide) (W.pc 15 rfl ?_)
      subst hsp
      exact rRz hX rfl rfl dX8_in_15
    · have hsp := iq hsp c2
      refine lv_iconst (v := (1 : Int32)) hx hb dX8_in_10 (by decide) (W.pc 11 rfl ?_)
      refine lv_goto (tgt := 15) hx hb dX8_in_11 (by decide) ?_
      subst hsp
      exact rRz hX rfl rfl dX8_in_15
def sp_X8_has (p0 : Int32) (p1 : Int32) : Int32 := if ((p0 >>> (p1 &&& 31)) &&& (1 : Int32)) = (1 : Int32) then ((1 : Int32)) else ((0 : Int32))
theorem bz_X8_has {p0 : Int32} {p1 : Int32} : narrow .boolean (.int (sp_X8_has p0 p1)) = .int (sp_X8_has p0 p1) := by
  unfold sp_X8_has
  repeat' split
  all_goals first | rfl 
set_option maxHeartbeats 4000000 in
set_option maxRecDepth 100000 in
theorem c_X8_has (l : Launch) (E : wE) (p0 : Int32) (p1 : Int32) (z : Int32) (hsp : sp_X8_has p0 p1 = z) : MR l yX8_has cX8_has 2 (some .boolean) 0 E [.int p0, .int p1] [] (some (.int z)) := by
  refine MR.of (by decide +kernel) (Nat.le_of_ble_eq_true rfl) ?_
  intro p e s m below meth c ls hX hK hP hl
  have hX : CX p s m [.int p0, .int p1].toArray meth c cX8_has 2 (some .boolean) RX8 := hX
  have hx := hX.1; have hb := hX.2.1; have hts := hX.2.2.2.2.1; have hown := hX.2.2.2.2.2.1
  have hl : lv_has ls 2 [(0, .int p0), (1, .int p1)] := hl
  have hsp : (if ((p0 >>> (p1 &&& 31)) &&& (1 : Int32)) = (1 : Int32) then ((1 : Int32)) else ((0 : Int32))) = z := hsp
  refine lv_iload_n hx hb dX8_has_0 rfl (lv_at hl 0 rfl) (W.pc 1 rfl ?_)
  refine lv_iload_n hx hb dX8_has_1 rfl (lv_at hl 1 rfl) (W.pc 2 rfl ?_)
  refine lv_ishr hx hb dX8_has_2 (W.pc 3 rfl ?_)
  refine lv_iconst (v := (1 : Int32)) hx hb dX8_has_3 (by decide) (W.pc 4 rfl ?_)
  refine lv_iand hx hb dX8_has_4 (W.pc 5 rfl ?_)
  refine lv_iconst (v := (1 : Int32)) hx hb dX8_has_5 (by decide) (W.pc 6 rfl ?_)
  refine lv_icmp_ne (tgt := 13) hx hb dX8_has_6 (by decide) (fun c1 => ?_) (fun c1 => W.pc 9 rfl ?_)
  · have hsp := iq hsp c1
    refine lv_iconst (v := (0 : Int32)) hx hb dX8_has_13 (by decide) (W.pc 14 rfl ?_)
    subst hsp
    exact rRz hX rfl rfl dX8_has_14
  · have hsp := ip hsp c1
    refine lv_iconst (v := (1 : Int32)) hx hb dX8_has_9 (by decide) (W.pc 10 rfl ?_)
    refine lv_goto (tgt := 14) hx hb dX8_has_10 (by decide) ?_
    subst hsp
    exact rRz hX rfl rfl dX8_has_14
noncomputable def lp_X8_ones_4 (p0 : Int32) : Nat → Int32 → Int32 → Option (Int32 × Int32)
 | 0, _, _ => none
 | fu + 1, x1_4, x2_4 => if (30 : Int32) ≤ x2_4 then (some (x1_4, x2_4)) else (lp_X8_ones_4 p0 fu (x1_4 + ((p0 >>> (x2_4 &&& 31)) &&& (1 : Int32))) (x2_4 + (1 : Int32)))
noncomputable def sp_X8_ones (p0 : Int32) : Option (Int32) := Option.bind (lp_X8_ones_4 p0 FU (0 : Int32) (0 : Int32)) fun z1 => some z1.1
set_option maxHeartbeats 4000000 in
set_option maxRecDepth 100000 in
theorem c_X8_ones (l : Launch) (E : wE) (p0 : Int32) (z : Int32) (hsp : sp_X8_ones p0 = some z) : MR l yX8_ones cX8_ones 3 (some .int) 0 E [.int p0] [] (some (.int z)) := by
  refine MR.of (by decide +kernel) (Nat.le_of_ble_eq_true rfl) ?_
  intro p e s m below meth c ls hX hK hP hl
  have hX : CX p s m [.int p0].toArray meth c cX8_ones 3 (some .int) RX8 := hX
  have hx := hX.1; have hb := hX.2.1; have hts := hX.2.2.2.2.1; have hown := hX.2.2.2.2.2.1
  have hl : lv_has ls 3 [(0, .int p0)] := hl
  have hsp : (Option.bind (lp_X8_ones_4 p0 FU (0 : Int32) (0 : Int32)) fun z1 => some z1.1) = some z := hsp
  refine lv_iconst (v := (0 : Int32)) hx hb dX8_ones_0 (by decide) (W.pc 1 rfl ?_)
  refine lv_istore_n (lv' := [(1, .int (0 : Int32)), (0, .int p0)]) hx hb dX8_ones_1 rfl hl (by decide) rfl (fun ls hl => W.pc 2 rfl ?_)
  refine lv_iconst (v := (0 : Int32)) hx hb dX8_ones_2 (by decide) (W.pc 3 rfl ?_)
  refine lv_istore_n (lv' := [(2, .int (0 : Int32)), (1, .int (0 : Int32)), (0, .int p0)]) hx hb dX8_ones_3 rfl hl (by decide) rfl (fun ls hl => W.pc 4 rfl ?_)
  have L_4 : ∀ (z1 : Int32 × Int32), (∀ (ls : Array Slot), lv_has ls 3 [(1, .int z1.1)] → W p l e (wR 0) s m [.int p0].toArray below meth c s.heap [] 0 0 (MQ below (QRd E (some (.int z))) [.int p0].toArray s 0 0 (fun _ => False)) (F0 m 24 ls [])) → ∀ (fu : Nat) (x1_4 : Int32) (x2_4 : Int32), ∀ (ls : Array Slot), lv_has ls 3 [(0, .int p0), (1, .int x1_4), (2, .int x2_4)] → lp_X8_ones_4 p0 fu x1_4 x2_4 = some z1 → W p l e (wR 0) s m [.int p0].toArray below meth c s.heap [] 0 0 (MQ below (QRd E (some (.int z))) [.int p0].toArray s 0 0 (fun _ => False)) (F0 m 4 ls []) := by
    intro z1 hk_4 fu
    induction fu with
    | zero => intro x1_4 x2_4 ls hl hsp; exact absurd (show none = some _ from hsp) (by simp)
    | succ fu ih_4 =>
      intro x1_4 x2_4 ls hl hsp
      have hsp : (if (30 : Int32) ≤ x2_4 then (some (x1_4, x2_4)) else (lp_X8_ones_4 p0 fu (x1_4 + ((p0 >>> (x2_4 &&& 31)) &&& (1 : Int32))) (x2_4 + (1 : Int32)))) = some z1 := hsp
      refine lv_iload_n hx hb dX8_ones_4 rfl (lv_at hl 2 rfl) (W.pc 5 rfl ?_)
      refine lv_bipush (v := (30 : Int32)) hx hb dX8_ones_5 (by decide) (W.pc 7 rfl ?_)
      refine lv_icmp_ge (tgt := 24) hx hb dX8_ones_7 (by decide) (fun c2 => ?_) (fun c2 => W.pc 10 rfl ?_)
      · have hsp := ip hsp c2
        obtain rfl := Option.some.inj hsp
        exact hk_4 _ (lv_sub hl [1] rfl)
      · have hsp := iq hsp c2
        refine lv_iload_n hx hb dX8_ones_10 rfl (lv_at hl 1 rfl) (W.pc 11 rfl ?_)
        refine lv_iload_n hx hb dX8_ones_11 rfl (lv_at hl 0 rfl) (W.pc 12 rfl ?_)
        refine lv_iload_n hx hb dX8_ones_12 rfl (lv_at hl 2 rfl) (W.pc 13 rfl ?_)
        refine lv_ishr hx hb dX8_ones_13 (W.pc 14 rfl ?_)
        refine lv_iconst (v := (1 : Int32)) hx hb dX8_ones_14 (by decide) (W.pc 15 rfl ?_)
        refine lv_iand hx hb dX8_ones_15 (W.pc 16 rfl ?_)
        refine lv_iadd hx hb dX8_ones_16 (W.pc 17 rfl ?_)
        refine lv_istore_n (lv' := [(1, .int (x1_4 + ((p0 >>> (x2_4 &&& 31)) &&& (1 : Int32)))), (0, .int p0), (2, .int x2_4)]) hx hb dX8_ones_17 rfl hl (by decide) rfl (fun ls hl => W.pc 18 rfl ?_)
        refine lv_iinc (v := (x2_4 + (1 : Int32))) (lv' := [(2, .int (x2_4 + (1 : Int32))), (1, .int (x1_4 + ((p0 >>> (x2_4 &&& 31)) &&& (1 : Int32)))), (0, .int p0)]) hx hb dX8_ones_18 hl (k := 2) rfl rfl (by decide) rfl (fun ls hl => W.pc 21 rfl ?_)
        refine lv_goto (tgt := 4) hx hb dX8_ones_21 (by decide) ?_
        exact ih_4 (x1_4 + ((p0 >>> (x2_4 &&& 31)) &&& (1 : Int32))) (x2_4 + (1 : Int32)) _ (lv_sub hl [2, 1, 0] rfl) hsp
  obtain ⟨z1, hr_z1, hsp⟩ := bd_s hsp
  refine L_4 z1 (fun ls hl => ?_) FU (0 : Int32) (0 : Int32) _ (lv_sub hl [2, 1, 0] rfl) hr_z1
  refine lv_iload_n hx hb dX8_ones_24 rfl (lv_at hl 0 rfl) (W.pc 25 rfl ?_)
  obtain rfl := Option.some.inj hsp
  exact rRi hX rfl dX8_ones_25
def sp_X8_bad (fa0_refused : Nat → Int32) : Int32 × (Nat → Int32) := ((-2 : Int32), (upd fa0_refused ((0 : Int32)).toNatClampNeg ((fa0_refused ((0 : Int32)).toNatClampNeg) + (1 : Int32))))
set_option maxHeartbeats 4000000 in
set_option maxRecDepth 100000 in
theorem c_X8_bad (l : Launch) (E : wE) (a0 a0_text a0_town a0_draft a0_tried a0_images a0_kept a0_refused a0_line a0_best : Nat) (a0_letters : Int32) (a0_above : Int64) (a0_below : Int64) (a0_at : Int32) (a0_start : Int32) (a0_isWell : Int32) (a0_faultAt : Int32) (fa0_refused : Nat → Int32) (z_0 : Int32) (z_1 : (Nat → Int32)) (hsp : sp_X8_bad fa0_refused = (z_0, z_1)) : MW l yX8_bad cX8_bad 1 (some .int) 0 E [.ref a0] [(a0, .inr (5, [.ref a0_text, .int a0_letters, .ref a0_town, .ref a0_draft, .ref a0_tried, .ref a0_images, .ref a0_kept, .ref a0_refused, .long a0_above, .long a0_below, .ref a0_line, .ref a0_best, .int a0_at, .int a0_start, .int a0_isWell, .int a0_faultAt])), (a0_refused, aI E 3 fa0_refused)] (some (.int z_0)) [(a0, .inr (5, [.ref a0_text, .int a0_letters, .ref a0_town, .ref a0_draft, .ref a0_tried, .ref a0_images, .ref a0_kept, .ref a0_refused, .long a0_above, .long a0_below, .ref a0_line, .ref a0_best, .int a0_at, .int a0_start, .int a0_isWell, .int a0_faultAt])), (a0_refused, aI E 3 z_1)] := by
  refine MW.of (by decide +kernel) (Nat.le_of_ble_eq_true rfl) ?_
  intro p e s m below meth c ls A hX hK hP hD hS hA hl
  have hX : CX p s m [.ref a0].toArray meth c cX8_bad 1 (some .int) RX8 := hX
  have hx := hX.1; have hb := hX.2.1; have hts := hX.2.2.2.2.1; have hown := hX.2.2.2.2.2.1
  have hl : lv_has ls 1 [(0, .ref a0)] := hl
  have hP : wP E [(a0, .inr (5, [.ref a0_text, .int a0_letters, .ref a0_town, .ref a0_draft, .ref a0_tried, .ref a0_images, .ref a0_kept, .ref a0_refused, .long a0_above, .long a0_below, .ref a0_line, .ref a0_best, .int a0_at, .int a0_start, .int a0_isWell, .int a0_faultAt])), (a0_refused, aI E 3 fa0_refused)] s.heap := hP
  have hsp : (((-2 : Int32), (upd fa0_refused ((0 : Int32)).toNatClampNeg ((fa0_refused ((0 : Int32)).toNatClampNeg) + (1 : Int32))))) = (z_0, z_1) := hsp
  refine lv_aload_n hx hb dX8_bad_0 rfl (lv_at hl 0 rfl) (W.pc 1 rfl ?_)
  refine va_get (D := E.1) (ci := 5) (v := .ref a0_refused) (C := RX8) (T := TX8) (N := 16) hx hb hts inT_X8 hown hK hP 0 rfl rfl 7 (by decide) (hts _ w_4_75) (fun _ h9 => h9) rfl dX8_bad_1 (W.pc 4 rfl ?_)
  refine lv_iconst (v := (0 : Int32)) hx hb dX8_bad_4 (by decide) (W.pc 5 rfl ?_)
  refine lv_dup2_11 hx hb dX8_bad_5 rfl rfl (W.pc 6 rfl ?_)
  refine va_iald hx hb hK hP 1 0 rfl rfl (vp_in_nI (n := 0) (N := 3) (by decide) (by decide)) dX8_bad_6 (W.pc 7 rfl ?_)
  refine lv_iconst (v := (1 : Int32)) hx hb dX8_bad_7 (by decide) (W.pc 8 rfl ?_)
  refine lv_iadd hx hb dX8_bad_8 (W.pc 9 rfl ?_)
  refine va_iast hx hb hK hP hD hS 1 0 rfl rfl (vp_in_nI (n := 0) (N := 3) (by decide) (by decide)) dX8_bad_9 (fun H locs hP hD hS => W.pc 10 rfl ?_)
  have hP : wP E [(a0, .inr (5, [.ref a0_text, .int a0_letters, .ref a0_town, .ref a0_draft, .ref a0_tried, .ref a0_images, .ref a0_kept, .ref a0_refused, .long a0_above, .long a0_below, .ref a0_line, .ref a0_best, .int a0_at, .int a0_start, .int a0_isWell, .int a0_faultAt])), (a0_refused, aI E 3 (upd fa0_refused ((0 : Int32)).toNatClampNeg ((fa0_refused ((0 : Int32)).toNatClampNeg) + (1 : Int32))))] _ := hP
  have hD : va_D A [(a0, .inr (5, [.ref a0_text, .int a0_letters, .ref a0_town, .ref a0_draft, .ref a0_tried, .ref a0_images, .ref a0_kept, .ref a0_refused, .long a0_above, .long a0_below, .ref a0_line, .ref a0_best, .int a0_at, .int a0_start, .int a0_isWell, .int a0_faultAt])), (a0_refused, aI E 3 (upd fa0_refused ((0 : Int32)).toNatClampNeg ((fa0_refused ((0 : Int32)).toNatClampNeg) + (1 : Int32))))] := hD
  refine lv_bipush (v := (-2 : Int32)) hx hb dX8_bad_10 (by decide) (W.pc 12 rfl ?_)
  cases hsp
  exact rWi hX hP hS rfl rfl dX8_bad_12
def sp_X8_badly (p1 : Int32) (fa0_refused : Nat → Int32) : Int32 × (Nat → Int32) := (p1, (upd fa0_refused ((0 : Int32)).toNatClampNeg ((fa0_refused ((0 : Int32)).toNatClampNeg) + (1 : Int32))))
set_option maxHeartbeats 4000000 in
set_option maxRecDepth 100000 in
theorem c_X8_badly (l : Launch) (E : wE) (a0 a0_text a0_town a0_draft a0_tried a0_images a0_kept a0_refused a0_line a0_best : Nat) (p1 : Int32) (a0_letters : Int32) (a0_above : Int64) (a0_below : Int64) (a0_at : Int32) (a0_start : Int32) (a0_isWell : Int32) (a0_faultAt : Int32) (fa0_refused : Nat → Int32) (z_0 : Int32) (z_1 : (Nat → Int32)) (hsp : sp_X8_badly p1 fa0_refused = (z_0, z_1)) : MW l yX8_badly cX8_badly 2 (some .int) 0 E [.ref a0, .int p1] [(a0, .inr (5, [.ref a0_text, .int a0_letters, .ref a0_town, .ref a0_draft, .ref a0_tried, .ref a0_images, .ref a0_kept, .ref a0_refused, .long a0_above, .long a0_below, .ref a0_line, .ref a0_best, .int a0_at, .int a0_start, .int a0_isWell, .int a0_faultAt])), (a0_refused, aI E 3 fa0_refused)] (some (.int z_0)) [(a0, .inr (5, [.ref a0_text, .int a0_letters, .ref a0_town, .ref a0_draft, .ref a0_tried, .ref a0_images, .ref a0_kept, .ref a0_refused, .long a0_above, .long a0_below, .ref a0_line, .ref a0_best, .int a0_at, .int a0_start, .int a0_isWell, .int a0_faultAt])), (a0_refused, aI E 3 z_1)] := by
  refine MW.of (by decide +kernel) (Nat.le_of_ble_eq_true rfl) ?_
  intro p e s m below meth c ls A hX hK hP hD hS hA hl
  have hX : CX p s m [.ref a0, .int p1].toArray meth c cX8_badly 2 (some .int) RX8 := hX
  have hx := hX.1; have hb := hX.2.1; have hts := hX.2.2.2.2.1; have hown := hX.2.2.2.2.2.1
  have hl : lv_has ls 2 [(0, .ref a0), (1, .int p1)] := hl
  have hP : wP E [(a0, .inr (5, [.ref a0_text, .int a0_letters, .ref a0_town, .ref a0_draft, .ref a0_tried, .ref a0_images, .ref a0_kept, .ref a0_refused, .long a0_above, .long a0_below, .ref a0_line, .ref a0_best, .int a0_at, .int a0_start, .int a0_isWell, .int a0_faultAt])), (a0_refused, aI E 3 fa0_refused)] s.heap := hP
  have hsp : ((p1, (upd fa0_refused ((0 : Int32)).toNatClampNeg ((fa0_refused ((0 : Int32)).toNatClampNeg) + (1 : Int32))))) = (z_0, z_1) := hsp
  refine lv_aload_n hx hb dX8_badly_0 rfl (lv_at hl 0 rfl) (W.pc 1 rfl ?_)
  refine va_get (D := E.1) (ci := 5) (v := .ref a0_refused) (C := RX8) (T := TX8) (N := 16) hx hb hts inT_X8 hown hK hP 0 rfl rfl 7 (by decide) (hts _ w_4_75) (fun _ h9 => h9) rfl dX8_badly_1 (W.pc 4 rfl ?_)
  refine lv_iconst (v := (0 : Int32)) hx hb dX8_badly_4 (by decide) (W.pc 5 rfl ?_)
  refine lv_dup2_11 hx hb dX8_badly_5 rfl rfl (W.pc 6 rfl ?_)
  refine va_iald hx hb hK hP 1 0 rfl rfl (vp_in_nI (n := 0) (N := 3) (by decide) (by decide)) dX8_badly_6 (W.pc 7 rfl ?_)
  refine lv_iconst (v := (1 : Int32)) hx hb dX8_badly_7 (by decide) (W.pc 8 rfl ?_)
  refine lv_iadd hx hb dX8_badly_8 (W.pc 9 rfl ?_)
  refine va_iast hx hb hK hP hD hS 1 0 rfl rfl (vp_in_nI (n := 0) (N := 3) (by decide) (by decide)) dX8_badly_9 (fun H locs hP hD hS => W.pc 10 rfl ?_)
  have hP : wP E [(a0, .inr (5, [.ref a0_text, .int a0_letters, .ref a0_town, .ref a0_draft, .ref a0_tried, .ref a0_images, .ref a0_kept, .ref a0_refused, .long a0_above, .long a0_below, .ref a0_line, .ref a0_best, .int a0_at, .int a0_start, .int a0_isWell, .int a0_faultAt])), (a0_refused, aI E 3 (upd fa0_refused ((0 : Int32)).toNatClampNeg ((fa0_refused ((0 : Int32)).toNatClampNeg) + (1 : Int32))))] _ := hP
  have hD : va_D A [(a0, .inr (5, [.ref a0_text, .int a0_letters, .ref a0_town, .ref a0_draft, .ref a0_tried, .ref a0_images, .ref a0_kept, .ref a0_refused, .long a0_above, .long a0_below, .ref a0_line, .ref a0_best, .int a0_at, .int a0_start, .int a0_isWell, .int a0_faultAt])), (a0_refused, aI E 3 (upd fa0_refused ((0 : Int32)).toNatClampNeg ((fa0_refused ((0 : Int32)).toNatClampNeg) + (1 : Int32))))] := hD
  refine lv_iload_n hx hb dX8_badly_10 rfl (lv_at hl 1 rfl) (W.pc 11 rfl ?_)
  cases hsp
  exact rWi hX hP hS rfl rfl dX8_badly_11
def sp_X8_no (fa0_refused : Nat → Int32) : Int32 × (Nat → Int32) := ((-3 : Int32), (upd fa0_refused ((1 : Int32)).toNatClampNeg ((fa0_refused ((1 : Int32)).toNatClampNeg) + (1 : Int32))))
set_option maxHeartbeats 4000000 in
set_option maxRecDepth 100000 in
theorem c_X8_no (l : Launch) (E : wE) (a0 a0_text a0_town a0_draft a0_tried a0_images a0_kept a0_refused a0_line a0_best : Nat) (a0_letters : Int32) (a0_above : Int64) (a0_below : Int64) (a0_at : Int32) (a0_start : Int32) (a0_isWell : Int32) (a0_faultAt : Int32) (fa0_refused : Nat → Int32) (z_0 : Int32) (z_1 : (Nat → Int32)) (hsp : sp_X8_no fa0_refused = (z_0, z_1)) : MW l yX8_no cX8_no 1 (some .int) 0 E [.ref a0] [(a0, .inr (5, [.ref a0_text, .int a0_letters, .ref a0_town, .ref a0_draft, .ref a0_tried, .ref a0_images, .ref a0_kept, .ref a0_refused, .long a0_above, .long a0_below, .ref a0_line, .ref a0_best, .int a0_at, .int a0_start, .int a0_isWell, .int a0_faultAt])), (a0_refused, aI E 3 fa0_refused)] (some (.int z_0)) [(a0, .inr (5, [.ref a0_text, .int a0_letters, .ref a0_town, .ref a0_draft, .ref a0_tried, .ref a0_images, .ref a0_kept, .ref a0_refused, .long a0_above, .long a0_below, .ref a0_line, .ref a0_best, .int a0_at, .int a0_start, .int a0_isWell, .int a0_faultAt])), (a0_refused, aI E 3 z_1)] := by
  refine MW.of (by decide +kernel) (Nat.le_of_ble_eq_true rfl) ?_
  intro p e s m below meth c ls A hX hK hP hD hS hA hl
  have hX : CX p s m [.ref a0].toArray meth c cX8_no 1 (some .int) RX8 := hX
  have hx := hX.1; have hb := hX.2.1; have hts := hX.2.2.2.2.1; have hown := hX.2.2.2.2.2.1
  have hl : lv_has ls 1 [(0, .ref a0)] := hl
  have hP : wP E [(a0, .inr (5, [.ref a0_text, .int a0_letters, .ref a0_town, .ref a0_draft, .ref a0_tried, .ref a0_images, .ref a0_kept, .ref a0_refused, .long a0_above, .long a0_below, .ref a0_line, .ref a0_best, .int a0_at, .int a0_start, .int a0_isWell, .int a0_faultAt])), (a0_refused, aI E 3 fa0_refused)] s.heap := hP
  have hsp : (((-3 : Int32), (upd fa0_refused ((1 : Int32)).toNatClampNeg ((fa0_refused ((1 : Int32)).toNatClampNeg) + (1 : Int32))))) = (z_0, z_1) := hsp
  refine lv_aload_n hx hb dX8_no_0 rfl (lv_at hl 0 rfl) (W.pc 1 rfl ?_)
  refine va_get (D := E.1) (ci := 5) (v := .ref a0_refused) (C := RX8) (T := TX8) (N := 16) hx hb hts inT_X8 hown hK hP 0 rfl rfl 7 (by decide) (hts _ w_4_75) (fun _ h9 => h9) rfl dX8_no_1 (W.pc 4 rfl ?_)
  refine lv_iconst (v := (1 : Int32)) hx hb dX8_no_4 (by decide) (W.pc 5 rfl ?_)
  refine lv_dup2_11 hx hb dX8_no_5 rfl rfl (W.pc 6 rfl ?_)
  refine va_iald hx hb hK hP 1 0 rfl rfl (vp_in_nI (n := 1) (N := 3) (by decide) (by decide)) dX8_no_6 (W.pc 7 rfl ?_)
  refine lv_iconst (v := (1 : Int32)) hx hb dX8_no_7 (by decide) (W.pc 8 rfl ?_)
  refine lv_iadd hx hb dX8_no_8 (W.pc 9 rfl ?_)
  refine va_iast hx hb hK hP hD hS 1 0 rfl rfl (vp_in_nI (n := 1) (N := 3) (by decide) (by decide)) dX8_no_9 (fun H locs hP hD hS => W.pc 10 rfl ?_)
  have hP : wP E [(a0, .inr (5, [.ref a0_text, .int a0_letters, .ref a0_town, .ref a0_draft, .ref a0_tried, .ref a0_images, .ref a0_kept, .ref a0_refused, .long a0_above, .long a0_below, .ref a0_line, .ref a0_best, .int a0_at, .int a0_start, .int a0_isWell, .int a0_faultAt])), (a0_refused, aI E 3 (upd fa0_refused ((1 : Int32)).toNatClampNeg ((fa0_refused ((1 : Int32)).toNatClampNeg) + (1 : Int32))))] _ := hP
  have hD : va_D A [(a0, .inr (5, [.ref a0_text, .int a0_letters, .ref a0_town, .ref a0_draft, .ref a0_tried, .ref a0_images, .ref a0_kept, .ref a0_refused, .long a0_above, .long a0_below, .ref a0_line, .ref a0_best, .int a0_at, .int a0_start, .int a0_isWell, .int a0_faultAt])), (a0_refused, aI E 3 (upd fa0_refused ((1 : Int32)).toNatClampNeg ((fa0_refused ((1 : Int32)).toNatClampNeg) + (1 : Int32))))] := hD
  refine lv_bipush (v := (-3 : Int32)) hx hb dX8_no_10 (by decide) (W.pc 12 rfl ?_)
  cases hsp
  exact rWi hX hP hS rfl rfl dX8_no_12
def sp_X8_full (fa0_refused : Nat → Int32) : Int32 × (Nat → Int32) := ((-4 : Int32), (upd fa0_refused ((2 : Int32)).toNatClampNeg ((fa0_refused ((2 : Int32)).toNatClampNeg) + (1 : Int32))))
set_option maxHeartbeats 4000000 in
set_option maxRecDepth 100000 in
theorem c_X8_full (l : Launch) (E : wE) (a0 a0_text a0_town a0_draft a0_tried a0_images a0_kept a0_refused a0_line a0_best : Nat) (a0_letters : Int32) (a0_above : Int64) (a0_below : Int64) (a0_at : Int32) (a0_start : Int32) (a0_isWell : Int32) (a0_faultAt : Int32) (fa0_refused : Nat → Int32) (z_0 : Int32) (z_1 : (Nat → Int32)) (hsp : sp_X8_full fa0_refused = (z_0, z_1)) : MW l yX8_full cX8_full 1 (some .int) 0 E [.ref a0] [(a0, .inr (5, [.ref a0_text, .int a0_letters, .ref a0_town, .ref a0_draft, .ref a0_tried, .ref a0_images, .ref a0_kept, .ref a0_refused, .long a0_above, .long a0_below, .ref a0_line, .ref a0_best, .int a0_at, .int a0_start, .int a0_isWell, .int a0_faultAt])), (a0_refused, aI E 3 fa0_refused)] (some (.int z_0)) [(a0, .inr (5, [.ref a0_text, .int a0_letters, .ref a0_town, .ref a0_draft, .ref a0_tried, .ref a0_images, .ref a0_kept, .ref a0_refused, .long a0_above, .long a0_below, .ref a0_line, .ref a0_best, .int a0_at, .int a0_start, .int a0_isWell, .int a0_faultAt])), (a0_refused, aI E 3 z_1)] := by
  refine MW.of (by decide +kernel) (Nat.le_of_ble_eq_true rfl) ?_
  intro p e s m below meth c ls A hX hK hP hD hS hA hl
  have hX : CX p s m [.ref a0].toArray meth c cX8_full 1 (some .int) RX8 := hX
  have hx := hX.1; have hb := hX.2.1; have hts := hX.2.2.2.2.1; have hown := hX.2.2.2.2.2.1
  have hl : lv_has ls 1 [(0, .ref a0)] := hl
  have hP : wP E [(a0, .inr (5, [.ref a0_text, .int a0_letters, .ref a0_town, .ref a0_draft, .ref a0_tried, .ref a0_images, .ref a0_kept, .ref a0_refused, .long a0_above, .long a0_below, .ref a0_line, .ref a0_best, .int a0_at, .int a0_start, .int a0_isWell, .int a0_faultAt])), (a0_refused, aI E 3 fa0_refused)] s.heap := hP
  have hsp : (((-4 : Int32), (upd fa0_refused ((2 : Int32)).toNatClampNeg ((fa0_refused ((2 : Int32)).toNatClampNeg) + (1 : Int32))))) = (z_0, z_1) := hsp
  refine lv_aload_n hx hb dX8_full_0 rfl (lv_at hl 0 rfl) (W.pc 1 rfl ?_)
  refine va_get (D := E.1) (ci := 5) (v := .ref a0_refused) (C := RX8) (T := TX8) (N := 16) hx hb hts inT_X8 hown hK hP 0 rfl rfl 7 (by decide) (hts _ w_4_75) (fun _ h9 => h9) rfl dX8_full_1 (W.pc 4 rfl ?_)
  refine lv_iconst (v := (2 : Int32)) hx hb dX8_full_4 (by decide) (W.pc 5 rfl ?_)
  refine lv_dup2_11 hx hb dX8_full_5 rfl rfl (W.pc 6 rfl ?_)
  refine va_iald hx hb hK hP 1 0 rfl rfl (vp_in_nI (n := 2) (N := 3) (by decide) (by decide)) dX8_full_6 (W.pc 7 rfl ?_)
  refine lv_iconst (v := (1 : Int32)) hx hb dX8_full_7 (by decide) (W.pc 8 rfl ?_)
  refine lv_iadd hx hb dX8_full_8 (W.pc 9 rfl ?_)
  refine va_iast hx hb hK hP hD hS 1 0 rfl rfl (vp_in_nI (n := 2) (N := 3) (by decide) (by decide)) dX8_full_9 (fun H locs hP hD hS => W.pc 10 rfl ?_)
  have hP : wP E [(a0, .inr (5, [.ref a0_text, .int a0_letters, .ref a0_town, .ref a0_draft, .ref a0_tried, .ref a0_images, .ref a0_kept, .ref a0_refused, .long a0_above, .long a0_below, .ref a0_line, .ref a0_best, .int a0_at, .int a0_start, .int a0_isWell, .int a0_faultAt])), (a0_refused, aI E 3 (upd fa0_refused ((2 : Int32)).toNatClampNeg ((fa0_refused ((2 : Int32)).toNatClampNeg) + (1 : Int32))))] _ := hP
  have hD : va_D A [(a0, .inr (5, [.ref a0_text, .int a0_letters, .ref a0_town, .ref a0_draft, .ref a0_tried, .ref a0_images, .ref a0_kept, .ref a0_refused, .long a0_above, .long a0_below, .ref a0_line, .ref a0_best, .int a0_at, .int a0_start, .int a0_isWell, .int a0_faultAt])), (a0_refused, aI E 3 (upd fa0_refused ((2 : Int32)).toNatClampNeg ((fa0_refused ((2 : Int32)).toNatClampNeg) + (1 : Int32))))] := hD
  refine lv_bipush (v := (-4 : Int32)) hx hb dX8_full_10 (by decide) (W.pc 12 rfl ?_)
  cases hsp
  exact rWi hX hP hS rfl rfl dX8_full_12
noncomputable def lp_X8_copies_d_3 (n0 : Nat) (p1 : Int32) (n2 : Nat) (p3 : Int32) (p4 : Int32) (fa0 : Nat → Int32) : Nat → Int32 → ((Nat → Int32)) → Option (Int32 × (Nat → Int32))
 | 0, _, _ => none
 | fu + 1, x5_3, ya2_f_3 => if p4 ≤ x5_3 then (some (x5_3, ya2_f_3)) else (gi (p1 + x5_3) n0 (gi (p3 + x5_3) n2 (lp_X8_copies_d_3 n0 p1 n2 p3 p4 fa0 fu (x5_3 + (1 : Int32)) (upd ya2_f_3 ((p3 + x5_3)).toNatClampNeg (fa0 ((p1 + x5_3)).toNatClampNeg)))))
noncomputable def sp_X8_copies_d (n0 : Nat) (n2 : Nat) (p1 : Int32) (p3 : Int32) (p4 : Int32) (fa0 : Nat → Int32) (fa2 : Nat → Int32) : Option ((Nat → Int32)) := Option.bind (lp_X8_copies_d_3 n0 p1 n2 p3 p4 fa0 FU (0 : Int32) fa2) fun z1 => some z1.2
set_option maxHeartbeats 4000000 in
set_option maxRecDepth 100000 in
theorem c_X8_copies_d (l : Launch) (E : wE) (a0 a2 : Nat) (n0 : Nat) (hnn0 : n0 < 2 ^ 31) (n2 : Nat) (hnn2 : n2 < 2 ^ 31) (p1 : Int32) (p3 : Int32) (p4 : Int32) (fa0 : Nat → Int32) (fa2 : Nat → Int32) (z : (Nat → Int32)) (hsp : sp_X8_copies_d n0 n2 p1 p3 p4 fa0 fa2 = some z) : MW l yX8_copies cX8_copies 6 none 0 E [.ref a0, .int p1, .ref a2, .int p3, .int p4] [(a0, aI E n0 fa0), (a2, aI E n2 fa2)] none [(a0, aI E n0 fa0), (a2, aI E n2 z)] := by
  refine MW.of (by decide +kernel) (Nat.le_of_ble_eq_true rfl) ?_
  intro p e s m below meth c ls A hX hK hP hD hS hA hl
  have hX : CX p s m [.ref a0, .int p1, .ref a2, .int p3, .int p4].toArray meth c cX8_copies 6 none RX8 := hX
  have hx := hX.1; have hb := hX.2.1; have hts := hX.2.2.2.2.1; have hown := hX.2.2.2.2.2.1
  have hl : lv_has ls 6 [(0, .ref a0), (1, .int p1), (2, .ref a2), (3, .int p3), (4, .int p4)] := hl
  have hP : wP E [(a0, aI E n0 fa0), (a2, aI E n2 fa2)] s.heap := hP
  have hsp : (Option.bind (lp_X8_copies_d_3 n0 p1 n2 p3 p4 fa0 FU (0 : Int32) fa2) fun z1 => some z1.2) = some z := hsp
  refine lv_iconst (v := (0 : Int32)) hx hb dX8_copies_0 (by decide) (W.pc 1 rfl ?_)
  refine lv_istore (lv' := [(5, .int (0 : Int32)), (0, .ref a0), (1, .int p1), (2, .ref a2), (3, .int p3), (4, .int p4)]) hx hb dX8_copies_1 hl (by decide) rfl (fun ls hl => W.pc 3 rfl ?_)
  have L_3 : ∀ (z1 : Int32 × (Nat → Int32)), (∀ (H : Heap) (locs : List Loc) (ls : Array Slot), wP E [(a0, aI E n0 fa0), (a2, aI E n2 z1.2)] H → va_D A [(a0, aI E n0 fa0), (a2, aI E n2 z1.2)] → va_S A s.heap H locs → lv_has ls 6 [] → W p l e (wR 0) s m [.ref a0, .int p1, .ref a2, .int p3, .int p4].toArray below meth c H locs 0 0 (MQ below (QWd E A none [(a0, aI E n0 fa0), (a2, aI E n2 z)]) [.ref a0, .int p1, .ref a2, .int p3, .int p4].toArray s 0 0 A) (F0 m 28 ls [])) → ∀ (fu : Nat) (x5_3 : Int32) (ya2_f_3 : (Nat → Int32)), ∀ (H : Heap) (locs : List Loc) (ls : Array Slot), wP E [(a0, aI E n0 fa0), (a2, aI E n2 ya2_f_3)] H → va_D A [(a0, aI E n0 fa0), (a2, aI E n2 ya2_f_3)] → va_S A s.heap H locs → lv_has ls 6 [(0, .ref a0), (1, .int p1), (2, .ref a2), (3, .int p3), (4, .int p4), (5, .int x5_3)] → lp_X8_copies_d_3 n0 p1 n2 p3 p4 fa0 fu x5_3 ya2_f_3 = some z1 → W p l e (wR 0) s m [.ref a0, .int p1, .ref a2, .int p3, .int p4].toArray below meth c H locs 0 0 (MQ below (QWd E A none [(a0, aI E n0 fa0), (a2, aI E n2 z)]) [.ref a0, .int p1, .ref a2, .int p3, .int p4].toArray s 0 0 A) (F0 m 3 ls []) := by
    intro z1 hk_3 fu
    induction fu with
    | zero => intro x5_3 ya2_f_3 H locs ls hP hD hS hl hsp; exact absurd (show none = some _ from hsp) (by simp)
    | succ fu ih_3 =>
      intro x5_3 ya2_f_3 H locs ls hP hD hS hl hsp
      have hsp : (if p4 ≤ x5_3 then (some (x5_3, ya2_f_3)) else (gi (p1 + x5_3) n0 (gi (p3 + x5_3) n2 (lp_X8_copies_d_3 n0 p1 n2 p3 p4 fa0 fu (x5_3 + (1 : Int32)) (upd ya2_f_3 ((p3 + x5_3)).toNatClampNeg (fa0 ((p1 + x5_3)).toNatClampNeg)))))) = some z1 := hsp
      refine lv_iload hx hb dX8_copies_3 (lv_at hl 5 rfl) (W.pc 5 rfl ?_)
      refine lv_iload hx hb dX8_copies_5 (lv_at hl 4 rfl) (W.pc 7 rfl ?_)
      refine lv_icmp_ge (tgt := 28) hx hb dX8_copies_7 (by decide) (fun c2 => ?_) (fun c2 => W.pc 10 rfl ?_)
      · have hsp := ip hsp c2
        obtain rfl := Option.some.inj hsp
        exact hk_3 _ _ _ hP hD hS (lv_sub hl [] rfl)
      · have hsp := iq hsp c2
        refine lv_aload_n hx hb dX8_copies_10 rfl (lv_at hl 2 rfl) (W.pc 11 rfl ?_)
        refine lv_iload_n hx hb dX8_copies_11 rfl (lv_at hl 3 rfl) (W.pc 12 rfl ?_)
        refine lv_iload hx hb dX8_copies_12 (lv_at hl 5 rfl) (W.pc 14 rfl ?_)
        refine lv_iadd hx hb dX8_copies_14 (W.pc 15 rfl ?_)
        refine lv_aload_n hx hb dX8_copies_15 rfl (lv_at hl 0 rfl) (W.pc 16 rfl ?_)
        refine lv_iload_n hx hb dX8_copies_16 rfl (lv_at hl 1 rfl) (W.pc 17 rfl ?_)
        refine lv_iload hx hb dX8_copies_17 (lv_at hl 5 rfl) (W.pc 19 rfl ?_)
        refine lv_iadd hx hb dX8_copies_19 (W.pc 20 rfl ?_)
        obtain ⟨h3, hsp⟩ := gi_s hsp
        refine va_iald hx hb hK hP 0 0 rfl rfl h3 dX8_copies_20 (W.pc 21 rfl ?_)
        obtain ⟨h4, hsp⟩ := gi_s hsp
        refine va_iast hx hb hK hP hD hS 1 0 rfl rfl h4 dX8_copies_21 (fun H locs hP hD hS => W.pc 22 rfl ?_)
        have hP : wP E [(a0, aI E n0 fa0), (a2, aI E n2 (upd ya2_f_3 ((p3 + x5_3)).toNatClampNeg (fa0 ((p1 + x5_3)).toNatClampNeg)))] _ := hP
        have hD : va_D A [(a0, aI E n0 fa0), (a2, aI E n2 (upd ya2_f_3 ((p3 + x5_3)).toNatClampNeg (fa0 ((p1 + x5_3)).toNatClampNeg)))] := hD
        refine lv_iinc (v := (x5_3 + (1 : Int32))) (lv' := [(5, .int (x5_3 + (1 : Int32))), (0, .ref a0), (1, .int p1), (2, .ref a2), (3, .int p3), (4, .int p4)]) hx hb dX8_copies_22 hl (k := 5) rfl rfl (by decide) rfl (fun ls hl => W.pc 25 rfl ?_)
        refine lv_goto (tgt := 3) hx hb dX8_copies_25 (by decide) ?_
        exact ih_3 (x5_3 + (1 : Int32)) (upd ya2_f_3 ((p3 + x5_3)).toNatClampNeg (fa0 ((p1 + x5_3)).toNatClampNeg)) _ _ _ hP hD hS (lv_sub hl [1, 2, 3, 4, 5, 0] rfl) hsp
  obtain ⟨z1, hr_z1, hsp⟩ := bd_s hsp
  refine L_3 z1 (fun H locs ls hP hD hS hl => ?_) FU (0 : Int32) fa2 _ _ _ hP hD hS (lv_sub hl [1, 2, 3, 4, 5, 0] rfl) hr_z1
  obtain rfl := Option.some.inj hsp
  exact rWv hX hP hS rfl dX8_copies_28
noncomputable def lp_X8_copies_s_3 (n0 : Nat) (p1 : Int32) (p3 : Int32) (p4 : Int32) : Nat → Int32 → ((Nat → Int32)) → Option (Int32 × (Nat → Int32))
 | 0, _, _ => none
 | fu + 1, x5_3, ya0_f_3 => if p4 ≤ x5_3 then (some (x5_3, ya0_f_3)) else (gi (p1 + x5_3) n0 (gi (p3 + x5_3) n0 (lp_X8_copies_s_3 n0 p1 p3 p4 fu (x5_3 + (1 : Int32)) (upd ya0_f_3 ((p3 + x5_3)).toNatClampNeg (ya0_f_3 ((p1 + x5_3)).toNatClampNeg)))))
noncomputable def sp_X8_copies_s (n0 : Nat) (p1 : Int32) (p3 : Int32) (p4 : Int32) (fa0 : Nat → Int32) : Option ((Nat → Int32)) := Option.bind (lp_X8_copies_s_3 n0 p1 p3 p4 FU (0 : Int32) fa0) fun z1 => some z1.2
set_option maxHeartbeats 4000000 in
set_option maxRecDepth 100000 in
theorem c_X8_copies_s (l : Launch) (E : wE) (a0 : Nat) (n0 : Nat) (hnn0 : n0 < 2 ^ 31) (p1 : Int32) (p3 : Int32) (p4 : Int32) (fa0 : Nat → Int32) (z : (Nat → Int32)) (hsp : sp_X8_copies_s n0 p1 p3 p4 fa0 = some z) : MW l yX8_copies cX8_copies 6 none 0 E [.ref a0, .int p1, .ref a0, .int p3, .int p4] [(a0, aI E n0 fa0)] none [(a0, aI E n0 z)] := by
  refine MW.of (by decide +kernel) (Nat.le_of_ble_eq_true rfl) ?_
  intro p e s m below meth c ls A hX hK hP hD hS hA hl
  have hX : CX p s m [.ref a0, .int p1, .ref a0, .int p3, .int p4].toArray meth c cX8_copies 6 none RX8 := hX
  have hx := hX.1; have hb := hX.2.1; have hts := hX.2.2.2.2.1; have hown := hX.2.2.2.2.2.1
  have hl : lv_has ls 6 [(0, .ref a0), (1, .int p1), (2, .ref a0), (3, .int p3), (4, .int p4)] := hl
  have hP : wP E [(a0, aI E n0 fa0)] s.heap := hP
  have hsp : (Option.bind (lp_X8_copies_s_3 n0 p1 p3 p4 FU (0 : Int32) fa0) fun z1 => some z1.2) = some z := hsp
  refine lv_iconst (v := (0 : Int32)) hx hb dX8_copies_0 (by decide) (W.pc 1 rfl ?_)
  refine lv_istore (lv' := [(5, .int (0 : Int32)), (0, .ref a0), (1, .int p1), (2, .ref a0), (3, .int p3), (4, .int p4)]) hx hb dX8_copies_1 hl (by decide) rfl (fun ls hl => W.pc 3 rfl ?_)
  have L_3 : ∀ (z1 : Int32 × (Nat → Int32)), (∀ (H : Heap) (locs : List Loc) (ls : Array Slot), wP E [(a0, aI E n0 z1.2)] H → va_D A [(a0, aI E n0 z1.2)] → va_S A s.heap H locs → lv_has ls 6 [] → W p l e (wR 0) s m [.ref a0, .int p1, .ref a0, .int p3, .int p4].toArray below meth c H locs 0 0 (MQ below (QWd E A none [(a0, aI E n0 z)]) [.ref a0, .int p1, .ref a0, .int p3, .int p4].toArray s 0 0 A) (F0 m 28 ls [])) → ∀ (fu : Nat) (x5_3 : Int32) (ya0_f_3 : (Nat → Int32)), ∀ (H : Heap) (locs : List Loc) (ls : Array Slot), wP E [(a0, aI E n0 ya0_f_3)] H → va_D A [(a0, aI E n0 ya0_f_3)] → va_S A s.heap H locs → lv_has ls 6 [(0, .ref a0), (1, .int p1), (2, .ref a0), (3, .int p3), (4, .int p4), (5, .int x5_3)] → lp_X8_copies_s_3 n0 p1 p3 p4 fu x5_3 ya0_f_3 = some z1 → W p l e (wR 0) s m [.ref a0, .int p1, .ref a0, .int p3, .int p4].toArray below meth c H locs 0 0 (MQ below (QWd E A none [(a0, aI E n0 z)]) [.ref a0, .int p1, .ref a0, .int p3, .int p4].toArray s 0 0 A) (F0 m 3 ls []) := by
    intro z1 hk_3 fu
    induction fu with
    | zero => intro x5_3 ya0_f_3 H locs ls hP hD hS hl hsp; exact absurd (show none = some _ from hsp) (by simp)
    | succ fu ih_3 =>
      intro x5_3 ya0_f_3 H locs ls hP hD hS hl hsp
      have hsp : (if p4 ≤ x5_3 then (some (x5_3, ya0_f_3)) else (gi (p1 + x5_3) n0 (gi (p3 + x5_3) n0 (lp_X8_copies_s_3 n0 p1 p3 p4 fu (x5_3 + (1 : Int32)) (upd ya0_f_3 ((p3 + x5_3)).toNatClampNeg (ya0_f_3 ((p1 + x5_3)).toNatClampNeg)))))) = some z1 := hsp
      refine lv_iload hx hb dX8_copies_3 (lv_at hl 5 rfl) (W.pc 5 rfl ?_)
      refine lv_iload hx hb dX8_copies_5 (lv_at hl 4 rfl) (W.pc 7 rfl ?_)
      refine lv_icmp_ge (tgt := 28) hx hb dX8_copies_7 (by decide) (fun c2 => ?_) (fun c2 => W.pc 10 rfl ?_)
      · have hsp := ip hsp c2
        obtain rfl := Option.some.inj hsp
        exact hk_3 _ _ _ hP hD hS (lv_sub hl [] rfl)
      · have hsp := iq hsp c2
        refine lv_aload_n hx hb dX8_copies_10 rfl (lv_at hl 2 rfl) (W.pc 11 rfl ?_)
        refine lv_iload_n hx hb dX8_copies_11 rfl (lv_at hl 3 rfl) (W.pc 12 rfl ?_)
        refine lv_iload hx hb dX8_copies_12 (lv_at hl 5 rfl) (W.pc 14 rfl ?_)
        refine lv_iadd hx hb dX8_copies_14 (W.pc 15 rfl ?_)
        refine lv_aload_n hx hb dX8_copies_15 rfl (lv_at hl 0 rfl) (W.pc 16 rfl ?_)
        refine lv_iload_n hx hb dX8_copies_16 rfl (lv_at hl 1 rfl) (W.pc 17 rfl ?_)
        refine lv_iload hx hb dX8_copies_17 (lv_at hl 5 rfl) (W.pc 19 rfl ?_)
        refine lv_iadd hx hb dX8_copies_19 (W.pc 20 rfl ?_)
        obtain ⟨h3, hsp⟩ := gi_s hsp
        refine va_iald hx hb hK hP 0 0 rfl rfl h3 dX8_copies_20 (W.pc 21 rfl ?_)
        obtain ⟨h4, hsp⟩ := gi_s hsp
        refine va_iast hx hb hK hP hD hS 0 0 rfl rfl h4 dX8_copies_21 (fun H locs hP hD hS => W.pc 22 rfl ?_)
        have hP : wP E [(a0, aI E n0 (upd ya0_f_3 ((p3 + x5_3)).toNatClampNeg (ya0_f_3 ((p1 + x5_3)).toNatClampNeg)))] _ := hP
        have hD : va_D A [(a0, aI E n0 (upd ya0_f_3 ((p3 + x5_3)).toNatClampNeg (ya0_f_3 ((p1 + x5_3)).toNatClampNeg)))] := hD
        refine lv_iinc (v := (x5_3 + (1 : Int32))) (lv' := [(5, .int (x5_3 + (1 : Int32))), (0, .ref a0), (1, .int p1), (2, .ref a0), (3, .int p3), (4, .int p4)]) hx hb dX8_copies_22 hl (k := 5) rfl rfl (by decide) rfl (fun ls hl => W.pc 25 rfl ?_)
        refine lv_goto (tgt := 3) hx hb dX8_copies_25 (by decide) ?_
        exact ih_3 (x5_3 + (1 : Int32)) (upd ya0_f_3 ((p3 + x5_3)).toNatClampNeg (ya0_f_3 ((p1 + x5_3)).toNatClampNeg)) _ _ _ hP hD hS (lv_sub hl [1, 2, 3, 4, 5, 0] rfl) hsp
  obtain ⟨z1, hr_z1, hsp⟩ := bd_s hsp
  refine L_3 z1 (fun H locs ls hP hD hS hl => ?_) FU (0 : Int32) fa0 _ _ _ hP hD hS (lv_sub hl [1, 2, 3, 4, 5, 0] rfl) hr_z1
  obtain rfl := Option.some.inj hsp
  exact rWv hX hP hS rfl dX8_copies_28
def sp_X8_isKind (p0 : Int32) : Int32 := (sp_X8_in p0 (0 : Int32) (5 : Int32))
theorem bz_X8_isKind {p0 : Int32} : narrow .boolean (.int (sp_X8_isKind p0)) = .int (sp_X8_isKind p0) := by
  unfold sp_X8_isKind
  repeat' split
  all_goals first | rfl | apply bz_X8_in
set_option maxHeartbeats 4000000 in
set_option maxRecDepth 100000 in
theorem c_X8_isKind (l : Launch) (E : wE) (p0 : Int32) (z : Int32) (hsp : sp_X8_isKind p0 = z) : MR l yX8_isKind cX8_isKind 1 (some .boolean) 1 E [.int p0] [] (some (.int z)) := by
  refine MR.of (by decide +kernel) (Nat.le_of_ble_eq_true rfl) ?_
  intro p e s m below meth c ls hX hK hP hl
  have hX : CX p s m [.int p0].toArray meth c cX8_isKind 1 (some .boolean) RX8 := hX
  have hx := hX.1; have hb := hX.2.1; have hts := hX.2.2.2.2.1; have hown := hX.2.2.2.2.2.1
  have hl : lv_has ls 1 [(0, .int p0)] := hl
  have hsp : ((sp_X8_in p0 (0 : Int32) (5 : Int32))) = z := hsp
  refine lv_iload_n hx hb dX8_isKind_0 rfl (lv_at hl 0 rfl) (W.pc 1 rfl ?_)
  refine lv_iconst (v := (0 : Int32)) hx hb dX8_isKind_1 (by decide) (W.pc 2 rfl ?_)
  refine lv_iconst (v := (5 : Int32)) hx hb dX8_isKind_2 (by decide) (W.pc 3 rfl ?_)
  refine kSR (st1 := [.int (sp_X8_in p0 (0 : Int32) (5 : Int32))]) hX (c_X8_in l E p0 (0 : Int32) (5 : Int32) _ rfl) B_X8_in w_4_125 hK (hP.pick [] rfl) rfl hl.1 rfl (Nat.le_of_ble_eq_true rfl) ⟨Nat.le_of_ble_eq_true rfl, Nat.le_of_ble_eq_true rfl⟩ dX8_isKind_3 rfl (W.pc 6 rfl ?_)
  subst hsp
  exact rRz hX (by apply bz_X8_in) rfl dX8_isKind_6
def sp_X8_isTilt (p0 : Int32) : Int32 := (sp_X8_in p0 (-9 : Int32) (9 : Int32))
theorem bz_X8_isTilt {p0 : Int32} : narrow .boolean (.int (sp_X8_isTilt p0)) = .int (sp_X8_isTilt p0) := by
  unfold sp_X8_isTilt
  repeat' split
  all_goals first | rfl | apply bz_X8_in
set_option maxHeartbeats 4000000 in
set_option maxRecDepth 100000 in
theorem c_X8_isTilt (l : Launch) (E : wE) (p0 : Int32) (z : Int32) (hsp : sp_X8_isTilt p0 = z) : MR l yX8_isTilt cX8_isTilt 1 (some .boolean) 1 E [.int p0] [] (some (.int z)) := by
  refine MR.of (by decide +kernel) (Nat.le_of_ble_eq_true rfl) ?_
  intro p e s m below meth c ls hX hK hP hl
  have hX : CX p s m [.int p0].toArray meth c cX8_isTilt 1 (some .boolean) RX8 := hX
  have hx := hX.1; have hb := hX.2.1; have hts := hX.2.2.2.2.1; have hown := hX.2.2.2.2.2.1
  have hl : lv_has ls 1 [(0, .int p0)] := hl
  have hsp : ((sp_X8_in p0 (-9 : Int32) (9 : Int32))) = z := hsp
  refine lv_iload_n hx hb dX8_isTilt_0 rfl (lv_at hl 0 rfl) (W.pc 1 rfl ?_)
  refine lv_bipush (v := (-9 : Int32)) hx hb dX8_isTilt_1 (by decide) (W.pc 3 rfl ?_)
  refine lv_bipush (v := (9 : Int32)) hx hb dX8_isTilt_3 (by decide) (W.pc 5 rfl ?_)
  refine kSR (st1 := [.int (sp_X8_in p0 (-9 : Int32) (9 : Int32))]) hX (c_X8_in l E p0 (-9 : Int32) (9 : Int32) _ rfl) B_X8_in w_4_125 hK (hP.pick [] rfl) rfl hl.1 rfl (Nat.le_of_ble_eq_true rfl) ⟨Nat.le_of_ble_eq_true rfl, Nat.le_of_ble_eq_true rfl⟩ dX8_isTilt_5 rfl (W.pc 8 rfl ?_)
  subst hsp
  exact rRz hX (by apply bz_X8_in) rfl dX8_isTilt_8
def sp_X8_within (p0 : Int32) (p1 : Int32) : Int32 := if p0 ≤ p1 then (if (-p1) ≤ p0 then (p0) else ((-p1))) else (p1)
set_option maxHeartbeats 4000000 in
set_option maxRecDepth 100000 in
theorem c_X8_within (l : Launch) (E : wE) (p0 : Int32) (p1 : Int32) (z : Int32) (hsp : sp_X8_within p0 p1 = z) : MR l yX8_within cX8_within 2 (some .int) 0 E [.int p0, .int p1] [] (some (.int z)) := by
  refine MR.of (by decide +kernel) (Nat.le_of_ble_eq_true rfl) ?_
  intro p e s m below meth c ls hX hK hP hl
  have hX : CX p s m [.int p0, .int p1].toArray meth c cX8_within 2 (some .int) RX8 := hX
  have hx := hX.1; have hb := hX.2.1; have hts := hX.2.2.2.2.1; have hown := hX.2.2.2.2.2.1
  have hl : lv_has ls 2 [(0, .int p0), (1, .int p1)] := hl
  have hsp : (if p0 ≤ p1 then (if (-p1) ≤ p0 then (p0) else ((-p1))) else (p1)) = z := hsp
  refine lv_iload_n hx hb dX8_within_0 rfl (lv_at hl 0 rfl) (W.pc 1 rfl ?_)
  refine lv_iload_n hx hb dX8_within_1 rfl (lv_at hl 1 rfl) (W.pc 2 rfl ?_)
  refine lv_icmp_le (tgt := 9) hx hb dX8_within_2 (by decide) (fun c1 => ?_) (fun c1 => W.pc 5 rfl ?_)
  · have hsp := ip hsp c1
    refine lv_iload_n hx hb dX8_within_9 rfl (lv_at hl 0 rfl) (W.pc 10 rfl ?_)
    refine lv_iload_n hx hb dX8_within_10 rfl (lv_at hl 1 rfl) (W.pc 11 rfl ?_)
    refine lv_ineg hx hb dX8_within_11 (W.pc 12 rfl ?_)
    refine lv_icmp_ge (tgt := 20) hx hb dX8_within_12 (by decide) (fun c2 => ?_) (fun c2 => W.pc 15 rfl ?_)
    · have hsp := ip hsp c2
      refine lv_iload_n hx hb dX8_within_20 rfl (lv_at hl 0 rfl) (W.pc 21 rfl ?_)
      subst hsp
      exact rRi hX rfl dX8_within_21
    · have hsp := iq hsp c2
      refine lv_iload_n hx hb dX8_within_15 rfl (lv_at hl 1 rfl) (W.pc 16 rfl ?_)
      refine lv_ineg hx hb dX8_within_16 (W.pc 17 rfl ?_)
      refine lv_goto (tgt := 21) hx hb dX8_within_17 (by decide) ?_
      subst hsp
      exact rRi hX rfl dX8_within_21
  · have hsp := iq hsp c1
    refine lv_iload_n hx hb dX8_within_5 rfl (lv_at hl 1 rfl) (W.pc 6 rfl ?_)
    refine lv_goto (tgt := 21) hx hb dX8_within_6 (by decide) ?_
    subst hsp
    exact rRi hX rfl dX8_within_21
def sp_X8_size (p0 : Int32) : Int32 := if 0 ≤ p0 then (p0) else ((-p0))
set_option maxHeartbeats 4000000 in
set_option maxRecDepth 100000 in
theorem c_X8_size (l : Launch) (E : wE) (p0 : Int32) (z : Int32) (hsp : sp_X8_size p0 = z) : MR l yX8_size cX8_size 1 (some .int) 0 E [.int p0] [] (some (.int z)) := by
  refine MR.of (by decide +kernel) (Nat.le_of_ble_eq_true rfl) ?_
  intro p e s m below meth c ls hX hK hP hl
  have hX : CX p s m [.int p0].toArray meth c cX8_size 1 (some .int) RX8 := hX
  have hx := hX.1; have hb := hX.2.1; have hts := hX.2.2.2.2.1; have hown := hX.2.2.2.2.2.1
  have hl : lv_has ls 1 [(0, .int p0)] := hl
  have hsp : (if 0 ≤ p0 then (p0) else ((-p0))) = z := hsp
  refine lv_iload_n hx hb dX8_size_0 rfl (lv_at hl 0 rfl) (W.pc 1 rfl ?_)
  refine lv_if_ge (tgt := 9) hx hb dX8_size_1 (by decide) (fun c1 => ?_) (fun c1 => W.pc 4 rfl ?_)
  · have hsp := ip hsp c1
    refine lv_iload_n hx hb dX8_size_9 rfl (lv_at hl 0 rfl) (W.pc 10 rfl ?_)
    subst hsp
    exact rRi hX rfl dX8_size_10
  · have hsp := iq hsp c1
    refine lv_iload_n hx hb dX8_size_4 rfl (lv_at hl 0 rfl) (W.pc 5 rfl ?_)
    refine lv_ineg hx hb dX8_size_5 (W.pc 6 rfl ?_)
    refine lv_goto (tgt := 10) hx hb dX8_size_6 (by decide) ?_
    subst hsp
    exact rRi hX rfl dX8_size_10
def sp_X8_nearer (p0 : Int32) (p1 : Int32) : Int32 := if p1 ≤ p0 then (if p0 ≤ p1 then (p0) else ((p0 - (1 : Int32)))) else ((p0 + (1 : Int32)))
set_option maxHeartbeats 4000000 in
set_option maxRecDepth 100000 in
theorem c_X8_nearer (l : Launch) (E : wE) (p0 : Int32) (p1 : Int32) (z : Int32) (hsp : sp_X8_nearer p0 p1 = z) : MR l yX8_nearer cX8_nearer 2 (some .int) 0 E [.int p0, .int p1] [] (some (.int z)) := by
  refine MR.of (by decide +kernel) (Nat.le_of_ble_eq_true rfl) ?_
  intro p e s m below meth c ls hX hK hP hl
  have hX : CX p s m [.int p0, .int p1].toArray meth c cX8_nearer 2 (some .int) RX8 := hX
  have hx := hX.1; have hb := hX.2.1; have hts := hX.2.2.2.2.1; have hown := hX.2.2.2.2.2.1
  have hl : lv_has ls 2 [(0, .int p0), (1, .int p1)] := hl
  have hsp : (if p1 ≤ p0 then (if p0 ≤ p1 then (p0) else ((p0 - (1 : Int32)))) else ((p0 + (1 : Int32)))) = z := hsp
  refine lv_iload_n hx hb dX8_nearer_0 rfl (lv_at hl 0 rfl) (W.pc 1 rfl ?_)
  refine lv_iload_n hx hb dX8_nearer_1 rfl (lv_at hl 1 rfl) (W.pc 2 rfl ?_)
  refine lv_icmp_ge (tgt := 11) hx hb dX8_nearer_2 (by decide) (fun c1 => ?_) (fun c1 => W.pc 5 rfl ?_)
  · have hsp := ip hsp c1
    refine lv_iload_n hx hb dX8_nearer_11 rfl (lv_at hl 0 rfl) (W.pc 12 rfl ?_)
    refine lv_iload_n hx hb dX8_nearer_12 rfl (lv_at hl 1 rfl) (W.pc 13 rfl ?_)
    refine lv_icmp_le (tgt := 22) hx hb dX8_nearer_13 (by decide) (fun c2 => ?_) (fun c2 => W.pc 16 rfl ?_)
    · have hsp := ip hsp c2
      refine lv_iload_n hx hb dX8_nearer_22 rfl (lv_at hl 0 rfl) (W.pc 23 rfl ?_)
      subst hsp
      exact rRi hX rfl dX8_nearer_23
    · have hsp := iq hsp c2
      refine lv_iload_n hx hb dX8_nearer_16 rfl (lv_at hl 0 rfl) (W.pc 17 rfl ?_)
      refine lv_iconst (v := (1 : Int32)) hx hb dX8_nearer_17 (by decide) (W.pc 18 rfl ?_)
      refine lv_isub hx hb dX8_nearer_18 (W.pc 19 rfl ?_)
      refine lv_goto (tgt := 23) hx hb dX8_nearer_19 (by decide) ?_
      subst hsp
      exact rRi hX rfl dX8_nearer_23
  · have hsp := iq hsp c1
    refine lv_iload_n hx hb dX8_nearer_5 rfl (lv_at hl 0 rfl) (W.pc 6 rfl ?_)
    refine lv_iconst (v := (1 : Int32)) hx hb dX8_nearer_6 (by decide) (W.pc 7 rfl ?_)
    refine lv_iadd hx hb dX8_nearer_7 (W.pc 8 rfl ?_)
    refine lv_goto (tgt := 23) hx hb dX8_nearer_8 (by decide) ?_
    subst hsp
    exact rRi hX rfl dX8_nearer_23
def sp_X8_behind (p0 : Int32) (p1 : Int32) (p2 : Int32) (p3 : Int32) : Int32 := lt_ (if (p3 - p3 / (2 : Int32) * (2 : Int32)) = 0 then ((p1 + (1 : Int32))) else (p1)) fun z1 => if p0 = (1 : Int32) then ((sp_X8_within z1 (9 : Int32))) else (if p0 = (2 : Int32) then ((sp_X8_nearer p1 p2)) else (if p0 = (3 : Int32) then ((sp_X8_nearer (sp_X8_nearer p1 p2) p2)) else (if p0 = (4 : Int32) then (lt_ (if (p3 - p3 / (2 : Int32) * (2 : Int32)) = (1 : Int32) then (((sp_X8_nearer (sp_X8_nearer p1 p2) p2) + (1 : Int32))) else (((sp_X8_nearer (sp_X8_nearer p1 p2) p2) - (1 : Int32)))) fun z8 => (sp_X8_within z8 (9 : Int32))) else (if p0 = (5 : Int32) then ((sp_X8_within (sp_X8_within z1 (9 : Int32)) (3 : Int32))) else ((p1))))))
set_option maxHeartbeats 4000000 in
set_option maxRecDepth 100000 in
theorem c_X8_behind (l : Launch) (E : wE) (p0 : Int32) (p1 : Int32) (p2 : Int32) (p3 : Int32) (z : Int32) (hsp : sp_X8_behind p0 p1 p2 p3 = z) : MR l yX8_behind cX8_behind 6 (some .int) 1 E [.int p0, .int p1, .int p2, .int p3] [] (some (.int z)) := by
  refine MR.of (by decide +kernel) (Nat.le_of_ble_eq_true rfl) ?_
  intro p e s m below meth c ls hX hK hP hl
  have hX : CX p s m [.int p0, .int p1, .int p2, .int p3].toArray meth c cX8_behind 6 (some .int) RX8 := hX
  have hx := hX.1; have hb := hX.2.1; have hts := hX.2.2.2.2.1; have hown := hX.2.2.2.2.2.1
  have hl : lv_has ls 6 [(0, .int p0), (1, .int p1), (2, .int p2), (3, .int p3)] := hl
  have hsp : (lt_ (if (p3 - p3 / (2 : Int32) * (2 : Int32)) = 0 then ((p1 + (1 : Int32))) else (p1)) fun z1 => if p0 = (1 : Int32) then ((sp_X8_within z1 (9 : Int32))) else (if p0 = (2 : Int32) then ((sp_X8_nearer p1 p2)) else (if p0 = (3 : Int32) then ((sp_X8_nearer (sp_X8_nearer p1 p2) p2)) else (if p0 = (4 : Int32) then (lt_ (if (p3 - p3 / (2 : Int32) * (2 : Int32)) = (1 : Int32) then (((sp_X8_nearer (sp_X8_nearer p1 p2) p2) + (1 : Int32))) else (((sp_X8_nearer (sp_X8_nearer p1 p2) p2) - (1 : Int32)))) fun z8 => (sp_X8_within z8 (9 : Int32))) else (if p0 = (5 : Int32) then ((sp_X8_within (sp_X8_within z1 (9 : Int32)) (3 : Int32))) else ((p1))))))) = z := hsp
  refine lv_iload_n hx hb dX8_behind_0 rfl (lv_at hl 3 rfl) (W.pc 1 rfl ?_)
  refine lv_iconst (v := (2 : Int32)) hx hb dX8_behind_1 (by decide) (W.pc 2 rfl ?_)
  refine lv_irem hx hb dX8_behind_2 (by decide) (W.pc 3 rfl ?_)
  obtain ⟨z1, hr_z1, hsp⟩ := ltb_s hsp
  have J2 : ∀ (ls : Array Slot), lv_has ls 6 [(0, .int p0), (1, .int p1), (2, .int p2), (3, .int p3)] → W p l e (wR 1) s m [.int p0, .int p1, .int p2, .int p3].toArray below meth c s.heap [] 0 0 (MQ below (QRd E (some (.int z))) [.int p0, .int p1, .int p2, .int p3].toArray s 0 0 (fun _ => False)) (F0 m 13 ls [.int z1]) := by
    intro ls hl
    refine lv_bipush (v := (9 : Int32)) hx hb dX8_behind_13 (by decide) (W.pc 15 rfl ?_)
    refine kSR (st1 := [.int (sp_X8_within z1 (9 : Int32))]) hX (c_X8_within l E z1 (9 : Int32) _ rfl) B_X8_within w_4_224 hK (hP.pick [] rfl) rfl hl.1 rfl (Nat.le_of_ble_eq_true rfl) ⟨Nat.le_of_ble_eq_true rfl, Nat.le_of_ble_eq_true rfl⟩ dX8_behind_15 rfl (W.pc 18 rfl ?_)
    refine lv_istore (lv' := [(4, .int (sp_X8_within z1 (9 : Int32))), (0, .int p0), (1, .int p1), (2, .int p2), (3, .int p3)]) hx hb dX8_behind_18 hl (by decide) rfl (fun ls hl => W.pc 20 rfl ?_)
    refine lv_iload_n hx hb dX8_behind_20 rfl (lv_at hl 2 rfl) (W.pc 21 rfl ?_)
    refine lv_iload_n hx hb dX8_behind_21 rfl (lv_at hl 3 rfl) (W.pc 22 rfl ?_)
    refine kSR (st1 := [.int (sp_X8_nearer p1 p2)]) hX (c_X8_nearer l E p1 p2 _ rfl) B_X8_nearer w_4_227 hK (hP.pick [] rfl) rfl hl.1 rfl (Nat.le_of_ble_eq_true rfl) ⟨Nat.le_of_ble_eq_true rfl, Nat.le_of_ble_eq_true rfl⟩ dX8_behind_22 rfl (W.pc 25 rfl ?_)
    refine lv_iload_n hx hb dX8_behind_25 rfl (lv_at hl 3 rfl) (W.pc 26 rfl ?_)
    refine kSR (st1 := [.int (sp_X8_nearer (sp_X8_nearer p1 p2) p2)]) hX (c_X8_nearer l E (sp_X8_nearer p1 p2) p2 _ rfl) B_X8_nearer w_4_227 hK (hP.pick [] rfl) rfl hl.1 rfl (Nat.le_of_ble_eq_true rfl) ⟨Nat.le_of_ble_eq_true rfl, Nat.le_of_ble_eq_true rfl⟩ dX8_behind_26 rfl (W.pc 29 rfl ?_)
    refine lv_istore (lv' := [(5, .int (sp_X8_nearer (sp_X8_nearer p1 p2) p2)), (4, .int (sp_X8_within z1 (9 : Int32))), (0, .int p0), (1, .int p1), (2, .int p2), (3, .int p3)]) hx hb dX8_behind_29 hl (by decide) rfl (fun ls hl => W.pc 31 rfl ?_)
    refine lv_iload_n hx hb dX8_behind_31 rfl (lv_at hl 2 rfl) (W.pc 32 rfl ?_)
    by_cases c4 : p0 = (1 : Int32)
    · have hsp := ip hsp c4
      refine lv_tableIn (off := 36) (tgt := 68) hx hb dX8_behind_32 (by rw [c4]; decide) (by rw [c4]; decide) (by rw [c4]; rfl) (by decide) ?_
      refine lv_iload hx hb dX8_behind_68 (lv_at hl 1 rfl) (W.pc 70 rfl ?_)
      subst hsp
      exact rRi hX rfl dX8_behind_70
    · have hsp := iq hsp c4
      by_cases c5 : p0 = (2 : Int32)
      · have hsp := ip hsp c5
        refine lv_tableIn (off := 39) (tgt := 71) hx hb dX8_behind_32 (by rw [c5]; decide) (by rw [c5]; decide) (by rw [c5]; rfl) (by decide) ?_
        refine lv_iload_n hx hb dX8_behind_71 rfl (lv_at hl 3 rfl) (W.pc 72 rfl ?_)
        refine lv_iload_n hx hb dX8_behind_72 rfl (lv_at hl 4 rfl) (W.pc 73 rfl ?_)
        refine kSR (st1 := [.int (sp_X8_nearer p1 p2)]) hX (c_X8_nearer l E p1 p2 _ rfl) B_X8_nearer w_4_227 hK (hP.pick [] rfl) rfl hl.1 rfl (Nat.le_of_ble_eq_true rfl) ⟨Nat.le_of_ble_eq_true rfl, Nat.le_of_ble_eq_true rfl⟩ dX8_behind_73 rfl (W.pc 76 rfl ?_)
        subst hsp
        exact rRi hX rfl dX8_behind_76
      · have hsp := iq hsp c5
        by_cases c6 : p0 = (3 : Int32)
        · have hsp := ip hsp c6
          refine lv_tableIn (off := 45) (tgt := 77) hx hb dX8_behind_32 (by rw [c6]; decide) (by rw [c6]; decide) (by rw [c6]; rfl) (by decide) ?_
          refine lv_iload hx hb dX8_behind_77 (lv_at hl 0 rfl) (W.pc 79 rfl ?_)
          subst hsp
          exact rRi hX rfl dX8_behind_79
        · have hsp := iq hsp c6
          by_cases c7 : p0 = (4 : Int32)
          · have hsp := ip hsp c7
            refine lv_tableIn (off := 48) (tgt := 80) hx hb dX8_behind_32 (by rw [c7]; decide) (by rw [c7]; decide) (by rw [c7]; rfl) (by decide) ?_
            refine lv_iload_n hx hb dX8_behind_80 rfl (lv_at hl 5 rfl) (W.pc 81 rfl ?_)
            refine lv_iconst (v := (2 : Int32)) hx hb dX8_behind_81 (by decide) (W.pc 82 rfl ?_)
            refine lv_irem hx hb dX8_behind_82 (by decide) (W.pc 83 rfl ?_)
            refine lv_iconst (v := (1 : Int32)) hx hb dX8_behind_83 (by decide) (W.pc 84 rfl ?_)
            obtain ⟨z8, hr_z8, hsp⟩ := ltb_s hsp
            have J9 : ∀ (ls : Array Slot), lv_has ls 6 [] → W p l e (wR 1) s m [.int p0, .int p1, .int p2, .int p3].toArray below meth c s.heap [] 0 0 (MQ below (QRd E (some (.int z))) [.int p0, .int p1, .int p2, .int p3].toArray s 0 0 (fun _ => False)) (F0 m 98 ls [.int z8]) := by
              intro ls hl
              refine lv_bipush (v := (9 : Int32)) hx hb dX8_behind_98 (by decide) (W.pc 100 rfl ?_)
              refine kSR (st1 := [.int (sp_X8_within z8 (9 : Int32))]) hX (c_X8_within l E z8 (9 : Int32) _ rfl) B_X8_within w_4_224 hK (hP.pick [] rfl) rfl hl.1 rfl (Nat.le_of_ble_eq_true rfl) ⟨Nat.le_of_ble_eq_true rfl, Nat.le_of_ble_eq_true rfl⟩ dX8_behind_100 rfl (W.pc 103 rfl ?_)
              subst hsp
              exact rRi hX rfl dX8_behind_103
            replace hsp := hr_z8
            refine lv_icmp_ne (tgt := 94) hx hb dX8_behind_84 (by decide) (fun c10 => ?_) (fun c10 => W.pc 87 rfl ?_)
            · have hsp := iq hsp c10
              refine lv_iload hx hb dX8_behind_94 (lv_at hl 0 rfl) (W.pc 96 rfl ?_)
              refine lv_iconst (v := (1 : Int32)) hx hb dX8_behind_96 (by decide) (W.pc 97 rfl ?_)
              refine lv_isub hx hb dX8_behind_97 (W.pc 98 rfl ?_)
              subst hsp
              exact J9 _ (lv_sub hl [] rfl)
            · have hsp := ip hsp c10
              refine lv_iload hx hb dX8_behind_87 (lv_at hl 0 rfl) (W.pc 89 rfl ?_)
              refine lv_iconst (v := (1 : Int32)) hx hb dX8_behind_89 (by decide) (W.pc 90 rfl ?_)
              refine lv_iadd hx hb dX8_behind_90 (W.pc 91 rfl ?_)
              refine lv_goto (tgt := 98) hx hb dX8_behind_91 (by decide) ?_
              subst hsp
              exact J9 _ (lv_sub hl [] rfl)
          · have hsp := iq hsp c7
            by_cases c11 : p0 = (5 : Int32)
            · have hsp := ip hsp c11
              refine lv_tableIn (off := 72) (tgt := 104) hx hb dX8_behind_32 (by rw [c11]; decide) (by rw [c11]; decide) (by rw [c11]; rfl) (by decide) ?_
              refine lv_iload hx hb dX8_behind_104 (lv_at hl 1 rfl) (W.pc 106 rfl ?_)
              refine lv_iconst (v := (3 : Int32)) hx hb dX8_behind_106 (by decide) (W.pc 107 rfl ?_)
              refine kSR (st1 := [.int (sp_X8_within (sp_X8_within z1 (9 : Int32)) (3 : Int32))]) hX (c_X8_within l E (sp_X8_within z1 (9 : Int32)) (3 : Int32) _ rfl) B_X8_within w_4_224 hK (hP.pick [] rfl) rfl hl.1 rfl (Nat.le_of_ble_eq_true rfl) ⟨Nat.le_of_ble_eq_true rfl, Nat.le_of_ble_eq_true rfl⟩ dX8_behind_107 rfl (W.pc 110 rfl ?_)
              subst hsp
              exact rRi hX rfl dX8_behind_110
            · have hsp := iq hsp c11
              refine lv_tableOut (tgt := 111) hx hb dX8_behind_32 (by have := lv_neT c4 (a := 1) rfl; have := lv_neT c5 (a := 2) rfl; have := lv_neT c6 (a := 3) rfl; have := lv_neT c7 (a := 4) rfl; have := lv_neT c11 (a := 5) rfl;  omega) (by decide) ?_
              refine lv_iload_n hx hb dX8_behind_111 rfl (lv_at hl 3 rfl) (W.pc 112 rfl ?_)
              subst hsp
              exact rRi hX rfl dX8_behind_112
  replace hsp := hr_z1
  refine lv_if_ne (tgt := 12) hx hb dX8_behind_3 (by decide) (fun c3 => ?_) (fun c3 => W.pc 6 rfl ?_)
  · have hsp := iq hsp c3
    refine lv_iload_n hx hb dX8_behind_12 rfl (lv_at hl 1 rfl) (W.pc 13 rfl ?_)
    subst hsp
    exact J2 _ (lv_sub hl [0, 1, 2, 3] rfl)
  · have hsp := ip hsp c3
    refine lv_iload_n hx hb dX8_behind_6 rfl (lv_at hl 1 rfl) (W.pc 7 rfl ?_)
    refine lv_iconst (v := (1 : Int32)) hx hb dX8_behind_7 (by decide) (W.pc 8 rfl ?_)
    refine lv_iadd hx hb dX8_behind_8 (W.pc 9 rfl ?_)
    refine lv_goto (tgt := 13) hx hb dX8_behind_9 (by decide) ?_
    subst hsp
    exact J2 _ (lv_sub hl [0, 1, 2, 3] rfl)
def sp_X8_stands (p0 : Int32) (p1 : Int32) (p2 : Int32) (p3 : Int32) : Int32 := if p0 = (1 : Int32) then (if (3 : Int32) ≤ (sp_X8_size (p1 - p2)) then ((0 : Int32)) else (if (9 : Int32) ≤ p3 then ((0 : Int32)) else ((1 : Int32)))) else (if p0 = (2 : Int32) then (if (2 : Int32) ≤ (sp_X8_size (p1 - p2)) then ((0 : Int32)) else ((1 : Int32))) else (if p0 = (3 : Int32) then (if (4 : Int32) ≤ p3 then ((0 : Int32)) else ((1 : Int32))) else (if p0 = (4 : Int32) then (if (2 : Int32) ≤ (sp_X8_size (p1 - p2)) then ((0 : Int32)) else (if (6 : Int32) ≤ p3 then ((0 : Int32)) else ((1 : Int32)))) else (if p0 = (5 : Int32) then (if (4 : Int32) ≤ p3 then ((0 : Int32)) else (if (7 : Int32) ≤ (sp_X8_size p1) then ((0 : Int32)) else ((1 : Int32)))) else ((if (3 : Int32) ≤ (sp_X8_size (p1 - p2)) then ((0 : Int32)) else ((1 : Int32))))))))
theorem bz_X8_stands {p0 : Int32} {p1 : Int32} {p2 : Int32} {p3 : Int32} : narrow .boolean (.int (sp_X8_stands p0 p1 p2 p3)) = .int (sp_X8_stands p0 p1 p2 p3) := by
  unfold sp_X8_stands
  repeat' split
  all_goals first | rfl 
set_option maxHeartbeats 4000000 in
set_option maxRecDepth 100000 in
theorem c_X8_stands (l : Launch) (E : wE) (p0 : Int32) (p1 : Int32) (p2 : Int32) (p3 : Int32) (z : Int32) (hsp : sp_X8_stands p0 p1 p2 p3 = z) : MR l yX8_stands cX8_stands 5 (some .boolean) 1 E [.int p0, .int p1, .int p2, .int p3] [] (some (.int z)) := by
  refine MR.of (by decide +kernel) (Nat.le_of_ble_eq_true rfl) ?_
  intro p e s m below meth c ls hX hK hP hl
  have hX : CX p s m [.int p0, .int p1, .int p2, .int p3].toArray meth c cX8_stands 5 (some .boolean) RX8 := hX
  have hx := hX.1; have hb := hX.2.1; have hts := hX.2.2.2.2.1; have hown := hX.2.2.2.2.2.1
  have hl : lv_has ls 5 [(0, .int p0), (1, .int p1), (2, .int p2), (3, .int p3)] := hl
  have hsp : (if p0 = (1 : Int32) then (if (3 : Int32) ≤ (sp_X8_size (p1 - p2)) then ((0 : Int32)) else (if (9 : Int32) ≤ p3 then ((0 : Int32)) else ((1 : Int32)))) else (if p0 = (2 : Int32) then (if (2 : Int32) ≤ (sp_X8_size (p1 - p2)) then ((0 : Int32)) else ((1 : Int32))) else (if p0 = (3 : Int32) then (if (4 : Int32) ≤ p3 then ((0 : Int32)) else ((1 : Int32))) else (if p0 = (4 : Int32) then (if (2 : Int32) ≤ (sp_X8_size (p1 - p2)) then ((0 : Int32)) else (if (6 : Int32) ≤ p3 then ((0 : Int32)) else ((1 : Int32)))) else (if p0 = (5 : Int32) then (if (4 : Int32) ≤ p3 then ((0 : Int32)) else (if (7 : Int32) ≤ (sp_X8_size p1) then ((0 : Int32)) else ((1 : Int32)))) else ((if (3 : Int32) ≤ (sp_X8_size (p1 - p2)) then ((0 : Int32)) else ((1 : Int32))))))))) = z := hsp
  refine lv_iload_n hx hb dX8_stands_0 rfl (lv_at hl 1 rfl) (W.pc 1 rfl ?_)
  refine lv_iload_n hx hb dX8_stands_1 rfl (lv_at hl 2 rfl) (W.pc 2 rfl ?_)
  refine lv_isub hx hb dX8_stands_2 (W.pc 3 rfl ?_)
  refine kSR (st1 := [.int (sp_X8_size (p1 - p2))]) hX (c_X8_size l E (p1 - p2) _ rfl) B_X8_size w_5_12 hK (hP.pick [] rfl) rfl hl.1 rfl (Nat.le_of_ble_eq_true rfl) ⟨Nat.le_of_ble_eq_true rfl, Nat.le_of_ble_eq_true rfl⟩ dX8_stands_3 rfl (W.pc 6 rfl ?_)
  refine lv_istore (lv' := [(4, .int (sp_X8_size (p1 - p2))), (0, .int p0), (1, .int p1), (2, .int p2), (3, .int p3)]) hx hb dX8_stands_6 hl (by decide) rfl (fun ls hl => W.pc 8 rfl ?_)
  refine lv_iload_n hx hb dX8_stands_8 rfl (lv_at hl 1 rfl) (W.pc 9 rfl ?_)
  by_cases c1 : p0 = (1 : Int32)
  · have hsp := ip hsp c1
    refine lv_tableIn (off := 35) (tgt := 44) hx hb dX8_stands_9 (by rw [c1]; decide) (by rw [c1]; decide) (by rw [c1]; rfl) (by decide) ?_
    refine lv_iload hx hb dX8_stands_44 (lv_at hl 0 rfl) (W.pc 46 rfl ?_)
    refine lv_iconst (v := (3 : Int32)) hx hb dX8_stands_46 (by decide) (W.pc 47 rfl ?_)
    refine lv_icmp_ge (tgt := 60) hx hb dX8_stands_47 (by decide) (fun c2 => ?_) (fun c2 => W.pc 50 rfl ?_)
    · have hsp := ip hsp c2
      refine lv_iconst (v := (0 : Int32)) hx hb dX8_stands_60 (by decide) (W.pc 61 rfl ?_)
      subst hsp
      exact rRz hX rfl rfl dX8_stands_61
    · have hsp := iq hsp c2
      refine lv_iload_n hx hb dX8_stands_50 rfl (lv_at hl 4 rfl) (W.pc 51 rfl ?_)
      refine lv_bipush (v := (9 : Int32)) hx hb dX8_stands_51 (by decide) (W.pc 53 rfl ?_)
      refine lv_icmp_ge (tgt := 60) hx hb dX8_stands_53 (by decide) (fun c3 => ?_) (fun c3 => W.pc 56 rfl ?_)
      · have hsp := ip hsp c3
        refine lv_iconst (v := (0 : Int32)) hx hb dX8_stands_60 (by decide) (W.pc 61 rfl ?_)
        subst hsp
        exact rRz hX rfl rfl dX8_stands_61
      · have hsp := iq hsp c3
        refine lv_iconst (v := (1 : Int32)) hx hb dX8_stands_56 (by decide) (W.pc 57 rfl ?_)
        refine lv_goto (tgt := 61) hx hb dX8_stands_57 (by decide) ?_
        subst hsp
        exact rRz hX rfl rfl dX8_stands_61
  · have hsp := iq hsp c1
    by_cases c4 : p0 = (2 : Int32)
    · have hsp := ip hsp c4
      refine lv_tableIn (off := 53) (tgt := 62) hx hb dX8_stands_9 (by rw [c4]; decide) (by rw [c4]; decide) (by rw [c4]; rfl) (by decide) ?_
      refine lv_iload hx hb dX8_stands_62 (lv_at hl 0 rfl) (W.pc 64 rfl ?_)
      refine lv_iconst (v := (2 : Int32)) hx hb dX8_stands_64 (by decide) (W.pc 65 rfl ?_)
      refine lv_icmp_ge (tgt := 72) hx hb dX8_stands_65 (by decide) (fun c5 => ?_) (fun c5 => W.pc 68 rfl ?_)
      · have hsp := ip hsp c5
        refine lv_iconst (v := (0 : Int32)) hx hb dX8_stands_72 (by decide) (W.pc 73 rfl ?_)
        subst hsp
        exact rRz hX rfl rfl dX8_stands_73
      · have hsp := iq hsp c5
        refine lv_iconst (v := (1 : Int32)) hx hb dX8_stands_68 (by decide) (W.pc 69 rfl ?_)
        refine lv_goto (tgt := 73) hx hb dX8_stands_69 (by decide) ?_
        subst hsp
        exact rRz hX rfl rfl dX8_stands_73
    · have hsp := iq hsp c4
      by_cases c6 : p0 = (3 : Int32)
      · have hsp := ip hsp c6
        refine lv_tableIn (off := 65) (tgt := 74) hx hb dX8_stands_9 (by rw [c6]; decide) (by rw [c6]; decide) (by rw [c6]; rfl) (by decide) ?_
        refine lv_iload_n hx hb dX8_stands_74 rfl (lv_at hl 4 rfl) (W.pc 75 rfl ?_)
        refine lv_iconst (v := (4 : Int32)) hx hb dX8_stands_75 (by decide) (W.pc 76 rfl ?_)
        refine lv_icmp_ge (tgt := 83) hx hb dX8_stands_76 (by decide) (fun c7 => ?_) (fun c7 => W.pc 79 rfl ?_)
        · have hsp := ip hsp c7
          refine lv_iconst (v := (0 : Int32)) hx hb dX8_stands_83 (by decide) (W.pc 84 rfl ?_)
          subst hsp
          exact rRz hX rfl rfl dX8_stands_84
        · have hsp := iq hsp c7
          refine lv_iconst (v := (1 : Int32)) hx hb dX8_stands_79 (by decide) (W.pc 80 rfl ?_)
          refine lv_goto (tgt := 84) hx hb dX8_stands_80 (by decide) ?_
          subst hsp
          exact rRz hX rfl rfl dX8_stands_84
      · have hsp := iq hsp c6
        by_cases c8 : p0 = (4 : Int32)
        · have hsp := ip hsp c8
          refine lv_tableIn (off := 76) (tgt := 85) hx hb dX8_stands_9 (by rw [c8]; decide) (by rw [c8]; decide) (by rw [c8]; rfl) (by decide) ?_
          refine lv_iload hx hb dX8_stands_85 (lv_at hl 0 rfl) (W.pc 87 rfl ?_)
          refine lv_iconst (v := (2 : Int32)) hx hb dX8_stands_87 (by decide) (W.pc 88 rfl ?_)
          refine lv_icmp_ge (tgt := 101) hx hb dX8_stands_88 (by decide) (fun c9 => ?_) (fun c9 => W.pc 91 rfl ?_)
          · have hsp := ip hsp c9
            refine lv_iconst (v := (0 : Int32)) hx hb dX8_stands_101 (by decide) (W.pc 102 rfl ?_)
            subst hsp
            exact rRz hX rfl rfl dX8_stands_102
          · have hsp := iq hsp c9
            refine lv_iload_n hx hb dX8_stands_91 rfl (lv_at hl 4 rfl) (W.pc 92 rfl ?_)
            refine lv_bipush (v := (6 : Int32)) hx hb dX8_stands_92 (by decide) (W.pc 94 rfl ?_)
            refine lv_icmp_ge (tgt := 101) hx hb dX8_stands_94 (by decide) (fun c10 => ?_) (fun c10 => W.pc 97 rfl ?_)
            · have hsp := ip hsp c10
              refine lv_iconst (v := (0 : Int32)) hx hb dX8_stands_101 (by decide) (W.pc 102 rfl ?_)
              subst hsp
              exact rRz hX rfl rfl dX8_stands_102
            · have hsp := iq hsp c10
              refine lv_iconst (v := (1 : Int32)) hx hb dX8_stands_97 (by decide) (W.pc 98 rfl ?_)
              refine lv_goto (tgt := 102) hx hb dX8_stands_98 (by decide) ?_
              subst hsp
              exact rRz hX rfl rfl dX8_stands_102
        · have hsp := iq hsp c8
          by_cases c11 : p0 = (5 : Int32)
          · have hsp := ip hsp c11
            refine lv_tableIn (off := 94) (tgt := 103) hx hb dX8_stands_9 (by rw [c11]; decide) (by rw [c11]; decide) (by rw [c11]; rfl) (by decide) ?_
            refine lv_iload_n hx hb dX8_stands_103 rfl (lv_at hl 4 rfl) (W.pc 104 rfl ?_)
            refine lv_iconst (v := (4 : Int32)) hx hb dX8_stands_104 (by decide) (W.pc 105 rfl ?_)
            refine lv_icmp_ge (tgt := 121) hx hb dX8_stands_105 (by decide) (fun c12 => ?_) (fun c12 => W.pc 108 rfl ?_)
            · have hsp := ip hsp c12
              refine lv_iconst (v := (0 : Int32)) hx hb dX8_stands_121 (by decide) (W.pc 122 rfl ?_)
              subst hsp
              exact rRz hX rfl rfl dX8_stands_122
            · have hsp := iq hsp c12
              refine lv_iload_n hx hb dX8_stands_108 rfl (lv_at hl 2 rfl) (W.pc 109 rfl ?_)
              refine kSR (st1 := [.int (sp_X8_size p1)]) hX (c_X8_size l E p1 _ rfl) B_X8_size w_5_12 hK (hP.pick [] rfl) rfl hl.1 rfl (Nat.le_of_ble_eq_true rfl) ⟨Nat.le_of_ble_eq_true rfl, Nat.le_of_ble_eq_true rfl⟩ dX8_stands_109 rfl (W.pc 112 rfl ?_)
              refine lv_bipush (v := (7 : Int32)) hx hb dX8_stands_112 (by decide) (W.pc 114 rfl ?_)
              refine lv_icmp_ge (tgt := 121) hx hb dX8_stands_114 (by decide) (fun c13 => ?_) (fun c13 => W.pc 117 rfl ?_)
              · have hsp := ip hsp c13
                refine lv_iconst (v := (0 : Int32)) hx hb dX8_stands_121 (by decide) (W.pc 122 rfl ?_)
                subst hsp
                exact rRz hX rfl rfl dX8_stands_122
              · have hsp := iq hsp c13
                refine lv_iconst (v := (1 : Int32)) hx hb dX8_stands_117 (by decide) (W.pc 118 rfl ?_)
                refine lv_goto (tgt := 122) hx hb dX8_stands_118 (by decide) ?_
                subst hsp
                exact rRz hX rfl rfl dX8_stands_122
          · have hsp := iq hsp c11
            refine lv_tableOut (tgt := 123) hx hb dX8_stands_9 (by have := lv_neT c1 (a := 1) rfl; have := lv_neT c4 (a := 2) rfl; have := lv_neT c6 (a := 3) rfl; have := lv_neT c8 (a := 4) rfl; have := lv_neT c11 (a := 5) rfl;  omega) (by decide) ?_
            refine lv_iload hx hb dX8_stands_123 (lv_at hl 0 rfl) (W.pc 125 rfl ?_)
            refine lv_iconst (v := (3 : Int32)) hx hb dX8_stands_125 (by decide) (W.pc 126 rfl ?_)
            refine lv_icmp_ge (tgt := 133) hx hb dX8_stands_126 (by decide) (fun c14 => ?_) (fun c14 => W.pc 129 rfl ?_)
            · have hsp := ip hsp c14
              refine lv_iconst (v := (0 : Int32)) hx hb dX8_stands_133 (by decide) (W.pc 134 rfl ?_)
              subst hsp
              exact rRz hX rfl rfl dX8_stands_134
            · have hsp := iq hsp c14
              refine lv_iconst (v := (1 : Int32)) hx hb dX8_stands_129 (by decide) (W.pc 130 rfl ?_)
              refine lv_goto (tgt := 134) hx hb dX8_stands_130 (by decide) ?_
              subst hsp
              exact rRz hX rfl rfl dX8_stands_134
def sp_X8_heavy (p0 : Int32) : Int32 := if p0 = (1 : Int32) then ((3 : Int32)) else (if p0 = (2 : Int32) then ((4 : Int32)) else (if p0 = (3 : Int32) then ((1 : Int32)) else (if p0 = (4 : Int32) then ((5 : Int32)) else (if p0 = (5 : Int32) then ((1 : Int32)) else (((2 : Int32)))))))
set_option maxHeartbeats 4000000 in
set_option maxRecDepth 100000 in
theorem c_X8_heavy (l : Launch) (E : wE) (p0 : Int32) (z : Int32) (hsp : sp_X8_heavy p0 = z) : MR l yX8_heavy cX8_heavy 1 (some .int) 0 E [.int p0] [] (some (.int z)) := by
  refine MR.of (by decide +kernel) (Nat.le_of_ble_eq_true rfl) ?_
  intro p e s m below meth c ls hX hK hP hl
  have hX : CX p s m [.int p0].toArray meth c cX8_heavy 1 (some .int) RX8 := hX
  have hx := hX.1; have hb := hX.2.1; have hts := hX.2.2.2.2.1; have hown := hX.2.2.2.2.2.1
  have hl : lv_has ls 1 [(0, .int p0)] := hl
  have hsp : (if p0 = (1 : Int32) then ((3 : Int32)) else (if p0 = (2 : Int32) then ((4 : Int32)) else (if p0 = (3 : Int32) then ((1 : Int32)) else (if p0 = (4 : Int32) then ((5 : Int32)) else (if p0 = (5 : Int32) then ((1 : Int32)) else (((2 : Int32)))))))) = z := hsp
  refine lv_iload_n hx hb dX8_heavy_0 rfl (lv_at hl 0 rfl) (W.pc 1 rfl ?_)
  by_cases c1 : p0 = (1 : Int32)
  · have hsp := ip hsp c1
    refine lv_tableIn (off := 35) (tgt := 36) hx hb dX8_heavy_1 (by rw [c1]; decide) (by rw [c1]; decide) (by rw [c1]; rfl) (by decide) ?_
    refine lv_iconst (v := (3 : Int32)) hx hb dX8_heavy_36 (by decide) (W.pc 37 rfl ?_)
    subst hsp
    exact rRi hX rfl dX8_heavy_37
  · have hsp := iq hsp c1
    by_cases c2 : p0 = (2 : Int32)
    · have hsp := ip hsp c2
      refine lv_tableIn (off := 37) (tgt := 38) hx hb dX8_heavy_1 (by rw [c2]; decide) (by rw [c2]; decide) (by rw [c2]; rfl) (by decide) ?_
      refine lv_iconst (v := (4 : Int32)) hx hb dX8_heavy_38 (by decide) (W.pc 39 rfl ?_)
      subst hsp
      exact rRi hX rfl dX8_heavy_39
    · have hsp := iq hsp c2
      by_cases c3 : p0 = (3 : Int32)
      · have hsp := ip hsp c3
        refine lv_tableIn (off := 39) (tgt := 40) hx hb dX8_heavy_1 (by rw [c3]; decide) (by rw [c3]; decide) (by rw [c3]; rfl) (by decide) ?_
        refine lv_iconst (v := (1 : Int32)) hx hb dX8_heavy_40 (by decide) (W.pc 41 rfl ?_)
        subst hsp
        exact rRi hX rfl dX8_heavy_41
      · have hsp := iq hsp c3
        by_cases c4 : p0 = (4 : Int32)
        · have hsp := ip hsp c4
          refine lv_tableIn (off := 41) (tgt := 42) hx hb dX8_heavy_1 (by rw [c4]; decide) (by rw [c4]; decide) (by rw [c4]; rfl) (by decide) ?_
          refine lv_iconst (v := (5 : Int32)) hx hb dX8_heavy_42 (by decide) (W.pc 43 rfl ?_)
          subst hsp
          exact rRi hX rfl dX8_heavy_43
        · have hsp := iq hsp c4
          by_cases c5 : p0 = (5 : Int32)
          · have hsp := ip hsp c5
            refine lv_tableIn (off := 39) (tgt := 40) hx hb dX8_heavy_1 (by rw [c5]; decide) (by rw [c5]; decide) (by rw [c5]; rfl) (by decide) ?_
            refine lv_iconst (v := (1 : Int32)) hx hb dX8_heavy_40 (by decide) (W.pc 41 rfl ?_)
            subst hsp
            exact rRi hX rfl dX8_heavy_41
          · have hsp := iq hsp c5
            refine lv_tableOut (tgt := 44) hx hb dX8_heavy_1 (by have := lv_neT c1 (a := 1) rfl; have := lv_neT c2 (a := 2) rfl; have := lv_neT c3 (a := 3) rfl; have := lv_neT c4 (a := 4) rfl; have := lv_neT c5 (a := 5) rfl;  omega) (by decide) ?_
            refine lv_iconst (v := (2 : Int32)) hx hb dX8_heavy_44 (by decide) (W.pc 45 rfl ?_)
            subst hsp
            exact rRi hX rfl dX8_heavy_45
def sp_X8_storey (p0 : Int32) (p1 : Int32) : Int32 := (((9 : Int32) + ((10 : Int32) * p0)) + ((2 : Int32) * p1))
set_option maxHeartbeats 4000000 in
set_option maxRecDepth 100000 in
theorem c_X8_storey (l : Launch) (E : wE) (p0 : Int32) (p1 : Int32) (z : Int32) (hsp : sp_X8_storey p0 p1 = z) : MR l yX8_storey cX8_storey 2 (some .int) 0 E [.int p0, .int p1] [] (some (.int z)) := by
  refine MR.of (by decide +kernel) (Nat.le_of_ble_eq_true rfl) ?_
  intro p e s m below meth c ls hX hK hP hl
  have hX : CX p s m [.int p0, .int p1].toArray meth c cX8_storey 2 (some .int) RX8 := hX
  have hx := hX.1; have hb := hX.2.1; have hts := hX.2.2.2.2.1; have hown := hX.2.2.2.2.2.1
  have hl : lv_has ls 2 [(0, .int p0), (1, .int p1)] := hl
  have hsp : ((((9 : Int32) + ((10 : Int32) * p0)) + ((2 : Int32) * p1))) = z := hsp
  refine lv_bipush (v := (9 : Int32)) hx hb dX8_storey_0 (by decide) (W.pc 2 rfl ?_)
  refine lv_bipush (v := (10 : Int32)) hx hb dX8_storey_2 (by decide) (W.pc 4 rfl ?_)
  refine lv_iload_n hx hb dX8_storey_4 rfl (lv_at hl 0 rfl) (W.pc 5 rfl ?_)
  refine lv_imul hx hb dX8_storey_5 (W.pc 6 rfl ?_)
  refine lv_iadd hx hb dX8_storey_6 (W.pc 7 rfl ?_)
  refine lv_iconst (v := (2 : Int32)) hx hb dX8_storey_7 (by decide) (W.pc 8 rfl ?_)
  refine lv_iload_n hx hb dX8_storey_8 rfl (lv_at hl 1 rfl) (W.pc 9 rfl ?_)
  refine lv_imul hx hb dX8_storey_9 (W.pc 10 rfl ?_)
  refine lv_iadd hx hb dX8_storey_10 (W.pc 11 rfl ?_)
  subst hsp
  exact rRi hX rfl dX8_storey_11
noncomputable def lp_X8_loadOn_7 (p1 : Int32) (fa0 : Nat → Int32) : Nat → Int32 → Int32 → Option (Int32 × Int32)
 | 0, _, _ => none
 | fu + 1, x3_7, x4_7 => gi ((3 : Int32) + p1) 682 (if (fa0 (((3 : Int32) + p1)).toNatClampNeg) ≤ x4_7 then (some (x3_7, x4_7)) else (gi (sp_X8_storey p1 x4_7) 682 (lp_X8_loadOn_7 p1 fa0 fu (x3_7 + (sp_X8_heavy (fa0 ((sp_X8_storey p1 x4_7)).toNatClampNeg))) (x4_7 + (1 : Int32)))))
noncomputable def sp_X8_loadOn (p1 : Int32) (p2 : Int32) (fa0 : Nat → Int32) : Option (Int32) := Option.bind (lp_X8_loadOn_7 p1 fa0 FU (0 : Int32) (p2 + (1 : Int32))) fun z1 => some z1.1
set_option maxHeartbeats 4000000 in
set_option maxRecDepth 100000 in
theorem c_X8_loadOn (l : Launch) (E : wE) (a0 : Nat) (p1 : Int32) (p2 : Int32) (fa0 : Nat → Int32) (z : Int32) (hsp : sp_X8_loadOn p1 p2 fa0 = some z) : MR l yX8_loadOn cX8_loadOn 5 (some .int) 1 E [.ref a0, .int p1, .int p2] [(a0, aI E 682 fa0)] (some (.int z)) := by
  refine MR.of (by decide +kernel) (Nat.le_of_ble_eq_true rfl) ?_
  intro p e s m below meth c ls hX hK hP hl
  have hX : CX p s m [.ref a0, .int p1, .int p2].toArray meth c cX8_loadOn 5 (some .int) RX8 := hX
  have hx := hX.1; have hb := hX.2.1; have hts := hX.2.2.2.2.1; have hown := hX.2.2.2.2.2.1
  have hl : lv_has ls 5 [(0, .ref a0), (1, .int p1), (2, .int p2)] := hl
  have hsp : (Option.bind (lp_X8_loadOn_7 p1 fa0 FU (0 : Int32) (p2 + (1 : Int32))) fun z1 => some z1.1) = some z := hsp
  refine lv_iconst (v := (0 : Int32)) hx hb dX8_loadOn_0 (by decide) (W.pc 1 rfl ?_)
  refine lv_istore_n (lv' := [(3, .int (0 : Int32)), (0, .ref a0), (1, .int p1), (2, .int p2)]) hx hb dX8_loadOn_1 rfl hl (by decide) rfl (fun ls hl => W.pc 2 rfl ?_)
  refine lv_iload_n hx hb dX8_loadOn_2 rfl (lv_at hl 3 rfl) (W.pc 3 rfl ?_)
  refine lv_iconst (v := (1 : Int32)) hx hb dX8_loadOn_3 (by decide) (W.pc 4 rfl ?_)
  refine lv_iadd hx hb dX8_loadOn_4 (W.pc 5 rfl ?_)
  refine lv_istore (lv' := [(4, .int (p2 + (1 : Int32))), (3, .int (0 : Int32)), (0, .ref a0), (1, .int p1), (2, .int p2)]) hx hb dX8_loadOn_5 hl (by decide) rfl (fun ls hl => W.pc 7 rfl ?_)
  have L_7 : ∀ (z1 : Int32 × Int32), (∀ (ls : Array Slot), lv_has ls 5 [(3, .int z1.1)] → W p l e (wR 1) s m [.ref a0, .int p1, .int p2].toArray below meth c s.heap [] 0 0 (MQ below (QRd E (some (.int z))) [.ref a0, .int p1, .int p2].toArray s 0 0 (fun _ => False)) (F0 m 37 ls [])) → ∀ (fu : Nat) (x3_7 : Int32) (x4_7 : Int32), ∀ (ls : Array Slot), lv_has ls 5 [(0, .ref a0), (1, .int p1), (3, .int x3_7), (4, .int x4_7)] → lp_X8_loadOn_7 p1 fa0 fu x3_7 x4_7 = some z1 → W p l e (wR 1) s m [.ref a0, .int p1, .int p2].toArray below meth c s.heap [] 0 0 (MQ below (QRd E (some (.int z))) [.ref a0, .int p1, .int p2].toArray s 0 0 (fun _ => False)) (F0 m 7 ls []) := by
    intro z1 hk_7 fu
    induction fu with
    | zero => intro x3_7 x4_7 ls hl hsp; exact absurd (show none = some _ from hsp) (by simp)
    | succ fu ih_7 =>
      intro x3_7 x4_7 ls hl hsp
      have hsp : (gi ((3 : Int32) + p1) 682 (if (fa0 (((3 : Int32) + p1)).toNatClampNeg) ≤ x4_7 then (some (x3_7, x4_7)) else (gi (sp_X8_storey p1 x4_7) 682 (lp_X8_loadOn_7 p1 fa0 fu (x3_7 + (sp_X8_heavy (fa0 ((sp_X8_storey p1 x4_7)).toNatClampNeg))) (x4_7 + (1 : Int32)))))) = some z1 := hsp
      refine lv_iload hx hb dX8_loadOn_7 (lv_at hl 3 rfl) (W.pc 9 rfl ?_)
      refine lv_aload_n hx hb dX8_loadOn_9 rfl (lv_at hl 0 rfl) (W.pc 10 rfl ?_)
      refine lv_iconst (v := (3 : Int32)) hx hb dX8_loadOn_10 (by decide) (W.pc 11 rfl ?_)
      refine lv_iload_n hx hb dX8_loadOn_11 rfl (lv_at hl 1 rfl) (W.pc 12 rfl ?_)
      refine lv_iadd hx hb dX8_loadOn_12 (W.pc 13 rfl ?_)
      obtain ⟨h2, hsp⟩ := gi_s hsp
      refine va_iald hx hb hK hP 0 0 rfl rfl h2 dX8_loadOn_13 (W.pc 14 rfl ?_)
      refine lv_icmp_ge (tgt := 37) hx hb dX8_loadOn_14 (by decide) (fun c3 => ?_) (fun c3 => W.pc 17 rfl ?_)
      · have hsp := ip hsp c3
        obtain rfl := Option.some.inj hsp
        exact hk_7 _ (lv_sub hl [2] rfl)
      · have hsp := iq hsp c3
        refine lv_iload_n hx hb dX8_loadOn_17 rfl (lv_at hl 2 rfl) (W.pc 18 rfl ?_)
        refine lv_aload_n hx hb dX8_loadOn_18 rfl (lv_at hl 0 rfl) (W.pc 19 rfl ?_)
        refine lv_iload_n hx hb dX8_loadOn_19 rfl (lv_at hl 1 rfl) (W.pc 20 rfl ?_)
        refine lv_iload hx hb dX8_loadOn_20 (lv_at hl 3 rfl) (W.pc 22 rfl ?_)
        refine kSR (st1 := [.int (sp_X8_storey p1 x4_7), .ref a0, .int x3_7]) hX (c_X8_storey l E p1 x4_7 _ rfl) B_X8_storey w_4_237 hK (hP.pick [] rfl) rfl hl.1 rfl (Nat.le_of_ble_eq_true rfl) ⟨Nat.le_of_ble_eq_true rfl, Nat.le_of_ble_eq_true rfl⟩ dX8_loadOn_22 rfl (W.pc 25 rfl ?_)
        obtain ⟨h4, hsp⟩ := gi_s hsp
        refine va_iald hx hb hK hP 0 0 rfl rfl h4 dX8_loadOn_25 (W.pc 26 rfl ?_)
        refine kSR (st1 := [.int (sp_X8_heavy (fa0 ((sp_X8_storey p1 x4_7)).toNatClampNeg)), .int x3_7]) hX (c_X8_heavy l E (fa0 ((sp_X8_storey p1 x4_7)).toNatClampNeg) _ rfl) B_X8_heavy w_5_6 hK (hP.pick [] rfl) rfl hl.1 rfl (Nat.le_of_ble_eq_true rfl) ⟨Nat.le_of_ble_eq_true rfl, Nat.le_of_ble_eq_true rfl⟩ dX8_loadOn_26 rfl (W.pc 29 rfl ?_)
        refine lv_iadd hx hb dX8_loadOn_29 (W.pc 30 rfl ?_)
        refine lv_istore_n (lv' := [(3, .int (x3_7 + (sp_X8_heavy (fa0 ((sp_X8_storey p1 x4_7)).toNatClampNeg)))), (0, .ref a0), (1, .int p1), (4, .int x4_7)]) hx hb dX8_loadOn_30 rfl hl (by decide) rfl (fun ls hl => W.pc 31 rfl ?_)
        refine lv_iinc (v := (x4_7 + (1 : Int32))) (lv' := [(4, .int (x4_7 + (1 : Int32))), (3, .int (x3_7 + (sp_X8_heavy (fa0 ((sp_X8_storey p1 x4_7)).toNatClampNeg)))), (0, .ref a0), (1, .int p1)]) hx hb dX8_loadOn_31 hl (k := 3) rfl rfl (by decide) rfl (fun ls hl => W.pc 34 rfl ?_)
        refine lv_goto (tgt := 7) hx hb dX8_loadOn_34 (by decide) ?_
        exact ih_7 (x3_7 + (sp_X8_heavy (fa0 ((sp_X8_storey p1 x4_7)).toNatClampNeg))) (x4_7 + (1 : Int32)) _ (lv_sub hl [2, 3, 1, 0] rfl) hsp
  obtain ⟨z1, hr_z1, hsp⟩ := bd_s hsp
  refine L_7 z1 (fun ls hl => ?_) FU (0 : Int32) (p2 + (1 : Int32)) _ (lv_sub hl [2, 3, 1, 0] rfl) hr_z1
  refine lv_iload_n hx hb dX8_loadOn_37 rfl (lv_at hl 0 rfl) (W.pc 38 rfl ?_)
  obtain rfl := Option.some.inj hsp
  exact rRi hX rfl dX8_loadOn_38
noncomputable def sp_X8_top (p1 : Int32) (fa0 : Nat → Int32) : Option (Int32) := gi ((3 : Int32) + p1) 682 (if (fa0 (((3 : Int32) + p1)).toNatClampNeg) = 0 then (some (0 : Int32)) else (gi ((sp_X8_storey p1 ((fa0 (((3 : Int32) + p1)).toNatClampNeg) - (1 : Int32))) + (1 : Int32)) 682 (some (fa0 (((sp_X8_storey p1 ((fa0 (((3 : Int32) + p1)).toNatClampNeg) - (1 : Int32))) + (1 : Int32))).toNatClampNeg))))
set_option maxHeartbeats 4000000 in
set_option maxRecDepth 100000 in
theorem c_X8_top (l : Launch) (E : wE) (a0 : Nat) (p1 : Int32) (fa0 : Nat → Int32) (z : Int32) (hsp : sp_X8_top p1 fa0 = some z) : MR l yX8_top cX8_top 2 (some .int) 1 E [.ref a0, .int p1] [(a0, aI E 682 fa0)] (some (.int z)) := by
  refine MR.of (by decide +kernel) (Nat.le_of_ble_eq_true rfl) ?_
  intro p e s m below meth c ls hX hK hP hl
  have hX : CX p s m [.ref a0, .int p1].toArray meth c cX8_top 2 (some .int) RX8 := hX
  have hx := hX.1; have hb := hX.2.1; have hts := hX.2.2.2.2.1; have hown := hX.2.2.2.2.2.1
  have hl : lv_has ls 2 [(0, .ref a0), (1, .int p1)] := hl
  have hsp : (gi ((3 : Int32) + p1) 682 (if (fa0 (((3 : Int32) + p1)).toNatClampNeg) = 0 then (some (0 : Int32)) else (gi ((sp_X8_storey p1 ((fa0 (((3 : Int32) + p1)).toNatClampNeg) - (1 : Int32))) + (1 : Int32)) 682 (some (fa0 (((sp_X8_storey p1 ((fa0 (((3 : Int32) + p1)).toNatClampNeg) - (1 : Int32))) + (1 : Int32))).toNatClampNeg))))) = some z := hsp
  refine lv_aload_n hx hb dX8_top_0 rfl (lv_at hl 0 rfl) (W.pc 1 rfl ?_)
  refine lv_iconst (v := (3 : Int32)) hx hb dX8_top_1 (by decide) (W.pc 2 rfl ?_)
  refine lv_iload_n hx hb dX8_top_2 rfl (lv_at hl 1 rfl) (W.pc 3 rfl ?_)
  refine lv_iadd hx hb dX8_top_3 (W.pc 4 rfl ?_)
  obtain ⟨h1, hsp⟩ := gi_s hsp
  refine va_iald hx hb hK hP 0 0 rfl rfl h1 dX8_top_4 (W.pc 5 rfl ?_)
  refine lv_if_ne (tgt := 12) hx hb dX8_top_5 (by decide) (fun c2 => ?_) (fun c2 => W.pc 8 rfl ?_)
  · have hsp := iq hsp c2
    refine lv_aload_n hx hb dX8_top_12 rfl (lv_at hl 0 rfl) (W.pc 13 rfl ?_)
    refine lv_iload_n hx hb dX8_top_13 rfl (lv_at hl 1 rfl) (W.pc 14 rfl ?_)
    refine lv_aload_n hx hb dX8_top_14 rfl (lv_at hl 0 rfl) (W.pc 15 rfl ?_)
    refine lv_iconst (v := (3 : Int32)) hx hb dX8_top_15 (by decide) (W.pc 16 rfl ?_)
    refine lv_iload_n hx hb dX8_top_16 rfl (lv_at hl 1 rfl) (W.pc 17 rfl ?_)
    refine lv_iadd hx hb dX8_top_17 (W.pc 18 rfl ?_)
    refine va_iald hx hb hK hP 0 0 rfl rfl h1 dX8_top_18 (W.pc 19 rfl ?_)
    refine lv_iconst (v := (1 : Int32)) hx hb dX8_top_19 (by decide) (W.pc 20 rfl ?_)
    refine lv_isub hx hb dX8_top_20 (W.pc 21 rfl ?_)
    refine kSR (st1 := [.int (sp_X8_storey p1 ((fa0 (((3 : Int32) + p1)).toNatClampNeg) - (1 : Int32))), .ref a0]) hX (c_X8_storey l E p1 ((fa0 (((3 : Int32) + p1)).toNatClampNeg) - (1 : Int32)) _ rfl) B_X8_storey w_4_237 hK (hP.pick [] rfl) rfl hl.1 rfl (Nat.le_of_ble_eq_true rfl) ⟨Nat.le_of_ble_eq_true rfl, Nat.le_of_ble_eq_true rfl⟩ dX8_top_21 rfl (W.pc 24 rfl ?_)
    refine lv_iconst (v := (1 : Int32)) hx hb dX8_top_24 (by decide) (W.pc 25 rfl ?_)
    refine lv_iadd hx hb dX8_top_25 (W.pc 26 rfl ?_)
    obtain ⟨h3, hsp⟩ := gi_s hsp
    refine va_iald hx hb hK hP 0 0 rfl rfl h3 dX8_top_26 (W.pc 27 rfl ?_)
    obtain rfl := Option.some.inj hsp
    exact rRi hX rfl dX8_top_27
  · have hsp := ip hsp c2
    refine lv_iconst (v := (0 : Int32)) hx hb dX8_top_8 (by decide) (W.pc 9 rfl ?_)
    refine lv_goto (tgt := 27) hx hb dX8_top_9 (by decide) ?_
    obtain rfl := Option.some.inj hsp
    exact rRi hX rfl dX8_top_27
noncomputable def lp_X8_falling_4 (p1 : Int32) (fa0 : Nat → Int32) : Nat → Int32 → Int32 → Option (Int32 × Int32)
 | 0, _, _ => none
 | fu + 1, x2_4, x3_4 => gi ((3 : Int32) + p1) 682 (if (fa0 (((3 : Int32) + p1)).toNatClampNeg) ≤ x2_4 then (some (x2_4, x3_4)) else (if x3_4 = 0 then (some (x2_4, x3_4)) else (gi (sp_X8_storey p1 x2_4) 682 (gi ((sp_X8_storey p1 x2_4) + (1 : Int32)) 682 (Option.bind (if x2_4 = 0 then (some (0 : Int32)) else (gi ((sp_X8_storey p1 x2_4) - (1 : Int32)) 682 (some (fa0 (((sp_X8_storey p1 x2_4) - (1 : Int32))).toNatClampNeg)))) fun z7 => Option.bind (sp_X8_loadOn p1 x2_4 fa0) fun z11 => lt_ (if (sp_X8_stands (fa0 ((sp_X8_storey p1 x2_4)).toNatClampNeg) (fa0 (((sp_X8_storey p1 x2_4) + (1 : Int32))).toNatClampNeg) z7 z11) = 0 then ((0 : Int32)) else ((1 : Int32))) fun z12 => lp_X8_falling_4 p1 fa0 fu (x2_4 + z12) (sp_X8_stands (fa0 ((sp_X8_storey p1 x2_4)).toNatClampNeg) (fa0 (((sp_X8_storey p1 x2_4) + (1 : Int32))).toNatClampNeg) z7 z11))))))
noncomputable def sp_X8_falling (p1 : Int32) (fa0 : Nat → Int32) : Option (Int32) := Option.bind (lp_X8_falling_4 p1 fa0 FU (0 : Int32) (1 : Int32)) fun z1 => some z1.1
set_option maxHeartbeats 4000000 in
set_option maxRecDepth 100000 in
theorem c_X8_falling (l : Launch) (E : wE) (a0 : Nat) (p1 : Int32) (fa0 : Nat → Int32) (z : Int32) (hsp : sp_X8_falling p1 fa0 = some z) : MR l yX8_falling cX8_falling 5 (some .int) 2 E [.ref a0, .int p1] [(a0, aI E 682 fa0)] (some (.int z)) := by
  refine MR.of (by decide +kernel) (Nat.le_of_ble_eq_true rfl) ?_
  intro p e s m below meth c ls hX hK hP hl
  have hX : CX p s m [.ref a0, .int p1].toArray meth c cX8_falling 5 (some .int) RX8 := hX
  have hx := hX.1; have hb := hX.2.1; have hts := hX.2.2.2.2.1; have hown := hX.2.2.2.2.2.1
  have hl : lv_has ls 5 [(0, .ref a0), (1, .int p1)] := hl
  have hsp : (Option.bind (lp_X8_falling_4 p1 fa0 FU (0 : Int32) (1 : Int32)) fun z1 => some z1.1) = some z := hsp
  refine lv_iconst (v := (0 : Int32)) hx hb dX8_falling_0 (by decide) (W.pc 1 rfl ?_)
  refine lv_istore_n (lv' := [(2, .int (0 : Int32)), (0, .ref a0), (1, .int p1)]) hx hb dX8_falling_1 rfl hl (by decide) rfl (fun ls hl => W.pc 2 rfl ?_)
  refine lv_iconst (v := (1 : Int32)) hx hb dX8_falling_2 (by decide) (W.pc 3 rfl ?_)
  refine lv_istore_n (lv' := [(3, .int (1 : Int32)), (2, .int (0 : Int32)), (0, .ref a0), (1, .int p1)]) hx hb dX8_falling_3 rfl hl (by decide) rfl (fun ls hl => W.pc 4 rfl ?_)
  have L_4 : ∀ (z1 : Int32 × Int32), (∀ (ls : Array Slot), lv_has ls 5 [(2, .int z1.1)] → W p l e (wR 2) s m [.ref a0, .int p1].toArray below meth c s.heap [] 0 0 (MQ below (QRd E (some (.int z))) [.ref a0, .int p1].toArray s 0 0 (fun _ => False)) (F0 m 73 ls [])) → ∀ (fu : Nat) (x2_4 : Int32) (x3_4 : Int32), ∀ (ls : Array Slot), lv_has ls 5 [(0, .ref a0), (1, .int p1), (2, .int x2_4), (3, .int x3_4)] → lp_X8_falling_4 p1 fa0 fu x2_4 x3_4 = some z1 → W p l e (wR 2) s m [.ref a0, .int p1].toArray below meth c s.heap [] 0 0 (MQ below (QRd E (some (.int z))) [.ref a0, .int p1].toArray s 0 0 (fun _ => False)) (F0 m 4 ls []) := by
    intro z1 hk_4 fu
    induction fu with
    | zero => intro x2_4 x3_4 ls hl hsp; exact absurd (show none = some _ from hsp) (by simp)
    | succ fu ih_4 =>
      intro x2_4 x3_4 ls hl hsp
      have hsp : (gi ((3 : Int32) + p1) 682 (if (fa0 (((3 : Int32) + p1)).toNatClampNeg) ≤ x2_4 then (some (x2_4, x3_4)) else (if x3_4 = 0 then (some (x2_4, x3_4)) else (gi (sp_X8_storey p1 x2_4) 682 (gi ((sp_X8_storey p1 x2_4) + (1 : Int32)) 682 (Option.bind (if x2_4 = 0 then (some (0 : Int32)) else (gi ((sp_X8_storey p1 x2_4) - (1 : Int32)) 682 (some (fa0 (((sp_X8_storey p1 x2_4) - (1 : Int32))).toNatClampNeg)))) fun z7 => Option.bind (sp_X8_loadOn p1 x2_4 fa0) fun z11 => lt_ (if (sp_X8_stands (fa0 ((sp_X8_storey p1 x2_4)).toNatClampNeg) (fa0 (((sp_X8_storey p1 x2_4) + (1 : Int32))).toNatClampNeg) z7 z11) = 0 then ((0 : Int32)) else ((1 : Int32))) fun z12 => lp_X8_falling_4 p1 fa0 fu (x2_4 + z12) (sp_X8_stands (fa0 ((sp_X8_storey p1 x2_4)).toNatClampNeg) (fa0 (((sp_X8_storey p1 x2_4) + (1 : Int32))).toNatClampNeg) z7 z11))))))) = some z1 := hsp
      refine lv_iload_n hx hb dX8_falling_4 rfl (lv_at hl 2 rfl) (W.pc 5 rfl ?_)
      refine lv_aload_n hx hb dX8_falling_5 rfl (lv_at hl 0 rfl) (W.pc 6 rfl ?_)
      refine lv_iconst (v := (3 : Int32)) hx hb dX8_falling_6 (by decide) (W.pc 7 rfl ?_)
      refine lv_iload_n hx hb dX8_falling_7 rfl (lv_at hl 1 rfl) (W.pc 8 rfl ?_)
      refine lv_iadd hx hb dX8_falling_8 (W.pc 9 rfl ?_)
      obtain ⟨h2, hsp⟩ := gi_s hsp
      refine va_iald hx hb hK hP 0 0 rfl rfl h2 dX8_falling_9 (W.pc 10 rfl ?_)
      refine lv_icmp_ge (tgt := 73) hx hb dX8_falling_10 (by decide) (fun c3 => ?_) (fun c3 => W.pc 13 rfl ?_)
      · have hsp := ip hsp c3
        obtain rfl := Option.some.inj hsp
        exact hk_4 _ (lv_sub hl [2] rfl)
      · have hsp := iq hsp c3
        refine lv_iload_n hx hb dX8_falling_13 rfl (lv_at hl 3 rfl) (W.pc 14 rfl ?_)
        refine lv_if_eq (tgt := 73) hx hb dX8_falling_14 (by decide) (fun c4 => ?_) (fun c4 => W.pc 17 rfl ?_)
        · have hsp := ip hsp c4
          obtain rfl := Option.some.inj hsp
          exact hk_4 _ (lv_sub hl [2] rfl)
        · have hsp := iq hsp c4
          refine lv_iload_n hx hb dX8_falling_17 rfl (lv_at hl 1 rfl) (W.pc 18 rfl ?_)
          refine lv_iload_n hx hb dX8_falling_18 rfl (lv_at hl 2 rfl) (W.pc 19 rfl ?_)
          refine kSR (st1 := [.int (sp_X8_storey p1 x2_4)]) hX (c_X8_storey l E p1 x2_4 _ rfl) B_X8_storey w_4_237 hK (hP.pick [] rfl) rfl hl.1 rfl (Nat.le_of_ble_eq_true rfl) ⟨Nat.le_of_ble_eq_true rfl, Nat.le_of_ble_eq_true rfl⟩ dX8_falling_19 rfl (W.pc 22 rfl ?_)
          refine lv_istore (lv' := [(4, .int (sp_X8_storey p1 x2_4)), (0, .ref a0), (1, .int p1), (2, .int x2_4), (3, .int x3_4)]) hx hb dX8_falling_22 hl (by decide) rfl (fun ls hl => W.pc 24 rfl ?_)
          refine lv_aload_n hx hb dX8_falling_24 rfl (lv_at hl 1 rfl) (W.pc 25 rfl ?_)
          refine lv_iload hx hb dX8_falling_25 (lv_at hl 0 rfl) (W.pc 27 rfl ?_)
          obtain ⟨h5, hsp⟩ := gi_s hsp
          refine va_iald hx hb hK hP 0 0 rfl rfl h5 dX8_falling_27 (W.pc 28 rfl ?_)
          refine lv_aload_n hx hb dX8_falling_28 rfl (lv_at hl 1 rfl) (W.pc 29 rfl ?_)
          refine lv_iload hx hb dX8_falling_29 (lv_at hl 0 rfl) (W.pc 31 rfl ?_)
          refine lv_iconst (v := (1 : Int32)) hx hb dX8_falling_31 (by decide) (W.pc 32 rfl ?_)
          refine lv_iadd hx hb dX8_falling_32 (W.pc 33 rfl ?_)
          obtain ⟨h6, hsp⟩ := gi_s hsp
          refine va_iald hx hb hK hP 0 0 rfl rfl h6 dX8_falling_33 (W.pc 34 rfl ?_)
          refine lv_iload_n hx hb dX8_falling_34 rfl (lv_at hl 3 rfl) (W.pc 35 rfl ?_)
          obtain ⟨z7, hr_z7, hsp⟩ := bd_s hsp
          have J8 : ∀ (ls : Array Slot), lv_has ls 5 [(0, .ref a0), (1, .int p1), (2, .int x2_4)] → W p l e (wR 2) s m [.ref a0, .int p1].toArray below meth c s.heap [] 0 0 (MQ below (QRd E (some (.int z))) [.ref a0, .int p1].toArray s 0 0 (fun _ => False)) (F0 m 48 ls [.int z7, .int (fa0 (((sp_X8_storey p1 x2_4) + (1 : Int32))).toNatClampNeg), .int (fa0 ((sp_X8_storey p1 x2_4)).toNatClampNeg)]) := by
            intro ls hl
            refine lv_aload_n hx hb dX8_falling_48 rfl (lv_at hl 0 rfl) (W.pc 49 rfl ?_)
            refine lv_iload_n hx hb dX8_falling_49 rfl (lv_at hl 1 rfl) (W.pc 50 rfl ?_)
            refine lv_iload_n hx hb dX8_falling_50 rfl (lv_at hl 2 rfl) (W.pc 51 rfl ?_)
            obtain ⟨z11, hr_z11, hsp⟩ := bd_s hsp
            refine kSR (st1 := [.int z11, .int z7, .int (fa0 (((sp_X8_storey p1 x2_4) + (1 : Int32))).toNatClampNeg), .int (fa0 ((sp_X8_storey p1 x2_4)).toNatClampNeg)]) hX (c_X8_loadOn l E a0 p1 x2_4 fa0 z11 hr_z11) B_X8_loadOn w_5_3 hK (hP.pick [0] rfl) rfl hl.1 rfl (Nat.le_of_ble_eq_true rfl) ⟨Nat.le_of_ble_eq_true rfl, Nat.le_of_ble_eq_true rfl⟩ dX8_falling_51 rfl (W.pc 54 rfl ?_)
            refine kSR (st1 := [.int (sp_X8_stands (fa0 ((sp_X8_storey p1 x2_4)).toNatClampNeg) (fa0 (((sp_X8_storey p1 x2_4) + (1 : Int32))).toNatClampNeg) z7 z11)]) hX (c_X8_stands l E (fa0 ((sp_X8_storey p1 x2_4)).toNatClampNeg) (fa0 (((sp_X8_storey p1 x2_4) + (1 : Int32))).toNatClampNeg) z7 z11 _ rfl) B_X8_stands w_5_9 hK (hP.pick [] rfl) rfl hl.1 rfl (Nat.le_of_ble_eq_true rfl) ⟨Nat.le_of_ble_eq_true rfl, Nat.le_of_ble_eq_true rfl⟩ dX8_falling_54 rfl (W.pc 57 rfl ?_)
            refine lv_istore_n (lv' := [(3, .int (sp_X8_stands (fa0 ((sp_X8_storey p1 x2_4)).toNatClampNeg) (fa0 (((sp_X8_storey p1 x2_4) + (1 : Int32))).toNatClampNeg) z7 z11)), (0, .ref a0), (1, .int p1), (2, .int x2_4)]) hx hb dX8_falling_57 rfl hl (by decide) rfl (fun ls hl => W.pc 58 rfl ?_)
            refine lv_iload_n hx hb dX8_falling_58 rfl (lv_at hl 3 rfl) (W.pc 59 rfl ?_)
            refine lv_iload_n hx hb dX8_falling_59 rfl (lv_at hl 0 rfl) (W.pc 60 rfl ?_)
            obtain ⟨z12, hr_z12, hsp⟩ := ltb_s hsp
            have J13 : ∀ (ls : Array Slot), lv_has ls 5 [(0, .ref a0), (1, .int p1), (3, .int (sp_X8_stands (fa0 ((sp_X8_storey p1 x2_4)).toNatClampNeg) (fa0 (((sp_X8_storey p1 x2_4) + (1 : Int32))).toNatClampNeg) z7 z11))] → W p l e (wR 2) s m [.ref a0, .int p1].toArray below meth c s.heap [] 0 0 (MQ below (QRd E (some (.int z))) [.ref a0, .int p1].toArray s 0 0 (fun _ => False)) (F0 m 68 ls [.int z12, .int x2_4]) := by
              intro ls hl
              refine lv_iadd hx hb dX8_falling_68 (W.pc 69 rfl ?_)
              refine lv_istore_n (lv' := [(2, .int (x2_4 + z12)), (0, .ref a0), (1, .int p1), (3, .int (sp_X8_stands (fa0 ((sp_X8_storey p1 x2_4)).toNatClampNeg) (fa0 (((sp_X8_storey p1 x2_4) + (1 : Int32))).toNatClampNeg) z7 z11))]) hx hb dX8_falling_69 rfl hl (by decide) rfl (fun ls hl => W.pc 70 rfl ?_)
              refine lv_goto (tgt := 4) hx hb dX8_falling_70 (by decide) ?_
              exact ih_4 (x2_4 + z12) (sp_X8_stands (fa0 ((sp_X8_storey p1 x2_4)).toNatClampNeg) (fa0 (((sp_X8_storey p1 x2_4) + (1 : Int32))).toNatClampNeg) z7 z11) _ (lv_sub hl [1, 2, 0, 3] rfl) hsp
            replace hsp := hr_z12
            refine lv_if_eq (tgt := 67) hx hb dX8_falling_60 (by decide) (fun c14 => ?_) (fun c14 => W.pc 63 rfl ?_)
            · have hsp := ip hsp c14
              refine lv_iconst (v := (0 : Int32)) hx hb dX8_falling_67 (by decide) (W.pc 68 rfl ?_)
              subst hsp
              exact J13 _ (lv_sub hl [1, 2, 0] rfl)
            · have hsp := iq hsp c14
              refine lv_iconst (v := (1 : Int32)) hx hb dX8_falling_63 (by decide) (W.pc 64 rfl ?_)
              refine lv_goto (tgt := 68) hx hb dX8_falling_64 (by decide) ?_
              subst hsp
              exact J13 _ (lv_sub hl [1, 2, 0] rfl)
          replace hsp := hr_z7
          refine lv_if_ne (tgt := 42) hx hb dX8_falling_35 (by decide) (fun c9 => ?_) (fun c9 => W.pc 38 rfl ?_)
          · have hsp := iq hsp c9
            refine lv_aload_n hx hb dX8_falling_42 rfl (lv_at hl 1 rfl) (W.pc 43 rfl ?_)
            refine lv_iload hx hb dX8_falling_43 (lv_at hl 0 rfl) (W.pc 45 rfl ?_)
            refine lv_iconst (v := (1 : Int32)) hx hb dX8_falling_45 (by decide) (W.pc 46 rfl ?_)
            refine lv_isub hx hb dX8_falling_46 (W.pc 47 rfl ?_)
            obtain ⟨h10, hsp⟩ := gi_s hsp
            refine va_iald hx hb hK hP 0 0 rfl rfl h10 dX8_falling_47 (W.pc 48 rfl ?_)
            obtain rfl := Option.some.inj hsp
            exact J8 _ (lv_sub hl [1, 2, 3] rfl)
          · have hsp := ip hsp c9
            refine lv_iconst (v := (0 : Int32)) hx hb dX8_falling_38 (by decide) (W.pc 39 rfl ?_)
            refine lv_goto (tgt := 48) hx hb dX8_falling_39 (by decide) ?_
            obtain rfl := Option.some.inj hsp
            exact J8 _ (lv_sub hl [1, 2, 3] rfl)
  obtain ⟨z1, hr_z1, hsp⟩ := bd_s hsp
  refine L_4 z1 (fun ls hl => ?_) FU (0 : Int32) (1 : Int32) _ (lv_sub hl [2, 3, 1, 0] rfl) hr_z1
  refine lv_iload_n hx hb dX8_falling_73 rfl (lv_at hl 0 rfl) (W.pc 74 rfl ?_)
  obtain rfl := Option.some.inj hsp
  exact rRi hX rfl dX8_falling_74
noncomputable def lp_X8_builds_57 (p1 : Int32) : Nat → Int32 → ((Nat → Int32)) → Option (Int32 × (Nat → Int32))
 | 0, _, _ => none
 | fu + 1, x6_57, ya0_f_57 => if (((9 : Int32) + ((10 : Int32) * p1)) + (10 : Int32)) ≤ x6_57 then (some (x6_57, ya0_f_57)) else (gi x6_57 682 (lp_X8_builds_57 p1 fu (x6_57 + (1 : Int32)) (upd ya0_f_57 (x6_57).toNatClampNeg (0 : Int32))))
noncomputable def lp_X8_builds_39 (p1 : Int32) : Nat → Int32 → ((Nat → Int32)) → Option (Int32 × (Nat → Int32))
 | 0, _, _ => none
 | fu + 1, x5_39, ya0_f_39 => if (ya0_f_39 (((3 : Int32) + p1)).toNatClampNeg) ≤ x5_39 then (some (x5_39, ya0_f_39)) else (Option.bind (lp_X8_builds_57 p1 FU (sp_X8_storey p1 x5_39) ya0_f_39) fun z7 => Option.bind (sp_X8_falling p1 (upd z7.2 (((3 : Int32) + p1)).toNatClampNeg x5_39)) fun z10 => lp_X8_builds_39 p1 fu z10 (upd z7.2 (((3 : Int32) + p1)).toNatClampNeg x5_39))
noncomputable def sp_X8_builds (p1 : Int32) (p2 : Int32) (p3 : Int32) (fa0 : Nat → Int32) : Option ((Nat → Int32)) := gi ((3 : Int32) + p1) 682 (gi (sp_X8_storey p1 (fa0 (((3 : Int32) + p1)).toNatClampNeg)) 682 (gi ((sp_X8_storey p1 (fa0 (((3 : Int32) + p1)).toNatClampNeg)) + (1 : Int32)) 682 (Option.bind (sp_X8_falling p1 (upd (upd (upd fa0 ((sp_X8_storey p1 (fa0 (((3 : Int32) + p1)).toNatClampNeg))).toNatClampNeg p2) (((sp_X8_storey p1 (fa0 (((3 : Int32) + p1)).toNatClampNeg)) + (1 : Int32))).toNatClampNeg p3) (((3 : Int32) + p1)).toNatClampNeg (((upd (upd fa0 ((sp_X8_storey p1 (fa0 (((3 : Int32) + p1)).toNatClampNeg))).toNatClampNeg p2) (((sp_X8_storey p1 (fa0 (((3 : Int32) + p1)).toNatClampNeg)) + (1 : Int32))).toNatClampNeg p3) (((3 : Int32) + p1)).toNatClampNeg) + (1 : Int32)))) fun z4 => Option.bind (lp_X8_builds_39 p1 FU z4 (upd (upd (upd fa0 ((sp_X8_storey p1 (fa0 (((3 : Int32) + p1)).toNatClampNeg))).toNatClampNeg p2) (((sp_X8_storey p1 (fa0 (((3 : Int32) + p1)).toNatClampNeg)) + (1 : Int32))).toNatClampNeg p3) (((3 : Int32) + p1)).toNatClampNeg (((upd (upd fa0 ((sp_X8_storey p1 (fa0 (((3 : Int32) + p1)).toNatClampNeg))).toNatClampNeg p2) (((sp_X8_storey p1 (fa0 (((3 : Int32) + p1)).toNatClampNeg)) + (1 : Int32))).toNatClampNeg p3) (((3 : Int32) + p1)).toNatClampNeg) + (1 : Int32)))) fun z5 => some z5.2)))
set_option maxHeartbeats 4000000 in
set_option maxRecDepth 100000 in
theorem c_X8_builds (l : Launch) (E : wE) (a0 : Nat) (p1 : Int32) (p2 : Int32) (p3 : Int32) (fa0 : Nat → Int32) (z : (Nat → Int32)) (hsp : sp_X8_builds p1 p2 p3 fa0 = some z) : MW l yX8_builds cX8_builds 7 none 3 E [.ref a0, .int p1, .int p2, .int p3] [(a0, aI E 682 fa0)] none [(a0, aI E 682 z)] := by
  refine MW.of (by decide +kernel) (Nat.le_of_ble_eq_true rfl) ?_
  intro p e s m below meth c ls A hX hK hP hD hS hA hl
  have hX : CX p s m [.ref a0, .int p1, .int p2, .int p3].toArray meth c cX8_builds 7 none RX8 := hX
  have hx := hX.1; have hb := hX.2.1; have hts := hX.2.2.2.2.1; have hown := hX.2.2.2.2.2.1
  have hl : lv_has ls 7 [(0, .ref a0), (1, .int p1), (2, .int p2), (3, .int p3)] := hl
  have hP : wP E [(a0, aI E 682 fa0)] s.heap := hP
  have hsp : (gi ((3 : Int32) + p1) 682 (gi (sp_X8_storey p1 (fa0 (((3 : Int32) + p1)).toNatClampNeg)) 682 (gi ((sp_X8_storey p1 (fa0 (((3 : Int32) + p1)).toNatClampNeg)) + (1 : Int32)) 682 (Option.bind (sp_X8_falling p1 (upd (upd (upd fa0 ((sp_X8_storey p1 (fa0 (((3 : Int32) + p1)).toNatClampNeg))).toNatClampNeg p2) (((sp_X8_storey p1 (fa0 (((3 : Int32) + p1)).toNatClampNeg)) + (1 : Int32))).toNatClampNeg p3) (((3 : Int32) + p1)).toNatClampNeg (((upd (upd fa0 ((sp_X8_storey p1 (fa0 (((3 : Int32) + p1)).toNatClampNeg))).toNatClampNeg p2) (((sp_X8_storey p1 (fa0 (((3 : Int32) + p1)).toNatClampNeg)) + (1 : Int32))).toNatClampNeg p3) (((3 : Int32) + p1)).toNatClampNeg) + (1 : Int32)))) fun z4 => Option.bind (lp_X8_builds_39 p1 FU z4 (upd (upd (upd fa0 ((sp_X8_storey p1 (fa0 (((3 : Int32) + p1)).toNatClampNeg))).toNatClampNeg p2) (((sp_X8_storey p1 (fa0 (((3 : Int32) + p1)).toNatClampNeg)) + (1 : Int32))).toNatClampNeg p3) (((3 : Int32) + p1)).toNatClampNeg (((upd (upd fa0 ((sp_X8_storey p1 (fa0 (((3 : Int32) + p1)).toNatClampNeg))).toNatClampNeg p2) (((sp_X8_storey p1 (fa0 (((3 : Int32) + p1)).toNatClampNeg)) + (1 : Int32))).toNatClampNeg p3) (((3 : Int32) + p1)).toNatClampNeg) + (1 : Int32)))) fun z5 => some z5.2)))) = some z := hsp
  refine lv_iload_n hx hb dX8_builds_0 rfl (lv_at hl 1 rfl) (W.pc 1 rfl ?_)
  refine lv_aload_n hx hb dX8_builds_1 rfl (lv_at hl 0 rfl) (W.pc 2 rfl ?_)
  refine lv_iconst (v := (3 : Int32)) hx hb dX8_builds_2 (by decide) (W.pc 3 rfl ?_)
  refine lv_iload_n hx hb dX8_builds_3 rfl (lv_at hl 1 rfl) (W.pc 4 rfl ?_)
  refine lv_iadd hx hb dX8_builds_4 (W.pc 5 rfl ?_)
  obtain ⟨h1, hsp⟩ := gi_s hsp
  refine va_iald hx hb hK hP 0 0 rfl rfl h1 dX8_builds_5 (W.pc 6 rfl ?_)
  refine kSR (st1 := [.int (sp_X8_storey p1 (fa0 (((3 : Int32) + p1)).toNatClampNeg))]) hX (c_X8_storey l E p1 (fa0 (((3 : Int32) + p1)).toNatClampNeg) _ rfl) B_X8_storey w_4_237 hK (hP.pick [] rfl) rfl hl.1 rfl (Nat.le_of_ble_eq_true rfl) ⟨Nat.le_of_ble_eq_true rfl, Nat.le_of_ble_eq_true rfl⟩ dX8_builds_6 rfl (W.pc 9 rfl ?_)
  refine lv_istore (lv' := [(4, .int (sp_X8_storey p1 (fa0 (((3 : Int32) + p1)).toNatClampNeg))), (0, .ref a0), (1, .int p1), (2, .int p2), (3, .int p3)]) hx hb dX8_builds_9 hl (by decide) rfl (fun ls hl => W.pc 11 rfl ?_)
  refine lv_aload_n hx hb dX8_builds_11 rfl (lv_at hl 1 rfl) (W.pc 12 rfl ?_)
  refine lv_iload hx hb dX8_builds_12 (lv_at hl 0 rfl) (W.pc 14 rfl ?_)
  refine lv_iload_n hx hb dX8_builds_14 rfl (lv_at hl 3 rfl) (W.pc 15 rfl ?_)
  obtain ⟨h2, hsp⟩ := gi_s hsp
  refine va_iast hx hb hK hP hD hS 0 0 rfl rfl h2 dX8_builds_15 (fun H locs hP hD hS => W.pc 16 rfl ?_)
  have hP : wP E [(a0, aI E 682 (upd fa0 ((sp_X8_storey p1 (fa0 (((3 : Int32) + p1)).toNatClampNeg))).toNatClampNeg p2))] _ := hP
  have hD : va_D A [(a0, aI E 682 (upd fa0 ((sp_X8_storey p1 (fa0 (((3 : Int32) + p1)).toNatClampNeg))).toNatClampNeg p2))] := hD
  refine lv_aload_n hx hb dX8_builds_16 rfl (lv_at hl 1 rfl) (W.pc 17 rfl ?_)
  refine lv_iload hx hb dX8_builds_17 (lv_at hl 0 rfl) (W.pc 19 rfl ?_)
  refine lv_iconst (v := (1 : Int32)) hx hb dX8_builds_19 (by decide) (W.pc 20 rfl ?_)
  refine lv_iadd hx hb dX8_builds_20 (W.pc 21 rfl ?_)
  refine lv_iload_n hx hb dX8_builds_21 rfl (lv_at hl 4 rfl) (W.pc 22 rfl ?_)
  obtain ⟨h3, hsp⟩ := gi_s hsp
  refine va_iast hx hb hK hP hD hS 0 0 rfl rfl h3 dX8_builds_22 (fun H locs hP hD hS => W.pc 23 rfl ?_)
  have hP : wP E [(a0, aI E 682 (upd (upd fa0 ((sp_X8_storey p1 (fa0 (((3 : Int32) + p1)).toNatClampNeg))).toNatClampNeg p2) (((sp_X8_storey p1 (fa0 (((3 : Int32) + p1)).toNatClampNeg)) + (1 : Int32))).toNatClampNeg p3))] _ := hP
  have hD : va_D A [(a0, aI E 682 (upd (upd fa0 ((sp_X8_storey p1 (fa0 (((3 : Int32) + p1)).toNatClampNeg))).toNatClampNeg p2) (((sp_X8_storey p1 (fa0 (((3 : Int32) + p1)).toNatClampNeg)) + (1 : Int32))).toNatClampNeg p3))] := hD
  refine lv_aload_n hx hb dX8_builds_23 rfl (lv_at hl 1 rfl) (W.pc 24 rfl ?_)
  refine lv_iconst (v := (3 : Int32)) hx hb dX8_builds_24 (by decide) (W.pc 25 rfl ?_)
  refine lv_iload_n hx hb dX8_builds_25 rfl (lv_at hl 2 rfl) (W.pc 26 rfl ?_)
  refine lv_iadd hx hb dX8_builds_26 (W.pc 27 rfl ?_)
  refine lv_dup2_11 hx hb dX8_builds_27 rfl rfl (W.pc 28 rfl ?_)
  refine va_iald hx hb hK hP 0 0 rfl rfl h1 dX8_builds_28 (W.pc 29 rfl ?_)
  refine lv_iconst (v := (1 : Int32)) hx hb dX8_builds_29 (by decide) (W.pc 30 rfl ?_)
  refine lv_iadd hx hb dX8_builds_30 (W.pc 31 rfl ?_)
  refine va_iast hx hb hK hP hD hS 0 0 rfl rfl h1 dX8_builds_31 (fun H locs hP hD hS => W.pc 32 rfl ?_)
  have hP : wP E [(a0, aI E 682 (upd (upd (upd fa0 ((sp_X8_storey p1 (fa0 (((3 : Int32) + p1)).toNatClampNeg))).toNatClampNeg p2) (((sp_X8_storey p1 (fa0 (((3 : Int32) + p1)).toNatClampNeg)) + (1 : Int32))).toNatClampNeg p3) (((3 : Int32) + p1)).toNatClampNeg (((upd (upd fa0 ((sp_X8_storey p1 (fa0 (((3 : Int32) + p1)).toNatClampNeg))).toNatClampNeg p2) (((sp_X8_storey p1 (fa0 (((3 : Int32) + p1)).toNatClampNeg)) + (1 : Int32))).toNatClampNeg p3) (((3 : Int32) + p1)).toNatClampNeg) + (1 : Int32))))] _ := hP
  have hD : va_D A [(a0, aI E 682 (upd (upd (upd fa0 ((sp_X8_storey p1 (fa0 (((3 : Int32) + p1)).toNatClampNeg))).toNatClampNeg p2) (((sp_X8_storey p1 (fa0 (((3 : Int32) + p1)).toNatClampNeg)) + (1 : Int32))).toNatClampNeg p3) (((3 : Int32) + p1)).toNatClampNeg (((upd (upd fa0 ((sp_X8_storey p1 (fa0 (((3 : Int32) + p1)).toNatClampNeg))).toNatClampNeg p2) (((sp_X8_storey p1 (fa0 (((3 : Int32) + p1)).toNatClampNeg)) + (1 : Int32))).toNatClampNeg p3) (((3 : Int32) + p1)).toNatClampNeg) + (1 : Int32))))] := hD
  refine lv_aload_n hx hb dX8_builds_32 rfl (lv_at hl 1 rfl) (W.pc 33 rfl ?_)
  refine lv_iload_n hx hb dX8_builds_33 rfl (lv_at hl 2 rfl) (W.pc 34 rfl ?_)
  obtain ⟨z4, hr_z4, hsp⟩ := bd_s hsp
  refine kSR (st1 := [.int z4]) hX (c_X8_falling l E a0 p1 (upd (upd (upd fa0 ((sp_X8_storey p1 (fa0 (((3 : Int32) + p1)).toNatClampNeg))).toNatClampNeg p2) (((sp_X8_storey p1 (fa0 (((3 : Int32) + p1)).toNatClampNeg)) + (1 : Int32))).toNatClampNeg p3) (((3 : Int32) + p1)).toNatClampNeg (((upd (upd fa0 ((sp_X8_storey p1 (fa0 (((3 : Int32) + p1)).toNatClampNeg))).toNatClampNeg p2) (((sp_X8_storey p1 (fa0 (((3 : Int32) + p1)).toNatClampNeg)) + (1 : Int32))).toNatClampNeg p3) (((3 : Int32) + p1)).toNatClampNeg) + (1 : Int32))) z4 hr_z4) B_X8_falling w_5_0 hK (hP.pick [0] rfl) rfl hl.1 rfl (Nat.le_of_ble_eq_true rfl) ⟨Nat.le_of_ble_eq_true rfl, Nat.le_of_ble_eq_true rfl⟩ dX8_builds_34 rfl (W.pc 37 rfl ?_)
  refine lv_istore (lv' := [(5, .int z4), (4, .int (sp_X8_storey p1 (fa0 (((3 : Int32) + p1)).toNatClampNeg))), (0, .ref a0), (1, .int p1), (2, .int p2), (3, .int p3)]) hx hb dX8_builds_37 hl (by decide) rfl (fun ls hl => W.pc 39 rfl ?_)
  have L_39 : ∀ (z5 : Int32 × (Nat → Int32)), (∀ (H : Heap) (locs : List Loc) (ls : Array Slot), wP E [(a0, aI E 682 z5.2)] H → va_D A [(a0, aI E 682 z5.2)] → va_S A s.heap H locs → lv_has ls 7 [] → W p l e (wR 3) s m [.ref a0, .int p1, .int p2, .int p3].toArray below meth c H locs 0 0 (MQ below (QWd E A none [(a0, aI E 682 z)]) [.ref a0, .int p1, .int p2, .int p3].toArray s 0 0 A) (F0 m 100 ls [])) → ∀ (fu : Nat) (x5_39 : Int32) (ya0_f_39 : (Nat → Int32)), ∀ (H : Heap) (locs : List Loc) (ls : Array Slot), wP E [(a0, aI E 682 ya0_f_39)] H → va_D A [(a0, aI E 682 ya0_f_39)] → va_S A s.heap H locs → lv_has ls 7 [(0, .ref a0), (1, .int p1), (5, .int x5_39)] → lp_X8_builds_39 p1 fu x5_39 ya0_f_39 = some z5 → W p l e (wR 3) s m [.ref a0, .int p1, .int p2, .int p3].toArray below meth c H locs 0 0 (MQ below (QWd E A none [(a0, aI E 682 z)]) [.ref a0, .int p1, .int p2, .int p3].toArray s 0 0 A) (F0 m 39 ls []) := by
    intro z5 hk_39 fu
    induction fu with
    | zero => intro x5_39 ya0_f_39 H locs ls hP hD hS hl hsp; exact absurd (show none = some _ from hsp) (by simp)
    | succ fu ih_39 =>
      intro x5_39 ya0_f_39 H locs ls hP hD hS hl hsp
      have hsp : (if (ya0_f_39 (((3 : Int32) + p1)).toNatClampNeg) ≤ x5_39 then (some (x5_39, ya0_f_39)) else (Option.bind (lp_X8_builds_57 p1 FU (sp_X8_storey p1 x5_39) ya0_f_39) fun z7 => Option.bind (sp_X8_falling p1 (upd z7.2 (((3 : Int32) + p1)).toNatClampNeg x5_39)) fun z10 => lp_X8_builds_39 p1 fu z10 (upd z7.2 (((3 : Int32) + p1)).toNatClampNeg x5_39))) = some z5 := hsp
      refine lv_iload hx hb dX8_builds_39 (lv_at hl 2 rfl) (W.pc 41 rfl ?_)
      refine lv_aload_n hx hb dX8_builds_41 rfl (lv_at hl 0 rfl) (W.pc 42 rfl ?_)
      refine lv_iconst (v := (3 : Int32)) hx hb dX8_builds_42 (by decide) (W.pc 43 rfl ?_)
      refine lv_iload_n hx hb dX8_builds_43 rfl (lv_at hl 1 rfl) (W.pc 44 rfl ?_)
      refine lv_iadd hx hb dX8_builds_44 (W.pc 45 rfl ?_)
      refine va_iald hx hb hK hP 0 0 rfl rfl h1 dX8_builds_45 (W.pc 46 rfl ?_)
      refine lv_icmp_ge (tgt := 100) hx hb dX8_builds_46 (by decide) (fun c6 => ?_) (fun c6 => W.pc 49 rfl ?_)
      · have hsp := ip hsp c6
        obtain rfl := Option.some.inj hsp
        exact hk_39 _ _ _ hP hD hS (lv_sub hl [] rfl)
      · have hsp := iq hsp c6
        refine lv_iload_n hx hb dX8_builds_49 rfl (lv_at hl 1 rfl) (W.pc 50 rfl ?_)
        refine lv_iload hx hb dX8_builds_50 (lv_at hl 2 rfl) (W.pc 52 rfl ?_)
        refine kSR (st1 := [.int (sp_X8_storey p1 x5_39)]) hX (c_X8_storey l E p1 x5_39 _ rfl) B_X8_storey w_4_237 hK (hP.pick [] rfl) rfl hl.1 rfl (Nat.le_of_ble_eq_true rfl) ⟨Nat.le_of_ble_eq_true rfl, Nat.le_of_ble_eq_true rfl⟩ dX8_builds_52 rfl (W.pc 55 rfl ?_)
        refine lv_istore (lv' := [(6, .int (sp_X8_storey p1 x5_39)), (0, .ref a0), (1, .int p1), (5, .int x5_39)]) hx hb dX8_builds_55 hl (by decide) rfl (fun ls hl => W.pc 57 rfl ?_)
        have L_57 : ∀ (z7 : Int32 × (Nat → Int32)), (∀ (H : Heap) (locs : List Loc) (ls : Array Slot), wP E [(a0, aI E 682 z7.2)] H → va_D A [(a0, aI E 682 z7.2)] → va_S A s.heap H locs → lv_has ls 7 [(0, .ref a0), (1, .int p1), (5, .int x5_39)] → W p l e (wR 3) s m [.ref a0, .int p1, .int p2, .int p3].toArray below meth c H locs 0 0 (MQ below (QWd E A none [(a0, aI E 682 z)]) [.ref a0, .int p1, .int p2, .int p3].toArray s 0 0 A) (F0 m 83 ls [])) → ∀ (fu : Nat) (x6_57 : Int32) (ya0_f_57 : (Nat → Int32)), ∀ (H : Heap) (locs : List Loc) (ls : Array Slot), wP E [(a0, aI E 682 ya0_f_57)] H → va_D A [(a0, aI E 682 ya0_f_57)] → va_S A s.heap H locs → lv_has ls 7 [(0, .ref a0), (1, .int p1), (5, .int x5_39), (6, .int x6_57)] → lp_X8_builds_57 p1 fu x6_57 ya0_f_57 = some z7 → W p l e (wR 3) s m [.ref a0, .int p1, .int p2, .int p3].toArray below meth c H locs 0 0 (MQ below (QWd E A none [(a0, aI E 682 z)]) [.ref a0, .int p1, .int p2, .int p3].toArray s 0 0 A) (F0 m 57 ls []) := by
          intro z7 hk_57 fu
          induction fu with
          | zero => intro x6_57 ya0_f_57 H locs ls hP hD hS hl hsp; exact absurd (show none = some _ from hsp) (by simp)
          | succ fu ih_57 =>
            intro x6_57 ya0_f_57 H locs ls hP hD hS hl hsp
            have hsp : (if (((9 : Int32) + ((10 : Int32) * p1)) + (10 : Int32)) ≤ x6_57 then (some (x6_57, ya0_f_57)) else (gi x6_57 682 (lp_X8_builds_57 p1 fu (x6_57 + (1 : Int32)) (upd ya0_f_57 (x6_57).toNatClampNeg (0 : Int32))))) = some z7 := hsp
            refine lv_iload hx hb dX8_builds_57 (lv_at hl 3 rfl) (W.pc 59 rfl ?_)
            refine lv_bipush (v := (9 : Int32)) hx hb dX8_builds_59 (by decide) (W.pc 61 rfl ?_)
            refine lv_bipush (v := (10 : Int32)) hx hb dX8_builds_61 (by decide) (W.pc 63 rfl ?_)
            refine lv_iload_n hx hb dX8_builds_63 rfl (lv_at hl 1 rfl) (W.pc 64 rfl ?_)
            refine lv_imul hx hb dX8_builds_64 (W.pc 65 rfl ?_)
            refine lv_iadd hx hb dX8_builds_65 (W.pc 66 rfl ?_)
            refine lv_bipush (v := (10 : Int32)) hx hb dX8_builds_66 (by decide) (W.pc 68 rfl ?_)
            refine lv_iadd hx hb dX8_builds_68 (W.pc 69 rfl ?_)
            refine lv_icmp_ge (tgt := 83) hx hb dX8_builds_69 (by decide) (fun c8 => ?_) (fun c8 => W.pc 72 rfl ?_)
            · have hsp := ip hsp c8
              obtain rfl := Option.some.inj hsp
              exact hk_57 _ _ _ hP hD hS (lv_sub hl [0, 1, 2] rfl)
            · have hsp := iq hsp c8
              refine lv_aload_n hx hb dX8_builds_72 rfl (lv_at hl 0 rfl) (W.pc 73 rfl ?_)
              refine lv_iload hx hb dX8_builds_73 (lv_at hl 3 rfl) (W.pc 75 rfl ?_)
              refine lv_iconst (v := (0 : Int32)) hx hb dX8_builds_75 (by decide) (W.pc 76 rfl ?_)
              obtain ⟨h9, hsp⟩ := gi_s hsp
              refine va_iast hx hb hK hP hD hS 0 0 rfl rfl h9 dX8_builds_76 (fun H locs hP hD hS => W.pc 77 rfl ?_)
              have hP : wP E [(a0, aI E 682 (upd ya0_f_57 (x6_57).toNatClampNeg (0 : Int32)))] _ := hP
              have hD : va_D A [(a0, aI E 682 (upd ya0_f_57 (x6_57).toNatClampNeg (0 : Int32)))] := hD
              refine lv_iinc (v := (x6_57 + (1 : Int32))) (lv' := [(6, .int (x6_57 + (1 : Int32))), (0, .ref a0), (1, .int p1), (5, .int x5_39)]) hx hb dX8_builds_77 hl (k := 3) rfl rfl (by decide) rfl (fun ls hl => W.pc 80 rfl ?_)
              refine lv_goto (tgt := 57) hx hb dX8_builds_80 (by decide) ?_
              exact ih_57 (x6_57 + (1 : Int32)) (upd ya0_f_57 (x6_57).toNatClampNeg (0 : Int32)) _ _ _ hP hD hS (lv_sub hl [1, 2, 3, 0] rfl) hsp
        obtain ⟨z7, hr_z7, hsp⟩ := bd_s hsp
        refine L_57 z7 (fun H locs ls hP hD hS hl => ?_) FU (sp_X8_storey p1 x5_39) ya0_f_39 _ _ _ hP hD hS (lv_sub hl [1, 2, 3, 0] rfl) hr_z7
        refine lv_aload_n hx hb dX8_builds_83 rfl (lv_at hl 0 rfl) (W.pc 84 rfl ?_)
        refine lv_iconst (v := (3 : Int32)) hx hb dX8_builds_84 (by decide) (W.pc 85 rfl ?_)
        refine lv_iload_n hx hb dX8_builds_85 rfl (lv_at hl 1 rfl) (W.pc 86 rfl ?_)
        refine lv_iadd hx hb dX8_builds_86 (W.pc 87 rfl ?_)
        refine lv_iload hx hb dX8_builds_87 (lv_at hl 2 rfl) (W.pc 89 rfl ?_)
        refine va_iast hx hb hK hP hD hS 0 0 rfl rfl h1 dX8_builds_89 (fun H locs hP hD hS => W.pc 90 rfl ?_)
        have hP : wP E [(a0, aI E 682 (upd z7.2 (((3 : Int32) + p1)).toNatClampNeg x5_39))] _ := hP
        have hD : va_D A [(a0, aI E 682 (upd z7.2 (((3 : Int32) + p1)).toNatClampNeg x5_39))] := hD
        refine lv_aload_n hx hb dX8_builds_90 rfl (lv_at hl 0 rfl) (W.pc 91 rfl ?_)
        refine lv_iload_n hx hb dX8_builds_91 rfl (lv_at hl 1 rfl) (W.pc 92 rfl ?_)
        obtain ⟨z10, hr_z10, hsp⟩ := bd_s hsp
        refine kSR (st1 := [.int z10]) hX (c_X8_falling l E a0 p1 (upd z7.2 (((3 : Int32) + p1)).toNatClampNeg x5_39) z10 hr_z10) B_X8_falling w_5_0 hK (hP.pick [0] rfl) rfl hl.1 rfl (Nat.le_of_ble_eq_true rfl) ⟨Nat.le_of_ble_eq_true rfl, Nat.le_of_ble_eq_true rfl⟩ dX8_builds_92 rfl (W.pc 95 rfl ?_)
        refine lv_istore (lv' := [(5, .int z10), (0, .ref a0), (1, .int p1)]) hx hb dX8_builds_95 hl (by decide) rfl (fun ls hl => W.pc 97 rfl ?_)
        refine lv_goto (tgt := 39) hx hb dX8_builds_97 (by decide) ?_
        exact ih_39 z10 (upd z7.2 (((3 : Int32) + p1)).toNatClampNeg x5_39) _ _ _ hP hD hS (lv_sub hl [1, 2, 0] rfl) hsp
  obtain ⟨z5, hr_z5, hsp⟩ := bd_s hsp
  refine L_39 z5 (fun H locs ls hP hD hS hl => ?_) FU z4 (upd (upd (upd fa0 ((sp_X8_storey p1 (fa0 (((3 : Int32) + p1)).toNatClampNeg))).toNatClampNeg p2) (((sp_X8_storey p1 (fa0 (((3 : Int32) + p1)).toNatClampNeg)) + (1 : Int32))).toNatClampNeg p3) (((3 : Int32) + p1)).toNatClampNeg (((upd (upd fa0 ((sp_X8_storey p1 (fa0 (((3 : Int32) + p1)).toNatClampNeg))).toNatClampNeg p2) (((sp_X8_storey p1 (fa0 (((3 : Int32) + p1)).toNatClampNeg)) + (1 : Int32))).toNatClampNeg p3) (((3 : Int32) + p1)).toNatClampNeg) + (1 : Int32))) _ _ _ hP hD hS (lv_sub hl [2, 3, 0] rfl) hr_z5
  obtain rfl := Option.some.inj hsp
  exact rWv hX hP hS rfl dX8_builds_100
noncomputable def sp_X8_pullIn (p1 : Int32) (fa0 : Nat → Int32) : Option (Int32) := gi ((69 : Int32) + (p1 - p1 / (6 : Int32) * (6 : Int32))) 682 (some (fa0 (((69 : Int32) + (p1 - p1 / (6 : Int32) * (6 : Int32)))).toNatClampNeg))
set_option maxHeartbeats 4000000 in
set_option maxRecDepth 100000 in
theorem c_X8_pullIn (l : Launch) (E : wE) (a0 : Nat) (p1 : Int32) (fa0 : Nat → Int32) (z : Int32) (hsp : sp_X8_pullIn p1 fa0 = some z) : MR l yX8_pullIn cX8_pullIn 2 (some .int) 0 E [.ref a0, .int p1] [(a0, aI E 682 fa0)] (some (.int z)) := by
  refine MR.of (by decide +kernel) (Nat.le_of_ble_eq_true rfl) ?_
  intro p e s m below meth c ls hX hK hP hl
  have hX : CX p s m [.ref a0, .int p1].toArray meth c cX8_pullIn 2 (some .int) RX8 := hX
  have hx := hX.1; have hb := hX.2.1; have hts := hX.2.2.2.2.1; have hown := hX.2.2.2.2.2.1
  have hl : lv_has ls 2 [(0, .ref a0), (1, .int p1)] := hl
  have hsp : (gi ((69 : Int32) + (p1 - p1 / (6 : Int32) * (6 : Int32))) 682 (some (fa0 (((69 : Int32) + (p1 - p1 / (6 : Int32) * (6 : Int32)))).toNatClampNeg))) = some z := hsp
  refine lv_aload_n hx hb dX8_pullIn_0 rfl (lv_at hl 0 rfl) (W.pc 1 rfl ?_)
  refine lv_bipush (v := (69 : Int32)) hx hb dX8_pullIn_1 (by decide) (W.pc 3 rfl ?_)
  refine lv_iload_n hx hb dX8_pullIn_3 rfl (lv_at hl 1 rfl) (W.pc 4 rfl ?_)
  refine lv_bipush (v := (6 : Int32)) hx hb dX8_pullIn_4 (by decide) (W.pc 6 rfl ?_)
  refine lv_irem hx hb dX8_pullIn_6 (by decide) (W.pc 7 rfl ?_)
  refine lv_iadd hx hb dX8_pullIn_7 (W.pc 8 rfl ?_)
  obtain ⟨h1, hsp⟩ := gi_s hsp
  refine va_iald hx hb hK hP 0 0 rfl rfl h1 dX8_pullIn_8 (W.pc 9 rfl ?_)
  obtain rfl := Option.some.inj hsp
  exact rRi hX rfl dX8_pullIn_9
noncomputable def sp_X8_passes (fa0 : Nat → Int32) : Option ((Nat → Int32)) := Option.bind (sp_X8_pullIn (fa0 ((2 : Int32)).toNatClampNeg) fa0) fun z1 => some (upd (upd fa0 ((1 : Int32)).toNatClampNeg (sp_X8_behind (fa0 ((0 : Int32)).toNatClampNeg) (fa0 ((1 : Int32)).toNatClampNeg) z1 (fa0 ((2 : Int32)).toNatClampNeg))) ((2 : Int32)).toNatClampNeg (((upd fa0 ((1 : Int32)).toNatClampNeg (sp_X8_behind (fa0 ((0 : Int32)).toNatClampNeg) (fa0 ((1 : Int32)).toNatClampNeg) z1 (fa0 ((2 : Int32)).toNatClampNeg))) ((2 : Int32)).toNatClampNeg) + (1 : Int32)))
set_option maxHeartbeats 4000000 in
set_option maxRecDepth 100000 in
theorem c_X8_passes (l : Launch) (E : wE) (a0 : Nat) (fa0 : Nat → Int32) (z : (Nat → Int32)) (hsp : sp_X8_passes fa0 = some z) : MW l yX8_passes cX8_passes 1 none 2 E [.ref a0] [(a0, aI E 682 fa0)] none [(a0, aI E 682 z)] := by
  refine MW.of (by decide +kernel) (Nat.le_of_ble_eq_true rfl) ?_
  intro p e s m below meth c ls A hX hK hP hD hS hA hl
  have hX : CX p s m [.ref a0].toArray meth c cX8_passes 1 none RX8 := hX
  have hx := hX.1; have hb := hX.2.1; have hts := hX.2.2.2.2.1; have hown := hX.2.2.2.2.2.1
  have hl : lv_has ls 1 [(0, .ref a0)] := hl
  have hP : wP E [(a0, aI E 682 fa0)] s.heap := hP
  have hsp : (Option.bind (sp_X8_pullIn (fa0 ((2 : Int32)).toNatClampNeg) fa0) fun z1 => some (upd (upd fa0 ((1 : Int32)).toNatClampNeg (sp_X8_behind (fa0 ((0 : Int32)).toNatClampNeg) (fa0 ((1 : Int32)).toNatClampNeg) z1 (fa0 ((2 : Int32)).toNatClampNeg))) ((2 : Int32)).toNatClampNeg (((upd fa0 ((1 : Int32)).toNatClampNeg (sp_X8_behind (fa0 ((0 : Int32)).toNatClampNeg) (fa0 ((1 : Int32)).toNatClampNeg) z1 (fa0 ((2 : Int32)).toNatClampNeg))) ((2 : Int32)).toNatClampNeg) + (1 : Int32)))) = some z := hsp
  refine lv_aload_n hx hb dX8_passes_0 rfl (lv_at hl 0 rfl) (W.pc 1 rfl ?_)
  refine lv_iconst (v := (1 : Int32)) hx hb dX8_passes_1 (by decide) (W.pc 2 rfl ?_)
  refine lv_aload_n hx hb dX8_passes_2 rfl (lv_at hl 0 rfl) (W.pc 3 rfl ?_)
  refine lv_iconst (v := (0 : Int32)) hx hb dX8_passes_3 (by decide) (W.pc 4 rfl ?_)
  refine va_iald hx hb hK hP 0 0 rfl rfl (vp_in_nI (n := 0) (N := 682) (by decide) (by decide)) dX8_passes_4 (W.pc 5 rfl ?_)
  refine lv_aload_n hx hb dX8_passes_5 rfl (lv_at hl 0 rfl) (W.pc 6 rfl ?_)
  refine lv_iconst (v := (1 : Int32)) hx hb dX8_passes_6 (by decide) (W.pc 7 rfl ?_)
  refine va_iald hx hb hK hP 0 0 rfl rfl (vp_in_nI (n := 1) (N := 682) (by decide) (by decide)) dX8_passes_7 (W.pc 8 rfl ?_)
  refine lv_aload_n hx hb dX8_passes_8 rfl (lv_at hl 0 rfl) (W.pc 9 rfl ?_)
  refine lv_aload_n hx hb dX8_passes_9 rfl (lv_at hl 0 rfl) (W.pc 10 rfl ?_)
  refine lv_iconst (v := (2 : Int32)) hx hb dX8_passes_10 (by decide) (W.pc 11 rfl ?_)
  refine va_iald hx hb hK hP 0 0 rfl rfl (vp_in_nI (n := 2) (N := 682) (by decide) (by decide)) dX8_passes_11 (W.pc 12 rfl ?_)
  obtain ⟨z1, hr_z1, hsp⟩ := bd_s hsp
  refine kSR (st1 := [.int z1, .int (fa0 ((1 : Int32)).toNatClampNeg), .int (fa0 ((0 : Int32)).toNatClampNeg), .int (1 : Int32), .ref a0]) hX (c_X8_pullIn l E a0 (fa0 ((2 : Int32)).toNatClampNeg) fa0 z1 hr_z1) B_X8_pullIn w_4_218 hK (hP.pick [0] rfl) rfl hl.1 rfl (Nat.le_of_ble_eq_true rfl) ⟨Nat.le_of_ble_eq_true rfl, Nat.le_of_ble_eq_true rfl⟩ dX8_passes_12 rfl (W.pc 15 rfl ?_)
  refine lv_aload_n hx hb dX8_passes_15 rfl (lv_at hl 0 rfl) (W.pc 16 rfl ?_)
  refine lv_iconst (v := (2 : Int32)) hx hb dX8_passes_16 (by decide) (W.pc 17 rfl ?_)
  refine va_iald hx hb hK hP 0 0 rfl rfl (vp_in_nI (n := 2) (N := 682) (by decide) (by decide)) dX8_passes_17 (W.pc 18 rfl ?_)
  refine kSR (st1 := [.int (sp_X8_behind (fa0 ((0 : Int32)).toNatClampNeg) (fa0 ((1 : Int32)).toNatClampNeg) z1 (fa0 ((2 : Int32)).toNatClampNeg)), .int (1 : Int32), .ref a0]) hX (c_X8_behind l E (fa0 ((0 : Int32)).toNatClampNeg) (fa0 ((1 : Int32)).toNatClampNeg) z1 (fa0 ((2 : Int32)).toNatClampNeg) _ rfl) B_X8_behind w_4_221 hK (hP.pick [] rfl) rfl hl.1 rfl (Nat.le_of_ble_eq_true rfl) ⟨Nat.le_of_ble_eq_true rfl, Nat.le_of_ble_eq_true rfl⟩ dX8_passes_18 rfl (W.pc 21 rfl ?_)
  refine va_iast hx hb hK hP hD hS 0 0 rfl rfl (vp_in_nI (n := 1) (N := 682) (by decide) (by decide)) dX8_passes_21 (fun H locs hP hD hS => W.pc 22 rfl ?_)
  have hP : wP E [(a0, aI E 682 (upd fa0 ((1 : Int32)).toNatClampNeg (sp_X8_behind (fa0 ((0 : Int32)).toNatClampNeg) (fa0 ((1 : Int32)).toNatClampNeg) z1 (fa0 ((2 : Int32)).toNatClampNeg))))] _ := hP
  have hD : va_D A [(a0, aI E 682 (upd fa0 ((1 : Int32)).toNatClampNeg (sp_X8_behind (fa0 ((0 : Int32)).toNatClampNeg) (fa0 ((1 : Int32)).toNatClampNeg) z1 (fa0 ((2 : Int32)).toNatClampNeg))))] := hD
  refine lv_aload_n hx hb dX8_passes_22 rfl (lv_at hl 0 rfl) (W.pc 23 rfl ?_)
  refine lv_iconst (v := (2 : Int32)) hx hb dX8_passes_23 (by decide) (W.pc 24 rfl ?_)
  refine lv_dup2_11 hx hb dX8_passes_24 rfl rfl (W.pc 25 rfl ?_)
  refine va_iald hx hb hK hP 0 0 rfl rfl (vp_in_nI (n := 2) (N := 682) (by decide) (by decide)) dX8_passes_25 (W.pc 26 rfl ?_)
  refine lv_iconst (v := (1 : Int32)) hx hb dX8_passes_26 (by decide) (W.pc 27 rfl ?_)
  refine lv_iadd hx hb dX8_passes_27 (W.pc 28 rfl ?_)
  refine va_iast hx hb hK hP hD hS 0 0 rfl rfl (vp_in_nI (n := 2) (N := 682) (by decide) (by decide)) dX8_passes_28 (fun H locs hP hD hS => W.pc 29 rfl ?_)
  have hP : wP E [(a0, aI E 682 (upd (upd fa0 ((1 : Int32)).toNatClampNeg (sp_X8_behind (fa0 ((0 : Int32)).toNatClampNeg) (fa0 ((1 : Int32)).toNatClampNeg) z1 (fa0 ((2 : Int32)).toNatClampNeg))) ((2 : Int32)).toNatClampNeg (((upd fa0 ((1 : Int32)).toNatClampNeg (sp_X8_behind (fa0 ((0 : Int32)).toNatClampNeg) (fa0 ((1 : Int32)).toNatClampNeg) z1 (fa0 ((2 : Int32)).toNatClampNeg))) ((2 : Int32)).toNatClampNeg) + (1 : Int32))))] _ := hP
  have hD : va_D A [(a0, aI E 682 (upd (upd fa0 ((1 : Int32)).toNatClampNeg (sp_X8_behind (fa0 ((0 : Int32)).toNatClampNeg) (fa0 ((1 : Int32)).toNatClampNeg) z1 (fa0 ((2 : Int32)).toNatClampNeg))) ((2 : Int32)).toNatClampNeg (((upd fa0 ((1 : Int32)).toNatClampNeg (sp_X8_behind (fa0 ((0 : Int32)).toNatClampNeg) (fa0 ((1 : Int32)).toNatClampNeg) z1 (fa0 ((2 : Int32)).toNatClampNeg))) ((2 : Int32)).toNatClampNeg) + (1 : Int32))))] := hD
  obtain rfl := Option.some.inj hsp
  exact rWv hX hP hS rfl dX8_passes_29
noncomputable def lp_X8_storeys_4 (fa0 : Nat → Int32) : Nat → Int32 → Int32 → Option (Int32 × Int32)
 | 0, _, _ => none
 | fu + 1, x1_4, x2_4 => if (6 : Int32) ≤ x2_4 then (some (x1_4, x2_4)) else (gi ((3 : Int32) + x2_4) 682 (lp_X8_storeys_4 fa0 fu (x1_4 + (fa0 (((3 : Int32) + x2_4)).toNatClampNeg)) (x2_4 + (1 : Int32))))
noncomputable def sp_X8_storeys (fa0 : Nat → Int32) : Option (Int32) := Option.bind (lp_X8_storeys_4 fa0 FU (0 : Int32) (0 : Int32)) fun z1 => some z1.1
set_option maxHeartbeats 4000000 in
set_option maxRecDepth 100000 in
theorem c_X8_storeys (l : Launch) (E : wE) (a0 : Nat) (fa0 : Nat → Int32) (z : Int32) (hsp : sp_X8_storeys fa0 = some z) : MR l yX8_storeys cX8_storeys 3 (some .int) 0 E [.ref a0] [(a0, aI E 682 fa0)] (some (.int z)) := by
  refine MR.of (by decide +kernel) (Nat.le_of_ble_eq_true rfl) ?_
  intro p e s m below meth c ls hX hK hP hl
  have hX : CX p s m [.ref a0].toArray meth c cX8_storeys 3 (some .int) RX8 := hX
  have hx := hX.1; have hb := hX.2.1; have hts := hX.2.2.2.2.1; have hown := hX.2.2.2.2.2.1
  have hl : lv_has ls 3 [(0, .ref a0)] := hl
  have hsp : (Option.bind (lp_X8_storeys_4 fa0 FU (0 : Int32) (0 : Int32)) fun z1 => some z1.1) = some z := hsp
  refine lv_iconst (v := (0 : Int32)) hx hb dX8_storeys_0 (by decide) (W.pc 1 rfl ?_)
  refine lv_istore_n (lv' := [(1, .int (0 : Int32)), (0, .ref a0)]) hx hb dX8_storeys_1 rfl hl (by decide) rfl (fun ls hl => W.pc 2 rfl ?_)
  refine lv_iconst (v := (0 : Int32)) hx hb dX8_storeys_2 (by decide) (W.pc 3 rfl ?_)
  refine lv_istore_n (lv' := [(2, .int (0 : Int32)), (1, .int (0 : Int32)), (0, .ref a0)]) hx hb dX8_storeys_3 rfl hl (by decide) rfl (fun ls hl => W.pc 4 rfl ?_)
  have L_4 : ∀ (z1 : Int32 × Int32), (∀ (ls : Array Slot), lv_has ls 3 [(1, .int z1.1)] → W p l e (wR 0) s m [.ref a0].toArray below meth c s.heap [] 0 0 (MQ below (QRd E (some (.int z))) [.ref a0].toArray s 0 0 (fun _ => False)) (F0 m 24 ls [])) → ∀ (fu : Nat) (x1_4 : Int32) (x2_4 : Int32), ∀ (ls : Array Slot), lv_has ls 3 [(0, .ref a0), (1, .int x1_4), (2, .int x2_4)] → lp_X8_storeys_4 fa0 fu x1_4 x2_4 = some z1 → W p l e (wR 0) s m [.ref a0].toArray below meth c s.heap [] 0 0 (MQ below (QRd E (some (.int z))) [.ref a0].toArray s 0 0 (fun _ => False)) (F0 m 4 ls []) := by
    intro z1 hk_4 fu
    induction fu with
    | zero => intro x1_4 x2_4 ls hl hsp; exact absurd (show none = some _ from hsp) (by simp)
    | succ fu ih_4 =>
      intro x1_4 x2_4 ls hl hsp
      have hsp : (if (6 : Int32) ≤ x2_4 then (some (x1_4, x2_4)) else (gi ((3 : Int32) + x2_4) 682 (lp_X8_storeys_4 fa0 fu (x1_4 + (fa0 (((3 : Int32) + x2_4)).toNatClampNeg)) (x2_4 + (1 : Int32))))) = some z1 := hsp
      refine lv_iload_n hx hb dX8_storeys_4 rfl (lv_at hl 2 rfl) (W.pc 5 rfl ?_)
      refine lv_bipush (v := (6 : Int32)) hx hb dX8_storeys_5 (by decide) (W.pc 7 rfl ?_)
      refine lv_icmp_ge (tgt := 24) hx hb dX8_storeys_7 (by decide) (fun c2 => ?_) (fun c2 => W.pc 10 rfl ?_)
      · have hsp := ip hsp c2
        obtain rfl := Option.some.inj hsp
        exact hk_4 _ (lv_sub hl [1] rfl)
      · have hsp := iq hsp c2
        refine lv_iload_n hx hb dX8_storeys_10 rfl (lv_at hl 1 rfl) (W.pc 11 rfl ?_)
        refine lv_aload_n hx hb dX8_storeys_11 rfl (lv_at hl 0 rfl) (W.pc 12 rfl ?_)
        refine lv_iconst (v := (3 : Int32)) hx hb dX8_storeys_12 (by decide) (W.pc 13 rfl ?_)
        refine lv_iload_n hx hb dX8_storeys_13 rfl (lv_at hl 2 rfl) (W.pc 14 rfl ?_)
        refine lv_iadd hx hb dX8_storeys_14 (W.pc 15 rfl ?_)
        obtain ⟨h3, hsp⟩ := gi_s hsp
        refine va_iald hx hb hK hP 0 0 rfl rfl h3 dX8_storeys_15 (W.pc 16 rfl ?_)
        refine lv_iadd hx hb dX8_storeys_16 (W.pc 17 rfl ?_)
        refine lv_istore_n (lv' := [(1, .int (x1_4 + (fa0 (((3 : Int32) + x2_4)).toNatClampNeg))), (0, .ref a0), (2, .int x2_4)]) hx hb dX8_storeys_17 rfl hl (by decide) rfl (fun ls hl => W.pc 18 rfl ?_)
        refine lv_iinc (v := (x2_4 + (1 : Int32))) (lv' := [(2, .int (x2_4 + (1 : Int32))), (1, .int (x1_4 + (fa0 (((3 : Int32) + x2_4)).toNatClampNeg))), (0, .ref a0)]) hx hb dX8_storeys_18 hl (k := 2) rfl rfl (by decide) rfl (fun ls hl => W.pc 21 rfl ?_)
        refine lv_goto (tgt := 4) hx hb dX8_storeys_21 (by decide) ?_
        exact ih_4 (x1_4 + (fa0 (((3 : Int32) + x2_4)).toNatClampNeg)) (x2_4 + (1 : Int32)) _ (lv_sub hl [2, 1, 0] rfl) hsp
  obtain ⟨z1, hr_z1, hsp⟩ := bd_s hsp
  refine L_4 z1 (fun ls hl => ?_) FU (0 : Int32) (0 : Int32) _ (lv_sub hl [2, 1, 0] rfl) hr_z1
  refine lv_iload_n hx hb dX8_storeys_24 rfl (lv_at hl 0 rfl) (W.pc 25 rfl ?_)
  obtain rfl := Option.some.inj hsp
  exact rRi hX rfl dX8_storeys_25
def sp_X8_isPlot (p0 : Int32) : Int32 := (sp_X8_in p0 (0 : Int32) (5 : Int32))
theorem bz_X8_isPlot {p0 : Int32} : narrow .boolean (.int (sp_X8_isPlot p0)) = .int (sp_X8_isPlot p0) := by
  unfold sp_X8_isPlot
  repeat' split
  all_goals first | rfl | apply bz_X8_in
set_option maxHeartbeats 4000000 in
set_option maxRecDepth 100000 in
theorem c_X8_isPlot (l : Launch) (E : wE) (p0 : Int32) (z : Int32) (hsp : sp_X8_isPlot p0 = z) : MR l yX8_isPlot cX8_isPlot 1 (some .boolean) 1 E [.int p0] [] (some (.int z)) := by
  refine MR.of (by decide +kernel) (Nat.le_of_ble_eq_true rfl) ?_
  intro p e s m below meth c ls hX hK hP hl
  have hX : CX p s m [.int p0].toArray meth c cX8_isPlot 1 (some .boolean) RX8 := hX
  have hx := hX.1; have hb := hX.2.1; have hts := hX.2.2.2.2.1; have hown := hX.2.2.2.2.2.1
  have hl : lv_has ls 1 [(0, .int p0)] := hl
  have hsp : ((sp_X8_in p0 (0 : Int32) (5 : Int32))) = z := hsp
  refine lv_iload_n hx hb dX8_isPlot_0 rfl (lv_at hl 0 rfl) (W.pc 1 rfl ?_)
  refine lv_iconst (v := (0 : Int32)) hx hb dX8_isPlot_1 (by decide) (W.pc 2 rfl ?_)
  refine lv_iconst (v := (5 : Int32)) hx hb dX8_isPlot_2 (by decide) (W.pc 3 rfl ?_)
  refine kSR (st1 := [.int (sp_X8_in p0 (0 : Int32) (5 : Int32))]) hX (c_X8_in l E p0 (0 : Int32) (5 : Int32) _ rfl) B_X8_in w_4_125 hK (hP.pick [] rfl) rfl hl.1 rfl (Nat.le_of_ble_eq_true rfl) ⟨Nat.le_of_ble_eq_true rfl, Nat.le_of_ble_eq_true rfl⟩ dX8_isPlot_3 rfl (W.pc 6 rfl ?_)
  subst hsp
  exact rRz hX (by apply bz_X8_in) rfl dX8_isPlot_6
noncomputable def lp_X8_empties_2 : Nat → Int32 → ((Nat → Int32)) → Option (Int32 × (Nat → Int32))
 | 0, _, _ => none
 | fu + 1, x1_2, ya0_f_2 => if (682 : Int32) ≤ x1_2 then (some (x1_2, ya0_f_2)) else (gi x1_2 682 (lp_X8_empties_2 fu (x1_2 + (1 : Int32)) (upd ya0_f_2 (x1_2).toNatClampNeg (0 : Int32))))
noncomputable def sp_X8_empties (fa0 : Nat → Int32) : Option ((Nat → Int32)) := Option.bind (lp_X8_empties_2 FU (0 : Int32) fa0) fun z1 => some z1.2
set_option maxHeartbeats 4000000 in
set_option maxRecDepth 100000 in
theorem c_X8_empties (l : Launch) (E : wE) (a0 : Nat) (fa0 : Nat → Int32) (z : (Nat → Int32)) (hsp : sp_X8_empties fa0 = some z) : MW l yX8_empties cX8_empties 2 none 0 E [.ref a0] [(a0, aI E 682 fa0)] none [(a0, aI E 682 z)] := by
  refine MW.of (by decide +kernel) (Nat.le_of_ble_eq_true rfl) ?_
  intro p e s m below meth c ls A hX hK hP hD hS hA hl
  have hX : CX p s m [.ref a0].toArray meth c cX8_empties 2 none RX8 := hX
  have hx := hX.1; have hb := hX.2.1; have hts := hX.2.2.2.2.1; have hown := hX.2.2.2.2.2.1
  have hl : lv_has ls 2 [(0, .ref a0)] := hl
  have hP : wP E [(a0, aI E 682 fa0)] s.heap := hP
  have hsp : (Option.bind (lp_X8_empties_2 FU (0 : Int32) fa0) fun z1 => some z1.2) = some z := hsp
  refine lv_iconst (v := (0 : Int32)) hx hb dX8_empties_0 (by decide) (W.pc 1 rfl ?_)
  refine lv_istore_n (lv' := [(1, .int (0 : Int32)), (0, .ref a0)]) hx hb dX8_empties_1 rfl hl (by decide) rfl (fun ls hl => W.pc 2 rfl ?_)
  have L_2 : ∀ (z1 : Int32 × (Nat → Int32)), (∀ (H : Heap) (locs : List Loc) (ls : Array Slot), wP E [(a0, aI E 682 z1.2)] H → va_D A [(a0, aI E 682 z1.2)] → va_S A s.heap H locs → lv_has ls 2 [] → W p l e (wR 0) s m [.ref a0].toArray below meth c H locs 0 0 (MQ below (QWd E A none [(a0, aI E 682 z)]) [.ref a0].toArray s 0 0 A) (F0 m 19 ls [])) → ∀ (fu : Nat) (x1_2 : Int32) (ya0_f_2 : (Nat → Int32)), ∀ (H : Heap) (locs : List Loc) (ls : Array Slot), wP E [(a0, aI E 682 ya0_f_2)] H → va_D A [(a0, aI E 682 ya0_f_2)] → va_S A s.heap H locs → lv_has ls 2 [(0, .ref a0), (1, .int x1_2)] → lp_X8_empties_2 fu x1_2 ya0_f_2 = some z1 → W p l e (wR 0) s m [.ref a0].toArray below meth c H locs 0 0 (MQ below (QWd E A none [(a0, aI E 682 z)]) [.ref a0].toArray s 0 0 A) (F0 m 2 ls []) := by
    intro z1 hk_2 fu
    induction fu with
    | zero => intro x1_2 ya0_f_2 H locs ls hP hD hS hl hsp; exact absurd (show none = some _ from hsp) (by simp)
    | succ fu ih_2 =>
      intro x1_2 ya0_f_2 H locs ls hP hD hS hl hsp
      have hsp : (if (682 : Int32) ≤ x1_2 then (some (x1_2, ya0_f_2)) else (gi x1_2 682 (lp_X8_empties_2 fu (x1_2 + (1 : Int32)) (upd ya0_f_2 (x1_2).toNatClampNeg (0 : Int32))))) = some z1 := hsp
      refine lv_iload_n hx hb dX8_empties_2 rfl (lv_at hl 1 rfl) (W.pc 3 rfl ?_)
      refine lv_sipush (v := (682 : Int32)) hx hb dX8_empties_3 (by decide) (W.pc 6 rfl ?_)
      refine lv_icmp_ge (tgt := 19) hx hb dX8_empties_6 (by decide) (fun c2 => ?_) (fun c2 => W.pc 9 rfl ?_)
      · have hsp := ip hsp c2
        obtain rfl := Option.some.inj hsp
        exact hk_2 _ _ _ hP hD hS (lv_sub hl [] rfl)
      · have hsp := iq hsp c2
        refine lv_aload_n hx hb dX8_empties_9 rfl (lv_at hl 0 rfl) (W.pc 10 rfl ?_)
        refine lv_iload_n hx hb dX8_empties_10 rfl (lv_at hl 1 rfl) (W.pc 11 rfl ?_)
        refine lv_iconst (v := (0 : Int32)) hx hb dX8_empties_11 (by decide) (W.pc 12 rfl ?_)
        obtain ⟨h3, hsp⟩ := gi_s hsp
        refine va_iast hx hb hK hP hD hS 0 0 rfl rfl h3 dX8_empties_12 (fun H locs hP hD hS => W.pc 13 rfl ?_)
        have hP : wP E [(a0, aI E 682 (upd ya0_f_2 (x1_2).toNatClampNeg (0 : Int32)))] _ := hP
        have hD : va_D A [(a0, aI E 682 (upd ya0_f_2 (x1_2).toNatClampNeg (0 : Int32)))] := hD
        refine lv_iinc (v := (x1_2 + (1 : Int32))) (lv' := [(1, .int (x1_2 + (1 : Int32))), (0, .ref a0)]) hx hb dX8_empties_13 hl (k := 1) rfl rfl (by decide) rfl (fun ls hl => W.pc 16 rfl ?_)
        refine lv_goto (tgt := 2) hx hb dX8_empties_16 (by decide) ?_
        exact ih_2 (x1_2 + (1 : Int32)) (upd ya0_f_2 (x1_2).toNatClampNeg (0 : Int32)) _ _ _ hP hD hS (lv_sub hl [1, 0] rfl) hsp
  obtain ⟨z1, hr_z1, hsp⟩ := bd_s hsp
  refine L_2 z1 (fun H locs ls hP hD hS hl => ?_) FU (0 : Int32) fa0 _ _ _ hP hD hS (lv_sub hl [1, 0] rfl) hr_z1
  obtain rfl := Option.some.inj hsp
  exact rWv hX hP hS rfl dX8_empties_19
