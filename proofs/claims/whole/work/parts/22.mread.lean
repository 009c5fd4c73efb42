theorem w_4_80 : Cond.fieldLink RX8 114 "LevelGoneModel" "at" "I" ∈ TBL := TBL_t (tin4 (List.mem_of_getElem? (i := 80) (by decide +kernel))) (by decide +kernel)
theorem w_4_184 : Cond.methodLink RX8 117 yX8_look ∈ TBL := TBL_t (tin4 (List.mem_of_getElem? (i := 184) (by decide +kernel))) (by decide +kernel)
theorem w_4_81 : Cond.fieldLink RX8 120 "LevelGoneModel" "start" "I" ∈ TBL := TBL_t (tin4 (List.mem_of_getElem? (i := 81) (by decide +kernel))) (by decide +kernel)
theorem w_4_82 : Cond.fieldLink RX8 123 "LevelGoneModel" "isWell" "Z" ∈ TBL := TBL_t (tin4 (List.mem_of_getElem? (i := 82) (by decide +kernel))) (by decide +kernel)
theorem w_4_83 : Cond.fieldLink RX8 127 "LevelGoneModel" "faultAt" "I" ∈ TBL := TBL_t (tin4 (List.mem_of_getElem? (i := 83) (by decide +kernel))) (by decide +kernel)
theorem w_4_180 : Cond.methodLink RX8 130 yX8_skips ∈ TBL := TBL_t (tin4 (List.mem_of_getElem? (i := 180) (by decide +kernel))) (by decide +kernel)
theorem w_4_192 : Cond.methodLink RX8 133 yX8_hashed ∈ TBL := TBL_t (tin4 (List.mem_of_getElem? (i := 192) (by decide +kernel))) (by decide +kernel)
theorem w_4_195 : Cond.methodLink RX8 136 yX8_fails ∈ TBL := TBL_t (tin4 (List.mem_of_getElem? (i := 195) (by decide +kernel))) (by decide +kernel)
theorem w_4_199 : Cond.methodLink RX8 140 yX8_number ∈ TBL := TBL_t (tin4 (List.mem_of_getElem? (i := 199) (by decide +kernel))) (by decide +kernel)
theorem w_4_203 : Cond.methodLink RX8 143 yX8_ends ∈ TBL := TBL_t (tin4 (List.mem_of_getElem? (i := 203) (by decide +kernel))) (by decide +kernel)
theorem w_4_176 : Cond.methodLink RX8 153 yX8_word ∈ TBL := TBL_t (tin4 (List.mem_of_getElem? (i := 176) (by decide +kernel))) (by decide +kernel)
theorem w_4_188 : Cond.methodLink RX8 156 yX8_itemBy ∈ TBL := TBL_t (tin4 (List.mem_of_getElem? (i := 188) (by decide +kernel))) (by decide +kernel)
theorem w_4_230 : Cond.methodLink RX8 165 yX8_readsBuild ∈ TBL := TBL_t (tin4 (List.mem_of_getElem? (i := 230) (by decide +kernel))) (by decide +kernel)
theorem w_4_211 : Cond.methodLink RX8 162 yX8_readsYears ∈ TBL := TBL_t (tin4 (List.mem_of_getElem? (i := 211) (by decide +kernel))) (by decide +kernel)
theorem w_4_207 : Cond.methodLink RX8 159 yX8_readsPulls ∈ TBL := TBL_t (tin4 (List.mem_of_getElem? (i := 207) (by decide +kernel))) (by decide +kernel)
theorem w_4_172 : Cond.methodLink RX8 169 yX8_readsItem ∈ TBL := TBL_t (tin4 (List.mem_of_getElem? (i := 172) (by decide +kernel))) (by decide +kernel)
theorem w_4_187 : Cond.code yX8_look cX8_look 1 (some .int) ∈ TBL := TBL_t (tin4 (List.mem_of_getElem? (i := 187) (by decide +kernel))) (by decide +kernel)
theorem w_4_186 : Cond.instanceMethod yX8_look ∈ TBL := TBL_t (tin4 (List.mem_of_getElem? (i := 186) (by decide +kernel))) (by decide +kernel)
theorem w_4_183 : Cond.code yX8_skips cX8_skips 1 none ∈ TBL := TBL_t (tin4 (List.mem_of_getElem? (i := 183) (by decide +kernel))) (by decide +kernel)
theorem w_4_182 : Cond.instanceMethod yX8_skips ∈ TBL := TBL_t (tin4 (List.mem_of_getElem? (i := 182) (by decide +kernel))) (by decide +kernel)
theorem w_4_194 : Cond.code yX8_hashed cX8_hashed 4 (some .int) ∈ TBL := TBL_t (tin4 (List.mem_of_getElem? (i := 194) (by decide +kernel))) (by decide +kernel)
theorem w_4_193 : Cond.static yX8_hashed ∈ TBL := TBL_t (tin4 (List.mem_of_getElem? (i := 193) (by decide +kernel))) (by decide +kernel)
theorem w_4_198 : Cond.code yX8_fails cX8_fails 2 none ∈ TBL := TBL_t (tin4 (List.mem_of_getElem? (i := 198) (by decide +kernel))) (by decide +kernel)
theorem w_4_197 : Cond.instanceMethod yX8_fails ∈ TBL := TBL_t (tin4 (List.mem_of_getElem? (i := 197) (by decide +kernel))) (by decide +kernel)
theorem w_4_202 : Cond.code yX8_number cX8_number 5 (some .int) ∈ TBL := TBL_t (tin4 (List.mem_of_getElem? (i := 202) (by decide +kernel))) (by decide +kernel)
theorem w_4_201 : Cond.instanceMethod yX8_number ∈ TBL := TBL_t (tin4 (List.mem_of_getElem? (i := 201) (by decide +kernel))) (by decide +kernel)
theorem w_4_206 : Cond.code yX8_ends cX8_ends 1 none ∈ TBL := TBL_t (tin4 (List.mem_of_getElem? (i := 206) (by decide +kernel))) (by decide +kernel)
theorem w_4_205 : Cond.instanceMethod yX8_ends ∈ TBL := TBL_t (tin4 (List.mem_of_getElem? (i := 205) (by decide +kernel))) (by decide +kernel)
theorem w_4_179 : Cond.code yX8_word cX8_word 3 (some .int) ∈ TBL := TBL_t (tin4 (List.mem_of_getElem? (i := 179) (by decide +kernel))) (by decide +kernel)
theorem w_4_178 : Cond.instanceMethod yX8_word ∈ TBL := TBL_t (tin4 (List.mem_of_getElem? (i := 178) (by decide +kernel))) (by decide +kernel)
theorem w_4_191 : Cond.code yX8_itemBy cX8_itemBy 8 (some .int) ∈ TBL := TBL_t (tin4 (List.mem_of_getElem? (i := 191) (by decide +kernel))) (by decide +kernel)
theorem w_4_190 : Cond.instanceMethod yX8_itemBy ∈ TBL := TBL_t (tin4 (List.mem_of_getElem? (i := 190) (by decide +kernel))) (by decide +kernel)
theorem w_4_233 : Cond.code yX8_readsBuild cX8_readsBuild 4 none ∈ TBL := TBL_t (tin4 (List.mem_of_getElem? (i := 233) (by decide +kernel))) (by decide +kernel)
theorem w_4_232 : Cond.instanceMethod yX8_readsBuild ∈ TBL := TBL_t (tin4 (List.mem_of_getElem? (i := 232) (by decide +kernel))) (by decide +kernel)
theorem w_4_214 : Cond.code yX8_readsYears cX8_readsYears 3 none ∈ TBL := TBL_t (tin4 (List.mem_of_getElem? (i := 214) (by decide +kernel))) (by decide +kernel)
theorem w_4_213 : Cond.instanceMethod yX8_readsYears ∈ TBL := TBL_t (tin4 (List.mem_of_getElem? (i := 213) (by decide +kernel))) (by decide +kernel)
theorem w_4_210 : Cond.code yX8_readsPulls cX8_readsPulls 4 none ∈ TBL := TBL_t (tin4 (List.mem_of_getElem? (i := 210) (by decide +kernel))) (by decide +kernel)
theorem w_4_209 : Cond.instanceMethod yX8_readsPulls ∈ TBL := TBL_t (tin4 (List.mem_of_getElem? (i := 209) (by decide +kernel))) (by decide +kernel)
theorem w_4_175 : Cond.code yX8_readsItem cX8_readsItem 4 none ∈ TBL := TBL_t (tin4 (List.mem_of_getElem? (i := 175) (by decide +kernel))) (by decide +kernel)
theorem w_4_174 : Cond.instanceMethod yX8_readsItem ∈ TBL := TBL_t (tin4 (List.mem_of_getElem? (i := 174) (by decide +kernel))) (by decide +kernel)
theorem ws_31 : Cond.selects yX8_readsItem.cls yX8_readsItem yX8_readsItem ∈ TBL := TBL_s (List.mem_of_getElem? (i := 31) (by decide +kernel)) (by decide +kernel)
theorem ws_32 : Cond.selects yX8_word.cls yX8_word yX8_word ∈ TBL := TBL_s (List.mem_of_getElem? (i := 32) (by decide +kernel)) (by decide +kernel)
theorem ws_33 : Cond.selects yX8_skips.cls yX8_skips yX8_skips ∈ TBL := TBL_s (List.mem_of_getElem? (i := 33) (by decide +kernel)) (by decide +kernel)
theorem ws_34 : Cond.selects yX8_look.cls yX8_look yX8_look ∈ TBL := TBL_s (List.mem_of_getElem? (i := 34) (by decide +kernel)) (by decide +kernel)
theorem ws_35 : Cond.selects yX8_itemBy.cls yX8_itemBy yX8_itemBy ∈ TBL := TBL_s (List.mem_of_getElem? (i := 35) (by decide +kernel)) (by decide +kernel)
theorem ws_36 : Cond.selects yX8_fails.cls yX8_fails yX8_fails ∈ TBL := TBL_s (List.mem_of_getElem? (i := 36) (by decide +kernel)) (by decide +kernel)
theorem ws_37 : Cond.selects yX8_number.cls yX8_number yX8_number ∈ TBL := TBL_s (List.mem_of_getElem? (i := 37) (by decide +kernel)) (by decide +kernel)
theorem ws_38 : Cond.selects yX8_ends.cls yX8_ends yX8_ends ∈ TBL := TBL_s (List.mem_of_getElem? (i := 38) (by decide +kernel)) (by decide +kernel)
theorem ws_39 : Cond.selects yX8_readsPulls.cls yX8_readsPulls yX8_readsPulls ∈ TBL := TBL_s (List.mem_of_getElem? (i := 39) (by decide +kernel)) (by decide +kernel)
theorem ws_40 : Cond.selects yX8_readsYears.cls yX8_readsYears yX8_readsYears ∈ TBL := TBL_s (List.mem_of_getElem? (i := 40) (by decide +kernel)) (by decide +kernel)
theorem ws_41 : Cond.selects yX8_readsBuild.cls yX8_readsBuild yX8_readsBuild ∈ TBL := TBL_s (List.mem_of_getElem? (i := 41) (by decide +kernel)) (by decide +kernel)
theorem B_X8_look : cV yX8_look cX8_look 1 (some .int) 0 := ⟨w_4_187, w_4_186, (ws_34), w_1_6, by decide +kernel⟩
theorem B_X8_skips : cV yX8_skips cX8_skips 1 none 0 := ⟨w_4_183, w_4_182, (ws_33), w_1_6, by decide +kernel⟩
theorem B_X8_hashed : cS yX8_hashed cX8_hashed 4 (some .int) 4 := ⟨w_4_194, w_4_193, w_1_6, by decide +kernel⟩
theorem B_X8_fails : cV yX8_fails cX8_fails 2 none 1 := ⟨w_4_198, w_4_197, (ws_36), w_1_6, by decide +kernel⟩
theorem B_X8_number : cV yX8_number cX8_number 5 (some .int) 2 := ⟨w_4_202, w_4_201, (ws_37), w_1_6, by decide +kernel⟩
theorem B_X8_ends : cV yX8_ends cX8_ends 1 none 0 := ⟨w_4_206, w_4_205, (ws_38), w_1_6, by decide +kernel⟩
theorem B_X8_word : cV yX8_word cX8_word 3 (some .int) 0 := ⟨w_4_179, w_4_178, (ws_32), w_1_6, by decide +kernel⟩
theorem B_X8_itemBy : cV yX8_itemBy cX8_itemBy 8 (some .int) 2 := ⟨w_4_191, w_4_190, (ws_35), w_1_6, by decide +kernel⟩
theorem B_X8_readsBuild : cV yX8_readsBuild cX8_readsBuild 4 none 1 := ⟨w_4_233, w_4_232, (ws_41), w_1_6, by decide +kernel⟩
theorem B_X8_readsYears : cV yX8_readsYears cX8_readsYears 3 none 0 := ⟨w_4_214, w_4_213, (ws_40), w_1_6, by decide +kernel⟩
theorem B_X8_readsPulls : cV yX8_readsPulls cX8_readsPulls 4 none 0 := ⟨w_4_210, w_4_209, (ws_39), w_1_6, by decide +kernel⟩
theorem B_X8_readsItem : cV yX8_readsItem cX8_readsItem 4 none 1 := ⟨w_4_175, w_4_174, (ws_31), w_1_6, by decide +kernel⟩
theorem dX8_look_0 : decode cX8_look 0 = .ok (.aload_n 0, 1) := by decide +kernel
theorem dX8_look_1 : decode cX8_look 1 = .ok (.getfield 114, 3) := by decide +kernel
theorem dX8_look_4 : decode cX8_look 4 = .ok (.aload_n 0, 1) := by decide +kernel
theorem dX8_look_5 : decode cX8_look 5 = .ok (.getfield 110, 3) := by decide +kernel
theorem dX8_look_8 : decode cX8_look 8 = .ok (.if_icmp .ge 15, 3) := by decide +kernel
theorem dX8_look_11 : decode cX8_look 11 = .ok (.aload_n 0, 1) := by decide +kernel
theorem dX8_look_12 : decode cX8_look 12 = .ok (.getfield 7, 3) := by decide +kernel
theorem dX8_look_15 : decode cX8_look 15 = .ok (.aload_n 0, 1) := by decide +kernel
theorem dX8_look_16 : decode cX8_look 16 = .ok (.getfield 114, 3) := by decide +kernel
theorem dX8_look_19 : decode cX8_look 19 = .ok (.iaload, 1) := by decide +kernel
theorem dX8_look_20 : decode cX8_look 20 = .ok (.goto 4, 3) := by decide +kernel
theorem dX8_look_23 : decode cX8_look 23 = .ok (.iconst (-1), 1) := by decide +kernel
theorem dX8_look_24 : decode cX8_look 24 = .ok (.ireturn, 1) := by decide +kernel
theorem dX8_skips_0 : decode cX8_skips 0 = .ok (.aload_n 0, 1) := by decide +kernel
theorem dX8_skips_1 : decode cX8_skips 1 = .ok (.invokevirtual 117, 3) := by decide +kernel
theorem dX8_skips_4 : decode cX8_skips 4 = .ok (.bipush 32, 2) := by decide +kernel
theorem dX8_skips_6 : decode cX8_skips 6 = .ok (.if_icmp .ne 16, 3) := by decide +kernel
theorem dX8_skips_9 : decode cX8_skips 9 = .ok (.aload_n 0, 1) := by decide +kernel
theorem dX8_skips_10 : decode cX8_skips 10 = .ok (.dup, 1) := by decide +kernel
theorem dX8_skips_11 : decode cX8_skips 11 = .ok (.getfield 114, 3) := by decide +kernel
theorem dX8_skips_14 : decode cX8_skips 14 = .ok (.iconst 1, 1) := by decide +kernel
theorem dX8_skips_15 : decode cX8_skips 15 = .ok (.iadd, 1) := by decide +kernel
theorem dX8_skips_16 : decode cX8_skips 16 = .ok (.putfield 114, 3) := by decide +kernel
theorem dX8_skips_19 : decode cX8_skips 19 = .ok (.goto (-19), 3) := by decide +kernel
theorem dX8_skips_22 : decode cX8_skips 22 = .ok (.aload_n 0, 1) := by decide +kernel
theorem dX8_skips_23 : decode cX8_skips 23 = .ok (.aload_n 0, 1) := by decide +kernel
theorem dX8_skips_24 : decode cX8_skips 24 = .ok (.getfield 114, 3) := by decide +kernel
theorem dX8_skips_27 : decode cX8_skips 27 = .ok (.putfield 120, 3) := by decide +kernel
theorem dX8_skips_30 : decode cX8_skips 30 = .ok (.return_, 1) := by decide +kernel
theorem dX8_fails_0 : decode cX8_fails 0 = .ok (.aload_n 0, 1) := by decide +kernel
theorem dX8_fails_1 : decode cX8_fails 1 = .ok (.aload_n 0, 1) := by decide +kernel
theorem dX8_fails_2 : decode cX8_fails 2 = .ok (.getfield 123, 3) := by decide +kernel
theorem dX8_fails_5 : decode cX8_fails 5 = .ok (.ifCond .eq 7, 3) := by decide +kernel
theorem dX8_fails_8 : decode cX8_fails 8 = .ok (.iload_n 1, 1) := by decide +kernel
theorem dX8_fails_9 : decode cX8_fails 9 = .ok (.goto 7, 3) := by decide +kernel
theorem dX8_fails_12 : decode cX8_fails 12 = .ok (.aload_n 0, 1) := by decide +kernel
theorem dX8_fails_13 : decode cX8_fails 13 = .ok (.getfield 127, 3) := by decide +kernel
theorem dX8_fails_16 : decode cX8_fails 16 = .ok (.putfield 127, 3) := by decide +kernel
theorem dX8_fails_19 : decode cX8_fails 19 = .ok (.aload_n 0, 1) := by decide +kernel
theorem dX8_fails_20 : decode cX8_fails 20 = .ok (.iconst 0, 1) := by decide +kernel
theorem dX8_fails_21 : decode cX8_fails 21 = .ok (.putfield 123, 3) := by decide +kernel
theorem dX8_fails_24 : decode cX8_fails 24 = .ok (.return_, 1) := by decide +kernel
theorem dX8_word_0 : decode cX8_word 0 = .ok (.aload_n 0, 1) := by decide +kernel
theorem dX8_word_1 : decode cX8_word 1 = .ok (.invokevirtual 130, 3) := by decide +kernel
theorem dX8_word_4 : decode cX8_word 4 = .ok (.iconst 0, 1) := by decide +kernel
theorem dX8_word_5 : decode cX8_word 5 = .ok (.istore_n 1, 1) := by decide +kernel
theorem dX8_word_6 : decode cX8_word 6 = .ok (.iconst 0, 1) := by decide +kernel
theorem dX8_word_7 : decode cX8_word 7 = .ok (.istore_n 2, 1) := by decide +kernel
theorem dX8_word_8 : decode cX8_word 8 = .ok (.aload_n 0, 1) := by decide +kernel
theorem dX8_word_9 : decode cX8_word 9 = .ok (.invokevirtual 117, 3) := by decide +kernel
theorem dX8_word_12 : decode cX8_word 12 = .ok (.bipush 97, 2) := by decide +kernel
theorem dX8_word_14 : decode cX8_word 14 = .ok (.bipush 122, 2) := by decide +kernel
theorem dX8_word_16 : decode cX8_word 16 = .ok (.invokestatic 42, 3) := by decide +kernel
theorem dX8_word_19 : decode cX8_word 19 = .ok (.ifCond .eq 42, 3) := by decide +kernel
theorem dX8_word_22 : decode cX8_word 22 = .ok (.iload_n 2, 1) := by decide +kernel
theorem dX8_word_23 : decode cX8_word 23 = .ok (.bipush 6, 2) := by decide +kernel
theorem dX8_word_25 : decode cX8_word 25 = .ok (.if_icmp .ge 18, 3) := by decide +kernel
theorem dX8_word_28 : decode cX8_word 28 = .ok (.bipush 26, 2) := by decide +kernel
theorem dX8_word_30 : decode cX8_word 30 = .ok (.iload_n 1, 1) := by decide +kernel
theorem dX8_word_31 : decode cX8_word 31 = .ok (.imul, 1) := by decide +kernel
theorem dX8_word_32 : decode cX8_word 32 = .ok (.aload_n 0, 1) := by decide +kernel
theorem dX8_word_33 : decode cX8_word 33 = .ok (.invokevirtual 117, 3) := by decide +kernel
theorem dX8_word_36 : decode cX8_word 36 = .ok (.iadd, 1) := by decide +kernel
theorem dX8_word_37 : decode cX8_word 37 = .ok (.bipush 97, 2) := by decide +kernel
theorem dX8_word_39 : decode cX8_word 39 = .ok (.isub, 1) := by decide +kernel
theorem dX8_word_40 : decode cX8_word 40 = .ok (.goto 4, 3) := by decide +kernel
theorem dX8_word_43 : decode cX8_word 43 = .ok (.iload_n 1, 1) := by decide +kernel
theorem dX8_word_44 : decode cX8_word 44 = .ok (.istore_n 1, 1) := by decide +kernel
theorem dX8_word_45 : decode cX8_word 45 = .ok (.aload_n 0, 1) := by decide +kernel
theorem dX8_word_46 : decode cX8_word 46 = .ok (.dup, 1) := by decide +kernel
theorem dX8_word_47 : decode cX8_word 47 = .ok (.getfield 114, 3) := by decide +kernel
theorem dX8_word_50 : decode cX8_word 50 = .ok (.iconst 1, 1) := by decide +kernel
theorem dX8_word_51 : decode cX8_word 51 = .ok (.iadd, 1) := by decide +kernel
theorem dX8_word_52 : decode cX8_word 52 = .ok (.putfield 114, 3) := by decide +kernel
theorem dX8_word_55 : decode cX8_word 55 = .ok (.iinc 2 1, 3) := by decide +kernel
theorem dX8_word_58 : decode cX8_word 58 = .ok (.goto (-50), 3) := by decide +kernel
theorem dX8_word_61 : decode cX8_word 61 = .ok (.iload_n 2, 1) := by decide +kernel
theorem dX8_word_62 : decode cX8_word 62 = .ok (.bipush 6, 2) := by decide +kernel
theorem dX8_word_64 : decode cX8_word 64 = .ok (.if_icmp .gt 7, 3) := by decide +kernel
theorem dX8_word_67 : decode cX8_word 67 = .ok (.iload_n 2, 1) := by decide +kernel
theorem dX8_word_68 : decode cX8_word 68 = .ok (.ifCond .ne 7, 3) := by decide +kernel
theorem dX8_word_71 : decode cX8_word 71 = .ok (.iconst (-1), 1) := by decide +kernel
theorem dX8_word_72 : decode cX8_word 72 = .ok (.goto 4, 3) := by decide +kernel
theorem dX8_word_75 : decode cX8_word 75 = .ok (.iload_n 1, 1) := by decide +kernel
theorem dX8_word_76 : decode cX8_word 76 = .ok (.ireturn, 1) := by decide +kernel
theorem dX8_hashed_0 : decode cX8_hashed 0 = .ok (.iload_n 0, 1) := by decide +kernel
theorem dX8_hashed_1 : decode cX8_hashed 1 = .ok (.bipush 26, 2) := by decide +kernel
theorem dX8_hashed_3 : decode cX8_hashed 3 = .ok (.imul, 1) := by decide +kernel
theorem dX8_hashed_4 : decode cX8_hashed 4 = .ok (.iload_n 1, 1) := by decide +kernel
theorem dX8_hashed_5 : decode cX8_hashed 5 = .ok (.iadd, 1) := by decide +kernel
theorem dX8_hashed_6 : decode cX8_hashed 6 = .ok (.bipush 26, 2) := by decide +kernel
theorem dX8_hashed_8 : decode cX8_hashed 8 = .ok (.imul, 1) := by decide +kernel
theorem dX8_hashed_9 : decode cX8_hashed 9 = .ok (.iload_n 2, 1) := by decide +kernel
theorem dX8_hashed_10 : decode cX8_hashed 10 = .ok (.iadd, 1) := by decide +kernel
theorem dX8_hashed_11 : decode cX8_hashed 11 = .ok (.bipush 26, 2) := by decide +kernel
theorem dX8_hashed_13 : decode cX8_hashed 13 = .ok (.imul, 1) := by decide +kernel
theorem dX8_hashed_14 : decode cX8_hashed 14 = .ok (.iload_n 3, 1) := by decide +kernel
theorem dX8_hashed_15 : decode cX8_hashed 15 = .ok (.iadd, 1) := by decide +kernel
theorem dX8_hashed_16 : decode cX8_hashed 16 = .ok (.ireturn, 1) := by decide +kernel
theorem dX8_itemBy_0 : decode cX8_itemBy 0 = .ok (.bipush 19, 2) := by decide +kernel
theorem dX8_itemBy_2 : decode cX8_itemBy 2 = .ok (.bipush 14, 2) := by decide +kernel
theorem dX8_itemBy_4 : decode cX8_itemBy 4 = .ok (.bipush 22, 2) := by decide +kernel
theorem dX8_itemBy_6 : decode cX8_itemBy 6 = .ok (.bipush 13, 2) := by decide +kernel
theorem dX8_itemBy_8 : decode cX8_itemBy 8 = .ok (.invokestatic 133, 3) := by decide +kernel
theorem dX8_itemBy_11 : decode cX8_itemBy 11 = .ok (.istore_n 3, 1) := by decide +kernel
theorem dX8_itemBy_12 : decode cX8_itemBy 12 = .ok (.bipush 26, 2) := by decide +kernel
theorem dX8_itemBy_14 : decode cX8_itemBy 14 = .ok (.bipush 15, 2) := by decide +kernel
theorem dX8_itemBy_16 : decode cX8_itemBy 16 = .ok (.bipush 20, 2) := by decide +kernel
theorem dX8_itemBy_18 : decode cX8_itemBy 18 = .ok (.bipush 11, 2) := by decide +kernel
theorem dX8_itemBy_20 : decode cX8_itemBy 20 = .ok (.bipush 11, 2) := by decide +kernel
theorem dX8_itemBy_22 : decode cX8_itemBy 22 = .ok (.invokestatic 133, 3) := by decide +kernel
theorem dX8_itemBy_25 : decode cX8_itemBy 25 = .ok (.imul, 1) := by decide +kernel
theorem dX8_itemBy_26 : decode cX8_itemBy 26 = .ok (.bipush 115, 2) := by decide +kernel
theorem dX8_itemBy_28 : decode cX8_itemBy 28 = .ok (.iadd, 1) := by decide +kernel
theorem dX8_itemBy_29 : decode cX8_itemBy 29 = .ok (.bipush 97, 2) := by decide +kernel
theorem dX8_itemBy_31 : decode cX8_itemBy 31 = .ok (.isub, 1) := by decide +kernel
theorem dX8_itemBy_32 : decode cX8_itemBy 32 = .ok (.istore 4, 2) := by decide +kernel
theorem dX8_itemBy_34 : decode cX8_itemBy 34 = .ok (.bipush 26, 2) := by decide +kernel
theorem dX8_itemBy_36 : decode cX8_itemBy 36 = .ok (.iconst 1, 1) := by decide +kernel
theorem dX8_itemBy_37 : decode cX8_itemBy 37 = .ok (.bipush 20, 2) := by decide +kernel
theorem dX8_itemBy_39 : decode cX8_itemBy 39 = .ok (.bipush 8, 2) := by decide +kernel
theorem dX8_itemBy_41 : decode cX8_itemBy 41 = .ok (.bipush 11, 2) := by decide +kernel
theorem dX8_itemBy_43 : decode cX8_itemBy 43 = .ok (.invokestatic 133, 3) := by decide +kernel
theorem dX8_itemBy_46 : decode cX8_itemBy 46 = .ok (.imul, 1) := by decide +kernel
theorem dX8_itemBy_47 : decode cX8_itemBy 47 = .ok (.bipush 100, 2) := by decide +kernel
theorem dX8_itemBy_49 : decode cX8_itemBy 49 = .ok (.iadd, 1) := by decide +kernel
theorem dX8_itemBy_50 : decode cX8_itemBy 50 = .ok (.bipush 97, 2) := by decide +kernel
theorem dX8_itemBy_52 : decode cX8_itemBy 52 = .ok (.isub, 1) := by decide +kernel
theorem dX8_itemBy_53 : decode cX8_itemBy 53 = .ok (.istore 5, 2) := by decide +kernel
theorem dX8_itemBy_55 : decode cX8_itemBy 55 = .ok (.sipush 676, 3) := by decide +kernel
theorem dX8_itemBy_58 : decode cX8_itemBy 58 = .ok (.bipush 18, 2) := by decide +kernel
theorem dX8_itemBy_60 : decode cX8_itemBy 60 = .ok (.bipush 19, 2) := by decide +kernel
theorem dX8_itemBy_62 : decode cX8_itemBy 62 = .ok (.bipush 17, 2) := by decide +kernel
theorem dX8_itemBy_64 : decode cX8_itemBy 64 = .ok (.bipush 8, 2) := by decide +kernel
theorem dX8_itemBy_66 : decode cX8_itemBy 66 = .ok (.invokestatic 133, 3) := by decide +kernel
theorem dX8_itemBy_69 : decode cX8_itemBy 69 = .ok (.imul, 1) := by decide +kernel
theorem dX8_itemBy_70 : decode cX8_itemBy 70 = .ok (.sipush 338, 3) := by decide +kernel
theorem dX8_itemBy_73 : decode cX8_itemBy 73 = .ok (.iadd, 1) := by decide +kernel
theorem dX8_itemBy_74 : decode cX8_itemBy 74 = .ok (.bipush 103, 2) := by decide +kernel
theorem dX8_itemBy_76 : decode cX8_itemBy 76 = .ok (.iadd, 1) := by decide +kernel
theorem dX8_itemBy_77 : decode cX8_itemBy 77 = .ok (.bipush 97, 2) := by decide +kernel
theorem dX8_itemBy_79 : decode cX8_itemBy 79 = .ok (.isub, 1) := by decide +kernel
theorem dX8_itemBy_80 : decode cX8_itemBy 80 = .ok (.istore 6, 2) := by decide +kernel
theorem dX8_itemBy_82 : decode cX8_itemBy 82 = .ok (.bipush 26, 2) := by decide +kernel
theorem dX8_itemBy_84 : decode cX8_itemBy 84 = .ok (.bipush 24, 2) := by decide +kernel
theorem dX8_itemBy_86 : decode cX8_itemBy 86 = .ok (.iconst 4, 1) := by decide +kernel
theorem dX8_itemBy_87 : decode cX8_itemBy 87 = .ok (.iconst 0, 1) := by decide +kernel
theorem dX8_itemBy_88 : decode cX8_itemBy 88 = .ok (.bipush 17, 2) := by decide +kernel
theorem dX8_itemBy_90 : decode cX8_itemBy 90 = .ok (.invokestatic 133, 3) := by decide +kernel
theorem dX8_itemBy_93 : decode cX8_itemBy 93 = .ok (.imul, 1) := by decide +kernel
theorem dX8_itemBy_94 : decode cX8_itemBy 94 = .ok (.bipush 115, 2) := by decide +kernel
theorem dX8_itemBy_96 : decode cX8_itemBy 96 = .ok (.iadd, 1) := by decide +kernel
theorem dX8_itemBy_97 : decode cX8_itemBy 97 = .ok (.bipush 97, 2) := by decide +kernel
theorem dX8_itemBy_99 : decode cX8_itemBy 99 = .ok (.isub, 1) := by decide +kernel
theorem dX8_itemBy_100 : decode cX8_itemBy 100 = .ok (.istore 7, 2) := by decide +kernel
theorem dX8_itemBy_102 : decode cX8_itemBy 102 = .ok (.iload_n 2, 1) := by decide +kernel
theorem dX8_itemBy_103 : decode cX8_itemBy 103 = .ok (.iconst 4, 1) := by decide +kernel
theorem dX8_itemBy_104 : decode cX8_itemBy 104 = .ok (.if_icmp .ne 12, 3) := by decide +kernel
theorem dX8_itemBy_107 : decode cX8_itemBy 107 = .ok (.iload_n 1, 1) := by decide +kernel
theorem dX8_itemBy_108 : decode cX8_itemBy 108 = .ok (.iload_n 3, 1) := by decide +kernel
theorem dX8_itemBy_109 : decode cX8_itemBy 109 = .ok (.if_icmp .ne 7, 3) := by decide +kernel
theorem dX8_itemBy_112 : decode cX8_itemBy 112 = .ok (.iconst 1, 1) := by decide +kernel
theorem dX8_itemBy_113 : decode cX8_itemBy 113 = .ok (.goto 65, 3) := by decide +kernel
theorem dX8_itemBy_116 : decode cX8_itemBy 116 = .ok (.iload_n 2, 1) := by decide +kernel
theorem dX8_itemBy_117 : decode cX8_itemBy 117 = .ok (.iconst 5, 1) := by decide +kernel
theorem dX8_itemBy_118 : decode cX8_itemBy 118 = .ok (.if_icmp .ne 13, 3) := by decide +kernel
theorem dX8_itemBy_121 : decode cX8_itemBy 121 = .ok (.iload_n 1, 1) := by decide +kernel
theorem dX8_itemBy_122 : decode cX8_itemBy 122 = .ok (.iload 4, 2) := by decide +kernel
theorem dX8_itemBy_124 : decode cX8_itemBy 124 = .ok (.if_icmp .ne 7, 3) := by decide +kernel
theorem dX8_itemBy_127 : decode cX8_itemBy 127 = .ok (.iconst 2, 1) := by decide +kernel
theorem dX8_itemBy_128 : decode cX8_itemBy 128 = .ok (.goto 50, 3) := by decide +kernel
theorem dX8_itemBy_131 : decode cX8_itemBy 131 = .ok (.iload_n 2, 1) := by decide +kernel
theorem dX8_itemBy_132 : decode cX8_itemBy 132 = .ok (.iconst 5, 1) := by decide +kernel
theorem dX8_itemBy_133 : decode cX8_itemBy 133 = .ok (.if_icmp .ne 13, 3) := by decide +kernel
theorem dX8_itemBy_136 : decode cX8_itemBy 136 = .ok (.iload_n 1, 1) := by decide +kernel
theorem dX8_itemBy_137 : decode cX8_itemBy 137 = .ok (.iload 5, 2) := by decide +kernel
theorem dX8_itemBy_139 : decode cX8_itemBy 139 = .ok (.if_icmp .ne 7, 3) := by decide +kernel
theorem dX8_itemBy_142 : decode cX8_itemBy 142 = .ok (.iconst 3, 1) := by decide +kernel
theorem dX8_itemBy_143 : decode cX8_itemBy 143 = .ok (.goto 35, 3) := by decide +kernel
theorem dX8_itemBy_146 : decode cX8_itemBy 146 = .ok (.iload_n 2, 1) := by decide +kernel
theorem dX8_itemBy_147 : decode cX8_itemBy 147 = .ok (.bipush 6, 2) := by decide +kernel
theorem dX8_itemBy_149 : decode cX8_itemBy 149 = .ok (.if_icmp .ne 13, 3) := by decide +kernel
theorem dX8_itemBy_152 : decode cX8_itemBy 152 = .ok (.iload_n 1, 1) := by decide +kernel
theorem dX8_itemBy_153 : decode cX8_itemBy 153 = .ok (.iload 6, 2) := by decide +kernel
theorem dX8_itemBy_155 : decode cX8_itemBy 155 = .ok (.if_icmp .ne 7, 3) := by decide +kernel
theorem dX8_itemBy_158 : decode cX8_itemBy 158 = .ok (.iconst 4, 1) := by decide +kernel
theorem dX8_itemBy_159 : decode cX8_itemBy 159 = .ok (.goto 19, 3) := by decide +kernel
theorem dX8_itemBy_162 : decode cX8_itemBy 162 = .ok (.iload_n 2, 1) := by decide +kernel
theorem dX8_itemBy_163 : decode cX8_itemBy 163 = .ok (.iconst 5, 1) := by decide +kernel
theorem dX8_itemBy_164 : decode cX8_itemBy 164 = .ok (.if_icmp .ne 13, 3) := by decide +kernel
theorem dX8_itemBy_167 : decode cX8_itemBy 167 = .ok (.iload_n 1, 1) := by decide +kernel
theorem dX8_itemBy_168 : decode cX8_itemBy 168 = .ok (.iload 7, 2) := by decide +kernel
theorem dX8_itemBy_170 : decode cX8_itemBy 170 = .ok (.if_icmp .ne 7, 3) := by decide +kernel
theorem dX8_itemBy_173 : decode cX8_itemBy 173 = .ok (.iconst 5, 1) := by decide +kernel
theorem dX8_itemBy_174 : decode cX8_itemBy 174 = .ok (.goto 4, 3) := by decide +kernel
theorem dX8_itemBy_177 : decode cX8_itemBy 177 = .ok (.iconst 0, 1) := by decide +kernel
theorem dX8_itemBy_178 : decode cX8_itemBy 178 = .ok (.ireturn, 1) := by decide +kernel
theorem dX8_number_0 : decode cX8_number 0 = .ok (.aload_n 0, 1) := by decide +kernel
theorem dX8_number_1 : decode cX8_number 1 = .ok (.invokevirtual 130, 3) := by decide +kernel
theorem dX8_number_4 : decode cX8_number 4 = .ok (.iconst 0, 1) := by decide +kernel
theorem dX8_number_5 : decode cX8_number 5 = .ok (.istore_n 3, 1) := by decide +kernel
theorem dX8_number_6 : decode cX8_number 6 = .ok (.iconst 0, 1) := by decide +kernel
theorem dX8_number_7 : decode cX8_number 7 = .ok (.istore 4, 2) := by decide +kernel
theorem dX8_number_9 : decode cX8_number 9 = .ok (.aload_n 0, 1) := by decide +kernel
theorem dX8_number_10 : decode cX8_number 10 = .ok (.invokevirtual 117, 3) := by decide +kernel
theorem dX8_number_13 : decode cX8_number 13 = .ok (.bipush 48, 2) := by decide +kernel
theorem dX8_number_15 : decode cX8_number 15 = .ok (.bipush 57, 2) := by decide +kernel
theorem dX8_number_17 : decode cX8_number 17 = .ok (.invokestatic 42, 3) := by decide +kernel
theorem dX8_number_20 : decode cX8_number 20 = .ok (.ifCond .eq 49, 3) := by decide +kernel
theorem dX8_number_23 : decode cX8_number 23 = .ok (.aload_n 0, 1) := by decide +kernel
theorem dX8_number_24 : decode cX8_number 24 = .ok (.getfield 123, 3) := by decide +kernel
theorem dX8_number_27 : decode cX8_number 27 = .ok (.ifCond .eq 42, 3) := by decide +kernel
theorem dX8_number_30 : decode cX8_number 30 = .ok (.iload 4, 2) := by decide +kernel
theorem dX8_number_32 : decode cX8_number 32 = .ok (.iconst 2, 1) := by decide +kernel
theorem dX8_number_33 : decode cX8_number 33 = .ok (.if_icmp .ge 18, 3) := by decide +kernel
theorem dX8_number_36 : decode cX8_number 36 = .ok (.bipush 10, 2) := by decide +kernel
theorem dX8_number_38 : decode cX8_number 38 = .ok (.iload_n 3, 1) := by decide +kernel
theorem dX8_number_39 : decode cX8_number 39 = .ok (.imul, 1) := by decide +kernel
theorem dX8_number_40 : decode cX8_number 40 = .ok (.aload_n 0, 1) := by decide +kernel
theorem dX8_number_41 : decode cX8_number 41 = .ok (.invokevirtual 117, 3) := by decide +kernel
theorem dX8_number_44 : decode cX8_number 44 = .ok (.iadd, 1) := by decide +kernel
theorem dX8_number_45 : decode cX8_number 45 = .ok (.bipush 48, 2) := by decide +kernel
theorem dX8_number_47 : decode cX8_number 47 = .ok (.isub, 1) := by decide +kernel
theorem dX8_number_48 : decode cX8_number 48 = .ok (.goto 4, 3) := by decide +kernel
theorem dX8_number_51 : decode cX8_number 51 = .ok (.iload_n 3, 1) := by decide +kernel
theorem dX8_number_52 : decode cX8_number 52 = .ok (.istore_n 3, 1) := by decide +kernel
theorem dX8_number_53 : decode cX8_number 53 = .ok (.aload_n 0, 1) := by decide +kernel
theorem dX8_number_54 : decode cX8_number 54 = .ok (.dup, 1) := by decide +kernel
theorem dX8_number_55 : decode cX8_number 55 = .ok (.getfield 114, 3) := by decide +kernel
theorem dX8_number_58 : decode cX8_number 58 = .ok (.iconst 1, 1) := by decide +kernel
theorem dX8_number_59 : decode cX8_number 59 = .ok (.iadd, 1) := by decide +kernel
theorem dX8_number_60 : decode cX8_number 60 = .ok (.putfield 114, 3) := by decide +kernel
theorem dX8_number_63 : decode cX8_number 63 = .ok (.iinc 4 1, 3) := by decide +kernel
theorem dX8_number_66 : decode cX8_number 66 = .ok (.goto (-57), 3) := by decide +kernel
theorem dX8_number_69 : decode cX8_number 69 = .ok (.iload 4, 2) := by decide +kernel
theorem dX8_number_71 : decode cX8_number 71 = .ok (.ifCond .eq 18, 3) := by decide +kernel
theorem dX8_number_74 : decode cX8_number 74 = .ok (.iload 4, 2) := by decide +kernel
theorem dX8_number_76 : decode cX8_number 76 = .ok (.iconst 2, 1) := by decide +kernel
theorem dX8_number_77 : decode cX8_number 77 = .ok (.if_icmp .gt 12, 3) := by decide +kernel
theorem dX8_number_80 : decode cX8_number 80 = .ok (.iload_n 3, 1) := by decide +kernel
theorem dX8_number_81 : decode cX8_number 81 = .ok (.iload_n 1, 1) := by decide +kernel
theorem dX8_number_82 : decode cX8_number 82 = .ok (.iload_n 2, 1) := by decide +kernel
theorem dX8_number_83 : decode cX8_number 83 = .ok (.invokestatic 42, 3) := by decide +kernel
theorem dX8_number_86 : decode cX8_number 86 = .ok (.ifCond .ne 11, 3) := by decide +kernel
theorem dX8_number_89 : decode cX8_number 89 = .ok (.aload_n 0, 1) := by decide +kernel
theorem dX8_number_90 : decode cX8_number 90 = .ok (.aload_n 0, 1) := by decide +kernel
theorem dX8_number_91 : decode cX8_number 91 = .ok (.getfield 120, 3) := by decide +kernel
theorem dX8_number_94 : decode cX8_number 94 = .ok (.invokevirtual 136, 3) := by decide +kernel
theorem dX8_number_97 : decode cX8_number 97 = .ok (.iload_n 3, 1) := by decide +kernel
theorem dX8_number_98 : decode cX8_number 98 = .ok (.ireturn, 1) := by decide +kernel
theorem dX8_ends_0 : decode cX8_ends 0 = .ok (.aload_n 0, 1) := by decide +kernel
theorem dX8_ends_1 : decode cX8_ends 1 = .ok (.invokevirtual 130, 3) := by decide +kernel
theorem dX8_ends_4 : decode cX8_ends 4 = .ok (.aload_n 0, 1) := by decide +kernel
theorem dX8_ends_5 : decode cX8_ends 5 = .ok (.invokevirtual 117, 3) := by decide +kernel
theorem dX8_ends_8 : decode cX8_ends 8 = .ok (.bipush 59, 2) := by decide +kernel
theorem dX8_ends_10 : decode cX8_ends 10 = .ok (.if_icmp .eq 11, 3) := by decide +kernel
theorem dX8_ends_13 : decode cX8_ends 13 = .ok (.aload_n 0, 1) := by decide +kernel
theorem dX8_ends_14 : decode cX8_ends 14 = .ok (.aload_n 0, 1) := by decide +kernel
theorem dX8_ends_15 : decode cX8_ends 15 = .ok (.getfield 120, 3) := by decide +kernel
theorem dX8_ends_18 : decode cX8_ends 18 = .ok (.invokevirtual 136, 3) := by decide +kernel
theorem dX8_ends_21 : decode cX8_ends 21 = .ok (.aload_n 0, 1) := by decide +kernel
theorem dX8_ends_22 : decode cX8_ends 22 = .ok (.dup, 1) := by decide +kernel
theorem dX8_ends_23 : decode cX8_ends 23 = .ok (.getfield 114, 3) := by decide +kernel
theorem dX8_ends_26 : decode cX8_ends 26 = .ok (.aload_n 0, 1) := by decide +kernel
theorem dX8_ends_27 : decode cX8_ends 27 = .ok (.getfield 123, 3) := by decide +kernel
theorem dX8_ends_30 : decode cX8_ends 30 = .ok (.ifCond .eq 7, 3) := by decide +kernel
theorem dX8_ends_33 : decode cX8_ends 33 = .ok (.iconst 1, 1) := by decide +kernel
theorem dX8_ends_34 : decode cX8_ends 34 = .ok (.goto 4, 3) := by decide +kernel
theorem dX8_ends_37 : decode cX8_ends 37 = .ok (.iconst 0, 1) := by decide +kernel
theorem dX8_ends_38 : decode cX8_ends 38 = .ok (.iadd, 1) := by decide +kernel
theorem dX8_ends_39 : decode cX8_ends 39 = .ok (.putfield 114, 3) := by decide +kernel
theorem dX8_ends_42 : decode cX8_ends 42 = .ok (.return_, 1) := by decide +kernel
theorem dX8_readsPulls_0 : decode cX8_readsPulls 0 = .ok (.iconst 0, 1) := by decide +kernel
theorem dX8_readsPulls_1 : decode cX8_readsPulls 1 = .ok (.istore_n 1, 1) := by decide +kernel
theorem dX8_readsPulls_2 : decode cX8_readsPulls 2 = .ok (.iconst 1, 1) := by decide +kernel
theorem dX8_readsPulls_3 : decode cX8_readsPulls 3 = .ok (.istore_n 2, 1) := by decide +kernel
theorem dX8_readsPulls_4 : decode cX8_readsPulls 4 = .ok (.iload_n 2, 1) := by decide +kernel
theorem dX8_readsPulls_5 : decode cX8_readsPulls 5 = .ok (.ifCond .eq 92, 3) := by decide +kernel
theorem dX8_readsPulls_8 : decode cX8_readsPulls 8 = .ok (.aload_n 0, 1) := by decide +kernel
theorem dX8_readsPulls_9 : decode cX8_readsPulls 9 = .ok (.getfield 123, 3) := by decide +kernel
theorem dX8_readsPulls_12 : decode cX8_readsPulls 12 = .ok (.ifCond .eq 85, 3) := by decide +kernel
theorem dX8_readsPulls_15 : decode cX8_readsPulls 15 = .ok (.iload_n 1, 1) := by decide +kernel
theorem dX8_readsPulls_16 : decode cX8_readsPulls 16 = .ok (.bipush 6, 2) := by decide +kernel
theorem dX8_readsPulls_18 : decode cX8_readsPulls 18 = .ok (.if_icmp .ne 14, 3) := by decide +kernel
theorem dX8_readsPulls_21 : decode cX8_readsPulls 21 = .ok (.aload_n 0, 1) := by decide +kernel
theorem dX8_readsPulls_22 : decode cX8_readsPulls 22 = .ok (.aload_n 0, 1) := by decide +kernel
theorem dX8_readsPulls_23 : decode cX8_readsPulls 23 = .ok (.getfield 120, 3) := by decide +kernel
theorem dX8_readsPulls_26 : decode cX8_readsPulls 26 = .ok (.invokevirtual 136, 3) := by decide +kernel
theorem dX8_readsPulls_29 : decode cX8_readsPulls 29 = .ok (.goto (-25), 3) := by decide +kernel
theorem dX8_readsPulls_32 : decode cX8_readsPulls 32 = .ok (.aload_n 0, 1) := by decide +kernel
theorem dX8_readsPulls_33 : decode cX8_readsPulls 33 = .ok (.iconst 0, 1) := by decide +kernel
theorem dX8_readsPulls_34 : decode cX8_readsPulls 34 = .ok (.bipush 18, 2) := by decide +kernel
theorem dX8_readsPulls_36 : decode cX8_readsPulls 36 = .ok (.invokevirtual 140, 3) := by decide +kernel
theorem dX8_readsPulls_39 : decode cX8_readsPulls 39 = .ok (.istore_n 3, 1) := by decide +kernel
theorem dX8_readsPulls_40 : decode cX8_readsPulls 40 = .ok (.aload_n 0, 1) := by decide +kernel
theorem dX8_readsPulls_41 : decode cX8_readsPulls 41 = .ok (.getfield 16, 3) := by decide +kernel
theorem dX8_readsPulls_44 : decode cX8_readsPulls 44 = .ok (.bipush 69, 2) := by decide +kernel
theorem dX8_readsPulls_46 : decode cX8_readsPulls 46 = .ok (.iload_n 1, 1) := by decide +kernel
theorem dX8_readsPulls_47 : decode cX8_readsPulls 47 = .ok (.iadd, 1) := by decide +kernel
theorem dX8_readsPulls_48 : decode cX8_readsPulls 48 = .ok (.aload_n 0, 1) := by decide +kernel
theorem dX8_readsPulls_49 : decode cX8_readsPulls 49 = .ok (.getfield 123, 3) := by decide +kernel
theorem dX8_readsPulls_52 : decode cX8_readsPulls 52 = .ok (.ifCond .eq 10, 3) := by decide +kernel
theorem dX8_readsPulls_55 : decode cX8_readsPulls 55 = .ok (.iload_n 3, 1) := by decide +kernel
theorem dX8_readsPulls_56 : decode cX8_readsPulls 56 = .ok (.bipush 9, 2) := by decide +kernel
theorem dX8_readsPulls_58 : decode cX8_readsPulls 58 = .ok (.isub, 1) := by decide +kernel
theorem dX8_readsPulls_59 : decode cX8_readsPulls 59 = .ok (.goto 12, 3) := by decide +kernel
theorem dX8_readsPulls_62 : decode cX8_readsPulls 62 = .ok (.aload_n 0, 1) := by decide +kernel
theorem dX8_readsPulls_63 : decode cX8_readsPulls 63 = .ok (.getfield 16, 3) := by decide +kernel
theorem dX8_readsPulls_66 : decode cX8_readsPulls 66 = .ok (.bipush 69, 2) := by decide +kernel
theorem dX8_readsPulls_68 : decode cX8_readsPulls 68 = .ok (.iload_n 1, 1) := by decide +kernel
theorem dX8_readsPulls_69 : decode cX8_readsPulls 69 = .ok (.iadd, 1) := by decide +kernel
theorem dX8_readsPulls_70 : decode cX8_readsPulls 70 = .ok (.iaload, 1) := by decide +kernel
theorem dX8_readsPulls_71 : decode cX8_readsPulls 71 = .ok (.iastore, 1) := by decide +kernel
theorem dX8_readsPulls_72 : decode cX8_readsPulls 72 = .ok (.iinc 1 1, 3) := by decide +kernel
theorem dX8_readsPulls_75 : decode cX8_readsPulls 75 = .ok (.aload_n 0, 1) := by decide +kernel
theorem dX8_readsPulls_76 : decode cX8_readsPulls 76 = .ok (.invokevirtual 130, 3) := by decide +kernel
theorem dX8_readsPulls_79 : decode cX8_readsPulls 79 = .ok (.aload_n 0, 1) := by decide +kernel
theorem dX8_readsPulls_80 : decode cX8_readsPulls 80 = .ok (.invokevirtual 117, 3) := by decide +kernel
theorem dX8_readsPulls_83 : decode cX8_readsPulls 83 = .ok (.bipush 59, 2) := by decide +kernel
theorem dX8_readsPulls_85 : decode cX8_readsPulls 85 = .ok (.if_icmp .eq 7, 3) := by decide +kernel
theorem dX8_readsPulls_88 : decode cX8_readsPulls 88 = .ok (.iconst 1, 1) := by decide +kernel
theorem dX8_readsPulls_89 : decode cX8_readsPulls 89 = .ok (.goto 4, 3) := by decide +kernel
theorem dX8_readsPulls_92 : decode cX8_readsPulls 92 = .ok (.iconst 0, 1) := by decide +kernel
theorem dX8_readsPulls_93 : decode cX8_readsPulls 93 = .ok (.istore_n 2, 1) := by decide +kernel
theorem dX8_readsPulls_94 : decode cX8_readsPulls 94 = .ok (.goto (-90), 3) := by decide +kernel
theorem dX8_readsPulls_97 : decode cX8_readsPulls 97 = .ok (.return_, 1) := by decide +kernel
theorem dX8_readsBuild_0 : decode cX8_readsBuild 0 = .ok (.aload_n 0, 1) := by decide +kernel
theorem dX8_readsBuild_1 : decode cX8_readsBuild 1 = .ok (.iconst 0, 1) := by decide +kernel
theorem dX8_readsBuild_2 : decode cX8_readsBuild 2 = .ok (.iconst 5, 1) := by decide +kernel
theorem dX8_readsBuild_3 : decode cX8_readsBuild 3 = .ok (.invokevirtual 140, 3) := by decide +kernel
theorem dX8_readsBuild_6 : decode cX8_readsBuild 6 = .ok (.istore_n 2, 1) := by decide +kernel
theorem dX8_readsBuild_7 : decode cX8_readsBuild 7 = .ok (.aload_n 0, 1) := by decide +kernel
theorem dX8_readsBuild_8 : decode cX8_readsBuild 8 = .ok (.getfield 123, 3) := by decide +kernel
theorem dX8_readsBuild_11 : decode cX8_readsBuild 11 = .ok (.ifCond .eq 23, 3) := by decide +kernel
theorem dX8_readsBuild_14 : decode cX8_readsBuild 14 = .ok (.aload_n 0, 1) := by decide +kernel
theorem dX8_readsBuild_15 : decode cX8_readsBuild 15 = .ok (.getfield 16, 3) := by decide +kernel
theorem dX8_readsBuild_18 : decode cX8_readsBuild 18 = .ok (.iconst 3, 1) := by decide +kernel
theorem dX8_readsBuild_19 : decode cX8_readsBuild 19 = .ok (.iload_n 2, 1) := by decide +kernel
theorem dX8_readsBuild_20 : decode cX8_readsBuild 20 = .ok (.iadd, 1) := by decide +kernel
theorem dX8_readsBuild_21 : decode cX8_readsBuild 21 = .ok (.iaload, 1) := by decide +kernel
theorem dX8_readsBuild_22 : decode cX8_readsBuild 22 = .ok (.iconst 5, 1) := by decide +kernel
theorem dX8_readsBuild_23 : decode cX8_readsBuild 23 = .ok (.if_icmp .ne 11, 3) := by decide +kernel
theorem dX8_readsBuild_26 : decode cX8_readsBuild 26 = .ok (.aload_n 0, 1) := by decide +kernel
theorem dX8_readsBuild_27 : decode cX8_readsBuild 27 = .ok (.aload_n 0, 1) := by decide +kernel
theorem dX8_readsBuild_28 : decode cX8_readsBuild 28 = .ok (.getfield 120, 3) := by decide +kernel
theorem dX8_readsBuild_31 : decode cX8_readsBuild 31 = .ok (.invokevirtual 136, 3) := by decide +kernel
theorem dX8_readsBuild_34 : decode cX8_readsBuild 34 = .ok (.aload_n 0, 1) := by decide +kernel
theorem dX8_readsBuild_35 : decode cX8_readsBuild 35 = .ok (.iconst 0, 1) := by decide +kernel
theorem dX8_readsBuild_36 : decode cX8_readsBuild 36 = .ok (.iconst 5, 1) := by decide +kernel
theorem dX8_readsBuild_37 : decode cX8_readsBuild 37 = .ok (.invokevirtual 140, 3) := by decide +kernel
theorem dX8_readsBuild_40 : decode cX8_readsBuild 40 = .ok (.istore_n 3, 1) := by decide +kernel
theorem dX8_readsBuild_41 : decode cX8_readsBuild 41 = .ok (.aload_n 0, 1) := by decide +kernel
theorem dX8_readsBuild_42 : decode cX8_readsBuild 42 = .ok (.invokevirtual 143, 3) := by decide +kernel
theorem dX8_readsBuild_45 : decode cX8_readsBuild 45 = .ok (.aload_n 0, 1) := by decide +kernel
theorem dX8_readsBuild_46 : decode cX8_readsBuild 46 = .ok (.getfield 123, 3) := by decide +kernel
theorem dX8_readsBuild_49 : decode cX8_readsBuild 49 = .ok (.ifCond .eq 26, 3) := by decide +kernel
theorem dX8_readsBuild_52 : decode cX8_readsBuild 52 = .ok (.aload_n 0, 1) := by decide +kernel
theorem dX8_readsBuild_53 : decode cX8_readsBuild 53 = .ok (.getfield 16, 3) := by decide +kernel
theorem dX8_readsBuild_56 : decode cX8_readsBuild 56 = .ok (.iload_n 2, 1) := by decide +kernel
theorem dX8_readsBuild_57 : decode cX8_readsBuild 57 = .ok (.iload_n 3, 1) := by decide +kernel
theorem dX8_readsBuild_58 : decode cX8_readsBuild 58 = .ok (.iload_n 1, 1) := by decide +kernel
theorem dX8_readsBuild_59 : decode cX8_readsBuild 59 = .ok (.ifCond .eq 7, 3) := by decide +kernel
theorem dX8_readsBuild_62 : decode cX8_readsBuild 62 = .ok (.iconst 0, 1) := by decide +kernel
theorem dX8_readsBuild_63 : decode cX8_readsBuild 63 = .ok (.goto 9, 3) := by decide +kernel
theorem dX8_readsBuild_66 : decode cX8_readsBuild 66 = .ok (.aload_n 0, 1) := by decide +kernel
theorem dX8_readsBuild_67 : decode cX8_readsBuild 67 = .ok (.getfield 16, 3) := by decide +kernel
theorem dX8_readsBuild_70 : decode cX8_readsBuild 70 = .ok (.iconst 1, 1) := by decide +kernel
theorem dX8_readsBuild_71 : decode cX8_readsBuild 71 = .ok (.iaload, 1) := by decide +kernel
theorem dX8_readsBuild_72 : decode cX8_readsBuild 72 = .ok (.invokestatic 146, 3) := by decide +kernel
theorem dX8_readsBuild_75 : decode cX8_readsBuild 75 = .ok (.return_, 1) := by decide +kernel
theorem dX8_readsYears_0 : decode cX8_readsYears 0 = .ok (.aload_n 0, 1) := by decide +kernel
theorem dX8_readsYears_1 : decode cX8_readsYears 1 = .ok (.iconst 1, 1) := by decide +kernel
theorem dX8_readsYears_2 : decode cX8_readsYears 2 = .ok (.bipush 99, 2) := by decide +kernel
theorem dX8_readsYears_4 : decode cX8_readsYears 4 = .ok (.invokevirtual 140, 3) := by decide +kernel
theorem dX8_readsYears_7 : decode cX8_readsYears 7 = .ok (.istore_n 1, 1) := by decide +kernel
theorem dX8_readsYears_8 : decode cX8_readsYears 8 = .ok (.aload_n 0, 1) := by decide +kernel
theorem dX8_readsYears_9 : decode cX8_readsYears 9 = .ok (.invokevirtual 143, 3) := by decide +kernel
theorem dX8_readsYears_12 : decode cX8_readsYears 12 = .ok (.iconst 0, 1) := by decide +kernel
theorem dX8_readsYears_13 : decode cX8_readsYears 13 = .ok (.istore_n 2, 1) := by decide +kernel
theorem dX8_readsYears_14 : decode cX8_readsYears 14 = .ok (.iload_n 2, 1) := by decide +kernel
theorem dX8_readsYears_15 : decode cX8_readsYears 15 = .ok (.iload_n 1, 1) := by decide +kernel
theorem dX8_readsYears_16 : decode cX8_readsYears 16 = .ok (.if_icmp .ge 23, 3) := by decide +kernel
theorem dX8_readsYears_19 : decode cX8_readsYears 19 = .ok (.aload_n 0, 1) := by decide +kernel
theorem dX8_readsYears_20 : decode cX8_readsYears 20 = .ok (.getfield 123, 3) := by decide +kernel
theorem dX8_readsYears_23 : decode cX8_readsYears 23 = .ok (.ifCond .eq 16, 3) := by decide +kernel
theorem dX8_readsYears_26 : decode cX8_readsYears 26 = .ok (.aload_n 0, 1) := by decide +kernel
theorem dX8_readsYears_27 : decode cX8_readsYears 27 = .ok (.getfield 16, 3) := by decide +kernel
theorem dX8_readsYears_30 : decode cX8_readsYears 30 = .ok (.invokestatic 150, 3) := by decide +kernel
theorem dX8_readsYears_33 : decode cX8_readsYears 33 = .ok (.iinc 2 1, 3) := by decide +kernel
theorem dX8_readsYears_36 : decode cX8_readsYears 36 = .ok (.goto (-22), 3) := by decide +kernel
theorem dX8_readsYears_39 : decode cX8_readsYears 39 = .ok (.return_, 1) := by decide +kernel
theorem dX8_readsItem_0 : decode cX8_readsItem 0 = .ok (.aload_n 0, 1) := by decide +kernel
theorem dX8_readsItem_1 : decode cX8_readsItem 1 = .ok (.invokevirtual 153, 3) := by decide +kernel
theorem dX8_readsItem_4 : decode cX8_readsItem 4 = .ok (.istore_n 2, 1) := by decide +kernel
theorem dX8_readsItem_5 : decode cX8_readsItem 5 = .ok (.aload_n 0, 1) := by decide +kernel
theorem dX8_readsItem_6 : decode cX8_readsItem 6 = .ok (.iload_n 2, 1) := by decide +kernel
theorem dX8_readsItem_7 : decode cX8_readsItem 7 = .ok (.aload_n 0, 1) := by decide +kernel
theorem dX8_readsItem_8 : decode cX8_readsItem 8 = .ok (.getfield 114, 3) := by decide +kernel
theorem dX8_readsItem_11 : decode cX8_readsItem 11 = .ok (.aload_n 0, 1) := by decide +kernel
theorem dX8_readsItem_12 : decode cX8_readsItem 12 = .ok (.getfield 120, 3) := by decide +kernel
theorem dX8_readsItem_15 : decode cX8_readsItem 15 = .ok (.isub, 1) := by decide +kernel
theorem dX8_readsItem_16 : decode cX8_readsItem 16 = .ok (.invokevirtual 156, 3) := by decide +kernel
theorem dX8_readsItem_19 : decode cX8_readsItem 19 = .ok (.istore_n 3, 1) := by decide +kernel
theorem dX8_readsItem_20 : decode cX8_readsItem 20 = .ok (.iload_n 1, 1) := by decide +kernel
theorem dX8_readsItem_21 : decode cX8_readsItem 21 = .ok (.iload_n 3, 1) := by decide +kernel
theorem dX8_readsItem_22 : decode cX8_readsItem 22 = .ok (.iconst 1, 1) := by decide +kernel
theorem dX8_readsItem_23 : decode cX8_readsItem 23 = .ok (.if_icmp .ne 7, 3) := by decide +kernel
theorem dX8_readsItem_26 : decode cX8_readsItem 26 = .ok (.iconst 1, 1) := by decide +kernel
theorem dX8_readsItem_27 : decode cX8_readsItem 27 = .ok (.goto 4, 3) := by decide +kernel
theorem dX8_readsItem_30 : decode cX8_readsItem 30 = .ok (.iconst 0, 1) := by decide +kernel
theorem dX8_readsItem_31 : decode cX8_readsItem 31 = .ok (.if_icmp .ne 7, 3) := by decide +kernel
theorem dX8_readsItem_34 : decode cX8_readsItem 34 = .ok (.iload_n 3, 1) := by decide +kernel
theorem dX8_readsItem_35 : decode cX8_readsItem 35 = .ok (.ifCond .ne 14, 3) := by decide +kernel
theorem dX8_readsItem_38 : decode cX8_readsItem 38 = .ok (.aload_n 0, 1) := by decide +kernel
theorem dX8_readsItem_39 : decode cX8_readsItem 39 = .ok (.aload_n 0, 1) := by decide +kernel
theorem dX8_readsItem_40 : decode cX8_readsItem 40 = .ok (.getfield 120, 3) := by decide +kernel
theorem dX8_readsItem_43 : decode cX8_readsItem 43 = .ok (.invokevirtual 136, 3) := by decide +kernel
theorem dX8_readsItem_46 : decode cX8_readsItem 46 = .ok (.goto 69, 3) := by decide +kernel
theorem dX8_readsItem_49 : decode cX8_readsItem 49 = .ok (.iload_n 3, 1) := by decide +kernel
theorem dX8_readsItem_50 : decode cX8_readsItem 50 = .ok (.iconst 1, 1) := by decide +kernel
theorem dX8_readsItem_51 : decode cX8_readsItem 51 = .ok (.if_icmp .ne 22, 3) := by decide +kernel
theorem dX8_readsItem_54 : decode cX8_readsItem 54 = .ok (.aload_n 0, 1) := by decide +kernel
theorem dX8_readsItem_55 : decode cX8_readsItem 55 = .ok (.getfield 16, 3) := by decide +kernel
theorem dX8_readsItem_58 : decode cX8_readsItem 58 = .ok (.iconst 0, 1) := by decide +kernel
theorem dX8_readsItem_59 : decode cX8_readsItem 59 = .ok (.aload_n 0, 1) := by decide +kernel
theorem dX8_readsItem_60 : decode cX8_readsItem 60 = .ok (.iconst 0, 1) := by decide +kernel
theorem dX8_readsItem_61 : decode cX8_readsItem 61 = .ok (.iconst 5, 1) := by decide +kernel
theorem dX8_readsItem_62 : decode cX8_readsItem 62 = .ok (.invokevirtual 140, 3) := by decide +kernel
theorem dX8_readsItem_65 : decode cX8_readsItem 65 = .ok (.iastore, 1) := by decide +kernel
theorem dX8_readsItem_66 : decode cX8_readsItem 66 = .ok (.aload_n 0, 1) := by decide +kernel
theorem dX8_readsItem_67 : decode cX8_readsItem 67 = .ok (.invokevirtual 143, 3) := by decide +kernel
theorem dX8_readsItem_70 : decode cX8_readsItem 70 = .ok (.goto 45, 3) := by decide +kernel
theorem dX8_readsItem_73 : decode cX8_readsItem 73 = .ok (.iload_n 3, 1) := by decide +kernel
theorem dX8_readsItem_74 : decode cX8_readsItem 74 = .ok (.iconst 2, 1) := by decide +kernel
theorem dX8_readsItem_75 : decode cX8_readsItem 75 = .ok (.if_icmp .ne 14, 3) := by decide +kernel
theorem dX8_readsItem_78 : decode cX8_readsItem 78 = .ok (.aload_n 0, 1) := by decide +kernel
theorem dX8_readsItem_79 : decode cX8_readsItem 79 = .ok (.invokevirtual 159, 3) := by decide +kernel
theorem dX8_readsItem_82 : decode cX8_readsItem 82 = .ok (.aload_n 0, 1) := by decide +kernel
theorem dX8_readsItem_83 : decode cX8_readsItem 83 = .ok (.invokevirtual 143, 3) := by decide +kernel
theorem dX8_readsItem_86 : decode cX8_readsItem 86 = .ok (.goto 29, 3) := by decide +kernel
theorem dX8_readsItem_89 : decode cX8_readsItem 89 = .ok (.iload_n 3, 1) := by decide +kernel
theorem dX8_readsItem_90 : decode cX8_readsItem 90 = .ok (.iconst 5, 1) := by decide +kernel
theorem dX8_readsItem_91 : decode cX8_readsItem 91 = .ok (.if_icmp .ne 10, 3) := by decide +kernel
theorem dX8_readsItem_94 : decode cX8_readsItem 94 = .ok (.aload_n 0, 1) := by decide +kernel
theorem dX8_readsItem_95 : decode cX8_readsItem 95 = .ok (.invokevirtual 162, 3) := by decide +kernel
theorem dX8_readsItem_98 : decode cX8_readsItem 98 = .ok (.goto 17, 3) := by decide +kernel
theorem dX8_readsItem_101 : decode cX8_readsItem 101 = .ok (.aload_n 0, 1) := by decide +kernel
theorem dX8_readsItem_102 : decode cX8_readsItem 102 = .ok (.iload_n 3, 1) := by decide +kernel
theorem dX8_readsItem_103 : decode cX8_readsItem 103 = .ok (.iconst 4, 1) := by decide +kernel
theorem dX8_readsItem_104 : decode cX8_readsItem 104 = .ok (.if_icmp .ne 7, 3) := by decide +kernel
theorem dX8_readsItem_107 : decode cX8_readsItem 107 = .ok (.iconst 1, 1) := by decide +kernel
theorem dX8_readsItem_108 : decode cX8_readsItem 108 = .ok (.goto 4, 3) := by decide +kernel
theorem dX8_readsItem_111 : decode cX8_readsItem 111 = .ok (.iconst 0, 1) := by decide +kernel
theorem dX8_readsItem_112 : decode cX8_readsItem 112 = .ok (.invokevirtual 165, 3) := by decide +kernel
theorem dX8_readsItem_115 : decode cX8_readsItem 115 = .ok (.return_, 1) := by decide +kernel
theorem dX8_read_0 : decode cX8_read 0 = .ok (.aload_n 0, 1) := by decide +kernel
theorem dX8_read_1 : decode cX8_read 1 = .ok (.getfield 16, 3) := by decide +kernel
theorem dX8_read_4 : decode cX8_read 4 = .ok (.invokestatic 94, 3) := by decide +kernel
theorem dX8_read_7 : decode cX8_read 7 = .ok (.aload_n 0, 1) := by decide +kernel
theorem dX8_read_8 : decode cX8_read 8 = .ok (.iconst 0, 1) := by decide +kernel
theorem dX8_read_9 : decode cX8_read 9 = .ok (.putfield 114, 3) := by decide +kernel
theorem dX8_read_12 : decode cX8_read 12 = .ok (.aload_n 0, 1) := by decide +kernel
theorem dX8_read_13 : decode cX8_read 13 = .ok (.iconst 1, 1) := by decide +kernel
theorem dX8_read_14 : decode cX8_read 14 = .ok (.putfield 123, 3) := by decide +kernel
theorem dX8_read_17 : decode cX8_read 17 = .ok (.iconst 0, 1) := by decide +kernel
theorem dX8_read_18 : decode cX8_read 18 = .ok (.istore_n 1, 1) := by decide +kernel
theorem dX8_read_19 : decode cX8_read 19 = .ok (.iconst 1, 1) := by decide +kernel
theorem dX8_read_20 : decode cX8_read 20 = .ok (.istore_n 2, 1) := by decide +kernel
theorem dX8_read_21 : decode cX8_read 21 = .ok (.iload_n 2, 1) := by decide +kernel
theorem dX8_read_22 : decode cX8_read 22 = .ok (.ifCond .eq 54, 3) := by decide +kernel
theorem dX8_read_25 : decode cX8_read 25 = .ok (.aload_n 0, 1) := by decide +kernel
theorem dX8_read_26 : decode cX8_read 26 = .ok (.getfield 123, 3) := by decide +kernel
theorem dX8_read_29 : decode cX8_read 29 = .ok (.ifCond .eq 47, 3) := by decide +kernel
theorem dX8_read_32 : decode cX8_read 32 = .ok (.aload_n 0, 1) := by decide +kernel
theorem dX8_read_33 : decode cX8_read 33 = .ok (.iload_n 1, 1) := by decide +kernel
theorem dX8_read_34 : decode cX8_read 34 = .ok (.ifCond .ne 7, 3) := by decide +kernel
theorem dX8_read_37 : decode cX8_read 37 = .ok (.iconst 1, 1) := by decide +kernel
theorem dX8_read_38 : decode cX8_read 38 = .ok (.goto 4, 3) := by decide +kernel
theorem dX8_read_41 : decode cX8_read 41 = .ok (.iconst 0, 1) := by decide +kernel
theorem dX8_read_42 : decode cX8_read 42 = .ok (.invokevirtual 169, 3) := by decide +kernel
theorem dX8_read_45 : decode cX8_read 45 = .ok (.iinc 1 1, 3) := by decide +kernel
theorem dX8_read_48 : decode cX8_read 48 = .ok (.aload_n 0, 1) := by decide +kernel
theorem dX8_read_49 : decode cX8_read 49 = .ok (.getfield 123, 3) := by decide +kernel
theorem dX8_read_52 : decode cX8_read 52 = .ok (.ifCond .eq 7, 3) := by decide +kernel
theorem dX8_read_55 : decode cX8_read 55 = .ok (.aload_n 0, 1) := by decide +kernel
theorem dX8_read_56 : decode cX8_read 56 = .ok (.invokevirtual 130, 3) := by decide +kernel
theorem dX8_read_59 : decode cX8_read 59 = .ok (.aload_n 0, 1) := by decide +kernel
theorem dX8_read_60 : decode cX8_read 60 = .ok (.invokevirtual 117, 3) := by decide +kernel
theorem dX8_read_63 : decode cX8_read 63 = .ok (.iconst (-1), 1) := by decide +kernel
theorem dX8_read_64 : decode cX8_read 64 = .ok (.if_icmp .eq 7, 3) := by decide +kernel
theorem dX8_read_67 : decode cX8_read 67 = .ok (.iconst 1, 1) := by decide +kernel
theorem dX8_read_68 : decode cX8_read 68 = .ok (.goto 4, 3) := by decide +kernel
theorem dX8_read_71 : decode cX8_read 71 = .ok (.iconst 0, 1) := by decide +kernel
theorem dX8_read_72 : decode cX8_read 72 = .ok (.istore_n 2, 1) := by decide +kernel
theorem dX8_read_73 : decode cX8_read 73 = .ok (.goto (-52), 3) := by decide +kernel
theorem dX8_read_76 : decode cX8_read 76 = .ok (.aload_n 0, 1) := by decide +kernel
theorem dX8_read_77 : decode cX8_read 77 = .ok (.getfield 123, 3) := by decide +kernel
theorem dX8_read_80 : decode cX8_read 80 = .ok (.ifCond .ne 11, 3) := by decide +kernel
theorem dX8_read_83 : decode cX8_read 83 = .ok (.bipush (-10), 2) := by decide +kernel
theorem dX8_read_85 : decode cX8_read 85 = .ok (.aload_n 0, 1) := by decide +kernel
theorem dX8_read_86 : decode cX8_read 86 = .ok (.getfield 127, 3) := by decide +kernel
theorem dX8_read_89 : decode cX8_read 89 = .ok (.isub, 1) := by decide +kernel
theorem dX8_read_90 : decode cX8_read 90 = .ok (.ireturn, 1) := by decide +kernel
theorem dX8_read_91 : decode cX8_read 91 = .ok (.aload_n 0, 1) := by decide +kernel
theorem dX8_read_92 : decode cX8_read 92 = .ok (.getfield 16, 3) := by decide +kernel
theorem dX8_read_95 : decode cX8_read 95 = .ok (.iconst 0, 1) := by decide +kernel
theorem dX8_read_96 : decode cX8_read 96 = .ok (.aload_n 0, 1) := by decide +kernel
theorem dX8_read_97 : decode cX8_read 97 = .ok (.getfield 13, 3) := by decide +kernel
theorem dX8_read_100 : decode cX8_read 100 = .ok (.iconst 0, 1) := by decide +kernel
theorem dX8_read_101 : decode cX8_read 101 = .ok (.sipush 682, 3) := by decide +kernel
theorem dX8_read_104 : decode cX8_read 104 = .ok (.invokestatic 172, 3) := by decide +kernel
theorem dX8_read_107 : decode cX8_read 107 = .ok (.iload_n 1, 1) := by decide +kernel
theorem dX8_read_108 : decode cX8_read 108 = .ok (.ireturn, 1) := by decide +kernel
noncomputable def sp_X8_look (a0_letters : Int32) (a0_at : Int32) (fa0_text : Nat → Int32) : Option (Int32) := if a0_letters ≤ a0_at then (some (-1 : Int32)) else (gi a0_at 150 (some (fa0_text (a0_at).toNatClampNeg)))
set_option maxHeartbeats 4000000 in
set_option maxRecDepth 100000 in
theorem c_X8_look (l : Launch) (E : wE) (a0 a0_text a0_town a0_draft a0_tried a0_images a0_kept a0_refused a0_line a0_best : Nat) (a0_letters : Int32) (a0_above : Int64) (a0_below : Int64) (a0_at : Int32) (a0_start : Int32) (a0_isWell : Int32) (a0_faultAt : Int32) (fa0_text : Nat → Int32) (z : Int32) (hsp : sp_X8_look a0_letters a0_at fa0_text = some z) : MR l yX8_look cX8_look 1 (some .int) 0 E [.ref a0] [(a0, .inr (5, [.ref a0_text, .int a0_letters, .ref a0_town, .ref a0_draft, .ref a0_tried, .ref a0_images, .ref a0_kept, .ref a0_refused, .long a0_above, .long a0_below, .ref a0_line, .ref a0_best, .int a0_at, .int a0_start, .int a0_isWell, .int a0_faultAt])), (a0_text, aI E 150 fa0_text)] (some (.int z)) := by
  refine MR.of (by decide +kernel) (Nat.le_of_ble_eq_true rfl) ?_
  intro p e s m below meth c ls hX hK hP hl
  have hX : CX p s m [.ref a0].toArray meth c cX8_look 1 (some .int) RX8 := hX
  have hx := hX.1; have hb := hX.2.1; have hts := hX.2.2.2.2.1; have hown := hX.2.2.2.2.2.1
  have hl : lv_has ls 1 [(0, .ref a0)] := hl
  have hsp : (if a0_letters ≤ a0_at then (some (-1 : Int32)) else (gi a0_at 150 (some (fa0_text (a0_at).toNatClampNeg)))) = some z := hsp
  refine lv_aload_n hx hb dX8_look_0 rfl (lv_at hl 0 rfl) (W.pc 1 rfl ?_)
  refine va_get (D := E.1) (ci := 5) (v := .int a0_at) (C := RX8) (T := TX8) (N := 16) hx hb hts inT_X8 hown hK hP 0 rfl rfl 12 (by decide) (hts _ w_4_80) (fun _ h9 => h9) rfl dX8_look_1 (W.pc 4 rfl ?_)
  refine lv_aload_n hx hb dX8_look_4 rfl (lv_at hl 0 rfl) (W.pc 5 rfl ?_)
  refine va_get (D := E.1) (ci := 5) (v := .int a0_letters) (C := RX8) (T := TX8) (N := 16) hx hb hts inT_X8 hown hK hP 0 rfl rfl 1 (by decide) (hts _ w_4_69) (fun _ h9 => h9) rfl dX8_look_5 (W.pc 8 rfl ?_)
  refine lv_icmp_ge (tgt := 23) hx hb dX8_look_8 (by decide) (fun c1 => ?_) (fun c1 => W.pc 11 rfl ?_)
  · have hsp := ip hsp c1
    refine lv_iconst (v := (-1 : Int32)) hx hb dX8_look_23 (by decide) (W.pc 24 rfl ?_)
    obtain rfl := Option.some.inj hsp
    exact rRi hX rfl dX8_look_24
  · have hsp := iq hsp c1
    refine lv_aload_n hx hb dX8_look_11 rfl (lv_at hl 0 rfl) (W.pc 12 rfl ?_)
    refine va_get (D := E.1) (ci := 5) (v := .ref a0_text) (C := RX8) (T := TX8) (N := 16) hx hb hts inT_X8 hown hK hP 0 rfl rfl 0 (by decide) (hts _ w_4_68) (fun _ h9 => h9) rfl dX8_look_12 (W.pc 15 rfl ?_)
    refine lv_aload_n hx hb dX8_look_15 rfl (lv_at hl 0 rfl) (W.pc 16 rfl ?_)
    refine va_get (D := E.1) (ci := 5) (v := .int a0_at) (C := RX8) (T := TX8) (N := 16) hx hb hts inT_X8 hown hK hP 0 rfl rfl 12 (by decide) (hts _ w_4_80) (fun _ h9 => h9) rfl dX8_look_16 (W.pc 19 rfl ?_)
    obtain ⟨h2, hsp⟩ := gi_s hsp
    refine va_iald hx hb hK hP 1 0 rfl rfl h2 dX8_look_19 (W.pc 20 rfl ?_)
    refine lv_goto (tgt := 24) hx hb dX8_look_20 (by decide) ?_
    obtain rfl := Option.some.inj hsp
    exact rRi hX rfl dX8_look_24
noncomputable def lp_X8_skips_0 (a0_letters : Int32) (fa0_text : Nat → Int32) : Nat → Int32 → Option (Int32)
 | 0, _ => none
 | fu + 1, ya0_12_0 => Option.bind (sp_X8_look a0_letters ya0_12_0 fa0_text) fun z2 => if z2 = (32 : Int32) then (lp_X8_skips_0 a0_letters fa0_text fu (ya0_12_0 + (1 : Int32))) else (some ya0_12_0)
noncomputable def sp_X8_skips (a0_letters : Int32) (a0_at : Int32) (fa0_text : Nat → Int32) : Option (Int32 × Int32) := Option.bind (lp_X8_skips_0 a0_letters fa0_text FU a0_at) fun z1 => some (z1, z1)
set_option maxHeartbeats 4000000 in
set_option maxRecDepth 100000 in
theorem c_X8_skips (l : Launch) (E : wE) (a0 a0_text a0_town a0_draft a0_tried a0_images a0_kept a0_refused a0_line a0_best : Nat) (a0_letters : Int32) (a0_above : Int64) (a0_below : Int64) (a0_at : Int32) (a0_start : Int32) (a0_isWell : Int32) (a0_faultAt : Int32) (fa0_text : Nat → Int32) (z_0 : Int32) (z_1 : Int32) (hsp : sp_X8_skips a0_letters a0_at fa0_text = some (z_0, z_1)) : MW l yX8_skips cX8_skips 1 none 1 E [.ref a0] [(a0, .inr (5, [.ref a0_text, .int a0_letters, .ref a0_town, .ref a0_draft, .ref a0_tried, .ref a0_images, .ref a0_kept, .ref a0_refused, .long a0_above, .long a0_below, .ref a0_line, .ref a0_best, .int a0_at, .int a0_start, .int a0_isWell, .int a0_faultAt])), (a0_text, aI E 150 fa0_text)] none [(a0, .inr (5, [.ref a0_text, .int a0_letters, .ref a0_town, .ref a0_draft, .ref a0_tried, .ref a0_images, .ref a0_kept, .ref a0_refused, .long a0_above, .long a0_below, .ref a0_line, .ref a0_best, .int z_0, .int z_1, .int a0_isWell, .int a0_faultAt])), (a0_text, aI E 150 fa0_text)] := by
  refine MW.of (by decide +kernel) (Nat.le_of_ble_eq_true rfl) ?_
  intro p e s m below meth c ls A hX hK hP hD hS hA hl
  have hX : CX p s m [.ref a0].toArray meth c cX8_skips 1 none RX8 := hX
  have hx := hX.1; have hb := hX.2.1; have hts := hX.2.2.2.2.1; have hown := hX.2.2.2.2.2.1
  have hl : lv_has ls 1 [(0, .ref a0)] := hl
  have hP : wP E [(a0, .inr (5, [.ref a0_text, .int a0_letters, .ref a0_town, .ref a0_draft, .ref a0_tried, .ref a0_images, .ref a0_kept, .ref a0_refused, .long a0_above, .long a0_below, .ref a0_line, .ref a0_best, .int a0_at, .int a0_start, .int a0_isWell, .int a0_faultAt])), (a0_text, aI E 150 fa0_text)] s.heap := hP
  have hsp : (Option.bind (lp_X8_skips_0 a0_letters fa0_text FU a0_at) fun z1 => some (z1, z1)) = some (z_0, z_1) := hsp
  have L_0 : ∀ (z1 : Int32), (∀ (H : Heap) (locs : List Loc) (ls : Array Slot), wP E [(a0, .inr (5, [.ref a0_text, .int a0_letters, .ref a0_town, .ref a0_draft, .ref a0_tried, .ref a0_images, .ref a0_kept, .ref a0_refused, .long a0_above, .long a0_below, .ref a0_line, .ref a0_best, .int z1, .int a0_start, .int a0_isWell, .int a0_faultAt])), (a0_text, aI E 150 fa0_text)] H → va_D A [(a0, .inr (5, [.ref a0_text, .int a0_letters, .ref a0_town, .ref a0_draft, .ref a0_tried, .ref a0_images, .ref a0_kept, .ref a0_refused, .long a0_above, .long a0_below, .ref a0_line, .ref a0_best, .int z1, .int a0_start, .int a0_isWell, .int a0_faultAt])), (a0_text, aI E 150 fa0_text)] → va_S A s.heap H locs → lv_has ls 1 [(0, .ref a0)] → W p l e (wR 1) s m [.ref a0].toArray below meth c H locs 0 0 (MQ below (QWd E A none [(a0, .inr (5, [.ref a0_text, .int a0_letters, .ref a0_town, .ref a0_draft, .ref a0_tried, .ref a0_images, .ref a0_kept, .ref a0_refused, .long a0_above, .long a0_below, .ref a0_line, .ref a0_best, .int z_0, .int z_1, .int a0_isWell, .int a0_faultAt])), (a0_text, aI E 150 fa0_text)]) [.ref a0].toArray s 0 0 A) (F0 m 22 ls [])) → ∀ (fu : Nat) (ya0_12_0 : Int32), ∀ (H : Heap) (locs : List Loc) (ls : Array Slot), wP E [(a0, .inr (5, [.ref a0_text, .int a0_letters, .ref a0_town, .ref a0_draft, .ref a0_tried, .ref a0_images, .ref a0_kept, .ref a0_refused, .long a0_above, .long a0_below, .ref a0_line, .ref a0_best, .int ya0_12_0, .int a0_start, .int a0_isWell, .int a0_faultAt])), (a0_text, aI E 150 fa0_text)] H → va_D A [(a0, .inr (5, [.ref a0_text, .int a0_letters, .ref a0_town, .ref a0_draft, .ref a0_tried, .ref a0_images, .ref a0_kept, .ref a0_refused, .long a0_above, .long a0_below, .ref a0_line, .ref a0_best, .int ya0_12_0, .int a0_start, .int a0_isWell, .int a0_faultAt])), (a0_text, aI E 150 fa0_text)] → va_S A s.heap H locs → lv_has ls 1 [(0, .ref a0)] → lp_X8_skips_0 a0_letters fa0_text fu ya0_12_0 = some z1 → W p l e (wR 1) s m [.ref a0].toArray below meth c H locs 0 0 (MQ below (QWd E A none [(a0, .inr (5, [.ref a0_text, .int a0_letters, .ref a0_town, .ref a0_draft, .ref a0_tried, .ref a0_images, .ref a0_kept, .ref a0_refused, .long a0_above, .long a0_below, .ref a0_line, .ref a0_best, .int z_0, .int z_1, .int a0_isWell, .int a0_faultAt])), (a0_text, aI E 150 fa0_text)]) [.ref a0].toArray s 0 0 A) (F0 m 0 ls []) := by
    intro z1 hk_0 fu
    induction fu with
    | zero => intro ya0_12_0 H locs ls hP hD hS hl hsp; exact absurd (show none = some _ from hsp) (by simp)
    | succ fu ih_0 =>
      intro ya0_12_0 H locs ls hP hD hS hl hsp
      have hsp : (Option.bind (sp_X8_look a0_letters ya0_12_0 fa0_text) fun z2 => if z2 = (32 : Int32) then (lp_X8_skips_0 a0_letters fa0_text fu (ya0_12_0 + (1 : Int32))) else (some ya0_12_0)) = some z1 := hsp
      refine lv_aload_n hx hb dX8_skips_0 rfl (lv_at hl 0 rfl) (W.pc 1 rfl ?_)
      obtain ⟨z2, hr_z2, hsp⟩ := bd_s hsp
      refine kVR (st1 := [.int z2]) hX (c_X8_look l E a0 a0_text a0_town a0_draft a0_tried a0_images a0_kept a0_refused a0_line a0_best a0_letters a0_above a0_below ya0_12_0 a0_start a0_isWell a0_faultAt fa0_text z2 hr_z2) B_X8_look w_4_184 hK (hP.pick [0, 1] rfl) (q0 := 0) (ci := 5) rfl rfl rfl rfl hl.1 rfl (Nat.le_of_ble_eq_true rfl) ⟨Nat.le_of_ble_eq_true rfl, Nat.le_of_ble_eq_true rfl⟩ dX8_skips_1 rfl (W.pc 4 rfl ?_)
      refine lv_bipush (v := (32 : Int32)) hx hb dX8_skips_4 (by decide) (W.pc 6 rfl ?_)
      refine lv_icmp_ne (tgt := 22) hx hb dX8_skips_6 (by decide) (fun c3 => ?_) (fun c3 => W.pc 9 rfl ?_)
      · have hsp := iq hsp c3
        obtain rfl := Option.some.inj hsp
        exact hk_0 _ _ _ hP hD hS (lv_sub hl [0] rfl)
      · have hsp := ip hsp c3
        refine lv_aload_n hx hb dX8_skips_9 rfl (lv_at hl 0 rfl) (W.pc 10 rfl ?_)
        refine lv_dup hx hb dX8_skips_10 rfl (W.pc 11 rfl ?_)
        refine va_get (D := E.1) (ci := 5) (v := .int ya0_12_0) (C := RX8) (T := TX8) (N := 16) hx hb hts inT_X8 hown hK hP 0 rfl rfl 12 (by decide) (hts _ w_4_80) (fun _ h9 => h9) rfl dX8_skips_11 (W.pc 14 rfl ?_)
        refine lv_iconst (v := (1 : Int32)) hx hb dX8_skips_14 (by decide) (W.pc 15 rfl ?_)
        refine lv_iadd hx hb dX8_skips_15 (W.pc 16 rfl ?_)
        refine va_put (D := E.1) (ci := 5) (v := .int (ya0_12_0 + (1 : Int32))) (ty := .int) (C := RX8) (T := TX8) (N := 16) hx hb hts inT_X8 tyX8 tyX8_ok nmX8 hown hK hP hD hS 0 rfl rfl 12 (by decide) (hts _ w_4_80) (fun _ h9 => h9) rfl (by decide +kernel) rfl rfl (Nat.le_of_ble_eq_true rfl) dX8_skips_16 (fun H locs hP hD hS => W.pc 19 rfl ?_)
        have hP : wP E [(a0, .inr (5, [.ref a0_text, .int a0_letters, .ref a0_town, .ref a0_draft, .ref a0_tried, .ref a0_images, .ref a0_kept, .ref a0_refused, .long a0_above, .long a0_below, .ref a0_line, .ref a0_best, .int (ya0_12_0 + (1 : Int32)), .int a0_start, .int a0_isWell, .int a0_faultAt])), (a0_text, aI E 150 fa0_text)] _ := hP
        have hD : va_D A [(a0, .inr (5, [.ref a0_text, .int a0_letters, .ref a0_town, .ref a0_draft, .ref a0_tried, .ref a0_images, .ref a0_kept, .ref a0_refused, .long a0_above, .long a0_below, .ref a0_line, .ref a0_best, .int (ya0_12_0 + (1 : Int32)), .int a0_start, .int a0_isWell, .int a0_faultAt])), (a0_text, aI E 150 fa0_text)] := hD
        refine lv_goto (tgt := 0) hx hb dX8_skips_19 (by decide) ?_
        exact ih_0 (ya0_12_0 + (1 : Int32)) _ _ _ hP hD hS (lv_sub hl [0] rfl) hsp
  obtain ⟨z1, hr_z1, hsp⟩ := bd_s hsp
  refine L_0 z1 (fun H locs ls hP hD hS hl => ?_) FU a0_at _ _ _ hP hD hS (lv_sub hl [0] rfl) hr_z1
  refine lv_aload_n hx hb dX8_skips_22 rfl (lv_at hl 0 rfl) (W.pc 23 rfl ?_)
  refine lv_aload_n hx hb dX8_skips_23 rfl (lv_at hl 0 rfl) (W.pc 24 rfl ?_)
  refine va_get (D := E.1) (ci := 5) (v := .int z1) (C := RX8) (T := TX8) (N := 16) hx hb hts inT_X8 hown hK hP 0 rfl rfl 12 (by decide) (hts _ w_4_80) (fun _ h9 => h9) rfl dX8_skips_24 (W.pc 27 rfl ?_)
  refine va_put (D := E.1) (ci := 5) (v := .int z1) (ty := .int) (C := RX8) (T := TX8) (N := 16) hx hb hts inT_X8 tyX8 tyX8_ok nmX8 hown hK hP hD hS 0 rfl rfl 13 (by decide) (hts _ w_4_81) (fun _ h9 => h9) rfl (by decide +kernel) rfl rfl (Nat.le_of_ble_eq_true rfl) dX8_skips_27 (fun H locs hP hD hS => W.pc 30 rfl ?_)
  have hP : wP E [(a0, .inr (5, [.ref a0_text, .int a0_letters, .ref a0_town, .ref a0_draft, .ref a0_tried, .ref a0_images, .ref a0_kept, .ref a0_refused, .long a0_above, .long a0_below, .ref a0_line, .ref a0_best, .int z1, .int z1, .int a0_isWell, .int a0_faultAt])), (a0_text, aI E 150 fa0_text)] _ := hP
  have hD : va_D A [(a0, .inr (5, [.ref a0_text, .int a0_letters, .ref a0_town, .ref a0_draft, .ref a0_tried, .ref a0_images, .ref a0_kept, .ref a0_refused, .long a0_above, .long a0_below, .ref a0_line, .ref a0_best, .int z1, .int z1, .int a0_isWell, .int a0_faultAt])), (a0_text, aI E 150 fa0_text)] := hD
  cases hsp
  exact rWv hX hP hS rfl dX8_skips_30
def sp_X8_fails (p1 : Int32) (a0_isWell : Int32) (a0_faultAt : Int32) : Int32 × Int32 := lt_ (if a0_isWell = 0 then (a0_faultAt) else (p1)) fun z1 => ((0 : Int32), z1)
set_option maxHeartbeats 4000000 in
set_option maxRecDepth 100000 in
theorem c_X8_fails (l : Launch) (E : wE) (a0 a0_text a0_town a0_draft a0_tried a0_images a0_kept a0_refused a0_line a0_best : Nat) (p1 : Int32) (a0_letters : Int32) (a0_above : Int64) (a0_below : Int64) (a0_at : Int32) (a0_start : Int32) (a0_isWell : Int32) (a0_faultAt : Int32) (z_0 : Int32) (z_1 : Int32) (hsp : sp_X8_fails p1 a0_isWell a0_faultAt = (z_0, z_1)) : MW l yX8_fails cX8_fails 2 none 0 E [.ref a0, .int p1] [(a0, .inr (5, [.ref a0_text, .int a0_letters, .ref a0_town, .ref a0_draft, .ref a0_tried, .ref a0_images, .ref a0_kept, .ref a0_refused, .long a0_above, .long a0_below, .ref a0_line, .ref a0_best, .int a0_at, .int a0_start, .int a0_isWell, .int a0_faultAt]))] none [(a0, .inr (5, [.ref a0_text, .int a0_letters, .ref a0_town, .ref a0_draft, .ref a0_tried, .ref a0_images, .ref a0_kept, .ref a0_refused, .long a0_above, .long a0_below, .ref a0_line, .ref a0_best, .int a0_at, .int a0_start, .int z_0, .int z_1]))] := by
  refine MW.of (by decide +kernel) (Nat.le_of_ble_eq_true rfl) ?_
  intro p e s m below meth c ls A hX hK hP hD hS hA hl
  have hX : CX p s m [.ref a0, .int p1].toArray meth c cX8_fails 2 none RX8 := hX
  have hx := hX.1; have hb := hX.2.1; have hts := hX.2.2.2.2.1; have hown := hX.2.2.2.2.2.1
  have hl : lv_has ls 2 [(0, .ref a0), (1, .int p1)] := hl
  have hP : wP E [(a0, .inr (5, [.ref a0_text, .int a0_letters, .ref a0_town, .ref a0_draft, .ref a0_tried, .ref a0_images, .ref a0_kept, .ref a0_refused, .long a0_above, .long a0_below, .ref a0_line, .ref a0_best, .int a0_at, .int a0_start, .int a0_isWell, .int a0_faultAt]))] s.heap := hP
  have hsp : (lt_ (if a0_isWell = 0 then (a0_faultAt) else (p1)) fun z1 => ((0 : Int32), z1)) = (z_0, z_1) := hsp
  refine lv_aload_n hx hb dX8_fails_0 rfl (lv_at hl 0 rfl) (W.pc 1 rfl ?_)
  refine lv_aload_n hx hb dX8_fails_1 rfl (lv_at hl 0 rfl) (W.pc 2 rfl ?_)
  refine va_get (D := E.1) (ci := 5) (v := .int a0_isWell) (C := RX8) (T := TX8) (N := 16) hx hb hts inT_X8 hown hK hP 0 rfl rfl 14 (by decide) (hts _ w_4_82) (fun _ h9 => h9) rfl dX8_fails_2 (W.pc 5 rfl ?_)
  obtain ⟨z1, hr_z1, hsp⟩ := ltb_s hsp
  have J2 : ∀ (H : Heap) (locs : List Loc) (ls : Array Slot), wP E [(a0, .inr (5, [.ref a0_text, .int a0_letters, .ref a0_town, .ref a0_draft, .ref a0_tried, .ref a0_images, .ref a0_kept, .ref a0_refused, .long a0_above, .long a0_below, .ref a0_line, .ref a0_best, .int a0_at, .int a0_start, .int a0_isWell, .int a0_faultAt]))] H → va_D A [(a0, .inr (5, [.ref a0_text, .int a0_letters, .ref a0_town, .ref a0_draft, .ref a0_tried, .ref a0_images, .ref a0_kept, .ref a0_refused, .long a0_above, .long a0_below, .ref a0_line, .ref a0_best, .int a0_at, .int a0_start, .int a0_isWell, .int a0_faultAt]))] → va_S A s.heap H locs → lv_has ls 2 [(0, .ref a0)] → W p l e (wR 0) s m [.ref a0, .int p1].toArray below meth c H locs 0 0 (MQ below (QWd E A none [(a0, .inr (5, [.ref a0_text, .int a0_letters, .ref a0_town, .ref a0_draft, .ref a0_tried, .ref a0_images, .ref a0_kept, .ref a0_refused, .long a0_above, .long a0_below, .ref a0_line, .ref a0_best, .int a0_at, .int a0_start, .int z_0, .int z_1]))]) [.ref a0, .int p1].toArray s 0 0 A) (F0 m 16 ls [.int z1, .ref a0]) := by
    intro H locs ls hP hD hS hl
    refine va_put (D := E.1) (ci := 5) (v := .int z1) (ty := .int) (C := RX8) (T := TX8) (N := 16) hx hb hts inT_X8 tyX8 tyX8_ok nmX8 hown hK hP hD hS 0 rfl rfl 15 (by decide) (hts _ w_4_83) (fun _ h9 => h9) rfl (by decide +kernel) rfl rfl (Nat.le_of_ble_eq_true rfl) dX8_fails_16 (fun H locs hP hD hS => W.pc 19 rfl ?_)
    have hP : wP E [(a0, .inr (5, [.ref a0_text, .int a0_letters, .ref a0_town, .ref a0_draft, .ref a0_tried, .ref a0_images, .ref a0_kept, .ref a0_refused, .long a0_above, .long a0_below, .ref a0_line, .ref a0_best, .int a0_at, .int a0_start, .int a0_isWell, .int z1]))] _ := hP
    have hD : va_D A [(a0, .inr (5, [.ref a0_text, .int a0_letters, .ref a0_town, .ref a0_draft, .ref a0_tried, .ref a0_images, .ref a0_kept, .ref a0_refused, .long a0_above, .long a0_below, .ref a0_line, .ref a0_best, .int a0_at, .int a0_start, .int a0_isWell, .int z1]))] := hD
    refine lv_aload_n hx hb dX8_fails_19 rfl (lv_at hl 0 rfl) (W.pc 20 rfl ?_)
    refine lv_iconst (v := (0 : Int32)) hx hb dX8_fails_20 (by decide) (W.pc 21 rfl ?_)
    refine va_put (D := E.1) (ci := 5) (v := .int (0 : Int32)) (ty := .boolean) (C := RX8) (T := TX8) (N := 16) hx hb hts inT_X8 tyX8 tyX8_ok nmX8 hown hK hP hD hS 0 rfl rfl 14 (by decide) (hts _ w_4_82) (fun _ h9 => h9) rfl (by decide +kernel) rfl rfl (Nat.le_of_ble_eq_true rfl) dX8_fails_21 (fun H locs hP hD hS => W.pc 24 rfl ?_)
    have hP : wP E [(a0, .inr (5, [.ref a0_text, .int a0_letters, .ref a0_town, .ref a0_draft, .ref a0_tried, .ref a0_images, .ref a0_kept, .ref a0_refused, .long a0_above, .long a0_below, .ref a0_line, .ref a0_best, .int a0_at, .int a0_start, .int (0 : Int32), .int z1]))] _ := hP
    have hD : va_D A [(a0, .inr (5, [.ref a0_text, .int a0_letters, .ref a0_town, .ref a0_draft, .ref a0_tried, .ref a0_images, .ref a0_kept, .ref a0_refused, .long a0_above, .long a0_below, .ref a0_line, .ref a0_best, .int a0_at, .int a0_start, .int (0 : Int32), .int z1]))] := hD
    cases hsp
    exact rWv hX hP hS rfl dX8_fails_24
  replace hsp := hr_z1
  refine lv_if_eq (tgt := 12) hx hb dX8_fails_5 (by decide) (fun c3 => ?_) (fun c3 => W.pc 8 rfl ?_)
  · have hsp := ip hsp c3
    refine lv_aload_n hx hb dX8_fails_12 rfl (lv_at hl 0 rfl) (W.pc 13 rfl ?_)
    refine va_get (D := E.1) (ci := 5) (v := .int a0_faultAt) (C := RX8) (T := TX8) (N := 16) hx hb hts inT_X8 hown hK hP 0 rfl rfl 15 (by decide) (hts _ w_4_83) (fun _ h9 => h9) rfl dX8_fails_13 (W.pc 16 rfl ?_)
    subst hsp
    exact J2 _ _ _ hP hD hS (lv_sub hl [0] rfl)
  · have hsp := iq hsp c3
    refine lv_iload_n hx hb dX8_fails_8 rfl (lv_at hl 1 rfl) (W.pc 9 rfl ?_)
    refine lv_goto (tgt := 16) hx hb dX8_fails_9 (by decide) ?_
    subst hsp
    exact J2 _ _ _ hP hD hS (lv_sub hl [0] rfl)
noncomputable def lp_X8_word_8 (a0_letters : Int32) (fa0_text : Nat → Int32) : Nat → Int32 → Int32 → Int32 → Option (Int32 × Int32 × Int32)
 | 0, _, _, _ => none
 | fu + 1, x1_8, x2_8, ya0_12_8 => Option.bind (sp_X8_look a0_letters ya0_12_8 fa0_text) fun z3 => if (sp_X8_in z3 (97 : Int32) (122 : Int32)) = 0 then (some (x1_8, x2_8, ya0_12_8)) else (Option.bind (if (6 : Int32) ≤ x2_8 then (some x1_8) else (Option.bind (sp_X8_look a0_letters ya0_12_8 fa0_text) fun z8 => some ((((26 : Int32) * x1_8) + z8) - (97 : Int32)))) fun z5 => lp_X8_word_8 a0_letters fa0_text fu z5 (x2_8 + (1 : Int32)) (ya0_12_8 + (1 : Int32)))
noncomputable def sp_X8_word (a0_letters : Int32) (a0_at : Int32) (fa0_text : Nat → Int32) : Option (Int32 × Int32 × Int32) := Option.bind (sp_X8_skips a0_letters a0_at fa0_text) fun z1 => Option.bind (lp_X8_word_8 a0_letters fa0_text FU (0 : Int32) (0 : Int32) z1.1) fun z2 => if (6 : Int32) < z2.2.1 then (some ((-1 : Int32), z2.2.2, z1.2)) else (if z2.2.1 = 0 then (some ((-1 : Int32), z2.2.2, z1.2)) else (some (z2.1, z2.2.2, z1.2)))
set_option maxHeartbeats 4000000 in
set_option maxRecDepth 100000 in
theorem c_X8_word (l : Launch) (E : wE) (a0 a0_text a0_town a0_draft a0_tried a0_images a0_kept a0_refused a0_line a0_best : Nat) (a0_letters : Int32) (a0_above : Int64) (a0_below : Int64) (a0_at : Int32) (a0_start : Int32) (a0_isWell : Int32) (a0_faultAt : Int32) (fa0_text : Nat → Int32) (z_0 : Int32) (z_1 : Int32) (z_2 : Int32) (hsp : sp_X8_word a0_letters a0_at fa0_text = some (z_0, z_1, z_2)) : MW l yX8_word cX8_word 3 (some .int) 2 E [.ref a0] [(a0, .inr (5, [.ref a0_text, .int a0_letters, .ref a0_town, .ref a0_draft, .ref a0_tried, .ref a0_images, .ref a0_kept, .ref a0_refused, .long a0_above, .long a0_below, .ref a0_line, .ref a0_best, .int a0_at, .int a0_start, .int a0_isWell, .int a0_faultAt])), (a0_text, aI E 150 fa0_text)] (some (.int z_0)) [(a0, .inr (5, [.ref a0_text, .int a0_letters, .ref a0_town, .ref a0_draft, .ref a0_tried, .ref a0_images, .ref a0_kept, .ref a0_refused, .long a0_above, .long a0_below, .ref a0_line, .ref a0_best, .int z_1, .int z_2, .int a0_isWell, .int a0_faultAt])), (a0_text, aI E 150 fa0_text)] := by
  refine MW.of (by decide +kernel) (Nat.le_of_ble_eq_true rfl) ?_
  intro p e s m below meth c ls A hX hK hP hD hS hA hl
  have hX : CX p s m [.ref a0].toArray meth c cX8_word 3 (some .int) RX8 := hX
  have hx := hX.1; have hb := hX.2.1; have hts := hX.2.2.2.2.1; have hown := hX.2.2.2.2.2.1
  have hl : lv_has ls 3 [(0, .ref a0)] := hl
  have hP : wP E [(a0, .inr (5, [.ref a0_text, .int a0_letters, .ref a0_town, .ref a0_draft, .ref a0_tried, .ref a0_images, .ref a0_kept, .ref a0_refused, .long a0_above, .long a0_below, .ref a0_line, .ref a0_best, .int a0_at, .int a0_start, .int a0_isWell, .int a0_faultAt])), (a0_text, aI E 150 fa0_text)] s.heap := hP
  have hsp : (Option.bind (sp_X8_skips a0_letters a0_at fa0_text) fun z1 => Option.bind (lp_X8_word_8 a0_letters fa0_text FU (0 : Int32) (0 : Int32) z1.1) fun z2 => if (6 : Int32) < z2.2.1 then (some ((-1 : Int32), z2.2.2, z1.2)) else (if z2.2.1 = 0 then (some ((-1 : Int32), z2.2.2, z1.2)) else (some (z2.1, z2.2.2, z1.2)))) = some (z_0, z_1, z_2) := hsp
  refine lv_aload_n hx hb dX8_word_0 rfl (lv_at hl 0 rfl) (W.pc 1 rfl ?_)
  obtain ⟨z1, hr_z1, hsp⟩ := bd_s hsp
  refine kVW (st1 := []) (ws' := [(a0, .inr (5, [.ref a0_text, .int a0_letters, .ref a0_town, .ref a0_draft, .ref a0_tried, .ref a0_images, .ref a0_kept, .ref a0_refused, .long a0_above, .long a0_below, .ref a0_line, .ref a0_best, .int z1.1, .int z1.2, .int a0_isWell, .int a0_faultAt])), (a0_text, aI E 150 fa0_text)]) [0, 1] hX (c_X8_skips l E a0 a0_text a0_town a0_draft a0_tried a0_images a0_kept a0_refused a0_line a0_best a0_letters a0_above a0_below a0_at a0_start a0_isWell a0_faultAt fa0_text z1.1 z1.2 hr_z1) B_X8_skips w_4_180 hK hP hD hS hA (by decide) rfl rfl rfl (q0 := 0) (ci := 5) rfl rfl rfl rfl hl.1 rfl (Nat.le_of_ble_eq_true rfl) ⟨Nat.le_of_ble_eq_true rfl, Nat.le_of_ble_eq_true rfl⟩ dX8_word_1 rfl (fun H locs hP hD hS => W.pc 4 rfl ?_)
  refine lv_iconst (v := (0 : Int32)) hx hb dX8_word_4 (by decide) (W.pc 5 rfl ?_)
  refine lv_istore_n (lv' := [(1, .int (0 : Int32)), (0, .ref a0)]) hx hb dX8_word_5 rfl hl (by decide) rfl (fun ls hl => W.pc 6 rfl ?_)
  refine lv_iconst (v := (0 : Int32)) hx hb dX8_word_6 (by decide) (W.pc 7 rfl ?_)
  refine lv_istore_n (lv' := [(2, .int (0 : Int32)), (1, .int (0 : Int32)), (0, .ref a0)]) hx hb dX8_word_7 rfl hl (by decide) rfl (fun ls hl => W.pc 8 rfl ?_)
  have L_8 : ∀ (z2 : Int32 × Int32 × Int32), (∀ (H : Heap) (locs : List Loc) (ls : Array Slot), wP E [(a0, .inr (5, [.ref a0_text, .int a0_letters, .ref a0_town, .ref a0_draft, .ref a0_tried, .ref a0_images, .ref a0_kept, .ref a0_refused, .long a0_above, .long a0_below, .ref a0_line, .ref a0_best, .int z2.2.2, .int z1.2, .int a0_isWell, .int a0_faultAt])), (a0_text, aI E 150 fa0_text)] H → va_D A [(a0, .inr (5, [.ref a0_text, .int a0_letters, .ref a0_town, .ref a0_draft, .ref a0_tried, .ref a0_images, .ref a0_kept, .ref a0_refused, .long a0_above, .long a0_below, .ref a0_line, .ref a0_best, .int z2.2.2, .int z1.2, .int a0_isWell, .int a0_faultAt])), (a0_text, aI E 150 fa0_text)] → va_S A s.heap H locs → lv_has ls 3 [(1, .int z2.1), (2, .int z2.2.1)] → W p l e (wR 2) s m [.ref a0].toArray below meth c H locs 0 0 (MQ below (QWd E A (some (.int z_0)) [(a0, .inr (5, [.ref a0_text, .int a0_letters, .ref a0_town, .ref a0_draft, .ref a0_tried, .ref a0_images, .ref a0_kept, .ref a0_refused, .long a0_above, .long a0_below, .ref a0_line, .ref a0_best, .int z_1, .int z_2, .int a0_isWell, .int a0_faultAt])), (a0_text, aI E 150 fa0_text)]) [.ref a0].toArray s 0 0 A) (F0 m 61 ls [])) → ∀ (fu : Nat) (x1_8 : Int32) (x2_8 : Int32) (ya0_12_8 : Int32), ∀ (H : Heap) (locs : List Loc) (ls : Array Slot), wP E [(a0, .inr (5, [.ref a0_text, .int a0_letters, .ref a0_town, .ref a0_draft, .ref a0_tried, .ref a0_images, .ref a0_kept, .ref a0_refused, .long a0_above, .long a0_below, .ref a0_line, .ref a0_best, .int ya0_12_8, .int z1.2, .int a0_isWell, .int a0_faultAt])), (a0_text, aI E 150 fa0_text)] H → va_D A [(a0, .inr (5, [.ref a0_text, .int a0_letters, .ref a0_town, .ref a0_draft, .ref a0_tried, .ref a0_images, .ref a0_kept, .ref a0_refused, .long a0_above, .long a0_below, .ref a0_line, .ref a0_best, .int ya0_12_8, .int z1.2, .int a0_isWell, .int a0_faultAt])), (a0_text, aI E 150 fa0_text)] → va_S A s.heap H locs → lv_has ls 3 [(0, .ref a0), (1, .int x1_8), (2, .int x2_8)] → lp_X8_word_8 a0_letters fa0_text fu x1_8 x2_8 ya0_12_8 = some z2 → W p l e (wR 2) s m [.ref a0].toArray below meth c H locs 0 0 (MQ below (QWd E A (some (.int z_0)) [(a0, .inr (5, [.ref a0_text, .int a0_letters, .ref a0_town, .ref a0_draft, .ref a0_tried, .ref a0_images, .ref a0_kept, .ref a0_refused, .long a0_above, .long a0_below, .ref a0_line, .ref a0_best, .int z_1, .int z_2, .int a0_isWell, .int a0_faultAt])), (a0_text, aI E 150 fa0_text)]) [.ref a0].toArray s 0 0 A) (F0 m 8 ls []) := by
    intro z2 hk_8 fu
    induction fu with
    | zero => intro x1_8 x2_8 ya0_12_8 H locs ls hP hD hS hl hsp; exact absurd (show none = some _ from hsp) (by simp)
    | succ fu ih_8 =>
      intro x1_8 x2_8 ya0_12_8 H locs ls hP hD hS hl hsp
      have hsp : (Option.bind (sp_X8_look a0_letters ya0_12_8 fa0_text) fun z3 => if (sp_X8_in z3 (97 : Int32) (122 : Int32)) = 0 then (some (x1_8, x2_8, ya0_12_8)) else (Option.bind (if (6 : Int32) ≤ x2_8 then (some x1_8) else (Option.bind (sp_X8_look a0_letters ya0_12_8 fa0_text) fun z8 => some ((((26 : Int32) * x1_8) + z8) - (97 : Int32)))) fun z5 => lp_X8_word_8 a0_letters fa0_text fu z5 (x2_8 + (1 : Int32)) (ya0_12_8 + (1 : Int32)))) = some z2 := hsp
      refine lv_aload_n hx hb dX8_word_8 rfl (lv_at hl 0 rfl) (W.pc 9 rfl ?_)
      obtain ⟨z3, hr_z3, hsp⟩ := bd_s hsp
      refine kVR (st1 := [.int z3]) hX (c_X8_look l E a0 a0_text a0_town a0_draft a0_tried a0_images a0_kept a0_refused a0_line a0_best a0_letters a0_above a0_below ya0_12_8 z1.2 a0_isWell a0_faultAt fa0_text z3 hr_z3) B_X8_look w_4_184 hK (hP.pick [0, 1] rfl) (q0 := 0) (ci := 5) rfl rfl rfl rfl hl.1 rfl (Nat.le_of_ble_eq_true rfl) ⟨Nat.le_of_ble_eq_true rfl, Nat.le_of_ble_eq_true rfl⟩ dX8_word_9 rfl (W.pc 12 rfl ?_)
      refine lv_bipush (v := (97 : Int32)) hx hb dX8_word_12 (by decide) (W.pc 14 rfl ?_)
      refine lv_bipush (v := (122 : Int32)) hx hb dX8_word_14 (by decide) (W.pc 16 rfl ?_)
      refine kSR (st1 := [.int (sp_X8_in z3 (97 : Int32) (122 : Int32))]) hX (c_X8_in l E z3 (97 : Int32) (122 : Int32) _ rfl) B_X8_in w_4_125 hK (hP.pick [] rfl) rfl hl.1 rfl (Nat.le_of_ble_eq_true rfl) ⟨Nat.le_of_ble_eq_true rfl, Nat.le_of_ble_eq_true rfl⟩ dX8_word_16 rfl (W.pc 19 rfl ?_)
      refine lv_if_eq (tgt := 61) hx hb dX8_word_19 (by decide) (fun c4 => ?_) (fun c4 => W.pc 22 rfl ?_)
      · have hsp := ip hsp c4
        obtain rfl := Option.some.inj hsp
        exact hk_8 _ _ _ hP hD hS (lv_sub hl [1, 2] rfl)
      · have hsp := iq hsp c4
        refine lv_iload_n hx hb dX8_word_22 rfl (lv_at hl 2 rfl) (W.pc 23 rfl ?_)
        refine lv_bipush (v := (6 : Int32)) hx hb dX8_word_23 (by decide) (W.pc 25 rfl ?_)
        obtain ⟨z5, hr_z5, hsp⟩ := bd_s hsp
        have J6 : ∀ (H : Heap) (locs : List Loc) (ls : Array Slot), wP E [(a0, .inr (5, [.ref a0_text, .int a0_letters, .ref a0_town, .ref a0_draft, .ref a0_tried, .ref a0_images, .ref a0_kept, .ref a0_refused, .long a0_above, .long a0_below, .ref a0_line, .ref a0_best, .int ya0_12_8, .int z1.2, .int a0_isWell, .int a0_faultAt])), (a0_text, aI E 150 fa0_text)] H → va_D A [(a0, .inr (5, [.ref a0_text, .int a0_letters, .ref a0_town, .ref a0_draft, .ref a0_tried, .ref a0_images, .ref a0_kept, .ref a0_refused, .long a0_above, .long a0_below, .ref a0_line, .ref a0_best, .int ya0_12_8, .int z1.2, .int a0_isWell, .int a0_faultAt])), (a0_text, aI E 150 fa0_text)] → va_S A s.heap H locs → lv_has ls 3 [(0, .ref a0), (2, .int x2_8)] → W p l e (wR 2) s m [.ref a0].toArray below meth c H locs 0 0 (MQ below (QWd E A (some (.int z_0)) [(a0, .inr (5, [.ref a0_text, .int a0_letters, .ref a0_town, .ref a0_draft, .ref a0_tried, .ref a0_images, .ref a0_kept, .ref a0_refused, .long a0_above, .long a0_below, .ref a0_line, .ref a0_best, .int z_1, .int z_2, .int a0_isWell, .int a0_faultAt])), (a0_text, aI E 150 fa0_text)]) [.ref a0].toArray s 0 0 A) (F0 m 44 ls [.int z5]) := by
          intro H locs ls hP hD hS hl
          refine lv_istore_n (lv' := [(1, .int z5), (0, .ref a0), (2, .int x2_8)]) hx hb dX8_word_44 rfl hl (by decide) rfl (fun ls hl => W.pc 45 rfl ?_)
          refine lv_aload_n hx hb dX8_word_45 rfl (lv_at hl 1 rfl) (W.pc 46 rfl ?_)
          refine lv_dup hx hb dX8_word_46 rfl (W.pc 47 rfl ?_)
          refine va_get (D := E.1) (ci := 5) (v := .int ya0_12_8) (C := RX8) (T := TX8) (N := 16) hx hb hts inT_X8 hown hK hP 0 rfl rfl 12 (by decide) (hts _ w_4_80) (fun _ h9 => h9) rfl dX8_word_47 (W.pc 50 rfl ?_)
          refine lv_iconst (v := (1 : Int32)) hx hb dX8_word_50 (by decide) (W.pc 51 rfl ?_)
          refine lv_iadd hx hb dX8_word_51 (W.pc 52 rfl ?_)
          refine va_put (D := E.1) (ci := 5) (v := .int (ya0_12_8 + (1 : Int32))) (ty := .int) (C := RX8) (T := TX8) (N := 16) hx hb hts inT_X8 tyX8 tyX8_ok nmX8 hown hK hP hD hS 0 rfl rfl 12 (by decide) (hts _ w_4_80) (fun _ h9 => h9) rfl (by decide +kernel) rfl rfl (Nat.le_of_ble_eq_true rfl) dX8_word_52 (fun H locs hP hD hS => W.pc 55 rfl ?_)
          have hP : wP E [(a0, .inr (5, [.ref a0_text, .int a0_letters, .ref a0_town, .ref a0_draft, .ref a0_tried, .ref a0_images, .ref a0_kept, .ref a0_refused, .long a0_above, .long a0_below, .ref a0_line, .ref a0_best, .int (ya0_12_8 + (1 : Int32)), .int z1.2, .int a0_isWell, .int a0_faultAt])), (a0_text, aI E 150 fa0_text)] _ := hP
          have hD : va_D A [(a0, .inr (5, [.ref a0_text, .int a0_letters, .ref a0_town, .ref a0_draft, .ref a0_tried, .ref a0_images, .ref a0_kept, .ref a0_refused, .long a0_above, .long a0_below, .ref a0_line, .ref a0_best, .int (ya0_12_8 + (1 : Int32)), .int z1.2, .int a0_isWell, .int a0_faultAt])), (a0_text, aI E 150 fa0_text)] := hD
          refine lv_iinc (v := (x2_8 + (1 : Int32))) (lv' := [(2, .int (x2_8 + (1 : Int32))), (1, .int z5), (0, .ref a0)]) hx hb dX8_word_55 hl (k := 2) rfl rfl (by decide) rfl (fun ls hl => W.pc 58 rfl ?_)
          refine lv_goto (tgt := 8) hx hb dX8_word_58 (by decide) ?_
          exact ih_8 z5 (x2_8 + (1 : Int32)) (ya0_12_8 + (1 : Int32)) _ _ _ hP hD hS (lv_sub hl [2, 1, 0] rfl) hsp
        replace hsp := hr_z5
        refine lv_icmp_ge (tgt := 43) hx hb dX8_word_25 (by decide) (fun c7 => ?_) (fun c7 => W.pc 28 rfl ?_)
        · have hsp := ip hsp c7
          refine lv_iload_n hx hb dX8_word_43 rfl (lv_at hl 1 rfl) (W.pc 44 rfl ?_)
          obtain rfl := Option.some.inj hsp
          exact J6 _ _ _ hP hD hS (lv_sub hl [0, 2] rfl)
        · have hsp := iq hsp c7
          refine lv_bipush (v := (26 : Int32)) hx hb dX8_word_28 (by decide) (W.pc 30 rfl ?_)
          refine lv_iload_n hx hb dX8_word_30 rfl (lv_at hl 1 rfl) (W.pc 31 rfl ?_)
          refine lv_imul hx hb dX8_word_31 (W.pc 32 rfl ?_)
          refine lv_aload_n hx hb dX8_word_32 rfl (lv_at hl 0 rfl) (W.pc 33 rfl ?_)
          obtain ⟨z8, hr_z8, hsp⟩ := bd_s hsp
          refine kVR (st1 := [.int z8, .int ((26 : Int32) * x1_8)]) hX (c_X8_look l E a0 a0_text a0_town a0_draft a0_tried a0_images a0_kept a0_refused a0_line a0_best a0_letters a0_above a0_below ya0_12_8 z1.2 a0_isWell a0_faultAt fa0_text z8 hr_z8) B_X8_look w_4_184 hK (hP.pick [0, 1] rfl) (q0 := 0) (ci := 5) rfl rfl rfl rfl hl.1 rfl (Nat.le_of_ble_eq_true rfl) ⟨Nat.le_of_ble_eq_true rfl, Nat.le_of_ble_eq_true rfl⟩ dX8_word_33 rfl (W.pc 36 rfl ?_)
          refine lv_iadd hx hb dX8_word_36 (W.pc 37 rfl ?_)
          refine lv_bipush (v := (97 : Int32)) hx hb dX8_word_37 (by decide) (W.pc 39 rfl ?_)
          refine lv_isub hx hb dX8_word_39 (W.pc 40 rfl ?_)
          refine lv_goto (tgt := 44) hx hb dX8_word_40 (by decide) ?_
          obtain rfl := Option.some.inj hsp
          exact J6 _ _ _ hP hD hS (lv_sub hl [0, 2] rfl)
  obtain ⟨z2, hr_z2, hsp⟩ := bd_s hsp
  refine L_8 z2 (fun H locs ls hP hD hS hl => ?_) FU (0 : Int32) (0 : Int32) z1.1 _ _ _ hP hD hS (lv_sub hl [2, 1, 0] rfl) hr_z2
  refine lv_iload_n hx hb dX8_word_61 rfl (lv_at hl 1 rfl) (W.pc 62 rfl ?_)
  refine lv_bipush (v := (6 : Int32)) hx hb dX8_word_62 (by decide) (W.pc 64 rfl ?_)
  refine lv_icmp_gt (tgt := 71) hx hb dX8_word_64 (by decide) (fun c9 => ?_) (fun c9 => W.pc 67 rfl ?_)
  · have hsp := ip hsp c9
    refine lv_iconst (v := (-1 : Int32)) hx hb dX8_word_71 (by decide) (W.pc 72 rfl ?_)
    refine lv_goto (tgt := 76) hx hb dX8_word_72 (by decide) ?_
    cases hsp
    exact rWi hX hP hS rfl rfl dX8_word_76
  · have hsp := iq hsp c9
    refine lv_iload_n hx hb dX8_word_67 rfl (lv_at hl 1 rfl) (W.pc 68 rfl ?_)
    refine lv_if_ne (tgt := 75) hx hb dX8_word_68 (by decide) (fun c10 => ?_) (fun c10 => W.pc 71 rfl ?_)
    · have hsp := iq hsp c10
      refine lv_iload_n hx hb dX8_word_75 rfl (lv_at hl 0 rfl) (W.pc 76 rfl ?_)
      cases hsp
      exact rWi hX hP hS rfl rfl dX8_word_76
    · have hsp := ip hsp c10
      refine lv_iconst (v := (-1 : Int32)) hx hb dX8_word_71 (by decide) (W.pc 72 rfl ?_)
      refine lv_goto (tgt := 76) hx hb dX8_word_72 (by decide) ?_
      cases hsp
      exact rWi hX hP hS rfl rfl dX8_word_76
def sp_X8_hashed (p0 : Int32) (p1 : Int32) (p2 : Int32) (p3 : Int32) : Int32 := ((((((p0 * (26 : Int32)) + p1) * (26 : Int32)) + p2) * (26 : Int32)) + p3)
set_option maxHeartbeats 4000000 in
set_option maxRecDepth 100000 in
theorem c_X8_hashed (l : Launch) (E : wE) (p0 : Int32) (p1 : Int32) (p2 : Int32) (p3 : Int32) (z : Int32) (hsp : sp_X8_hashed p0 p1 p2 p3 = z) : MR l yX8_hashed cX8_hashed 4 (some .int) 0 E [.int p0, .int p1, .int p2, .int p3] [] (some (.int z)) := by
  refine MR.of (by decide +kernel) (Nat.le_of_ble_eq_true rfl) ?_
  intro p e s m below meth c ls hX hK hP hl
  have hX : CX p s m [.int p0, .int p1, .int p2, .int p3].toArray meth c cX8_hashed 4 (some .int) RX8 := hX
  have hx := hX.1; have hb := hX.2.1; have hts := hX.2.2.2.2.1; have hown := hX.2.2.2.2.2.1
  have hl : lv_has ls 4 [(0, .int p0), (1, .int p1), (2, .int p2), (3, .int p3)] := hl
  have hsp : (((((((p0 * (26 : Int32)) + p1) * (26 : Int32)) + p2) * (26 : Int32)) + p3)) = z := hsp
  refine lv_iload_n hx hb dX8_hashed_0 rfl (lv_at hl 0 rfl) (W.pc 1 rfl ?_)
  refine lv_bipush (v := (26 : Int32)) hx hb dX8_hashed_1 (by decide) (W.pc 3 rfl ?_)
  refine lv_imul hx hb dX8_hashed_3 (W.pc 4 rfl ?_)
  refine lv_iload_n hx hb dX8_hashed_4 rfl (lv_at hl 1 rfl) (W.pc 5 rfl ?_)
  refine lv_iadd hx hb dX8_hashed_5 (W.pc 6 rfl ?_)
  refine lv_bipush (v := (26 : Int32)) hx hb dX8_hashed_6 (by decide) (W.pc 8 rfl ?_)
  refine lv_imul hx hb dX8_hashed_8 (W.pc 9 rfl ?_)
  refine lv_iload_n hx hb dX8_hashed_9 rfl (lv_at hl 2 rfl) (W.pc 10 rfl ?_)
  refine lv_iadd hx hb dX8_hashed_10 (W.pc 11 rfl ?_)
  refine lv_bipush (v := (26 : Int32)) hx hb dX8_hashed_11 (by decide) (W.pc 13 rfl ?_)
  refine lv_imul hx hb dX8_hashed_13 (W.pc 14 rfl ?_)
  refine lv_iload_n hx hb dX8_hashed_14 rfl (lv_at hl 3 rfl) (W.pc 15 rfl ?_)
  refine lv_iadd hx hb dX8_hashed_15 (W.pc 16 rfl ?_)
  subst hsp
  exact rRi hX rfl dX8_hashed_16
def sp_X8_itemBy (p1 : Int32) (p2 : Int32) : Int32 := if p2 = (4 : Int32) then (if p1 = (sp_X8_hashed (19 : Int32) (14 : Int32) (22 : Int32) (13 : Int32)) then ((1 : Int32)) else (if p2 = (5 : Int32) then (if p1 = ((((26 : Int32) * (sp_X8_hashed (15 : Int32) (20 : Int32) (11 : Int32) (11 : Int32))) + (115 : Int32)) - (97 : Int32)) then ((2 : Int32)) else (if p2 = (5 : Int32) then (if p1 = ((((26 : Int32) * (sp_X8_hashed (1 : Int32) (20 : Int32) (8 : Int32) (11 : Int32))) + (100 : Int32)) - (97 : Int32)) then ((3 : Int32)) else (if p2 = (6 : Int32) then (if p1 = (((((676 : Int32) * (sp_X8_hashed (18 : Int32) (19 : Int32) (17 : Int32) (8 : Int32))) + (338 : Int32)) + (103 : Int32)) - (97 : Int32)) then ((4 : Int32)) else (if p2 = (5 : Int32) then (if p1 = ((((26 : Int32) * (sp_X8_hashed (24 : Int32) (4 : Int32) (0 : Int32) (17 : Int32))) + (115 : Int32)) - (97 : Int32)) then ((5 : Int32)) else ((0 : Int32))) else ((0 : Int32)))) else (if p2 = (5 : Int32) then (if p1 = ((((26 : Int32) * (sp_X8_hashed (24 : Int32) (4 : Int32) (0 : Int32) (17 : Int32))) + (115 : Int32)) - (97 : Int32)) then ((5 : Int32)) else ((0 : Int32))) else ((0 : Int32))))) else (if p2 = (6 : Int32) then (if p1 = (((((676 : Int32) * (sp_X8_hashed (18 : Int32) (19 : Int32) (17 : Int32) (8 : Int32))) + (338 : Int32)) + (103 : Int32)) - (97 : Int32)) then ((4 : Int32)) else (if p2 = (5 : Int32) then (if p1 = ((((26 : Int32) * (sp_X8_hashed (24 : Int32) (4 : Int32) (0 : Int32) (17 : Int32))) + (115 : Int32)) - (97 : Int32)) then ((5 : Int32)) else ((0 : Int32))) else ((0 : Int32)))) else (if p2 = (5 : Int32) then (if p1 = ((((26 : Int32) * (sp_X8_hashed (24 : Int32) (4 : Int32) (0 : Int32) (17 : Int32))) + (115 : Int32)) - (97 : Int32)) then ((5 : Int32)) else ((0 : Int32))) else ((0 : Int32)))))) else (if p2 = (5 : Int32) then (if p1 = ((((26 : Int32) * (sp_X8_hashed (1 : Int32) (20 : Int32) (8 : Int32) (11 : Int32))) + (100 : Int32)) - (97 : Int32)) then ((3 : Int32)) else (if p2 = (6 : Int32) then (if p1 = (((((676 : Int32) * (sp_X8_hashed (18 : Int32) (19 : Int32) (17 : Int32) (8 : Int32))) + (338 : Int32)) + (103 : Int32)) - (97 : Int32)) then ((4 : Int32)) else (if p2 = (5 : Int32) then (if p1 = ((((26 : Int32) * (sp_X8_hashed (24 : Int32) (4 : Int32) (0 : Int32) (17 : Int32))) + (115 : Int32)) - (97 : Int32)) then ((5 : Int32)) else ((0 : Int32))) else ((0 : Int32)))) else (if p2 = (5 : Int32) then (if p1 = ((((26 : Int32) * (sp_X8_hashed (24 : Int32) (4 : Int32) (0 : Int32) (17 : Int32))) + (115 : Int32)) - (97 : Int32)) then ((5 : Int32)) else ((0 : Int32))) else ((0 : Int32))))) else (if p2 = (6 : Int32) then (if p1 = (((((676 : Int32) * (sp_X8_hashed (18 : Int32) (19 : Int32) (17 : Int32) (8 : Int32))) + (338 : Int32)) + (103 : Int32)) - (97 : Int32)) then ((4 : Int32)) else (if p2 = (5 : Int32) then (if p1 = ((((26 : Int32) * (sp_X8_hashed (24 : Int32) (4 : Int32) (0 : Int32) (17 : Int32))) + (115 : Int32)) - (97 : Int32)) then ((5 : Int32)) else ((0 : Int32))) else ((0 : Int32)))) else (if p2 = (5 : Int32) then (if p1 = ((((26 : Int32) * (sp_X8_hashed (24 : Int32) (4 : Int32) (0 : Int32) (17 : Int32))) + (115 : Int32)) - (97 : Int32)) then ((5 : Int32)) else ((0 : Int32))) else ((0 : Int32))))))) else (if p2 = (5 : Int32) then (if p1 = ((((26 : Int32) * (sp_X8_hashed (15 : Int32) (20 : Int32) (11 : Int32) (11 : Int32))) + (115 : Int32)) - (97 : Int32)) then ((2 : Int32)) else (if p2 = (5 : Int32) then (if p1 = ((((26 : Int32) * (sp_X8_hashed (1 : Int32) (20 : Int32) (8 : Int32) (11 : Int32))) + (100 : Int32)) - (97 : Int32)) then ((3 : Int32)) else (if p2 = (6 : Int32) then (if p1 = (((((676 : Int32) * (sp_X8_hashed (18 : Int32) (19 : Int32) (17 : Int32) (8 : Int32))) + (338 : Int32)) + (103 : Int32)) - (97 : Int32)) then ((4 : Int32)) else (if p2 = (5 : Int32) then (if p1 = ((((26 : Int32) * (sp_X8_hashed (24 : Int32) (4 : Int32) (0 : Int32) (17 : Int32))) + (115 : Int32)) - (97 : Int32)) then ((5 : Int32)) else ((0 : Int32))) else ((0 : Int32)))) else (if p2 = (5 : Int32) then (if p1 = ((((26 : Int32) * (sp_X8_hashed (24 : Int32) (4 : Int32) (0 : Int32) (17 : Int32))) + (115 : Int32)) - (97 : Int32)) then ((5 : Int32)) else ((0 : Int32))) else ((0 : Int32))))) else (if p2 = (6 : Int32) then (if p1 = (((((676 : Int32) * (sp_X8_hashed (18 : Int32) (19 : Int32) (17 : Int32) (8 : Int32))) + (338 : Int32)) + (103 : Int32)) - (97 : Int32)) then ((4 : Int32)) else (if p2 = (5 : Int32) then (if p1 = ((((26 : Int32) * (sp_X8_hashed (24 : Int32) (4 : Int32) (0 : Int32) (17 : Int32))) + (115 : Int32)) - (97 : Int32)) then ((5 : Int32)) else ((0 : Int32))) else ((0 : Int32)))) else (if p2 = (5 : Int32) then (if p1 = ((((26 : Int32) * (sp_X8_hashed (24 : Int32) (4 : Int32) (0 : Int32) (17 : Int32))) + (115 : Int32)) - (97 : Int32)) then ((5 : Int32)) else ((0 : Int32))) else ((0 : Int32)))))) else (if p2 = (5 : Int32) then (if p1 = ((((26 : Int32) * (sp_X8_hashed (1 : Int32) (20 : Int32) (8 : Int32) (11 : Int32))) + (100 : Int32)) - (97 : Int32)) then ((3 : Int32)) else (if p2 = (6 : Int32) then (if p1 = (((((676 : Int32) * (sp_X8_hashed (18 : Int32) (19 : Int32) (17 : Int32) (8 : Int32))) + (338 : Int32)) + (103 : Int32)) - (97 : Int32)) then ((4 : Int32)) else (if p2 = (5 : Int32) then (if p1 = ((((26 : Int32) * (sp_X8_hashed (24 : Int32) (4 : Int32) (0 : Int32) (17 : Int32))) + (115 : Int32)) - (97 : Int32)) then ((5 : Int32)) else ((0 : Int32))) else ((0 : Int32)))) else (if p2 = (5 : Int32) then (if p1 = ((((26 : Int32) * (sp_X8_hashed (24 : Int32) (4 : Int32) (0 : Int32) (17 : Int32))) + (115 : Int32)) - (97 : Int32)) then ((5 : Int32)) else ((0 : Int32))) else ((0 : Int32))))) else (if p2 = (6 : Int32) then (if p1 = (((((676 : Int32) * (sp_X8_hashed (18 : Int32) (19 : Int32) (17 : Int32) (8 : Int32))) + (338 : Int32)) + (103 : Int32)) - (97 : Int32)) then ((4 : Int32)) else (if p2 = (5 : Int32) then (if p1 = ((((26 : Int32) * (sp_X8_hashed (24 : Int32) (4 : Int32) (0 : Int32) (17 : Int32))) + (115 : Int32)) - (97 : Int32)) then ((5 : Int32)) else ((0 : Int32))) else ((0 : Int32)))) else (if p2 = (5 : Int32) then (if p1 = ((((26 : Int32) * (sp_X8_hashed (24 : Int32) (4 : Int32) (0 : Int32) (17 : Int32))) + (115 : Int32)) - (97 : Int32)) then ((5 : Int32)) else ((0 : Int32))) else ((0 : Int32))))))
set_option maxHeartbeats 4000000 in
set_option maxRecDepth 100000 in
theorem c_X8_itemBy (l : Launch) (E : wE) (a0 a0_text a0_town a0_draft a0_tried a0_images a0_kept a0_refused a0_line a0_best : Nat) (p1 : Int32) (p2 : Int32) (a0_letters : Int32) (a0_above : Int64) (a0_below : Int64) (a0_at : Int32) (a0_start : Int32) (a0_isWell : Int32) (a0_faultAt : Int32) (z : Int32) (hsp : sp_X8_itemBy p1 p2 = z) : MR l yX8_itemBy cX8_itemBy 8 (some .int) 1 E [.ref a0, .int p1, .int p2] [(a0, .inr (5, [.ref a0_text, .int a0_letters, .ref a0_town, .ref a0_draft, .ref a0_tried, .ref a0_images, .ref a0_kept, .ref a0_refused, .long a0_above, .long a0_below, .ref a0_line, .ref a0_best, .int a0_at, .int a0_start, .int a0_isWell, .int a0_faultAt]))] (some (.int z)) := by
  refine MR.of (by decide +kernel) (Nat.le_of_ble_eq_true rfl) ?_
  intro p e s m below meth c ls hX hK hP hl
  have hX : CX p s m [.ref a0, .int p1, .int p2].toArray meth c cX8_itemBy 8 (some .int) RX8 := hX
  have hx := hX.1; have hb := hX.2.1; have hts := hX.2.2.2.2.1; have hown := hX.2.2.2.2.2.1
  have hl : lv_has ls 8 [(0, .ref a0), (1, .int p1), (2, .int p2)] := hl
  have hsp : (if p2 = (4 : Int32) then (if p1 = (sp_X8_hashed (19 : Int32) (14 : Int32) (22 : Int32) (13 : Int32)) then ((1 : Int32)) else (if p2 = (5 : Int32) then (if p1 = ((((26 : Int32) * (sp_X8_hashed (15 : Int32) (20 : Int32) (11 : Int32) (11 : Int32))) + (115 : Int32)) - (97 : Int32)) then ((2 : Int32)) else (if p2 = (5 : Int32) then (if p1 = ((((26 : Int32) * (sp_X8_hashed (1 : Int32) (20 : Int32) (8 : Int32) (11 : Int32))) + (100 : Int32)) - (97 : Int32)) then ((3 : Int32)) else (if p2 = (6 : Int32) then (if p1 = (((((676 : Int32) * (sp_X8_hashed (18 : Int32) (19 : Int32) (17 : Int32) (8 : Int32))) + (338 : Int32)) + (103 : Int32)) - (97 : Int32)) then ((4 : Int32)) else (if p2 = (5 : Int32) then (if p1 = ((((26 : Int32) * (sp_X8_hashed (24 : Int32) (4 : Int32) (0 : Int32) (17 : Int32))) + (115 : Int32)) - (97 : Int32)) then ((5 : Int32)) else ((0 : Int32))) else ((0 : Int32)))) else (if p2 = (5 : Int32) then (if p1 = ((((26 : Int32) * (sp_X8_hashed (24 : Int32) (4 : Int32) (0 : Int32) (17 : Int32))) + (115 : Int32)) - (97 : Int32)) then ((5 : Int32)) else ((0 : Int32))) else ((0 : Int32))))) else (if p2 = (6 : Int32) then (if p1 = (((((676 : Int32) * (sp_X8_hashed (18 : Int32) (19 : Int32) (17 : Int32) (8 : Int32))) + (338 : Int32)) + (103 : Int32)) - (97 : Int32)) then ((4 : Int32)) else (if p2 = (5 : Int32) then (if p1 = ((((26 : Int32) * (sp_X8_hashed (24 : Int32) (4 : Int32) (0 : Int32) (17 : Int32))) + (115 : Int32)) - (97 : Int32)) then ((5 : Int32)) else ((0 : Int32))) else ((0 : Int32)))) else (if p2 = (5 : Int32) then (if p1 = ((((26 : Int32) * (sp_X8_hashed (24 : Int32) (4 : Int32) (0 : Int32) (17 : Int32))) + (115 : Int32)) - (97 : Int32)) then ((5 : Int32)) else ((0 : Int32))) else ((0 : Int32)))))) else (if p2 = (5 : Int32) then (if p1 = ((((26 : Int32) * (sp_X8_hashed (1 : Int32) (20 : Int32) (8 : Int32) (11 : Int32))) + (100 : Int32)) - (97 : Int32)) then ((3 : Int32)) else (if p2 = (6 : Int32) then (if p1 = (((((676 : Int32) * (sp_X8_hashed (18 : Int32) (19 : Int32) (17 : Int32) (8 : Int32))) + (338 : Int32)) + (103 : Int32)) - (97 : Int32)) then ((4 : Int32)) else (if p2 = (5 : Int32) then (if p1 = ((((26 : Int32) * (sp_X8_hashed (24 : Int32) (4 : Int32) (0 : Int32) (17 : Int32))) + (115 : Int32)) - (97 : Int32)) then ((5 : Int32)) else ((0 : Int32))) else ((0 : Int32)))) else (if p2 = (5 : Int32) then (if p1 = ((((26 : Int32) * (sp_X8_hashed (24 : Int32) (4 : Int32) (0 : Int32) (17 : Int32))) + (115 : Int32)) - (97 : Int32)) then ((5 : Int32)) else ((0 : Int32))) else ((0 : Int32))))) else (if p2 = (6 : Int32) then (if p1 = (((((676 : Int32) * (sp_X8_hashed (18 : Int32) (19 : Int32) (17 : Int32) (8 : Int32))) + (338 : Int32)) + (103 : Int32)) - (97 : Int32)) then ((4 : Int32)) else (if p2 = (5 : Int32) then (if p1 = ((((26 : Int32) * (sp_X8_hashed (24 : Int32) (4 : Int32) (0 : Int32) (17 : Int32))) + (115 : Int32)) - (97 : Int32)) then ((5 : Int32)) else ((0 : Int32))) else ((0 : Int32)))) else (if p2 = (5 : Int32) then (if p1 = ((((26 : Int32) * (sp_X8_hashed (24 : Int32) (4 : Int32) (0 : Int32) (17 : Int32))) + (115 : Int32)) - (97 : Int32)) then ((5 : Int32)) else ((0 : Int32))) else ((0 : Int32))))))) else (if p2 = (5 : Int32) then (if p1 = ((((26 : Int32) * (sp_X8_hashed (15 : Int32) (20 : Int32) (11 : Int32) (11 : Int32))) + (115 : Int32)) - (97 : Int32)) then ((2 : Int32)) else (if p2 = (5 : Int32) then (if p1 = ((((26 : Int32) * (sp_X8_hashed (1 : Int32) (20 : Int32) (8 : Int32) (11 : Int32))) + (100 : Int32)) - (97 : Int32)) then ((3 : Int32)) else (if p2 = (6 : Int32) then (if p1 = (((((676 : Int32) * (sp_X8_hashed (18 : Int32) (19 : Int32) (17 : Int32) (8 : Int32))) + (338 : Int32)) + (103 : Int32)) - (97 : Int32)) then ((4 : Int32)) else (if p2 = (5 : Int32) then (if p1 = ((((26 : Int32) * (sp_X8_hashed (24 : Int32) (4 : Int32) (0 : Int32) (17 : Int32))) + (115 : Int32)) - (97 : Int32)) then ((5 : Int32)) else ((0 : Int32))) else ((0 : Int32)))) else (if p2 = (5 : Int32) then (if p1 = ((((26 : Int32) * (sp_X8_hashed (24 : Int32) (4 : Int32) (0 : Int32) (17 : Int32))) + (115 : Int32)) - (97 : Int32)) then ((5 : Int32)) else ((0 : Int32))) else ((0 : Int32))))) else (if p2 = (6 : Int32) then (if p1 = (((((676 : Int32) * (sp_X8_hashed (18 : Int32) (19 : Int32) (17 : Int32) (8 : Int32))) + (338 : Int32)) + (103 : Int32)) - (97 : Int32)) then ((4 : Int32)) else (if p2 = (5 : Int32) then (if p1 = ((((26 : Int32) * (sp_X8_hashed (24 : Int32) (4 : Int32) (0 : Int32) (17 : Int32))) + (115 : Int32)) - (97 : Int32)) then ((5 : Int32)) else ((0 : Int32))) else ((0 : Int32)))) else (if p2 = (5 : Int32) then (if p1 = ((((26 : Int32) * (sp_X8_hashed (24 : Int32) (4 : Int32) (0 : Int32) (17 : Int32))) + (115 : Int32)) - (97 : Int32)) then ((5 : Int32)) else ((0 : Int32))) else ((0 : Int32)))))) else (if p2 = (5 : Int32) then (if p1 = ((((26 : Int32) * (sp_X8_hashed (1 : Int32) (20 : Int32) (8 : Int32) (11 : Int32))) + (100 : Int32)) - (97 : Int32)) then ((3 : Int32)) else (if p2 = (6 : Int32) then (if p1 = (((((676 : Int32) * (sp_X8_hashed (18 : Int32) (19 : Int32) (17 : Int32) (8 : Int32))) + (338 : Int32)) + (103 : Int32)) - (97 : Int32)) then ((4 : Int32)) else (if p2 = (5 : Int32) then (if p1 = ((((26 : Int32) * (sp_X8_hashed (24 : Int32) (4 : Int32) (0 : Int32) (17 : Int32))) + (115 : Int32)) - (97 : Int32)) then ((5 : Int32)) else ((0 : Int32))) else ((0 : Int32)))) else (if p2 = (5 : Int32) then (if p1 = ((((26 : Int32) * (sp_X8_hashed (24 : Int32) (4 : Int32) (0 : Int32) (17 : Int32))) + (115 : Int32)) - (97 : Int32)) then ((5 : Int32)) else ((0 : Int32))) else ((0 : Int32))))) else (if p2 = (6 : Int32) then (if p1 = (((((676 : Int32) * (sp_X8_hashed (18 : Int32) (19 : Int32) (17 : Int32) (8 : Int32))) + (338 : Int32)) + (103 : Int32)) - (97 : Int32)) then ((4 : Int32)) else (if p2 = (5 : Int32) then (if p1 = ((((26 : Int32) * (sp_X8_hashed (24 : Int32) (4 : Int32) (0 : Int32) (17 : Int32))) + (115 : Int32)) - (97 : Int32)) then ((5 : Int32)) else ((0 : Int32))) else ((0 : Int32)))) else (if p2 = (5 : Int32) then (if p1 = ((((26 : Int32) * (sp_X8_hashed (24 : Int32) (4 : Int32) (0 : Int32) (17 : Int32))) + (115 : Int32)) - (97 : Int32)) then ((5 : Int32)) else ((0 : Int32))) else ((0 : Int32))))))) = z := hsp
  refine lv_bipush (v := (19 : Int32)) hx hb dX8_itemBy_0 (by decide) (W.pc 2 rfl ?_)
  refine lv_bipush (v := (14 : Int32)) hx hb dX8_itemBy_2 (by decide) (W.pc 4 rfl ?_)
  refine lv_bipush (v := (22 : Int32)) hx hb dX8_itemBy_4 (by decide) (W.pc 6 rfl ?_)
  refine lv_bipush (v := (13 : Int32)) hx hb dX8_itemBy_6 (by decide) (W.pc 8 rfl ?_)
  refine kSR (st1 := [.int (sp_X8_hashed (19 : Int32) (14 : Int32) (22 : Int32) (13 : Int32))]) hX (c_X8_hashed l E (19 : Int32) (14 : Int32) (22 : Int32) (13 : Int32) _ rfl) B_X8_hashed w_4_192 hK (hP.pick [] rfl) rfl hl.1 rfl (Nat.le_of_ble_eq_true rfl) ⟨Nat.le_of_ble_eq_true rfl, Nat.le_of_ble_eq_true rfl⟩ dX8_itemBy_8 rfl (W.pc 11 rfl ?_)
  refine lv_istore_n (lv' := [(3, .int (sp_X8_hashed (19 : Int32) (14 : Int32) (22 : Int32) (13 : Int32))), (0, .ref a0), (1, .int p1), (2, .int p2)]) hx hb dX8_itemBy_11 rfl hl (by decide) rfl (fun ls hl => W.pc 12 rfl ?_)
  refine lv_bipush (v := (26 : Int32)) hx hb dX8_itemBy_12 (by decide) (W.pc 14 rfl ?_)
  refine lv_bipush (v := (15 : Int32)) hx hb dX8_itemBy_14 (by decide) (W.pc 16 rfl ?_)
  refine lv_bipush (v := (20 : Int32)) hx hb dX8_itemBy_16 (by decide) (W.pc 18 rfl ?_)
  refine lv_bipush (v := (11 : Int32)) hx hb dX8_itemBy_18 (by decide) (W.pc 20 rfl ?_)
  refine lv_bipush (v := (11 : Int32)) hx hb dX8_itemBy_20 (by decide) (W.pc 22 rfl ?_)
  refine kSR (st1 := [.int (sp_X8_hashed (15 : Int32) (20 : Int32) (11 : Int32) (11 : Int32)), .int (26 : Int32)]) hX (c_X8_hashed l E (15 : Int32) (20 : Int32) (11 : Int32) (11 : Int32) _ rfl) B_X8_hashed w_4_192 hK (hP.pick [] rfl) rfl hl.1 rfl (Nat.le_of_ble_eq_true rfl) ⟨Nat.le_of_ble_eq_true rfl, Nat.le_of_ble_eq_true rfl⟩ dX8_itemBy_22 rfl (W.pc 25 rfl ?_)
  refine lv_imul hx hb dX8_itemBy_25 (W.pc 26 rfl ?_)
  refine lv_bipush (v := (115 : Int32)) hx hb dX8_itemBy_26 (by decide) (W.pc 28 rfl ?_)
  refine lv_iadd hx hb dX8_itemBy_28 (W.pc 29 rfl ?_)
  refine lv_bipush (v := (97 : Int32)) hx hb dX8_itemBy_29 (by decide) (W.pc 31 rfl ?_)
  refine lv_isub hx hb dX8_itemBy_31 (W.pc 32 rfl ?_)
  refine lv_istore (lv' := [(4, .int ((((26 : Int32) * (sp_X8_hashed (15 : Int32) (20 : Int32) (11 : Int32) (11 : Int32))) + (115 : Int32)) - (97 : Int32))), (3, .int (sp_X8_hashed (19 : Int32) (14 : Int32) (22 : Int32) (13 : Int32))), (0, .ref a0), (1, .int p1), (2, .int p2)]) hx hb dX8_itemBy_32 hl (by decide) rfl (fun ls hl => W.pc 34 rfl ?_)
  refine lv_bipush (v := (26 : Int32)) hx hb dX8_itemBy_34 (by decide) (W.pc 36 rfl ?_)
  refine lv_iconst (v := (1 : Int32)) hx hb dX8_itemBy_36 (by decide) (W.pc 37 rfl ?_)
  refine lv_bipush (v := (20 : Int32)) hx hb dX8_itemBy_37 (by decide) (W.pc 39 rfl ?_)
  refine lv_bipush (v := (8 : Int32)) hx hb dX8_itemBy_39 (by decide) (W.pc 41 rfl ?_)
  refine lv_bipush (v := (11 : Int32)) hx hb dX8_itemBy_41 (by decide) (W.pc 43 rfl ?_)
  refine kSR (st1 := [.int (sp_X8_hashed (1 : Int32) (20 : Int32) (8 : Int32) (11 : Int32)), .int (26 : Int32)]) hX (c_X8_hashed l E (1 : Int32) (20 : Int32) (8 : Int32) (11 : Int32) _ rfl) B_X8_hashed w_4_192 hK (hP.pick [] rfl) rfl hl.1 rfl (Nat.le_of_ble_eq_true rfl) ⟨Nat.le_of_ble_eq_true rfl, Nat.le_of_ble_eq_true rfl⟩ dX8_itemBy_43 rfl (W.pc 46 rfl ?_)
  refine lv_imul hx hb dX8_itemBy_46 (W.pc 47 rfl ?_)
  refine lv_bipush (v := (100 : Int32)) hx hb dX8_itemBy_47 (by decide) (W.pc 49 rfl ?_)
  refine lv_iadd hx hb dX8_itemBy_49 (W.pc 50 rfl ?_)
  refine lv_bipush (v := (97 : Int32)) hx hb dX8_itemBy_50 (by decide) (W.pc 52 rfl ?_)
  refine lv_isub hx hb dX8_itemBy_52 (W.pc 53 rfl ?_)
  refine lv_istore (lv' := [(5, .int ((((26 : Int32) * (sp_X8_hashed (1 : Int32) (20 : Int32) (8 : Int32) (11 : Int32))) + (100 : Int32)) - (97 : Int32))), (4, .int ((((26 : Int32) * (sp_X8_hashed (15 : Int32) (20 : Int32) (11 : Int32) (11 : Int32))) + (115 : Int32)) - (97 : Int32))), (3, .int (sp_X8_hashed (19 : Int32) (14 : Int32) (22 : Int32) (13 : Int32))), (0, .ref a0), (1, .int p1), (2, .int p2)]) hx hb dX8_itemBy_53 hl (by decide) rfl (fun ls hl => W.pc 55 rfl ?_)
  refine lv_sipush (v := (676 : Int32)) hx hb dX8_itemBy_55 (by decide) (W.pc 58 rfl ?_)
  refine lv_bipush (v := (18 : Int32)) hx hb dX8_itemBy_58 (by decide) (W.pc 60 rfl ?_)
  refine lv_bipush (v := (19 : Int32)) hx hb dX8_itemBy_60 (by decide) (W.pc 62 rfl ?_)
  refine lv_bipush (v := (17 : Int32)) hx hb dX8_itemBy_62 (by decide) (W.pc 64 rfl ?_)
  refine lv_bipush (v := (8 : Int32)) hx hb dX8_itemBy_64 (by decide) (W.pc 66 rfl ?_)
  refine kSR (st1 := [.int (sp_X8_hashed (18 : Int32) (19 : Int32) (17 : Int32) (8 : Int32)), .int (676 : Int32)]) hX (c_X8_hashed l E (18 : Int32) (19 : Int32) (17 : Int32) (8 : Int32) _ rfl) B_X8_hashed w_4_192 hK (hP.pick [] rfl) rfl hl.1 rfl (Nat.le_of_ble_eq_true rfl) ⟨Nat.le_of_ble_eq_true rfl, Nat.le_of_ble_eq_true rfl⟩ dX8_itemBy_66 rfl (W.pc 69 rfl ?_)
  refine lv_imul hx hb dX8_itemBy_69 (W.pc 70 rfl ?_)
  refine lv_sipush (v := (338 : Int32)) hx hb dX8_itemBy_70 (by decide) (W.pc 73 rfl ?_)
  refine lv_iadd hx hb dX8_itemBy_73 (W.pc 74 rfl ?_)
  refine lv_bipush (v := (103 : Int32)) hx hb dX8_itemBy_74 (by decide) (W.pc 76 rfl ?_)
  refine lv_iadd hx hb dX8_itemBy_76 (W.pc 77 rfl ?_)
  refine lv_bipush (v := (97 : Int32)) hx hb dX8_itemBy_77 (by decide) (W.pc 79 rfl ?_)
  refine lv_isub hx hb dX8_itemBy_79 (W.pc 80 rfl ?_)
  refine lv_istore (lv' := [(6, .int (((((676 : Int32) * (sp_X8_hashed (18 : Int32) (19 : Int32) (17 : Int32) (8 : Int32))) + (338 : Int32)) + (103 : Int32)) - (97 : Int32))), (5, .int ((((26 : Int32) * (sp_X8_hashed (1 : Int32) (20 : Int32) (8 : Int32) (11 : Int32))) + (100 : Int32)) - (97 : Int32))), (4, .int ((((26 : Int32) * (sp_X8_hashed (15 : Int32) (20 : Int32) (11 : Int32) (11 : Int32))) + (115 : Int32)) - (97 : Int32))), (3, .int (sp_X8_hashed (19 : Int32) (14 : Int32) (22 : Int32) (13 : Int32))), (0, .ref a0), (1, .int p1), (2, .int p2)]) hx hb dX8_itemBy_80 hl (by decide) rfl (fun ls hl => W.pc 82 rfl ?_)
  refine lv_bipush (v := (26 : Int32)) hx hb dX8_itemBy_82 (by decide) (W.pc 84 rfl ?_)
  refine lv_bipush (v := (24 : Int32)) hx hb dX8_itemBy_84 (by decide) (W.pc 86 rfl ?_)
  refine lv_iconst (v := (4 : Int32)) hx hb dX8_itemBy_86 (by decide) (W.pc 87 rfl ?_)
  refine lv_iconst (v := (0 : Int32)) hx hb dX8_itemBy_87 (by decide) (W.pc 88 rfl ?_)
  refine lv_bipush (v := (17 : Int32)) hx hb dX8_itemBy_88 (by decide) (W.pc 90 rfl ?_)
  refine kSR (st1 := [.int (sp_X8_hashed (24 : Int32) (4 : Int32) (0 : Int32) (17 : Int32)), .int (26 : Int32)]) hX (c_X8_hashed l E (24 : Int32) (4 : Int32) (0 : Int32) (17 : Int32) _ rfl) B_X8_hashed w_4_192 hK (hP.pick [] rfl) rfl hl.1 rfl (Nat.le_of_ble_eq_true rfl) ⟨Nat.le_of_ble_eq_true rfl, Nat.le_of_ble_eq_true rfl⟩ dX8_itemBy_90 rfl (W.pc 93 rfl ?_)
  refine lv_imul hx hb dX8_itemBy_93 (W.pc 94 rfl ?_)
  refine lv_bipush (v := (115 : Int32)) hx hb dX8_itemBy_94 (by decide) (W.pc 96 rfl ?_)
  refine lv_iadd hx hb dX8_itemBy_96 (W.pc 97 rfl ?_)
  refine lv_bipush (v := (97 : Int32)) hx hb dX8_itemBy_97 (by decide) (W.pc 99 rfl ?_)
  refine lv_isub hx hb dX8_itemBy_99 (W.pc 100 rfl ?_)
  refine lv_istore (lv' := [(7, .int ((((26 : Int32) * (sp_X8_hashed (24 : Int32) (4 : Int32) (0 : Int32) (17 : Int32))) + (115 : Int32)) - (97 : Int32))), (6, .int (((((676 : Int32) * (sp_X8_hashed (18 : Int32) (19 : Int32) (17 : Int32) (8 : Int32))) + (338 : Int32)) + (103 : Int32)) - (97 : Int32))), (5, .int ((((26 : Int32) * (sp_X8_hashed (1 : Int32) (20 : Int32) (8 : Int32) (11 : Int32))) + (100 : Int32)) - (97 : Int32))), (4, .int ((((26 : Int32) * (sp_X8_hashed (15 : Int32) (20 : Int32) (11 : Int32) (11 : Int32))) + (115 : Int32)) - (97 : Int32))), (3, .int (sp_X8_hashed (19 : Int32) (14 : Int32) (22 : Int32) (13 : Int32))), (0, .ref a0), (1, .int p1), (2, .int p2)]) hx hb dX8_itemBy_100 hl (by decide) rfl (fun ls hl => W.pc 102 rfl ?_)
  refine lv_iload_n hx hb dX8_itemBy_102 rfl (lv_at hl 7 rfl) (W.pc 103 rfl ?_)
  refine lv_iconst (v := (4 : Int32)) hx hb dX8_itemBy_103 (by decide) (W.pc 104 rfl ?_)
  refine lv_icmp_ne (tgt := 116) hx hb dX8_itemBy_104 (by decide) (fun c1 => ?_) (fun c1 => W.pc 107 rfl ?_)
  · have hsp := iq hsp c1
    refine lv_iload_n hx hb dX8_itemBy_116 rfl (lv_at hl 7 rfl) (W.pc 117 rfl ?_)
    refine lv_iconst (v := (5 : Int32)) hx hb dX8_itemBy_117 (by decide) (W.pc 118 rfl ?_)
    refine lv_icmp_ne (tgt := 131) hx hb dX8_itemBy_118 (by decide) (fun c2 => ?_) (fun c2 => W.pc 121 rfl ?_)
    · have hsp := iq hsp c2
      refine lv_iload_n hx hb dX8_itemBy_131 rfl (lv_at hl 7 rfl) (W.pc 132 rfl ?_)
      refine lv_iconst (v := (5 : Int32)) hx hb dX8_itemBy_132 (by decide) (W.pc 133 rfl ?_)
      refine lv_icmp_ne (tgt := 146) hx hb dX8_itemBy_133 (by decide) (fun c3 => ?_) (fun c3 => W.pc 136 rfl ?_)
      · have hsp := iq hsp c3
        refine lv_iload_n hx hb dX8_itemBy_146 rfl (lv_at hl 7 rfl) (W.pc 147 rfl ?_)
        refine lv_bipush (v := (6 : Int32)) hx hb dX8_itemBy_147 (by decide) (W.pc 149 rfl ?_)
        refine lv_icmp_ne (tgt := 162) hx hb dX8_itemBy_149 (by decide) (fun c4 => ?_) (fun c4 => W.pc 152 rfl ?_)
        · have hsp := iq hsp c4
          refine lv_iload_n hx hb dX8_itemBy_162 rfl (lv_at hl 7 rfl) (W.pc 163 rfl ?_)
          refine lv_iconst (v := (5 : Int32)) hx hb dX8_itemBy_163 (by decide) (W.pc 164 rfl ?_)
          refine lv_icmp_ne (tgt := 177) hx hb dX8_itemBy_164 (by decide) (fun c5 => ?_) (fun c5 => W.pc 167 rfl ?_)
          · have hsp := iq hsp c5
            refine lv_iconst (v := (0 : Int32)) hx hb dX8_itemBy_177 (by decide) (W.pc 178 rfl ?_)
            subst hsp
            exact rRi hX rfl dX8_itemBy_178
          · have hsp := ip hsp c5
            refine lv_iload_n hx hb dX8_itemBy_167 rfl (lv_at hl 6 rfl) (W.pc 168 rfl ?_)
            refine lv_iload hx hb dX8_itemBy_168 (lv_at hl 0 rfl) (W.pc 170 rfl ?_)
            refine lv_icmp_ne (tgt := 177) hx hb dX8_itemBy_170 (by decide) (fun c6 => ?_) (fun c6 => W.pc 173 rfl ?_)
            · have hsp := iq hsp c6
              refine lv_iconst (v := (0 : Int32)) hx hb dX8_itemBy_177 (by decide) (W.pc 178 rfl ?_)
              subst hsp
              exact rRi hX rfl dX8_itemBy_178
            · have hsp := ip hsp c6
              refine lv_iconst (v := (5 : Int32)) hx hb dX8_itemBy_173 (by decide) (W.pc 174 rfl ?_)
              refine lv_goto (tgt := 178) hx hb dX8_itemBy_174 (by decide) ?_
              subst hsp
              exact rRi hX rfl dX8_itemBy_178
        · have hsp := ip hsp c4
          refine lv_iload_n hx hb dX8_itemBy_152 rfl (lv_at hl 6 rfl) (W.pc 153 rfl ?_)
          refine lv_iload hx hb dX8_itemBy_153 (lv_at hl 1 rfl) (W.pc 155 rfl ?_)
          refine lv_icmp_ne (tgt := 162) hx hb dX8_itemBy_155 (by decide) (fun c7 => ?_) (fun c7 => W.pc 158 rfl ?_)
          · have hsp := iq hsp c7
            refine lv_iload_n hx hb dX8_itemBy_162 rfl (lv_at hl 7 rfl) (W.pc 163 rfl ?_)
            refine lv_iconst (v := (5 : Int32)) hx hb dX8_itemBy_163 (by decide) (W.pc 164 rfl ?_)
            refine lv_icmp_ne (tgt := 177) hx hb dX8_itemBy_164 (by decide) (fun c8 => ?_) (fun c8 => W.pc 167 rfl ?_)
            · have hsp := iq hsp c8
              refine lv_iconst (v := (0 : Int32)) hx hb dX8_itemBy_177 (by decide) (W.pc 178 rfl ?_)
              subst hsp
              exact rRi hX rfl dX8_itemBy_178
            · have hsp := ip hsp c8
              refine lv_iload_n hx hb dX8_itemBy_167 rfl (lv_at hl 6 rfl) (W.pc 168 rfl ?_)
              refine lv_iload hx hb dX8_itemBy_168 (lv_at hl 0 rfl) (W.pc 170 rfl ?_)
              refine lv_icmp_ne (tgt := 177) hx hb dX8_itemBy_170 (by decide) (fun c9 => ?_) (fun c9 => W.pc 173 rfl ?_)
              · have hsp := iq hsp c9
                refine lv_iconst (v := (0 : Int32)) hx hb dX8_itemBy_177 (by decide) (W.pc 178 rfl ?_)
                subst hsp
                exact rRi hX rfl dX8_itemBy_178
              · have hsp := ip hsp c9
                refine lv_iconst (v := (5 : Int32)) hx hb dX8_itemBy_173 (by decide) (W.pc 174 rfl ?_)
                refine lv_goto (tgt := 178) hx hb dX8_itemBy_174 (by decide) ?_
                subst hsp
                exact rRi hX rfl dX8_itemBy_178
          · have hsp := ip hsp c7
            refine lv_iconst (v := (4 : Int32)) hx hb dX8_itemBy_158 (by decide) (W.pc 159 rfl ?_)
            refine lv_goto (tgt := 178) hx hb dX8_itemBy_159 (by decide) ?_
            subst hsp
            exact rRi hX rfl dX8_itemBy_178
      · have hsp := ip hsp c3
        refine lv_iload_n hx hb dX8_itemBy_136 rfl (lv_at hl 6 rfl) (W.pc 137 rfl ?_)
        refine lv_iload hx hb dX8_itemBy_137 (lv_at hl 2 rfl) (W.pc 139 rfl ?_)
        refine lv_icmp_ne (tgt := 146) hx hb dX8_itemBy_139 (by decide) (fun c10 => ?_) (fun c10 => W.pc 142 rfl ?_)
        · have hsp := iq hsp c10
          refine lv_iload_n hx hb dX8_itemBy_146 rfl (lv_at hl 7 rfl) (W.pc 147 rfl ?_)
          refine lv_bipush (v := (6 : Int32)) hx hb dX8_itemBy_147 (by decide) (W.pc 149 rfl ?_)
          refine lv_icmp_ne (tgt := 162) hx hb dX8_itemBy_149 (by decide) (fun c11 => ?_) (fun c11 => W.pc 152 rfl ?_)
          · have hsp := iq hsp c11
            refine lv_iload_n hx hb dX8_itemBy_162 rfl (lv_at hl 7 rfl) (W.pc 163 rfl ?_)
            refine lv_iconst (v := (5 : Int32)) hx hb dX8_itemBy_163 (by decide) (W.pc 164 rfl ?_)
            refine lv_icmp_ne (tgt := 177) hx hb dX8_itemBy_164 (by decide) (fun c12 => ?_) (fun c12 => W.pc 167 rfl ?_)
            · have hsp := iq hsp c12
              refine lv_iconst (v := (0 : Int32)) hx hb dX8_itemBy_177 (by decide) (W.pc 178 rfl ?_)
              subst hsp
              exact rRi hX rfl dX8_itemBy_178
            · have hsp := ip hsp c12
              refine lv_iload_n hx hb dX8_itemBy_167 rfl (lv_at hl 6 rfl) (W.pc 168 rfl ?_)
              refine lv_iload hx hb dX8_itemBy_168 (lv_at hl 0 rfl) (W.pc 170 rfl ?_)
              refine lv_icmp_ne (tgt := 177) hx hb dX8_itemBy_170 (by decide) (fun c13 => ?_) (fun c13 => W.pc 173 rfl ?_)
              · have hsp := iq hsp c13
                refine lv_iconst (v := (0 : Int32)) hx hb dX8_itemBy_177 (by decide) (W.pc 178 rfl ?_)
                subst hsp
                exact rRi hX rfl dX8_itemBy_178
              · have hsp := ip hsp c13
                refine lv_iconst (v := (5 : Int32)) hx hb dX8_itemBy_173 (by decide) (W.pc 174 rfl ?_)
                refine lv_goto (tgt := 178) hx hb dX8_itemBy_174 (by decide) ?_
                subst hsp
                exact rRi hX rfl dX8_itemBy_178
          · have hsp := ip hsp c11
            refine lv_iload_n hx hb dX8_itemBy_152 rfl (lv_at hl 6 rfl) (W.pc 153 rfl ?_)
            refine lv_iload hx hb dX8_itemBy_153 (lv_at hl 1 rfl) (W.pc 155 rfl ?_)
            refine lv_icmp_ne (tgt := 162) hx hb dX8_itemBy_155 (by decide) (fun c14 => ?_) (fun c14 => W.pc 158 rfl ?_)
            · have hsp := iq hsp c14
              refine lv_iload_n hx hb dX8_itemBy_162 rfl (lv_at hl 7 rfl) (W.pc 163 rfl ?_)
              refine lv_iconst (v := (5 : Int32)) hx hb dX8_itemBy_163 (by decide) (W.pc 164 rfl ?_)
              refine lv_icmp_ne (tgt := 177) hx hb dX8_itemBy_164 (by decide) (fun c15 => ?_) (fun c15 => W.pc 167 rfl ?_)
              · have hsp := iq hsp c15
                refine lv_iconst (v := (0 : Int32)) hx hb dX8_itemBy_177 (by decide) (W.pc 178 rfl ?_)
                subst hsp
                exact rRi hX rfl dX8_itemBy_178
              · have hsp := ip hsp c15
                refine lv_iload_n hx hb dX8_itemBy_167 rfl (lv_at hl 6 rfl) (W.pc 168 rfl ?_)
                refine lv_iload hx hb dX8_itemBy_168 (lv_at hl 0 rfl) (W.pc 170 rfl ?_)
                refine lv_icmp_ne (tgt := 177) hx hb dX8_itemBy_170 (by decide) (fun c16 => ?_) (fun c16 => W.pc 173 rfl ?_)
                · have hsp := iq hsp c16
                  refine lv_iconst (v := (0 : Int32)) hx hb dX8_itemBy_177 (by decide) (W.pc 178 rfl ?_)
                  subst hsp
                  exact rRi hX rfl dX8_itemBy_178
                · have hsp := ip hsp c16
                  refine lv_iconst (v := (5 : Int32)) hx hb dX8_itemBy_173 (by decide) (W.pc 174 rfl ?_)
                  refine lv_goto (tgt := 178) hx hb dX8_itemBy_174 (by decide) ?_
                  subst hsp
                  exact rRi hX rfl dX8_itemBy_178
            · have hsp := ip hsp c14
              refine lv_iconst (v := (4 : Int32)) hx hb dX8_itemBy_158 (by decide) (W.pc 159 rfl ?_)
              refine lv_goto (tgt := 178) hx hb dX8_itemBy_159 (by decide) ?_
              subst hsp
              exact rRi hX rfl dX8_itemBy_178
        · have hsp := ip hsp c10
          refine lv_iconst (v := (3 : Int32)) hx hb dX8_itemBy_142 (by decide) (W.pc 143 rfl ?_)
          refine lv_goto (tgt := 178) hx hb dX8_itemBy_143 (by decide) ?_
          subst hsp
          exact rRi hX rfl dX8_itemBy_178
    · have hsp := ip hsp c2
      refine lv_iload_n hx hb dX8_itemBy_121 rfl (lv_at hl 6 rfl) (W.pc 122 rfl ?_)
      refine lv_iload hx hb dX8_itemBy_122 (lv_at hl 3 rfl) (W.pc 124 rfl ?_)
      refine lv_icmp_ne (tgt := 131) hx hb dX8_itemBy_124 (by decide) (fun c17 => ?_) (fun c17 => W.pc 127 rfl ?_)
      · have hsp := iq hsp c17
        refine lv_iload_n hx hb dX8_itemBy_131 rfl (lv_at hl 7 rfl) (W.pc 132 rfl ?_)
        refine lv_iconst (v := (5 : Int32)) hx hb dX8_itemBy_132 (by decide) (W.pc 133 rfl ?_)
        refine lv_icmp_ne (tgt := 146) hx hb dX8_itemBy_133 (by decide) (fun c18 => ?_) (fun c18 => W.pc 136 rfl ?_)
        · have hsp := iq hsp c18
          refine lv_iload_n hx hb dX8_itemBy_146 rfl (lv_at hl 7 rfl) (W.pc 147 rfl ?_)
          refine lv_bipush (v := (6 : Int32)) hx hb dX8_itemBy_147 (by decide) (W.pc 149 rfl ?_)
          refine lv_icmp_ne (tgt := 162) hx hb dX8_itemBy_149 (by decide) (fun c19 => ?_) (fun c19 => W.pc 152 rfl ?_)
          · have hsp := iq hsp c19
            refine lv_iload_n hx hb dX8_itemBy_162 rfl (lv_at hl 7 rfl) (W.pc 163 rfl ?_)
            refine lv_iconst (v := (5 : Int32)) hx hb dX8_itemBy_163 (by decide) (W.pc 164 rfl ?_)
            refine lv_icmp_ne (tgt := 177) hx hb dX8_itemBy_164 (by decide) (fun c20 => ?_) (fun c20 => W.pc 167 rfl ?_)
            · have hsp := iq hsp c20
              refine lv_iconst (v := (0 : Int32)) hx hb dX8_itemBy_177 (by decide) (W.pc 178 rfl ?_)
              subst hsp
              exact rRi hX rfl dX8_itemBy_178
            · have hsp := ip hsp c20
              refine lv_iload_n hx hb dX8_itemBy_167 rfl (lv_at hl 6 rfl) (W.pc 168 rfl ?_)
              refine lv_iload hx hb dX8_itemBy_168 (lv_at hl 0 rfl) (W.pc 170 rfl ?_)
              refine lv_icmp_ne (tgt := 177) hx hb dX8_itemBy_170 (by decide) (fun c21 => ?_) (fun c21 => W.pc 173 rfl ?_)
              · have hsp := iq hsp c21
                refine lv_iconst (v := (0 : Int32)) hx hb dX8_itemBy_177 (by decide) (W.pc 178 rfl ?_)
                subst hsp
                exact rRi hX rfl dX8_itemBy_178
              · have hsp := ip hsp c21
                refine lv_iconst (v := (5 : Int32)) hx hb dX8_itemBy_173 (by decide) (W.pc 174 rfl ?_)
                refine lv_goto (tgt := 178) hx hb dX8_itemBy_174 (by decide) ?_
                subst hsp
                exact rRi hX rfl dX8_itemBy_178
          · have hsp := ip hsp c19
            refine lv_iload_n hx hb dX8_itemBy_152 rfl (lv_at hl 6 rfl) (W.pc 153 rfl ?_)
            refine lv_iload hx hb dX8_itemBy_153 (lv_at hl 1 rfl) (W.pc 155 rfl ?_)
            refine lv_icmp_ne (tgt := 162) hx hb dX8_itemBy_155 (by decide) (fun c22 => ?_) (fun c22 => W.pc 158 rfl ?_)
            · have hsp := iq hsp c22
              refine lv_iload_n hx hb dX8_itemBy_162 rfl (lv_at hl 7 rfl) (W.pc 163 rfl ?_)
              refine lv_iconst (v := (5 : Int32)) hx hb dX8_itemBy_163 (by decide) (W.pc 164 rfl ?_)
              refine lv_icmp_ne (tgt := 177) hx hb dX8_itemBy_164 (by decide) (fun c23 => ?_) (fun c23 => W.pc 167 rfl ?_)
              · have hsp := iq hsp c23
                refine lv_iconst (v := (0 : Int32)) hx hb dX8_itemBy_177 (by decide) (W.pc 178 rfl ?_)
                subst hsp
                exact rRi hX rfl dX8_itemBy_178
              · have hsp := ip hsp c23
                refine lv_iload_n hx hb dX8_itemBy_167 rfl (lv_at hl 6 rfl) (W.pc 168 rfl ?_)
                refine lv_iload hx hb dX8_itemBy_168 (lv_at hl 0 rfl) (W.pc 170 rfl ?_)
                refine lv_icmp_ne (tgt := 177) hx hb dX8_itemBy_170 (by decide) (fun c24 => ?_) (fun c24 => W.pc 173 rfl ?_)
                · have hsp := iq hsp c24
                  refine lv_iconst (v := (0 : Int32)) hx hb dX8_itemBy_177 (by decide) (W.pc 178 rfl ?_)
                  subst hsp
                  exact rRi hX rfl dX8_itemBy_178
                · have hsp := ip hsp c24
                  refine lv_iconst (v := (5 : Int32)) hx hb dX8_itemBy_173 (by decide) (W.pc 174 rfl ?_)
                  refine lv_goto (tgt := 178) hx hb dX8_itemBy_174 (by decide) ?_
                  subst hsp
                  exact rRi hX rfl dX8_itemBy_178
            · have hsp := ip hsp c22
              refine lv_iconst (v := (4 : Int32)) hx hb dX8_itemBy_158 (by decide) (W.pc 159 rfl ?_)
              refine lv_goto (tgt := 178) hx hb dX8_itemBy_159 (by decide) ?_
              subst hsp
              exact rRi hX rfl dX8_itemBy_178
        · have hsp := ip hsp c18
          refine lv_iload_n hx hb dX8_itemBy_136 rfl (lv_at hl 6 rfl) (W.pc 137 rfl ?_)
          refine lv_iload hx hb dX8_itemBy_137 (lv_at hl 2 rfl) (W.pc 139 rfl ?_)
          refine lv_icmp_ne (tgt := 146) hx hb dX8_itemBy_139 (by decide) (fun c25 => ?_) (fun c25 => W.pc 142 rfl ?_)
          · have hsp := iq hsp c25
            refine lv_iload_n hx hb dX8_itemBy_146 rfl (lv_at hl 7 rfl) (W.pc 147 rfl ?_)
            refine lv_bipush (v := (6 : Int32)) hx hb dX8_itemBy_147 (by decide) (W.pc 149 rfl ?_)
            refine lv_icmp_ne (tgt := 162) hx hb dX8_itemBy_149 (by decide) (fun c26 => ?_) (fun c26 => W.pc 152 rfl ?_)
            · have hsp := iq hsp c26
              refine lv_iload_n hx hb dX8_itemBy_162 rfl (lv_at hl 7 rfl) (W.pc 163 rfl ?_)
              refine lv_iconst (v := (5 : Int32)) hx hb dX8_itemBy_163 (by decide) (W.pc 164 rfl ?_)
              refine lv_icmp_ne (tgt := 177) hx hb dX8_itemBy_164 (by decide) (fun c27 => ?_) (fun c27 => W.pc 167 rfl ?_)
              · have hsp := iq hsp c27
                refine lv_iconst (v := (0 : Int32)) hx hb dX8_itemBy_177 (by decide) (W.pc 178 rfl ?_)
                subst hsp
                exact rRi hX rfl dX8_itemBy_178
              · have hsp := ip hsp c27
                refine lv_iload_n hx hb dX8_itemBy_167 rfl (lv_at hl 6 rfl) (W.pc 168 rfl ?_)
                refine lv_iload hx hb dX8_itemBy_168 (lv_at hl 0 rfl) (W.pc 170 rfl ?_)
                refine lv_icmp_ne (tgt := 177) hx hb dX8_itemBy_170 (by decide) (fun c28 => ?_) (fun c28 => W.pc 173 rfl ?_)
                · have hsp := iq hsp c28
                  refine lv_iconst (v := (0 : Int32)) hx hb dX8_itemBy_177 (by decide) (W.pc 178 rfl ?_)
                  subst hsp
                  exact rRi hX rfl dX8_itemBy_178
                · have hsp := ip hsp c28
                  refine lv_iconst (v := (5 : Int32)) hx hb dX8_itemBy_173 (by decide) (W.pc 174 rfl ?_)
                  refine lv_goto (tgt := 178) hx hb dX8_itemBy_174 (by decide) ?_
                  subst hsp
                  exact rRi hX rfl dX8_itemBy_178
            · have hsp := ip hsp c26
              refine lv_iload_n hx hb dX8_itemBy_152 rfl (lv_at hl 6 rfl) (W.pc 153 rfl ?_)
              refine lv_iload hx hb dX8_itemBy_153 (lv_at hl 1 rfl) (W.pc 155 rfl ?_)
              refine lv_icmp_ne (tgt := 162) hx hb dX8_itemBy_155 (by decide) (fun c29 => ?_) (fun c29 => W.pc 158 rfl ?_)
              · have hsp := iq hsp c29
                refine lv_iload_n hx hb dX8_itemBy_162 rfl (lv_at hl 7 rfl) (W.pc 163 rfl ?_)
                refine lv_iconst (v := (5 : Int32)) hx hb dX8_itemBy_163 (by decide) (W.pc 164 rfl ?_)
                refine lv_icmp_ne (tgt := 177) hx hb dX8_itemBy_164 (by decide) (fun c30 => ?_) (fun c30 => W.pc 167 rfl ?_)
                · have hsp := iq hsp c30
                  refine lv_iconst (v := (0 : Int32)) hx hb dX8_itemBy_177 (by decide) (W.pc 178 rfl ?_)
                  subst hsp
                  exact rRi hX rfl dX8_itemBy_178
                · have hsp := ip hsp c30
                  refine lv_iload_n hx hb dX8_itemBy_167 rfl (lv_at hl 6 rfl) (W.pc 168 rfl ?_)
                  refine lv_iload hx hb dX8_itemBy_168 (lv_at hl 0 rfl) (W.pc 170 rfl ?_)
                  refine lv_icmp_ne (tgt := 177) hx hb dX8_itemBy_170 (by decide) (fun c31 => ?_) (fun c31 => W.pc 173 rfl ?_)
                  · have hsp := iq hsp c31
                    refine lv_iconst (v := (0 : Int32)) hx hb dX8_itemBy_177 (by decide) (W.pc 178 rfl ?_)
                    subst hsp
                    exact rRi hX rfl dX8_itemBy_178
                  · have hsp := ip hsp c31
                    refine lv_iconst (v := (5 : Int32)) hx hb dX8_itemBy_173 (by decide) (W.pc 174 rfl ?_)
                    refine lv_goto (tgt := 178) hx hb dX8_itemBy_174 (by decide) ?_
                    subst hsp
                    exact rRi hX rfl dX8_itemBy_178
              · have hsp := ip hsp c29
                refine lv_iconst (v := (4 : Int32)) hx hb dX8_itemBy_158 (by decide) (W.pc 159 rfl ?_)
                refine lv_goto (tgt := 178) hx hb dX8_itemBy_159 (by decide) ?_
                subst hsp
                exact rRi hX rfl dX8_itemBy_178
          · have hsp := ip hsp c25
            refine lv_iconst (v := (3 : Int32)) hx hb dX8_itemBy_142 (by decide) (W.pc 143 rfl ?_)
            refine lv_goto (tgt := 178) hx hb dX8_itemBy_143 (by decide) ?_
            subst hsp
            exact rRi hX rfl dX8_itemBy_178
      · have hsp := ip hsp c17
        refine lv_iconst (v := (2 : Int32)) hx hb dX8_itemBy_127 (by decide) (W.pc 128 rfl ?_)
        refine lv_goto (tgt := 178) hx hb dX8_itemBy_128 (by decide) ?_
        subst hsp
        exact rRi hX rfl dX8_itemBy_178
  · have hsp := ip hsp c1
    refine lv_iload_n hx hb dX8_itemBy_107 rfl (lv_at hl 6 rfl) (W.pc 108 rfl ?_)
    refine lv_iload_n hx hb dX8_itemBy_108 rfl (lv_at hl 4 rfl) (W.pc 109 rfl ?_)
    refine lv_icmp_ne (tgt := 116) hx hb dX8_itemBy_109 (by decide) (fun c32 => ?_) (fun c32 => W.pc 112 rfl ?_)
    · have hsp := iq hsp c32
      refine lv_iload_n hx hb dX8_itemBy_116 rfl (lv_at hl 7 rfl) (W.pc 117 rfl ?_)
      refine lv_iconst (v := (5 : Int32)) hx hb dX8_itemBy_117 (by decide) (W.pc 118 rfl ?_)
      refine lv_icmp_ne (tgt := 131) hx hb dX8_itemBy_118 (by decide) (fun c33 => ?_) (fun c33 => W.pc 121 rfl ?_)
      · have hsp := iq hsp c33
        refine lv_iload_n hx hb dX8_itemBy_131 rfl (lv_at hl 7 rfl) (W.pc 132 rfl ?_)
        refine lv_iconst (v := (5 : Int32)) hx hb dX8_itemBy_132 (by decide) (W.pc 133 rfl ?_)
        refine lv_icmp_ne (tgt := 146) hx hb dX8_itemBy_133 (by decide) (fun c34 => ?_) (fun c34 => W.pc 136 rfl ?_)
        · have hsp := iq hsp c34
          refine lv_iload_n hx hb dX8_itemBy_146 rfl (lv_at hl 7 rfl) (W.pc 147 rfl ?_)
          refine lv_bipush (v := (6 : Int32)) hx hb dX8_itemBy_147 (by decide) (W.pc 149 rfl ?_)
          refine lv_icmp_ne (tgt := 162) hx hb dX8_itemBy_149 (by decide) (fun c35 => ?_) (fun c35 => W.pc 152 rfl ?_)
          · have hsp := iq hsp c35
            refine lv_iload_n hx hb dX8_itemBy_162 rfl (lv_at hl 7 rfl) (W.pc 163 rfl ?_)
            refine lv_iconst (v := (5 : Int32)) hx hb dX8_itemBy_163 (by decide) (W.pc 164 rfl ?_)
            refine lv_icmp_ne (tgt := 177) hx hb dX8_itemBy_164 (by decide) (fun c36 => ?_) (fun c36 => W.pc 167 rfl ?_)
            · have hsp := iq hsp c36
              refine lv_iconst (v := (0 : Int32)) hx hb dX8_itemBy_177 (by decide) (W.pc 178 rfl ?_)
              subst hsp
              exact rRi hX rfl dX8_itemBy_178
            · have hsp := ip hsp c36
              refine lv_iload_n hx hb dX8_itemBy_167 rfl (lv_at hl 6 rfl) (W.pc 168 rfl ?_)
              refine lv_iload hx hb dX8_itemBy_168 (lv_at hl 0 rfl) (W.pc 170 rfl ?_)
              refine lv_icmp_ne (tgt := 177) hx hb dX8_itemBy_170 (by decide) (fun c37 => ?_) (fun c37 => W.pc 173 rfl ?_)
              · have hsp := iq hsp c37
                refine lv_iconst (v := (0 : Int32)) hx hb dX8_itemBy_177 (by decide) (W.pc 178 rfl ?_)
                subst hsp
                exact rRi hX rfl dX8_itemBy_178
              · have hsp := ip hsp c37
                refine lv_iconst (v := (5 : Int32)) hx hb dX8_itemBy_173 (by decide) (W.pc 174 rfl ?_)
                refine lv_goto (tgt := 178) hx hb dX8_itemBy_174 (by decide) ?_
                subst hsp
                exact rRi hX rfl dX8_itemBy_178
          · have hsp := ip hsp c35
            refine lv_iload_n hx hb dX8_itemBy_152 rfl (lv_at hl 6 rfl) (W.pc 153 rfl ?_)
            refine lv_iload hx hb dX8_itemBy_153 (lv_at hl 1 rfl) (W.pc 155 rfl ?_)
            refine lv_icmp_ne (tgt := 162) hx hb dX8_itemBy_155 (by decide) (fun c38 => ?_) (fun c38 => W.pc 158 rfl ?_)
            · have hsp := iq hsp c38
              refine lv_iload_n hx hb dX8_itemBy_162 rfl (lv_at hl 7 rfl) (W.pc 163 rfl ?_)
              refine lv_iconst (v := (5 : Int32)) hx hb dX8_itemBy_163 (by decide) (W.pc 164 rfl ?_)
              refine lv_icmp_ne (tgt := 177) hx hb dX8_itemBy_164 (by decide) (fun c39 => ?_) (fun c39 => W.pc 167 rfl ?_)
              · have hsp := iq hsp c39
                refine lv_iconst (v := (0 : Int32)) hx hb dX8_itemBy_177 (by decide) (W.pc 178 rfl ?_)
                subst hsp
                exact rRi hX rfl dX8_itemBy_178
              · have hsp := ip hsp c39
                refine lv_iload_n hx hb dX8_itemBy_167 rfl (lv_at hl 6 rfl) (W.pc 168 rfl ?_)
                refine lv_iload hx hb dX8_itemBy_168 (lv_at hl 0 rfl) (W.pc 170 rfl ?_)
                refine lv_icmp_ne (tgt := 177) hx hb dX8_itemBy_170 (by decide) (fun c40 => ?_) (fun c40 => W.pc 173 rfl ?_)
                · have hsp := iq hsp c40
                  refine lv_iconst (v := (0 : Int32)) hx hb dX8_itemBy_177 (by decide) (W.pc 178 rfl ?_)
                  subst hsp
                  exact rRi hX rfl dX8_itemBy_178
                · have hsp := ip hsp c40
                  refine lv_iconst (v := (5 : Int32)) hx hb dX8_itemBy_173 (by decide) (W.pc 174 rfl ?_)
                  refine lv_goto (tgt := 178) hx hb dX8_itemBy_174 (by decide) ?_
                  subst hsp
                  exact rRi hX rfl dX8_itemBy_178
            · have hsp := ip hsp c38
              refine lv_iconst (v := (4 : Int32)) hx hb dX8_itemBy_158 (by decide) (W.pc 159 rfl ?_)
              refine lv_goto (tgt := 178) hx hb dX8_itemBy_159 (by decide) ?_
              subst hsp
              exact rRi hX rfl dX8_itemBy_178
        · have hsp := ip hsp c34
          refine lv_iload_n hx hb dX8_itemBy_136 rfl (lv_at hl 6 rfl) (W.pc 137 rfl ?_)
          refine lv_iload hx hb dX8_itemBy_137 (lv_at hl 2 rfl) (W.pc 139 rfl ?_)
          refine lv_icmp_ne (tgt := 146) hx hb dX8_itemBy_139 (by decide) (fun c41 => ?_) (fun c41 => W.pc 142 rfl ?_)
          · have hsp := iq hsp c41
            refine lv_iload_n hx hb dX8_itemBy_146 rfl (lv_at hl 7 rfl) (W.pc 147 rfl ?_)
            refine lv_bipush (v := (6 : Int32)) hx hb dX8_itemBy_147 (by decide) (W.pc 149 rfl ?_)
            refine lv_icmp_ne (tgt := 162) hx hb dX8_itemBy_149 (by decide) (fun c42 => ?_) (fun c42 => W.pc 152 rfl ?_)
            · have hsp := iq hsp c42
              refine lv_iload_n hx hb dX8_itemBy_162 rfl (lv_at hl 7 rfl) (W.pc 163 rfl ?_)
              refine lv_iconst (v := (5 : Int32)) hx hb dX8_itemBy_163 (by decide) (W.pc 164 rfl ?_)
              refine lv_icmp_ne (tgt := 177) hx hb dX8_itemBy_164 (by decide) (fun c43 => ?_) (fun c43 => W.pc 167 rfl ?_)
              · have hsp := iq hsp c43
                refine lv_iconst (v := (0 : Int32)) hx hb dX8_itemBy_177 (by decide) (W.pc 178 rfl ?_)
                subst hsp
                exact rRi hX rfl dX8_itemBy_178
              · have hsp := ip hsp c43
                refine lv_iload_n hx hb dX8_itemBy_167 rfl (lv_at hl 6 rfl) (W.pc 168 rfl ?_)
                refine lv_iload hx hb dX8_itemBy_168 (lv_at hl 0 rfl) (W.pc 170 rfl ?_)
                refine lv_icmp_ne (tgt := 177) hx hb dX8_itemBy_170 (by decide) (fun c44 => ?_) (fun c44 => W.pc 173 rfl ?_)
                · have hsp := iq hsp c44
                  refine lv_iconst (v := (0 : Int32)) hx hb dX8_itemBy_177 (by decide) (W.pc 178 rfl ?_)
                  subst hsp
                  exact rRi hX rfl dX8_itemBy_178
                · have hsp := ip hsp c44
                  refine lv_iconst (v := (5 : Int32)) hx hb dX8_itemBy_173 (by decide) (W.pc 174 rfl ?_)
                  refine lv_goto (tgt := 178) hx hb dX8_itemBy_174 (by decide) ?_
                  subst hsp
                  exact rRi hX rfl dX8_itemBy_178
            · have hsp := ip hsp c42
              refine lv_iload_n hx hb dX8_itemBy_152 rfl (lv_at hl 6 rfl) (W.pc 153 rfl ?_)
              refine lv_iload hx hb dX8_itemBy_153 (lv_at hl 1 rfl) (W.pc 155 rfl ?_)
              refine lv_icmp_ne (tgt := 162) hx hb dX8_itemBy_155 (by decide) (fun c45 => ?_) (fun c45 => W.pc 158 rfl ?_)
              · have hsp := iq hsp c45
                refine lv_iload_n hx hb dX8_itemBy_162 rfl (lv_at hl 7 rfl) (W.pc 163 rfl ?_)
                refine lv_iconst (v := (5 : Int32)) hx hb dX8_itemBy_163 (by decide) (W.pc 164 rfl ?_)
                refine lv_icmp_ne (tgt := 177) hx hb dX8_itemBy_164 (by decide) (fun c46 => ?_) (fun c46 => W.pc 167 rfl ?_)
                · have hsp := iq hsp c46
                  refine lv_iconst (v := (0 : Int32)) hx hb dX8_itemBy_177 (by decide) (W.pc 178 rfl ?_)
                  subst hsp
                  exact rRi hX rfl dX8_itemBy_178
                · have hsp := ip hsp c46
                  refine lv_iload_n hx hb dX8_itemBy_167 rfl (lv_at hl 6 rfl) (W.pc 168 rfl ?_)
                  refine lv_iload hx hb dX8_itemBy_168 (lv_at hl 0 rfl) (W.pc 170 rfl ?_)
                  refine lv_icmp_ne (tgt := 177) hx hb dX8_itemBy_170 (by decide) (fun c47 => ?_) (fun c47 => W.pc 173 rfl ?_)
                  · have hsp := iq hsp c47
                    refine lv_iconst (v := (0 : Int32)) hx hb dX8_itemBy_177 (by decide) (W.pc 178 rfl ?_)
                    subst hsp
                    exact rRi hX rfl dX8_itemBy_178
                  · have hsp := ip hsp c47
                    refine lv_iconst (v := (5 : Int32)) hx hb dX8_itemBy_173 (by decide) (W.pc 174 rfl ?_)
                    refine lv_goto (tgt := 178) hx hb dX8_itemBy_174 (by decide) ?_
                    subst hsp
                    exact rRi hX rfl dX8_itemBy_178
              · have hsp := ip hsp c45
                refine lv_iconst (v := (4 : Int32)) hx hb dX8_itemBy_158 (by decide) (W.pc 159 rfl ?_)
                refine lv_goto (tgt := 178) hx hb dX8_itemBy_159 (by decide) ?_
                subst hsp
                exact rRi hX rfl dX8_itemBy_178
          · have hsp := ip hsp c41
            refine lv_iconst (v := (3 : Int32)) hx hb dX8_itemBy_142 (by decide) (W.pc 143 rfl ?_)
            refine lv_goto (tgt := 178) hx hb dX8_itemBy_143 (by decide) ?_
            subst hsp
            exact rRi hX rfl dX8_itemBy_178
      · have hsp := ip hsp c33
        refine lv_iload_n hx hb dX8_itemBy_121 rfl (lv_at hl 6 rfl) (W.pc 122 rfl ?_)
        refine lv_iload hx hb dX8_itemBy_122 (lv_at hl 3 rfl) (W.pc 124 rfl ?_)
        refine lv_icmp_ne (tgt := 131) hx hb dX8_itemBy_124 (by decide) (fun c48 => ?_) (fun c48 => W.pc 127 rfl ?_)
        · have hsp := iq hsp c48
          refine lv_iload_n hx hb dX8_itemBy_131 rfl (lv_at hl 7 rfl) (W.pc 132 rfl ?_)
          refine lv_iconst (v := (5 : Int32)) hx hb dX8_itemBy_132 (by decide) (W.pc 133 rfl ?_)
          refine lv_icmp_ne (tgt := 146) hx hb dX8_itemBy_133 (by decide) (fun c49 => ?_) (fun c49 => W.pc 136 rfl ?_)
          · have hsp := iq hsp c49
            refine lv_iload_n hx hb dX8_itemBy_146 rfl (lv_at hl 7 rfl) (W.pc 147 rfl ?_)
            refine lv_bipush (v := (6 : Int32)) hx hb dX8_itemBy_147 (by decide) (W.pc 149 rfl ?_)
            refine lv_icmp_ne (tgt := 162) hx hb dX8_itemBy_149 (by decide) (fun c50 => ?_) (fun c50 => W.pc 152 rfl ?_)
            · have hsp := iq hsp c50
              refine lv_iload_n hx hb dX8_itemBy_162 rfl (lv_at hl 7 rfl) (W.pc 163 rfl ?_)
              refine lv_iconst (v := (5 : Int32)) hx hb dX8_itemBy_163 (by decide) (W.pc 164 rfl ?_)
              refine lv_icmp_ne (tgt := 177) hx hb dX8_itemBy_164 (by decide) (fun c51 => ?_) (fun c51 => W.pc 167 rfl ?_)
              · have hsp := iq hsp c51
                refine lv_iconst (v := (0 : Int32)) hx hb dX8_itemBy_177 (by decide) (W.pc 178 rfl ?_)
                subst hsp
                exact rRi hX rfl dX8_itemBy_178
              · have hsp := ip hsp c51
                refine lv_iload_n hx hb dX8_itemBy_167 rfl (lv_at hl 6 rfl) (W.pc 168 rfl ?_)
                refine lv_iload hx hb dX8_itemBy_168 (lv_at hl 0 rfl) (W.pc 170 rfl ?_)
                refine lv_icmp_ne (tgt := 177) hx hb dX8_itemBy_170 (by decide) (fun c52 => ?_) (fun c52 => W.pc 173 rfl ?_)
                · have hsp := iq hsp c52
                  refine lv_iconst (v := (0 : Int32)) hx hb dX8_itemBy_177 (by decide) (W.pc 178 rfl ?_)
                  subst hsp
                  exact rRi hX rfl dX8_itemBy_178
                · have hsp := ip hsp c52
                  refine lv_iconst (v := (5 : Int32)) hx hb dX8_itemBy_173 (by decide) (W.pc 174 rfl ?_)
                  refine lv_goto (tgt := 178) hx hb dX8_itemBy_174 (by decide) ?_
                  subst hsp
                  exact rRi hX rfl dX8_itemBy_178
            · have hsp := ip hsp c50
              refine lv_iload_n hx hb dX8_itemBy_152 rfl (lv_at hl 6 rfl) (W.pc 153 rfl ?_)
              refine lv_iload hx hb dX8_itemBy_153 (lv_at hl 1 rfl) (W.pc 155 rfl ?_)
              refine lv_icmp_ne (tgt := 162) hx hb dX8_itemBy_155 (by decide) (fun c53 => ?_) (fun c53 => W.pc 158 rfl ?_)
              · have hsp := iq hsp c53
                refine lv_iload_n hx hb dX8_itemBy_162 rfl (lv_at hl 7 rfl) (W.pc 163 rfl ?_)
                refine lv_iconst (v := (5 : Int32)) hx hb dX8_itemBy_163 (by decide) (W.pc 164 rfl ?_)
                refine lv_icmp_ne (tgt := 177) hx hb dX8_itemBy_164 (by decide) (fun c54 => ?_) (fun c54 => W.pc 167 rfl ?_)
                · have hsp := iq hsp c54
                  refine lv_iconst (v := (0 : Int32)) hx hb dX8_itemBy_177 (by decide) (W.pc 178 rfl ?_)
                  subst hsp
                  exact rRi hX rfl dX8_itemBy_178
                · have hsp := ip hsp c54
                  refine lv_iload_n hx hb dX8_itemBy_167 rfl (lv_at hl 6 rfl) (W.pc 168 rfl ?_)
                  refine lv_iload hx hb dX8_itemBy_168 (lv_at hl 0 rfl) (W.pc 170 rfl ?_)
                  refine lv_icmp_ne (tgt := 177) hx hb dX8_itemBy_170 (by decide) (fun c55 => ?_) (fun c55 => W.pc 173 rfl ?_)
                  · have hsp := iq hsp c55
                    refine lv_iconst (v := (0 : Int32)) hx hb dX8_itemBy_177 (by decide) (W.pc 178 rfl ?_)
                    subst hsp
                    exact rRi hX rfl dX8_itemBy_178
                  · have hsp := ip hsp c55
                    refine lv_iconst (v := (5 : Int32)) hx hb dX8_itemBy_173 (by decide) (W.pc 174 rfl ?_)
                    refine lv_goto (tgt := 178) hx hb dX8_itemBy_174 (by decide) ?_
                    subst hsp
                    exact rRi hX rfl dX8_itemBy_178
              · have hsp := ip hsp c53
                refine lv_iconst (v := (4 : Int32)) hx hb dX8_itemBy_158 (by decide) (W.pc 159 rfl ?_)
                refine lv_goto (tgt := 178) hx hb dX8_itemBy_159 (by decide) ?_
                subst hsp
                exact rRi hX rfl dX8_itemBy_178
          · have hsp := ip hsp c49
            refine lv_iload_n hx hb dX8_itemBy_136 rfl (lv_at hl 6 rfl) (W.pc 137 rfl ?_)
            refine lv_iload hx hb dX8_itemBy_137 (lv_at hl 2 rfl) (W.pc 139 rfl ?_)
            refine lv_icmp_ne (tgt := 146) hx hb dX8_itemBy_139 (by decide) (fun c56 => ?_) (fun c56 => W.pc 142 rfl ?_)
            · have hsp := iq hsp c56
              refine lv_iload_n hx hb dX8_itemBy_146 rfl (lv_at hl 7 rfl) (W.pc 147 rfl ?_)
              refine lv_bipush (v := (6 : Int32)) hx hb dX8_itemBy_147 (by decide) (W.pc 149 rfl ?_)
              refine lv_icmp_ne (tgt := 162) hx hb dX8_itemBy_149 (by decide) (fun c57 => ?_) (fun c57 => W.pc 152 rfl ?_)
              · have hsp := iq hsp c57
                refine lv_iload_n hx hb dX8_itemBy_162 rfl (lv_at hl 7 rfl) (W.pc 163 rfl ?_)
                refine lv_iconst (v := (5 : Int32)) hx hb dX8_itemBy_163 (by decide) (W.pc 164 rfl ?_)
                refine lv_icmp_ne (tgt := 177) hx hb dX8_itemBy_164 (by decide) (fun c58 => ?_) (fun c58 => W.pc 167 rfl ?_)
                · have hsp := iq hsp c58
                  refine lv_iconst (v := (0 : Int32)) hx hb dX8_itemBy_177 (by decide) (W.pc 178 rfl ?_)
                  subst hsp
                  exact rRi hX rfl dX8_itemBy_178
                · have hsp := ip hsp c58
                  refine lv_iload_n hx hb dX8_itemBy_167 rfl (lv_at hl 6 rfl) (W.pc 168 rfl ?_)
                  refine lv_iload hx hb dX8_itemBy_168 (lv_at hl 0 rfl) (W.pc 170 rfl ?_)
                  refine lv_icmp_ne (tgt := 177) hx hb dX8_itemBy_170 (by decide) (fun c59 => ?_) (fun c59 => W.pc 173 rfl ?_)
                  · have hsp := iq hsp c59
                    refine lv_iconst (v := (0 : Int32)) hx hb dX8_itemBy_177 (by decide) (W.pc 178 rfl ?_)
                    subst hsp
                    exact rRi hX rfl dX8_itemBy_178
                  · have hsp := ip hsp c59
                    refine lv_iconst (v := (5 : Int32)) hx hb dX8_itemBy_173 (by decide) (W.pc 174 rfl ?_)
                    refine lv_goto (tgt := 178) hx hb dX8_itemBy_174 (by decide) ?_
                    subst hsp
                    exact rRi hX rfl dX8_itemBy_178
              · have hsp := ip hsp c57
                refine lv_iload_n hx hb dX8_itemBy_152 rfl (lv_at hl 6 rfl) (W.pc 153 rfl ?_)
                refine lv_iload hx hb dX8_itemBy_153 (lv_at hl 1 rfl) (W.pc 155 rfl ?_)
                refine lv_icmp_ne (tgt := 162) hx hb dX8_itemBy_155 (by decide) (fun c60 => ?_) (fun c60 => W.pc 158 rfl ?_)
                · have hsp := iq hsp c60
                  refine lv_iload_n hx hb dX8_itemBy_162 rfl (lv_at hl 7 rfl) (W.pc 163 rfl ?_)
                  refine lv_iconst (v := (5 : Int32)) hx hb dX8_itemBy_163 (by decide) (W.pc 164 rfl ?_)
                  refine lv_icmp_ne (tgt := 177) hx hb dX8_itemBy_164 (by decide) (fun c61 => ?_) (fun c61 => W.pc 167 rfl ?_)
                  · have hsp := iq hsp c61
                    refine lv_iconst (v := (0 : Int32)) hx hb dX8_itemBy_177 (by decide) (W.pc 178 rfl ?_)
                    subst hsp
                    exact rRi hX rfl dX8_itemBy_178
                  · have hsp := ip hsp c61
                    refine lv_iload_n hx hb dX8_itemBy_167 rfl (lv_at hl 6 rfl) (W.pc 168 rfl ?_)
                    refine lv_iload hx hb dX8_itemBy_168 (lv_at hl 0 rfl) (W.pc 170 rfl ?_)
                    refine lv_icmp_ne (tgt := 177) hx hb dX8_itemBy_170 (by decide) (fun c62 => ?_) (fun c62 => W.pc 173 rfl ?_)
                    · have hsp := iq hsp c62
                      refine lv_iconst (v := (0 : Int32)) hx hb dX8_itemBy_177 (by decide) (W.pc 178 rfl ?_)
                      subst hsp
                      exact rRi hX rfl dX8_itemBy_178
                    · have hsp := ip hsp c62
                      refine lv_iconst (v := (5 : Int32)) hx hb dX8_itemBy_173 (by decide) (W.pc 174 rfl ?_)
                      refine lv_goto (tgt := 178) hx hb dX8_itemBy_174 (by decide) ?_
                      subst hsp
                      exact rRi hX rfl dX8_itemBy_178
                · have hsp := ip hsp c60
                  refine lv_iconst (v := (4 : Int32)) hx hb dX8_itemBy_158 (by decide) (W.pc 159 rfl ?_)
                  refine lv_goto (tgt := 178) hx hb dX8_itemBy_159 (by decide) ?_
                  subst hsp
                  exact rRi hX rfl dX8_itemBy_178
            · have hsp := ip hsp c56
              refine lv_iconst (v := (3 : Int32)) hx hb dX8_itemBy_142 (by decide) (W.pc 143 rfl ?_)
              refine lv_goto (tgt := 178) hx hb dX8_itemBy_143 (by decide) ?_
              subst hsp
              exact rRi hX rfl dX8_itemBy_178
        · have hsp := ip hsp c48
          refine lv_iconst (v := (2 : Int32)) hx hb dX8_itemBy_127 (by decide) (W.pc 128 rfl ?_)
          refine lv_goto (tgt := 178) hx hb dX8_itemBy_128 (by decide) ?_
          subst hsp
          exact rRi hX rfl dX8_itemBy_178
    · have hsp := ip hsp c32
      refine lv_iconst (v := (1 : Int32)) hx hb dX8_itemBy_112 (by decide) (W.pc 113 rfl ?_)
      refine lv_goto (tgt := 178) hx hb dX8_itemBy_113 (by decide) ?_
      subst hsp
      exact rRi hX rfl dX8_itemBy_178
noncomputable def lp_X8_number_9 (a0_letters : Int32) (a0_isWell : Int32) (fa0_text : Nat → Int32) : Nat → Int32 → Int32 → Int32 → Option (Int32 × Int32 × Int32)
 | 0, _, _, _ => none
 | fu + 1, x3_9, x4_9, ya0_12_9 => Option.bind (sp_X8_look a0_letters ya0_12_9 fa0_text) fun z3 => if (sp_X8_in z3 (48 : Int32) (57 : Int32)) = 0 then (some (x3_9, x4_9, ya0_12_9)) else (if a0_isWell = 0 then (some (x3_9, x4_9, ya0_12_9)) else (Option.bind (if (2 : Int32) ≤ x4_9 then (some x3_9) else (Option.bind (sp_X8_look a0_letters ya0_12_9 fa0_text) fun z9 => some ((((10 : Int32) * x3_9) + z9) - (48 : Int32)))) fun z6 => lp_X8_number_9 a0_letters a0_isWell fa0_text fu z6 (x4_9 + (1 : Int32)) (ya0_12_9 + (1 : Int32))))
noncomputable def sp_X8_number (p1 : Int32) (p2 : Int32) (a0_letters : Int32) (a0_at : Int32) (a0_isWell : Int32) (a0_faultAt : Int32) (fa0_text : Nat → Int32) : Option (Int32 × Int32 × Int32 × Int32 × Int32) := Option.bind (sp_X8_skips a0_letters a0_at fa0_text) fun z1 => Option.bind (lp_X8_number_9 a0_letters a0_isWell fa0_text FU (0 : Int32) (0 : Int32) z1.1) fun z2 => lt_ (if z2.2.1 = 0 then (lt_ (sp_X8_fails z1.2 a0_isWell a0_faultAt) fun z13 => (z13.1, z13.2)) else (if (2 : Int32) < z2.2.1 then (lt_ (sp_X8_fails z1.2 a0_isWell a0_faultAt) fun z15 => (z15.1, z15.2)) else (if (sp_X8_in z2.1 p1 p2) = 0 then (lt_ (sp_X8_fails z1.2 a0_isWell a0_faultAt) fun z17 => (z17.1, z17.2)) else ((a0_isWell, a0_faultAt))))) fun z10 => some (z2.1, z2.2.2, z1.2, z10.1, z10.2)
set_option maxHeartbeats 4000000 in
set_option maxRecDepth 100000 in
theorem c_X8_number (l : Launch) (E : wE) (a0 a0_text a0_town a0_draft a0_tried a0_images a0_kept a0_refused a0_line a0_best : Nat) (p1 : Int32) (p2 : Int32) (a0_letters : Int32) (a0_above : Int64) (a0_below : Int64) (a0_at : Int32) (a0_start : Int32) (a0_isWell : Int32) (a0_faultAt : Int32) (fa0_text : Nat → Int32) (z_0 : Int32) (z_1 : Int32) (z_2 : Int32) (z_3 : Int32) (z_4 : Int32) (hsp : sp_X8_number p1 p2 a0_letters a0_at a0_isWell a0_faultAt fa0_text = some (z_0, z_1, z_2, z_3, z_4)) : MW l yX8_number cX8_number 5 (some .int) 2 E [.ref a0, .int p1, .int p2] [(a0, .inr (5, [.ref a0_text, .int a0_letters, .ref a0_town, .ref a0_draft, .ref a0_tried, .ref a0_images, .ref a0_kept, .ref a0_refused, .long a0_above, .long a0_below, .ref a0_line, .ref a0_best, .int a0_at, .int a0_start, .int a0_isWell, .int a0_faultAt])), (a0_text, aI E 150 fa0_text)] (some (.int z_0)) [(a0, .inr (5, [.ref a0_text, .int a0_letters, .ref a0_town, .ref a0_draft, .ref a0_tried, .ref a0_images, .ref a0_kept, .ref a0_refused, .long a0_above, .long a0_below, .ref a0_line, .ref a0_best, .int z_1, .int z_2, .int z_3, .int z_4])), (a0_text, aI E 150 fa0_text)] := by
  refine MW.of (by decide +kernel) (Nat.le_of_ble_eq_true rfl) ?_
  intro p e s m below meth c ls A hX hK hP hD hS hA hl
  have hX : CX p s m [.ref a0, .int p1, .int p2].toArray meth c cX8_number 5 (some .int) RX8 := hX
  have hx := hX.1; have hb := hX.2.1; have hts := hX.2.2.2.2.1; have hown := hX.2.2.2.2.2.1
  have hl : lv_has ls 5 [(0, .ref a0), (1, .int p1), (2, .int p2)] := hl
  have hP : wP E [(a0, .inr (5, [.ref a0_text, .int a0_letters, .ref a0_town, .ref a0_draft, .ref a0_tried, .ref a0_images, .ref a0_kept, .ref a0_refused, .long a0_above, .long a0_below, .ref a0_line, .ref a0_best, .int a0_at, .int a0_start, .int a0_isWell, .int a0_faultAt])), (a0_text, aI E 150 fa0_text)] s.heap := hP
  have hsp : (Option.bind (sp_X8_skips a0_letters a0_at fa0_text) fun z1 => Option.bind (lp_X8_number_9 a0_letters a0_isWell fa0_text FU (0 : Int32) (0 : Int32) z1.1) fun z2 => lt_ (if z2.2.1 = 0 then (lt_ (sp_X8_fails z1.2 a0_isWell a0_faultAt) fun z13 => (z13.1, z13.2)) else (if (2 : Int32) < z2.2.1 then (lt_ (sp_X8_fails z1.2 a0_isWell a0_faultAt) fun z15 => (z15.1, z15.2)) else (if (sp_X8_in z2.1 p1 p2) = 0 then (lt_ (sp_X8_fails z1.2 a0_isWell a0_faultAt) fun z17 => (z17.1, z17.2)) else ((a0_isWell, a0_faultAt))))) fun z10 => some (z2.1, z2.2.2, z1.2, z10.1, z10.2)) = some (z_0, z_1, z_2, z_3, z_4) := hsp
  refine lv_aload_n hx hb dX8_number_0 rfl (lv_at hl 0 rfl) (W.pc 1 rfl ?_)
  obtain ⟨z1, hr_z1, hsp⟩ := bd_s hsp
  refine kVW (st1 := []) (ws' := [(a0, .inr (5, [.ref a0_text, .int a0_letters, .ref a0_town, .ref a0_draft, .ref a0_tried, .ref a0_images, .ref a0_kept, .ref a0_refused, .long a0_above, .long a0_below, .ref a0_line, .ref a0_best, .int z1.1, .int z1.2, .int a0_isWell, .int a0_faultAt])), (a0_text, aI E 150 fa0_text)]) [0, 1] hX (c_X8_skips l E a0 a0_text a0_town a0_draft a0_tried a0_images a0_kept a0_refused a0_line a0_best a0_letters a0_above a0_below a0_at a0_start a0_isWell a0_faultAt fa0_text z1.1 z1.2 hr_z1) B_X8_skips w_4_180 hK hP hD hS hA (by decide) rfl rfl rfl (q0 := 0) (ci := 5) rfl rfl rfl rfl hl.1 rfl (Nat.le_of_ble_eq_true rfl) ⟨Nat.le_of_ble_eq_true rfl, Nat.le_of_ble_eq_true rfl⟩ dX8_number_1 rfl (fun H locs hP hD hS => W.pc 4 rfl ?_)
  refine lv_iconst (v := (0 : Int32)) hx hb dX8_number_4 (by decide) (W.pc 5 rfl ?_)
  refine lv_istore_n (lv' := [(3, .int (0 : Int32)), (0, .ref a0), (1, .int p1), (2, .int p2)]) hx hb dX8_number_5 rfl hl (by decide) rfl (fun ls hl => W.pc 6 rfl ?_)
  refine lv_iconst (v := (0 : Int32)) hx hb dX8_number_6 (by decide) (W.pc 7 rfl ?_)
  refine lv_istore (lv' := [(4, .int (0 : Int32)), (3, .int (0 : Int32)), (0, .ref a0), (1, .int p1), (2, .int p2)]) hx hb dX8_number_7 hl (by decide) rfl (fun ls hl => W.pc 9 rfl ?_)
  have L_9 : ∀ (z2 : Int32 × Int32 × Int32), (∀ (H : Heap) (locs : List Loc) (ls : Array Slot), wP E [(a0, .inr (5, [.ref a0_text, .int a0_letters, .ref a0_town, .ref a0_draft, .ref a0_tried, .ref a0_images, .ref a0_kept, .ref a0_refused, .long a0_above, .long a0_below, .ref a0_line, .ref a0_best, .int z2.2.2, .int z1.2, .int a0_isWell, .int a0_faultAt])), (a0_text, aI E 150 fa0_text)] H → va_D A [(a0, .inr (5, [.ref a0_text, .int a0_letters, .ref a0_town, .ref a0_draft, .ref a0_tried, .ref a0_images, .ref a0_kept, .ref a0_refused, .long a0_above, .long a0_below, .ref a0_line, .ref a0_best, .int z2.2.2, .int z1.2, .int a0_isWell, .int a0_faultAt])), (a0_text, aI E 150 fa0_text)] → va_S A s.heap H locs → lv_has ls 5 [(0, .ref a0), (1, .int p1), (2, .int p2), (3, .int z2.1), (4, .int z2.2.1)] → W p l e (wR 2) s m [.ref a0, .int p1, .int p2].toArray below meth c H locs 0 0 (MQ below (QWd E A (some (.int z_0)) [(a0, .inr (5, [.ref a0_text, .int a0_letters, .ref a0_town, .ref a0_draft, .ref a0_tried, .ref a0_images, .ref a0_kept, .ref a0_refused, .long a0_above, .long a0_below, .ref a0_line, .ref a0_best, .int z_1, .int z_2, .int z_3, .int z_4])), (a0_text, aI E 150 fa0_text)]) [.ref a0, .int p1, .int p2].toArray s 0 0 A) (F0 m 69 ls [])) → ∀ (fu : Nat) (x3_9 : Int32) (x4_9 : Int32) (ya0_12_9 : Int32), ∀ (H : Heap) (locs : List Loc) (ls : Array Slot), wP E [(a0, .inr (5, [.ref a0_text, .int a0_letters, .ref a0_town, .ref a0_draft, .ref a0_tried, .ref a0_images, .ref a0_kept, .ref a0_refused, .long a0_above, .long a0_below, .ref a0_line, .ref a0_best, .int ya0_12_9, .int z1.2, .int a0_isWell, .int a0_faultAt])), (a0_text, aI E 150 fa0_text)] H → va_D A [(a0, .inr (5, [.ref a0_text, .int a0_letters, .ref a0_town, .ref a0_draft, .ref a0_tried, .ref a0_images, .ref a0_kept, .ref a0_refused, .long a0_above, .long a0_below, .ref a0_line, .ref a0_best, .int ya0_12_9, .int z1.2, .int a0_isWell, .int a0_faultAt])), (a0_text, aI E 150 fa0_text)] → va_S A s.heap H locs → lv_has ls 5 [(0, .ref a0), (1, .int p1), (2, .int p2), (3, .int x3_9), (4, .int x4_9)] → lp_X8_number_9 a0_letters a0_isWell fa0_text fu x3_9 x4_9 ya0_12_9 = some z2 → W p l e (wR 2) s m [.ref a0, .int p1, .int p2].toArray below meth c H locs 0 0 (MQ below (QWd E A (some (.int z_0)) [(a0, .inr (5, [.ref a0_text, .int a0_letters, .ref a0_town, .ref a0_draft, .ref a0_tried, .ref a0_images, .ref a0_kept, .ref a0_refused, .long a0_above, .long a0_below, .ref a0_line, .ref a0_best, .int z_1, .int z_2, .int z_3, .int z_4])), (a0_text, aI E 150 fa0_text)]) [.ref a0, .int p1, .int p2].toArray s 0 0 A) (F0 m 9 ls []) := by
    intro z2 hk_9 fu
    induction fu with
    | zero => intro x3_9 x4_9 ya0_12_9 H locs ls hP hD hS hl hsp; exact absurd (show none = some _ from hsp) (by simp)
    | succ fu ih_9 =>
      intro x3_9 x4_9 ya0_12_9 H locs ls hP hD hS hl hsp
      have hsp : (Option.bind (sp_X8_look a0_letters ya0_12_9 fa0_text) fun z3 => if (sp_X8_in z3 (48 : Int32) (57 : Int32)) = 0 then (some (x3_9, x4_9, ya0_12_9)) else (if a0_isWell = 0 then (some (x3_9, x4_9, ya0_12_9)) else (Option.bind (if (2 : Int32) ≤ x4_9 then (some x3_9) else (Option.bind (sp_X8_look a0_letters ya0_12_9 fa0_text) fun z9 => some ((((10 : Int32) * x3_9) + z9) - (48 : Int32)))) fun z6 => lp_X8_number_9 a0_letters a0_isWell fa0_text fu z6 (x4_9 + (1 : Int32)) (ya0_12_9 + (1 : Int32))))) = some z2 := hsp
      refine lv_aload_n hx hb dX8_number_9 rfl (lv_at hl 0 rfl) (W.pc 10 rfl ?_)
      obtain ⟨z3, hr_z3, hsp⟩ := bd_s hsp
      refine kVR (st1 := [.int z3]) hX (c_X8_look l E a0 a0_text a0_town a0_draft a0_tried a0_images a0_kept a0_refused a0_line a0_best a0_letters a0_above a0_below ya0_12_9 z1.2 a0_isWell a0_faultAt fa0_text z3 hr_z3) B_X8_look w_4_184 hK (hP.pick [0, 1] rfl) (q0 := 0) (ci := 5) rfl rfl rfl rfl hl.1 rfl (Nat.le_of_ble_eq_true rfl) ⟨Nat.le_of_ble_eq_true rfl, Nat.le_of_ble_eq_true rfl⟩ dX8_number_10 rfl (W.pc 13 rfl ?_)
      refine lv_bipush (v := (48 : Int32)) hx hb dX8_number_13 (by decide) (W.pc 15 rfl ?_)
      refine lv_bipush (v := (57 : Int32)) hx hb dX8_number_15 (by decide) (W.pc 17 rfl ?_)
      refine kSR (st1 := [.int (sp_X8_in z3 (48 : Int32) (57 : Int32))]) hX (c_X8_in l E z3 (48 : Int32) (57 : Int32) _ rfl) B_X8_in w_4_125 hK (hP.pick [] rfl) rfl hl.1 rfl (Nat.le_of_ble_eq_true rfl) ⟨Nat.le_of_ble_eq_true rfl, Nat.le_of_ble_eq_true rfl⟩ dX8_number_17 rfl (W.pc 20 rfl ?_)
      refine lv_if_eq (tgt := 69) hx hb dX8_number_20 (by decide) (fun c4 => ?_) (fun c4 => W.pc 23 rfl ?_)
      · have hsp := ip hsp c4
        obtain rfl := Option.some.inj hsp
        exact hk_9 _ _ _ hP hD hS (lv_sub hl [0, 1, 2, 3, 4] rfl)
      · have hsp := iq hsp c4
        refine lv_aload_n hx hb dX8_number_23 rfl (lv_at hl 0 rfl) (W.pc 24 rfl ?_)
        refine va_get (D := E.1) (ci := 5) (v := .int a0_isWell) (C := RX8) (T := TX8) (N := 16) hx hb hts inT_X8 hown hK hP 0 rfl rfl 14 (by decide) (hts _ w_4_82) (fun _ h9 => h9) rfl dX8_number_24 (W.pc 27 rfl ?_)
        refine lv_if_eq (tgt := 69) hx hb dX8_number_27 (by decide) (fun c5 => ?_) (fun c5 => W.pc 30 rfl ?_)
        · have hsp := ip hsp c5
          obtain rfl := Option.some.inj hsp
          exact hk_9 _ _ _ hP hD hS (lv_sub hl [0, 1, 2, 3, 4] rfl)
        · have hsp := iq hsp c5
          refine lv_iload hx hb dX8_number_30 (lv_at hl 4 rfl) (W.pc 32 rfl ?_)
          refine lv_iconst (v := (2 : Int32)) hx hb dX8_number_32 (by decide) (W.pc 33 rfl ?_)
          obtain ⟨z6, hr_z6, hsp⟩ := bd_s hsp
          have J7 : ∀ (H : Heap) (locs : List Loc) (ls : Array Slot), wP E [(a0, .inr (5, [.ref a0_text, .int a0_letters, .ref a0_town, .ref a0_draft, .ref a0_tried, .ref a0_images, .ref a0_kept, .ref a0_refused, .long a0_above, .long a0_below, .ref a0_line, .ref a0_best, .int ya0_12_9, .int z1.2, .int a0_isWell, .int a0_faultAt])), (a0_text, aI E 150 fa0_text)] H → va_D A [(a0, .inr (5, [.ref a0_text, .int a0_letters, .ref a0_town, .ref a0_draft, .ref a0_tried, .ref a0_images, .ref a0_kept, .ref a0_refused, .long a0_above, .long a0_below, .ref a0_line, .ref a0_best, .int ya0_12_9, .int z1.2, .int a0_isWell, .int a0_faultAt])), (a0_text, aI E 150 fa0_text)] → va_S A s.heap H locs → lv_has ls 5 [(0, .ref a0), (1, .int p1), (2, .int p2), (4, .int x4_9)] → W p l e (wR 2) s m [.ref a0, .int p1, .int p2].toArray below meth c H locs 0 0 (MQ below (QWd E A (some (.int z_0)) [(a0, .inr (5, [.ref a0_text, .int a0_letters, .ref a0_town, .ref a0_draft, .ref a0_tried, .ref a0_images, .ref a0_kept, .ref a0_refused, .long a0_above, .long a0_below, .ref a0_line, .ref a0_best, .int z_1, .int z_2, .int z_3, .int z_4])), (a0_text, aI E 150 fa0_text)]) [.ref a0, .int p1, .int p2].toArray s 0 0 A) (F0 m 52 ls [.int z6]) := by
            intro H locs ls hP hD hS hl
            refine lv_istore_n (lv' := [(3, .int z6), (0, .ref a0), (1, .int p1), (2, .int p2), (4, .int x4_9)]) hx hb dX8_number_52 rfl hl (by decide) rfl (fun ls hl => W.pc 53 rfl ?_)
            refine lv_aload_n hx hb dX8_number_53 rfl (lv_at hl 1 rfl) (W.pc 54 rfl ?_)
            refine lv_dup hx hb dX8_number_54 rfl (W.pc 55 rfl ?_)
            refine va_get (D := E.1) (ci := 5) (v := .int ya0_12_9) (C := RX8) (T := TX8) (N := 16) hx hb hts inT_X8 hown hK hP 0 rfl rfl 12 (by decide) (hts _ w_4_80) (fun _ h9 => h9) rfl dX8_number_55 (W.pc 58 rfl ?_)
            refine lv_iconst (v := (1 : Int32)) hx hb dX8_number_58 (by decide) (W.pc 59 rfl ?_)
            refine lv_iadd hx hb dX8_number_59 (W.pc 60 rfl ?_)
            refine va_put (D := E.1) (ci := 5) (v := .int (ya0_12_9 + (1 : Int32))) (ty := .int) (C := RX8) (T := TX8) (N := 16) hx hb hts inT_X8 tyX8 tyX8_ok nmX8 hown hK hP hD hS 0 rfl rfl 12 (by decide) (hts _ w_4_80) (fun _ h9 => h9) rfl (by decide +kernel) rfl rfl (Nat.le_of_ble_eq_true rfl) dX8_number_60 (fun H locs hP hD hS => W.pc 63 rfl ?_)
            have hP : wP E [(a0, .inr (5, [.ref a0_text, .int a0_letters, .ref a0_town, .ref a0_draft, .ref a0_tried, .ref a0_images, .ref a0_kept, .ref a0_refused, .long a0_above, .long a0_below, .ref a0_line, .ref a0_best, .int (ya0_12_9 + (1 : Int32)), .int z1.2, .int a0_isWell, .int a0_faultAt])), (a0_text, aI E 150 fa0_text)] _ := hP
            have hD : va_D A [(a0, .inr (5, [.ref a0_text, .int a0_letters, .ref a0_town, .ref a0_draft, .ref a0_tried, .ref a0_images, .ref a0_kept, .ref a0_refused, .long a0_above, .long a0_below, .ref a0_line, .ref a0_best, .int (ya0_12_9 + (1 : Int32)), .int z1.2, .int a0_isWell, .int a0_faultAt])), (a0_text, aI E 150 fa0_text)] := hD
            refine lv_iinc (v := (x4_9 + (1 : Int32))) (lv' := [(4, .int (x4_9 + (1 : Int32))), (3, .int z6), (0, .ref a0), (1, .int p1), (2, .int p2)]) hx hb dX8_number_63 hl (k := 4) rfl rfl (by decide) rfl (fun ls hl => W.pc 66 rfl ?_)
            refine lv_goto (tgt := 9) hx hb dX8_number_66 (by decide) ?_
            exact ih_9 z6 (x4_9 + (1 : Int32)) (ya0_12_9 + (1 : Int32)) _ _ _ hP hD hS (lv_sub hl [2, 3, 4, 1, 0] rfl) hsp
          replace hsp := hr_z6
          refine lv_icmp_ge (tgt := 51) hx hb dX8_number_33 (by decide) (fun c8 => ?_) (fun c8 => W.pc 36 rfl ?_)
          · have hsp := ip hsp c8
            refine lv_iload_n hx hb dX8_number_51 rfl (lv_at hl 3 rfl) (W.pc 52 rfl ?_)
            obtain rfl := Option.some.inj hsp
            exact J7 _ _ _ hP hD hS (lv_sub hl [0, 1, 2, 4] rfl)
          · have hsp := iq hsp c8
            refine lv_bipush (v := (10 : Int32)) hx hb dX8_number_36 (by decide) (W.pc 38 rfl ?_)
            refine lv_iload_n hx hb dX8_number_38 rfl (lv_at hl 3 rfl) (W.pc 39 rfl ?_)
            refine lv_imul hx hb dX8_number_39 (W.pc 40 rfl ?_)
            refine lv_aload_n hx hb dX8_number_40 rfl (lv_at hl 0 rfl) (W.pc 41 rfl ?_)
            obtain ⟨z9, hr_z9, hsp⟩ := bd_s hsp
            refine kVR (st1 := [.int z9, .int ((10 : Int32) * x3_9)]) hX (c_X8_look l E a0 a0_text a0_town a0_draft a0_tried a0_images a0_kept a0_refused a0_line a0_best a0_letters a0_above a0_below ya0_12_9 z1.2 a0_isWell a0_faultAt fa0_text z9 hr_z9) B_X8_look w_4_184 hK (hP.pick [0, 1] rfl) (q0 := 0) (ci := 5) rfl rfl rfl rfl hl.1 rfl (Nat.le_of_ble_eq_true rfl) ⟨Nat.le_of_ble_eq_true rfl, Nat.le_of_ble_eq_true rfl⟩ dX8_number_41 rfl (W.pc 44 rfl ?_)
            refine lv_iadd hx hb dX8_number_44 (W.pc 45 rfl ?_)
            refine lv_bipush (v := (48 : Int32)) hx hb dX8_number_45 (by decide) (W.pc 47 rfl ?_)
            refine lv_isub hx hb dX8_number_47 (W.pc 48 rfl ?_)
            refine lv_goto (tgt := 52) hx hb dX8_number_48 (by decide) ?_
            obtain rfl := Option.some.inj hsp
            exact J7 _ _ _ hP hD hS (lv_sub hl [0, 1, 2, 4] rfl)
  obtain ⟨z2, hr_z2, hsp⟩ := bd_s hsp
  refine L_9 z2 (fun H locs ls hP hD hS hl => ?_) FU (0 : Int32) (0 : Int32) z1.1 _ _ _ hP hD hS (lv_sub hl [2, 3, 4, 1, 0] rfl) hr_z2
  refine lv_iload hx hb dX8_number_69 (lv_at hl 4 rfl) (W.pc 71 rfl ?_)
  obtain ⟨z10, hr_z10, hsp⟩ := ltb_s hsp
  have J11 : ∀ (H : Heap) (locs : List Loc) (ls : Array Slot), wP E [(a0, .inr (5, [.ref a0_text, .int a0_letters, .ref a0_town, .ref a0_draft, .ref a0_tried, .ref a0_images, .ref a0_kept, .ref a0_refused, .long a0_above, .long a0_below, .ref a0_line, .ref a0_best, .int z2.2.2, .int z1.2, .int z10.1, .int z10.2])), (a0_text, aI E 150 fa0_text)] H → va_D A [(a0, .inr (5, [.ref a0_text, .int a0_letters, .ref a0_town, .ref a0_draft, .ref a0_tried, .ref a0_images, .ref a0_kept, .ref a0_refused, .long a0_above, .long a0_below, .ref a0_line, .ref a0_best, .int z2.2.2, .int z1.2, .int z10.1, .int z10.2])), (a0_text, aI E 150 fa0_text)] → va_S A s.heap H locs → lv_has ls 5 [(3, .int z2.1)] → W p l e (wR 2) s m [.ref a0, .int p1, .int p2].toArray below meth c H locs 0 0 (MQ below (QWd E A (some (.int z_0)) [(a0, .inr (5, [.ref a0_text, .int a0_letters, .ref a0_town, .ref a0_draft, .ref a0_tried, .ref a0_images, .ref a0_kept, .ref a0_refused, .long a0_above, .long a0_below, .ref a0_line, .ref a0_best, .int z_1, .int z_2, .int z_3, .int z_4])), (a0_text, aI E 150 fa0_text)]) [.ref a0, .int p1, .int p2].toArray s 0 0 A) (F0 m 97 ls []) := by
    intro H locs ls hP hD hS hl
    refine lv_iload_n hx hb dX8_number_97 rfl (lv_at hl 0 rfl) (W.pc 98 rfl ?_)
    cases hsp
    exact rWi hX hP hS rfl rfl dX8_number_98
  replace hsp := hr_z10
  refine lv_if_eq (tgt := 89) hx hb dX8_number_71 (by decide) (fun c12 => ?_) (fun c12 => W.pc 74 rfl ?_)
  · have hsp := ip hsp c12
    refine lv_aload_n hx hb dX8_number_89 rfl (lv_at hl 0 rfl) (W.pc 90 rfl ?_)
    refine lv_aload_n hx hb dX8_number_90 rfl (lv_at hl 0 rfl) (W.pc 91 rfl ?_)
    refine va_get (D := E.1) (ci := 5) (v := .int z1.2) (C := RX8) (T := TX8) (N := 16) hx hb hts inT_X8 hown hK hP 0 rfl rfl 13 (by decide) (hts _ w_4_81) (fun _ h9 => h9) rfl dX8_number_91 (W.pc 94 rfl ?_)
    obtain ⟨z13, hr_z13, hsp⟩ := ltb_s hsp
    refine kVW (st1 := []) (ws' := [(a0, .inr (5, [.ref a0_text, .int a0_letters, .ref a0_town, .ref a0_draft, .ref a0_tried, .ref a0_images, .ref a0_kept, .ref a0_refused, .long a0_above, .long a0_below, .ref a0_line, .ref a0_best, .int z2.2.2, .int z1.2, .int z13.1, .int z13.2])), (a0_text, aI E 150 fa0_text)]) [0] hX (c_X8_fails l E a0 a0_text a0_town a0_draft a0_tried a0_images a0_kept a0_refused a0_line a0_best z1.2 a0_letters a0_above a0_below z2.2.2 z1.2 a0_isWell a0_faultAt z13.1 z13.2 hr_z13) B_X8_fails w_4_195 hK hP hD hS hA (by decide) rfl rfl rfl (q0 := 0) (ci := 5) rfl rfl rfl rfl hl.1 rfl (Nat.le_of_ble_eq_true rfl) ⟨Nat.le_of_ble_eq_true rfl, Nat.le_of_ble_eq_true rfl⟩ dX8_number_94 rfl (fun H locs hP hD hS => W.pc 97 rfl ?_)
    subst hsp
    exact J11 _ _ _ hP hD hS (lv_sub hl [3] rfl)
  · have hsp := iq hsp c12
    refine lv_iload hx hb dX8_number_74 (lv_at hl 4 rfl) (W.pc 76 rfl ?_)
    refine lv_iconst (v := (2 : Int32)) hx hb dX8_number_76 (by decide) (W.pc 77 rfl ?_)
    refine lv_icmp_gt (tgt := 89) hx hb dX8_number_77 (by decide) (fun c14 => ?_) (fun c14 => W.pc 80 rfl ?_)
    · have hsp := ip hsp c14
      refine lv_aload_n hx hb dX8_number_89 rfl (lv_at hl 0 rfl) (W.pc 90 rfl ?_)
      refine lv_aload_n hx hb dX8_number_90 rfl (lv_at hl 0 rfl) (W.pc 91 rfl ?_)
      refine va_get (D := E.1) (ci := 5) (v := .int z1.2) (C := RX8) (T := TX8) (N := 16) hx hb hts inT_X8 hown hK hP 0 rfl rfl 13 (by decide) (hts _ w_4_81) (fun _ h9 => h9) rfl dX8_number_91 (W.pc 94 rfl ?_)
      obtain ⟨z15, hr_z15, hsp⟩ := ltb_s hsp
      refine kVW (st1 := []) (ws' := [(a0, .inr (5, [.ref a0_text, .int a0_letters, .ref a0_town, .ref a0_draft, .ref a0_tried, .ref a0_images, .ref a0_kept, .ref a0_refused, .long a0_above, .long a0_below, .ref a0_line, .ref a0_best, .int z2.2.2, .int z1.2, .int z15.1, .int z15.2])), (a0_text, aI E 150 fa0_text)]) [0] hX (c_X8_fails l E a0 a0_text a0_town a0_draft a0_tried a0_images a0_kept a0_refused a0_line a0_best z1.2 a0_letters a0_above a0_below z2.2.2 z1.2 a0_isWell a0_faultAt z15.1 z15.2 hr_z15) B_X8_fails w_4_195 hK hP hD hS hA (by decide) rfl rfl rfl (q0 := 0) (ci := 5) rfl rfl rfl rfl hl.1 rfl (Nat.le_of_ble_eq_true rfl) ⟨Nat.le_of_ble_eq_true rfl, Nat.le_of_ble_eq_true rfl⟩ dX8_number_94 rfl (fun H locs hP hD hS => W.pc 97 rfl ?_)
      subst hsp
      exact J11 _ _ _ hP hD hS (lv_sub hl [3] rfl)
    · have hsp := iq hsp c14
      refine lv_iload_n hx hb dX8_number_80 rfl (lv_at hl 3 rfl) (W.pc 81 rfl ?_)
      refine lv_iload_n hx hb dX8_number_81 rfl (lv_at hl 1 rfl) (W.pc 82 rfl ?_)
      refine lv_iload_n hx hb dX8_number_82 rfl (lv_at hl 2 rfl) (W.pc 83 rfl ?_)
      refine kSR (st1 := [.int (sp_X8_in z2.1 p1 p2)]) hX (c_X8_in l E z2.1 p1 p2 _ rfl) B_X8_in w_4_125 hK (hP.pick [] rfl) rfl hl.1 rfl (Nat.le_of_ble_eq_true rfl) ⟨Nat.le_of_ble_eq_true rfl, Nat.le_of_ble_eq_true rfl⟩ dX8_number_83 rfl (W.pc 86 rfl ?_)
      refine lv_if_ne (tgt := 97) hx hb dX8_number_86 (by decide) (fun c16 => ?_) (fun c16 => W.pc 89 rfl ?_)
      · have hsp := iq hsp c16
        subst hsp
        exact J11 _ _ _ hP hD hS (lv_sub hl [3] rfl)
      · have hsp := ip hsp c16
        refine lv_aload_n hx hb dX8_number_89 rfl (lv_at hl 0 rfl) (W.pc 90 rfl ?_)
        refine lv_aload_n hx hb dX8_number_90 rfl (lv_at hl 0 rfl) (W.pc 91 rfl ?_)
        refine va_get (D := E.1) (ci := 5) (v := .int z1.2) (C := RX8) (T := TX8) (N := 16) hx hb hts inT_X8 hown hK hP 0 rfl rfl 13 (by decide) (hts _ w_4_81) (fun _ h9 => h9) rfl dX8_number_91 (W.pc 94 rfl ?_)
        obtain ⟨z17, hr_z17, hsp⟩ := ltb_s hsp
        refine kVW (st1 := []) (ws' := [(a0, .inr (5, [.ref a0_text, .int a0_letters, .ref a0_town, .ref a0_draft, .ref a0_tried, .ref a0_images, .ref a0_kept, .ref a0_refused, .long a0_above, .long a0_below, .ref a0_line, .ref a0_best, .int z2.2.2, .int z1.2, .int z17.1, .int z17.2])), (a0_text, aI E 150 fa0_text)]) [0] hX (c_X8_fails l E a0 a0_text a0_town a0_draft a0_tried a0_images a0_kept a0_refused a0_line a0_best z1.2 a0_letters a0_above a0_below z2.2.2 z1.2 a0_isWell a0_faultAt z17.1 z17.2 hr_z17) B_X8_fails w_4_195 hK hP hD hS hA (by decide) rfl rfl rfl (q0 := 0) (ci := 5) rfl rfl rfl rfl hl.1 rfl (Nat.le_of_ble_eq_true rfl) ⟨Nat.le_of_ble_eq_true rfl, Nat.le_of_ble_eq_true rfl⟩ dX8_number_94 rfl (fun H locs hP hD hS => W.pc 97 rfl ?_)
        subst hsp
        exact J11 _ _ _ hP hD hS (lv_sub hl [3] rfl)
noncomputable def sp_X8_ends (a0_letters : Int32) (a0_at : Int32) (a0_isWell : Int32) (a0_faultAt : Int32) (fa0_text : Nat → Int32) : Option (Int32 × Int32 × Int32 × Int32) := Option.bind (sp_X8_skips a0_letters a0_at fa0_text) fun z1 => Option.bind (sp_X8_look a0_letters z1.1 fa0_text) fun z2 => lt_ (if z2 = (59 : Int32) then ((a0_isWell, a0_faultAt)) else (lt_ (sp_X8_fails z1.2 a0_isWell a0_faultAt) fun z6 => (z6.1, z6.2))) fun z3 => lt_ (if z3.1 = 0 then ((0 : Int32)) else ((1 : Int32))) fun z7 => some ((z1.1 + z7), z1.2, z3.1, z3.2)
set_option maxHeartbeats 4000000 in
set_option maxRecDepth 100000 in
theorem c_X8_ends (l : Launch) (E : wE) (a0 a0_text a0_town a0_draft a0_tried a0_images a0_kept a0_refused a0_line a0_best : Nat) (a0_letters : Int32) (a0_above : Int64) (a0_below : Int64) (a0_at : Int32) (a0_start : Int32) (a0_isWell : Int32) (a0_faultAt : Int32) (fa0_text : Nat → Int32) (z_0 : Int32) (z_1 : Int32) (z_2 : Int32) (z_3 : Int32) (hsp : sp_X8_ends a0_letters a0_at a0_isWell a0_faultAt fa0_text = some (z_0, z_1, z_2, z_3)) : MW l yX8_ends cX8_ends 1 none 2 E [.ref a0] [(a0, .inr (5, [.ref a0_text, .int a0_letters, .ref a0_town, .ref a0_draft, .ref a0_tried, .ref a0_images, .ref a0_kept, .ref a0_refused, .long a0_above, .long a0_below, .ref a0_line, .ref a0_best, .int a0_at, .int a0_start, .int a0_isWell, .int a0_faultAt])), (a0_text, aI E 150 fa0_text)] none [(a0, .inr (5, [.ref a0_text, .int a0_letters, .ref a0_town, .ref a0_draft, .ref a0_tried, .ref a0_images, .ref a0_kept, .ref a0_refused, .long a0_above, .long a0_below, .ref a0_line, .ref a0_best, .int z_0, .int z_1, .int z_2, .int z_3])), (a0_text, aI E 150 fa0_text)] := by
  refine MW.of (by decide +kernel) (Nat.le_of_ble_eq_true rfl) ?_
  intro p e s m below meth c ls A hX hK hP hD hS hA hl
  have hX : CX p s m [.ref a0].toArray meth c cX8_ends 1 none RX8 := hX
  have hx := hX.1; have hb := hX.2.1; have hts := hX.2.2.2.2.1; have hown := hX.2.2.2.2.2.1
  have hl : lv_has ls 1 [(0, .ref a0)] := hl
  have hP : wP E [(a0, .inr (5, [.ref a0_text, .int a0_letters, .ref a0_town, .ref a0_draft, .ref a0_tried, .ref a0_images, .ref a0_kept, .ref a0_refused, .long a0_above, .long a0_below, .ref a0_line, .ref a0_best, .int a0_at, .int a0_start, .int a0_isWell, .int a0_faultAt])), (a0_text, aI E 150 fa0_text)] s.heap := hP
  have hsp : (Option.bind (sp_X8_skips a0_letters a0_at fa0_text) fun z1 => Option.bind (sp_X8_look a0_letters z1.1 fa0_text) fun z2 => lt_ (if z2 = (59 : Int32) then ((a0_isWell, a0_faultAt)) else (lt_ (sp_X8_fails z1.2 a0_isWell a0_faultAt) fun z6 => (z6.1, z6.2))) fun z3 => lt_ (if z3.1 = 0 then ((0 : Int32)) else ((1 : Int32))) fun z7 => some ((z1.1 + z7), z1.2, z3.1, z3.2)) = some (z_0, z_1, z_2, z_3) := hsp
  refine lv_aload_n hx hb dX8_ends_0 rfl (lv_at hl 0 rfl) (W.pc 1 rfl ?_)
  obtain ⟨z1, hr_z1, hsp⟩ := bd_s hsp
  refine kVW (st1 := []) (ws' := [(a0, .inr (5, [.ref a0_text, .int a0_letters, .ref a0_town, .ref a0_draft, .ref a0_tried, .ref a0_images, .ref a0_kept, .ref a0_refused, .long a0_above, .long a0_below, .ref a0_line, .ref a0_best, .int z1.1, .int z1.2, .int a0_isWell, .int a0_faultAt])), (a0_text, aI E 150 fa0_text)]) [0, 1] hX (c_X8_skips l E a0 a0_text a0_town a0_draft a0_tried a0_images a0_kept a0_refused a0_line a0_best a0_letters a0_above a0_below a0_at a0_start a0_isWell a0_faultAt fa0_text z1.1 z1.2 hr_z1) B_X8_skips w_4_180 hK hP hD hS hA (by decide) rfl rfl rfl (q0 := 0) (ci := 5) rfl rfl rfl rfl hl.1 rfl (Nat.le_of_ble_eq_true rfl) ⟨Nat.le_of_ble_eq_true rfl, Nat.le_of_ble_eq_true rfl⟩ dX8_ends_1 rfl (fun H locs hP hD hS => W.pc 4 rfl ?_)
  refine lv_aload_n hx hb dX8_ends_4 rfl (lv_at hl 0 rfl) (W.pc 5 rfl ?_)
  obtain ⟨z2, hr_z2, hsp⟩ := bd_s hsp
  refine kVR (st1 := [.int z2]) hX (c_X8_look l E a0 a0_text a0_town a0_draft a0_tried a0_images a0_kept a0_refused a0_line a0_best a0_letters a0_above a0_below z1.1 z1.2 a0_isWell a0_faultAt fa0_text z2 hr_z2) B_X8_look w_4_184 hK (hP.pick [0, 1] rfl) (q0 := 0) (ci := 5) rfl rfl rfl rfl hl.1 rfl (Nat.le_of_ble_eq_true rfl) ⟨Nat.le_of_ble_eq_true rfl, Nat.le_of_ble_eq_true rfl⟩ dX8_ends_5 rfl (W.pc 8 rfl ?_)
  refine lv_bipush (v := (59 : Int32)) hx hb dX8_ends_8 (by decide) (W.pc 10 rfl ?_)
  obtain ⟨z3, hr_z3, hsp⟩ := ltb_s hsp
  have J4 : ∀ (H : Heap) (locs : List Loc) (ls : Array Slot), wP E [(a0, .inr (5, [.ref a0_text, .int a0_letters, .ref a0_town, .ref a0_draft, .ref a0_tried, .ref a0_images, .ref a0_kept, .ref a0_refused, .long a0_above, .long a0_below, .ref a0_line, .ref a0_best, .int z1.1, .int z1.2, .int z3.1, .int z3.2])), (a0_text, aI E 150 fa0_text)] H → va_D A [(a0, .inr (5, [.ref a0_text, .int a0_letters, .ref a0_town, .ref a0_draft, .ref a0_tried, .ref a0_images, .ref a0_kept, .ref a0_refused, .long a0_above, .long a0_below, .ref a0_line, .ref a0_best, .int z1.1, .int z1.2, .int z3.1, .int z3.2])), (a0_text, aI E 150 fa0_text)] → va_S A s.heap H locs → lv_has ls 1 [(0, .ref a0)] → W p l e (wR 2) s m [.ref a0].toArray below meth c H locs 0 0 (MQ below (QWd E A none [(a0, .inr (5, [.ref a0_text, .int a0_letters, .ref a0_town, .ref a0_draft, .ref a0_tried, .ref a0_images, .ref a0_kept, .ref a0_refused, .long a0_above, .long a0_below, .ref a0_line, .ref a0_best, .int z_0, .int z_1, .int z_2, .int z_3])), (a0_text, aI E 150 fa0_text)]) [.ref a0].toArray s 0 0 A) (F0 m 21 ls []) := by
    intro H locs ls hP hD hS hl
    refine lv_aload_n hx hb dX8_ends_21 rfl (lv_at hl 0 rfl) (W.pc 22 rfl ?_)
    refine lv_dup hx hb dX8_ends_22 rfl (W.pc 23 rfl ?_)
    refine va_get (D := E.1) (ci := 5) (v := .int z1.1) (C := RX8) (T := TX8) (N := 16) hx hb hts inT_X8 hown hK hP 0 rfl rfl 12 (by decide) (hts _ w_4_80) (fun _ h9 => h9) rfl dX8_ends_23 (W.pc 26 rfl ?_)
    refine lv_aload_n hx hb dX8_ends_26 rfl (lv_at hl 0 rfl) (W.pc 27 rfl ?_)
    refine va_get (D := E.1) (ci := 5) (v := .int z3.1) (C := RX8) (T := TX8) (N := 16) hx hb hts inT_X8 hown hK hP 0 rfl rfl 14 (by decide) (hts _ w_4_82) (fun _ h9 => h9) rfl dX8_ends_27 (W.pc 30 rfl ?_)
    obtain ⟨z7, hr_z7, hsp⟩ := ltb_s hsp
    have J8 : ∀ (H : Heap) (locs : List Loc) (ls : Array Slot), wP E [(a0, .inr (5, [.ref a0_text, .int a0_letters, .ref a0_town, .ref a0_draft, .ref a0_tried, .ref a0_images, .ref a0_kept, .ref a0_refused, .long a0_above, .long a0_below, .ref a0_line, .ref a0_best, .int z1.1, .int z1.2, .int z3.1, .int z3.2])), (a0_text, aI E 150 fa0_text)] H → va_D A [(a0, .inr (5, [.ref a0_text, .int a0_letters, .ref a0_town, .ref a0_draft, .ref a0_tried, .ref a0_images, .ref a0_kept, .ref a0_refused, .long a0_above, .long a0_below, .ref a0_line, .ref a0_best, .int z1.1, .int z1.2, .int z3.1, .int z3.2])), (a0_text, aI E 150 fa0_text)] → va_S A s.heap H locs → lv_has ls 1 [] → W p l e (wR 2) s m [.ref a0].toArray below meth c H locs 0 0 (MQ below (QWd E A none [(a0, .inr (5, [.ref a0_text, .int a0_letters, .ref a0_town, .ref a0_draft, .ref a0_tried, .ref a0_images, .ref a0_kept, .ref a0_refused, .long a0_above, .long a0_below, .ref a0_line, .ref a0_best, .int z_0, .int z_1, .int z_2, .int z_3])), (a0_text, aI E 150 fa0_text)]) [.ref a0].toArray s 0 0 A) (F0 m 38 ls [.int z7, .int z1.1, .ref a0]) := by
      intro H locs ls hP hD hS hl
      refine lv_iadd hx hb dX8_ends_38 (W.pc 39 rfl ?_)
      refine va_put (D := E.1) (ci := 5) (v := .int (z1.1 + z7)) (ty := .int) (C := RX8) (T := TX8) (N := 16) hx hb hts inT_X8 tyX8 tyX8_ok nmX8 hown hK hP hD hS 0 rfl rfl 12 (by decide) (hts _ w_4_80) (fun _ h9 => h9) rfl (by decide +kernel) rfl rfl (Nat.le_of_ble_eq_true rfl) dX8_ends_39 (fun H locs hP hD hS => W.pc 42 rfl ?_)
      have hP : wP E [(a0, .inr (5, [.ref a0_text, .int a0_letters, .ref a0_town, .ref a0_draft, .ref a0_tried, .ref a0_images, .ref a0_kept, .ref a0_refused, .long a0_above, .long a0_below, .ref a0_line, .ref a0_best, .int (z1.1 + z7), .int z1.2, .int z3.1, .int z3.2])), (a0_text, aI E 150 fa0_text)] _ := hP
      have hD : va_D A [(a0, .inr (5, [.ref a0_text, .int a0_letters, .ref a0_town, .ref a0_draft, .ref a0_tried, .ref a0_images, .ref a0_kept, .ref a0_refused, .long a0_above, .long a0_below, .ref a0_line, .ref a0_best, .int (z1.1 + z7), .int z1.2, .int z3.1, .int z3.2])), (a0_text, aI E 150 fa0_text)] := hD
      cases hsp
      exact rWv hX hP hS rfl dX8_ends_42
    replace hsp := hr_z7
    refine lv_if_eq (tgt := 37) hx hb dX8_ends_30 (by decide) (fun c9 => ?_) (fun c9 => W.pc 33 rfl ?_)
    · have hsp := ip hsp c9
      refine lv_iconst (v := (0 : Int32)) hx hb dX8_ends_37 (by decide) (W.pc 38 rfl ?_)
      subst hsp
      exact J8 _ _ _ hP hD hS (lv_sub hl [] rfl)
    · have hsp := iq hsp c9
      refine lv_iconst (v := (1 : Int32)) hx hb dX8_ends_33 (by decide) (W.pc 34 rfl ?_)
      refine lv_goto (tgt := 38) hx hb dX8_ends_34 (by decide) ?_
      subst hsp
      exact J8 _ _ _ hP hD hS (lv_sub hl [] rfl)
  replace hsp := hr_z3
  refine lv_icmp_eq (tgt := 21) hx hb dX8_ends_10 (by decide) (fun c5 => ?_) (fun c5 => W.pc 13 rfl ?_)
  · have hsp := ip hsp c5
    subst hsp
    exact J4 _ _ _ hP hD hS (lv_sub hl [0] rfl)
  · have hsp := iq hsp c5
    refine lv_aload_n hx hb dX8_ends_13 rfl (lv_at hl 0 rfl) (W.pc 14 rfl ?_)
    refine lv_aload_n hx hb dX8_ends_14 rfl (lv_at hl 0 rfl) (W.pc 15 rfl ?_)
    refine va_get (D := E.1) (ci := 5) (v := .int z1.2) (C := RX8) (T := TX8) (N := 16) hx hb hts inT_X8 hown hK hP 0 rfl rfl 13 (by decide) (hts _ w_4_81) (fun _ h9 => h9) rfl dX8_ends_15 (W.pc 18 rfl ?_)
    obtain ⟨z6, hr_z6, hsp⟩ := ltb_s hsp
    refine kVW (st1 := []) (ws' := [(a0, .inr (5, [.ref a0_text, .int a0_letters, .ref a0_town, .ref a0_draft, .ref a0_tried, .ref a0_images, .ref a0_kept, .ref a0_refused, .long a0_above, .long a0_below, .ref a0_line, .ref a0_best, .int z1.1, .int z1.2, .int z6.1, .int z6.2])), (a0_text, aI E 150 fa0_text)]) [0] hX (c_X8_fails l E a0 a0_text a0_town a0_draft a0_tried a0_images a0_kept a0_refused a0_line a0_best z1.2 a0_letters a0_above a0_below z1.1 z1.2 a0_isWell a0_faultAt z6.1 z6.2 hr_z6) B_X8_fails w_4_195 hK hP hD hS hA (by decide) rfl rfl rfl (q0 := 0) (ci := 5) rfl rfl rfl rfl hl.1 rfl (Nat.le_of_ble_eq_true rfl) ⟨Nat.le_of_ble_eq_true rfl, Nat.le_of_ble_eq_true rfl⟩ dX8_ends_18 rfl (fun H locs hP hD hS => W.pc 21 rfl ?_)
    subst hsp
    exact J4 _ _ _ hP hD hS (lv_sub hl [0] rfl)
noncomputable def lp_X8_readsPulls_4 (a0_letters : Int32) (fa0_text : Nat → Int32) : Nat → Int32 → Int32 → Int32 → Int32 → Int32 → Int32 → ((Nat → Int32)) → Option (Int32 × Int32 × Int32 × Int32 × Int32 × Int32 × (Nat → Int32))
 | 0, _, _, _, _, _, _, _ => none
 | fu + 1, x1_4, x2_4, ya0_12_4, ya0_13_4, ya0_14_4, ya0_15_4, ya0_draft_f_4 => if x2_4 = 0 then (some (x1_4, x2_4, ya0_12_4, ya0_13_4, ya0_14_4, ya0_15_4, ya0_draft_f_4)) else (if ya0_14_4 = 0 then (some (x1_4, x2_4, ya0_12_4, ya0_13_4, ya0_14_4, ya0_15_4, ya0_draft_f_4)) else (if x1_4 = (6 : Int32) then (lt_ (sp_X8_fails ya0_13_4 ya0_14_4 ya0_15_4) fun z16 => lp_X8_readsPulls_4 a0_letters fa0_text fu x1_4 x2_4 ya0_12_4 ya0_13_4 z16.1 z16.2 ya0_draft_f_4) else (Option.bind (sp_X8_number (0 : Int32) (18 : Int32) a0_letters ya0_12_4 ya0_14_4 ya0_15_4 fa0_text) fun z5 => Option.bind (if z5.2.2.2.1 = 0 then (gi ((69 : Int32) + x1_4) 682 (some (ya0_draft_f_4 (((69 : Int32) + x1_4)).toNatClampNeg))) else (some (z5.1 - (9 : Int32)))) fun z6 => gi ((69 : Int32) + x1_4) 682 (Option.bind (sp_X8_skips a0_letters z5.2.1 fa0_text) fun z11 => Option.bind (sp_X8_look a0_letters z11.1 fa0_text) fun z12 => lt_ (if z12 = (59 : Int32) then ((0 : Int32)) else ((1 : Int32))) fun z13 => lp_X8_readsPulls_4 a0_letters fa0_text fu (x1_4 + (1 : Int32)) z13 z11.1 z11.2 z5.2.2.2.1 z5.2.2.2.2 (upd ya0_draft_f_4 (((69 : Int32) + x1_4)).toNatClampNeg z6)))))
noncomputable def sp_X8_readsPulls (a0_letters : Int32) (a0_at : Int32) (a0_start : Int32) (a0_isWell : Int32) (a0_faultAt : Int32) (fa0_text : Nat → Int32) (fa0_draft : Nat → Int32) : Option (Int32 × Int32 × Int32 × Int32 × (Nat → Int32)) := Option.bind (lp_X8_readsPulls_4 a0_letters fa0_text FU (0 : Int32) (1 : Int32) a0_at a0_start a0_isWell a0_faultAt fa0_draft) fun z1 => some (z1.2.2.1, z1.2.2.2.1, z1.2.2.2.2.1, z1.2.2.2.2.2.1, z1.2.2.2.2.2.2)
set_option maxHeartbeats 4000000 in
set_option maxRecDepth 100000 in
theorem c_X8_readsPulls (l : Launch) (E : wE) (a0 a0_text a0_town a0_draft a0_tried a0_images a0_kept a0_refused a0_line a0_best : Nat) (a0_letters : Int32) (a0_above : Int64) (a0_below : Int64) (a0_at : Int32) (a0_start : Int32) (a0_isWell : Int32) (a0_faultAt : Int32) (fa0_text : Nat → Int32) (fa0_draft : Nat → Int32) (z_0 : Int32) (z_1 : Int32) (z_2 : Int32) (z_3 : Int32) (z_4 : (Nat → Int32)) (hsp : sp_X8_readsPulls a0_letters a0_at a0_start a0_isWell a0_faultAt fa0_text fa0_draft = some (z_0, z_1, z_2, z_3, z_4)) : MW l yX8_readsPulls cX8_readsPulls 4 none 3 E [.ref a0] [(a0, .inr (5, [.ref a0_text, .int a0_letters, .ref a0_town, .ref a0_draft, .ref a0_tried, .ref a0_images, .ref a0_kept, .ref a0_refused, .long a0_above, .long a0_below, .ref a0_line, .ref a0_best, .int a0_at, .int a0_start, .int a0_isWell, .int a0_faultAt])), (a0_text, aI E 150 fa0_text), (a0_draft, aI E 682 fa0_draft)] none [(a0, .inr (5, [.ref a0_text, .int a0_letters, .ref a0_town, .ref a0_draft, .ref a0_tried, .ref a0_images, .ref a0_kept, .ref a0_refused, .long a0_above, .long a0_below, .ref a0_line, .ref a0_best, .int z_0, .int z_1, .int z_2, .int z_3])), (a0_text, aI E 150 fa0_text), (a0_draft, aI E 682 z_4)] := by
  refine MW.of (by decide +kernel) (Nat.le_of_ble_eq_true rfl) ?_
  intro p e s m below meth c ls A hX hK hP hD hS hA hl
  have hX : CX p s m [.ref a0].toArray meth c cX8_readsPulls 4 none RX8 := hX
  have hx := hX.1; have hb := hX.2.1; have hts := hX.2.2.2.2.1; have hown := hX.2.2.2.2.2.1
  have hl : lv_has ls 4 [(0, .ref a0)] := hl
  have hP : wP E [(a0, .inr (5, [.ref a0_text, .int a0_letters, .ref a0_town, .ref a0_draft, .ref a0_tried, .ref a0_images, .ref a0_kept, .ref a0_refused, .long a0_above, .long a0_below, .ref a0_line, .ref a0_best, .int a0_at, .int a0_start, .int a0_isWell, .int a0_faultAt])), (a0_text, aI E 150 fa0_text), (a0_draft, aI E 682 fa0_draft)] s.heap := hP
  have hsp : (Option.bind (lp_X8_readsPulls_4 a0_letters fa0_text FU (0 : Int32) (1 : Int32) a0_at a0_start a0_isWell a0_faultAt fa0_draft) fun z1 => some (z1.2.2.1, z1.2.2.2.1, z1.2.2.2.2.1, z1.2.2.2.2.2.1, z1.2.2.2.2.2.2)) = some (z_0, z_1, z_2, z_3, z_4) := hsp
  refine lv_iconst (v := (0 : Int32)) hx hb dX8_readsPulls_0 (by decide) (W.pc 1 rfl ?_)
  refine lv_istore_n (lv' := [(1, .int (0 : Int32)), (0, .ref a0)]) hx hb dX8_readsPulls_1 rfl hl (by decide) rfl (fun ls hl => W.pc 2 rfl ?_)
  refine lv_iconst (v := (1 : Int32)) hx hb dX8_readsPulls_2 (by decide) (W.pc 3 rfl ?_)
  refine lv_istore_n (lv' := [(2, .int (1 : Int32)), (1, .int (0 : Int32)), (0, .ref a0)]) hx hb dX8_readsPulls_3 rfl hl (by decide) rfl (fun ls hl => W.pc 4 rfl ?_)
  have L_4 : ∀ (z1 : Int32 × Int32 × Int32 × Int32 × Int32 × Int32 × (Nat → Int32)), (∀ (H : Heap) (locs : List Loc) (ls : Array Slot), wP E [(a0, .inr (5, [.ref a0_text, .int a0_letters, .ref a0_town, .ref a0_draft, .ref a0_tried, .ref a0_images, .ref a0_kept, .ref a0_refused, .long a0_above, .long a0_below, .ref a0_line, .ref a0_best, .int z1.2.2.1, .int z1.2.2.2.1, .int z1.2.2.2.2.1, .int z1.2.2.2.2.2.1])), (a0_text, aI E 150 fa0_text), (a0_draft, aI E 682 z1.2.2.2.2.2.2)] H → va_D A [(a0, .inr (5, [.ref a0_text, .int a0_letters, .ref a0_town, .ref a0_draft, .ref a0_tried, .ref a0_images, .ref a0_kept, .ref a0_refused, .long a0_above, .long a0_below, .ref a0_line, .ref a0_best, .int z1.2.2.1, .int z1.2.2.2.1, .int z1.2.2.2.2.1, .int z1.2.2.2.2.2.1])), (a0_text, aI E 150 fa0_text), (a0_draft, aI E 682 z1.2.2.2.2.2.2)] → va_S A s.heap H locs → lv_has ls 4 [] → W p l e (wR 3) s m [.ref a0].toArray below meth c H locs 0 0 (MQ below (QWd E A none [(a0, .inr (5, [.ref a0_text, .int a0_letters, .ref a0_town, .ref a0_draft, .ref a0_tried, .ref a0_images, .ref a0_kept, .ref a0_refused, .long a0_above, .long a0_below, .ref a0_line, .ref a0_best, .int z_0, .int z_1, .int z_2, .int z_3])), (a0_text, aI E 150 fa0_text), (a0_draft, aI E 682 z_4)]) [.ref a0].toArray s 0 0 A) (F0 m 97 ls [])) → ∀ (fu : Nat) (x1_4 : Int32) (x2_4 : Int32) (ya0_12_4 : Int32) (ya0_13_4 : Int32) (ya0_14_4 : Int32) (ya0_15_4 : Int32) (ya0_draft_f_4 : (Nat → Int32)), ∀ (H : Heap) (locs : List Loc) (ls : Array Slot), wP E [(a0, .inr (5, [.ref a0_text, .int a0_letters, .ref a0_town, .ref a0_draft, .ref a0_tried, .ref a0_images, .ref a0_kept, .ref a0_refused, .long a0_above, .long a0_below, .ref a0_line, .ref a0_best, .int ya0_12_4, .int ya0_13_4, .int ya0_14_4, .int ya0_15_4])), (a0_text, aI E 150 fa0_text), (a0_draft, aI E 682 ya0_draft_f_4)] H → va_D A [(a0, .inr (5, [.ref a0_text, .int a0_letters, .ref a0_town, .ref a0_draft, .ref a0_tried, .ref a0_images, .ref a0_kept, .ref a0_refused, .long a0_above, .long a0_below, .ref a0_line, .ref a0_best, .int ya0_12_4, .int ya0_13_4, .int ya0_14_4, .int ya0_15_4])), (a0_text, aI E 150 fa0_text), (a0_draft, aI E 682 ya0_draft_f_4)] → va_S A s.heap H locs → lv_has ls 4 [(0, .ref a0), (1, .int x1_4), (2, .int x2_4)] → lp_X8_readsPulls_4 a0_letters fa0_text fu x1_4 x2_4 ya0_12_4 ya0_13_4 ya0_14_4 ya0_15_4 ya0_draft_f_4 = some z1 → W p l e (wR 3) s m [.ref a0].toArray below meth c H locs 0 0 (MQ below (QWd E A none [(a0, .inr (5, [.ref a0_text, .int a0_letters, .ref a0_town, .ref a0_draft, .ref a0_tried, .ref a0_images, .ref a0_kept, .ref a0_refused, .long a0_above, .long a0_below, .ref a0_line, .ref a0_best, .int z_0, .int z_1, .int z_2, .int z_3])), (a0_text, aI E 150 fa0_text), (a0_draft, aI E 682 z_4)]) [.ref a0].toArray s 0 0 A) (F0 m 4 ls []) := by
    intro z1 hk_4 fu
    induction fu with
    | zero => intro x1_4 x2_4 ya0_12_4 ya0_13_4 ya0_14_4 ya0_15_4 ya0_draft_f_4 H locs ls hP hD hS hl hsp; exact absurd (show none = some _ from hsp) (by simp)
    | succ fu ih_4 =>
      intro x1_4 x2_4 ya0_12_4 ya0_13_4 ya0_14_4 ya0_15_4 ya0_draft_f_4 H locs ls hP hD hS hl hsp
      have hsp : (if x2_4 = 0 then (some (x1_4, x2_4, ya0_12_4, ya0_13_4, ya0_14_4, ya0_15_4, ya0_draft_f_4)) else (if ya0_14_4 = 0 then (some (x1_4, x2_4, ya0_12_4, ya0_13_4, ya0_14_4, ya0_15_4, ya0_draft_f_4)) else (if x1_4 = (6 : Int32) then (lt_ (sp_X8_fails ya0_13_4 ya0_14_4 ya0_15_4) fun z16 => lp_X8_readsPulls_4 a0_letters fa0_text fu x1_4 x2_4 ya0_12_4 ya0_13_4 z16.1 z16.2 ya0_draft_f_4) else (Option.bind (sp_X8_number (0 : Int32) (18 : Int32) a0_letters ya0_12_4 ya0_14_4 ya0_15_4 fa0_text) fun z5 => Option.bind (if z5.2.2.2.1 = 0 then (gi ((69 : Int32) + x1_4) 682 (some (ya0_draft_f_4 (((69 : Int32) + x1_4)).toNatClampNeg))) else (some (z5.1 - (9 : Int32)))) fun z6 => gi ((69 : Int32) + x1_4) 682 (Option.bind (sp_X8_skips a0_letters z5.2.1 fa0_text) fun z11 => Option.bind (sp_X8_look a0_letters z11.1 fa0_text) fun z12 => lt_ (if z12 = (59 : Int32) then ((0 : Int32)) else ((1 : Int32))) fun z13 => lp_X8_readsPulls_4 a0_letters fa0_text fu (x1_4 + (1 : Int32)) z13 z11.1 z11.2 z5.2.2.2.1 z5.2.2.2.2 (upd ya0_draft_f_4 (((69 : Int32) + x1_4)).toNatClampNeg z6)))))) = some z1 := hsp
      refine lv_iload_n hx hb dX8_readsPulls_4 rfl (lv_at hl 2 rfl) (W.pc 5 rfl ?_)
      refine lv_if_eq (tgt := 97) hx hb dX8_readsPulls_5 (by decide) (fun c2 => ?_) (fun c2 => W.pc 8 rfl ?_)
      · have hsp := ip hsp c2
        obtain rfl := Option.some.inj hsp
        exact hk_4 _ _ _ hP hD hS (lv_sub hl [] rfl)
      · have hsp := iq hsp c2
        refine lv_aload_n hx hb dX8_readsPulls_8 rfl (lv_at hl 0 rfl) (W.pc 9 rfl ?_)
        refine va_get (D := E.1) (ci := 5) (v := .int ya0_14_4) (C := RX8) (T := TX8) (N := 16) hx hb hts inT_X8 hown hK hP 0 rfl rfl 14 (by decide) (hts _ w_4_82) (fun _ h9 => h9) rfl dX8_readsPulls_9 (W.pc 12 rfl ?_)
        refine lv_if_eq (tgt := 97) hx hb dX8_readsPulls_12 (by decide) (fun c3 => ?_) (fun c3 => W.pc 15 rfl ?_)
        · have hsp := ip hsp c3
          obtain rfl := Option.some.inj hsp
          exact hk_4 _ _ _ hP hD hS (lv_sub hl [] rfl)
        · have hsp := iq hsp c3
          refine lv_iload_n hx hb dX8_readsPulls_15 rfl (lv_at hl 1 rfl) (W.pc 16 rfl ?_)
          refine lv_bipush (v := (6 : Int32)) hx hb dX8_readsPulls_16 (by decide) (W.pc 18 rfl ?_)
          refine lv_icmp_ne (tgt := 32) hx hb dX8_readsPulls_18 (by decide) (fun c4 => ?_) (fun c4 => W.pc 21 rfl ?_)
          · have hsp := iq hsp c4
            refine lv_aload_n hx hb dX8_readsPulls_32 rfl (lv_at hl 0 rfl) (W.pc 33 rfl ?_)
            refine lv_iconst (v := (0 : Int32)) hx hb dX8_readsPulls_33 (by decide) (W.pc 34 rfl ?_)
            refine lv_bipush (v := (18 : Int32)) hx hb dX8_readsPulls_34 (by decide) (W.pc 36 rfl ?_)
            obtain ⟨z5, hr_z5, hsp⟩ := bd_s hsp
            refine kVW (st1 := [.int z5.1]) (ws' := [(a0, .inr (5, [.ref a0_text, .int a0_letters, .ref a0_town, .ref a0_draft, .ref a0_tried, .ref a0_images, .ref a0_kept, .ref a0_refused, .long a0_above, .long a0_below, .ref a0_line, .ref a0_best, .int z5.2.1, .int z5.2.2.1, .int z5.2.2.2.1, .int z5.2.2.2.2])), (a0_text, aI E 150 fa0_text), (a0_draft, aI E 682 ya0_draft_f_4)]) [0, 1] hX (c_X8_number l E a0 a0_text a0_town a0_draft a0_tried a0_images a0_kept a0_refused a0_line a0_best (0 : Int32) (18 : Int32) a0_letters a0_above a0_below ya0_12_4 ya0_13_4 ya0_14_4 ya0_15_4 fa0_text z5.1 z5.2.1 z5.2.2.1 z5.2.2.2.1 z5.2.2.2.2 hr_z5) B_X8_number w_4_199 hK hP hD hS hA (by decide) rfl rfl rfl (q0 := 0) (ci := 5) rfl rfl rfl rfl hl.1 rfl (Nat.le_of_ble_eq_true rfl) ⟨Nat.le_of_ble_eq_true rfl, Nat.le_of_ble_eq_true rfl⟩ dX8_readsPulls_36 rfl (fun H locs hP hD hS => W.pc 39 rfl ?_)
            refine lv_istore_n (lv' := [(3, .int z5.1), (0, .ref a0), (1, .int x1_4), (2, .int x2_4)]) hx hb dX8_readsPulls_39 rfl hl (by decide) rfl (fun ls hl => W.pc 40 rfl ?_)
            refine lv_aload_n hx hb dX8_readsPulls_40 rfl (lv_at hl 1 rfl) (W.pc 41 rfl ?_)
            refine va_get (D := E.1) (ci := 5) (v := .ref a0_draft) (C := RX8) (T := TX8) (N := 16) hx hb hts inT_X8 hown hK hP 0 rfl rfl 3 (by decide) (hts _ w_4_71) (fun _ h9 => h9) rfl dX8_readsPulls_41 (W.pc 44 rfl ?_)
            refine lv_bipush (v := (69 : Int32)) hx hb dX8_readsPulls_44 (by decide) (W.pc 46 rfl ?_)
            refine lv_iload_n hx hb dX8_readsPulls_46 rfl (lv_at hl 2 rfl) (W.pc 47 rfl ?_)
            refine lv_iadd hx hb dX8_readsPulls_47 (W.pc 48 rfl ?_)
            refine lv_aload_n hx hb dX8_readsPulls_48 rfl (lv_at hl 1 rfl) (W.pc 49 rfl ?_)
            refine va_get (D := E.1) (ci := 5) (v := .int z5.2.2.2.1) (C := RX8) (T := TX8) (N := 16) hx hb hts inT_X8 hown hK hP 0 rfl rfl 14 (by decide) (hts _ w_4_82) (fun _ h9 => h9) rfl dX8_readsPulls_49 (W.pc 52 rfl ?_)
            obtain ⟨z6, hr_z6, hsp⟩ := bd_s hsp
            have J7 : ∀ (H : Heap) (locs : List Loc) (ls : Array Slot), wP E [(a0, .inr (5, [.ref a0_text, .int a0_letters, .ref a0_town, .ref a0_draft, .ref a0_tried, .ref a0_images, .ref a0_kept, .ref a0_refused, .long a0_above, .long a0_below, .ref a0_line, .ref a0_best, .int z5.2.1, .int z5.2.2.1, .int z5.2.2.2.1, .int z5.2.2.2.2])), (a0_text, aI E 150 fa0_text), (a0_draft, aI E 682 ya0_draft_f_4)] H → va_D A [(a0, .inr (5, [.ref a0_text, .int a0_letters, .ref a0_town, .ref a0_draft, .ref a0_tried, .ref a0_images, .ref a0_kept, .ref a0_refused, .long a0_above, .long a0_below, .ref a0_line, .ref a0_best, .int z5.2.1, .int z5.2.2.1, .int z5.2.2.2.1, .int z5.2.2.2.2])), (a0_text, aI E 150 fa0_text), (a0_draft, aI E 682 ya0_draft_f_4)] → va_S A s.heap H locs → lv_has ls 4 [(0, .ref a0), (1, .int x1_4)] → W p l e (wR 3) s m [.ref a0].toArray below meth c H locs 0 0 (MQ below (QWd E A none [(a0, .inr (5, [.ref a0_text, .int a0_letters, .ref a0_town, .ref a0_draft, .ref a0_tried, .ref a0_images, .ref a0_kept, .ref a0_refused, .long a0_above, .long a0_below, .ref a0_line, .ref a0_best, .int z_0, .int z_1, .int z_2, .int z_3])), (a0_text, aI E 150 fa0_text), (a0_draft, aI E 682 z_4)]) [.ref a0].toArray s 0 0 A) (F0 m 71 ls [.int z6, .int ((69 : Int32) + x1_4), .ref a0_draft]) := by
              intro H locs ls hP hD hS hl
              obtain ⟨h10, hsp⟩ := gi_s hsp
              refine va_iast hx hb hK hP hD hS 2 0 rfl rfl h10 dX8_readsPulls_71 (fun H locs hP hD hS => W.pc 72 rfl ?_)
              have hP : wP E [(a0, .inr (5, [.ref a0_text, .int a0_letters, .ref a0_town, .ref a0_draft, .ref a0_tried, .ref a0_images, .ref a0_kept, .ref a0_refused, .long a0_above, .long a0_below, .ref a0_line, .ref a0_best, .int z5.2.1, .int z5.2.2.1, .int z5.2.2.2.1, .int z5.2.2.2.2])), (a0_text, aI E 150 fa0_text), (a0_draft, aI E 682 (upd ya0_draft_f_4 (((69 : Int32) + x1_4)).toNatClampNeg z6))] _ := hP
              have hD : va_D A [(a0, .inr (5, [.ref a0_text, .int a0_letters, .ref a0_town, .ref a0_draft, .ref a0_tried, .ref a0_images, .ref a0_kept, .ref a0_refused, .long a0_above, .long a0_below, .ref a0_line, .ref a0_best, .int z5.2.1, .int z5.2.2.1, .int z5.2.2.2.1, .int z5.2.2.2.2])), (a0_text, aI E 150 fa0_text), (a0_draft, aI E 682 (upd ya0_draft_f_4 (((69 : Int32) + x1_4)).toNatClampNeg z6))] := hD
              refine lv_iinc (v := (x1_4 + (1 : Int32))) (lv' := [(1, .int (x1_4 + (1 : Int32))), (0, .ref a0)]) hx hb dX8_readsPulls_72 hl (k := 1) rfl rfl (by decide) rfl (fun ls hl => W.pc 75 rfl ?_)
              refine lv_aload_n hx hb dX8_readsPulls_75 rfl (lv_at hl 1 rfl) (W.pc 76 rfl ?_)
              obtain ⟨z11, hr_z11, hsp⟩ := bd_s hsp
              refine kVW (st1 := []) (ws' := [(a0, .inr (5, [.ref a0_text, .int a0_letters, .ref a0_town, .ref a0_draft, .ref a0_tried, .ref a0_images, .ref a0_kept, .ref a0_refused, .long a0_above, .long a0_below, .ref a0_line, .ref a0_best, .int z11.1, .int z11.2, .int z5.2.2.2.1, .int z5.2.2.2.2])), (a0_text, aI E 150 fa0_text), (a0_draft, aI E 682 (upd ya0_draft_f_4 (((69 : Int32) + x1_4)).toNatClampNeg z6))]) [0, 1] hX (c_X8_skips l E a0 a0_text a0_town a0_draft a0_tried a0_images a0_kept a0_refused a0_line a0_best a0_letters a0_above a0_below z5.2.1 z5.2.2.1 z5.2.2.2.1 z5.2.2.2.2 fa0_text z11.1 z11.2 hr_z11) B_X8_skips w_4_180 hK hP hD hS hA (by decide) rfl rfl rfl (q0 := 0) (ci := 5) rfl rfl rfl rfl hl.1 rfl (Nat.le_of_ble_eq_true rfl) ⟨Nat.le_of_ble_eq_true rfl, Nat.le_of_ble_eq_true rfl⟩ dX8_readsPulls_76 rfl (fun H locs hP hD hS => W.pc 79 rfl ?_)
              refine lv_aload_n hx hb dX8_readsPulls_79 rfl (lv_at hl 1 rfl) (W.pc 80 rfl ?_)
              obtain ⟨z12, hr_z12, hsp⟩ := bd_s hsp
              refine kVR (st1 := [.int z12]) hX (c_X8_look l E a0 a0_text a0_town a0_draft a0_tried a0_images a0_kept a0_refused a0_line a0_best a0_letters a0_above a0_below z11.1 z11.2 z5.2.2.2.1 z5.2.2.2.2 fa0_text z12 hr_z12) B_X8_look w_4_184 hK (hP.pick [0, 1] rfl) (q0 := 0) (ci := 5) rfl rfl rfl rfl hl.1 rfl (Nat.le_of_ble_eq_true rfl) ⟨Nat.le_of_ble_eq_true rfl, Nat.le_of_ble_eq_true rfl⟩ dX8_readsPulls_80 rfl (W.pc 83 rfl ?_)
              refine lv_bipush (v := (59 : Int32)) hx hb dX8_readsPulls_83 (by decide) (W.pc 85 rfl ?_)
              obtain ⟨z13, hr_z13, hsp⟩ := ltb_s hsp
              have J14 : ∀ (H : Heap) (locs : List Loc) (ls : Array Slot), wP E [(a0, .inr (5, [.ref a0_text, .int a0_letters, .ref a0_town, .ref a0_draft, .ref a0_tried, .ref a0_images, .ref a0_kept, .ref a0_refused, .long a0_above, .long a0_below, .ref a0_line, .ref a0_best, .int z11.1, .int z11.2, .int z5.2.2.2.1, .int z5.2.2.2.2])), (a0_text, aI E 150 fa0_text), (a0_draft, aI E 682 (upd ya0_draft_f_4 (((69 : Int32) + x1_4)).toNatClampNeg z6))] H → va_D A [(a0, .inr (5, [.ref a0_text, .int a0_letters, .ref a0_town, .ref a0_draft, .ref a0_tried, .ref a0_images, .ref a0_kept, .ref a0_refused, .long a0_above, .long a0_below, .ref a0_line, .ref a0_best, .int z11.1, .int z11.2, .int z5.2.2.2.1, .int z5.2.2.2.2])), (a0_text, aI E 150 fa0_text), (a0_draft, aI E 682 (upd ya0_draft_f_4 (((69 : Int32) + x1_4)).toNatClampNeg z6))] → va_S A s.heap H locs → lv_has ls 4 [(0, .ref a0), (1, .int (x1_4 + (1 : Int32)))] → W p l e (wR 3) s m [.ref a0].toArray below meth c H locs 0 0 (MQ below (QWd E A none [(a0, .inr (5, [.ref a0_text, .int a0_letters, .ref a0_town, .ref a0_draft, .ref a0_tried, .ref a0_images, .ref a0_kept, .ref a0_refused, .long a0_above, .long a0_below, .ref a0_line, .ref a0_best, .int z_0, .int z_1, .int z_2, .int z_3])), (a0_text, aI E 150 fa0_text), (a0_draft, aI E 682 z_4)]) [.ref a0].toArray s 0 0 A) (F0 m 93 ls [.int z13]) := by
                intro H locs ls hP hD hS hl
                refine lv_istore_n (lv' := [(2, .int z13), (0, .ref a0), (1, .int (x1_4 + (1 : Int32)))]) hx hb dX8_readsPulls_93 rfl hl (by decide) rfl (fun ls hl => W.pc 94 rfl ?_)
                refine lv_goto (tgt := 4) hx hb dX8_readsPulls_94 (by decide) ?_
                exact ih_4 (x1_4 + (1 : Int32)) z13 z11.1 z11.2 z5.2.2.2.1 z5.2.2.2.2 (upd ya0_draft_f_4 (((69 : Int32) + x1_4)).toNatClampNeg z6) _ _ _ hP hD hS (lv_sub hl [1, 2, 0] rfl) hsp
              replace hsp := hr_z13
              refine lv_icmp_eq (tgt := 92) hx hb dX8_readsPulls_85 (by decide) (fun c15 => ?_) (fun c15 => W.pc 88 rfl ?_)
              · have hsp := ip hsp c15
                refine lv_iconst (v := (0 : Int32)) hx hb dX8_readsPulls_92 (by decide) (W.pc 93 rfl ?_)
                subst hsp
                exact J14 _ _ _ hP hD hS (lv_sub hl [1, 0] rfl)
              · have hsp := iq hsp c15
                refine lv_iconst (v := (1 : Int32)) hx hb dX8_readsPulls_88 (by decide) (W.pc 89 rfl ?_)
                refine lv_goto (tgt := 93) hx hb dX8_readsPulls_89 (by decide) ?_
                subst hsp
                exact J14 _ _ _ hP hD hS (lv_sub hl [1, 0] rfl)
            replace hsp := hr_z6
            refine lv_if_eq (tgt := 62) hx hb dX8_readsPulls_52 (by decide) (fun c8 => ?_) (fun c8 => W.pc 55 rfl ?_)
            · have hsp := ip hsp c8
              refine lv_aload_n hx hb dX8_readsPulls_62 rfl (lv_at hl 1 rfl) (W.pc 63 rfl ?_)
              refine va_get (D := E.1) (ci := 5) (v := .ref a0_draft) (C := RX8) (T := TX8) (N := 16) hx hb hts inT_X8 hown hK hP 0 rfl rfl 3 (by decide) (hts _ w_4_71) (fun _ h9 => h9) rfl dX8_readsPulls_63 (W.pc 66 rfl ?_)
              refine lv_bipush (v := (69 : Int32)) hx hb dX8_readsPulls_66 (by decide) (W.pc 68 rfl ?_)
              refine lv_iload_n hx hb dX8_readsPulls_68 rfl (lv_at hl 2 rfl) (W.pc 69 rfl ?_)
              refine lv_iadd hx hb dX8_readsPulls_69 (W.pc 70 rfl ?_)
              obtain ⟨h9, hsp⟩ := gi_s hsp
              refine va_iald hx hb hK hP 2 0 rfl rfl h9 dX8_readsPulls_70 (W.pc 71 rfl ?_)
              obtain rfl := Option.some.inj hsp
              exact J7 _ _ _ hP hD hS (lv_sub hl [1, 2] rfl)
            · have hsp := iq hsp c8
              refine lv_iload_n hx hb dX8_readsPulls_55 rfl (lv_at hl 0 rfl) (W.pc 56 rfl ?_)
              refine lv_bipush (v := (9 : Int32)) hx hb dX8_readsPulls_56 (by decide) (W.pc 58 rfl ?_)
              refine lv_isub hx hb dX8_readsPulls_58 (W.pc 59 rfl ?_)
              refine lv_goto (tgt := 71) hx hb dX8_readsPulls_59 (by decide) ?_
              obtain rfl := Option.some.inj hsp
              exact J7 _ _ _ hP hD hS (lv_sub hl [1, 2] rfl)
          · have hsp := ip hsp c4
            refine lv_aload_n hx hb dX8_readsPulls_21 rfl (lv_at hl 0 rfl) (W.pc 22 rfl ?_)
            refine lv_aload_n hx hb dX8_readsPulls_22 rfl (lv_at hl 0 rfl) (W.pc 23 rfl ?_)
            refine va_get (D := E.1) (ci := 5) (v := .int ya0_13_4) (C := RX8) (T := TX8) (N := 16) hx hb hts inT_X8 hown hK hP 0 rfl rfl 13 (by decide) (hts _ w_4_81) (fun _ h9 => h9) rfl dX8_readsPulls_23 (W.pc 26 rfl ?_)
            obtain ⟨z16, hr_z16, hsp⟩ := ltb_s hsp
            refine kVW (st1 := []) (ws' := [(a0, .inr (5, [.ref a0_text, .int a0_letters, .ref a0_town, .ref a0_draft, .ref a0_tried, .ref a0_images, .ref a0_kept, .ref a0_refused, .long a0_above, .long a0_below, .ref a0_line, .ref a0_best, .int ya0_12_4, .int ya0_13_4, .int z16.1, .int z16.2])), (a0_text, aI E 150 fa0_text), (a0_draft, aI E 682 ya0_draft_f_4)]) [0] hX (c_X8_fails l E a0 a0_text a0_town a0_draft a0_tried a0_images a0_kept a0_refused a0_line a0_best ya0_13_4 a0_letters a0_above a0_below ya0_12_4 ya0_13_4 ya0_14_4 ya0_15_4 z16.1 z16.2 hr_z16) B_X8_fails w_4_195 hK hP hD hS hA (by decide) rfl rfl rfl (q0 := 0) (ci := 5) rfl rfl rfl rfl hl.1 rfl (Nat.le_of_ble_eq_true rfl) ⟨Nat.le_of_ble_eq_true rfl, Nat.le_of_ble_eq_true rfl⟩ dX8_readsPulls_26 rfl (fun H locs hP hD hS => W.pc 29 rfl ?_)
            refine lv_goto (tgt := 4) hx hb dX8_readsPulls_29 (by decide) ?_
            exact ih_4 x1_4 x2_4 ya0_12_4 ya0_13_4 z16.1 z16.2 ya0_draft_f_4 _ _ _ hP hD hS (lv_sub hl [0, 1, 2] rfl) hsp
  obtain ⟨z1, hr_z1, hsp⟩ := bd_s hsp
  refine L_4 z1 (fun H locs ls hP hD hS hl => ?_) FU (0 : Int32) (1 : Int32) a0_at a0_start a0_isWell a0_faultAt fa0_draft _ _ _ hP hD hS (lv_sub hl [2, 1, 0] rfl) hr_z1
  cases hsp
  exact rWv hX hP hS rfl dX8_readsPulls_97
noncomputable def sp_X8_readsBuild (p1 : Int32) (a0_letters : Int32) (a0_at : Int32) (a0_isWell : Int32) (a0_faultAt : Int32) (fa0_text : Nat → Int32) (fa0_draft : Nat → Int32) : Option (Int32 × Int32 × Int32 × Int32 × (Nat → Int32)) := Option.bind (sp_X8_number (0 : Int32) (5 : Int32) a0_letters a0_at a0_isWell a0_faultAt fa0_text) fun z1 => Option.bind (if z1.2.2.2.1 = 0 then (some (z1.2.2.2.1, z1.2.2.2.2)) else (gi ((3 : Int32) + z1.1) 682 (if (fa0_draft (((3 : Int32) + z1.1)).toNatClampNeg) = (5 : Int32) then (lt_ (sp_X8_fails z1.2.2.1 z1.2.2.2.1 z1.2.2.2.2) fun z7 => some (z7.1, z7.2)) else (some (z1.2.2.2.1, z1.2.2.2.2))))) fun z2 => Option.bind (sp_X8_number (0 : Int32) (5 : Int32) a0_letters z1.2.1 z2.1 z2.2 fa0_text) fun z8 => Option.bind (sp_X8_ends a0_letters z8.2.1 z8.2.2.2.1 z8.2.2.2.2 fa0_text) fun z9 => if z9.2.2.1 = 0 then (some (z9.1, z9.2.1, z9.2.2.1, z9.2.2.2, fa0_draft)) else (lt_ (if p1 = 0 then ((fa0_draft ((1 : Int32)).toNatClampNeg)) else ((0 : Int32))) fun z11 => Option.bind (sp_X8_builds z1.1 z8.1 z11 fa0_draft) fun z14 => some (z9.1, z9.2.1, z9.2.2.1, z9.2.2.2, z14))
set_option maxHeartbeats 4000000 in
set_option maxRecDepth 100000 in
theorem c_X8_readsBuild (l : Launch) (E : wE) (a0 a0_text a0_town a0_draft a0_tried a0_images a0_kept a0_refused a0_line a0_best : Nat) (p1 : Int32) (a0_letters : Int32) (a0_above : Int64) (a0_below : Int64) (a0_at : Int32) (a0_start : Int32) (a0_isWell : Int32) (a0_faultAt : Int32) (fa0_text : Nat → Int32) (fa0_draft : Nat → Int32) (z_0 : Int32) (z_1 : Int32) (z_2 : Int32) (z_3 : Int32) (z_4 : (Nat → Int32)) (hsp : sp_X8_readsBuild p1 a0_letters a0_at a0_isWell a0_faultAt fa0_text fa0_draft = some (z_0, z_1, z_2, z_3, z_4)) : MW l yX8_readsBuild cX8_readsBuild 4 none 4 E [.ref a0, .int p1] [(a0, .inr (5, [.ref a0_text, .int a0_letters, .ref a0_town, .ref a0_draft, .ref a0_tried, .ref a0_images, .ref a0_kept, .ref a0_refused, .long a0_above, .long a0_below, .ref a0_line, .ref a0_best, .int a0_at, .int a0_start, .int a0_isWell, .int a0_faultAt])), (a0_text, aI E 150 fa0_text), (a0_draft, aI E 682 fa0_draft)] none [(a0, .inr (5, [.ref a0_text, .int a0_letters, .ref a0_town, .ref a0_draft, .ref a0_tried, .ref a0_images, .ref a0_kept, .ref a0_refused, .long a0_above, .long a0_below, .ref a0_line, .ref a0_best, .int z_0, .int z_1, .int z_2, .int z_3])), (a0_text, aI E 150 fa0_text), (a0_draft, aI E 682 z_4)] := by
  refine MW.of (by decide +kernel) (Nat.le_of_ble_eq_true rfl) ?_
  intro p e s m below meth c ls A hX hK hP hD hS hA hl
  have hX : CX p s m [.ref a0, .int p1].toArray meth c cX8_readsBuild 4 none RX8 := hX
  have hx := hX.1; have hb := hX.2.1; have hts := hX.2.2.2.2.1; have hown := hX.2.2.2.2.2.1
  have hl : lv_has ls 4 [(0, .ref a0), (1, .int p1)] := hl
  have hP : wP E [(a0, .inr (5, [.ref a0_text, .int a0_letters, .ref a0_town, .ref a0_draft, .ref a0_tried, .ref a0_images, .ref a0_kept, .ref a0_refused, .long a0_above, .long a0_below, .ref a0_line, .ref a0_best, .int a0_at, .int a0_start, .int a0_isWell, .int a0_faultAt])), (a0_text, aI E 150 fa0_text), (a0_draft, aI E 682 fa0_draft)] s.heap := hP
  have hsp : (Option.bind (sp_X8_number (0 : Int32) (5 : Int32) a0_letters a0_at a0_isWell a0_faultAt fa0_text) fun z1 => Option.bind (if z1.2.2.2.1 = 0 then (some (z1.2.2.2.1, z1.2.2.2.2)) else (gi ((3 : Int32) + z1.1) 682 (if (fa0_draft (((3 : Int32) + z1.1)).toNatClampNeg) = (5 : Int32) then (lt_ (sp_X8_fails z1.2.2.1 z1.2.2.2.1 z1.2.2.2.2) fun z7 => some (z7.1, z7.2)) else (some (z1.2.2.2.1, z1.2.2.2.2))))) fun z2 => Option.bind (sp_X8_number (0 : Int32) (5 : Int32) a0_letters z1.2.1 z2.1 z2.2 fa0_text) fun z8 => Option.bind (sp_X8_ends a0_letters z8.2.1 z8.2.2.2.1 z8.2.2.2.2 fa0_text) fun z9 => if z9.2.2.1 = 0 then (some (z9.1, z9.2.1, z9.2.2.1, z9.2.2.2, fa0_draft)) else (lt_ (if p1 = 0 then ((fa0_draft ((1 : Int32)).toNatClampNeg)) else ((0 : Int32))) fun z11 => Option.bind (sp_X8_builds z1.1 z8.1 z11 fa0_draft) fun z14 => some (z9.1, z9.2.1, z9.2.2.1, z9.2.2.2, z14))) = some (z_0, z_1, z_2, z_3, z_4) := hsp
  refine lv_aload_n hx hb dX8_readsBuild_0 rfl (lv_at hl 0 rfl) (W.pc 1 rfl ?_)
  refine lv_iconst (v := (0 : Int32)) hx hb dX8_readsBuild_1 (by decide) (W.pc 2 rfl ?_)
  refine lv_iconst (v := (5 : Int32)) hx hb dX8_readsBuild_2 (by decide) (W.pc 3 rfl ?_)
  obtain ⟨z1, hr_z1, hsp⟩ := bd_s hsp
  refine kVW (st1 := [.int z1.1]) (ws' := [(a0, .inr (5, [.ref a0_text, .int a0_letters, .ref a0_town, .ref a0_draft, .ref a0_tried, .ref a0_images, .ref a0_kept, .ref a0_refused, .long a0_above, .long a0_below, .ref a0_line, .ref a0_best, .int z1.2.1, .int z1.2.2.1, .int z1.2.2.2.1, .int z1.2.2.2.2])), (a0_text, aI E 150 fa0_text), (a0_draft, aI E 682 fa0_draft)]) [0, 1] hX (c_X8_number l E a0 a0_text a0_town a0_draft a0_tried a0_images a0_kept a0_refused a0_line a0_best (0 : Int32) (5 : Int32) a0_letters a0_above a0_below a0_at a0_start a0_isWell a0_faultAt fa0_text z1.1 z1.2.1 z1.2.2.1 z1.2.2.2.1 z1.2.2.2.2 hr_z1) B_X8_number w_4_199 hK hP hD hS hA (by decide) rfl rfl rfl (q0 := 0) (ci := 5) rfl rfl rfl rfl hl.1 rfl (Nat.le_of_ble_eq_true rfl) ⟨Nat.le_of_ble_eq_true rfl, Nat.le_of_ble_eq_true rfl⟩ dX8_readsBuild_3 rfl (fun H locs hP hD hS => W.pc 6 rfl ?_)
  refine lv_istore_n (lv' := [(2, .int z1.1), (0, .ref a0), (1, .int p1)]) hx hb dX8_readsBuild_6 rfl hl (by decide) rfl (fun ls hl => W.pc 7 rfl ?_)
  refine lv_aload_n hx hb dX8_readsBuild_7 rfl (lv_at hl 1 rfl) (W.pc 8 rfl ?_)
  refine va_get (D := E.1) (ci := 5) (v := .int z1.2.2.2.1) (C := RX8) (T := TX8) (N := 16) hx hb hts inT_X8 hown hK hP 0 rfl rfl 14 (by decide) (hts _ w_4_82) (fun _ h9 => h9) rfl dX8_readsBuild_8 (W.pc 11 rfl ?_)
  obtain ⟨z2, hr_z2, hsp⟩ := bd_s hsp
  have J3 : ∀ (H : Heap) (locs : List Loc) (ls : Array Slot), wP E [(a0, .inr (5, [.ref a0_text, .int a0_letters, .ref a0_town, .ref a0_draft, .ref a0_tried, .ref a0_images, .ref a0_kept, .ref a0_refused, .long a0_above, .long a0_below, .ref a0_line, .ref a0_best, .int z1.2.1, .int z1.2.2.1, .int z2.1, .int z2.2])), (a0_text, aI E 150 fa0_text), (a0_draft, aI E 682 fa0_draft)] H → va_D A [(a0, .inr (5, [.ref a0_text, .int a0_letters, .ref a0_town, .ref a0_draft, .ref a0_tried, .ref a0_images, .ref a0_kept, .ref a0_refused, .long a0_above, .long a0_below, .ref a0_line, .ref a0_best, .int z1.2.1, .int z1.2.2.1, .int z2.1, .int z2.2])), (a0_text, aI E 150 fa0_text), (a0_draft, aI E 682 fa0_draft)] → va_S A s.heap H locs → lv_has ls 4 [(0, .ref a0), (1, .int p1), (2, .int z1.1)] → W p l e (wR 4) s m [.ref a0, .int p1].toArray below meth c H locs 0 0 (MQ below (QWd E A none [(a0, .inr (5, [.ref a0_text, .int a0_letters, .ref a0_town, .ref a0_draft, .ref a0_tried, .ref a0_images, .ref a0_kept, .ref a0_refused, .long a0_above, .long a0_below, .ref a0_line, .ref a0_best, .int z_0, .int z_1, .int z_2, .int z_3])), (a0_text, aI E 150 fa0_text), (a0_draft, aI E 682 z_4)]) [.ref a0, .int p1].toArray s 0 0 A) (F0 m 34 ls []) := by
    intro H locs ls hP hD hS hl
    refine lv_aload_n hx hb dX8_readsBuild_34 rfl (lv_at hl 0 rfl) (W.pc 35 rfl ?_)
    refine lv_iconst (v := (0 : Int32)) hx hb dX8_readsBuild_35 (by decide) (W.pc 36 rfl ?_)
    refine lv_iconst (v := (5 : Int32)) hx hb dX8_readsBuild_36 (by decide) (W.pc 37 rfl ?_)
    obtain ⟨z8, hr_z8, hsp⟩ := bd_s hsp
    refine kVW (st1 := [.int z8.1]) (ws' := [(a0, .inr (5, [.ref a0_text, .int a0_letters, .ref a0_town, .ref a0_draft, .ref a0_tried, .ref a0_images, .ref a0_kept, .ref a0_refused, .long a0_above, .long a0_below, .ref a0_line, .ref a0_best, .int z8.2.1, .int z8.2.2.1, .int z8.2.2.2.1, .int z8.2.2.2.2])), (a0_text, aI E 150 fa0_text), (a0_draft, aI E 682 fa0_draft)]) [0, 1] hX (c_X8_number l E a0 a0_text a0_town a0_draft a0_tried a0_images a0_kept a0_refused a0_line a0_best (0 : Int32) (5 : Int32) a0_letters a0_above a0_below z1.2.1 z1.2.2.1 z2.1 z2.2 fa0_text z8.1 z8.2.1 z8.2.2.1 z8.2.2.2.1 z8.2.2.2.2 hr_z8) B_X8_number w_4_199 hK hP hD hS hA (by decide) rfl rfl rfl (q0 := 0) (ci := 5) rfl rfl rfl rfl hl.1 rfl (Nat.le_of_ble_eq_true rfl) ⟨Nat.le_of_ble_eq_true rfl, Nat.le_of_ble_eq_true rfl⟩ dX8_readsBuild_37 rfl (fun H locs hP hD hS => W.pc 40 rfl ?_)
    refine lv_istore_n (lv' := [(3, .int z8.1), (0, .ref a0), (1, .int p1), (2, .int z1.1)]) hx hb dX8_readsBuild_40 rfl hl (by decide) rfl (fun ls hl => W.pc 41 rfl ?_)
    refine lv_aload_n hx hb dX8_readsBuild_41 rfl (lv_at hl 1 rfl) (W.pc 42 rfl ?_)
    obtain ⟨z9, hr_z9, hsp⟩ := bd_s hsp
    refine kVW (st1 := []) (ws' := [(a0, .inr (5, [.ref a0_text, .int a0_letters, .ref a0_town, .ref a0_draft, .ref a0_tried, .ref a0_images, .ref a0_kept, .ref a0_refused, .long a0_above, .long a0_below, .ref a0_line, .ref a0_best, .int z9.1, .int z9.2.1, .int z9.2.2.1, .int z9.2.2.2])), (a0_text, aI E 150 fa0_text), (a0_draft, aI E 682 fa0_draft)]) [0, 1] hX (c_X8_ends l E a0 a0_text a0_town a0_draft a0_tried a0_images a0_kept a0_refused a0_line a0_best a0_letters a0_above a0_below z8.2.1 z8.2.2.1 z8.2.2.2.1 z8.2.2.2.2 fa0_text z9.1 z9.2.1 z9.2.2.1 z9.2.2.2 hr_z9) B_X8_ends w_4_203 hK hP hD hS hA (by decide) rfl rfl rfl (q0 := 0) (ci := 5) rfl rfl rfl rfl hl.1 rfl (Nat.le_of_ble_eq_true rfl) ⟨Nat.le_of_ble_eq_true rfl, Nat.le_of_ble_eq_true rfl⟩ dX8_readsBuild_42 rfl (fun H locs hP hD hS => W.pc 45 rfl ?_)
    refine lv_aload_n hx hb dX8_readsBuild_45 rfl (lv_at hl 1 rfl) (W.pc 46 rfl ?_)
    refine va_get (D := E.1) (ci := 5) (v := .int z9.2.2.1) (C := RX8) (T := TX8) (N := 16) hx hb hts inT_X8 hown hK hP 0 rfl rfl 14 (by decide) (hts _ w_4_82) (fun _ h9 => h9) rfl dX8_readsBuild_46 (W.pc 49 rfl ?_)
    refine lv_if_eq (tgt := 75) hx hb dX8_readsBuild_49 (by decide) (fun c10 => ?_) (fun c10 => W.pc 52 rfl ?_)
    · have hsp := ip hsp c10
      cases hsp
      exact rWv hX hP hS rfl dX8_readsBuild_75
    · have hsp := iq hsp c10
      refine lv_aload_n hx hb dX8_readsBuild_52 rfl (lv_at hl 1 rfl) (W.pc 53 rfl ?_)
      refine va_get (D := E.1) (ci := 5) (v := .ref a0_draft) (C := RX8) (T := TX8) (N := 16) hx hb hts inT_X8 hown hK hP 0 rfl rfl 3 (by decide) (hts _ w_4_71) (fun _ h9 => h9) rfl dX8_readsBuild_53 (W.pc 56 rfl ?_)
      refine lv_iload_n hx hb dX8_readsBuild_56 rfl (lv_at hl 3 rfl) (W.pc 57 rfl ?_)
      refine lv_iload_n hx hb dX8_readsBuild_57 rfl (lv_at hl 0 rfl) (W.pc 58 rfl ?_)
      refine lv_iload_n hx hb dX8_readsBuild_58 rfl (lv_at hl 2 rfl) (W.pc 59 rfl ?_)
      obtain ⟨z11, hr_z11, hsp⟩ := ltb_s hsp
      have J12 : ∀ (H : Heap) (locs : List Loc) (ls : Array Slot), wP E [(a0, .inr (5, [.ref a0_text, .int a0_letters, .ref a0_town, .ref a0_draft, .ref a0_tried, .ref a0_images, .ref a0_kept, .ref a0_refused, .long a0_above, .long a0_below, .ref a0_line, .ref a0_best, .int z9.1, .int z9.2.1, .int z9.2.2.1, .int z9.2.2.2])), (a0_text, aI E 150 fa0_text), (a0_draft, aI E 682 fa0_draft)] H → va_D A [(a0, .inr (5, [.ref a0_text, .int a0_letters, .ref a0_town, .ref a0_draft, .ref a0_tried, .ref a0_images, .ref a0_kept, .ref a0_refused, .long a0_above, .long a0_below, .ref a0_line, .ref a0_best, .int z9.1, .int z9.2.1, .int z9.2.2.1, .int z9.2.2.2])), (a0_text, aI E 150 fa0_text), (a0_draft, aI E 682 fa0_draft)] → va_S A s.heap H locs → lv_has ls 4 [] → W p l e (wR 4) s m [.ref a0, .int p1].toArray below meth c H locs 0 0 (MQ below (QWd E A none [(a0, .inr (5, [.ref a0_text, .int a0_letters, .ref a0_town, .ref a0_draft, .ref a0_tried, .ref a0_images, .ref a0_kept, .ref a0_refused, .long a0_above, .long a0_below, .ref a0_line, .ref a0_best, .int z_0, .int z_1, .int z_2, .int z_3])), (a0_text, aI E 150 fa0_text), (a0_draft, aI E 682 z_4)]) [.ref a0, .int p1].toArray s 0 0 A) (F0 m 72 ls [.int z11, .int z8.1, .int z1.1, .ref a0_draft]) := by
        intro H locs ls hP hD hS hl
        obtain ⟨z14, hr_z14, hsp⟩ := bd_s hsp
        refine kSW (st1 := []) (ws' := [(a0, .inr (5, [.ref a0_text, .int a0_letters, .ref a0_town, .ref a0_draft, .ref a0_tried, .ref a0_images, .ref a0_kept, .ref a0_refused, .long a0_above, .long a0_below, .ref a0_line, .ref a0_best, .int z9.1, .int z9.2.1, .int z9.2.2.1, .int z9.2.2.2])), (a0_text, aI E 150 fa0_text), (a0_draft, aI E 682 z14)]) [2] hX (c_X8_builds l E a0_draft z1.1 z8.1 z11 fa0_draft z14 hr_z14) B_X8_builds w_4_234 hK hP hD hS hA (by decide) rfl rfl rfl rfl hl.1 rfl (Nat.le_of_ble_eq_true rfl) ⟨Nat.le_of_ble_eq_true rfl, Nat.le_of_ble_eq_true rfl⟩ dX8_readsBuild_72 rfl (fun H locs hP hD hS => W.pc 75 rfl ?_)
        cases hsp
        exact rWv hX hP hS rfl dX8_readsBuild_75
      replace hsp := hr_z11
      refine lv_if_eq (tgt := 66) hx hb dX8_readsBuild_59 (by decide) (fun c13 => ?_) (fun c13 => W.pc 62 rfl ?_)
      · have hsp := ip hsp c13
        refine lv_aload_n hx hb dX8_readsBuild_66 rfl (lv_at hl 1 rfl) (W.pc 67 rfl ?_)
        refine va_get (D := E.1) (ci := 5) (v := .ref a0_draft) (C := RX8) (T := TX8) (N := 16) hx hb hts inT_X8 hown hK hP 0 rfl rfl 3 (by decide) (hts _ w_4_71) (fun _ h9 => h9) rfl dX8_readsBuild_67 (W.pc 70 rfl ?_)
        refine lv_iconst (v := (1 : Int32)) hx hb dX8_readsBuild_70 (by decide) (W.pc 71 rfl ?_)
        refine va_iald hx hb hK hP 2 0 rfl rfl (vp_in_nI (n := 1) (N := 682) (by decide) (by decide)) dX8_readsBuild_71 (W.pc 72 rfl ?_)
        subst hsp
        exact J12 _ _ _ hP hD hS (lv_sub hl [] rfl)
      · have hsp := iq hsp c13
        refine lv_iconst (v := (0 : Int32)) hx hb dX8_readsBuild_62 (by decide) (W.pc 63 rfl ?_)
        refine lv_goto (tgt := 72) hx hb dX8_readsBuild_63 (by decide) ?_
        subst hsp
        exact J12 _ _ _ hP hD hS (lv_sub hl [] rfl)
  replace hsp := hr_z2
  refine lv_if_eq (tgt := 34) hx hb dX8_readsBuild_11 (by decide) (fun c4 => ?_) (fun c4 => W.pc 14 rfl ?_)
  · have hsp := ip hsp c4
    obtain rfl := Option.some.inj hsp
    exact J3 _ _ _ hP hD hS (lv_sub hl [1, 2, 0] rfl)
  · have hsp := iq hsp c4
    refine lv_aload_n hx hb dX8_readsBuild_14 rfl (lv_at hl 1 rfl) (W.pc 15 rfl ?_)
    refine va_get (D := E.1) (ci := 5) (v := .ref a0_draft) (C := RX8) (T := TX8) (N := 16) hx hb hts inT_X8 hown hK hP 0 rfl rfl 3 (by decide) (hts _ w_4_71) (fun _ h9 => h9) rfl dX8_readsBuild_15 (W.pc 18 rfl ?_)
    refine lv_iconst (v := (3 : Int32)) hx hb dX8_readsBuild_18 (by decide) (W.pc 19 rfl ?_)
    refine lv_iload_n hx hb dX8_readsBuild_19 rfl (lv_at hl 0 rfl) (W.pc 20 rfl ?_)
    refine lv_iadd hx hb dX8_readsBuild_20 (W.pc 21 rfl ?_)
    obtain ⟨h5, hsp⟩ := gi_s hsp
    refine va_iald hx hb hK hP 2 0 rfl rfl h5 dX8_readsBuild_21 (W.pc 22 rfl ?_)
    refine lv_iconst (v := (5 : Int32)) hx hb dX8_readsBuild_22 (by decide) (W.pc 23 rfl ?_)
    refine lv_icmp_ne (tgt := 34) hx hb dX8_readsBuild_23 (by decide) (fun c6 => ?_) (fun c6 => W.pc 26 rfl ?_)
    · have hsp := iq hsp c6
      obtain rfl := Option.some.inj hsp
      exact J3 _ _ _ hP hD hS (lv_sub hl [1, 2, 0] rfl)
    · have hsp := ip hsp c6
      refine lv_aload_n hx hb dX8_readsBuild_26 rfl (lv_at hl 1 rfl) (W.pc 27 rfl ?_)
      refine lv_aload_n hx hb dX8_readsBuild_27 rfl (lv_at hl 1 rfl) (W.pc 28 rfl ?_)
      refine va_get (D := E.1) (ci := 5) (v := .int z1.2.2.1) (C := RX8) (T := TX8) (N := 16) hx hb hts inT_X8 hown hK hP 0 rfl rfl 13 (by decide) (hts _ w_4_81) (fun _ h9 => h9) rfl dX8_readsBuild_28 (W.pc 31 rfl ?_)
      obtain ⟨z7, hr_z7, hsp⟩ := ltb_s hsp
      refine kVW (st1 := []) (ws' := [(a0, .inr (5, [.ref a0_text, .int a0_letters, .ref a0_town, .ref a0_draft, .ref a0_tried, .ref a0_images, .ref a0_kept, .ref a0_refused, .long a0_above, .long a0_below, .ref a0_line, .ref a0_best, .int z1.2.1, .int z1.2.2.1, .int z7.1, .int z7.2])), (a0_text, aI E 150 fa0_text), (a0_draft, aI E 682 fa0_draft)]) [0] hX (c_X8_fails l E a0 a0_text a0_town a0_draft a0_tried a0_images a0_kept a0_refused a0_line a0_best z1.2.2.1 a0_letters a0_above a0_below z1.2.1 z1.2.2.1 z1.2.2.2.1 z1.2.2.2.2 z7.1 z7.2 hr_z7) B_X8_fails w_4_195 hK hP hD hS hA (by decide) rfl rfl rfl (q0 := 0) (ci := 5) rfl rfl rfl rfl hl.1 rfl (Nat.le_of_ble_eq_true rfl) ⟨Nat.le_of_ble_eq_true rfl, Nat.le_of_ble_eq_true rfl⟩ dX8_readsBuild_31 rfl (fun H locs hP hD hS => W.pc 34 rfl ?_)
      obtain rfl := Option.some.inj hsp
      exact J3 _ _ _ hP hD hS (lv_sub hl [1, 2, 0] rfl)
noncomputable def lp_X8_readsYears_14 (z1 : Int32 × Int32 × Int32 × Int32 × Int32) (z2 : Int32 × Int32 × Int32 × Int32) : Nat → Int32 → ((Nat → Int32)) → Option (Int32 × (Nat → Int32))
 | 0, _, _ => none
 | fu + 1, x2_14, ya0_draft_f_14 => if z1.1 ≤ x2_14 then (some (x2_14, ya0_draft_f_14)) else (if z2.2.2.1 = 0 then (some (x2_14, ya0_draft_f_14)) else (Option.bind (sp_X8_passes ya0_draft_f_14) fun z6 => lp_X8_readsYears_14 z1 z2 fu (x2_14 + (1 : Int32)) z6))
noncomputable def sp_X8_readsYears (a0_letters : Int32) (a0_at : Int32) (a0_isWell : Int32) (a0_faultAt : Int32) (fa0_text : Nat → Int32) (fa0_draft : Nat → Int32) : Option (Int32 × Int32 × Int32 × Int32 × (Nat → Int32)) := Option.bind (sp_X8_number (1 : Int32) (99 : Int32) a0_letters a0_at a0_isWell a0_faultAt fa0_text) fun z1 => Option.bind (sp_X8_ends a0_letters z1.2.1 z1.2.2.2.1 z1.2.2.2.2 fa0_text) fun z2 => Option.bind (lp_X8_readsYears_14 z1 z2 FU (0 : Int32) fa0_draft) fun z3 => some (z2.1, z2.2.1, z2.2.2.1, z2.2.2.2, z3.2)
set_option maxHeartbeats 4000000 in
set_option maxRecDepth 100000 in
theorem c_X8_readsYears (l : Launch) (E : wE) (a0 a0_text a0_town a0_draft a0_tried a0_images a0_kept a0_refused a0_line a0_best : Nat) (a0_letters : Int32) (a0_above : Int64) (a0_below : Int64) (a0_at : Int32) (a0_start : Int32) (a0_isWell : Int32) (a0_faultAt : Int32) (fa0_text : Nat → Int32) (fa0_draft : Nat → Int32) (z_0 : Int32) (z_1 : Int32) (z_2 : Int32) (z_3 : Int32) (z_4 : (Nat → Int32)) (hsp : sp_X8_readsYears a0_letters a0_at a0_isWell a0_faultAt fa0_text fa0_draft = some (z_0, z_1, z_2, z_3, z_4)) : MW l yX8_readsYears cX8_readsYears 3 none 3 E [.ref a0] [(a0, .inr (5, [.ref a0_text, .int a0_letters, .ref a0_town, .ref a0_draft, .ref a0_tried, .ref a0_images, .ref a0_kept, .ref a0_refused, .long a0_above, .long a0_below, .ref a0_line, .ref a0_best, .int a0_at, .int a0_start, .int a0_isWell, .int a0_faultAt])), (a0_text, aI E 150 fa0_text), (a0_draft, aI E 682 fa0_draft)] none [(a0, .inr (5, [.ref a0_text, .int a0_letters, .ref a0_town, .ref a0_draft, .ref a0_tried, .ref a0_images, .ref a0_kept, .ref a0_refused, .long a0_above, .long a0_below, .ref a0_line, .ref a0_best, .int z_0, .int z_1, .int z_2, .int z_3])), (a0_text, aI E 150 fa0_text), (a0_draft, aI E 682 z_4)] := by
  refine MW.of (by decide +kernel) (Nat.le_of_ble_eq_true rfl) ?_
  intro p e s m below meth c ls A hX hK hP hD hS hA hl
  have hX : CX p s m [.ref a0].toArray meth c cX8_readsYears 3 none RX8 := hX
  have hx := hX.1; have hb := hX.2.1; have hts := hX.2.2.2.2.1; have hown := hX.2.2.2.2.2.1
  have hl : lv_has ls 3 [(0, .ref a0)] := hl
  have hP : wP E [(a0, .inr (5, [.ref a0_text, .int a0_letters, .ref a0_town, .ref a0_draft, .ref a0_tried, .ref a0_images, .ref a0_kept, .ref a0_refused, .long a0_above, .long a0_below, .ref a0_line, .ref a0_best, .int a0_at, .int a0_start, .int a0_isWell, .int a0_faultAt])), (a0_text, aI E 150 fa0_text), (a0_draft, aI E 682 fa0_draft)] s.heap := hP
  have hsp : (Option.bind (sp_X8_number (1 : Int32) (99 : Int32) a0_letters a0_at a0_isWell a0_faultAt fa0_text) fun z1 => Option.bind (sp_X8_ends a0_letters z1.2.1 z1.2.2.2.1 z1.2.2.2.2 fa0_text) fun z2 => Option.bind (lp_X8_readsYears_14 z1 z2 FU (0 : Int32) fa0_draft) fun z3 => some (z2.1, z2.2.1, z2.2.2.1, z2.2.2.2, z3.2)) = some (z_0, z_1, z_2, z_3, z_4) := hsp
  refine lv_aload_n hx hb dX8_readsYears_0 rfl (lv_at hl 0 rfl) (W.pc 1 rfl ?_)
  refine lv_iconst (v := (1 : Int32)) hx hb dX8_readsYears_1 (by decide) (W.pc 2 rfl ?_)
  refine lv_bipush (v := (99 : Int32)) hx hb dX8_readsYears_2 (by decide) (W.pc 4 rfl ?_)
  obtain ⟨z1, hr_z1, hsp⟩ := bd_s hsp
  refine kVW (st1 := [.int z1.1]) (ws' := [(a0, .inr (5, [.ref a0_text, .int a0_letters, .ref a0_town, .ref a0_draft, .ref a0_tried, .ref a0_images, .ref a0_kept, .ref a0_refused, .long a0_above, .long a0_below, .ref a0_line, .ref a0_best, .int z1.2.1, .int z1.2.2.1, .int z1.2.2.2.1, .int z1.2.2.2.2])), (a0_text, aI E 150 fa0_text), (a0_draft, aI E 682 fa0_draft)]) [0, 1] hX (c_X8_number l E a0 a0_text a0_town a0_draft a0_tried a0_images a0_kept a0_refused a0_line a0_best (1 : Int32) (99 : Int32) a0_letters a0_above a0_below a0_at a0_start a0_isWell a0_faultAt fa0_text z1.1 z1.2.1 z1.2.2.1 z1.2.2.2.1 z1.2.2.2.2 hr_z1) B_X8_number w_4_199 hK hP hD hS hA (by decide) rfl rfl rfl (q0 := 0) (ci := 5) rfl rfl rfl rfl hl.1 rfl (Nat.le_of_ble_eq_true rfl) ⟨Nat.le_of_ble_eq_true rfl, Nat.le_of_ble_eq_true rfl⟩ dX8_readsYears_4 rfl (fun H locs hP hD hS => W.pc 7 rfl ?_)
  refine lv_istore_n (lv' := [(1, .int z1.1), (0, .ref a0)]) hx hb dX8_readsYears_7 rfl hl (by decide) rfl (fun ls hl => W.pc 8 rfl ?_)
  refine lv_aload_n hx hb dX8_readsYears_8 rfl (lv_at hl 1 rfl) (W.pc 9 rfl ?_)
  obtain ⟨z2, hr_z2, hsp⟩ := bd_s hsp
  refine kVW (st1 := []) (ws' := [(a0, .inr (5, [.ref a0_text, .int a0_letters, .ref a0_town, .ref a0_draft, .ref a0_tried, .ref a0_images, .ref a0_kept, .ref a0_refused, .long a0_above, .long a0_below, .ref a0_line, .ref a0_best, .int z2.1, .int z2.2.1, .int z2.2.2.1, .int z2.2.2.2])), (a0_text, aI E 150 fa0_text), (a0_draft, aI E 682 fa0_draft)]) [0, 1] hX (c_X8_ends l E a0 a0_text a0_town a0_draft a0_tried a0_images a0_kept a0_refused a0_line a0_best a0_letters a0_above a0_below z1.2.1 z1.2.2.1 z1.2.2.2.1 z1.2.2.2.2 fa0_text z2.1 z2.2.1 z2.2.2.1 z2.2.2.2 hr_z2) B_X8_ends w_4_203 hK hP hD hS hA (by decide) rfl rfl rfl (q0 := 0) (ci := 5) rfl rfl rfl rfl hl.1 rfl (Nat.le_of_ble_eq_true rfl) ⟨Nat.le_of_ble_eq_true rfl, Nat.le_of_ble_eq_true rfl⟩ dX8_readsYears_9 rfl (fun H locs hP hD hS => W.pc 12 rfl ?_)
  refine lv_iconst (v := (0 : Int32)) hx hb dX8_readsYears_12 (by decide) (W.pc 13 rfl ?_)
  refine lv_istore_n (lv' := [(2, .int (0 : Int32)), (1, .int z1.1), (0, .ref a0)]) hx hb dX8_readsYears_13 rfl hl (by decide) rfl (fun ls hl => W.pc 14 rfl ?_)
  have L_14 : ∀ (z3 : Int32 × (Nat → Int32)), (∀ (H : Heap) (locs : List Loc) (ls : Array Slot), wP E [(a0, .inr (5, [.ref a0_text, .int a0_letters, .ref a0_town, .ref a0_draft, .ref a0_tried, .ref a0_images, .ref a0_kept, .ref a0_refused, .long a0_above, .long a0_below, .ref a0_line, .ref a0_best, .int z2.1, .int z2.2.1, .int z2.2.2.1, .int z2.2.2.2])), (a0_text, aI E 150 fa0_text), (a0_draft, aI E 682 z3.2)] H → va_D A [(a0, .inr (5, [.ref a0_text, .int a0_letters, .ref a0_town, .ref a0_draft, .ref a0_tried, .ref a0_images, .ref a0_kept, .ref a0_refused, .long a0_above, .long a0_below, .ref a0_line, .ref a0_best, .int z2.1, .int z2.2.1, .int z2.2.2.1, .int z2.2.2.2])), (a0_text, aI E 150 fa0_text), (a0_draft, aI E 682 z3.2)] → va_S A s.heap H locs → lv_has ls 3 [] → W p l e (wR 3) s m [.ref a0].toArray below meth c H locs 0 0 (MQ below (QWd E A none [(a0, .inr (5, [.ref a0_text, .int a0_letters, .ref a0_town, .ref a0_draft, .ref a0_tried, .ref a0_images, .ref a0_kept, .ref a0_refused, .long a0_above, .long a0_below, .ref a0_line, .ref a0_best, .int z_0, .int z_1, .int z_2, .int z_3])), (a0_text, aI E 150 fa0_text), (a0_draft, aI E 682 z_4)]) [.ref a0].toArray s 0 0 A) (F0 m 39 ls [])) → ∀ (fu : Nat) (x2_14 : Int32) (ya0_draft_f_14 : (Nat → Int32)), ∀ (H : Heap) (locs : List Loc) (ls : Array Slot), wP E [(a0, .inr (5, [.ref a0_text, .int a0_letters, .ref a0_town, .ref a0_draft, .ref a0_tried, .ref a0_images, .ref a0_kept, .ref a0_refused, .long a0_above, .long a0_below, .ref a0_line, .ref a0_best, .int z2.1, .int z2.2.1, .int z2.2.2.1, .int z2.2.2.2])), (a0_text, aI E 150 fa0_text), (a0_draft, aI E 682 ya0_draft_f_14)] H → va_D A [(a0, .inr (5, [.ref a0_text, .int a0_letters, .ref a0_town, .ref a0_draft, .ref a0_tried, .ref a0_images, .ref a0_kept, .ref a0_refused, .long a0_above, .long a0_below, .ref a0_line, .ref a0_best, .int z2.1, .int z2.2.1, .int z2.2.2.1, .int z2.2.2.2])), (a0_text, aI E 150 fa0_text), (a0_draft, aI E 682 ya0_draft_f_14)] → va_S A s.heap H locs → lv_has ls 3 [(0, .ref a0), (1, .int z1.1), (2, .int x2_14)] → lp_X8_readsYears_14 z1 z2 fu x2_14 ya0_draft_f_14 = some z3 → W p l e (wR 3) s m [.ref a0].toArray below meth c H locs 0 0 (MQ below (QWd E A none [(a0, .inr (5, [.ref a0_text, .int a0_letters, .ref a0_town, .ref a0_draft, .ref a0_tried, .ref a0_images, .ref a0_kept, .ref a0_refused, .long a0_above, .long a0_below, .ref a0_line, .ref a0_best, .int z_0, .int z_1, .int z_2, .int z_3])), (a0_text, aI E 150 fa0_text), (a0_draft, aI E 682 z_4)]) [.ref a0].toArray s 0 0 A) (F0 m 14 ls []) := by
    intro z3 hk_14 fu
    induction fu with
    | zero => intro x2_14 ya0_draft_f_14 H locs ls hP hD hS hl hsp; exact absurd (show none = some _ from hsp) (by simp)
    | succ fu ih_14 =>
      intro x2_14 ya0_draft_f_14 H locs ls hP hD hS hl hsp
      have hsp : (if z1.1 ≤ x2_14 then (some (x2_14, ya0_draft_f_14)) else (if z2.2.2.1 = 0 then (some (x2_14, ya0_draft_f_14)) else (Option.bind (sp_X8_passes ya0_draft_f_14) fun z6 => lp_X8_readsYears_14 z1 z2 fu (x2_14 + (1 : Int32)) z6))) = some z3 := hsp
      refine lv_iload_n hx hb dX8_readsYears_14 rfl (lv_at hl 2 rfl) (W.pc 15 rfl ?_)
      refine lv_iload_n hx hb dX8_readsYears_15 rfl (lv_at hl 1 rfl) (W.pc 16 rfl ?_)
      refine lv_icmp_ge (tgt := 39) hx hb dX8_readsYears_16 (by decide) (fun c4 => ?_) (fun c4 => W.pc 19 rfl ?_)
      · have hsp := ip hsp c4
        obtain rfl := Option.some.inj hsp
        exact hk_14 _ _ _ hP hD hS (lv_sub hl [] rfl)
      · have hsp := iq hsp c4
        refine lv_aload_n hx hb dX8_readsYears_19 rfl (lv_at hl 0 rfl) (W.pc 20 rfl ?_)
        refine va_get (D := E.1) (ci := 5) (v := .int z2.2.2.1) (C := RX8) (T := TX8) (N := 16) hx hb hts inT_X8 hown hK hP 0 rfl rfl 14 (by decide) (hts _ w_4_82) (fun _ h9 => h9) rfl dX8_readsYears_20 (W.pc 23 rfl ?_)
        refine lv_if_eq (tgt := 39) hx hb dX8_readsYears_23 (by decide) (fun c5 => ?_) (fun c5 => W.pc 26 rfl ?_)
        · have hsp := ip hsp c5
          obtain rfl := Option.some.inj hsp
          exact hk_14 _ _ _ hP hD hS (lv_sub hl [] rfl)
        · have hsp := iq hsp c5
          refine lv_aload_n hx hb dX8_readsYears_26 rfl (lv_at hl 0 rfl) (W.pc 27 rfl ?_)
          refine va_get (D := E.1) (ci := 5) (v := .ref a0_draft) (C := RX8) (T := TX8) (N := 16) hx hb hts inT_X8 hown hK hP 0 rfl rfl 3 (by decide) (hts _ w_4_71) (fun _ h9 => h9) rfl dX8_readsYears_27 (W.pc 30 rfl ?_)
          obtain ⟨z6, hr_z6, hsp⟩ := bd_s hsp
          refine kSW (st1 := []) (ws' := [(a0, .inr (5, [.ref a0_text, .int a0_letters, .ref a0_town, .ref a0_draft, .ref a0_tried, .ref a0_images, .ref a0_kept, .ref a0_refused, .long a0_above, .long a0_below, .ref a0_line, .ref a0_best, .int z2.1, .int z2.2.1, .int z2.2.2.1, .int z2.2.2.2])), (a0_text, aI E 150 fa0_text), (a0_draft, aI E 682 z6)]) [2] hX (c_X8_passes l E a0_draft ya0_draft_f_14 z6 hr_z6) B_X8_passes w_4_215 hK hP hD hS hA (by decide) rfl rfl rfl rfl hl.1 rfl (Nat.le_of_ble_eq_true rfl) ⟨Nat.le_of_ble_eq_true rfl, Nat.le_of_ble_eq_true rfl⟩ dX8_readsYears_30 rfl (fun H locs hP hD hS => W.pc 33 rfl ?_)
          refine lv_iinc (v := (x2_14 + (1 : Int32))) (lv' := [(2, .int (x2_14 + (1 : Int32))), (0, .ref a0), (1, .int z1.1)]) hx hb dX8_readsYears_33 hl (k := 2) rfl rfl (by decide) rfl (fun ls hl => W.pc 36 rfl ?_)
          refine lv_goto (tgt := 14) hx hb dX8_readsYears_36 (by decide) ?_
          exact ih_14 (x2_14 + (1 : Int32)) z6 _ _ _ hP hD hS (lv_sub hl [1, 2, 0] rfl) hsp
  obtain ⟨z3, hr_z3, hsp⟩ := bd_s hsp
  refine L_14 z3 (fun H locs ls hP hD hS hl => ?_) FU (0 : Int32) fa0_draft _ _ _ hP hD hS (lv_sub hl [2, 1, 0] rfl) hr_z3
  cases hsp
  exact rWv hX hP hS rfl dX8_readsYears_39
noncomputable def sp_X8_readsItem (p1 : Int32) (a0_letters : Int32) (a0_at : Int32) (a0_isWell : Int32) (a0_faultAt : Int32) (fa0_text : Nat → Int32) (fa0_draft : Nat → Int32) : Option (Int32 × Int32 × Int32 × Int32 × (Nat → Int32)) := Option.bind (sp_X8_word a0_letters a0_at fa0_text) fun z1 => lt_ (if (sp_X8_itemBy z1.1 (z1.2.1 - z1.2.2)) = (1 : Int32) then ((1 : Int32)) else ((0 : Int32))) fun z2 => if p1 = z2 then (if (sp_X8_itemBy z1.1 (z1.2.1 - z1.2.2)) = 0 then (lt_ (sp_X8_fails z1.2.2 a0_isWell a0_faultAt) fun z20 => some (z1.2.1, z1.2.2, z20.1, z20.2, fa0_draft)) else (if (sp_X8_itemBy z1.1 (z1.2.1 - z1.2.2)) = (1 : Int32) then (Option.bind (sp_X8_number (0 : Int32) (5 : Int32) a0_letters z1.2.1 a0_isWell a0_faultAt fa0_text) fun z18 => Option.bind (sp_X8_ends a0_letters z18.2.1 z18.2.2.2.1 z18.2.2.2.2 fa0_text) fun z19 => some (z19.1, z19.2.1, z19.2.2.1, z19.2.2.2, (upd fa0_draft ((0 : Int32)).toNatClampNeg z18.1))) else (if (sp_X8_itemBy z1.1 (z1.2.1 - z1.2.2)) = (2 : Int32) then (Option.bind (sp_X8_readsPulls a0_letters z1.2.1 z1.2.2 a0_isWell a0_faultAt fa0_text fa0_draft) fun z16 => Option.bind (sp_X8_ends a0_letters z16.1 z16.2.2.1 z16.2.2.2.1 fa0_text) fun z17 => some (z17.1, z17.2.1, z17.2.2.1, z17.2.2.2, z16.2.2.2.2)) else (if (sp_X8_itemBy z1.1 (z1.2.1 - z1.2.2)) = (5 : Int32) then (Option.bind (sp_X8_readsYears a0_letters z1.2.1 a0_isWell a0_faultAt fa0_text fa0_draft) fun z15 => some (z15.1, z15.2.1, z15.2.2.1, z15.2.2.2.1, z15.2.2.2.2)) else (lt_ (if (sp_X8_itemBy z1.1 (z1.2.1 - z1.2.2)) = (4 : Int32) then ((1 : Int32)) else ((0 : Int32))) fun z11 => Option.bind (sp_X8_readsBuild z11 a0_letters z1.2.1 a0_isWell a0_faultAt fa0_text fa0_draft) fun z14 => some (z14.1, z14.2.1, z14.2.2.1, z14.2.2.2.1, z14.2.2.2.2)))))) else (lt_ (sp_X8_fails z1.2.2 a0_isWell a0_faultAt) fun z6 => some (z1.2.1, z1.2.2, z6.1, z6.2, fa0_draft))
set_option maxHeartbeats 4000000 in
set_option maxRecDepth 100000 in
theorem c_X8_readsItem (l : Launch) (E : wE) (a0 a0_text a0_town a0_draft a0_tried a0_images a0_kept a0_refused a0_line a0_best : Nat) (p1 : Int32) (a0_letters : Int32) (a0_above : Int64) (a0_below : Int64) (a0_at : Int32) (a0_start : Int32) (a0_isWell : Int32) (a0_faultAt : Int32) (fa0_text : Nat → Int32) (fa0_draft : Nat → Int32) (z_0 : Int32) (z_1 : Int32) (z_2 : Int32) (z_3 : Int32) (z_4 : (Nat → Int32)) (hsp : sp_X8_readsItem p1 a0_letters a0_at a0_isWell a0_faultAt fa0_text fa0_draft = some (z_0, z_1, z_2, z_3, z_4)) : MW l yX8_readsItem cX8_readsItem 4 none 5 E [.ref a0, .int p1] [(a0, .inr (5, [.ref a0_text, .int a0_letters, .ref a0_town, .ref a0_draft, .ref a0_tried, .ref a0_images, .ref a0_kept, .ref a0_refused, .long a0_above, .long a0_below, .ref a0_line, .ref a0_best, .int a0_at, .int a0_start, .int a0_isWell, .int a0_faultAt])), (a0_text, aI E 150 fa0_text), (a0_draft, aI E 682 fa0_draft)] none [(a0, .inr (5, [.ref a0_text, .int a0_letters, .ref a0_town, .ref a0_draft, .ref a0_tried, .ref a0_images, .ref a0_kept, .ref a0_refused, .long a0_above, .long a0_below, .ref a0_line, .ref a0_best, .int z_0, .int z_1, .int z_2, .int z_3])), (a0_text, aI E 150 fa0_text), (a0_draft, aI E 682 z_4)] := by
  refine MW.of (by decide +kernel) (Nat.le_of_ble_eq_true rfl) ?_
  intro p e s m below meth c ls A hX hK hP hD hS hA hl
  have hX : CX p s m [.ref a0, .int p1].toArray meth c cX8_readsItem 4 none RX8 := hX
  have hx := hX.1; have hb := hX.2.1; have hts := hX.2.2.2.2.1; have hown := hX.2.2.2.2.2.1
  have hl : lv_has ls 4 [(0, .ref a0), (1, .int p1)] := hl
  have hP : wP E [(a0, .inr (5, [.ref a0_text, .int a0_letters, .ref a0_town, .ref a0_draft, .ref a0_tried, .ref a0_images, .ref a0_kept, .ref a0_refused, .long a0_above, .long a0_below, .ref a0_line, .ref a0_best, .int a0_at, .int a0_start, .int a0_isWell, .int a0_faultAt])), (a0_text, aI E 150 fa0_text), (a0_draft, aI E 682 fa0_draft)] s.heap := hP
  have hsp : (Option.bind (sp_X8_word a0_letters a0_at fa0_text) fun z1 => lt_ (if (sp_X8_itemBy z1.1 (z1.2.1 - z1.2.2)) = (1 : Int32) then ((1 : Int32)) else ((0 : Int32))) fun z2 => if p1 = z2 then (if (sp_X8_itemBy z1.1 (z1.2.1 - z1.2.2)) = 0 then (lt_ (sp_X8_fails z1.2.2 a0_isWell a0_faultAt) fun z20 => some (z1.2.1, z1.2.2, z20.1, z20.2, fa0_draft)) else (if (sp_X8_itemBy z1.1 (z1.2.1 - z1.2.2)) = (1 : Int32) then (Option.bind (sp_X8_number (0 : Int32) (5 : Int32) a0_letters z1.2.1 a0_isWell a0_faultAt fa0_text) fun z18 => Option.bind (sp_X8_ends a0_letters z18.2.1 z18.2.2.2.1 z18.2.2.2.2 fa0_text) fun z19 => some (z19.1, z19.2.1, z19.2.2.1, z19.2.2.2, (upd fa0_draft ((0 : Int32)).toNatClampNeg z18.1))) else (if (sp_X8_itemBy z1.1 (z1.2.1 - z1.2.2)) = (2 : Int32) then (Option.bind (sp_X8_readsPulls a0_letters z1.2.1 z1.2.2 a0_isWell a0_faultAt fa0_text fa0_draft) fun z16 => Option.bind (sp_X8_ends a0_letters z16.1 z16.2.2.1 z16.2.2.2.1 fa0_text) fun z17 => some (z17.1, z17.2.1, z17.2.2.1, z17.2.2.2, z16.2.2.2.2)) else (if (sp_X8_itemBy z1.1 (z1.2.1 - z1.2.2)) = (5 : Int32) then (Option.bind (sp_X8_readsYears a0_letters z1.2.1 a0_isWell a0_faultAt fa0_text fa0_draft) fun z15 => some (z15.1, z15.2.1, z15.2.2.1, z15.2.2.2.1, z15.2.2.2.2)) else (lt_ (if (sp_X8_itemBy z1.1 (z1.2.1 - z1.2.2)) = (4 : Int32) then ((1 : Int32)) else ((0 : Int32))) fun z11 => Option.bind (sp_X8_readsBuild z11 a0_letters z1.2.1 a0_isWell a0_faultAt fa0_text fa0_draft) fun z14 => some (z14.1, z14.2.1, z14.2.2.1, z14.2.2.2.1, z14.2.2.2.2)))))) else (lt_ (sp_X8_fails z1.2.2 a0_isWell a0_faultAt) fun z6 => some (z1.2.1, z1.2.2, z6.1, z6.2, fa0_draft))) = some (z_0, z_1, z_2, z_3, z_4) := hsp
  refine lv_aload_n hx hb dX8_readsItem_0 rfl (lv_at hl 0 rfl) (W.pc 1 rfl ?_)
  obtain ⟨z1, hr_z1, hsp⟩ := bd_s hsp
  refine kVW (st1 := [.int z1.1]) (ws' := [(a0, .inr (5, [.ref a0_text, .int a0_letters, .ref a0_town, .ref a0_draft, .ref a0_tried, .ref a0_images, .ref a0_kept, .ref a0_refused, .long a0_above, .long a0_below, .ref a0_line, .ref a0_best, .int z1.2.1, .int z1.2.2, .int a0_isWell, .int a0_faultAt])), (a0_text, aI E 150 fa0_text), (a0_draft, aI E 682 fa0_draft)]) [0, 1] hX (c_X8_word l E a0 a0_text a0_town a0_draft a0_tried a0_images a0_kept a0_refused a0_line a0_best a0_letters a0_above a0_below a0_at a0_start a0_isWell a0_faultAt fa0_text z1.1 z1.2.1 z1.2.2 hr_z1) B_X8_word w_4_176 hK hP hD hS hA (by decide) rfl rfl rfl (q0 := 0) (ci := 5) rfl rfl rfl rfl hl.1 rfl (Nat.le_of_ble_eq_true rfl) ⟨Nat.le_of_ble_eq_true rfl, Nat.le_of_ble_eq_true rfl⟩ dX8_readsItem_1 rfl (fun H locs hP hD hS => W.pc 4 rfl ?_)
  refine lv_istore_n (lv' := [(2, .int z1.1), (0, .ref a0), (1, .int p1)]) hx hb dX8_readsItem_4 rfl hl (by decide) rfl (fun ls hl => W.pc 5 rfl ?_)
  refine lv_aload_n hx hb dX8_readsItem_5 rfl (lv_at hl 1 rfl) (W.pc 6 rfl ?_)
  refine lv_iload_n hx hb dX8_readsItem_6 rfl (lv_at hl 0 rfl) (W.pc 7 rfl ?_)
  refine lv_aload_n hx hb dX8_readsItem_7 rfl (lv_at hl 1 rfl) (W.pc 8 rfl ?_)
  refine va_get (D := E.1) (ci := 5) (v := .int z1.2.1) (C := RX8) (T := TX8) (N := 16) hx hb hts inT_X8 hown hK hP 0 rfl rfl 12 (by decide) (hts _ w_4_80) (fun _ h9 => h9) rfl dX8_readsItem_8 (W.pc 11 rfl ?_)
  refine lv_aload_n hx hb dX8_readsItem_11 rfl (lv_at hl 1 rfl) (W.pc 12 rfl ?_)
  refine va_get (D := E.1) (ci := 5) (v := .int z1.2.2) (C := RX8) (T := TX8) (N := 16) hx hb hts inT_X8 hown hK hP 0 rfl rfl 13 (by decide) (hts _ w_4_81) (fun _ h9 => h9) rfl dX8_readsItem_12 (W.pc 15 rfl ?_)
  refine lv_isub hx hb dX8_readsItem_15 (W.pc 16 rfl ?_)
  refine kVR (st1 := [.int (sp_X8_itemBy z1.1 (z1.2.1 - z1.2.2))]) hX (c_X8_itemBy l E a0 a0_text a0_town a0_draft a0_tried a0_images a0_kept a0_refused a0_line a0_best z1.1 (z1.2.1 - z1.2.2) a0_letters a0_above a0_below z1.2.1 z1.2.2 a0_isWell a0_faultAt _ rfl) B_X8_itemBy w_4_188 hK (hP.pick [0] rfl) (q0 := 0) (ci := 5) rfl rfl rfl rfl hl.1 rfl (Nat.le_of_ble_eq_true rfl) ⟨Nat.le_of_ble_eq_true rfl, Nat.le_of_ble_eq_true rfl⟩ dX8_readsItem_16 rfl (W.pc 19 rfl ?_)
  refine lv_istore_n (lv' := [(3, .int (sp_X8_itemBy z1.1 (z1.2.1 - z1.2.2))), (2, .int z1.1), (0, .ref a0), (1, .int p1)]) hx hb dX8_readsItem_19 rfl hl (by decide) rfl (fun ls hl => W.pc 20 rfl ?_)
  refine lv_iload_n hx hb dX8_readsItem_20 rfl (lv_at hl 3 rfl) (W.pc 21 rfl ?_)
  refine lv_iload_n hx hb dX8_readsItem_21 rfl (lv_at hl 0 rfl) (W.pc 22 rfl ?_)
  refine lv_iconst (v := (1 : Int32)) hx hb dX8_readsItem_22 (by decide) (W.pc 23 rfl ?_)
  obtain ⟨z2, hr_z2, hsp⟩ := ltb_s hsp
  have J3 : ∀ (H : Heap) (locs : List Loc) (ls : Array Slot), wP E [(a0, .inr (5, [.ref a0_text, .int a0_letters, .ref a0_town, .ref a0_draft, .ref a0_tried, .ref a0_images, .ref a0_kept, .ref a0_refused, .long a0_above, .long a0_below, .ref a0_line, .ref a0_best, .int z1.2.1, .int z1.2.2, .int a0_isWell, .int a0_faultAt])), (a0_text, aI E 150 fa0_text), (a0_draft, aI E 682 fa0_draft)] H → va_D A [(a0, .inr (5, [.ref a0_text, .int a0_letters, .ref a0_town, .ref a0_draft, .ref a0_tried, .ref a0_images, .ref a0_kept, .ref a0_refused, .long a0_above, .long a0_below, .ref a0_line, .ref a0_best, .int z1.2.1, .int z1.2.2, .int a0_isWell, .int a0_faultAt])), (a0_text, aI E 150 fa0_text), (a0_draft, aI E 682 fa0_draft)] → va_S A s.heap H locs → lv_has ls 4 [(0, .ref a0), (3, .int (sp_X8_itemBy z1.1 (z1.2.1 - z1.2.2)))] → W p l e (wR 5) s m [.ref a0, .int p1].toArray below meth c H locs 0 0 (MQ below (QWd E A none [(a0, .inr (5, [.ref a0_text, .int a0_letters, .ref a0_town, .ref a0_draft, .ref a0_tried, .ref a0_images, .ref a0_kept, .ref a0_refused, .long a0_above, .long a0_below, .ref a0_line, .ref a0_best, .int z_0, .int z_1, .int z_2, .int z_3])), (a0_text, aI E 150 fa0_text), (a0_draft, aI E 682 z_4)]) [.ref a0, .int p1].toArray s 0 0 A) (F0 m 31 ls [.int z2, .int p1]) := by
    intro H locs ls hP hD hS hl
    refine lv_icmp_ne (tgt := 38) hx hb dX8_readsItem_31 (by decide) (fun c5 => ?_) (fun c5 => W.pc 34 rfl ?_)
    · have hsp := iq hsp c5
      refine lv_aload_n hx hb dX8_readsItem_38 rfl (lv_at hl 0 rfl) (W.pc 39 rfl ?_)
      refine lv_aload_n hx hb dX8_readsItem_39 rfl (lv_at hl 0 rfl) (W.pc 40 rfl ?_)
      refine va_get (D := E.1) (ci := 5) (v := .int z1.2.2) (C := RX8) (T := TX8) (N := 16) hx hb hts inT_X8 hown hK hP 0 rfl rfl 13 (by decide) (hts _ w_4_81) (fun _ h9 => h9) rfl dX8_readsItem_40 (W.pc 43 rfl ?_)
      obtain ⟨z6, hr_z6, hsp⟩ := ltb_s hsp
      refine kVW (st1 := []) (ws' := [(a0, .inr (5, [.ref a0_text, .int a0_letters, .ref a0_town, .ref a0_draft, .ref a0_tried, .ref a0_images, .ref a0_kept, .ref a0_refused, .long a0_above, .long a0_below, .ref a0_line, .ref a0_best, .int z1.2.1, .int z1.2.2, .int z6.1, .int z6.2])), (a0_text, aI E 150 fa0_text), (a0_draft, aI E 682 fa0_draft)]) [0] hX (c_X8_fails l E a0 a0_text a0_town a0_draft a0_tried a0_images a0_kept a0_refused a0_line a0_best z1.2.2 a0_letters a0_above a0_below z1.2.1 z1.2.2 a0_isWell a0_faultAt z6.1 z6.2 hr_z6) B_X8_fails w_4_195 hK hP hD hS hA (by decide) rfl rfl rfl (q0 := 0) (ci := 5) rfl rfl rfl rfl hl.1 rfl (Nat.le_of_ble_eq_true rfl) ⟨Nat.le_of_ble_eq_true rfl, Nat.le_of_ble_eq_true rfl⟩ dX8_readsItem_43 rfl (fun H locs hP hD hS => W.pc 46 rfl ?_)
      refine lv_goto (tgt := 115) hx hb dX8_readsItem_46 (by decide) ?_
      cases hsp
      exact rWv hX hP hS rfl dX8_readsItem_115
    · have hsp := ip hsp c5
      refine lv_iload_n hx hb dX8_readsItem_34 rfl (lv_at hl 1 rfl) (W.pc 35 rfl ?_)
      refine lv_if_ne (tgt := 49) hx hb dX8_readsItem_35 (by decide) (fun c7 => ?_) (fun c7 => W.pc 38 rfl ?_)
      · have hsp := iq hsp c7
        refine lv_iload_n hx hb dX8_readsItem_49 rfl (lv_at hl 1 rfl) (W.pc 50 rfl ?_)
        refine lv_iconst (v := (1 : Int32)) hx hb dX8_readsItem_50 (by decide) (W.pc 51 rfl ?_)
        refine lv_icmp_ne (tgt := 73) hx hb dX8_readsItem_51 (by decide) (fun c8 => ?_) (fun c8 => W.pc 54 rfl ?_)
        · have hsp := iq hsp c8
          refine lv_iload_n hx hb dX8_readsItem_73 rfl (lv_at hl 1 rfl) (W.pc 74 rfl ?_)
          refine lv_iconst (v := (2 : Int32)) hx hb dX8_readsItem_74 (by decide) (W.pc 75 rfl ?_)
          refine lv_icmp_ne (tgt := 89) hx hb dX8_readsItem_75 (by decide) (fun c9 => ?_) (fun c9 => W.pc 78 rfl ?_)
          · have hsp := iq hsp c9
            refine lv_iload_n hx hb dX8_readsItem_89 rfl (lv_at hl 1 rfl) (W.pc 90 rfl ?_)
            refine lv_iconst (v := (5 : Int32)) hx hb dX8_readsItem_90 (by decide) (W.pc 91 rfl ?_)
            refine lv_icmp_ne (tgt := 101) hx hb dX8_readsItem_91 (by decide) (fun c10 => ?_) (fun c10 => W.pc 94 rfl ?_)
            · have hsp := iq hsp c10
              refine lv_aload_n hx hb dX8_readsItem_101 rfl (lv_at hl 0 rfl) (W.pc 102 rfl ?_)
              refine lv_iload_n hx hb dX8_readsItem_102 rfl (lv_at hl 1 rfl) (W.pc 103 rfl ?_)
              refine lv_iconst (v := (4 : Int32)) hx hb dX8_readsItem_103 (by decide) (W.pc 104 rfl ?_)
              obtain ⟨z11, hr_z11, hsp⟩ := ltb_s hsp
              have J12 : ∀ (H : Heap) (locs : List Loc) (ls : Array Slot), wP E [(a0, .inr (5, [.ref a0_text, .int a0_letters, .ref a0_town, .ref a0_draft, .ref a0_tried, .ref a0_images, .ref a0_kept, .ref a0_refused, .long a0_above, .long a0_below, .ref a0_line, .ref a0_best, .int z1.2.1, .int z1.2.2, .int a0_isWell, .int a0_faultAt])), (a0_text, aI E 150 fa0_text), (a0_draft, aI E 682 fa0_draft)] H → va_D A [(a0, .inr (5, [.ref a0_text, .int a0_letters, .ref a0_town, .ref a0_draft, .ref a0_tried, .ref a0_images, .ref a0_kept, .ref a0_refused, .long a0_above, .long a0_below, .ref a0_line, .ref a0_best, .int z1.2.1, .int z1.2.2, .int a0_isWell, .int a0_faultAt])), (a0_text, aI E 150 fa0_text), (a0_draft, aI E 682 fa0_draft)] → va_S A s.heap H locs → lv_has ls 4 [] → W p l e (wR 5) s m [.ref a0, .int p1].toArray below meth c H locs 0 0 (MQ below (QWd E A none [(a0, .inr (5, [.ref a0_text, .int a0_letters, .ref a0_town, .ref a0_draft, .ref a0_tried, .ref a0_images, .ref a0_kept, .ref a0_refused, .long a0_above, .long a0_below, .ref a0_line, .ref a0_best, .int z_0, .int z_1, .int z_2, .int z_3])), (a0_text, aI E 150 fa0_text), (a0_draft, aI E 682 z_4)]) [.ref a0, .int p1].toArray s 0 0 A) (F0 m 112 ls [.int z11, .ref a0]) := by
                intro H locs ls hP hD hS hl
                obtain ⟨z14, hr_z14, hsp⟩ := bd_s hsp
                refine kVW (st1 := []) (ws' := [(a0, .inr (5, [.ref a0_text, .int a0_letters, .ref a0_town, .ref a0_draft, .ref a0_tried, .ref a0_images, .ref a0_kept, .ref a0_refused, .long a0_above, .long a0_below, .ref a0_line, .ref a0_best, .int z14.1, .int z14.2.1, .int z14.2.2.1, .int z14.2.2.2.1])), (a0_text, aI E 150 fa0_text), (a0_draft, aI E 682 z14.2.2.2.2)]) [0, 1, 2] hX (c_X8_readsBuild l E a0 a0_text a0_town a0_draft a0_tried a0_images a0_kept a0_refused a0_line a0_best z11 a0_letters a0_above a0_below z1.2.1 z1.2.2 a0_isWell a0_faultAt fa0_text fa0_draft z14.1 z14.2.1 z14.2.2.1 z14.2.2.2.1 z14.2.2.2.2 hr_z14) B_X8_readsBuild w_4_230 hK hP hD hS hA (by decide) rfl rfl rfl (q0 := 0) (ci := 5) rfl rfl rfl rfl hl.1 rfl (Nat.le_of_ble_eq_true rfl) ⟨Nat.le_of_ble_eq_true rfl, Nat.le_of_ble_eq_true rfl⟩ dX8_readsItem_112 rfl (fun H locs hP hD hS => W.pc 115 rfl ?_)
                cases hsp
                exact rWv hX hP hS rfl dX8_readsItem_115
              replace hsp := hr_z11
              refine lv_icmp_ne (tgt := 111) hx hb dX8_readsItem_104 (by decide) (fun c13 => ?_) (fun c13 => W.pc 107 rfl ?_)
              · have hsp := iq hsp c13
                refine lv_iconst (v := (0 : Int32)) hx hb dX8_readsItem_111 (by decide) (W.pc 112 rfl ?_)
                subst hsp
                exact J12 _ _ _ hP hD hS (lv_sub hl [] rfl)
              · have hsp := ip hsp c13
                refine lv_iconst (v := (1 : Int32)) hx hb dX8_readsItem_107 (by decide) (W.pc 108 rfl ?_)
                refine lv_goto (tgt := 112) hx hb dX8_readsItem_108 (by decide) ?_
                subst hsp
                exact J12 _ _ _ hP hD hS (lv_sub hl [] rfl)
            · have hsp := ip hsp c10
              refine lv_aload_n hx hb dX8_readsItem_94 rfl (lv_at hl 0 rfl) (W.pc 95 rfl ?_)
              obtain ⟨z15, hr_z15, hsp⟩ := bd_s hsp
              refine kVW (st1 := []) (ws' := [(a0, .inr (5, [.ref a0_text, .int a0_letters, .ref a0_town, .ref a0_draft, .ref a0_tried, .ref a0_images, .ref a0_kept, .ref a0_refused, .long a0_above, .long a0_below, .ref a0_line, .ref a0_best, .int z15.1, .int z15.2.1, .int z15.2.2.1, .int z15.2.2.2.1])), (a0_text, aI E 150 fa0_text), (a0_draft, aI E 682 z15.2.2.2.2)]) [0, 1, 2] hX (c_X8_readsYears l E a0 a0_text a0_town a0_draft a0_tried a0_images a0_kept a0_refused a0_line a0_best a0_letters a0_above a0_below z1.2.1 z1.2.2 a0_isWell a0_faultAt fa0_text fa0_draft z15.1 z15.2.1 z15.2.2.1 z15.2.2.2.1 z15.2.2.2.2 hr_z15) B_X8_readsYears w_4_211 hK hP hD hS hA (by decide) rfl rfl rfl (q0 := 0) (ci := 5) rfl rfl rfl rfl hl.1 rfl (Nat.le_of_ble_eq_true rfl) ⟨Nat.le_of_ble_eq_true rfl, Nat.le_of_ble_eq_true rfl⟩ dX8_readsItem_95 rfl (fun H locs hP hD hS => W.pc 98 rfl ?_)
              refine lv_goto (tgt := 115) hx hb dX8_readsItem_98 (by decide) ?_
              cases hsp
              exact rWv hX hP hS rfl dX8_readsItem_115
          · have hsp := ip hsp c9
            refine lv_aload_n hx hb dX8_readsItem_78 rfl (lv_at hl 0 rfl) (W.pc 79 rfl ?_)
            obtain ⟨z16, hr_z16, hsp⟩ := bd_s hsp
            refine kVW (st1 := []) (ws' := [(a0, .inr (5, [.ref a0_text, .int a0_letters, .ref a0_town, .ref a0_draft, .ref a0_tried, .ref a0_images, .ref a0_kept, .ref a0_refused, .long a0_above, .long a0_below, .ref a0_line, .ref a0_best, .int z16.1, .int z16.2.1, .int z16.2.2.1, .int z16.2.2.2.1])), (a0_text, aI E 150 fa0_text), (a0_draft, aI E 682 z16.2.2.2.2)]) [0, 1, 2] hX (c_X8_readsPulls l E a0 a0_text a0_town a0_draft a0_tried a0_images a0_kept a0_refused a0_line a0_best a0_letters a0_above a0_below z1.2.1 z1.2.2 a0_isWell a0_faultAt fa0_text fa0_draft z16.1 z16.2.1 z16.2.2.1 z16.2.2.2.1 z16.2.2.2.2 hr_z16) B_X8_readsPulls w_4_207 hK hP hD hS hA (by decide) rfl rfl rfl (q0 := 0) (ci := 5) rfl rfl rfl rfl hl.1 rfl (Nat.le_of_ble_eq_true rfl) ⟨Nat.le_of_ble_eq_true rfl, Nat.le_of_ble_eq_true rfl⟩ dX8_readsItem_79 rfl (fun H locs hP hD hS => W.pc 82 rfl ?_)
            refine lv_aload_n hx hb dX8_readsItem_82 rfl (lv_at hl 0 rfl) (W.pc 83 rfl ?_)
            obtain ⟨z17, hr_z17, hsp⟩ := bd_s hsp
            refine kVW (st1 := []) (ws' := [(a0, .inr (5, [.ref a0_text, .int a0_letters, .ref a0_town, .ref a0_draft, .ref a0_tried, .ref a0_images, .ref a0_kept, .ref a0_refused, .long a0_above, .long a0_below, .ref a0_line, .ref a0_best, .int z17.1, .int z17.2.1, .int z17.2.2.1, .int z17.2.2.2])), (a0_text, aI E 150 fa0_text), (a0_draft, aI E 682 z16.2.2.2.2)]) [0, 1] hX (c_X8_ends l E a0 a0_text a0_town a0_draft a0_tried a0_images a0_kept a0_refused a0_line a0_best a0_letters a0_above a0_below z16.1 z16.2.1 z16.2.2.1 z16.2.2.2.1 fa0_text z17.1 z17.2.1 z17.2.2.1 z17.2.2.2 hr_z17) B_X8_ends w_4_203 hK hP hD hS hA (by decide) rfl rfl rfl (q0 := 0) (ci := 5) rfl rfl rfl rfl hl.1 rfl (Nat.le_of_ble_eq_true rfl) ⟨Nat.le_of_ble_eq_true rfl, Nat.le_of_ble_eq_true rfl⟩ dX8_readsItem_83 rfl (fun H locs hP hD hS => W.pc 86 rfl ?_)
            refine lv_goto (tgt := 115) hx hb dX8_readsItem_86 (by decide) ?_
            cases hsp
            exact rWv hX hP hS rfl dX8_readsItem_115
        · have hsp := ip hsp c8
          refine lv_aload_n hx hb dX8_readsItem_54 rfl (lv_at hl 0 rfl) (W.pc 55 rfl ?_)
          refine va_get (D := E.1) (ci := 5) (v := .ref a0_draft) (C := RX8) (T := TX8) (N := 16) hx hb hts inT_X8 hown hK hP 0 rfl rfl 3 (by decide) (hts _ w_4_71) (fun _ h9 => h9) rfl dX8_readsItem_55 (W.pc 58 rfl ?_)
          refine lv_iconst (v := (0 : Int32)) hx hb dX8_readsItem_58 (by decide) (W.pc 59 rfl ?_)
          refine lv_aload_n hx hb dX8_readsItem_59 rfl (lv_at hl 0 rfl) (W.pc 60 rfl ?_)
          refine lv_iconst (v := (0 : Int32)) hx hb dX8_readsItem_60 (by decide) (W.pc 61 rfl ?_)
          refine lv_iconst (v := (5 : Int32)) hx hb dX8_readsItem_61 (by decide) (W.pc 62 rfl ?_)
          obtain ⟨z18, hr_z18, hsp⟩ := bd_s hsp
          refine kVW (st1 := [.int z18.1, .int (0 : Int32), .ref a0_draft]) (ws' := [(a0, .inr (5, [.ref a0_text, .int a0_letters, .ref a0_town, .ref a0_draft, .ref a0_tried, .ref a0_images, .ref a0_kept, .ref a0_refused, .long a0_above, .long a0_below, .ref a0_line, .ref a0_best, .int z18.2.1, .int z18.2.2.1, .int z18.2.2.2.1, .int z18.2.2.2.2])), (a0_text, aI E 150 fa0_text), (a0_draft, aI E 682 fa0_draft)]) [0, 1] hX (c_X8_number l E a0 a0_text a0_town a0_draft a0_tried a0_images a0_kept a0_refused a0_line a0_best (0 : Int32) (5 : Int32) a0_letters a0_above a0_below z1.2.1 z1.2.2 a0_isWell a0_faultAt fa0_text z18.1 z18.2.1 z18.2.2.1 z18.2.2.2.1 z18.2.2.2.2 hr_z18) B_X8_number w_4_199 hK hP hD hS hA (by decide) rfl rfl rfl (q0 := 0) (ci := 5) rfl rfl rfl rfl hl.1 rfl (Nat.le_of_ble_eq_true rfl) ⟨Nat.le_of_ble_eq_true rfl, Nat.le_of_ble_eq_true rfl⟩ dX8_readsItem_62 rfl (fun H locs hP hD hS => W.pc 65 rfl ?_)
          refine va_iast hx hb hK hP hD hS 2 0 rfl rfl (vp_in_nI (n := 0) (N := 682) (by decide) (by decide)) dX8_readsItem_65 (fun H locs hP hD hS => W.pc 66 rfl ?_)
          have hP : wP E [(a0, .inr (5, [.ref a0_text, .int a0_letters, .ref a0_town, .ref a0_draft, .ref a0_tried, .ref a0_images, .ref a0_kept, .ref a0_refused, .long a0_above, .long a0_below, .ref a0_line, .ref a0_best, .int z18.2.1, .int z18.2.2.1, .int z18.2.2.2.1, .int z18.2.2.2.2])), (a0_text, aI E 150 fa0_text), (a0_draft, aI E 682 (upd fa0_draft ((0 : Int32)).toNatClampNeg z18.1))] _ := hP
          have hD : va_D A [(a0, .inr (5, [.ref a0_text, .int a0_letters, .ref a0_town, .ref a0_draft, .ref a0_tried, .ref a0_images, .ref a0_kept, .ref a0_refused, .long a0_above, .long a0_below, .ref a0_line, .ref a0_best, .int z18.2.1, .int z18.2.2.1, .int z18.2.2.2.1, .int z18.2.2.2.2])), (a0_text, aI E 150 fa0_text), (a0_draft, aI E 682 (upd fa0_draft ((0 : Int32)).toNatClampNeg z18.1))] := hD
          refine lv_aload_n hx hb dX8_readsItem_66 rfl (lv_at hl 0 rfl) (W.pc 67 rfl ?_)
          obtain ⟨z19, hr_z19, hsp⟩ := bd_s hsp
          refine kVW (st1 := []) (ws' := [(a0, .inr (5, [.ref a0_text, .int a0_letters, .ref a0_town, .ref a0_draft, .ref a0_tried, .ref a0_images, .ref a0_kept, .ref a0_refused, .long a0_above, .long a0_below, .ref a0_line, .ref a0_best, .int z19.1, .int z19.2.1, .int z19.2.2.1, .int z19.2.2.2])), (a0_text, aI E 150 fa0_text), (a0_draft, aI E 682 (upd fa0_draft ((0 : Int32)).toNatClampNeg z18.1))]) [0, 1] hX (c_X8_ends l E a0 a0_text a0_town a0_draft a0_tried a0_images a0_kept a0_refused a0_line a0_best a0_letters a0_above a0_below z18.2.1 z18.2.2.1 z18.2.2.2.1 z18.2.2.2.2 fa0_text z19.1 z19.2.1 z19.2.2.1 z19.2.2.2 hr_z19) B_X8_ends w_4_203 hK hP hD hS hA (by decide) rfl rfl rfl (q0 := 0) (ci := 5) rfl rfl rfl rfl hl.1 rfl (Nat.le_of_ble_eq_true rfl) ⟨Nat.le_of_ble_eq_true rfl, Nat.le_of_ble_eq_true rfl⟩ dX8_readsItem_67 rfl (fun H locs hP hD hS => W.pc 70 rfl ?_)
          refine lv_goto (tgt := 115) hx hb dX8_readsItem_70 (by decide) ?_
          cases hsp
          exact rWv hX hP hS rfl dX8_readsItem_115
      · have hsp := ip hsp c7
        refine lv_aload_n hx hb dX8_readsItem_38 rfl (lv_at hl 0 rfl) (W.pc 39 rfl ?_)
        refine lv_aload_n hx hb dX8_readsItem_39 rfl (lv_at hl 0 rfl) (W.pc 40 rfl ?_)
        refine va_get (D := E.1) (ci := 5) (v := .int z1.2.2) (C := RX8) (T := TX8) (N := 16) hx hb hts inT_X8 hown hK hP 0 rfl rfl 13 (by decide) (hts _ w_4_81) (fun _ h9 => h9) rfl dX8_readsItem_40 (W.pc 43 rfl ?_)
        obtain ⟨z20, hr_z20, hsp⟩ := ltb_s hsp
        refine kVW (st1 := []) (ws' := [(a0, .inr (5, [.ref a0_text, .int a0_letters, .ref a0_town, .ref a0_draft, .ref a0_tried, .ref a0_images, .ref a0_kept, .ref a0_refused, .long a0_above, .long a0_below, .ref a0_line, .ref a0_best, .int z1.2.1, .int z1.2.2, .int z20.1, .int z20.2])), (a0_text, aI E 150 fa0_text), (a0_draft, aI E 682 fa0_draft)]) [0] hX (c_X8_fails l E a0 a0_text a0_town a0_draft a0_tried a0_images a0_kept a0_refused a0_line a0_best z1.2.2 a0_letters a0_above a0_below z1.2.1 z1.2.2 a0_isWell a0_faultAt z20.1 z20.2 hr_z20) B_X8_fails w_4_195 hK hP hD hS hA (by decide) rfl rfl rfl (q0 := 0) (ci := 5) rfl rfl rfl rfl hl.1 rfl (Nat.le_of_ble_eq_true rfl) ⟨Nat.le_of_ble_eq_true rfl, Nat.le_of_ble_eq_true rfl⟩ dX8_readsItem_43 rfl (fun H locs hP hD hS => W.pc 46 rfl ?_)
        refine lv_goto (tgt := 115) hx hb dX8_readsItem_46 (by decide) ?_
        cases hsp
        exact rWv hX hP hS rfl dX8_readsItem_115
  replace hsp := hr_z2
  refine lv_icmp_ne (tgt := 30) hx hb dX8_readsItem_23 (by decide) (fun c4 => ?_) (fun c4 => W.pc 26 rfl ?_)
  · have hsp := iq hsp c4
    refine lv_iconst (v := (0 : Int32)) hx hb dX8_readsItem_30 (by decide) (W.pc 31 rfl ?_)
    subst hsp
    exact J3 _ _ _ hP hD hS (lv_sub hl [2, 0] rfl)
  · have hsp := ip hsp c4
    refine lv_iconst (v := (1 : Int32)) hx hb dX8_readsItem_26 (by decide) (W.pc 27 rfl ?_)
    refine lv_goto (tgt := 31) hx hb dX8_readsItem_27 (by decide) ?_
    subst hsp
    exact J3 _ _ _ hP hD hS (lv_sub hl [2, 0] rfl)
noncomputable def lp_X8_read_21 (a0_letters : Int32) (fa0_text : Nat → Int32) : Nat → Int32 → Int32 → Int32 → Int32 → Int32 → Int32 → ((Nat → Int32)) → Option (Int32 × Int32 × Int32 × Int32 × Int32 × Int32 × (Nat → Int32))
 | 0, _, _, _, _, _, _, _ => none
 | fu + 1, x1_21, x2_21, ya0_12_21, ya0_13_21, ya0_14_21, ya0_15_21, ya0_draft_f_21 => if x2_21 = 0 then (some (x1_21, x2_21, ya0_12_21, ya0_13_21, ya0_14_21, ya0_15_21, ya0_draft_f_21)) else (if ya0_14_21 = 0 then (some (x1_21, x2_21, ya0_12_21, ya0_13_21, ya0_14_21, ya0_15_21, ya0_draft_f_21)) else (lt_ (if x1_21 = 0 then ((1 : Int32)) else ((0 : Int32))) fun z5 => Option.bind (sp_X8_readsItem z5 a0_letters ya0_12_21 ya0_14_21 ya0_15_21 fa0_text ya0_draft_f_21) fun z8 => Option.bind (if z8.2.2.1 = 0 then (some (z8.1, z8.2.1)) else (Option.bind (sp_X8_skips a0_letters z8.1 fa0_text) fun z12 => some (z12.1, z12.2))) fun z9 => Option.bind (sp_X8_look a0_letters z9.1 fa0_text) fun z13 => lt_ (if z13 = (-1 : Int32) then ((0 : Int32)) else ((1 : Int32))) fun z14 => lp_X8_read_21 a0_letters fa0_text fu (x1_21 + (1 : Int32)) z14 z9.1 z9.2 z8.2.2.1 z8.2.2.2.1 z8.2.2.2.2))
noncomputable def sp_X8_read (a0_letters : Int32) (a0_start : Int32) (a0_faultAt : Int32) (fa0_draft : Nat → Int32) (fa0_text : Nat → Int32) (fa0_town : Nat → Int32) : Option (Int32 × Int32 × Int32 × Int32 × Int32 × (Nat → Int32) × (Nat → Int32)) := Option.bind (sp_X8_empties fa0_draft) fun z1 => Option.bind (lp_X8_read_21 a0_letters fa0_text FU (0 : Int32) (1 : Int32) (0 : Int32) a0_start (1 : Int32) a0_faultAt z1) fun z2 => if z2.2.2.2.2.1 = 0 then (some (((-10 : Int32) - z2.2.2.2.2.2.1), z2.2.2.1, z2.2.2.2.1, z2.2.2.2.2.1, z2.2.2.2.2.2.1, z2.2.2.2.2.2.2, fa0_town)) else (Option.bind (sp_X8_copies_d 682 682 (0 : Int32) (0 : Int32) (682 : Int32) z2.2.2.2.2.2.2 fa0_town) fun z18 => some (z2.1, z2.2.2.1, z2.2.2.2.1, z2.2.2.2.2.1, z2.2.2.2.2.2.1, z2.2.2.2.2.2.2, z18))
set_option maxHeartbeats 4000000 in
set_option maxRecDepth 100000 in
theorem c_X8_read (l : Launch) (E : wE) (a0 a0_text a0_town a0_draft a0_tried a0_images a0_kept a0_refused a0_line a0_best : Nat) (a0_letters : Int32) (a0_above : Int64) (a0_below : Int64) (a0_at : Int32) (a0_start : Int32) (a0_isWell : Int32) (a0_faultAt : Int32) (fa0_draft : Nat → Int32) (fa0_text : Nat → Int32) (fa0_town : Nat → Int32) (z_0 : Int32) (z_1 : Int32) (z_2 : Int32) (z_3 : Int32) (z_4 : Int32) (z_5 : (Nat → Int32)) (z_6 : (Nat → Int32)) (hsp : sp_X8_read a0_letters a0_start a0_faultAt fa0_draft fa0_text fa0_town = some (z_0, z_1, z_2, z_3, z_4, z_5, z_6)) : MW l yX8_read cX8_read 3 (some .int) 6 E [.ref a0] [(a0, .inr (5, [.ref a0_text, .int a0_letters, .ref a0_town, .ref a0_draft, .ref a0_tried, .ref a0_images, .ref a0_kept, .ref a0_refused, .long a0_above, .long a0_below, .ref a0_line, .ref a0_best, .int a0_at, .int a0_start, .int a0_isWell, .int a0_faultAt])), (a0_draft, aI E 682 fa0_draft), (a0_text, aI E 150 fa0_text), (a0_town, aI E 682 fa0_town)] (some (.int z_0)) [(a0, .inr (5, [.ref a0_text, .int a0_letters, .ref a0_town, .ref a0_draft, .ref a0_tried, .ref a0_images, .ref a0_kept, .ref a0_refused, .long a0_above, .long a0_below, .ref a0_line, .ref a0_best, .int z_1, .int z_2, .int z_3, .int z_4])), (a0_draft, aI E 682 z_5), (a0_text, aI E 150 fa0_text), (a0_town, aI E 682 z_6)] := by
  refine MW.of (by decide +kernel) (Nat.le_of_ble_eq_true rfl) ?_
  intro p e s m below meth c ls A hX hK hP hD hS hA hl
  have hX : CX p s m [.ref a0].toArray meth c cX8_read 3 (some .int) RX8 := hX
  have hx := hX.1; have hb := hX.2.1; have hts := hX.2.2.2.2.1; have hown := hX.2.2.2.2.2.1
  have hl : lv_has ls 3 [(0, .ref a0)] := hl
  have hP : wP E [(a0, .inr (5, [.ref a0_text, .int a0_letters, .ref a0_town, .ref a0_draft, .ref a0_tried, .ref a0_images, .ref a0_kept, .ref a0_refused, .long a0_above, .long a0_below, .ref a0_line, .ref a0_best, .int a0_at, .int a0_start, .int a0_isWell, .int a0_faultAt])), (a0_draft, aI E 682 fa0_draft), (a0_text, aI E 150 fa0_text), (a0_town, aI E 682 fa0_town)] s.heap := hP
  have hsp : (Option.bind (sp_X8_empties fa0_draft) fun z1 => Option.bind (lp_X8_read_21 a0_letters fa0_text FU (0 : Int32) (1 : Int32) (0 : Int32) a0_start (1 : Int32) a0_faultAt z1) fun z2 => if z2.2.2.2.2.1 = 0 then (some (((-10 : Int32) - z2.2.2.2.2.2.1), z2.2.2.1, z2.2.2.2.1, z2.2.2.2.2.1, z2.2.2.2.2.2.1, z2.2.2.2.2.2.2, fa0_town)) else (Option.bind (sp_X8_copies_d 682 682 (0 : Int32) (0 : Int32) (682 : Int32) z2.2.2.2.2.2.2 fa0_town) fun z18 => some (z2.1, z2.2.2.1, z2.2.2.2.1, z2.2.2.2.2.1, z2.2.2.2.2.2.1, z2.2.2.2.2.2.2, z18))) = some (z_0, z_1, z_2, z_3, z_4, z_5, z_6) := hsp
  refine lv_aload_n hx hb dX8_read_0 rfl (lv_at hl 0 rfl) (W.pc 1 rfl ?_)
  refine va_get (D := E.1) (ci := 5) (v := .ref a0_draft) (C := RX8) (T := TX8) (N := 16) hx hb hts inT_X8 hown hK hP 0 rfl rfl 3 (by decide) (hts _ w_4_71) (fun _ h9 => h9) rfl dX8_read_1 (W.pc 4 rfl ?_)
  obtain ⟨z1, hr_z1, hsp⟩ := bd_s hsp
  refine kSW (st1 := []) (ws' := [(a0, .inr (5, [.ref a0_text, .int a0_letters, .ref a0_town, .ref a0_draft, .ref a0_tried, .ref a0_images, .ref a0_kept, .ref a0_refused, .long a0_above, .long a0_below, .ref a0_line, .ref a0_best, .int a0_at, .int a0_start, .int a0_isWell, .int a0_faultAt])), (a0_draft, aI E 682 z1), (a0_text, aI E 150 fa0_text), (a0_town, aI E 682 fa0_town)]) [1] hX (c_X8_empties l E a0_draft fa0_draft z1 hr_z1) B_X8_empties w_4_135 hK hP hD hS hA (by decide) rfl rfl rfl rfl hl.1 rfl (Nat.le_of_ble_eq_true rfl) ⟨Nat.le_of_ble_eq_true rfl, Nat.le_of_ble_eq_true rfl⟩ dX8_read_4 rfl (fun H locs hP hD hS => W.pc 7 rfl ?_)
  refine lv_aload_n hx hb dX8_read_7 rfl (lv_at hl 0 rfl) (W.pc 8 rfl ?_)
  refine lv_iconst (v := (0 : Int32)) hx hb dX8_read_8 (by decide) (W.pc 9 rfl ?_)
  refine va_put (D := E.1) (ci := 5) (v := .int (0 : Int32)) (ty := .int) (C := RX8) (T := TX8) (N := 16) hx hb hts inT_X8 tyX8 tyX8_ok nmX8 hown hK hP hD hS 0 rfl rfl 12 (by decide) (hts _ w_4_80) (fun _ h9 => h9) rfl (by decide +kernel) rfl rfl (Nat.le_of_ble_eq_true rfl) dX8_read_9 (fun H locs hP hD hS => W.pc 12 rfl ?_)
  have hP : wP E [(a0, .inr (5, [.ref a0_text, .int a0_letters, .ref a0_town, .ref a0_draft, .ref a0_tried, .ref a0_images, .ref a0_kept, .ref a0_refused, .long a0_above, .long a0_below, .ref a0_line, .ref a0_best, .int (0 : Int32), .int a0_start, .int a0_isWell, .int a0_faultAt])), (a0_draft, aI E 682 z1), (a0_text, aI E 150 fa0_text), (a0_town, aI E 682 fa0_town)] _ := hP
  have hD : va_D A [(a0, .inr (5, [.ref a0_text, .int a0_letters, .ref a0_town, .ref a0_draft, .ref a0_tried, .ref a0_images, .ref a0_kept, .ref a0_refused, .long a0_above, .long a0_below, .ref a0_line, .ref a0_best, .int (0 : Int32), .int a0_start, .int a0_isWell, .int a0_faultAt])), (a0_draft, aI E 682 z1), (a0_text, aI E 150 fa0_text), (a0_town, aI E 682 fa0_town)] := hD
  refine lv_aload_n hx hb dX8_read_12 rfl (lv_at hl 0 rfl) (W.pc 13 rfl ?_)
  refine lv_iconst (v := (1 : Int32)) hx hb dX8_read_13 (by decide) (W.pc 14 rfl ?_)
  refine va_put (D := E.1) (ci := 5) (v := .int (1 : Int32)) (ty := .boolean) (C := RX8) (T := TX8) (N := 16) hx hb hts inT_X8 tyX8 tyX8_ok nmX8 hown hK hP hD hS 0 rfl rfl 14 (by decide) (hts _ w_4_82) (fun _ h9 => h9) rfl (by decide +kernel) rfl rfl (Nat.le_of_ble_eq_true rfl) dX8_read_14 (fun H locs hP hD hS => W.pc 17 rfl ?_)
  have hP : wP E [(a0, .inr (5, [.ref a0_text, .int a0_letters, .ref a0_town, .ref a0_draft, .ref a0_tried, .ref a0_images, .ref a0_kept, .ref a0_refused, .long a0_above, .long a0_below, .ref a0_line, .ref a0_best, .int (0 : Int32), .int a0_start, .int (1 : Int32), .int a0_faultAt])), (a0_draft, aI E 682 z1), (a0_text, aI E 150 fa0_text), (a0_town, aI E 682 fa0_town)] _ := hP
  have hD : va_D A [(a0, .inr (5, [.ref a0_text, .int a0_letters, .ref a0_town, .ref a0_draft, .ref a0_tried, .ref a0_images, .ref a0_kept, .ref a0_refused, .long a0_above, .long a0_below, .ref a0_line, .ref a0_best, .int (0 : Int32), .int a0_start, .int (1 : Int32), .int a0_faultAt])), (a0_draft, aI E 682 z1), (a0_text, aI E 150 fa0_text), (a0_town, aI E 682 fa0_town)] := hD
  refine lv_iconst (v := (0 : Int32)) hx hb dX8_read_17 (by decide) (W.pc 18 rfl ?_)
  refine lv_istore_n (lv' := [(1, .int (0 : Int32)), (0, .ref a0)]) hx hb dX8_read_18 rfl hl (by decide) rfl (fun ls hl => W.pc 19 rfl ?_)
  refine lv_iconst (v := (1 : Int32)) hx hb dX8_read_19 (by decide) (W.pc 20 rfl ?_)
  refine lv_istore_n (lv' := [(2, .int (1 : Int32)), (1, .int (0 : Int32)), (0, .ref a0)]) hx hb dX8_read_20 rfl hl (by decide) rfl (fun ls hl => W.pc 21 rfl ?_)
  have L_21 : ∀ (z2 : Int32 × Int32 × Int32 × Int32 × Int32 × Int32 × (Nat → Int32)), (∀ (H : Heap) (locs : List Loc) (ls : Array Slot), wP E [(a0, .inr (5, [.ref a0_text, .int a0_letters, .ref a0_town, .ref a0_draft, .ref a0_tried, .ref a0_images, .ref a0_kept, .ref a0_refused, .long a0_above, .long a0_below, .ref a0_line, .ref a0_best, .int z2.2.2.1, .int z2.2.2.2.1, .int z2.2.2.2.2.1, .int z2.2.2.2.2.2.1])), (a0_draft, aI E 682 z2.2.2.2.2.2.2), (a0_text, aI E 150 fa0_text), (a0_town, aI E 682 fa0_town)] H → va_D A [(a0, .inr (5, [.ref a0_text, .int a0_letters, .ref a0_town, .ref a0_draft, .ref a0_tried, .ref a0_images, .ref a0_kept, .ref a0_refused, .long a0_above, .long a0_below, .ref a0_line, .ref a0_best, .int z2.2.2.1, .int z2.2.2.2.1, .int z2.2.2.2.2.1, .int z2.2.2.2.2.2.1])), (a0_draft, aI E 682 z2.2.2.2.2.2.2), (a0_text, aI E 150 fa0_text), (a0_town, aI E 682 fa0_town)] → va_S A s.heap H locs → lv_has ls 3 [(0, .ref a0), (1, .int z2.1)] → W p l e (wR 6) s m [.ref a0].toArray below meth c H locs 0 0 (MQ below (QWd E A (some (.int z_0)) [(a0, .inr (5, [.ref a0_text, .int a0_letters, .ref a0_town, .ref a0_draft, .ref a0_tried, .ref a0_images, .ref a0_kept, .ref a0_refused, .long a0_above, .long a0_below, .ref a0_line, .ref a0_best, .int z_1, .int z_2, .int z_3, .int z_4])), (a0_draft, aI E 682 z_5), (a0_text, aI E 150 fa0_text), (a0_town, aI E 682 z_6)]) [.ref a0].toArray s 0 0 A) (F0 m 76 ls [])) → ∀ (fu : Nat) (x1_21 : Int32) (x2_21 : Int32) (ya0_12_21 : Int32) (ya0_13_21 : Int32) (ya0_14_21 : Int32) (ya0_15_21 : Int32) (ya0_draft_f_21 : (Nat → Int32)), ∀ (H : Heap) (locs : List Loc) (ls : Array Slot), wP E [(a0, .inr (5, [.ref a0_text, .int a0_letters, .ref a0_town, .ref a0_draft, .ref a0_tried, .ref a0_images, .ref a0_kept, .ref a0_refused, .long a0_above, .long a0_below, .ref a0_line, .ref a0_best, .int ya0_12_21, .int ya0_13_21, .int ya0_14_21, .int ya0_15_21])), (a0_draft, aI E 682 ya0_draft_f_21), (a0_text, aI E 150 fa0_text), (a0_town, aI E 682 fa0_town)] H → va_D A [(a0, .inr (5, [.ref a0_text, .int a0_letters, .ref a0_town, .ref a0_draft, .ref a0_tried, .ref a0_images, .ref a0_kept, .ref a0_refused, .long a0_above, .long a0_below, .ref a0_line, .ref a0_best, .int ya0_12_21, .int ya0_13_21, .int ya0_14_21, .int ya0_15_21])), (a0_draft, aI E 682 ya0_draft_f_21), (a0_text, aI E 150 fa0_text), (a0_town, aI E 682 fa0_town)] → va_S A s.heap H locs → lv_has ls 3 [(0, .ref a0), (1, .int x1_21), (2, .int x2_21)] → lp_X8_read_21 a0_letters fa0_text fu x1_21 x2_21 ya0_12_21 ya0_13_21 ya0_14_21 ya0_15_21 ya0_draft_f_21 = some z2 → W p l e (wR 6) s m [.ref a0].toArray below meth c H locs 0 0 (MQ below (QWd E A (some (.int z_0)) [(a0, .inr (5, [.ref a0_text, .int a0_letters, .ref a0_town, .ref a0_draft, .ref a0_tried, .ref a0_images, .ref a0_kept, .ref a0_refused, .long a0_above, .long a0_below, .ref a0_line, .ref a0_best, .int z_1, .int z_2, .int z_3, .int z_4])), (a0_draft, aI E 682 z_5), (a0_text, aI E 150 fa0_text), (a0_town, aI E 682 z_6)]) [.ref a0].toArray s 0 0 A) (F0 m 21 ls []) := by
    intro z2 hk_21 fu
    induction fu with
    | zero => intro x1_21 x2_21 ya0_12_21 ya0_13_21 ya0_14_21 ya0_15_21 ya0_draft_f_21 H locs ls hP hD hS hl hsp; exact absurd (show none = some _ from hsp) (by simp)
    | succ fu ih_21 =>
      intro x1_21 x2_21 ya0_12_21 ya0_13_21 ya0_14_21 ya0_15_21 ya0_draft_f_21 H locs ls hP hD hS hl hsp
      have hsp : (if x2_21 = 0 then (some (x1_21, x2_21, ya0_12_21, ya0_13_21, ya0_14_21, ya0_15_21, ya0_draft_f_21)) else (if ya0_14_21 = 0 then (some (x1_21, x2_21, ya0_12_21, ya0_13_21, ya0_14_21, ya0_15_21, ya0_draft_f_21)) else (lt_ (if x1_21 = 0 then ((1 : Int32)) else ((0 : Int32))) fun z5 => Option.bind (sp_X8_readsItem z5 a0_letters ya0_12_21 ya0_14_21 ya0_15_21 fa0_text ya0_draft_f_21) fun z8 => Option.bind (if z8.2.2.1 = 0 then (some (z8.1, z8.2.1)) else (Option.bind (sp_X8_skips a0_letters z8.1 fa0_text) fun z12 => some (z12.1, z12.2))) fun z9 => Option.bind (sp_X8_look a0_letters z9.1 fa0_text) fun z13 => lt_ (if z13 = (-1 : Int32) then ((0 : Int32)) else ((1 : Int32))) fun z14 => lp_X8_read_21 a0_letters fa0_text fu (x1_21 + (1 : Int32)) z14 z9.1 z9.2 z8.2.2.1 z8.2.2.2.1 z8.2.2.2.2))) = some z2 := hsp
      refine lv_iload_n hx hb dX8_read_21 rfl (lv_at hl 2 rfl) (W.pc 22 rfl ?_)
      refine lv_if_eq (tgt := 76) hx hb dX8_read_22 (by decide) (fun c3 => ?_) (fun c3 => W.pc 25 rfl ?_)
      · have hsp := ip hsp c3
        obtain rfl := Option.some.inj hsp
        exact hk_21 _ _ _ hP hD hS (lv_sub hl [0, 1] rfl)
      · have hsp := iq hsp c3
        refine lv_aload_n hx hb dX8_read_25 rfl (lv_at hl 0 rfl) (W.pc 26 rfl ?_)
        refine va_get (D := E.1) (ci := 5) (v := .int ya0_14_21) (C := RX8) (T := TX8) (N := 16) hx hb hts inT_X8 hown hK hP 0 rfl rfl 14 (by decide) (hts _ w_4_82) (fun _ h9 => h9) rfl dX8_read_26 (W.pc 29 rfl ?_)
        refine lv_if_eq (tgt := 76) hx hb dX8_read_29 (by decide) (fun c4 => ?_) (fun c4 => W.pc 32 rfl ?_)
        · have hsp := ip hsp c4
          obtain rfl := Option.some.inj hsp
          exact hk_21 _ _ _ hP hD hS (lv_sub hl [0, 1] rfl)
        · have hsp := iq hsp c4
          refine lv_aload_n hx hb dX8_read_32 rfl (lv_at hl 0 rfl) (W.pc 33 rfl ?_)
          refine lv_iload_n hx hb dX8_read_33 rfl (lv_at hl 1 rfl) (W.pc 34 rfl ?_)
          obtain ⟨z5, hr_z5, hsp⟩ := ltb_s hsp
          have J6 : ∀ (H : Heap) (locs : List Loc) (ls : Array Slot), wP E [(a0, .inr (5, [.ref a0_text, .int a0_letters, .ref a0_town, .ref a0_draft, .ref a0_tried, .ref a0_images, .ref a0_kept, .ref a0_refused, .long a0_above, .long a0_below, .ref a0_line, .ref a0_best, .int ya0_12_21, .int ya0_13_21, .int ya0_14_21, .int ya0_15_21])), (a0_draft, aI E 682 ya0_draft_f_21), (a0_text, aI E 150 fa0_text), (a0_town, aI E 682 fa0_town)] H → va_D A [(a0, .inr (5, [.ref a0_text, .int a0_letters, .ref a0_town, .ref a0_draft, .ref a0_tried, .ref a0_images, .ref a0_kept, .ref a0_refused, .long a0_above, .long a0_below, .ref a0_line, .ref a0_best, .int ya0_12_21, .int ya0_13_21, .int ya0_14_21, .int ya0_15_21])), (a0_draft, aI E 682 ya0_draft_f_21), (a0_text, aI E 150 fa0_text), (a0_town, aI E 682 fa0_town)] → va_S A s.heap H locs → lv_has ls 3 [(0, .ref a0), (1, .int x1_21)] → W p l e (wR 6) s m [.ref a0].toArray below meth c H locs 0 0 (MQ below (QWd E A (some (.int z_0)) [(a0, .inr (5, [.ref a0_text, .int a0_letters, .ref a0_town, .ref a0_draft, .ref a0_tried, .ref a0_images, .ref a0_kept, .ref a0_refused, .long a0_above, .long a0_below, .ref a0_line, .ref a0_best, .int z_1, .int z_2, .int z_3, .int z_4])), (a0_draft, aI E 682 z_5), (a0_text, aI E 150 fa0_text), (a0_town, aI E 682 z_6)]) [.ref a0].toArray s 0 0 A) (F0 m 42 ls [.int z5, .ref a0]) := by
            intro H locs ls hP hD hS hl
            obtain ⟨z8, hr_z8, hsp⟩ := bd_s hsp
            refine kVW (st1 := []) (ws' := [(a0, .inr (5, [.ref a0_text, .int a0_letters, .ref a0_town, .ref a0_draft, .ref a0_tried, .ref a0_images, .ref a0_kept, .ref a0_refused, .long a0_above, .long a0_below, .ref a0_line, .ref a0_best, .int z8.1, .int z8.2.1, .int z8.2.2.1, .int z8.2.2.2.1])), (a0_draft, aI E 682 z8.2.2.2.2), (a0_text, aI E 150 fa0_text), (a0_town, aI E 682 fa0_town)]) [0, 2, 1] hX (c_X8_readsItem l E a0 a0_text a0_town a0_draft a0_tried a0_images a0_kept a0_refused a0_line a0_best z5 a0_letters a0_above a0_below ya0_12_21 ya0_13_21 ya0_14_21 ya0_15_21 fa0_text ya0_draft_f_21 z8.1 z8.2.1 z8.2.2.1 z8.2.2.2.1 z8.2.2.2.2 hr_z8) B_X8_readsItem w_4_172 hK hP hD hS hA (by decide) rfl rfl rfl (q0 := 0) (ci := 5) rfl rfl rfl rfl hl.1 rfl (Nat.le_of_ble_eq_true rfl) ⟨Nat.le_of_ble_eq_true rfl, Nat.le_of_ble_eq_true rfl⟩ dX8_read_42 rfl (fun H locs hP hD hS => W.pc 45 rfl ?_)
            refine lv_iinc (v := (x1_21 + (1 : Int32))) (lv' := [(1, .int (x1_21 + (1 : Int32))), (0, .ref a0)]) hx hb dX8_read_45 hl (k := 1) rfl rfl (by decide) rfl (fun ls hl => W.pc 48 rfl ?_)
            refine lv_aload_n hx hb dX8_read_48 rfl (lv_at hl 1 rfl) (W.pc 49 rfl ?_)
            refine va_get (D := E.1) (ci := 5) (v := .int z8.2.2.1) (C := RX8) (T := TX8) (N := 16) hx hb hts inT_X8 hown hK hP 0 rfl rfl 14 (by decide) (hts _ w_4_82) (fun _ h9 => h9) rfl dX8_read_49 (W.pc 52 rfl ?_)
            obtain ⟨z9, hr_z9, hsp⟩ := bd_s hsp
            have J10 : ∀ (H : Heap) (locs : List Loc) (ls : Array Slot), wP E [(a0, .inr (5, [.ref a0_text, .int a0_letters, .ref a0_town, .ref a0_draft, .ref a0_tried, .ref a0_images, .ref a0_kept, .ref a0_refused, .long a0_above, .long a0_below, .ref a0_line, .ref a0_best, .int z9.1, .int z9.2, .int z8.2.2.1, .int z8.2.2.2.1])), (a0_draft, aI E 682 z8.2.2.2.2), (a0_text, aI E 150 fa0_text), (a0_town, aI E 682 fa0_town)] H → va_D A [(a0, .inr (5, [.ref a0_text, .int a0_letters, .ref a0_town, .ref a0_draft, .ref a0_tried, .ref a0_images, .ref a0_kept, .ref a0_refused, .long a0_above, .long a0_below, .ref a0_line, .ref a0_best, .int z9.1, .int z9.2, .int z8.2.2.1, .int z8.2.2.2.1])), (a0_draft, aI E 682 z8.2.2.2.2), (a0_text, aI E 150 fa0_text), (a0_town, aI E 682 fa0_town)] → va_S A s.heap H locs → lv_has ls 3 [(0, .ref a0), (1, .int (x1_21 + (1 : Int32)))] → W p l e (wR 6) s m [.ref a0].toArray below meth c H locs 0 0 (MQ below (QWd E A (some (.int z_0)) [(a0, .inr (5, [.ref a0_text, .int a0_letters, .ref a0_town, .ref a0_draft, .ref a0_tried, .ref a0_images, .ref a0_kept, .ref a0_refused, .long a0_above, .long a0_below, .ref a0_line, .ref a0_best, .int z_1, .int z_2, .int z_3, .int z_4])), (a0_draft, aI E 682 z_5), (a0_text, aI E 150 fa0_text), (a0_town, aI E 682 z_6)]) [.ref a0].toArray s 0 0 A) (F0 m 59 ls []) := by
              intro H locs ls hP hD hS hl
              refine lv_aload_n hx hb dX8_read_59 rfl (lv_at hl 0 rfl) (W.pc 60 rfl ?_)
              obtain ⟨z13, hr_z13, hsp⟩ := bd_s hsp
              refine kVR (st1 := [.int z13]) hX (c_X8_look l E a0 a0_text a0_town a0_draft a0_tried a0_images a0_kept a0_refused a0_line a0_best a0_letters a0_above a0_below z9.1 z9.2 z8.2.2.1 z8.2.2.2.1 fa0_text z13 hr_z13) B_X8_look w_4_184 hK (hP.pick [0, 2] rfl) (q0 := 0) (ci := 5) rfl rfl rfl rfl hl.1 rfl (Nat.le_of_ble_eq_true rfl) ⟨Nat.le_of_ble_eq_true rfl, Nat.le_of_ble_eq_true rfl⟩ dX8_read_60 rfl (W.pc 63 rfl ?_)
              refine lv_iconst (v := (-1 : Int32)) hx hb dX8_read_63 (by decide) (W.pc 64 rfl ?_)
              obtain ⟨z14, hr_z14, hsp⟩ := ltb_s hsp
              have J15 : ∀ (H : Heap) (locs : List Loc) (ls : Array Slot), wP E [(a0, .inr (5, [.ref a0_text, .int a0_letters, .ref a0_town, .ref a0_draft, .ref a0_tried, .ref a0_images, .ref a0_kept, .ref a0_refused, .long a0_above, .long a0_below, .ref a0_line, .ref a0_best, .int z9.1, .int z9.2, .int z8.2.2.1, .int z8.2.2.2.1])), (a0_draft, aI E 682 z8.2.2.2.2), (a0_text, aI E 150 fa0_text), (a0_town, aI E 682 fa0_town)] H → va_D A [(a0, .inr (5, [.ref a0_text, .int a0_letters, .ref a0_town, .ref a0_draft, .ref a0_tried, .ref a0_images, .ref a0_kept, .ref a0_refused, .long a0_above, .long a0_below, .ref a0_line, .ref a0_best, .int z9.1, .int z9.2, .int z8.2.2.1, .int z8.2.2.2.1])), (a0_draft, aI E 682 z8.2.2.2.2), (a0_text, aI E 150 fa0_text), (a0_town, aI E 682 fa0_town)] → va_S A s.heap H locs → lv_has ls 3 [(0, .ref a0), (1, .int (x1_21 + (1 : Int32)))] → W p l e (wR 6) s m [.ref a0].toArray below meth c H locs 0 0 (MQ below (QWd E A (some (.int z_0)) [(a0, .inr (5, [.ref a0_text, .int a0_letters, .ref a0_town, .ref a0_draft, .ref a0_tried, .ref a0_images, .ref a0_kept, .ref a0_refused, .long a0_above, .long a0_below, .ref a0_line, .ref a0_best, .int z_1, .int z_2, .int z_3, .int z_4])), (a0_draft, aI E 682 z_5), (a0_text, aI E 150 fa0_text), (a0_town, aI E 682 z_6)]) [.ref a0].toArray s 0 0 A) (F0 m 72 ls [.int z14]) := by
                intro H locs ls hP hD hS hl
                refine lv_istore_n (lv' := [(2, .int z14), (0, .ref a0), (1, .int (x1_21 + (1 : Int32)))]) hx hb dX8_read_72 rfl hl (by decide) rfl (fun ls hl => W.pc 73 rfl ?_)
                refine lv_goto (tgt := 21) hx hb dX8_read_73 (by decide) ?_
                exact ih_21 (x1_21 + (1 : Int32)) z14 z9.1 z9.2 z8.2.2.1 z8.2.2.2.1 z8.2.2.2.2 _ _ _ hP hD hS (lv_sub hl [1, 2, 0] rfl) hsp
              replace hsp := hr_z14
              refine lv_icmp_eq (tgt := 71) hx hb dX8_read_64 (by decide) (fun c16 => ?_) (fun c16 => W.pc 67 rfl ?_)
              · have hsp := ip hsp c16
                refine lv_iconst (v := (0 : Int32)) hx hb dX8_read_71 (by decide) (W.pc 72 rfl ?_)
                subst hsp
                exact J15 _ _ _ hP hD hS (lv_sub hl [0, 1] rfl)
              · have hsp := iq hsp c16
                refine lv_iconst (v := (1 : Int32)) hx hb dX8_read_67 (by decide) (W.pc 68 rfl ?_)
                refine lv_goto (tgt := 72) hx hb dX8_read_68 (by decide) ?_
                subst hsp
                exact J15 _ _ _ hP hD hS (lv_sub hl [0, 1] rfl)
            replace hsp := hr_z9
            refine lv_if_eq (tgt := 59) hx hb dX8_read_52 (by decide) (fun c11 => ?_) (fun c11 => W.pc 55 rfl ?_)
            · have hsp := ip hsp c11
              obtain rfl := Option.some.inj hsp
              exact J10 _ _ _ hP hD hS (lv_sub hl [1, 0] rfl)
            · have hsp := iq hsp c11
              refine lv_aload_n hx hb dX8_read_55 rfl (lv_at hl 1 rfl) (W.pc 56 rfl ?_)
              obtain ⟨z12, hr_z12, hsp⟩ := bd_s hsp
              refine kVW (st1 := []) (ws' := [(a0, .inr (5, [.ref a0_text, .int a0_letters, .ref a0_town, .ref a0_draft, .ref a0_tried, .ref a0_images, .ref a0_kept, .ref a0_refused, .long a0_above, .long a0_below, .ref a0_line, .ref a0_best, .int z12.1, .int z12.2, .int z8.2.2.1, .int z8.2.2.2.1])), (a0_draft, aI E 682 z8.2.2.2.2), (a0_text, aI E 150 fa0_text), (a0_town, aI E 682 fa0_town)]) [0, 2] hX (c_X8_skips l E a0 a0_text a0_town a0_draft a0_tried a0_images a0_kept a0_refused a0_line a0_best a0_letters a0_above a0_below z8.1 z8.2.1 z8.2.2.1 z8.2.2.2.1 fa0_text z12.1 z12.2 hr_z12) B_X8_skips w_4_180 hK hP hD hS hA (by decide) rfl rfl rfl (q0 := 0) (ci := 5) rfl rfl rfl rfl hl.1 rfl (Nat.le_of_ble_eq_true rfl) ⟨Nat.le_of_ble_eq_true rfl, Nat.le_of_ble_eq_true rfl⟩ dX8_read_56 rfl (fun H locs hP hD hS => W.pc 59 rfl ?_)
              obtain rfl := Option.some.inj hsp
              exact J10 _ _ _ hP hD hS (lv_sub hl [1, 0] rfl)
          replace hsp := hr_z5
          refine lv_if_ne (tgt := 41) hx hb dX8_read_34 (by decide) (fun c7 => ?_) (fun c7 => W.pc 37 rfl ?_)
          · have hsp := iq hsp c7
            refine lv_iconst (v := (0 : Int32)) hx hb dX8_read_41 (by decide) (W.pc 42 rfl ?_)
            subst hsp
            exact J6 _ _ _ hP hD hS (lv_sub hl [0, 1] rfl)
          · have hsp := ip hsp c7
            refine lv_iconst (v := (1 : Int32)) hx hb dX8_read_37 (by decide) (W.pc 38 rfl ?_)
            refine lv_goto (tgt := 42) hx hb dX8_read_38 (by decide) ?_
            subst hsp
            exact J6 _ _ _ hP hD hS (lv_sub hl [0, 1] rfl)
  obtain ⟨z2, hr_z2, hsp⟩ := bd_s hsp
  refine L_21 z2 (fun H locs ls hP hD hS hl => ?_) FU (0 : Int32) (1 : Int32) (0 : Int32) a0_start (1 : Int32) a0_faultAt z1 _ _ _ hP hD hS (lv_sub hl [2, 1, 0] rfl) hr_z2
  refine lv_aload_n hx hb dX8_read_76 rfl (lv_at hl 0 rfl) (W.pc 77 rfl ?_)
  refine va_get (D := E.1) (ci := 5) (v := .int z2.2.2.2.2.1) (C := RX8) (T := TX8) (N := 16) hx hb hts inT_X8 hown hK hP 0 rfl rfl 14 (by decide) (hts _ w_4_82) (fun _ h9 => h9) rfl dX8_read_77 (W.pc 80 rfl ?_)
  refine lv_if_ne (tgt := 91) hx hb dX8_read_80 (by decide) (fun c17 => ?_) (fun c17 => W.pc 83 rfl ?_)
  · have hsp := iq hsp c17
    refine lv_aload_n hx hb dX8_read_91 rfl (lv_at hl 0 rfl) (W.pc 92 rfl ?_)
    refine va_get (D := E.1) (ci := 5) (v := .ref a0_draft) (C := RX8) (T := TX8) (N := 16) hx hb hts inT_X8 hown hK hP 0 rfl rfl 3 (by decide) (hts _ w_4_71) (fun _ h9 => h9) rfl dX8_read_92 (W.pc 95 rfl ?_)
    refine lv_iconst (v := (0 : Int32)) hx hb dX8_read_95 (by decide) (W.pc 96 rfl ?_)
    refine lv_aload_n hx hb dX8_read_96 rfl (lv_at hl 0 rfl) (W.pc 97 rfl ?_)
    refine va_get (D := E.1) (ci := 5) (v := .ref a0_town) (C := RX8) (T := TX8) (N := 16) hx hb hts inT_X8 hown hK hP 0 rfl rfl 2 (by decide) (hts _ w_4_70) (fun _ h9 => h9) rfl dX8_read_97 (W.pc 100 rfl ?_)
    refine lv_iconst (v := (0 : Int32)) hx hb dX8_read_100 (by decide) (W.pc 101 rfl ?_)
    refine lv_sipush (v := (682 : Int32)) hx hb dX8_read_101 (by decide) (W.pc 104 rfl ?_)
    obtain ⟨z18, hr_z18, hsp⟩ := bd_s hsp
    refine kSW (st1 := []) (ws' := [(a0, .inr (5, [.ref a0_text, .int a0_letters, .ref a0_town, .ref a0_draft, .ref a0_tried, .ref a0_images, .ref a0_kept, .ref a0_refused, .long a0_above, .long a0_below, .ref a0_line, .ref a0_best, .int z2.2.2.1, .int z2.2.2.2.1, .int z2.2.2.2.2.1, .int z2.2.2.2.2.2.1])), (a0_draft, aI E 682 z2.2.2.2.2.2.2), (a0_text, aI E 150 fa0_text), (a0_town, aI E 682 z18)]) [1, 3] hX (c_X8_copies_d l E a0_draft a0_town 682 (by decide) 682 (by decide) (0 : Int32) (0 : Int32) (682 : Int32) z2.2.2.2.2.2.2 fa0_town z18 hr_z18) B_X8_copies w_5_15 hK hP hD hS hA (by decide) rfl rfl rfl rfl hl.1 rfl (Nat.le_of_ble_eq_true rfl) ⟨Nat.le_of_ble_eq_true rfl, Nat.le_of_ble_eq_true rfl⟩ dX8_read_104 rfl (fun H locs hP hD hS => W.pc 107 rfl ?_)
    refine lv_iload_n hx hb dX8_read_107 rfl (lv_at hl 1 rfl) (W.pc 108 rfl ?_)
    cases hsp
    exact rWi hX hP hS rfl rfl dX8_read_108
  · have hsp := ip hsp c17
    refine lv_bipush (v := (-10 : Int32)) hx hb dX8_read_83 (by decide) (W.pc 85 rfl ?_)
    refine lv_aload_n hx hb dX8_read_85 rfl (lv_at hl 0 rfl) (W.pc 86 rfl ?_)
    refine va_get (D := E.1) (ci := 5) (v := .int z2.2.2.2.2.2.1) (C := RX8) (T := TX8) (N := 16) hx hb hts inT_X8 hown hK hP 0 rfl rfl 15 (by decide) (hts _ w_4_83) (fun _ h9 => h9) rfl dX8_read_86 (W.pc 89 rfl ?_)
    refine lv_isub hx hb dX8_read_89 (W.pc 90 rfl ?_)
    generalize ((-10 : Int32) - z2.2.2.2.2.2.1) = q9 at hsp ⊢
    cases hsp
    exact rWi hX hP hS rfl rfl dX8_read_90
