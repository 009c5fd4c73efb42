theorem w_1_119 : Cond.fieldLink RX5 129 "LevelGone$Text" "length" "I" ∈ TBL := TBL_t (tin1 (List.mem_of_getElem? (i := 119) (by decide +kernel))) (by decide +kernel)
theorem w_1_116 : Cond.fieldLink RX5 9 "LevelGone$Text" "bytes" "[I" ∈ TBL := TBL_t (tin1 (List.mem_of_getElem? (i := 116) (by decide +kernel))) (by decide +kernel)
theorem w_2_68 : Cond.methodLink RX5 117 yX2_at ∈ TBL := TBL_t (tin2 (List.mem_of_getElem? (i := 68) (by decide +kernel))) (by decide +kernel)
theorem w_2_69 : Cond.methodLink RX5 107 yX2_within ∈ TBL := TBL_t (tin2 (List.mem_of_getElem? (i := 69) (by decide +kernel))) (by decide +kernel)
theorem w_1_122 : Cond.fieldLink RX5 15 "LevelGone$Text" "behind" "I" ∈ TBL := TBL_t (tin1 (List.mem_of_getElem? (i := 122) (by decide +kernel))) (by decide +kernel)
theorem w_1_121 : Cond.fieldLink RX5 23 "LevelGone$Text" "start" "I" ∈ TBL := TBL_t (tin1 (List.mem_of_getElem? (i := 121) (by decide +kernel))) (by decide +kernel)
theorem w_1_120 : Cond.fieldLink RX5 29 "LevelGone$Text" "token" "I" ∈ TBL := TBL_t (tin1 (List.mem_of_getElem? (i := 120) (by decide +kernel))) (by decide +kernel)
theorem w_1_123 : Cond.fieldLink RX5 45 "LevelGone$Text" "value" "I" ∈ TBL := TBL_t (tin1 (List.mem_of_getElem? (i := 123) (by decide +kernel))) (by decide +kernel)
theorem w_2_64 : Cond.methodLink RX5 125 yX5_behindRun ∈ TBL := TBL_t (tin2 (List.mem_of_getElem? (i := 64) (by decide +kernel))) (by decide +kernel)
theorem w_2_70 : Cond.methodLink RX5 131 yX5_takeFigures ∈ TBL := TBL_t (tin2 (List.mem_of_getElem? (i := 70) (by decide +kernel))) (by decide +kernel)
theorem w_2_60 : Cond.methodLink RX5 26 yX5_advance ∈ TBL := TBL_t (tin2 (List.mem_of_getElem? (i := 60) (by decide +kernel))) (by decide +kernel)
theorem w_2_131 : Cond.methodLink RX5 85 yX5_isNumber ∈ TBL := TBL_t (tin2 (List.mem_of_getElem? (i := 131) (by decide +kernel))) (by decide +kernel)
theorem w_2_127 : Cond.methodLink RX5 41 yX5_takesNumber ∈ TBL := TBL_t (tin2 (List.mem_of_getElem? (i := 127) (by decide +kernel))) (by decide +kernel)
theorem w_2_136 : Cond.methodLink RX5 54 yX5_takesStop ∈ TBL := TBL_t (tin2 (List.mem_of_getElem? (i := 136) (by decide +kernel))) (by decide +kernel)
theorem w_2_188 : Cond.methodLink RX5 104 yX6_goOn ∈ TBL := TBL_t (tin2 (List.mem_of_getElem? (i := 188) (by decide +kernel))) (by decide +kernel)
theorem w_1_70 : Cond.fieldLink RX5 65 "LevelGone$Town" "site" "LLevelGone$Site;" ∈ TBL := TBL_t (tin1 (List.mem_of_getElem? (i := 70) (by decide +kernel))) (by decide +kernel)
theorem w_2_155 : Cond.methodLink RX5 96 yX3_height ∈ TBL := TBL_t (tin2 (List.mem_of_getElem? (i := 155) (by decide +kernel))) (by decide +kernel)
theorem w_2_156 : Cond.methodLink RX5 100 yX3_raise ∈ TBL := TBL_t (tin2 (List.mem_of_getElem? (i := 156) (by decide +kernel))) (by decide +kernel)
theorem w_1_66 : Cond.fieldLink RX5 88 "LevelGone$Town" "pulls" "[I" ∈ TBL := TBL_t (tin1 (List.mem_of_getElem? (i := 66) (by decide +kernel))) (by decide +kernel)
theorem w_2_149 : Cond.methodLink RX5 90 yX2_put ∈ TBL := TBL_t (tin2 (List.mem_of_getElem? (i := 149) (by decide +kernel))) (by decide +kernel)
theorem w_1_233 : Cond.code yX2_within cX2_within 3 (some .boolean) ∈ TBL := TBL_t (tin1 (List.mem_of_getElem? (i := 233) (by decide +kernel))) (by decide +kernel)
theorem w_1_232 : Cond.static yX2_within ∈ TBL := TBL_t (tin1 (List.mem_of_getElem? (i := 232) (by decide +kernel))) (by decide +kernel)
theorem w_2_67 : Cond.code yX5_behindRun cX5_behindRun 5 (some .int) ∈ TBL := TBL_t (tin2 (List.mem_of_getElem? (i := 67) (by decide +kernel))) (by decide +kernel)
theorem w_2_66 : Cond.instanceMethod yX5_behindRun ∈ TBL := TBL_t (tin2 (List.mem_of_getElem? (i := 66) (by decide +kernel))) (by decide +kernel)
theorem w_1_4 : Cond.initialized RX5 ∈ TBL := TBL_t (tin1 (List.mem_of_getElem? (i := 4) (by decide +kernel))) (by decide +kernel)
theorem w_2_73 : Cond.code yX5_takeFigures cX5_takeFigures 3 none ∈ TBL := TBL_t (tin2 (List.mem_of_getElem? (i := 73) (by decide +kernel))) (by decide +kernel)
theorem w_2_72 : Cond.instanceMethod yX5_takeFigures ∈ TBL := TBL_t (tin2 (List.mem_of_getElem? (i := 72) (by decide +kernel))) (by decide +kernel)
theorem w_2_63 : Cond.code yX5_advance cX5_advance 2 none ∈ TBL := TBL_t (tin2 (List.mem_of_getElem? (i := 63) (by decide +kernel))) (by decide +kernel)
theorem w_2_62 : Cond.instanceMethod yX5_advance ∈ TBL := TBL_t (tin2 (List.mem_of_getElem? (i := 62) (by decide +kernel))) (by decide +kernel)
theorem w_2_134 : Cond.code yX5_isNumber cX5_isNumber 3 (some .boolean) ∈ TBL := TBL_t (tin2 (List.mem_of_getElem? (i := 134) (by decide +kernel))) (by decide +kernel)
theorem w_2_133 : Cond.instanceMethod yX5_isNumber ∈ TBL := TBL_t (tin2 (List.mem_of_getElem? (i := 133) (by decide +kernel))) (by decide +kernel)
theorem w_2_130 : Cond.code yX5_takesNumber cX5_takesNumber 3 (some .boolean) ∈ TBL := TBL_t (tin2 (List.mem_of_getElem? (i := 130) (by decide +kernel))) (by decide +kernel)
theorem w_2_129 : Cond.instanceMethod yX5_takesNumber ∈ TBL := TBL_t (tin2 (List.mem_of_getElem? (i := 129) (by decide +kernel))) (by decide +kernel)
theorem w_2_139 : Cond.code yX5_takesStop cX5_takesStop 1 (some .boolean) ∈ TBL := TBL_t (tin2 (List.mem_of_getElem? (i := 139) (by decide +kernel))) (by decide +kernel)
theorem w_2_138 : Cond.instanceMethod yX5_takesStop ∈ TBL := TBL_t (tin2 (List.mem_of_getElem? (i := 138) (by decide +kernel))) (by decide +kernel)
theorem w_2_190 : Cond.selects yX6_goOn.cls yX6_goOn yX6_goOn ∈ TBL := TBL_t (tin2 (List.mem_of_getElem? (i := 190) (by decide +kernel))) (by decide +kernel)
theorem w_2_191 : Cond.code yX6_goOn cX6_goOn 3 none ∈ TBL := TBL_t (tin2 (List.mem_of_getElem? (i := 191) (by decide +kernel))) (by decide +kernel)
theorem w_2_189 : Cond.instanceMethod yX6_goOn ∈ TBL := TBL_t (tin2 (List.mem_of_getElem? (i := 189) (by decide +kernel))) (by decide +kernel)
theorem w_2_158 : Cond.selects yX3_raise.cls yX3_raise yX3_raise ∈ TBL := TBL_t (tin2 (List.mem_of_getElem? (i := 158) (by decide +kernel))) (by decide +kernel)
theorem w_2_159 : Cond.code yX3_raise cX3_raise 8 none ∈ TBL := TBL_t (tin2 (List.mem_of_getElem? (i := 159) (by decide +kernel))) (by decide +kernel)
theorem w_2_157 : Cond.instanceMethod yX3_raise ∈ TBL := TBL_t (tin2 (List.mem_of_getElem? (i := 157) (by decide +kernel))) (by decide +kernel)
theorem ws_3 : Cond.selects yX5_advance.cls yX5_advance yX5_advance ∈ TBL := TBL_s (List.mem_of_getElem? (i := 3) (by decide +kernel)) (by decide +kernel)
theorem ws_4 : Cond.selects yX5_behindRun.cls yX5_behindRun yX5_behindRun ∈ TBL := TBL_s (List.mem_of_getElem? (i := 4) (by decide +kernel)) (by decide +kernel)
theorem ws_5 : Cond.selects yX5_takeFigures.cls yX5_takeFigures yX5_takeFigures ∈ TBL := TBL_s (List.mem_of_getElem? (i := 5) (by decide +kernel)) (by decide +kernel)
theorem ws_7 : Cond.selects yX5_takesNumber.cls yX5_takesNumber yX5_takesNumber ∈ TBL := TBL_s (List.mem_of_getElem? (i := 7) (by decide +kernel)) (by decide +kernel)
theorem ws_8 : Cond.selects yX5_isNumber.cls yX5_isNumber yX5_isNumber ∈ TBL := TBL_s (List.mem_of_getElem? (i := 8) (by decide +kernel)) (by decide +kernel)
theorem ws_9 : Cond.selects yX5_takesStop.cls yX5_takesStop yX5_takesStop ∈ TBL := TBL_s (List.mem_of_getElem? (i := 9) (by decide +kernel)) (by decide +kernel)
theorem B_X2_within : cS yX2_within cX2_within 3 (some .boolean) 3 := ⟨w_1_233, w_1_232, w_1_7, by decide +kernel⟩
theorem B_X5_behindRun : cV yX5_behindRun cX5_behindRun 5 (some .int) 3 := ⟨w_2_67, w_2_66, (ws_4), w_1_4, by decide +kernel⟩
theorem B_X5_takeFigures : cV yX5_takeFigures cX5_takeFigures 3 none 0 := ⟨w_2_73, w_2_72, (ws_5), w_1_4, by decide +kernel⟩
theorem B_X5_advance : cV yX5_advance cX5_advance 2 none 0 := ⟨w_2_63, w_2_62, (ws_3), w_1_4, by decide +kernel⟩
theorem B_X5_isNumber : cV yX5_isNumber cX5_isNumber 3 (some .boolean) 2 := ⟨w_2_134, w_2_133, (ws_8), w_1_4, by decide +kernel⟩
theorem B_X5_takesNumber : cV yX5_takesNumber cX5_takesNumber 3 (some .boolean) 2 := ⟨w_2_130, w_2_129, (ws_7), w_1_4, by decide +kernel⟩
theorem B_X5_takesStop : cV yX5_takesStop cX5_takesStop 1 (some .boolean) 0 := ⟨w_2_139, w_2_138, (ws_9), w_1_4, by decide +kernel⟩
theorem B_X6_goOn : cV yX6_goOn cX6_goOn 3 none 1 := ⟨w_2_191, w_2_189, w_2_190, w_1_2, by decide +kernel⟩
theorem B_X3_raise : cV yX3_raise cX3_raise 8 none 3 := ⟨w_2_159, w_2_157, w_2_158, w_1_3, by decide +kernel⟩
theorem dX5_behindRun_0 : decode cX5_behindRun 0 = .ok (.iload_n 1, 1) := by decide +kernel
theorem dX5_behindRun_1 : decode cX5_behindRun 1 = .ok (.istore 4, 2) := by decide +kernel
theorem dX5_behindRun_3 : decode cX5_behindRun 3 = .ok (.iload 4, 2) := by decide +kernel
theorem dX5_behindRun_5 : decode cX5_behindRun 5 = .ok (.aload_n 0, 1) := by decide +kernel
theorem dX5_behindRun_6 : decode cX5_behindRun 6 = .ok (.getfield 129, 3) := by decide +kernel
theorem dX5_behindRun_9 : decode cX5_behindRun 9 = .ok (.if_icmp .ge 26, 3) := by decide +kernel
theorem dX5_behindRun_12 : decode cX5_behindRun 12 = .ok (.aload_n 0, 1) := by decide +kernel
theorem dX5_behindRun_13 : decode cX5_behindRun 13 = .ok (.getfield 9, 3) := by decide +kernel
theorem dX5_behindRun_16 : decode cX5_behindRun 16 = .ok (.iload 4, 2) := by decide +kernel
theorem dX5_behindRun_18 : decode cX5_behindRun 18 = .ok (.invokestatic 117, 3) := by decide +kernel
theorem dX5_behindRun_21 : decode cX5_behindRun 21 = .ok (.iload_n 2, 1) := by decide +kernel
theorem dX5_behindRun_22 : decode cX5_behindRun 22 = .ok (.iload_n 3, 1) := by decide +kernel
theorem dX5_behindRun_23 : decode cX5_behindRun 23 = .ok (.invokestatic 107, 3) := by decide +kernel
theorem dX5_behindRun_26 : decode cX5_behindRun 26 = .ok (.ifCond .eq 9, 3) := by decide +kernel
theorem dX5_behindRun_29 : decode cX5_behindRun 29 = .ok (.iinc 4 1, 3) := by decide +kernel
theorem dX5_behindRun_32 : decode cX5_behindRun 32 = .ok (.goto (-29), 3) := by decide +kernel
theorem dX5_behindRun_35 : decode cX5_behindRun 35 = .ok (.iload 4, 2) := by decide +kernel
theorem dX5_behindRun_37 : decode cX5_behindRun 37 = .ok (.ireturn, 1) := by decide +kernel
theorem dX5_takeFigures_0 : decode cX5_takeFigures 0 = .ok (.aload_n 0, 1) := by decide +kernel
theorem dX5_takeFigures_1 : decode cX5_takeFigures 1 = .ok (.getfield 15, 3) := by decide +kernel
theorem dX5_takeFigures_4 : decode cX5_takeFigures 4 = .ok (.aload_n 0, 1) := by decide +kernel
theorem dX5_takeFigures_5 : decode cX5_takeFigures 5 = .ok (.getfield 23, 3) := by decide +kernel
theorem dX5_takeFigures_8 : decode cX5_takeFigures 8 = .ok (.isub, 1) := by decide +kernel
theorem dX5_takeFigures_9 : decode cX5_takeFigures 9 = .ok (.istore_n 1, 1) := by decide +kernel
theorem dX5_takeFigures_10 : decode cX5_takeFigures 10 = .ok (.aload_n 0, 1) := by decide +kernel
theorem dX5_takeFigures_11 : decode cX5_takeFigures 11 = .ok (.iload_n 1, 1) := by decide +kernel
theorem dX5_takeFigures_12 : decode cX5_takeFigures 12 = .ok (.iconst 2, 1) := by decide +kernel
theorem dX5_takeFigures_13 : decode cX5_takeFigures 13 = .ok (.if_icmp .gt 7, 3) := by decide +kernel
theorem dX5_takeFigures_16 : decode cX5_takeFigures 16 = .ok (.iconst 2, 1) := by decide +kernel
theorem dX5_takeFigures_17 : decode cX5_takeFigures 17 = .ok (.goto 4, 3) := by decide +kernel
theorem dX5_takeFigures_20 : decode cX5_takeFigures 20 = .ok (.iconst 4, 1) := by decide +kernel
theorem dX5_takeFigures_21 : decode cX5_takeFigures 21 = .ok (.putfield 29, 3) := by decide +kernel
theorem dX5_takeFigures_24 : decode cX5_takeFigures 24 = .ok (.aload_n 0, 1) := by decide +kernel
theorem dX5_takeFigures_25 : decode cX5_takeFigures 25 = .ok (.iconst 0, 1) := by decide +kernel
theorem dX5_takeFigures_26 : decode cX5_takeFigures 26 = .ok (.putfield 45, 3) := by decide +kernel
theorem dX5_takeFigures_29 : decode cX5_takeFigures 29 = .ok (.aload_n 0, 1) := by decide +kernel
theorem dX5_takeFigures_30 : decode cX5_takeFigures 30 = .ok (.getfield 23, 3) := by decide +kernel
theorem dX5_takeFigures_33 : decode cX5_takeFigures 33 = .ok (.istore_n 2, 1) := by decide +kernel
theorem dX5_takeFigures_34 : decode cX5_takeFigures 34 = .ok (.iload_n 2, 1) := by decide +kernel
theorem dX5_takeFigures_35 : decode cX5_takeFigures 35 = .ok (.aload_n 0, 1) := by decide +kernel
theorem dX5_takeFigures_36 : decode cX5_takeFigures 36 = .ok (.getfield 15, 3) := by decide +kernel
theorem dX5_takeFigures_39 : decode cX5_takeFigures 39 = .ok (.if_icmp .ge 32, 3) := by decide +kernel
theorem dX5_takeFigures_42 : decode cX5_takeFigures 42 = .ok (.aload_n 0, 1) := by decide +kernel
theorem dX5_takeFigures_43 : decode cX5_takeFigures 43 = .ok (.bipush 10, 2) := by decide +kernel
theorem dX5_takeFigures_45 : decode cX5_takeFigures 45 = .ok (.aload_n 0, 1) := by decide +kernel
theorem dX5_takeFigures_46 : decode cX5_takeFigures 46 = .ok (.getfield 45, 3) := by decide +kernel
theorem dX5_takeFigures_49 : decode cX5_takeFigures 49 = .ok (.imul, 1) := by decide +kernel
theorem dX5_takeFigures_50 : decode cX5_takeFigures 50 = .ok (.aload_n 0, 1) := by decide +kernel
theorem dX5_takeFigures_51 : decode cX5_takeFigures 51 = .ok (.getfield 9, 3) := by decide +kernel
theorem dX5_takeFigures_54 : decode cX5_takeFigures 54 = .ok (.iload_n 2, 1) := by decide +kernel
theorem dX5_takeFigures_55 : decode cX5_takeFigures 55 = .ok (.invokestatic 117, 3) := by decide +kernel
theorem dX5_takeFigures_58 : decode cX5_takeFigures 58 = .ok (.iadd, 1) := by decide +kernel
theorem dX5_takeFigures_59 : decode cX5_takeFigures 59 = .ok (.bipush 48, 2) := by decide +kernel
theorem dX5_takeFigures_61 : decode cX5_takeFigures 61 = .ok (.isub, 1) := by decide +kernel
theorem dX5_takeFigures_62 : decode cX5_takeFigures 62 = .ok (.putfield 45, 3) := by decide +kernel
theorem dX5_takeFigures_65 : decode cX5_takeFigures 65 = .ok (.iinc 2 1, 3) := by decide +kernel
theorem dX5_takeFigures_68 : decode cX5_takeFigures 68 = .ok (.goto (-34), 3) := by decide +kernel
theorem dX5_takeFigures_71 : decode cX5_takeFigures 71 = .ok (.return_, 1) := by decide +kernel
theorem dX5_advance_0 : decode cX5_advance 0 = .ok (.aload_n 0, 1) := by decide +kernel
theorem dX5_advance_1 : decode cX5_advance 1 = .ok (.aload_n 0, 1) := by decide +kernel
theorem dX5_advance_2 : decode cX5_advance 2 = .ok (.aload_n 0, 1) := by decide +kernel
theorem dX5_advance_3 : decode cX5_advance 3 = .ok (.getfield 15, 3) := by decide +kernel
theorem dX5_advance_6 : decode cX5_advance 6 = .ok (.bipush 32, 2) := by decide +kernel
theorem dX5_advance_8 : decode cX5_advance 8 = .ok (.bipush 32, 2) := by decide +kernel
theorem dX5_advance_10 : decode cX5_advance 10 = .ok (.invokevirtual 125, 3) := by decide +kernel
theorem dX5_advance_13 : decode cX5_advance 13 = .ok (.putfield 23, 3) := by decide +kernel
theorem dX5_advance_16 : decode cX5_advance 16 = .ok (.aload_n 0, 1) := by decide +kernel
theorem dX5_advance_17 : decode cX5_advance 17 = .ok (.aload_n 0, 1) := by decide +kernel
theorem dX5_advance_18 : decode cX5_advance 18 = .ok (.getfield 23, 3) := by decide +kernel
theorem dX5_advance_21 : decode cX5_advance 21 = .ok (.iconst 1, 1) := by decide +kernel
theorem dX5_advance_22 : decode cX5_advance 22 = .ok (.iadd, 1) := by decide +kernel
theorem dX5_advance_23 : decode cX5_advance 23 = .ok (.putfield 15, 3) := by decide +kernel
theorem dX5_advance_26 : decode cX5_advance 26 = .ok (.aload_n 0, 1) := by decide +kernel
theorem dX5_advance_27 : decode cX5_advance 27 = .ok (.getfield 9, 3) := by decide +kernel
theorem dX5_advance_30 : decode cX5_advance 30 = .ok (.aload_n 0, 1) := by decide +kernel
theorem dX5_advance_31 : decode cX5_advance 31 = .ok (.getfield 23, 3) := by decide +kernel
theorem dX5_advance_34 : decode cX5_advance 34 = .ok (.invokestatic 117, 3) := by decide +kernel
theorem dX5_advance_37 : decode cX5_advance 37 = .ok (.istore_n 1, 1) := by decide +kernel
theorem dX5_advance_38 : decode cX5_advance 38 = .ok (.aload_n 0, 1) := by decide +kernel
theorem dX5_advance_39 : decode cX5_advance 39 = .ok (.getfield 23, 3) := by decide +kernel
theorem dX5_advance_42 : decode cX5_advance 42 = .ok (.aload_n 0, 1) := by decide +kernel
theorem dX5_advance_43 : decode cX5_advance 43 = .ok (.getfield 129, 3) := by decide +kernel
theorem dX5_advance_46 : decode cX5_advance 46 = .ok (.if_icmp .lt 11, 3) := by decide +kernel
theorem dX5_advance_49 : decode cX5_advance 49 = .ok (.aload_n 0, 1) := by decide +kernel
theorem dX5_advance_50 : decode cX5_advance 50 = .ok (.iconst 0, 1) := by decide +kernel
theorem dX5_advance_51 : decode cX5_advance 51 = .ok (.putfield 29, 3) := by decide +kernel
theorem dX5_advance_54 : decode cX5_advance 54 = .ok (.goto 91, 3) := by decide +kernel
theorem dX5_advance_57 : decode cX5_advance 57 = .ok (.iload_n 1, 1) := by decide +kernel
theorem dX5_advance_58 : decode cX5_advance 58 = .ok (.bipush 59, 2) := by decide +kernel
theorem dX5_advance_60 : decode cX5_advance 60 = .ok (.if_icmp .ne 11, 3) := by decide +kernel
theorem dX5_advance_63 : decode cX5_advance 63 = .ok (.aload_n 0, 1) := by decide +kernel
theorem dX5_advance_64 : decode cX5_advance 64 = .ok (.iconst 3, 1) := by decide +kernel
theorem dX5_advance_65 : decode cX5_advance 65 = .ok (.putfield 29, 3) := by decide +kernel
theorem dX5_advance_68 : decode cX5_advance 68 = .ok (.goto 77, 3) := by decide +kernel
theorem dX5_advance_71 : decode cX5_advance 71 = .ok (.iload_n 1, 1) := by decide +kernel
theorem dX5_advance_72 : decode cX5_advance 72 = .ok (.bipush 97, 2) := by decide +kernel
theorem dX5_advance_74 : decode cX5_advance 74 = .ok (.bipush 122, 2) := by decide +kernel
theorem dX5_advance_76 : decode cX5_advance 76 = .ok (.invokestatic 107, 3) := by decide +kernel
theorem dX5_advance_79 : decode cX5_advance 79 = .ok (.ifCond .eq 27, 3) := by decide +kernel
theorem dX5_advance_82 : decode cX5_advance 82 = .ok (.aload_n 0, 1) := by decide +kernel
theorem dX5_advance_83 : decode cX5_advance 83 = .ok (.iconst 1, 1) := by decide +kernel
theorem dX5_advance_84 : decode cX5_advance 84 = .ok (.putfield 29, 3) := by decide +kernel
theorem dX5_advance_87 : decode cX5_advance 87 = .ok (.aload_n 0, 1) := by decide +kernel
theorem dX5_advance_88 : decode cX5_advance 88 = .ok (.aload_n 0, 1) := by decide +kernel
theorem dX5_advance_89 : decode cX5_advance 89 = .ok (.aload_n 0, 1) := by decide +kernel
theorem dX5_advance_90 : decode cX5_advance 90 = .ok (.getfield 23, 3) := by decide +kernel
theorem dX5_advance_93 : decode cX5_advance 93 = .ok (.bipush 97, 2) := by decide +kernel
theorem dX5_advance_95 : decode cX5_advance 95 = .ok (.bipush 122, 2) := by decide +kernel
theorem dX5_advance_97 : decode cX5_advance 97 = .ok (.invokevirtual 125, 3) := by decide +kernel
theorem dX5_advance_100 : decode cX5_advance 100 = .ok (.putfield 15, 3) := by decide +kernel
theorem dX5_advance_103 : decode cX5_advance 103 = .ok (.goto 42, 3) := by decide +kernel
theorem dX5_advance_106 : decode cX5_advance 106 = .ok (.iload_n 1, 1) := by decide +kernel
theorem dX5_advance_107 : decode cX5_advance 107 = .ok (.bipush 48, 2) := by decide +kernel
theorem dX5_advance_109 : decode cX5_advance 109 = .ok (.bipush 57, 2) := by decide +kernel
theorem dX5_advance_111 : decode cX5_advance 111 = .ok (.invokestatic 107, 3) := by decide +kernel
theorem dX5_advance_114 : decode cX5_advance 114 = .ok (.ifCond .eq 26, 3) := by decide +kernel
theorem dX5_advance_117 : decode cX5_advance 117 = .ok (.aload_n 0, 1) := by decide +kernel
theorem dX5_advance_118 : decode cX5_advance 118 = .ok (.aload_n 0, 1) := by decide +kernel
theorem dX5_advance_119 : decode cX5_advance 119 = .ok (.aload_n 0, 1) := by decide +kernel
theorem dX5_advance_120 : decode cX5_advance 120 = .ok (.getfield 23, 3) := by decide +kernel
theorem dX5_advance_123 : decode cX5_advance 123 = .ok (.bipush 48, 2) := by decide +kernel
theorem dX5_advance_125 : decode cX5_advance 125 = .ok (.bipush 57, 2) := by decide +kernel
theorem dX5_advance_127 : decode cX5_advance 127 = .ok (.invokevirtual 125, 3) := by decide +kernel
theorem dX5_advance_130 : decode cX5_advance 130 = .ok (.putfield 15, 3) := by decide +kernel
theorem dX5_advance_133 : decode cX5_advance 133 = .ok (.aload_n 0, 1) := by decide +kernel
theorem dX5_advance_134 : decode cX5_advance 134 = .ok (.invokevirtual 131, 3) := by decide +kernel
theorem dX5_advance_137 : decode cX5_advance 137 = .ok (.goto 8, 3) := by decide +kernel
theorem dX5_advance_140 : decode cX5_advance 140 = .ok (.aload_n 0, 1) := by decide +kernel
theorem dX5_advance_141 : decode cX5_advance 141 = .ok (.iconst 4, 1) := by decide +kernel
theorem dX5_advance_142 : decode cX5_advance 142 = .ok (.putfield 29, 3) := by decide +kernel
theorem dX5_advance_145 : decode cX5_advance 145 = .ok (.return_, 1) := by decide +kernel
theorem dX5_isNumber_0 : decode cX5_isNumber 0 = .ok (.aload_n 0, 1) := by decide +kernel
theorem dX5_isNumber_1 : decode cX5_isNumber 1 = .ok (.getfield 29, 3) := by decide +kernel
theorem dX5_isNumber_4 : decode cX5_isNumber 4 = .ok (.iconst 2, 1) := by decide +kernel
theorem dX5_isNumber_5 : decode cX5_isNumber 5 = .ok (.if_icmp .ne 19, 3) := by decide +kernel
theorem dX5_isNumber_8 : decode cX5_isNumber 8 = .ok (.aload_n 0, 1) := by decide +kernel
theorem dX5_isNumber_9 : decode cX5_isNumber 9 = .ok (.getfield 45, 3) := by decide +kernel
theorem dX5_isNumber_12 : decode cX5_isNumber 12 = .ok (.iload_n 1, 1) := by decide +kernel
theorem dX5_isNumber_13 : decode cX5_isNumber 13 = .ok (.iload_n 2, 1) := by decide +kernel
theorem dX5_isNumber_14 : decode cX5_isNumber 14 = .ok (.invokestatic 107, 3) := by decide +kernel
theorem dX5_isNumber_17 : decode cX5_isNumber 17 = .ok (.ifCond .eq 7, 3) := by decide +kernel
theorem dX5_isNumber_20 : decode cX5_isNumber 20 = .ok (.iconst 1, 1) := by decide +kernel
theorem dX5_isNumber_21 : decode cX5_isNumber 21 = .ok (.goto 4, 3) := by decide +kernel
theorem dX5_isNumber_24 : decode cX5_isNumber 24 = .ok (.iconst 0, 1) := by decide +kernel
theorem dX5_isNumber_25 : decode cX5_isNumber 25 = .ok (.ireturn, 1) := by decide +kernel
theorem dX5_takesStop_0 : decode cX5_takesStop 0 = .ok (.aload_n 0, 1) := by decide +kernel
theorem dX5_takesStop_1 : decode cX5_takesStop 1 = .ok (.invokevirtual 26, 3) := by decide +kernel
theorem dX5_takesStop_4 : decode cX5_takesStop 4 = .ok (.aload_n 0, 1) := by decide +kernel
theorem dX5_takesStop_5 : decode cX5_takesStop 5 = .ok (.getfield 29, 3) := by decide +kernel
theorem dX5_takesStop_8 : decode cX5_takesStop 8 = .ok (.iconst 3, 1) := by decide +kernel
theorem dX5_takesStop_9 : decode cX5_takesStop 9 = .ok (.if_icmp .ne 7, 3) := by decide +kernel
theorem dX5_takesStop_12 : decode cX5_takesStop 12 = .ok (.iconst 1, 1) := by decide +kernel
theorem dX5_takesStop_13 : decode cX5_takesStop 13 = .ok (.goto 4, 3) := by decide +kernel
theorem dX5_takesStop_16 : decode cX5_takesStop 16 = .ok (.iconst 0, 1) := by decide +kernel
theorem dX5_takesStop_17 : decode cX5_takesStop 17 = .ok (.ireturn, 1) := by decide +kernel
theorem dX5_takesNumber_0 : decode cX5_takesNumber 0 = .ok (.aload_n 0, 1) := by decide +kernel
theorem dX5_takesNumber_1 : decode cX5_takesNumber 1 = .ok (.invokevirtual 26, 3) := by decide +kernel
theorem dX5_takesNumber_4 : decode cX5_takesNumber 4 = .ok (.aload_n 0, 1) := by decide +kernel
theorem dX5_takesNumber_5 : decode cX5_takesNumber 5 = .ok (.iload_n 1, 1) := by decide +kernel
theorem dX5_takesNumber_6 : decode cX5_takesNumber 6 = .ok (.iload_n 2, 1) := by decide +kernel
theorem dX5_takesNumber_7 : decode cX5_takesNumber 7 = .ok (.invokevirtual 85, 3) := by decide +kernel
theorem dX5_takesNumber_10 : decode cX5_takesNumber 10 = .ok (.ireturn, 1) := by decide +kernel
theorem dX5_readYears_0 : decode cX5_readYears 0 = .ok (.aload_n 0, 1) := by decide +kernel
theorem dX5_readYears_1 : decode cX5_readYears 1 = .ok (.iconst 1, 1) := by decide +kernel
theorem dX5_readYears_2 : decode cX5_readYears 2 = .ok (.bipush 99, 2) := by decide +kernel
theorem dX5_readYears_4 : decode cX5_readYears 4 = .ok (.invokevirtual 41, 3) := by decide +kernel
theorem dX5_readYears_7 : decode cX5_readYears 7 = .ok (.ifCond .ne 5, 3) := by decide +kernel
theorem dX5_readYears_10 : decode cX5_readYears 10 = .ok (.iconst 0, 1) := by decide +kernel
theorem dX5_readYears_11 : decode cX5_readYears 11 = .ok (.ireturn, 1) := by decide +kernel
theorem dX5_readYears_12 : decode cX5_readYears 12 = .ok (.aload_n 0, 1) := by decide +kernel
theorem dX5_readYears_13 : decode cX5_readYears 13 = .ok (.getfield 45, 3) := by decide +kernel
theorem dX5_readYears_16 : decode cX5_readYears 16 = .ok (.istore_n 2, 1) := by decide +kernel
theorem dX5_readYears_17 : decode cX5_readYears 17 = .ok (.aload_n 0, 1) := by decide +kernel
theorem dX5_readYears_18 : decode cX5_readYears 18 = .ok (.invokevirtual 54, 3) := by decide +kernel
theorem dX5_readYears_21 : decode cX5_readYears 21 = .ok (.ifCond .ne 5, 3) := by decide +kernel
theorem dX5_readYears_24 : decode cX5_readYears 24 = .ok (.iconst 0, 1) := by decide +kernel
theorem dX5_readYears_25 : decode cX5_readYears 25 = .ok (.ireturn, 1) := by decide +kernel
theorem dX5_readYears_26 : decode cX5_readYears 26 = .ok (.aload_n 1, 1) := by decide +kernel
theorem dX5_readYears_27 : decode cX5_readYears 27 = .ok (.iload_n 2, 1) := by decide +kernel
theorem dX5_readYears_28 : decode cX5_readYears 28 = .ok (.invokevirtual 104, 3) := by decide +kernel
theorem dX5_readYears_31 : decode cX5_readYears 31 = .ok (.iconst 1, 1) := by decide +kernel
theorem dX5_readYears_32 : decode cX5_readYears 32 = .ok (.ireturn, 1) := by decide +kernel
theorem dX5_readBuilding_0 : decode cX5_readBuilding 0 = .ok (.aload_n 0, 1) := by decide +kernel
theorem dX5_readBuilding_1 : decode cX5_readBuilding 1 = .ok (.iconst 0, 1) := by decide +kernel
theorem dX5_readBuilding_2 : decode cX5_readBuilding 2 = .ok (.iconst 5, 1) := by decide +kernel
theorem dX5_readBuilding_3 : decode cX5_readBuilding 3 = .ok (.invokevirtual 41, 3) := by decide +kernel
theorem dX5_readBuilding_6 : decode cX5_readBuilding 6 = .ok (.ifCond .eq 18, 3) := by decide +kernel
theorem dX5_readBuilding_9 : decode cX5_readBuilding 9 = .ok (.aload_n 1, 1) := by decide +kernel
theorem dX5_readBuilding_10 : decode cX5_readBuilding 10 = .ok (.getfield 65, 3) := by decide +kernel
theorem dX5_readBuilding_13 : decode cX5_readBuilding 13 = .ok (.aload_n 0, 1) := by decide +kernel
theorem dX5_readBuilding_14 : decode cX5_readBuilding 14 = .ok (.getfield 45, 3) := by decide +kernel
theorem dX5_readBuilding_17 : decode cX5_readBuilding 17 = .ok (.invokevirtual 96, 3) := by decide +kernel
theorem dX5_readBuilding_20 : decode cX5_readBuilding 20 = .ok (.iconst 5, 1) := by decide +kernel
theorem dX5_readBuilding_21 : decode cX5_readBuilding 21 = .ok (.if_icmp .lt 5, 3) := by decide +kernel
theorem dX5_readBuilding_24 : decode cX5_readBuilding 24 = .ok (.iconst 0, 1) := by decide +kernel
theorem dX5_readBuilding_25 : decode cX5_readBuilding 25 = .ok (.ireturn, 1) := by decide +kernel
theorem dX5_readBuilding_26 : decode cX5_readBuilding 26 = .ok (.aload_n 0, 1) := by decide +kernel
theorem dX5_readBuilding_27 : decode cX5_readBuilding 27 = .ok (.getfield 45, 3) := by decide +kernel
theorem dX5_readBuilding_30 : decode cX5_readBuilding 30 = .ok (.istore_n 3, 1) := by decide +kernel
theorem dX5_readBuilding_31 : decode cX5_readBuilding 31 = .ok (.aload_n 0, 1) := by decide +kernel
theorem dX5_readBuilding_32 : decode cX5_readBuilding 32 = .ok (.iconst 0, 1) := by decide +kernel
theorem dX5_readBuilding_33 : decode cX5_readBuilding 33 = .ok (.iconst 5, 1) := by decide +kernel
theorem dX5_readBuilding_34 : decode cX5_readBuilding 34 = .ok (.invokevirtual 41, 3) := by decide +kernel
theorem dX5_readBuilding_37 : decode cX5_readBuilding 37 = .ok (.ifCond .ne 5, 3) := by decide +kernel
theorem dX5_readBuilding_40 : decode cX5_readBuilding 40 = .ok (.iconst 0, 1) := by decide +kernel
theorem dX5_readBuilding_41 : decode cX5_readBuilding 41 = .ok (.ireturn, 1) := by decide +kernel
theorem dX5_readBuilding_42 : decode cX5_readBuilding 42 = .ok (.aload_n 0, 1) := by decide +kernel
theorem dX5_readBuilding_43 : decode cX5_readBuilding 43 = .ok (.getfield 45, 3) := by decide +kernel
theorem dX5_readBuilding_46 : decode cX5_readBuilding 46 = .ok (.istore 4, 2) := by decide +kernel
theorem dX5_readBuilding_48 : decode cX5_readBuilding 48 = .ok (.aload_n 0, 1) := by decide +kernel
theorem dX5_readBuilding_49 : decode cX5_readBuilding 49 = .ok (.invokevirtual 54, 3) := by decide +kernel
theorem dX5_readBuilding_52 : decode cX5_readBuilding 52 = .ok (.ifCond .ne 5, 3) := by decide +kernel
theorem dX5_readBuilding_55 : decode cX5_readBuilding 55 = .ok (.iconst 0, 1) := by decide +kernel
theorem dX5_readBuilding_56 : decode cX5_readBuilding 56 = .ok (.ireturn, 1) := by decide +kernel
theorem dX5_readBuilding_57 : decode cX5_readBuilding 57 = .ok (.aload_n 1, 1) := by decide +kernel
theorem dX5_readBuilding_58 : decode cX5_readBuilding 58 = .ok (.getfield 65, 3) := by decide +kernel
theorem dX5_readBuilding_61 : decode cX5_readBuilding 61 = .ok (.iload_n 3, 1) := by decide +kernel
theorem dX5_readBuilding_62 : decode cX5_readBuilding 62 = .ok (.iload 4, 2) := by decide +kernel
theorem dX5_readBuilding_64 : decode cX5_readBuilding 64 = .ok (.iload_n 2, 1) := by decide +kernel
theorem dX5_readBuilding_65 : decode cX5_readBuilding 65 = .ok (.invokevirtual 100, 3) := by decide +kernel
theorem dX5_readBuilding_68 : decode cX5_readBuilding 68 = .ok (.iconst 1, 1) := by decide +kernel
theorem dX5_readBuilding_69 : decode cX5_readBuilding 69 = .ok (.ireturn, 1) := by decide +kernel
theorem dX5_readPulls_0 : decode cX5_readPulls 0 = .ok (.iconst 0, 1) := by decide +kernel
theorem dX5_readPulls_1 : decode cX5_readPulls 1 = .ok (.istore_n 2, 1) := by decide +kernel
theorem dX5_readPulls_2 : decode cX5_readPulls 2 = .ok (.iload_n 2, 1) := by decide +kernel
theorem dX5_readPulls_3 : decode cX5_readPulls 3 = .ok (.bipush 6, 2) := by decide +kernel
theorem dX5_readPulls_5 : decode cX5_readPulls 5 = .ok (.if_icmp .ge 54, 3) := by decide +kernel
theorem dX5_readPulls_8 : decode cX5_readPulls 8 = .ok (.aload_n 0, 1) := by decide +kernel
theorem dX5_readPulls_9 : decode cX5_readPulls 9 = .ok (.invokevirtual 26, 3) := by decide +kernel
theorem dX5_readPulls_12 : decode cX5_readPulls 12 = .ok (.aload_n 0, 1) := by decide +kernel
theorem dX5_readPulls_13 : decode cX5_readPulls 13 = .ok (.getfield 29, 3) := by decide +kernel
theorem dX5_readPulls_16 : decode cX5_readPulls 16 = .ok (.iconst 3, 1) := by decide +kernel
theorem dX5_readPulls_17 : decode cX5_readPulls 17 = .ok (.if_icmp .ne 9, 3) := by decide +kernel
theorem dX5_readPulls_20 : decode cX5_readPulls 20 = .ok (.iload_n 2, 1) := by decide +kernel
theorem dX5_readPulls_21 : decode cX5_readPulls 21 = .ok (.ifCond .le 5, 3) := by decide +kernel
theorem dX5_readPulls_24 : decode cX5_readPulls 24 = .ok (.iconst 1, 1) := by decide +kernel
theorem dX5_readPulls_25 : decode cX5_readPulls 25 = .ok (.ireturn, 1) := by decide +kernel
theorem dX5_readPulls_26 : decode cX5_readPulls 26 = .ok (.aload_n 0, 1) := by decide +kernel
theorem dX5_readPulls_27 : decode cX5_readPulls 27 = .ok (.iconst 0, 1) := by decide +kernel
theorem dX5_readPulls_28 : decode cX5_readPulls 28 = .ok (.bipush 18, 2) := by decide +kernel
theorem dX5_readPulls_30 : decode cX5_readPulls 30 = .ok (.invokevirtual 85, 3) := by decide +kernel
theorem dX5_readPulls_33 : decode cX5_readPulls 33 = .ok (.ifCond .ne 5, 3) := by decide +kernel
theorem dX5_readPulls_36 : decode cX5_readPulls 36 = .ok (.iconst 0, 1) := by decide +kernel
theorem dX5_readPulls_37 : decode cX5_readPulls 37 = .ok (.ireturn, 1) := by decide +kernel
theorem dX5_readPulls_38 : decode cX5_readPulls 38 = .ok (.aload_n 1, 1) := by decide +kernel
theorem dX5_readPulls_39 : decode cX5_readPulls 39 = .ok (.getfield 88, 3) := by decide +kernel
theorem dX5_readPulls_42 : decode cX5_readPulls 42 = .ok (.iload_n 2, 1) := by decide +kernel
theorem dX5_readPulls_43 : decode cX5_readPulls 43 = .ok (.aload_n 0, 1) := by decide +kernel
theorem dX5_readPulls_44 : decode cX5_readPulls 44 = .ok (.getfield 45, 3) := by decide +kernel
theorem dX5_readPulls_47 : decode cX5_readPulls 47 = .ok (.bipush 9, 2) := by decide +kernel
theorem dX5_readPulls_49 : decode cX5_readPulls 49 = .ok (.isub, 1) := by decide +kernel
theorem dX5_readPulls_50 : decode cX5_readPulls 50 = .ok (.invokestatic 90, 3) := by decide +kernel
theorem dX5_readPulls_53 : decode cX5_readPulls 53 = .ok (.iinc 2 1, 3) := by decide +kernel
theorem dX5_readPulls_56 : decode cX5_readPulls 56 = .ok (.goto (-54), 3) := by decide +kernel
theorem dX5_readPulls_59 : decode cX5_readPulls 59 = .ok (.aload_n 0, 1) := by decide +kernel
theorem dX5_readPulls_60 : decode cX5_readPulls 60 = .ok (.invokevirtual 54, 3) := by decide +kernel
theorem dX5_readPulls_63 : decode cX5_readPulls 63 = .ok (.ireturn, 1) := by decide +kernel
noncomputable def lp_X5_behindRun_3 (p2 : Int32) (p3 : Int32) (a0_length : Int32) (fa0_bytes : Nat → Int32) : Nat → Int32 → Option (Int32)
 | 0, _ => none
 | fu + 1, x4_3 => if a0_length ≤ x4_3 then (some x4_3) else (if (sp_X2_within (sp_X2_at 150 x4_3 fa0_bytes) p2 p3) = 0 then (some x4_3) else (lp_X5_behindRun_3 p2 p3 a0_length fa0_bytes fu (x4_3 + (1 : Int32))))
noncomputable def sp_X5_behindRun (p1 : Int32) (p2 : Int32) (p3 : Int32) (a0_length : Int32) (fa0_bytes : Nat → Int32) : Option (Int32) := Option.bind (lp_X5_behindRun_3 p2 p3 a0_length fa0_bytes FU p1) fun z1 => some z1
set_option maxHeartbeats 4000000 in
set_option maxRecDepth 100000 in
theorem c_X5_behindRun (l : Launch) (E : wE) (a0 a0_bytes : Nat) (p1 : Int32) (p2 : Int32) (p3 : Int32) (a0_length : Int32) (a0_token : Int32) (a0_start : Int32) (a0_behind : Int32) (a0_value : Int32) (fa0_bytes : Nat → Int32) (z : Int32) (hsp : sp_X5_behindRun p1 p2 p3 a0_length fa0_bytes = some z) : MR l yX5_behindRun cX5_behindRun 5 (some .int) 1 E [.ref a0, .int p1, .int p2, .int p3] [(a0, .inr (2, [.ref a0_bytes, .int a0_length, .int a0_token, .int a0_start, .int a0_behind, .int a0_value])), (a0_bytes, aI E 150 fa0_bytes)] (some (.int z)) := by
  refine MR.of (by decide +kernel) (Nat.le_of_ble_eq_true rfl) ?_
  intro p e s m below meth c ls hX hK hP hl
  have hX : CX p s m [.ref a0, .int p1, .int p2, .int p3].toArray meth c cX5_behindRun 5 (some .int) RX5 := hX
  have hx := hX.1; have hb := hX.2.1; have hts := hX.2.2.2.2.1; have hown := hX.2.2.2.2.2.1
  have hl : lv_has ls 5 [(0, .ref a0), (1, .int p1), (2, .int p2), (3, .int p3)] := hl
  have hsp : (Option.bind (lp_X5_behindRun_3 p2 p3 a0_length fa0_bytes FU p1) fun z1 => some z1) = some z := hsp
  refine lv_iload_n hx hb dX5_behindRun_0 rfl (lv_at hl 1 rfl) (W.pc 1 rfl ?_)
  refine lv_istore (lv' := [(4, .int p1), (0, .ref a0), (1, .int p1), (2, .int p2), (3, .int p3)]) hx hb dX5_behindRun_1 hl (by decide) rfl (fun ls hl => W.pc 3 rfl ?_)
  have L_3 : ∀ (z1 : Int32), (∀ (ls : Array Slot), lv_has ls 5 [(4, .int z1)] → W p l e (wR 1) s m [.ref a0, .int p1, .int p2, .int p3].toArray below meth c s.heap [] 0 0 (MQ below (QRd E (some (.int z))) [.ref a0, .int p1, .int p2, .int p3].toArray s 0 0 (fun _ => False)) (F0 m 35 ls [])) → ∀ (fu : Nat) (x4_3 : Int32), ∀ (ls : Array Slot), lv_has ls 5 [(0, .ref a0), (2, .int p2), (3, .int p3), (4, .int x4_3)] → lp_X5_behindRun_3 p2 p3 a0_length fa0_bytes fu x4_3 = some z1 → W p l e (wR 1) s m [.ref a0, .int p1, .int p2, .int p3].toArray below meth c s.heap [] 0 0 (MQ below (QRd E (some (.int z))) [.ref a0, .int p1, .int p2, .int p3].toArray s 0 0 (fun _ => False)) (F0 m 3 ls []) := by
    intro z1 hk_3 fu
    induction fu with
    | zero => intro x4_3 ls hl hsp; exact absurd (show none = some _ from hsp) (by simp)
    | succ fu ih_3 =>
      intro x4_3 ls hl hsp
      have hsp : (if a0_length ≤ x4_3 then (some x4_3) else (if (sp_X2_within (sp_X2_at 150 x4_3 fa0_bytes) p2 p3) = 0 then (some x4_3) else (lp_X5_behindRun_3 p2 p3 a0_length fa0_bytes fu (x4_3 + (1 : Int32))))) = some z1 := hsp
      refine lv_iload hx hb dX5_behindRun_3 (lv_at hl 3 rfl) (W.pc 5 rfl ?_)
      refine lv_aload_n hx hb dX5_behindRun_5 rfl (lv_at hl 0 rfl) (W.pc 6 rfl ?_)
      refine va_get (D := E.1) (ci := 2) (v := .int a0_length) (C := RX5) (T := TX5) (N := 6) hx hb hts inT_X5 hown hK hP 0 rfl rfl 1 (by decide) (hts _ w_1_119) (fun _ h9 => h9) rfl dX5_behindRun_6 (W.pc 9 rfl ?_)
      refine lv_icmp_ge (tgt := 35) hx hb dX5_behindRun_9 (by decide) (fun c2 => ?_) (fun c2 => W.pc 12 rfl ?_)
      · have hsp := ip hsp c2
        obtain rfl := Option.some.inj hsp
        exact hk_3 _ (lv_sub hl [3] rfl)
      · have hsp := iq hsp c2
        refine lv_aload_n hx hb dX5_behindRun_12 rfl (lv_at hl 0 rfl) (W.pc 13 rfl ?_)
        refine va_get (D := E.1) (ci := 2) (v := .ref a0_bytes) (C := RX5) (T := TX5) (N := 6) hx hb hts inT_X5 hown hK hP 0 rfl rfl 0 (by decide) (hts _ w_1_116) (fun _ h9 => h9) rfl dX5_behindRun_13 (W.pc 16 rfl ?_)
        refine lv_iload hx hb dX5_behindRun_16 (lv_at hl 3 rfl) (W.pc 18 rfl ?_)
        refine kSR (st1 := [.int (sp_X2_at 150 x4_3 fa0_bytes)]) hX (c_X2_at l E a0_bytes 150 (by decide) x4_3 fa0_bytes _ rfl) B_X2_at w_2_68 hK (hP.pick [1] rfl) rfl hl.1 rfl (Nat.le_of_ble_eq_true rfl) ⟨Nat.le_of_ble_eq_true rfl, Nat.le_of_ble_eq_true rfl⟩ dX5_behindRun_18 rfl (W.pc 21 rfl ?_)
        refine lv_iload_n hx hb dX5_behindRun_21 rfl (lv_at hl 1 rfl) (W.pc 22 rfl ?_)
        refine lv_iload_n hx hb dX5_behindRun_22 rfl (lv_at hl 2 rfl) (W.pc 23 rfl ?_)
        refine kSR (st1 := [.int (sp_X2_within (sp_X2_at 150 x4_3 fa0_bytes) p2 p3)]) hX (c_X2_within l E (sp_X2_at 150 x4_3 fa0_bytes) p2 p3 _ rfl) B_X2_within w_2_69 hK (hP.pick [] rfl) rfl hl.1 rfl (Nat.le_of_ble_eq_true rfl) ⟨Nat.le_of_ble_eq_true rfl, Nat.le_of_ble_eq_true rfl⟩ dX5_behindRun_23 rfl (W.pc 26 rfl ?_)
        refine lv_if_eq (tgt := 35) hx hb dX5_behindRun_26 (by decide) (fun c3 => ?_) (fun c3 => W.pc 29 rfl ?_)
        · have hsp := ip hsp c3
          obtain rfl := Option.some.inj hsp
          exact hk_3 _ (lv_sub hl [3] rfl)
        · have hsp := iq hsp c3
          refine lv_iinc (v := (x4_3 + (1 : Int32))) (lv' := [(4, .int (x4_3 + (1 : Int32))), (0, .ref a0), (2, .int p2), (3, .int p3)]) hx hb dX5_behindRun_29 hl (k := 3) rfl rfl (by decide) rfl (fun ls hl => W.pc 32 rfl ?_)
          refine lv_goto (tgt := 3) hx hb dX5_behindRun_32 (by decide) ?_
          exact ih_3 (x4_3 + (1 : Int32)) _ (lv_sub hl [1, 2, 3, 0] rfl) hsp
  obtain ⟨z1, hr_z1, hsp⟩ := bd_s hsp
  refine L_3 z1 (fun ls hl => ?_) FU p1 _ (lv_sub hl [1, 3, 4, 0] rfl) hr_z1
  refine lv_iload hx hb dX5_behindRun_35 (lv_at hl 0 rfl) (W.pc 37 rfl ?_)
  obtain rfl := Option.some.inj hsp
  exact rRi hX rfl dX5_behindRun_37
noncomputable def lp_X5_takeFigures_34 (a0_behind : Int32) (fa0_bytes : Nat → Int32) : Nat → Int32 → Int32 → Option (Int32 × Int32)
 | 0, _, _ => none
 | fu + 1, x2_34, ya0_5_34 => if a0_behind ≤ x2_34 then (some (x2_34, ya0_5_34)) else (lp_X5_takeFigures_34 a0_behind fa0_bytes fu (x2_34 + (1 : Int32)) ((((10 : Int32) * ya0_5_34) + (sp_X2_at 150 x2_34 fa0_bytes)) - (48 : Int32)))
noncomputable def sp_X5_takeFigures (a0_start : Int32) (a0_behind : Int32) (fa0_bytes : Nat → Int32) : Option (Int32 × Int32) := lt_ (if (2 : Int32) < (a0_behind - a0_start) then ((4 : Int32)) else ((2 : Int32))) fun z1 => Option.bind (lp_X5_takeFigures_34 a0_behind fa0_bytes FU a0_start (0 : Int32)) fun z4 => some (z1, z4.2)
set_option maxHeartbeats 4000000 in
set_option maxRecDepth 100000 in
theorem c_X5_takeFigures (l : Launch) (E : wE) (a0 a0_bytes : Nat) (a0_length : Int32) (a0_token : Int32) (a0_start : Int32) (a0_behind : Int32) (a0_value : Int32) (fa0_bytes : Nat → Int32) (z_0 : Int32) (z_1 : Int32) (hsp : sp_X5_takeFigures a0_start a0_behind fa0_bytes = some (z_0, z_1)) : MW l yX5_takeFigures cX5_takeFigures 3 none 1 E [.ref a0] [(a0, .inr (2, [.ref a0_bytes, .int a0_length, .int a0_token, .int a0_start, .int a0_behind, .int a0_value])), (a0_bytes, aI E 150 fa0_bytes)] none [(a0, .inr (2, [.ref a0_bytes, .int a0_length, .int z_0, .int a0_start, .int a0_behind, .int z_1])), (a0_bytes, aI E 150 fa0_bytes)] := by
  refine MW.of (by decide +kernel) (Nat.le_of_ble_eq_true rfl) ?_
  intro p e s m below meth c ls A hX hK hP hD hS hA hl
  have hX : CX p s m [.ref a0].toArray meth c cX5_takeFigures 3 none RX5 := hX
  have hx := hX.1; have hb := hX.2.1; have hts := hX.2.2.2.2.1; have hown := hX.2.2.2.2.2.1
  have hl : lv_has ls 3 [(0, .ref a0)] := hl
  have hP : wP E [(a0, .inr (2, [.ref a0_bytes, .int a0_length, .int a0_token, .int a0_start, .int a0_behind, .int a0_value])), (a0_bytes, aI E 150 fa0_bytes)] s.heap := hP
  have hsp : (lt_ (if (2 : Int32) < (a0_behind - a0_start) then ((4 : Int32)) else ((2 : Int32))) fun z1 => Option.bind (lp_X5_takeFigures_34 a0_behind fa0_bytes FU a0_start (0 : Int32)) fun z4 => some (z1, z4.2)) = some (z_0, z_1) := hsp
  refine lv_aload_n hx hb dX5_takeFigures_0 rfl (lv_at hl 0 rfl) (W.pc 1 rfl ?_)
  refine va_get (D := E.1) (ci := 2) (v := .int a0_behind) (C := RX5) (T := TX5) (N := 6) hx hb hts inT_X5 hown hK hP 0 rfl rfl 4 (by decide) (hts _ w_1_122) (fun _ h9 => h9) rfl dX5_takeFigures_1 (W.pc 4 rfl ?_)
  refine lv_aload_n hx hb dX5_takeFigures_4 rfl (lv_at hl 0 rfl) (W.pc 5 rfl ?_)
  refine va_get (D := E.1) (ci := 2) (v := .int a0_start) (C := RX5) (T := TX5) (N := 6) hx hb hts inT_X5 hown hK hP 0 rfl rfl 3 (by decide) (hts _ w_1_121) (fun _ h9 => h9) rfl dX5_takeFigures_5 (W.pc 8 rfl ?_)
  refine lv_isub hx hb dX5_takeFigures_8 (W.pc 9 rfl ?_)
  refine lv_istore_n (lv' := [(1, .int (a0_behind - a0_start)), (0, .ref a0)]) hx hb dX5_takeFigures_9 rfl hl (by decide) rfl (fun ls hl => W.pc 10 rfl ?_)
  refine lv_aload_n hx hb dX5_takeFigures_10 rfl (lv_at hl 1 rfl) (W.pc 11 rfl ?_)
  refine lv_iload_n hx hb dX5_takeFigures_11 rfl (lv_at hl 0 rfl) (W.pc 12 rfl ?_)
  refine lv_iconst (v := (2 : Int32)) hx hb dX5_takeFigures_12 (by decide) (W.pc 13 rfl ?_)
  obtain ⟨z1, hr_z1, hsp⟩ := ltb_s hsp
  have J2 : ∀ (H : Heap) (locs : List Loc) (ls : Array Slot), wP E [(a0, .inr (2, [.ref a0_bytes, .int a0_length, .int a0_token, .int a0_start, .int a0_behind, .int a0_value])), (a0_bytes, aI E 150 fa0_bytes)] H → va_D A [(a0, .inr (2, [.ref a0_bytes, .int a0_length, .int a0_token, .int a0_start, .int a0_behind, .int a0_value])), (a0_bytes, aI E 150 fa0_bytes)] → va_S A s.heap H locs → lv_has ls 3 [(0, .ref a0)] → W p l e (wR 1) s m [.ref a0].toArray below meth c H locs 0 0 (MQ below (QWd E A none [(a0, .inr (2, [.ref a0_bytes, .int a0_length, .int z_0, .int a0_start, .int a0_behind, .int z_1])), (a0_bytes, aI E 150 fa0_bytes)]) [.ref a0].toArray s 0 0 A) (F0 m 21 ls [.int z1, .ref a0]) := by
    intro H locs ls hP hD hS hl
    refine va_put (D := E.1) (ci := 2) (v := .int z1) (ty := .int) (C := RX5) (T := TX5) (N := 6) hx hb hts inT_X5 tyX5 tyX5_ok nmX5 hown hK hP hD hS 0 rfl rfl 2 (by decide) (hts _ w_1_120) (fun _ h9 => h9) rfl (by decide +kernel) rfl rfl (Nat.le_of_ble_eq_true rfl) dX5_takeFigures_21 (fun H locs hP hD hS => W.pc 24 rfl ?_)
    have hP : wP E [(a0, .inr (2, [.ref a0_bytes, .int a0_length, .int z1, .int a0_start, .int a0_behind, .int a0_value])), (a0_bytes, aI E 150 fa0_bytes)] _ := hP
    have hD : va_D A [(a0, .inr (2, [.ref a0_bytes, .int a0_length, .int z1, .int a0_start, .int a0_behind, .int a0_value])), (a0_bytes, aI E 150 fa0_bytes)] := hD
    refine lv_aload_n hx hb dX5_takeFigures_24 rfl (lv_at hl 0 rfl) (W.pc 25 rfl ?_)
    refine lv_iconst (v := (0 : Int32)) hx hb dX5_takeFigures_25 (by decide) (W.pc 26 rfl ?_)
    refine va_put (D := E.1) (ci := 2) (v := .int (0 : Int32)) (ty := .int) (C := RX5) (T := TX5) (N := 6) hx hb hts inT_X5 tyX5 tyX5_ok nmX5 hown hK hP hD hS 0 rfl rfl 5 (by decide) (hts _ w_1_123) (fun _ h9 => h9) rfl (by decide +kernel) rfl rfl (Nat.le_of_ble_eq_true rfl) dX5_takeFigures_26 (fun H locs hP hD hS => W.pc 29 rfl ?_)
    have hP : wP E [(a0, .inr (2, [.ref a0_bytes, .int a0_length, .int z1, .int a0_start, .int a0_behind, .int (0 : Int32)])), (a0_bytes, aI E 150 fa0_bytes)] _ := hP
    have hD : va_D A [(a0, .inr (2, [.ref a0_bytes, .int a0_length, .int z1, .int a0_start, .int a0_behind, .int (0 : Int32)])), (a0_bytes, aI E 150 fa0_bytes)] := hD
    refine lv_aload_n hx hb dX5_takeFigures_29 rfl (lv_at hl 0 rfl) (W.pc 30 rfl ?_)
    refine va_get (D := E.1) (ci := 2) (v := .int a0_start) (C := RX5) (T := TX5) (N := 6) hx hb hts inT_X5 hown hK hP 0 rfl rfl 3 (by decide) (hts _ w_1_121) (fun _ h9 => h9) rfl dX5_takeFigures_30 (W.pc 33 rfl ?_)
    refine lv_istore_n (lv' := [(2, .int a0_start), (0, .ref a0)]) hx hb dX5_takeFigures_33 rfl hl (by decide) rfl (fun ls hl => W.pc 34 rfl ?_)
    have L_34 : ∀ (z4 : Int32 × Int32), (∀ (H : Heap) (locs : List Loc) (ls : Array Slot), wP E [(a0, .inr (2, [.ref a0_bytes, .int a0_length, .int z1, .int a0_start, .int a0_behind, .int z4.2])), (a0_bytes, aI E 150 fa0_bytes)] H → va_D A [(a0, .inr (2, [.ref a0_bytes, .int a0_length, .int z1, .int a0_start, .int a0_behind, .int z4.2])), (a0_bytes, aI E 150 fa0_bytes)] → va_S A s.heap H locs → lv_has ls 3 [] → W p l e (wR 1) s m [.ref a0].toArray below meth c H locs 0 0 (MQ below (QWd E A none [(a0, .inr (2, [.ref a0_bytes, .int a0_length, .int z_0, .int a0_start, .int a0_behind, .int z_1])), (a0_bytes, aI E 150 fa0_bytes)]) [.ref a0].toArray s 0 0 A) (F0 m 71 ls [])) → ∀ (fu : Nat) (x2_34 : Int32) (ya0_5_34 : Int32), ∀ (H : Heap) (locs : List Loc) (ls : Array Slot), wP E [(a0, .inr (2, [.ref a0_bytes, .int a0_length, .int z1, .int a0_start, .int a0_behind, .int ya0_5_34])), (a0_bytes, aI E 150 fa0_bytes)] H → va_D A [(a0, .inr (2, [.ref a0_bytes, .int a0_length, .int z1, .int a0_start, .int a0_behind, .int ya0_5_34])), (a0_bytes, aI E 150 fa0_bytes)] → va_S A s.heap H locs → lv_has ls 3 [(0, .ref a0), (2, .int x2_34)] → lp_X5_takeFigures_34 a0_behind fa0_bytes fu x2_34 ya0_5_34 = some z4 → W p l e (wR 1) s m [.ref a0].toArray below meth c H locs 0 0 (MQ below (QWd E A none [(a0, .inr (2, [.ref a0_bytes, .int a0_length, .int z_0, .int a0_start, .int a0_behind, .int z_1])), (a0_bytes, aI E 150 fa0_bytes)]) [.ref a0].toArray s 0 0 A) (F0 m 34 ls []) := by
      intro z4 hk_34 fu
      induction fu with
      | zero => intro x2_34 ya0_5_34 H locs ls hP hD hS hl hsp; exact absurd (show none = some _ from hsp) (by simp)
      | succ fu ih_34 =>
        intro x2_34 ya0_5_34 H locs ls hP hD hS hl hsp
        have hsp : (if a0_behind ≤ x2_34 then (some (x2_34, ya0_5_34)) else (lp_X5_takeFigures_34 a0_behind fa0_bytes fu (x2_34 + (1 : Int32)) ((((10 : Int32) * ya0_5_34) + (sp_X2_at 150 x2_34 fa0_bytes)) - (48 : Int32)))) = some z4 := hsp
        refine lv_iload_n hx hb dX5_takeFigures_34 rfl (lv_at hl 1 rfl) (W.pc 35 rfl ?_)
        refine lv_aload_n hx hb dX5_takeFigures_35 rfl (lv_at hl 0 rfl) (W.pc 36 rfl ?_)
        refine va_get (D := E.1) (ci := 2) (v := .int a0_behind) (C := RX5) (T := TX5) (N := 6) hx hb hts inT_X5 hown hK hP 0 rfl rfl 4 (by decide) (hts _ w_1_122) (fun _ h9 => h9) rfl dX5_takeFigures_36 (W.pc 39 rfl ?_)
        refine lv_icmp_ge (tgt := 71) hx hb dX5_takeFigures_39 (by decide) (fun c5 => ?_) (fun c5 => W.pc 42 rfl ?_)
        · have hsp := ip hsp c5
          obtain rfl := Option.some.inj hsp
          exact hk_34 _ _ _ hP hD hS (lv_sub hl [] rfl)
        · have hsp := iq hsp c5
          refine lv_aload_n hx hb dX5_takeFigures_42 rfl (lv_at hl 0 rfl) (W.pc 43 rfl ?_)
          refine lv_bipush (v := (10 : Int32)) hx hb dX5_takeFigures_43 (by decide) (W.pc 45 rfl ?_)
          refine lv_aload_n hx hb dX5_takeFigures_45 rfl (lv_at hl 0 rfl) (W.pc 46 rfl ?_)
          refine va_get (D := E.1) (ci := 2) (v := .int ya0_5_34) (C := RX5) (T := TX5) (N := 6) hx hb hts inT_X5 hown hK hP 0 rfl rfl 5 (by decide) (hts _ w_1_123) (fun _ h9 => h9) rfl dX5_takeFigures_46 (W.pc 49 rfl ?_)
          refine lv_imul hx hb dX5_takeFigures_49 (W.pc 50 rfl ?_)
          refine lv_aload_n hx hb dX5_takeFigures_50 rfl (lv_at hl 0 rfl) (W.pc 51 rfl ?_)
          refine va_get (D := E.1) (ci := 2) (v := .ref a0_bytes) (C := RX5) (T := TX5) (N := 6) hx hb hts inT_X5 hown hK hP 0 rfl rfl 0 (by decide) (hts _ w_1_116) (fun _ h9 => h9) rfl dX5_takeFigures_51 (W.pc 54 rfl ?_)
          refine lv_iload_n hx hb dX5_takeFigures_54 rfl (lv_at hl 1 rfl) (W.pc 55 rfl ?_)
          refine kSR (st1 := [.int (sp_X2_at 150 x2_34 fa0_bytes), .int ((10 : Int32) * ya0_5_34), .ref a0]) hX (c_X2_at l E a0_bytes 150 (by decide) x2_34 fa0_bytes _ rfl) B_X2_at w_2_68 hK (hP.pick [1] rfl) rfl hl.1 rfl (Nat.le_of_ble_eq_true rfl) ⟨Nat.le_of_ble_eq_true rfl, Nat.le_of_ble_eq_true rfl⟩ dX5_takeFigures_55 rfl (W.pc 58 rfl ?_)
          refine lv_iadd hx hb dX5_takeFigures_58 (W.pc 59 rfl ?_)
          refine lv_bipush (v := (48 : Int32)) hx hb dX5_takeFigures_59 (by decide) (W.pc 61 rfl ?_)
          refine lv_isub hx hb dX5_takeFigures_61 (W.pc 62 rfl ?_)
          refine va_put (D := E.1) (ci := 2) (v := .int ((((10 : Int32) * ya0_5_34) + (sp_X2_at 150 x2_34 fa0_bytes)) - (48 : Int32))) (ty := .int) (C := RX5) (T := TX5) (N := 6) hx hb hts inT_X5 tyX5 tyX5_ok nmX5 hown hK hP hD hS 0 rfl rfl 5 (by decide) (hts _ w_1_123) (fun _ h9 => h9) rfl (by decide +kernel) rfl rfl (Nat.le_of_ble_eq_true rfl) dX5_takeFigures_62 (fun H locs hP hD hS => W.pc 65 rfl ?_)
          have hP : wP E [(a0, .inr (2, [.ref a0_bytes, .int a0_length, .int z1, .int a0_start, .int a0_behind, .int ((((10 : Int32) * ya0_5_34) + (sp_X2_at 150 x2_34 fa0_bytes)) - (48 : Int32))])), (a0_bytes, aI E 150 fa0_bytes)] _ := hP
          have hD : va_D A [(a0, .inr (2, [.ref a0_bytes, .int a0_length, .int z1, .int a0_start, .int a0_behind, .int ((((10 : Int32) * ya0_5_34) + (sp_X2_at 150 x2_34 fa0_bytes)) - (48 : Int32))])), (a0_bytes, aI E 150 fa0_bytes)] := hD
          refine lv_iinc (v := (x2_34 + (1 : Int32))) (lv' := [(2, .int (x2_34 + (1 : Int32))), (0, .ref a0)]) hx hb dX5_takeFigures_65 hl (k := 1) rfl rfl (by decide) rfl (fun ls hl => W.pc 68 rfl ?_)
          refine lv_goto (tgt := 34) hx hb dX5_takeFigures_68 (by decide) ?_
          exact ih_34 (x2_34 + (1 : Int32)) ((((10 : Int32) * ya0_5_34) + (sp_X2_at 150 x2_34 fa0_bytes)) - (48 : Int32)) _ _ _ hP hD hS (lv_sub hl [1, 0] rfl) hsp
    obtain ⟨z4, hr_z4, hsp⟩ := bd_s hsp
    refine L_34 z4 (fun H locs ls hP hD hS hl => ?_) FU a0_start (0 : Int32) _ _ _ hP hD hS (lv_sub hl [1, 0] rfl) hr_z4
    cases hsp
    exact rWv hX hP hS rfl dX5_takeFigures_71
  replace hsp := hr_z1
  refine lv_icmp_gt (tgt := 20) hx hb dX5_takeFigures_13 (by decide) (fun c3 => ?_) (fun c3 => W.pc 16 rfl ?_)
  · have hsp := ip hsp c3
    refine lv_iconst (v := (4 : Int32)) hx hb dX5_takeFigures_20 (by decide) (W.pc 21 rfl ?_)
    subst hsp
    exact J2 _ _ _ hP hD hS (lv_sub hl [1] rfl)
  · have hsp := iq hsp c3
    refine lv_iconst (v := (2 : Int32)) hx hb dX5_takeFigures_16 (by decide) (W.pc 17 rfl ?_)
    refine lv_goto (tgt := 21) hx hb dX5_takeFigures_17 (by decide) ?_
    subst hsp
    exact J2 _ _ _ hP hD hS (lv_sub hl [1] rfl)
noncomputable def sp_X5_advance (a0_length : Int32) (a0_behind : Int32) (a0_value : Int32) (fa0_bytes : Nat → Int32) : Option (Int32 × Int32 × Int32 × Int32) := Option.bind (sp_X5_behindRun a0_behind (32 : Int32) (32 : Int32) a0_length fa0_bytes) fun z1 => if z1 < a0_length then (if (sp_X2_at 150 z1 fa0_bytes) = (59 : Int32) then (some ((3 : Int32), z1, (z1 + (1 : Int32)), a0_value)) else (if (sp_X2_within (sp_X2_at 150 z1 fa0_bytes) (97 : Int32) (122 : Int32)) = 0 then (if (sp_X2_within (sp_X2_at 150 z1 fa0_bytes) (48 : Int32) (57 : Int32)) = 0 then (some ((4 : Int32), z1, (z1 + (1 : Int32)), a0_value)) else (Option.bind (sp_X5_behindRun z1 (48 : Int32) (57 : Int32) a0_length fa0_bytes) fun z6 => Option.bind (sp_X5_takeFigures z1 z6 fa0_bytes) fun z7 => some (z7.1, z1, z6, z7.2))) else (Option.bind (sp_X5_behindRun z1 (97 : Int32) (122 : Int32) a0_length fa0_bytes) fun z8 => some ((1 : Int32), z1, z8, a0_value)))) else (some ((0 : Int32), z1, (z1 + (1 : Int32)), a0_value))
set_option maxHeartbeats 4000000 in
set_option maxRecDepth 100000 in
theorem c_X5_advance (l : Launch) (E : wE) (a0 a0_bytes : Nat) (a0_length : Int32) (a0_token : Int32) (a0_start : Int32) (a0_behind : Int32) (a0_value : Int32) (fa0_bytes : Nat → Int32) (z_0 : Int32) (z_1 : Int32) (z_2 : Int32) (z_3 : Int32) (hsp : sp_X5_advance a0_length a0_behind a0_value fa0_bytes = some (z_0, z_1, z_2, z_3)) : MW l yX5_advance cX5_advance 2 none 2 E [.ref a0] [(a0, .inr (2, [.ref a0_bytes, .int a0_length, .int a0_token, .int a0_start, .int a0_behind, .int a0_value])), (a0_bytes, aI E 150 fa0_bytes)] none [(a0, .inr (2, [.ref a0_bytes, .int a0_length, .int z_0, .int z_1, .int z_2, .int z_3])), (a0_bytes, aI E 150 fa0_bytes)] := by
  refine MW.of (by decide +kernel) (Nat.le_of_ble_eq_true rfl) ?_
  intro p e s m below meth c ls A hX hK hP hD hS hA hl
  have hX : CX p s m [.ref a0].toArray meth c cX5_advance 2 none RX5 := hX
  have hx := hX.1; have hb := hX.2.1; have hts := hX.2.2.2.2.1; have hown := hX.2.2.2.2.2.1
  have hl : lv_has ls 2 [(0, .ref a0)] := hl
  have hP : wP E [(a0, .inr (2, [.ref a0_bytes, .int a0_length, .int a0_token, .int a0_start, .int a0_behind, .int a0_value])), (a0_bytes, aI E 150 fa0_bytes)] s.heap := hP
  have hsp : (Option.bind (sp_X5_behindRun a0_behind (32 : Int32) (32 : Int32) a0_length fa0_bytes) fun z1 => if z1 < a0_length then (if (sp_X2_at 150 z1 fa0_bytes) = (59 : Int32) then (some ((3 : Int32), z1, (z1 + (1 : Int32)), a0_value)) else (if (sp_X2_within (sp_X2_at 150 z1 fa0_bytes) (97 : Int32) (122 : Int32)) = 0 then (if (sp_X2_within (sp_X2_at 150 z1 fa0_bytes) (48 : Int32) (57 : Int32)) = 0 then (some ((4 : Int32), z1, (z1 + (1 : Int32)), a0_value)) else (Option.bind (sp_X5_behindRun z1 (48 : Int32) (57 : Int32) a0_length fa0_bytes) fun z6 => Option.bind (sp_X5_takeFigures z1 z6 fa0_bytes) fun z7 => some (z7.1, z1, z6, z7.2))) else (Option.bind (sp_X5_behindRun z1 (97 : Int32) (122 : Int32) a0_length fa0_bytes) fun z8 => some ((1 : Int32), z1, z8, a0_value)))) else (some ((0 : Int32), z1, (z1 + (1 : Int32)), a0_value))) = some (z_0, z_1, z_2, z_3) := hsp
  refine lv_aload_n hx hb dX5_advance_0 rfl (lv_at hl 0 rfl) (W.pc 1 rfl ?_)
  refine lv_aload_n hx hb dX5_advance_1 rfl (lv_at hl 0 rfl) (W.pc 2 rfl ?_)
  refine lv_aload_n hx hb dX5_advance_2 rfl (lv_at hl 0 rfl) (W.pc 3 rfl ?_)
  refine va_get (D := E.1) (ci := 2) (v := .int a0_behind) (C := RX5) (T := TX5) (N := 6) hx hb hts inT_X5 hown hK hP 0 rfl rfl 4 (by decide) (hts _ w_1_122) (fun _ h9 => h9) rfl dX5_advance_3 (W.pc 6 rfl ?_)
  refine lv_bipush (v := (32 : Int32)) hx hb dX5_advance_6 (by decide) (W.pc 8 rfl ?_)
  refine lv_bipush (v := (32 : Int32)) hx hb dX5_advance_8 (by decide) (W.pc 10 rfl ?_)
  obtain ⟨z1, hr_z1, hsp⟩ := bd_s hsp
  refine kVR (st1 := [.int z1, .ref a0]) hX (c_X5_behindRun l E a0 a0_bytes a0_behind (32 : Int32) (32 : Int32) a0_length a0_token a0_start a0_behind a0_value fa0_bytes z1 hr_z1) B_X5_behindRun w_2_64 hK (hP.pick [0, 1] rfl) (q0 := 0) (ci := 2) rfl rfl rfl rfl hl.1 rfl (Nat.le_of_ble_eq_true rfl) ⟨Nat.le_of_ble_eq_true rfl, Nat.le_of_ble_eq_true rfl⟩ dX5_advance_10 rfl (W.pc 13 rfl ?_)
  refine va_put (D := E.1) (ci := 2) (v := .int z1) (ty := .int) (C := RX5) (T := TX5) (N := 6) hx hb hts inT_X5 tyX5 tyX5_ok nmX5 hown hK hP hD hS 0 rfl rfl 3 (by decide) (hts _ w_1_121) (fun _ h9 => h9) rfl (by decide +kernel) rfl rfl (Nat.le_of_ble_eq_true rfl) dX5_advance_13 (fun H locs hP hD hS => W.pc 16 rfl ?_)
  have hP : wP E [(a0, .inr (2, [.ref a0_bytes, .int a0_length, .int a0_token, .int z1, .int a0_behind, .int a0_value])), (a0_bytes, aI E 150 fa0_bytes)] _ := hP
  have hD : va_D A [(a0, .inr (2, [.ref a0_bytes, .int a0_length, .int a0_token, .int z1, .int a0_behind, .int a0_value])), (a0_bytes, aI E 150 fa0_bytes)] := hD
  refine lv_aload_n hx hb dX5_advance_16 rfl (lv_at hl 0 rfl) (W.pc 17 rfl ?_)
  refine lv_aload_n hx hb dX5_advance_17 rfl (lv_at hl 0 rfl) (W.pc 18 rfl ?_)
  refine va_get (D := E.1) (ci := 2) (v := .int z1) (C := RX5) (T := TX5) (N := 6) hx hb hts inT_X5 hown hK hP 0 rfl rfl 3 (by decide) (hts _ w_1_121) (fun _ h9 => h9) rfl dX5_advance_18 (W.pc 21 rfl ?_)
  refine lv_iconst (v := (1 : Int32)) hx hb dX5_advance_21 (by decide) (W.pc 22 rfl ?_)
  refine lv_iadd hx hb dX5_advance_22 (W.pc 23 rfl ?_)
  refine va_put (D := E.1) (ci := 2) (v := .int (z1 + (1 : Int32))) (ty := .int) (C := RX5) (T := TX5) (N := 6) hx hb hts inT_X5 tyX5 tyX5_ok nmX5 hown hK hP hD hS 0 rfl rfl 4 (by decide) (hts _ w_1_122) (fun _ h9 => h9) rfl (by decide +kernel) rfl rfl (Nat.le_of_ble_eq_true rfl) dX5_advance_23 (fun H locs hP hD hS => W.pc 26 rfl ?_)
  have hP : wP E [(a0, .inr (2, [.ref a0_bytes, .int a0_length, .int a0_token, .int z1, .int (z1 + (1 : Int32)), .int a0_value])), (a0_bytes, aI E 150 fa0_bytes)] _ := hP
  have hD : va_D A [(a0, .inr (2, [.ref a0_bytes, .int a0_length, .int a0_token, .int z1, .int (z1 + (1 : Int32)), .int a0_value])), (a0_bytes, aI E 150 fa0_bytes)] := hD
  refine lv_aload_n hx hb dX5_advance_26 rfl (lv_at hl 0 rfl) (W.pc 27 rfl ?_)
  refine va_get (D := E.1) (ci := 2) (v := .ref a0_bytes) (C := RX5) (T := TX5) (N := 6) hx hb hts inT_X5 hown hK hP 0 rfl rfl 0 (by decide) (hts _ w_1_116) (fun _ h9 => h9) rfl dX5_advance_27 (W.pc 30 rfl ?_)
  refine lv_aload_n hx hb dX5_advance_30 rfl (lv_at hl 0 rfl) (W.pc 31 rfl ?_)
  refine va_get (D := E.1) (ci := 2) (v := .int z1) (C := RX5) (T := TX5) (N := 6) hx hb hts inT_X5 hown hK hP 0 rfl rfl 3 (by decide) (hts _ w_1_121) (fun _ h9 => h9) rfl dX5_advance_31 (W.pc 34 rfl ?_)
  refine kSR (st1 := [.int (sp_X2_at 150 z1 fa0_bytes)]) hX (c_X2_at l E a0_bytes 150 (by decide) z1 fa0_bytes _ rfl) B_X2_at w_2_68 hK (hP.pick [1] rfl) rfl hl.1 rfl (Nat.le_of_ble_eq_true rfl) ⟨Nat.le_of_ble_eq_true rfl, Nat.le_of_ble_eq_true rfl⟩ dX5_advance_34 rfl (W.pc 37 rfl ?_)
  refine lv_istore_n (lv' := [(1, .int (sp_X2_at 150 z1 fa0_bytes)), (0, .ref a0)]) hx hb dX5_advance_37 rfl hl (by decide) rfl (fun ls hl => W.pc 38 rfl ?_)
  refine lv_aload_n hx hb dX5_advance_38 rfl (lv_at hl 1 rfl) (W.pc 39 rfl ?_)
  refine va_get (D := E.1) (ci := 2) (v := .int z1) (C := RX5) (T := TX5) (N := 6) hx hb hts inT_X5 hown hK hP 0 rfl rfl 3 (by decide) (hts _ w_1_121) (fun _ h9 => h9) rfl dX5_advance_39 (W.pc 42 rfl ?_)
  refine lv_aload_n hx hb dX5_advance_42 rfl (lv_at hl 1 rfl) (W.pc 43 rfl ?_)
  refine va_get (D := E.1) (ci := 2) (v := .int a0_length) (C := RX5) (T := TX5) (N := 6) hx hb hts inT_X5 hown hK hP 0 rfl rfl 1 (by decide) (hts _ w_1_119) (fun _ h9 => h9) rfl dX5_advance_43 (W.pc 46 rfl ?_)
  refine lv_icmp_lt (tgt := 57) hx hb dX5_advance_46 (by decide) (fun c2 => ?_) (fun c2 => W.pc 49 rfl ?_)
  · have hsp := ip hsp c2
    refine lv_iload_n hx hb dX5_advance_57 rfl (lv_at hl 0 rfl) (W.pc 58 rfl ?_)
    refine lv_bipush (v := (59 : Int32)) hx hb dX5_advance_58 (by decide) (W.pc 60 rfl ?_)
    refine lv_icmp_ne (tgt := 71) hx hb dX5_advance_60 (by decide) (fun c3 => ?_) (fun c3 => W.pc 63 rfl ?_)
    · have hsp := iq hsp c3
      refine lv_iload_n hx hb dX5_advance_71 rfl (lv_at hl 0 rfl) (W.pc 72 rfl ?_)
      refine lv_bipush (v := (97 : Int32)) hx hb dX5_advance_72 (by decide) (W.pc 74 rfl ?_)
      refine lv_bipush (v := (122 : Int32)) hx hb dX5_advance_74 (by decide) (W.pc 76 rfl ?_)
      refine kSR (st1 := [.int (sp_X2_within (sp_X2_at 150 z1 fa0_bytes) (97 : Int32) (122 : Int32))]) hX (c_X2_within l E (sp_X2_at 150 z1 fa0_bytes) (97 : Int32) (122 : Int32) _ rfl) B_X2_within w_2_69 hK (hP.pick [] rfl) rfl hl.1 rfl (Nat.le_of_ble_eq_true rfl) ⟨Nat.le_of_ble_eq_true rfl, Nat.le_of_ble_eq_true rfl⟩ dX5_advance_76 rfl (W.pc 79 rfl ?_)
      refine lv_if_eq (tgt := 106) hx hb dX5_advance_79 (by decide) (fun c4 => ?_) (fun c4 => W.pc 82 rfl ?_)
      · have hsp := ip hsp c4
        refine lv_iload_n hx hb dX5_advance_106 rfl (lv_at hl 0 rfl) (W.pc 107 rfl ?_)
        refine lv_bipush (v := (48 : Int32)) hx hb dX5_advance_107 (by decide) (W.pc 109 rfl ?_)
        refine lv_bipush (v := (57 : Int32)) hx hb dX5_advance_109 (by decide) (W.pc 111 rfl ?_)
        refine kSR (st1 := [.int (sp_X2_within (sp_X2_at 150 z1 fa0_bytes) (48 : Int32) (57 : Int32))]) hX (c_X2_within l E (sp_X2_at 150 z1 fa0_bytes) (48 : Int32) (57 : Int32) _ rfl) B_X2_within w_2_69 hK (hP.pick [] rfl) rfl hl.1 rfl (Nat.le_of_ble_eq_true rfl) ⟨Nat.le_of_ble_eq_true rfl, Nat.le_of_ble_eq_true rfl⟩ dX5_advance_111 rfl (W.pc 114 rfl ?_)
        refine lv_if_eq (tgt := 140) hx hb dX5_advance_114 (by decide) (fun c5 => ?_) (fun c5 => W.pc 117 rfl ?_)
        · have hsp := ip hsp c5
          refine lv_aload_n hx hb dX5_advance_140 rfl (lv_at hl 1 rfl) (W.pc 141 rfl ?_)
          refine lv_iconst (v := (4 : Int32)) hx hb dX5_advance_141 (by decide) (W.pc 142 rfl ?_)
          refine va_put (D := E.1) (ci := 2) (v := .int (4 : Int32)) (ty := .int) (C := RX5) (T := TX5) (N := 6) hx hb hts inT_X5 tyX5 tyX5_ok nmX5 hown hK hP hD hS 0 rfl rfl 2 (by decide) (hts _ w_1_120) (fun _ h9 => h9) rfl (by decide +kernel) rfl rfl (Nat.le_of_ble_eq_true rfl) dX5_advance_142 (fun H locs hP hD hS => W.pc 145 rfl ?_)
          have hP : wP E [(a0, .inr (2, [.ref a0_bytes, .int a0_length, .int (4 : Int32), .int z1, .int (z1 + (1 : Int32)), .int a0_value])), (a0_bytes, aI E 150 fa0_bytes)] _ := hP
          have hD : va_D A [(a0, .inr (2, [.ref a0_bytes, .int a0_length, .int (4 : Int32), .int z1, .int (z1 + (1 : Int32)), .int a0_value])), (a0_bytes, aI E 150 fa0_bytes)] := hD
          cases hsp
          exact rWv hX hP hS rfl dX5_advance_145
        · have hsp := iq hsp c5
          refine lv_aload_n hx hb dX5_advance_117 rfl (lv_at hl 1 rfl) (W.pc 118 rfl ?_)
          refine lv_aload_n hx hb dX5_advance_118 rfl (lv_at hl 1 rfl) (W.pc 119 rfl ?_)
          refine lv_aload_n hx hb dX5_advance_119 rfl (lv_at hl 1 rfl) (W.pc 120 rfl ?_)
          refine va_get (D := E.1) (ci := 2) (v := .int z1) (C := RX5) (T := TX5) (N := 6) hx hb hts inT_X5 hown hK hP 0 rfl rfl 3 (by decide) (hts _ w_1_121) (fun _ h9 => h9) rfl dX5_advance_120 (W.pc 123 rfl ?_)
          refine lv_bipush (v := (48 : Int32)) hx hb dX5_advance_123 (by decide) (W.pc 125 rfl ?_)
          refine lv_bipush (v := (57 : Int32)) hx hb dX5_advance_125 (by decide) (W.pc 127 rfl ?_)
          obtain ⟨z6, hr_z6, hsp⟩ := bd_s hsp
          refine kVR (st1 := [.int z6, .ref a0]) hX (c_X5_behindRun l E a0 a0_bytes z1 (48 : Int32) (57 : Int32) a0_length a0_token z1 (z1 + (1 : Int32)) a0_value fa0_bytes z6 hr_z6) B_X5_behindRun w_2_64 hK (hP.pick [0, 1] rfl) (q0 := 0) (ci := 2) rfl rfl rfl rfl hl.1 rfl (Nat.le_of_ble_eq_true rfl) ⟨Nat.le_of_ble_eq_true rfl, Nat.le_of_ble_eq_true rfl⟩ dX5_advance_127 rfl (W.pc 130 rfl ?_)
          refine va_put (D := E.1) (ci := 2) (v := .int z6) (ty := .int) (C := RX5) (T := TX5) (N := 6) hx hb hts inT_X5 tyX5 tyX5_ok nmX5 hown hK hP hD hS 0 rfl rfl 4 (by decide) (hts _ w_1_122) (fun _ h9 => h9) rfl (by decide +kernel) rfl rfl (Nat.le_of_ble_eq_true rfl) dX5_advance_130 (fun H locs hP hD hS => W.pc 133 rfl ?_)
          have hP : wP E [(a0, .inr (2, [.ref a0_bytes, .int a0_length, .int a0_token, .int z1, .int z6, .int a0_value])), (a0_bytes, aI E 150 fa0_bytes)] _ := hP
          have hD : va_D A [(a0, .inr (2, [.ref a0_bytes, .int a0_length, .int a0_token, .int z1, .int z6, .int a0_value])), (a0_bytes, aI E 150 fa0_bytes)] := hD
          refine lv_aload_n hx hb dX5_advance_133 rfl (lv_at hl 1 rfl) (W.pc 134 rfl ?_)
          obtain ⟨z7, hr_z7, hsp⟩ := bd_s hsp
          refine kVW (st1 := []) (ws' := [(a0, .inr (2, [.ref a0_bytes, .int a0_length, .int z7.1, .int z1, .int z6, .int z7.2])), (a0_bytes, aI E 150 fa0_bytes)]) [0, 1] hX (c_X5_takeFigures l E a0 a0_bytes a0_length a0_token z1 z6 a0_value fa0_bytes z7.1 z7.2 hr_z7) B_X5_takeFigures w_2_70 hK hP hD hS hA (by decide) rfl rfl rfl (q0 := 0) (ci := 2) rfl rfl rfl rfl hl.1 rfl (Nat.le_of_ble_eq_true rfl) ⟨Nat.le_of_ble_eq_true rfl, Nat.le_of_ble_eq_true rfl⟩ dX5_advance_134 rfl (fun H locs hP hD hS => W.pc 137 rfl ?_)
          refine lv_goto (tgt := 145) hx hb dX5_advance_137 (by decide) ?_
          cases hsp
          exact rWv hX hP hS rfl dX5_advance_145
      · have hsp := iq hsp c4
        refine lv_aload_n hx hb dX5_advance_82 rfl (lv_at hl 1 rfl) (W.pc 83 rfl ?_)
        refine lv_iconst (v := (1 : Int32)) hx hb dX5_advance_83 (by decide) (W.pc 84 rfl ?_)
        refine va_put (D := E.1) (ci := 2) (v := .int (1 : Int32)) (ty := .int) (C := RX5) (T := TX5) (N := 6) hx hb hts inT_X5 tyX5 tyX5_ok nmX5 hown hK hP hD hS 0 rfl rfl 2 (by decide) (hts _ w_1_120) (fun _ h9 => h9) rfl (by decide +kernel) rfl rfl (Nat.le_of_ble_eq_true rfl) dX5_advance_84 (fun H locs hP hD hS => W.pc 87 rfl ?_)
        have hP : wP E [(a0, .inr (2, [.ref a0_bytes, .int a0_length, .int (1 : Int32), .int z1, .int (z1 + (1 : Int32)), .int a0_value])), (a0_bytes, aI E 150 fa0_bytes)] _ := hP
        have hD : va_D A [(a0, .inr (2, [.ref a0_bytes, .int a0_length, .int (1 : Int32), .int z1, .int (z1 + (1 : Int32)), .int a0_value])), (a0_bytes, aI E 150 fa0_bytes)] := hD
        refine lv_aload_n hx hb dX5_advance_87 rfl (lv_at hl 1 rfl) (W.pc 88 rfl ?_)
        refine lv_aload_n hx hb dX5_advance_88 rfl (lv_at hl 1 rfl) (W.pc 89 rfl ?_)
        refine lv_aload_n hx hb dX5_advance_89 rfl (lv_at hl 1 rfl) (W.pc 90 rfl ?_)
        refine va_get (D := E.1) (ci := 2) (v := .int z1) (C := RX5) (T := TX5) (N := 6) hx hb hts inT_X5 hown hK hP 0 rfl rfl 3 (by decide) (hts _ w_1_121) (fun _ h9 => h9) rfl dX5_advance_90 (W.pc 93 rfl ?_)
        refine lv_bipush (v := (97 : Int32)) hx hb dX5_advance_93 (by decide) (W.pc 95 rfl ?_)
        refine lv_bipush (v := (122 : Int32)) hx hb dX5_advance_95 (by decide) (W.pc 97 rfl ?_)
        obtain ⟨z8, hr_z8, hsp⟩ := bd_s hsp
        refine kVR (st1 := [.int z8, .ref a0]) hX (c_X5_behindRun l E a0 a0_bytes z1 (97 : Int32) (122 : Int32) a0_length (1 : Int32) z1 (z1 + (1 : Int32)) a0_value fa0_bytes z8 hr_z8) B_X5_behindRun w_2_64 hK (hP.pick [0, 1] rfl) (q0 := 0) (ci := 2) rfl rfl rfl rfl hl.1 rfl (Nat.le_of_ble_eq_true rfl) ⟨Nat.le_of_ble_eq_true rfl, Nat.le_of_ble_eq_true rfl⟩ dX5_advance_97 rfl (W.pc 100 rfl ?_)
        refine va_put (D := E.1) (ci := 2) (v := .int z8) (ty := .int) (C := RX5) (T := TX5) (N := 6) hx hb hts inT_X5 tyX5 tyX5_ok nmX5 hown hK hP hD hS 0 rfl rfl 4 (by decide) (hts _ w_1_122) (fun _ h9 => h9) rfl (by decide +kernel) rfl rfl (Nat.le_of_ble_eq_true rfl) dX5_advance_100 (fun H locs hP hD hS => W.pc 103 rfl ?_)
        have hP : wP E [(a0, .inr (2, [.ref a0_bytes, .int a0_length, .int (1 : Int32), .int z1, .int z8, .int a0_value])), (a0_bytes, aI E 150 fa0_bytes)] _ := hP
        have hD : va_D A [(a0, .inr (2, [.ref a0_bytes, .int a0_length, .int (1 : Int32), .int z1, .int z8, .int a0_value])), (a0_bytes, aI E 150 fa0_bytes)] := hD
        refine lv_goto (tgt := 145) hx hb dX5_advance_103 (by decide) ?_
        cases hsp
        exact rWv hX hP hS rfl dX5_advance_145
    · have hsp := ip hsp c3
      refine lv_aload_n hx hb dX5_advance_63 rfl (lv_at hl 1 rfl) (W.pc 64 rfl ?_)
      refine lv_iconst (v := (3 : Int32)) hx hb dX5_advance_64 (by decide) (W.pc 65 rfl ?_)
      refine va_put (D := E.1) (ci := 2) (v := .int (3 : Int32)) (ty := .int) (C := RX5) (T := TX5) (N := 6) hx hb hts inT_X5 tyX5 tyX5_ok nmX5 hown hK hP hD hS 0 rfl rfl 2 (by decide) (hts _ w_1_120) (fun _ h9 => h9) rfl (by decide +kernel) rfl rfl (Nat.le_of_ble_eq_true rfl) dX5_advance_65 (fun H locs hP hD hS => W.pc 68 rfl ?_)
      have hP : wP E [(a0, .inr (2, [.ref a0_bytes, .int a0_length, .int (3 : Int32), .int z1, .int (z1 + (1 : Int32)), .int a0_value])), (a0_bytes, aI E 150 fa0_bytes)] _ := hP
      have hD : va_D A [(a0, .inr (2, [.ref a0_bytes, .int a0_length, .int (3 : Int32), .int z1, .int (z1 + (1 : Int32)), .int a0_value])), (a0_bytes, aI E 150 fa0_bytes)] := hD
      refine lv_goto (tgt := 145) hx hb dX5_advance_68 (by decide) ?_
      cases hsp
      exact rWv hX hP hS rfl dX5_advance_145
  · have hsp := iq hsp c2
    refine lv_aload_n hx hb dX5_advance_49 rfl (lv_at hl 1 rfl) (W.pc 50 rfl ?_)
    refine lv_iconst (v := (0 : Int32)) hx hb dX5_advance_50 (by decide) (W.pc 51 rfl ?_)
    refine va_put (D := E.1) (ci := 2) (v := .int (0 : Int32)) (ty := .int) (C := RX5) (T := TX5) (N := 6) hx hb hts inT_X5 tyX5 tyX5_ok nmX5 hown hK hP hD hS 0 rfl rfl 2 (by decide) (hts _ w_1_120) (fun _ h9 => h9) rfl (by decide +kernel) rfl rfl (Nat.le_of_ble_eq_true rfl) dX5_advance_51 (fun H locs hP hD hS => W.pc 54 rfl ?_)
    have hP : wP E [(a0, .inr (2, [.ref a0_bytes, .int a0_length, .int (0 : Int32), .int z1, .int (z1 + (1 : Int32)), .int a0_value])), (a0_bytes, aI E 150 fa0_bytes)] _ := hP
    have hD : va_D A [(a0, .inr (2, [.ref a0_bytes, .int a0_length, .int (0 : Int32), .int z1, .int (z1 + (1 : Int32)), .int a0_value])), (a0_bytes, aI E 150 fa0_bytes)] := hD
    refine lv_goto (tgt := 145) hx hb dX5_advance_54 (by decide) ?_
    cases hsp
    exact rWv hX hP hS rfl dX5_advance_145
def sp_X5_isNumber (p1 : Int32) (p2 : Int32) (a0_token : Int32) (a0_value : Int32) : Int32 := if a0_token = (2 : Int32) then (if (sp_X2_within a0_value p1 p2) = 0 then ((0 : Int32)) else ((1 : Int32))) else ((0 : Int32))
theorem bz_X5_isNumber {p1 : Int32} {p2 : Int32} {a0_token : Int32} {a0_value : Int32} : narrow .boolean (.int (sp_X5_isNumber p1 p2 a0_token a0_value)) = .int (sp_X5_isNumber p1 p2 a0_token a0_value) := by
  unfold sp_X5_isNumber
  repeat' split
  all_goals first | rfl | apply bz_X2_within
set_option maxHeartbeats 4000000 in
set_option maxRecDepth 100000 in
theorem c_X5_isNumber (l : Launch) (E : wE) (a0 a0_bytes : Nat) (p1 : Int32) (p2 : Int32) (a0_length : Int32) (a0_token : Int32) (a0_start : Int32) (a0_behind : Int32) (a0_value : Int32) (z : Int32) (hsp : sp_X5_isNumber p1 p2 a0_token a0_value = z) : MR l yX5_isNumber cX5_isNumber 3 (some .boolean) 1 E [.ref a0, .int p1, .int p2] [(a0, .inr (2, [.ref a0_bytes, .int a0_length, .int a0_token, .int a0_start, .int a0_behind, .int a0_value]))] (some (.int z)) := by
  refine MR.of (by decide +kernel) (Nat.le_of_ble_eq_true rfl) ?_
  intro p e s m below meth c ls hX hK hP hl
  have hX : CX p s m [.ref a0, .int p1, .int p2].toArray meth c cX5_isNumber 3 (some .boolean) RX5 := hX
  have hx := hX.1; have hb := hX.2.1; have hts := hX.2.2.2.2.1; have hown := hX.2.2.2.2.2.1
  have hl : lv_has ls 3 [(0, .ref a0), (1, .int p1), (2, .int p2)] := hl
  have hsp : (if a0_token = (2 : Int32) then (if (sp_X2_within a0_value p1 p2) = 0 then ((0 : Int32)) else ((1 : Int32))) else ((0 : Int32))) = z := hsp
  refine lv_aload_n hx hb dX5_isNumber_0 rfl (lv_at hl 0 rfl) (W.pc 1 rfl ?_)
  refine va_get (D := E.1) (ci := 2) (v := .int a0_token) (C := RX5) (T := TX5) (N := 6) hx hb hts inT_X5 hown hK hP 0 rfl rfl 2 (by decide) (hts _ w_1_120) (fun _ h9 => h9) rfl dX5_isNumber_1 (W.pc 4 rfl ?_)
  refine lv_iconst (v := (2 : Int32)) hx hb dX5_isNumber_4 (by decide) (W.pc 5 rfl ?_)
  refine lv_icmp_ne (tgt := 24) hx hb dX5_isNumber_5 (by decide) (fun c1 => ?_) (fun c1 => W.pc 8 rfl ?_)
  · have hsp := iq hsp c1
    refine lv_iconst (v := (0 : Int32)) hx hb dX5_isNumber_24 (by decide) (W.pc 25 rfl ?_)
    subst hsp
    exact rRz hX rfl rfl dX5_isNumber_25
  · have hsp := ip hsp c1
    refine lv_aload_n hx hb dX5_isNumber_8 rfl (lv_at hl 0 rfl) (W.pc 9 rfl ?_)
    refine va_get (D := E.1) (ci := 2) (v := .int a0_value) (C := RX5) (T := TX5) (N := 6) hx hb hts inT_X5 hown hK hP 0 rfl rfl 5 (by decide) (hts _ w_1_123) (fun _ h9 => h9) rfl dX5_isNumber_9 (W.pc 12 rfl ?_)
    refine lv_iload_n hx hb dX5_isNumber_12 rfl (lv_at hl 1 rfl) (W.pc 13 rfl ?_)
    refine lv_iload_n hx hb dX5_isNumber_13 rfl (lv_at hl 2 rfl) (W.pc 14 rfl ?_)
    refine kSR (st1 := [.int (sp_X2_within a0_value p1 p2)]) hX (c_X2_within l E a0_value p1 p2 _ rfl) B_X2_within w_2_69 hK (hP.pick [] rfl) rfl hl.1 rfl (Nat.le_of_ble_eq_true rfl) ⟨Nat.le_of_ble_eq_true rfl, Nat.le_of_ble_eq_true rfl⟩ dX5_isNumber_14 rfl (W.pc 17 rfl ?_)
    refine lv_if_eq (tgt := 24) hx hb dX5_isNumber_17 (by decide) (fun c2 => ?_) (fun c2 => W.pc 20 rfl ?_)
    · have hsp := ip hsp c2
      refine lv_iconst (v := (0 : Int32)) hx hb dX5_isNumber_24 (by decide) (W.pc 25 rfl ?_)
      subst hsp
      exact rRz hX rfl rfl dX5_isNumber_25
    · have hsp := iq hsp c2
      refine lv_iconst (v := (1 : Int32)) hx hb dX5_isNumber_20 (by decide) (W.pc 21 rfl ?_)
      refine lv_goto (tgt := 25) hx hb dX5_isNumber_21 (by decide) ?_
      subst hsp
      exact rRz hX rfl rfl dX5_isNumber_25
noncomputable def sp_X5_takesStop (a0_length : Int32) (a0_behind : Int32) (a0_value : Int32) (fa0_bytes : Nat → Int32) : Option (Int32 × Int32 × Int32 × Int32 × Int32) := Option.bind (sp_X5_advance a0_length a0_behind a0_value fa0_bytes) fun z1 => if z1.1 = (3 : Int32) then (some ((1 : Int32), z1.1, z1.2.1, z1.2.2.1, z1.2.2.2)) else (some ((0 : Int32), z1.1, z1.2.1, z1.2.2.1, z1.2.2.2))
set_option maxHeartbeats 4000000 in
set_option maxRecDepth 100000 in
theorem c_X5_takesStop (l : Launch) (E : wE) (a0 a0_bytes : Nat) (a0_length : Int32) (a0_token : Int32) (a0_start : Int32) (a0_behind : Int32) (a0_value : Int32) (fa0_bytes : Nat → Int32) (z_0 : Int32) (z_1 : Int32) (z_2 : Int32) (z_3 : Int32) (z_4 : Int32) (hsp : sp_X5_takesStop a0_length a0_behind a0_value fa0_bytes = some (z_0, z_1, z_2, z_3, z_4)) : MW l yX5_takesStop cX5_takesStop 1 (some .boolean) 3 E [.ref a0] [(a0, .inr (2, [.ref a0_bytes, .int a0_length, .int a0_token, .int a0_start, .int a0_behind, .int a0_value])), (a0_bytes, aI E 150 fa0_bytes)] (some (.int z_0)) [(a0, .inr (2, [.ref a0_bytes, .int a0_length, .int z_1, .int z_2, .int z_3, .int z_4])), (a0_bytes, aI E 150 fa0_bytes)] := by
  refine MW.of (by decide +kernel) (Nat.le_of_ble_eq_true rfl) ?_
  intro p e s m below meth c ls A hX hK hP hD hS hA hl
  have hX : CX p s m [.ref a0].toArray meth c cX5_takesStop 1 (some .boolean) RX5 := hX
  have hx := hX.1; have hb := hX.2.1; have hts := hX.2.2.2.2.1; have hown := hX.2.2.2.2.2.1
  have hl : lv_has ls 1 [(0, .ref a0)] := hl
  have hP : wP E [(a0, .inr (2, [.ref a0_bytes, .int a0_length, .int a0_token, .int a0_start, .int a0_behind, .int a0_value])), (a0_bytes, aI E 150 fa0_bytes)] s.heap := hP
  have hsp : (Option.bind (sp_X5_advance a0_length a0_behind a0_value fa0_bytes) fun z1 => if z1.1 = (3 : Int32) then (some ((1 : Int32), z1.1, z1.2.1, z1.2.2.1, z1.2.2.2)) else (some ((0 : Int32), z1.1, z1.2.1, z1.2.2.1, z1.2.2.2))) = some (z_0, z_1, z_2, z_3, z_4) := hsp
  refine lv_aload_n hx hb dX5_takesStop_0 rfl (lv_at hl 0 rfl) (W.pc 1 rfl ?_)
  obtain ⟨z1, hr_z1, hsp⟩ := bd_s hsp
  refine kVW (st1 := []) (ws' := [(a0, .inr (2, [.ref a0_bytes, .int a0_length, .int z1.1, .int z1.2.1, .int z1.2.2.1, .int z1.2.2.2])), (a0_bytes, aI E 150 fa0_bytes)]) [0, 1] hX (c_X5_advance l E a0 a0_bytes a0_length a0_token a0_start a0_behind a0_value fa0_bytes z1.1 z1.2.1 z1.2.2.1 z1.2.2.2 hr_z1) B_X5_advance w_2_60 hK hP hD hS hA (by decide) rfl rfl rfl (q0 := 0) (ci := 2) rfl rfl rfl rfl hl.1 rfl (Nat.le_of_ble_eq_true rfl) ⟨Nat.le_of_ble_eq_true rfl, Nat.le_of_ble_eq_true rfl⟩ dX5_takesStop_1 rfl (fun H locs hP hD hS => W.pc 4 rfl ?_)
  refine lv_aload_n hx hb dX5_takesStop_4 rfl (lv_at hl 0 rfl) (W.pc 5 rfl ?_)
  refine va_get (D := E.1) (ci := 2) (v := .int z1.1) (C := RX5) (T := TX5) (N := 6) hx hb hts inT_X5 hown hK hP 0 rfl rfl 2 (by decide) (hts _ w_1_120) (fun _ h9 => h9) rfl dX5_takesStop_5 (W.pc 8 rfl ?_)
  refine lv_iconst (v := (3 : Int32)) hx hb dX5_takesStop_8 (by decide) (W.pc 9 rfl ?_)
  refine lv_icmp_ne (tgt := 16) hx hb dX5_takesStop_9 (by decide) (fun c2 => ?_) (fun c2 => W.pc 12 rfl ?_)
  · have hsp := iq hsp c2
    refine lv_iconst (v := (0 : Int32)) hx hb dX5_takesStop_16 (by decide) (W.pc 17 rfl ?_)
    cases hsp
    exact rWz hX rfl hP hS rfl rfl dX5_takesStop_17
  · have hsp := ip hsp c2
    refine lv_iconst (v := (1 : Int32)) hx hb dX5_takesStop_12 (by decide) (W.pc 13 rfl ?_)
    refine lv_goto (tgt := 17) hx hb dX5_takesStop_13 (by decide) ?_
    cases hsp
    exact rWz hX rfl hP hS rfl rfl dX5_takesStop_17
noncomputable def sp_X5_takesNumber (p1 : Int32) (p2 : Int32) (a0_length : Int32) (a0_behind : Int32) (a0_value : Int32) (fa0_bytes : Nat → Int32) : Option (Int32 × Int32 × Int32 × Int32 × Int32) := Option.bind (sp_X5_advance a0_length a0_behind a0_value fa0_bytes) fun z1 => some ((sp_X5_isNumber p1 p2 z1.1 z1.2.2.2), z1.1, z1.2.1, z1.2.2.1, z1.2.2.2)
set_option maxHeartbeats 4000000 in
set_option maxRecDepth 100000 in
theorem c_X5_takesNumber (l : Launch) (E : wE) (a0 a0_bytes : Nat) (p1 : Int32) (p2 : Int32) (a0_length : Int32) (a0_token : Int32) (a0_start : Int32) (a0_behind : Int32) (a0_value : Int32) (fa0_bytes : Nat → Int32) (z_0 : Int32) (z_1 : Int32) (z_2 : Int32) (z_3 : Int32) (z_4 : Int32) (hsp : sp_X5_takesNumber p1 p2 a0_length a0_behind a0_value fa0_bytes = some (z_0, z_1, z_2, z_3, z_4)) : MW l yX5_takesNumber cX5_takesNumber 3 (some .boolean) 3 E [.ref a0, .int p1, .int p2] [(a0, .inr (2, [.ref a0_bytes, .int a0_length, .int a0_token, .int a0_start, .int a0_behind, .int a0_value])), (a0_bytes, aI E 150 fa0_bytes)] (some (.int z_0)) [(a0, .inr (2, [.ref a0_bytes, .int a0_length, .int z_1, .int z_2, .int z_3, .int z_4])), (a0_bytes, aI E 150 fa0_bytes)] := by
  refine MW.of (by decide +kernel) (Nat.le_of_ble_eq_true rfl) ?_
  intro p e s m below meth c ls A hX hK hP hD hS hA hl
  have hX : CX p s m [.ref a0, .int p1, .int p2].toArray meth c cX5_takesNumber 3 (some .boolean) RX5 := hX
  have hx := hX.1; have hb := hX.2.1; have hts := hX.2.2.2.2.1; have hown := hX.2.2.2.2.2.1
  have hl : lv_has ls 3 [(0, .ref a0), (1, .int p1), (2, .int p2)] := hl
  have hP : wP E [(a0, .inr (2, [.ref a0_bytes, .int a0_length, .int a0_token, .int a0_start, .int a0_behind, .int a0_value])), (a0_bytes, aI E 150 fa0_bytes)] s.heap := hP
  have hsp : (Option.bind (sp_X5_advance a0_length a0_behind a0_value fa0_bytes) fun z1 => some ((sp_X5_isNumber p1 p2 z1.1 z1.2.2.2), z1.1, z1.2.1, z1.2.2.1, z1.2.2.2)) = some (z_0, z_1, z_2, z_3, z_4) := hsp
  refine lv_aload_n hx hb dX5_takesNumber_0 rfl (lv_at hl 0 rfl) (W.pc 1 rfl ?_)
  obtain ⟨z1, hr_z1, hsp⟩ := bd_s hsp
  refine kVW (st1 := []) (ws' := [(a0, .inr (2, [.ref a0_bytes, .int a0_length, .int z1.1, .int z1.2.1, .int z1.2.2.1, .int z1.2.2.2])), (a0_bytes, aI E 150 fa0_bytes)]) [0, 1] hX (c_X5_advance l E a0 a0_bytes a0_length a0_token a0_start a0_behind a0_value fa0_bytes z1.1 z1.2.1 z1.2.2.1 z1.2.2.2 hr_z1) B_X5_advance w_2_60 hK hP hD hS hA (by decide) rfl rfl rfl (q0 := 0) (ci := 2) rfl rfl rfl rfl hl.1 rfl (Nat.le_of_ble_eq_true rfl) ⟨Nat.le_of_ble_eq_true rfl, Nat.le_of_ble_eq_true rfl⟩ dX5_takesNumber_1 rfl (fun H locs hP hD hS => W.pc 4 rfl ?_)
  refine lv_aload_n hx hb dX5_takesNumber_4 rfl (lv_at hl 0 rfl) (W.pc 5 rfl ?_)
  refine lv_iload_n hx hb dX5_takesNumber_5 rfl (lv_at hl 1 rfl) (W.pc 6 rfl ?_)
  refine lv_iload_n hx hb dX5_takesNumber_6 rfl (lv_at hl 2 rfl) (W.pc 7 rfl ?_)
  refine kVR (st1 := [.int (sp_X5_isNumber p1 p2 z1.1 z1.2.2.2)]) hX (c_X5_isNumber l E a0 a0_bytes p1 p2 a0_length z1.1 z1.2.1 z1.2.2.1 z1.2.2.2 _ rfl) B_X5_isNumber w_2_131 hK (hP.pick [0] rfl) (q0 := 0) (ci := 2) rfl rfl rfl rfl hl.1 rfl (Nat.le_of_ble_eq_true rfl) ⟨Nat.le_of_ble_eq_true rfl, Nat.le_of_ble_eq_true rfl⟩ dX5_takesNumber_7 rfl (W.pc 10 rfl ?_)
  cases hsp
  exact rWz hX (by apply bz_X5_isNumber) hP hS rfl rfl dX5_takesNumber_10
noncomputable def sp_X5_readYears (a0_length : Int32) (a0_behind : Int32) (a0_value : Int32) (fa0_bytes : Nat → Int32) (a1_kind : Int32) (a1_site_off : Int32) (a1_site_year : Int32) (fa1_pulls : Nat → Int32) : Option (Int32 × Int32 × Int32 × Int32 × Int32 × Int32 × Int32) := Option.bind (sp_X5_takesNumber (1 : Int32) (99 : Int32) a0_length a0_behind a0_value fa0_bytes) fun z1 => if z1.1 = 0 then (some ((0 : Int32), z1.2.1, z1.2.2.1, z1.2.2.2.1, z1.2.2.2.2, a1_site_off, a1_site_year)) else (Option.bind (sp_X5_takesStop a0_length z1.2.2.2.1 z1.2.2.2.2 fa0_bytes) fun z3 => if z3.1 = 0 then (some ((0 : Int32), z3.2.1, z3.2.2.1, z3.2.2.2.1, z3.2.2.2.2, a1_site_off, a1_site_year)) else (Option.bind (sp_X6_goOn z1.2.2.2.2 a1_kind a1_site_off a1_site_year fa1_pulls) fun z5 => some ((1 : Int32), z3.2.1, z3.2.2.1, z3.2.2.2.1, z3.2.2.2.2, z5.1, z5.2)))
set_option maxHeartbeats 4000000 in
set_option maxRecDepth 100000 in
theorem c_X5_readYears (l : Launch) (E : wE) (a0 a1 a0_bytes a1_pulls a1_site a1_past a1_views a1_notes a1_marks a1_site_heights a1_site_storeyKinds a1_site_storeyTilts : Nat) (a0_length : Int32) (a0_token : Int32) (a0_start : Int32) (a0_behind : Int32) (a0_value : Int32) (fa0_bytes : Nat → Int32) (a1_kind : Int32) (a1_pasts : Int32) (a1_members : Int32) (a1_noteCount : Int32) (a1_markCount : Int32) (a1_site_off : Int32) (a1_site_year : Int32) (fa1_pulls : Nat → Int32) (z_0 : Int32) (z_1 : Int32) (z_2 : Int32) (z_3 : Int32) (z_4 : Int32) (z_5 : Int32) (z_6 : Int32) (hsp : sp_X5_readYears a0_length a0_behind a0_value fa0_bytes a1_kind a1_site_off a1_site_year fa1_pulls = some (z_0, z_1, z_2, z_3, z_4, z_5, z_6)) : MW l yX5_readYears cX5_readYears 3 (some .boolean) 4 E [.ref a0, .ref a1] [(a0, .inr (2, [.ref a0_bytes, .int a0_length, .int a0_token, .int a0_start, .int a0_behind, .int a0_value])), (a0_bytes, aI E 150 fa0_bytes), (a1, .inr (3, [.int a1_kind, .ref a1_pulls, .ref a1_site, .ref a1_past, .int a1_pasts, .ref a1_views, .int a1_members, .ref a1_notes, .int a1_noteCount, .ref a1_marks, .int a1_markCount])), (a1_site, .inr (1, [.int a1_site_off, .int a1_site_year, .ref a1_site_heights, .ref a1_site_storeyKinds, .ref a1_site_storeyTilts])), (a1_pulls, aI E 6 fa1_pulls)] (some (.int z_0)) [(a0, .inr (2, [.ref a0_bytes, .int a0_length, .int z_1, .int z_2, .int z_3, .int z_4])), (a0_bytes, aI E 150 fa0_bytes), (a1, .inr (3, [.int a1_kind, .ref a1_pulls, .ref a1_site, .ref a1_past, .int a1_pasts, .ref a1_views, .int a1_members, .ref a1_notes, .int a1_noteCount, .ref a1_marks, .int a1_markCount])), (a1_site, .inr (1, [.int z_5, .int z_6, .ref a1_site_heights, .ref a1_site_storeyKinds, .ref a1_site_storeyTilts])), (a1_pulls, aI E 6 fa1_pulls)] := by
  refine MW.of (by decide +kernel) (Nat.le_of_ble_eq_true rfl) ?_
  intro p e s m below meth c ls A hX hK hP hD hS hA hl
  have hX : CX p s m [.ref a0, .ref a1].toArray meth c cX5_readYears 3 (some .boolean) RX5 := hX
  have hx := hX.1; have hb := hX.2.1; have hts := hX.2.2.2.2.1; have hown := hX.2.2.2.2.2.1
  have hl : lv_has ls 3 [(0, .ref a0), (1, .ref a1)] := hl
  have hP : wP E [(a0, .inr (2, [.ref a0_bytes, .int a0_length, .int a0_token, .int a0_start, .int a0_behind, .int a0_value])), (a0_bytes, aI E 150 fa0_bytes), (a1, .inr (3, [.int a1_kind, .ref a1_pulls, .ref a1_site, .ref a1_past, .int a1_pasts, .ref a1_views, .int a1_members, .ref a1_notes, .int a1_noteCount, .ref a1_marks, .int a1_markCount])), (a1_site, .inr (1, [.int a1_site_off, .int a1_site_year, .ref a1_site_heights, .ref a1_site_storeyKinds, .ref a1_site_storeyTilts])), (a1_pulls, aI E 6 fa1_pulls)] s.heap := hP
  have hsp : (Option.bind (sp_X5_takesNumber (1 : Int32) (99 : Int32) a0_length a0_behind a0_value fa0_bytes) fun z1 => if z1.1 = 0 then (some ((0 : Int32), z1.2.1, z1.2.2.1, z1.2.2.2.1, z1.2.2.2.2, a1_site_off, a1_site_year)) else (Option.bind (sp_X5_takesStop a0_length z1.2.2.2.1 z1.2.2.2.2 fa0_bytes) fun z3 => if z3.1 = 0 then (some ((0 : Int32), z3.2.1, z3.2.2.1, z3.2.2.2.1, z3.2.2.2.2, a1_site_off, a1_site_year)) else (Option.bind (sp_X6_goOn z1.2.2.2.2 a1_kind a1_site_off a1_site_year fa1_pulls) fun z5 => some ((1 : Int32), z3.2.1, z3.2.2.1, z3.2.2.2.1, z3.2.2.2.2, z5.1, z5.2)))) = some (z_0, z_1, z_2, z_3, z_4, z_5, z_6) := hsp
  refine lv_aload_n hx hb dX5_readYears_0 rfl (lv_at hl 0 rfl) (W.pc 1 rfl ?_)
  refine lv_iconst (v := (1 : Int32)) hx hb dX5_readYears_1 (by decide) (W.pc 2 rfl ?_)
  refine lv_bipush (v := (99 : Int32)) hx hb dX5_readYears_2 (by decide) (W.pc 4 rfl ?_)
  obtain ⟨z1, hr_z1, hsp⟩ := bd_s hsp
  refine kVW (st1 := [.int z1.1]) (ws' := [(a0, .inr (2, [.ref a0_bytes, .int a0_length, .int z1.2.1, .int z1.2.2.1, .int z1.2.2.2.1, .int z1.2.2.2.2])), (a0_bytes, aI E 150 fa0_bytes), (a1, .inr (3, [.int a1_kind, .ref a1_pulls, .ref a1_site, .ref a1_past, .int a1_pasts, .ref a1_views, .int a1_members, .ref a1_notes, .int a1_noteCount, .ref a1_marks, .int a1_markCount])), (a1_site, .inr (1, [.int a1_site_off, .int a1_site_year, .ref a1_site_heights, .ref a1_site_storeyKinds, .ref a1_site_storeyTilts])), (a1_pulls, aI E 6 fa1_pulls)]) [0, 1] hX (c_X5_takesNumber l E a0 a0_bytes (1 : Int32) (99 : Int32) a0_length a0_token a0_start a0_behind a0_value fa0_bytes z1.1 z1.2.1 z1.2.2.1 z1.2.2.2.1 z1.2.2.2.2 hr_z1) B_X5_takesNumber w_2_127 hK hP hD hS hA (by decide) rfl rfl rfl (q0 := 0) (ci := 2) rfl rfl rfl rfl hl.1 rfl (Nat.le_of_ble_eq_true rfl) ⟨Nat.le_of_ble_eq_true rfl, Nat.le_of_ble_eq_true rfl⟩ dX5_readYears_4 rfl (fun H locs hP hD hS => W.pc 7 rfl ?_)
  refine lv_if_ne (tgt := 12) hx hb dX5_readYears_7 (by decide) (fun c2 => ?_) (fun c2 => W.pc 10 rfl ?_)
  · have hsp := iq hsp c2
    refine lv_aload_n hx hb dX5_readYears_12 rfl (lv_at hl 0 rfl) (W.pc 13 rfl ?_)
    refine va_get (D := E.1) (ci := 2) (v := .int z1.2.2.2.2) (C := RX5) (T := TX5) (N := 6) hx hb hts inT_X5 hown hK hP 0 rfl rfl 5 (by decide) (hts _ w_1_123) (fun _ h9 => h9) rfl dX5_readYears_13 (W.pc 16 rfl ?_)
    refine lv_istore_n (lv' := [(2, .int z1.2.2.2.2), (0, .ref a0), (1, .ref a1)]) hx hb dX5_readYears_16 rfl hl (by decide) rfl (fun ls hl => W.pc 17 rfl ?_)
    refine lv_aload_n hx hb dX5_readYears_17 rfl (lv_at hl 1 rfl) (W.pc 18 rfl ?_)
    obtain ⟨z3, hr_z3, hsp⟩ := bd_s hsp
    refine kVW (st1 := [.int z3.1]) (ws' := [(a0, .inr (2, [.ref a0_bytes, .int a0_length, .int z3.2.1, .int z3.2.2.1, .int z3.2.2.2.1, .int z3.2.2.2.2])), (a0_bytes, aI E 150 fa0_bytes), (a1, .inr (3, [.int a1_kind, .ref a1_pulls, .ref a1_site, .ref a1_past, .int a1_pasts, .ref a1_views, .int a1_members, .ref a1_notes, .int a1_noteCount, .ref a1_marks, .int a1_markCount])), (a1_site, .inr (1, [.int a1_site_off, .int a1_site_year, .ref a1_site_heights, .ref a1_site_storeyKinds, .ref a1_site_storeyTilts])), (a1_pulls, aI E 6 fa1_pulls)]) [0, 1] hX (c_X5_takesStop l E a0 a0_bytes a0_length z1.2.1 z1.2.2.1 z1.2.2.2.1 z1.2.2.2.2 fa0_bytes z3.1 z3.2.1 z3.2.2.1 z3.2.2.2.1 z3.2.2.2.2 hr_z3) B_X5_takesStop w_2_136 hK hP hD hS hA (by decide) rfl rfl rfl (q0 := 0) (ci := 2) rfl rfl rfl rfl hl.1 rfl (Nat.le_of_ble_eq_true rfl) ⟨Nat.le_of_ble_eq_true rfl, Nat.le_of_ble_eq_true rfl⟩ dX5_readYears_18 rfl (fun H locs hP hD hS => W.pc 21 rfl ?_)
    refine lv_if_ne (tgt := 26) hx hb dX5_readYears_21 (by decide) (fun c4 => ?_) (fun c4 => W.pc 24 rfl ?_)
    · have hsp := iq hsp c4
      refine lv_aload_n hx hb dX5_readYears_26 rfl (lv_at hl 2 rfl) (W.pc 27 rfl ?_)
      refine lv_iload_n hx hb dX5_readYears_27 rfl (lv_at hl 0 rfl) (W.pc 28 rfl ?_)
      obtain ⟨z5, hr_z5, hsp⟩ := bd_s hsp
      refine kVW (st1 := []) (ws' := [(a0, .inr (2, [.ref a0_bytes, .int a0_length, .int z3.2.1, .int z3.2.2.1, .int z3.2.2.2.1, .int z3.2.2.2.2])), (a0_bytes, aI E 150 fa0_bytes), (a1, .inr (3, [.int a1_kind, .ref a1_pulls, .ref a1_site, .ref a1_past, .int a1_pasts, .ref a1_views, .int a1_members, .ref a1_notes, .int a1_noteCount, .ref a1_marks, .int a1_markCount])), (a1_site, .inr (1, [.int z5.1, .int z5.2, .ref a1_site_heights, .ref a1_site_storeyKinds, .ref a1_site_storeyTilts])), (a1_pulls, aI E 6 fa1_pulls)]) [2, 3, 4] hX (c_X6_goOn l E a1 a1_pulls a1_site a1_past a1_views a1_notes a1_marks a1_site_heights a1_site_storeyKinds a1_site_storeyTilts z1.2.2.2.2 a1_kind a1_pasts a1_members a1_noteCount a1_markCount a1_site_off a1_site_year fa1_pulls z5.1 z5.2 hr_z5) B_X6_goOn w_2_188 hK hP hD hS hA (by decide) rfl rfl rfl (q0 := 2) (ci := 3) rfl rfl rfl rfl hl.1 rfl (Nat.le_of_ble_eq_true rfl) ⟨Nat.le_of_ble_eq_true rfl, Nat.le_of_ble_eq_true rfl⟩ dX5_readYears_28 rfl (fun H locs hP hD hS => W.pc 31 rfl ?_)
      refine lv_iconst (v := (1 : Int32)) hx hb dX5_readYears_31 (by decide) (W.pc 32 rfl ?_)
      cases hsp
      exact rWz hX rfl hP hS rfl rfl dX5_readYears_32
    · have hsp := ip hsp c4
      refine lv_iconst (v := (0 : Int32)) hx hb dX5_readYears_24 (by decide) (W.pc 25 rfl ?_)
      cases hsp
      exact rWz hX rfl hP hS rfl rfl dX5_readYears_25
  · have hsp := ip hsp c2
    refine lv_iconst (v := (0 : Int32)) hx hb dX5_readYears_10 (by decide) (W.pc 11 rfl ?_)
    cases hsp
    exact rWz hX rfl hP hS rfl rfl dX5_readYears_11
noncomputable def sp_X5_readBuilding (p2 : Int32) (a0_length : Int32) (a0_behind : Int32) (a0_value : Int32) (fa0_bytes : Nat → Int32) (fa1_site_heights : Nat → Int32) (fa1_site_storeyKinds : Nat → Int32) (fa1_site_storeyTilts : Nat → Int32) : Option (Int32 × Int32 × Int32 × Int32 × Int32 × (Nat → Int32) × (Nat → Int32) × (Nat → Int32)) := Option.bind (sp_X5_takesNumber (0 : Int32) (5 : Int32) a0_length a0_behind a0_value fa0_bytes) fun z1 => if z1.1 = 0 then (some ((0 : Int32), z1.2.1, z1.2.2.1, z1.2.2.2.1, z1.2.2.2.2, fa1_site_heights, fa1_site_storeyKinds, fa1_site_storeyTilts)) else (if (sp_X3_height z1.2.2.2.2 fa1_site_heights) < (5 : Int32) then (Option.bind (sp_X5_takesNumber (0 : Int32) (5 : Int32) a0_length z1.2.2.2.1 z1.2.2.2.2 fa0_bytes) fun z4 => if z4.1 = 0 then (some ((0 : Int32), z4.2.1, z4.2.2.1, z4.2.2.2.1, z4.2.2.2.2, fa1_site_heights, fa1_site_storeyKinds, fa1_site_storeyTilts)) else (Option.bind (sp_X5_takesStop a0_length z4.2.2.2.1 z4.2.2.2.2 fa0_bytes) fun z6 => if z6.1 = 0 then (some ((0 : Int32), z6.2.1, z6.2.2.1, z6.2.2.2.1, z6.2.2.2.2, fa1_site_heights, fa1_site_storeyKinds, fa1_site_storeyTilts)) else (Option.bind (sp_X3_raise z1.2.2.2.2 z4.2.2.2.2 p2 fa1_site_heights fa1_site_storeyKinds fa1_site_storeyTilts) fun z8 => some ((1 : Int32), z6.2.1, z6.2.2.1, z6.2.2.2.1, z6.2.2.2.2, z8.1, z8.2.1, z8.2.2)))) else (some ((0 : Int32), z1.2.1, z1.2.2.1, z1.2.2.2.1, z1.2.2.2.2, fa1_site_heights, fa1_site_storeyKinds, fa1_site_storeyTilts)))
set_option maxHeartbeats 4000000 in
set_option maxRecDepth 100000 in
theorem c_X5_readBuilding (l : Launch) (E : wE) (a0 a1 a0_bytes a1_pulls a1_site a1_past a1_views a1_notes a1_marks a1_site_heights a1_site_storeyKinds a1_site_storeyTilts : Nat) (p2 : Int32) (a0_length : Int32) (a0_token : Int32) (a0_start : Int32) (a0_behind : Int32) (a0_value : Int32) (fa0_bytes : Nat → Int32) (a1_kind : Int32) (a1_pasts : Int32) (a1_members : Int32) (a1_noteCount : Int32) (a1_markCount : Int32) (a1_site_off : Int32) (a1_site_year : Int32) (fa1_site_heights : Nat → Int32) (fa1_site_storeyKinds : Nat → Int32) (fa1_site_storeyTilts : Nat → Int32) (z_0 : Int32) (z_1 : Int32) (z_2 : Int32) (z_3 : Int32) (z_4 : Int32) (z_5 : (Nat → Int32)) (z_6 : (Nat → Int32)) (z_7 : (Nat → Int32)) (hsp : sp_X5_readBuilding p2 a0_length a0_behind a0_value fa0_bytes fa1_site_heights fa1_site_storeyKinds fa1_site_storeyTilts = some (z_0, z_1, z_2, z_3, z_4, z_5, z_6, z_7)) : MW l yX5_readBuilding cX5_readBuilding 5 (some .boolean) 4 E [.ref a0, .ref a1, .int p2] [(a0, .inr (2, [.ref a0_bytes, .int a0_length, .int a0_token, .int a0_start, .int a0_behind, .int a0_value])), (a0_bytes, aI E 150 fa0_bytes), (a1, .inr (3, [.int a1_kind, .ref a1_pulls, .ref a1_site, .ref a1_past, .int a1_pasts, .ref a1_views, .int a1_members, .ref a1_notes, .int a1_noteCount, .ref a1_marks, .int a1_markCount])), (a1_site, .inr (1, [.int a1_site_off, .int a1_site_year, .ref a1_site_heights, .ref a1_site_storeyKinds, .ref a1_site_storeyTilts])), (a1_site_heights, aI E 6 fa1_site_heights), (a1_site_storeyKinds, aI E 30 fa1_site_storeyKinds), (a1_site_storeyTilts, aI E 30 fa1_site_storeyTilts)] (some (.int z_0)) [(a0, .inr (2, [.ref a0_bytes, .int a0_length, .int z_1, .int z_2, .int z_3, .int z_4])), (a0_bytes, aI E 150 fa0_bytes), (a1, .inr (3, [.int a1_kind, .ref a1_pulls, .ref a1_site, .ref a1_past, .int a1_pasts, .ref a1_views, .int a1_members, .ref a1_notes, .int a1_noteCount, .ref a1_marks, .int a1_markCount])), (a1_site, .inr (1, [.int a1_site_off, .int a1_site_year, .ref a1_site_heights, .ref a1_site_storeyKinds, .ref a1_site_storeyTilts])), (a1_site_heights, aI E 6 z_5), (a1_site_storeyKinds, aI E 30 z_6), (a1_site_storeyTilts, aI E 30 z_7)] := by
  refine MW.of (by decide +kernel) (Nat.le_of_ble_eq_true rfl) ?_
  intro p e s m below meth c ls A hX hK hP hD hS hA hl
  have hX : CX p s m [.ref a0, .ref a1, .int p2].toArray meth c cX5_readBuilding 5 (some .boolean) RX5 := hX
  have hx := hX.1; have hb := hX.2.1; have hts := hX.2.2.2.2.1; have hown := hX.2.2.2.2.2.1
  have hl : lv_has ls 5 [(0, .ref a0), (1, .ref a1), (2, .int p2)] := hl
  have hP : wP E [(a0, .inr (2, [.ref a0_bytes, .int a0_length, .int a0_token, .int a0_start, .int a0_behind, .int a0_value])), (a0_bytes, aI E 150 fa0_bytes), (a1, .inr (3, [.int a1_kind, .ref a1_pulls, .ref a1_site, .ref a1_past, .int a1_pasts, .ref a1_views, .int a1_members, .ref a1_notes, .int a1_noteCount, .ref a1_marks, .int a1_markCount])), (a1_site, .inr (1, [.int a1_site_off, .int a1_site_year, .ref a1_site_heights, .ref a1_site_storeyKinds, .ref a1_site_storeyTilts])), (a1_site_heights, aI E 6 fa1_site_heights), (a1_site_storeyKinds, aI E 30 fa1_site_storeyKinds), (a1_site_storeyTilts, aI E 30 fa1_site_storeyTilts)] s.heap := hP
  have hsp : (Option.bind (sp_X5_takesNumber (0 : Int32) (5 : Int32) a0_length a0_behind a0_value fa0_bytes) fun z1 => if z1.1 = 0 then (some ((0 : Int32), z1.2.1, z1.2.2.1, z1.2.2.2.1, z1.2.2.2.2, fa1_site_heights, fa1_site_storeyKinds, fa1_site_storeyTilts)) else (if (sp_X3_height z1.2.2.2.2 fa1_site_heights) < (5 : Int32) then (Option.bind (sp_X5_takesNumber (0 : Int32) (5 : Int32) a0_length z1.2.2.2.1 z1.2.2.2.2 fa0_bytes) fun z4 => if z4.1 = 0 then (some ((0 : Int32), z4.2.1, z4.2.2.1, z4.2.2.2.1, z4.2.2.2.2, fa1_site_heights, fa1_site_storeyKinds, fa1_site_storeyTilts)) else (Option.bind (sp_X5_takesStop a0_length z4.2.2.2.1 z4.2.2.2.2 fa0_bytes) fun z6 => if z6.1 = 0 then (some ((0 : Int32), z6.2.1, z6.2.2.1, z6.2.2.2.1, z6.2.2.2.2, fa1_site_heights, fa1_site_storeyKinds, fa1_site_storeyTilts)) else (Option.bind (sp_X3_raise z1.2.2.2.2 z4.2.2.2.2 p2 fa1_site_heights fa1_site_storeyKinds fa1_site_storeyTilts) fun z8 => some ((1 : Int32), z6.2.1, z6.2.2.1, z6.2.2.2.1, z6.2.2.2.2, z8.1, z8.2.1, z8.2.2)))) else (some ((0 : Int32), z1.2.1, z1.2.2.1, z1.2.2.2.1, z1.2.2.2.2, fa1_site_heights, fa1_site_storeyKinds, fa1_site_storeyTilts)))) = some (z_0, z_1, z_2, z_3, z_4, z_5, z_6, z_7) := hsp
  refine lv_aload_n hx hb dX5_readBuilding_0 rfl (lv_at hl 0 rfl) (W.pc 1 rfl ?_)
  refine lv_iconst (v := (0 : Int32)) hx hb dX5_readBuilding_1 (by decide) (W.pc 2 rfl ?_)
  refine lv_iconst (v := (5 : Int32)) hx hb dX5_readBuilding_2 (by decide) (W.pc 3 rfl ?_)
  obtain ⟨z1, hr_z1, hsp⟩ := bd_s hsp
  refine kVW (st1 := [.int z1.1]) (ws' := [(a0, .inr (2, [.ref a0_bytes, .int a0_length, .int z1.2.1, .int z1.2.2.1, .int z1.2.2.2.1, .int z1.2.2.2.2])), (a0_bytes, aI E 150 fa0_bytes), (a1, .inr (3, [.int a1_kind, .ref a1_pulls, .ref a1_site, .ref a1_past, .int a1_pasts, .ref a1_views, .int a1_members, .ref a1_notes, .int a1_noteCount, .ref a1_marks, .int a1_markCount])), (a1_site, .inr (1, [.int a1_site_off, .int a1_site_year, .ref a1_site_heights, .ref a1_site_storeyKinds, .ref a1_site_storeyTilts])), (a1_site_heights, aI E 6 fa1_site_heights), (a1_site_storeyKinds, aI E 30 fa1_site_storeyKinds), (a1_site_storeyTilts, aI E 30 fa1_site_storeyTilts)]) [0, 1] hX (c_X5_takesNumber l E a0 a0_bytes (0 : Int32) (5 : Int32) a0_length a0_token a0_start a0_behind a0_value fa0_bytes z1.1 z1.2.1 z1.2.2.1 z1.2.2.2.1 z1.2.2.2.2 hr_z1) B_X5_takesNumber w_2_127 hK hP hD hS hA (by decide) rfl rfl rfl (q0 := 0) (ci := 2) rfl rfl rfl rfl hl.1 rfl (Nat.le_of_ble_eq_true rfl) ⟨Nat.le_of_ble_eq_true rfl, Nat.le_of_ble_eq_true rfl⟩ dX5_readBuilding_3 rfl (fun H locs hP hD hS => W.pc 6 rfl ?_)
  refine lv_if_eq (tgt := 24) hx hb dX5_readBuilding_6 (by decide) (fun c2 => ?_) (fun c2 => W.pc 9 rfl ?_)
  · have hsp := ip hsp c2
    refine lv_iconst (v := (0 : Int32)) hx hb dX5_readBuilding_24 (by decide) (W.pc 25 rfl ?_)
    cases hsp
    exact rWz hX rfl hP hS rfl rfl dX5_readBuilding_25
  · have hsp := iq hsp c2
    refine lv_aload_n hx hb dX5_readBuilding_9 rfl (lv_at hl 1 rfl) (W.pc 10 rfl ?_)
    refine va_get (D := E.1) (ci := 3) (v := .ref a1_site) (C := RX6) (T := TX6) (N := 11) hx hb hts inT_X6 hown hK hP 2 rfl rfl 2 (by decide) (hts _ w_1_70) (fun _ h9 => h9) rfl dX5_readBuilding_10 (W.pc 13 rfl ?_)
    refine lv_aload_n hx hb dX5_readBuilding_13 rfl (lv_at hl 0 rfl) (W.pc 14 rfl ?_)
    refine va_get (D := E.1) (ci := 2) (v := .int z1.2.2.2.2) (C := RX5) (T := TX5) (N := 6) hx hb hts inT_X5 hown hK hP 0 rfl rfl 5 (by decide) (hts _ w_1_123) (fun _ h9 => h9) rfl dX5_readBuilding_14 (W.pc 17 rfl ?_)
    refine kVR (st1 := [.int (sp_X3_height z1.2.2.2.2 fa1_site_heights)]) hX (c_X3_height l E a1_site a1_site_heights a1_site_storeyKinds a1_site_storeyTilts z1.2.2.2.2 a1_site_off a1_site_year fa1_site_heights _ rfl) B_X3_height w_2_155 hK (hP.pick [3, 4] rfl) (q0 := 0) (ci := 1) rfl rfl rfl rfl hl.1 rfl (Nat.le_of_ble_eq_true rfl) ⟨Nat.le_of_ble_eq_true rfl, Nat.le_of_ble_eq_true rfl⟩ dX5_readBuilding_17 rfl (W.pc 20 rfl ?_)
    refine lv_iconst (v := (5 : Int32)) hx hb dX5_readBuilding_20 (by decide) (W.pc 21 rfl ?_)
    refine lv_icmp_lt (tgt := 26) hx hb dX5_readBuilding_21 (by decide) (fun c3 => ?_) (fun c3 => W.pc 24 rfl ?_)
    · have hsp := ip hsp c3
      refine lv_aload_n hx hb dX5_readBuilding_26 rfl (lv_at hl 0 rfl) (W.pc 27 rfl ?_)
      refine va_get (D := E.1) (ci := 2) (v := .int z1.2.2.2.2) (C := RX5) (T := TX5) (N := 6) hx hb hts inT_X5 hown hK hP 0 rfl rfl 5 (by decide) (hts _ w_1_123) (fun _ h9 => h9) rfl dX5_readBuilding_27 (W.pc 30 rfl ?_)
      refine lv_istore_n (lv' := [(3, .int z1.2.2.2.2), (0, .ref a0), (1, .ref a1), (2, .int p2)]) hx hb dX5_readBuilding_30 rfl hl (by decide) rfl (fun ls hl => W.pc 31 rfl ?_)
      refine lv_aload_n hx hb dX5_readBuilding_31 rfl (lv_at hl 1 rfl) (W.pc 32 rfl ?_)
      refine lv_iconst (v := (0 : Int32)) hx hb dX5_readBuilding_32 (by decide) (W.pc 33 rfl ?_)
      refine lv_iconst (v := (5 : Int32)) hx hb dX5_readBuilding_33 (by decide) (W.pc 34 rfl ?_)
      obtain ⟨z4, hr_z4, hsp⟩ := bd_s hsp
      refine kVW (st1 := [.int z4.1]) (ws' := [(a0, .inr (2, [.ref a0_bytes, .int a0_length, .int z4.2.1, .int z4.2.2.1, .int z4.2.2.2.1, .int z4.2.2.2.2])), (a0_bytes, aI E 150 fa0_bytes), (a1, .inr (3, [.int a1_kind, .ref a1_pulls, .ref a1_site, .ref a1_past, .int a1_pasts, .ref a1_views, .int a1_members, .ref a1_notes, .int a1_noteCount, .ref a1_marks, .int a1_markCount])), (a1_site, .inr (1, [.int a1_site_off, .int a1_site_year, .ref a1_site_heights, .ref a1_site_storeyKinds, .ref a1_site_storeyTilts])), (a1_site_heights, aI E 6 fa1_site_heights), (a1_site_storeyKinds, aI E 30 fa1_site_storeyKinds), (a1_site_storeyTilts, aI E 30 fa1_site_storeyTilts)]) [0, 1] hX (c_X5_takesNumber l E a0 a0_bytes (0 : Int32) (5 : Int32) a0_length z1.2.1 z1.2.2.1 z1.2.2.2.1 z1.2.2.2.2 fa0_bytes z4.1 z4.2.1 z4.2.2.1 z4.2.2.2.1 z4.2.2.2.2 hr_z4) B_X5_takesNumber w_2_127 hK hP hD hS hA (by decide) rfl rfl rfl (q0 := 0) (ci := 2) rfl rfl rfl rfl hl.1 rfl (Nat.le_of_ble_eq_true rfl) ⟨Nat.le_of_ble_eq_true rfl, Nat.le_of_ble_eq_true rfl⟩ dX5_readBuilding_34 rfl (fun H locs hP hD hS => W.pc 37 rfl ?_)
      refine lv_if_ne (tgt := 42) hx hb dX5_readBuilding_37 (by decide) (fun c5 => ?_) (fun c5 => W.pc 40 rfl ?_)
      · have hsp := iq hsp c5
        refine lv_aload_n hx hb dX5_readBuilding_42 rfl (lv_at hl 1 rfl) (W.pc 43 rfl ?_)
        refine va_get (D := E.1) (ci := 2) (v := .int z4.2.2.2.2) (C := RX5) (T := TX5) (N := 6) hx hb hts inT_X5 hown hK hP 0 rfl rfl 5 (by decide) (hts _ w_1_123) (fun _ h9 => h9) rfl dX5_readBuilding_43 (W.pc 46 rfl ?_)
        refine lv_istore (lv' := [(4, .int z4.2.2.2.2), (3, .int z1.2.2.2.2), (0, .ref a0), (1, .ref a1), (2, .int p2)]) hx hb dX5_readBuilding_46 hl (by decide) rfl (fun ls hl => W.pc 48 rfl ?_)
        refine lv_aload_n hx hb dX5_readBuilding_48 rfl (lv_at hl 2 rfl) (W.pc 49 rfl ?_)
        obtain ⟨z6, hr_z6, hsp⟩ := bd_s hsp
        refine kVW (st1 := [.int z6.1]) (ws' := [(a0, .inr (2, [.ref a0_bytes, .int a0_length, .int z6.2.1, .int z6.2.2.1, .int z6.2.2.2.1, .int z6.2.2.2.2])), (a0_bytes, aI E 150 fa0_bytes), (a1, .inr (3, [.int a1_kind, .ref a1_pulls, .ref a1_site, .ref a1_past, .int a1_pasts, .ref a1_views, .int a1_members, .ref a1_notes, .int a1_noteCount, .ref a1_marks, .int a1_markCount])), (a1_site, .inr (1, [.int a1_site_off, .int a1_site_year, .ref a1_site_heights, .ref a1_site_storeyKinds, .ref a1_site_storeyTilts])), (a1_site_heights, aI E 6 fa1_site_heights), (a1_site_storeyKinds, aI E 30 fa1_site_storeyKinds), (a1_site_storeyTilts, aI E 30 fa1_site_storeyTilts)]) [0, 1] hX (c_X5_takesStop l E a0 a0_bytes a0_length z4.2.1 z4.2.2.1 z4.2.2.2.1 z4.2.2.2.2 fa0_bytes z6.1 z6.2.1 z6.2.2.1 z6.2.2.2.1 z6.2.2.2.2 hr_z6) B_X5_takesStop w_2_136 hK hP hD hS hA (by decide) rfl rfl rfl (q0 := 0) (ci := 2) rfl rfl rfl rfl hl.1 rfl (Nat.le_of_ble_eq_true rfl) ⟨Nat.le_of_ble_eq_true rfl, Nat.le_of_ble_eq_true rfl⟩ dX5_readBuilding_49 rfl (fun H locs hP hD hS => W.pc 52 rfl ?_)
        refine lv_if_ne (tgt := 57) hx hb dX5_readBuilding_52 (by decide) (fun c7 => ?_) (fun c7 => W.pc 55 rfl ?_)
        · have hsp := iq hsp c7
          refine lv_aload_n hx hb dX5_readBuilding_57 rfl (lv_at hl 3 rfl) (W.pc 58 rfl ?_)
          refine va_get (D := E.1) (ci := 3) (v := .ref a1_site) (C := RX6) (T := TX6) (N := 11) hx hb hts inT_X6 hown hK hP 2 rfl rfl 2 (by decide) (hts _ w_1_70) (fun _ h9 => h9) rfl dX5_readBuilding_58 (W.pc 61 rfl ?_)
          refine lv_iload_n hx hb dX5_readBuilding_61 rfl (lv_at hl 1 rfl) (W.pc 62 rfl ?_)
          refine lv_iload hx hb dX5_readBuilding_62 (lv_at hl 0 rfl) (W.pc 64 rfl ?_)
          refine lv_iload_n hx hb dX5_readBuilding_64 rfl (lv_at hl 4 rfl) (W.pc 65 rfl ?_)
          obtain ⟨z8, hr_z8, hsp⟩ := bd_s hsp
          refine kVW (st1 := []) (ws' := [(a0, .inr (2, [.ref a0_bytes, .int a0_length, .int z6.2.1, .int z6.2.2.1, .int z6.2.2.2.1, .int z6.2.2.2.2])), (a0_bytes, aI E 150 fa0_bytes), (a1, .inr (3, [.int a1_kind, .ref a1_pulls, .ref a1_site, .ref a1_past, .int a1_pasts, .ref a1_views, .int a1_members, .ref a1_notes, .int a1_noteCount, .ref a1_marks, .int a1_markCount])), (a1_site, .inr (1, [.int a1_site_off, .int a1_site_year, .ref a1_site_heights, .ref a1_site_storeyKinds, .ref a1_site_storeyTilts])), (a1_site_heights, aI E 6 z8.1), (a1_site_storeyKinds, aI E 30 z8.2.1), (a1_site_storeyTilts, aI E 30 z8.2.2)]) [3, 4, 5, 6] hX (c_X3_raise l E a1_site a1_site_heights a1_site_storeyKinds a1_site_storeyTilts z1.2.2.2.2 z4.2.2.2.2 p2 a1_site_off a1_site_year fa1_site_heights fa1_site_storeyKinds fa1_site_storeyTilts z8.1 z8.2.1 z8.2.2 hr_z8) B_X3_raise w_2_156 hK hP hD hS hA (by decide) rfl rfl rfl (q0 := 3) (ci := 1) rfl rfl rfl rfl hl.1 rfl (Nat.le_of_ble_eq_true rfl) ⟨Nat.le_of_ble_eq_true rfl, Nat.le_of_ble_eq_true rfl⟩ dX5_readBuilding_65 rfl (fun H locs hP hD hS => W.pc 68 rfl ?_)
          refine lv_iconst (v := (1 : Int32)) hx hb dX5_readBuilding_68 (by decide) (W.pc 69 rfl ?_)
          cases hsp
          exact rWz hX rfl hP hS rfl rfl dX5_readBuilding_69
        · have hsp := ip hsp c7
          refine lv_iconst (v := (0 : Int32)) hx hb dX5_readBuilding_55 (by decide) (W.pc 56 rfl ?_)
          cases hsp
          exact rWz hX rfl hP hS rfl rfl dX5_readBuilding_56
      · have hsp := ip hsp c5
        refine lv_iconst (v := (0 : Int32)) hx hb dX5_readBuilding_40 (by decide) (W.pc 41 rfl ?_)
        cases hsp
        exact rWz hX rfl hP hS rfl rfl dX5_readBuilding_41
    · have hsp := iq hsp c3
      refine lv_iconst (v := (0 : Int32)) hx hb dX5_readBuilding_24 (by decide) (W.pc 25 rfl ?_)
      cases hsp
      exact rWz hX rfl hP hS rfl rfl dX5_readBuilding_25
noncomputable def lp_X5_readPulls_2 (a0_length : Int32) (fa0_bytes : Nat → Int32) : Nat → Int32 → Int32 → Int32 → Int32 → Int32 → ((Nat → Int32)) → Option (Int32 × Int32 × Int32 × Int32 × Int32 × (Nat → Int32))
 | 0, _, _, _, _, _, _ => none
 | fu + 1, x2_2, ya0_2_2, ya0_3_2, ya0_4_2, ya0_5_2, ya1_pulls_f_2 => if (6 : Int32) ≤ x2_2 then (Option.bind (sp_X5_takesStop a0_length ya0_4_2 ya0_5_2 fa0_bytes) fun z2 => gd (z2.1 = 0 ∨ z2.1 = 1) (some (z2.1, z2.2.1, z2.2.2.1, z2.2.2.2.1, z2.2.2.2.2, ya1_pulls_f_2))) else (Option.bind (sp_X5_advance a0_length ya0_4_2 ya0_5_2 fa0_bytes) fun z4 => if z4.1 = (3 : Int32) then (if x2_2 ≤ 0 then (if (sp_X5_isNumber (0 : Int32) (18 : Int32) z4.1 z4.2.2.2) = 0 then (some ((0 : Int32), z4.1, z4.2.1, z4.2.2.1, z4.2.2.2, ya1_pulls_f_2)) else (lt_ (sp_X2_put 6 x2_2 (z4.2.2.2 - (9 : Int32)) ya1_pulls_f_2) fun z10 => lp_X5_readPulls_2 a0_length fa0_bytes fu (x2_2 + (1 : Int32)) z4.1 z4.2.1 z4.2.2.1 z4.2.2.2 z10)) else (some ((1 : Int32), z4.1, z4.2.1, z4.2.2.1, z4.2.2.2, ya1_pulls_f_2))) else (if (sp_X5_isNumber (0 : Int32) (18 : Int32) z4.1 z4.2.2.2) = 0 then (some ((0 : Int32), z4.1, z4.2.1, z4.2.2.1, z4.2.2.2, ya1_pulls_f_2)) else (lt_ (sp_X2_put 6 x2_2 (z4.2.2.2 - (9 : Int32)) ya1_pulls_f_2) fun z7 => lp_X5_readPulls_2 a0_length fa0_bytes fu (x2_2 + (1 : Int32)) z4.1 z4.2.1 z4.2.2.1 z4.2.2.2 z7)))
noncomputable def sp_X5_readPulls (a0_length : Int32) (a0_token : Int32) (a0_start : Int32) (a0_behind : Int32) (a0_value : Int32) (fa0_bytes : Nat → Int32) (fa1_pulls : Nat → Int32) : Option (Int32 × Int32 × Int32 × Int32 × Int32 × (Nat → Int32)) := lp_X5_readPulls_2 a0_length fa0_bytes FU (0 : Int32) a0_token a0_start a0_behind a0_value fa1_pulls
set_option maxHeartbeats 4000000 in
set_option maxRecDepth 100000 in
theorem c_X5_readPulls (l : Launch) (E : wE) (a0 a1 a0_bytes a1_pulls a1_site a1_past a1_views a1_notes a1_marks : Nat) (a0_length : Int32) (a0_token : Int32) (a0_start : Int32) (a0_behind : Int32) (a0_value : Int32) (fa0_bytes : Nat → Int32) (a1_kind : Int32) (a1_pasts : Int32) (a1_members : Int32) (a1_noteCount : Int32) (a1_markCount : Int32) (fa1_pulls : Nat → Int32) (z_0 : Int32) (z_1 : Int32) (z_2 : Int32) (z_3 : Int32) (z_4 : Int32) (z_5 : (Nat → Int32)) (hsp : sp_X5_readPulls a0_length a0_token a0_start a0_behind a0_value fa0_bytes fa1_pulls = some (z_0, z_1, z_2, z_3, z_4, z_5)) : MW l yX5_readPulls cX5_readPulls 3 (some .boolean) 4 E [.ref a0, .ref a1] [(a0, .inr (2, [.ref a0_bytes, .int a0_length, .int a0_token, .int a0_start, .int a0_behind, .int a0_value])), (a0_bytes, aI E 150 fa0_bytes), (a1, .inr (3, [.int a1_kind, .ref a1_pulls, .ref a1_site, .ref a1_past, .int a1_pasts, .ref a1_views, .int a1_members, .ref a1_notes, .int a1_noteCount, .ref a1_marks, .int a1_markCount])), (a1_pulls, aI E 6 fa1_pulls)] (some (.int z_0)) [(a0, .inr (2, [.ref a0_bytes, .int a0_length, .int z_1, .int z_2, .int z_3, .int z_4])), (a0_bytes, aI E 150 fa0_bytes), (a1, .inr (3, [.int a1_kind, .ref a1_pulls, .ref a1_site, .ref a1_past, .int a1_pasts, .ref a1_views, .int a1_members, .ref a1_notes, .int a1_noteCount, .ref a1_marks, .int a1_markCount])), (a1_pulls, aI E 6 z_5)] := by
  refine MW.of (by decide +kernel) (Nat.le_of_ble_eq_true rfl) ?_
  intro p e s m below meth c ls A hX hK hP hD hS hA hl
  have hX : CX p s m [.ref a0, .ref a1].toArray meth c cX5_readPulls 3 (some .boolean) RX5 := hX
  have hx := hX.1; have hb := hX.2.1; have hts := hX.2.2.2.2.1; have hown := hX.2.2.2.2.2.1
  have hl : lv_has ls 3 [(0, .ref a0), (1, .ref a1)] := hl
  have hP : wP E [(a0, .inr (2, [.ref a0_bytes, .int a0_length, .int a0_token, .int a0_start, .int a0_behind, .int a0_value])), (a0_bytes, aI E 150 fa0_bytes), (a1, .inr (3, [.int a1_kind, .ref a1_pulls, .ref a1_site, .ref a1_past, .int a1_pasts, .ref a1_views, .int a1_members, .ref a1_notes, .int a1_noteCount, .ref a1_marks, .int a1_markCount])), (a1_pulls, aI E 6 fa1_pulls)] s.heap := hP
  have hsp : (lp_X5_readPulls_2 a0_length fa0_bytes FU (0 : Int32) a0_token a0_start a0_behind a0_value fa1_pulls) = some (z_0, z_1, z_2, z_3, z_4, z_5) := hsp
  refine lv_iconst (v := (0 : Int32)) hx hb dX5_readPulls_0 (by decide) (W.pc 1 rfl ?_)
  refine lv_istore_n (lv' := [(2, .int (0 : Int32)), (0, .ref a0), (1, .ref a1)]) hx hb dX5_readPulls_1 rfl hl (by decide) rfl (fun ls hl => W.pc 2 rfl ?_)
  have L_2 : ∀ (fu : Nat) (x2_2 : Int32) (ya0_2_2 : Int32) (ya0_3_2 : Int32) (ya0_4_2 : Int32) (ya0_5_2 : Int32) (ya1_pulls_f_2 : (Nat → Int32)), ∀ (H : Heap) (locs : List Loc) (ls : Array Slot), wP E [(a0, .inr (2, [.ref a0_bytes, .int a0_length, .int ya0_2_2, .int ya0_3_2, .int ya0_4_2, .int ya0_5_2])), (a0_bytes, aI E 150 fa0_bytes), (a1, .inr (3, [.int a1_kind, .ref a1_pulls, .ref a1_site, .ref a1_past, .int a1_pasts, .ref a1_views, .int a1_members, .ref a1_notes, .int a1_noteCount, .ref a1_marks, .int a1_markCount])), (a1_pulls, aI E 6 ya1_pulls_f_2)] H → va_D A [(a0, .inr (2, [.ref a0_bytes, .int a0_length, .int ya0_2_2, .int ya0_3_2, .int ya0_4_2, .int ya0_5_2])), (a0_bytes, aI E 150 fa0_bytes), (a1, .inr (3, [.int a1_kind, .ref a1_pulls, .ref a1_site, .ref a1_past, .int a1_pasts, .ref a1_views, .int a1_members, .ref a1_notes, .int a1_noteCount, .ref a1_marks, .int a1_markCount])), (a1_pulls, aI E 6 ya1_pulls_f_2)] → va_S A s.heap H locs → lv_has ls 3 [(0, .ref a0), (1, .ref a1), (2, .int x2_2)] → lp_X5_readPulls_2 a0_length fa0_bytes fu x2_2 ya0_2_2 ya0_3_2 ya0_4_2 ya0_5_2 ya1_pulls_f_2 = some (z_0, z_1, z_2, z_3, z_4, z_5) → W p l e (wR 4) s m [.ref a0, .ref a1].toArray below meth c H locs 0 0 (MQ below (QWd E A (some (.int z_0)) [(a0, .inr (2, [.ref a0_bytes, .int a0_length, .int z_1, .int z_2, .int z_3, .int z_4])), (a0_bytes, aI E 150 fa0_bytes), (a1, .inr (3, [.int a1_kind, .ref a1_pulls, .ref a1_site, .ref a1_past, .int a1_pasts, .ref a1_views, .int a1_members, .ref a1_notes, .int a1_noteCount, .ref a1_marks, .int a1_markCount])), (a1_pulls, aI E 6 z_5)]) [.ref a0, .ref a1].toArray s 0 0 A) (F0 m 2 ls []) := by
    intro fu
    induction fu with
    | zero => intro x2_2 ya0_2_2 ya0_3_2 ya0_4_2 ya0_5_2 ya1_pulls_f_2 H locs ls hP hD hS hl hsp; exact absurd (show none = some _ from hsp) (by simp)
    | succ fu ih_2 =>
      intro x2_2 ya0_2_2 ya0_3_2 ya0_4_2 ya0_5_2 ya1_pulls_f_2 H locs ls hP hD hS hl hsp
      have hsp : (if (6 : Int32) ≤ x2_2 then (Option.bind (sp_X5_takesStop a0_length ya0_4_2 ya0_5_2 fa0_bytes) fun z2 => gd (z2.1 = 0 ∨ z2.1 = 1) (some (z2.1, z2.2.1, z2.2.2.1, z2.2.2.2.1, z2.2.2.2.2, ya1_pulls_f_2))) else (Option.bind (sp_X5_advance a0_length ya0_4_2 ya0_5_2 fa0_bytes) fun z4 => if z4.1 = (3 : Int32) then (if x2_2 ≤ 0 then (if (sp_X5_isNumber (0 : Int32) (18 : Int32) z4.1 z4.2.2.2) = 0 then (some ((0 : Int32), z4.1, z4.2.1, z4.2.2.1, z4.2.2.2, ya1_pulls_f_2)) else (lt_ (sp_X2_put 6 x2_2 (z4.2.2.2 - (9 : Int32)) ya1_pulls_f_2) fun z10 => lp_X5_readPulls_2 a0_length fa0_bytes fu (x2_2 + (1 : Int32)) z4.1 z4.2.1 z4.2.2.1 z4.2.2.2 z10)) else (some ((1 : Int32), z4.1, z4.2.1, z4.2.2.1, z4.2.2.2, ya1_pulls_f_2))) else (if (sp_X5_isNumber (0 : Int32) (18 : Int32) z4.1 z4.2.2.2) = 0 then (some ((0 : Int32), z4.1, z4.2.1, z4.2.2.1, z4.2.2.2, ya1_pulls_f_2)) else (lt_ (sp_X2_put 6 x2_2 (z4.2.2.2 - (9 : Int32)) ya1_pulls_f_2) fun z7 => lp_X5_readPulls_2 a0_length fa0_bytes fu (x2_2 + (1 : Int32)) z4.1 z4.2.1 z4.2.2.1 z4.2.2.2 z7)))) = some (z_0, z_1, z_2, z_3, z_4, z_5) := hsp
      refine lv_iload_n hx hb dX5_readPulls_2 rfl (lv_at hl 2 rfl) (W.pc 3 rfl ?_)
      refine lv_bipush (v := (6 : Int32)) hx hb dX5_readPulls_3 (by decide) (W.pc 5 rfl ?_)
      refine lv_icmp_ge (tgt := 59) hx hb dX5_readPulls_5 (by decide) (fun c1 => ?_) (fun c1 => W.pc 8 rfl ?_)
      · have hsp := ip hsp c1
        refine lv_aload_n hx hb dX5_readPulls_59 rfl (lv_at hl 0 rfl) (W.pc 60 rfl ?_)
        obtain ⟨z2, hr_z2, hsp⟩ := bd_s hsp
        refine kVW (st1 := [.int z2.1]) (ws' := [(a0, .inr (2, [.ref a0_bytes, .int a0_length, .int z2.2.1, .int z2.2.2.1, .int z2.2.2.2.1, .int z2.2.2.2.2])), (a0_bytes, aI E 150 fa0_bytes), (a1, .inr (3, [.int a1_kind, .ref a1_pulls, .ref a1_site, .ref a1_past, .int a1_pasts, .ref a1_views, .int a1_members, .ref a1_notes, .int a1_noteCount, .ref a1_marks, .int a1_markCount])), (a1_pulls, aI E 6 ya1_pulls_f_2)]) [0, 1] hX (c_X5_takesStop l E a0 a0_bytes a0_length ya0_2_2 ya0_3_2 ya0_4_2 ya0_5_2 fa0_bytes z2.1 z2.2.1 z2.2.2.1 z2.2.2.2.1 z2.2.2.2.2 hr_z2) B_X5_takesStop w_2_136 hK hP hD hS hA (by decide) rfl rfl rfl (q0 := 0) (ci := 2) rfl rfl rfl rfl hl.1 rfl (Nat.le_of_ble_eq_true rfl) ⟨Nat.le_of_ble_eq_true rfl, Nat.le_of_ble_eq_true rfl⟩ dX5_readPulls_60 rfl (fun H locs hP hD hS => W.pc 63 rfl ?_)
        obtain ⟨h3, hsp⟩ := gd_s hsp
        cases hsp
        exact rWz hX (nz01 h3) hP hS rfl rfl dX5_readPulls_63
      · have hsp := iq hsp c1
        refine lv_aload_n hx hb dX5_readPulls_8 rfl (lv_at hl 0 rfl) (W.pc 9 rfl ?_)
        obtain ⟨z4, hr_z4, hsp⟩ := bd_s hsp
        refine kVW (st1 := []) (ws' := [(a0, .inr (2, [.ref a0_bytes, .int a0_length, .int z4.1, .int z4.2.1, .int z4.2.2.1, .int z4.2.2.2])), (a0_bytes, aI E 150 fa0_bytes), (a1, .inr (3, [.int a1_kind, .ref a1_pulls, .ref a1_site, .ref a1_past, .int a1_pasts, .ref a1_views, .int a1_members, .ref a1_notes, .int a1_noteCount, .ref a1_marks, .int a1_markCount])), (a1_pulls, aI E 6 ya1_pulls_f_2)]) [0, 1] hX (c_X5_advance l E a0 a0_bytes a0_length ya0_2_2 ya0_3_2 ya0_4_2 ya0_5_2 fa0_bytes z4.1 z4.2.1 z4.2.2.1 z4.2.2.2 hr_z4) B_X5_advance w_2_60 hK hP hD hS hA (by decide) rfl rfl rfl (q0 := 0) (ci := 2) rfl rfl rfl rfl hl.1 rfl (Nat.le_of_ble_eq_true rfl) ⟨Nat.le_of_ble_eq_true rfl, Nat.le_of_ble_eq_true rfl⟩ dX5_readPulls_9 rfl (fun H locs hP hD hS => W.pc 12 rfl ?_)
        refine lv_aload_n hx hb dX5_readPulls_12 rfl (lv_at hl 0 rfl) (W.pc 13 rfl ?_)
        refine va_get (D := E.1) (ci := 2) (v := .int z4.1) (C := RX5) (T := TX5) (N := 6) hx hb hts inT_X5 hown hK hP 0 rfl rfl 2 (by decide) (hts _ w_1_120) (fun _ h9 => h9) rfl dX5_readPulls_13 (W.pc 16 rfl ?_)
        refine lv_iconst (v := (3 : Int32)) hx hb dX5_readPulls_16 (by decide) (W.pc 17 rfl ?_)
        refine lv_icmp_ne (tgt := 26) hx hb dX5_readPulls_17 (by decide) (fun c5 => ?_) (fun c5 => W.pc 20 rfl ?_)
        · have hsp := iq hsp c5
          refine lv_aload_n hx hb dX5_readPulls_26 rfl (lv_at hl 0 rfl) (W.pc 27 rfl ?_)
          refine lv_iconst (v := (0 : Int32)) hx hb dX5_readPulls_27 (by decide) (W.pc 28 rfl ?_)
          refine lv_bipush (v := (18 : Int32)) hx hb dX5_readPulls_28 (by decide) (W.pc 30 rfl ?_)
          refine kVR (st1 := [.int (sp_X5_isNumber (0 : Int32) (18 : Int32) z4.1 z4.2.2.2)]) hX (c_X5_isNumber l E a0 a0_bytes (0 : Int32) (18 : Int32) a0_length z4.1 z4.2.1 z4.2.2.1 z4.2.2.2 _ rfl) B_X5_isNumber w_2_131 hK (hP.pick [0] rfl) (q0 := 0) (ci := 2) rfl rfl rfl rfl hl.1 rfl (Nat.le_of_ble_eq_true rfl) ⟨Nat.le_of_ble_eq_true rfl, Nat.le_of_ble_eq_true rfl⟩ dX5_readPulls_30 rfl (W.pc 33 rfl ?_)
          refine lv_if_ne (tgt := 38) hx hb dX5_readPulls_33 (by decide) (fun c6 => ?_) (fun c6 => W.pc 36 rfl ?_)
          · have hsp := iq hsp c6
            refine lv_aload_n hx hb dX5_readPulls_38 rfl (lv_at hl 1 rfl) (W.pc 39 rfl ?_)
            refine va_get (D := E.1) (ci := 3) (v := .ref a1_pulls) (C := RX6) (T := TX6) (N := 11) hx hb hts inT_X6 hown hK hP 2 rfl rfl 1 (by decide) (hts _ w_1_66) (fun _ h9 => h9) rfl dX5_readPulls_39 (W.pc 42 rfl ?_)
            refine lv_iload_n hx hb dX5_readPulls_42 rfl (lv_at hl 2 rfl) (W.pc 43 rfl ?_)
            refine lv_aload_n hx hb dX5_readPulls_43 rfl (lv_at hl 0 rfl) (W.pc 44 rfl ?_)
            refine va_get (D := E.1) (ci := 2) (v := .int z4.2.2.2) (C := RX5) (T := TX5) (N := 6) hx hb hts inT_X5 hown hK hP 0 rfl rfl 5 (by decide) (hts _ w_1_123) (fun _ h9 => h9) rfl dX5_readPulls_44 (W.pc 47 rfl ?_)
            refine lv_bipush (v := (9 : Int32)) hx hb dX5_readPulls_47 (by decide) (W.pc 49 rfl ?_)
            refine lv_isub hx hb dX5_readPulls_49 (W.pc 50 rfl ?_)
            obtain ⟨z7, hr_z7, hsp⟩ := ltb_s hsp
            refine kSW (st1 := []) (ws' := [(a0, .inr (2, [.ref a0_bytes, .int a0_length, .int z4.1, .int z4.2.1, .int z4.2.2.1, .int z4.2.2.2])), (a0_bytes, aI E 150 fa0_bytes), (a1, .inr (3, [.int a1_kind, .ref a1_pulls, .ref a1_site, .ref a1_past, .int a1_pasts, .ref a1_views, .int a1_members, .ref a1_notes, .int a1_noteCount, .ref a1_marks, .int a1_markCount])), (a1_pulls, aI E 6 z7)]) [3] hX (c_X2_put l E a1_pulls 6 (by decide) x2_2 (z4.2.2.2 - (9 : Int32)) ya1_pulls_f_2 z7 hr_z7) B_X2_put w_2_149 hK hP hD hS hA (by decide) rfl rfl rfl rfl hl.1 rfl (Nat.le_of_ble_eq_true rfl) ⟨Nat.le_of_ble_eq_true rfl, Nat.le_of_ble_eq_true rfl⟩ dX5_readPulls_50 rfl (fun H locs hP hD hS => W.pc 53 rfl ?_)
            refine lv_iinc (v := (x2_2 + (1 : Int32))) (lv' := [(2, .int (x2_2 + (1 : Int32))), (0, .ref a0), (1, .ref a1)]) hx hb dX5_readPulls_53 hl (k := 2) rfl rfl (by decide) rfl (fun ls hl => W.pc 56 rfl ?_)
            refine lv_goto (tgt := 2) hx hb dX5_readPulls_56 (by decide) ?_
            exact ih_2 (x2_2 + (1 : Int32)) z4.1 z4.2.1 z4.2.2.1 z4.2.2.2 z7 _ _ _ hP hD hS (lv_sub hl [1, 2, 0] rfl) hsp
          · have hsp := ip hsp c6
            refine lv_iconst (v := (0 : Int32)) hx hb dX5_readPulls_36 (by decide) (W.pc 37 rfl ?_)
            cases hsp
            exact rWz hX rfl hP hS rfl rfl dX5_readPulls_37
        · have hsp := ip hsp c5
          refine lv_iload_n hx hb dX5_readPulls_20 rfl (lv_at hl 2 rfl) (W.pc 21 rfl ?_)
          refine lv_if_le (tgt := 26) hx hb dX5_readPulls_21 (by decide) (fun c8 => ?_) (fun c8 => W.pc 24 rfl ?_)
          · have hsp := ip hsp c8
            refine lv_aload_n hx hb dX5_readPulls_26 rfl (lv_at hl 0 rfl) (W.pc 27 rfl ?_)
            refine lv_iconst (v := (0 : Int32)) hx hb dX5_readPulls_27 (by decide) (W.pc 28 rfl ?_)
            refine lv_bipush (v := (18 : Int32)) hx hb dX5_readPulls_28 (by decide) (W.pc 30 rfl ?_)
            refine kVR (st1 := [.int (sp_X5_isNumber (0 : Int32) (18 : Int32) z4.1 z4.2.2.2)]) hX (c_X5_isNumber l E a0 a0_bytes (0 : Int32) (18 : Int32) a0_length z4.1 z4.2.1 z4.2.2.1 z4.2.2.2 _ rfl) B_X5_isNumber w_2_131 hK (hP.pick [0] rfl) (q0 := 0) (ci := 2) rfl rfl rfl rfl hl.1 rfl (Nat.le_of_ble_eq_true rfl) ⟨Nat.le_of_ble_eq_true rfl, Nat.le_of_ble_eq_true rfl⟩ dX5_readPulls_30 rfl (W.pc 33 rfl ?_)
            refine lv_if_ne (tgt := 38) hx hb dX5_readPulls_33 (by decide) (fun c9 => ?_) (fun c9 => W.pc 36 rfl ?_)
            · have hsp := iq hsp c9
              refine lv_aload_n hx hb dX5_readPulls_38 rfl (lv_at hl 1 rfl) (W.pc 39 rfl ?_)
              refine va_get (D := E.1) (ci := 3) (v := .ref a1_pulls) (C := RX6) (T := TX6) (N := 11) hx hb hts inT_X6 hown hK hP 2 rfl rfl 1 (by decide) (hts _ w_1_66) (fun _ h9 => h9) rfl dX5_readPulls_39 (W.pc 42 rfl ?_)
              refine lv_iload_n hx hb dX5_readPulls_42 rfl (lv_at hl 2 rfl) (W.pc 43 rfl ?_)
              refine lv_aload_n hx hb dX5_readPulls_43 rfl (lv_at hl 0 rfl) (W.pc 44 rfl ?_)
              refine va_get (D := E.1) (ci := 2) (v := .int z4.2.2.2) (C := RX5) (T := TX5) (N := 6) hx hb hts inT_X5 hown hK hP 0 rfl rfl 5 (by decide) (hts _ w_1_123) (fun _ h9 => h9) rfl dX5_readPulls_44 (W.pc 47 rfl ?_)
              refine lv_bipush (v := (9 : Int32)) hx hb dX5_readPulls_47 (by decide) (W.pc 49 rfl ?_)
              refine lv_isub hx hb dX5_readPulls_49 (W.pc 50 rfl ?_)
              obtain ⟨z10, hr_z10, hsp⟩ := ltb_s hsp
              refine kSW (st1 := []) (ws' := [(a0, .inr (2, [.ref a0_bytes, .int a0_length, .int z4.1, .int z4.2.1, .int z4.2.2.1, .int z4.2.2.2])), (a0_bytes, aI E 150 fa0_bytes), (a1, .inr (3, [.int a1_kind, .ref a1_pulls, .ref a1_site, .ref a1_past, .int a1_pasts, .ref a1_views, .int a1_members, .ref a1_notes, .int a1_noteCount, .ref a1_marks, .int a1_markCount])), (a1_pulls, aI E 6 z10)]) [3] hX (c_X2_put l E a1_pulls 6 (by decide) x2_2 (z4.2.2.2 - (9 : Int32)) ya1_pulls_f_2 z10 hr_z10) B_X2_put w_2_149 hK hP hD hS hA (by decide) rfl rfl rfl rfl hl.1 rfl (Nat.le_of_ble_eq_true rfl) ⟨Nat.le_of_ble_eq_true rfl, Nat.le_of_ble_eq_true rfl⟩ dX5_readPulls_50 rfl (fun H locs hP hD hS => W.pc 53 rfl ?_)
              refine lv_iinc (v := (x2_2 + (1 : Int32))) (lv' := [(2, .int (x2_2 + (1 : Int32))), (0, .ref a0), (1, .ref a1)]) hx hb dX5_readPulls_53 hl (k := 2) rfl rfl (by decide) rfl (fun ls hl => W.pc 56 rfl ?_)
              refine lv_goto (tgt := 2) hx hb dX5_readPulls_56 (by decide) ?_
              exact ih_2 (x2_2 + (1 : Int32)) z4.1 z4.2.1 z4.2.2.1 z4.2.2.2 z10 _ _ _ hP hD hS (lv_sub hl [1, 2, 0] rfl) hsp
            · have hsp := ip hsp c9
              refine lv_iconst (v := (0 : Int32)) hx hb dX5_readPulls_36 (by decide) (W.pc 37 rfl ?_)
              cases hsp
              exact rWz hX rfl hP hS rfl rfl dX5_readPulls_37
          · have hsp := iq hsp c8
            refine lv_iconst (v := (1 : Int32)) hx hb dX5_readPulls_24 (by decide) (W.pc 25 rfl ?_)
            cases hsp
            exact rWz hX rfl hP hS rfl rfl dX5_readPulls_25
  exact L_2 FU (0 : Int32) a0_token a0_start a0_behind a0_value fa1_pulls _ _ _ hP hD hS (lv_sub hl [1, 2, 0] rfl) hsp
