theorem w_4_3 : Cond.methodLink RX2 7 yX2_at ∈ TBL := TBL_t (tin4 (List.mem_of_getElem? (i := 3) (by decide +kernel))) (by decide +kernel)
theorem w_4_4 : Cond.methodLink RX2 13 yX2_put ∈ TBL := TBL_t (tin4 (List.mem_of_getElem? (i := 4) (by decide +kernel))) (by decide +kernel)
theorem w_4_56 : Cond.constantLong RX2 29 (31 : Int64) ∈ TBL := TBL_t (tin4 (List.mem_of_getElem? (i := 56) (by decide +kernel))) (by decide +kernel)
theorem w_1_37 : Cond.fieldLink RX3 21 "LevelGone$Site" "off" "I" ∈ TBL := TBL_t (tin1 (List.mem_of_getElem? (i := 37) (by decide +kernel))) (by decide +kernel)
theorem w_1_42 : Cond.fieldLink RX3 25 "LevelGone$Site" "year" "I" ∈ TBL := TBL_t (tin1 (List.mem_of_getElem? (i := 42) (by decide +kernel))) (by decide +kernel)
theorem w_1_46 : Cond.fieldLink RX3 9 "LevelGone$Site" "heights" "[I" ∈ TBL := TBL_t (tin1 (List.mem_of_getElem? (i := 46) (by decide +kernel))) (by decide +kernel)
theorem w_2_20 : Cond.methodLink RX3 34 yX2_empty ∈ TBL := TBL_t (tin2 (List.mem_of_getElem? (i := 20) (by decide +kernel))) (by decide +kernel)
theorem w_2_6 : Cond.methodLink RX3 38 yX2_at ∈ TBL := TBL_t (tin2 (List.mem_of_getElem? (i := 6) (by decide +kernel))) (by decide +kernel)
theorem w_1_47 : Cond.fieldLink RX3 15 "LevelGone$Site" "storeyKinds" "[I" ∈ TBL := TBL_t (tin1 (List.mem_of_getElem? (i := 47) (by decide +kernel))) (by decide +kernel)
theorem w_1_48 : Cond.fieldLink RX3 18 "LevelGone$Site" "storeyTilts" "[I" ∈ TBL := TBL_t (tin1 (List.mem_of_getElem? (i := 48) (by decide +kernel))) (by decide +kernel)
theorem w_2_2 : Cond.methodLink RX3 42 yX3_height ∈ TBL := TBL_t (tin2 (List.mem_of_getElem? (i := 2) (by decide +kernel))) (by decide +kernel)
theorem w_2_172 : Cond.methodLink RX3 46 yX3_tiltAt ∈ TBL := TBL_t (tin2 (List.mem_of_getElem? (i := 172) (by decide +kernel))) (by decide +kernel)
theorem w_2_165 : Cond.methodLink RX3 53 yX3_kindAt ∈ TBL := TBL_t (tin2 (List.mem_of_getElem? (i := 165) (by decide +kernel))) (by decide +kernel)
theorem w_2_169 : Cond.methodLink RX3 56 yX4_heavy ∈ TBL := TBL_t (tin2 (List.mem_of_getElem? (i := 169) (by decide +kernel))) (by decide +kernel)
theorem w_3_61 : Cond.methodLink RX3 50 yX3_loadOn ∈ TBL := TBL_t (tin3 (List.mem_of_getElem? (i := 61) (by decide +kernel))) (by decide +kernel)
theorem w_2_176 : Cond.methodLink RX3 68 yX4_stands ∈ TBL := TBL_t (tin2 (List.mem_of_getElem? (i := 176) (by decide +kernel))) (by decide +kernel)
theorem w_2_160 : Cond.methodLink RX3 61 yX2_put ∈ TBL := TBL_t (tin2 (List.mem_of_getElem? (i := 160) (by decide +kernel))) (by decide +kernel)
theorem w_2_161 : Cond.methodLink RX3 65 yX3_standing ∈ TBL := TBL_t (tin2 (List.mem_of_getElem? (i := 161) (by decide +kernel))) (by decide +kernel)
theorem w_4_61 : Cond.constantLong RX3 72 (31 : Int64) ∈ TBL := TBL_t (tin4 (List.mem_of_getElem? (i := 61) (by decide +kernel))) (by decide +kernel)
theorem w_2_8 : Cond.code yX2_at cX2_at 2 (some .int) ∈ TBL := TBL_t (tin2 (List.mem_of_getElem? (i := 8) (by decide +kernel))) (by decide +kernel)
theorem w_2_7 : Cond.static yX2_at ∈ TBL := TBL_t (tin2 (List.mem_of_getElem? (i := 7) (by decide +kernel))) (by decide +kernel)
theorem w_1_7 : Cond.initialized RX2 ∈ TBL := TBL_t (tin1 (List.mem_of_getElem? (i := 7) (by decide +kernel))) (by decide +kernel)
theorem w_2_31 : Cond.code yX2_put cX2_put 3 none ∈ TBL := TBL_t (tin2 (List.mem_of_getElem? (i := 31) (by decide +kernel))) (by decide +kernel)
theorem w_2_30 : Cond.static yX2_put ∈ TBL := TBL_t (tin2 (List.mem_of_getElem? (i := 30) (by decide +kernel))) (by decide +kernel)
theorem w_2_15 : Cond.code yX2_empty cX2_empty 2 none ∈ TBL := TBL_t (tin2 (List.mem_of_getElem? (i := 15) (by decide +kernel))) (by decide +kernel)
theorem w_2_14 : Cond.static yX2_empty ∈ TBL := TBL_t (tin2 (List.mem_of_getElem? (i := 14) (by decide +kernel))) (by decide +kernel)
theorem w_2_4 : Cond.selects yX3_height.cls yX3_height yX3_height ∈ TBL := TBL_t (tin2 (List.mem_of_getElem? (i := 4) (by decide +kernel))) (by decide +kernel)
theorem w_2_5 : Cond.code yX3_height cX3_height 2 (some .int) ∈ TBL := TBL_t (tin2 (List.mem_of_getElem? (i := 5) (by decide +kernel))) (by decide +kernel)
theorem w_2_3 : Cond.instanceMethod yX3_height ∈ TBL := TBL_t (tin2 (List.mem_of_getElem? (i := 3) (by decide +kernel))) (by decide +kernel)
theorem w_1_3 : Cond.initialized RX3 ∈ TBL := TBL_t (tin1 (List.mem_of_getElem? (i := 3) (by decide +kernel))) (by decide +kernel)
theorem w_2_174 : Cond.selects yX3_tiltAt.cls yX3_tiltAt yX3_tiltAt ∈ TBL := TBL_t (tin2 (List.mem_of_getElem? (i := 174) (by decide +kernel))) (by decide +kernel)
theorem w_2_175 : Cond.code yX3_tiltAt cX3_tiltAt 3 (some .int) ∈ TBL := TBL_t (tin2 (List.mem_of_getElem? (i := 175) (by decide +kernel))) (by decide +kernel)
theorem w_2_173 : Cond.instanceMethod yX3_tiltAt ∈ TBL := TBL_t (tin2 (List.mem_of_getElem? (i := 173) (by decide +kernel))) (by decide +kernel)
theorem w_2_167 : Cond.selects yX3_kindAt.cls yX3_kindAt yX3_kindAt ∈ TBL := TBL_t (tin2 (List.mem_of_getElem? (i := 167) (by decide +kernel))) (by decide +kernel)
theorem w_2_168 : Cond.code yX3_kindAt cX3_kindAt 3 (some .int) ∈ TBL := TBL_t (tin2 (List.mem_of_getElem? (i := 168) (by decide +kernel))) (by decide +kernel)
theorem w_2_166 : Cond.instanceMethod yX3_kindAt ∈ TBL := TBL_t (tin2 (List.mem_of_getElem? (i := 166) (by decide +kernel))) (by decide +kernel)
theorem w_2_171 : Cond.code yX4_heavy cX4_heavy 1 (some .int) ∈ TBL := TBL_t (tin2 (List.mem_of_getElem? (i := 171) (by decide +kernel))) (by decide +kernel)
theorem w_2_170 : Cond.static yX4_heavy ∈ TBL := TBL_t (tin2 (List.mem_of_getElem? (i := 170) (by decide +kernel))) (by decide +kernel)
theorem w_1_12 : Cond.initialized RX4 ∈ TBL := TBL_t (tin1 (List.mem_of_getElem? (i := 12) (by decide +kernel))) (by decide +kernel)
theorem w_3_47 : Cond.selects yX3_loadOn.cls yX3_loadOn yX3_loadOn ∈ TBL := TBL_t (tin3 (List.mem_of_getElem? (i := 47) (by decide +kernel))) (by decide +kernel)
theorem w_3_48 : Cond.code yX3_loadOn cX3_loadOn 5 (some .int) ∈ TBL := TBL_t (tin3 (List.mem_of_getElem? (i := 48) (by decide +kernel))) (by decide +kernel)
theorem w_3_46 : Cond.instanceMethod yX3_loadOn ∈ TBL := TBL_t (tin3 (List.mem_of_getElem? (i := 46) (by decide +kernel))) (by decide +kernel)
theorem w_2_178 : Cond.code yX4_stands cX4_stands 5 (some .boolean) ∈ TBL := TBL_t (tin2 (List.mem_of_getElem? (i := 178) (by decide +kernel))) (by decide +kernel)
theorem w_2_177 : Cond.static yX4_stands ∈ TBL := TBL_t (tin2 (List.mem_of_getElem? (i := 177) (by decide +kernel))) (by decide +kernel)
theorem w_2_163 : Cond.selects yX3_standing.cls yX3_standing yX3_standing ∈ TBL := TBL_t (tin2 (List.mem_of_getElem? (i := 163) (by decide +kernel))) (by decide +kernel)
theorem w_2_164 : Cond.code yX3_standing cX3_standing 8 (some .int) ∈ TBL := TBL_t (tin2 (List.mem_of_getElem? (i := 164) (by decide +kernel))) (by decide +kernel)
theorem w_2_162 : Cond.instanceMethod yX3_standing ∈ TBL := TBL_t (tin2 (List.mem_of_getElem? (i := 162) (by decide +kernel))) (by decide +kernel)
theorem B_X2_at : cS yX2_at cX2_at 2 (some .int) 2 := ⟨w_2_8, w_2_7, w_1_7, by decide +kernel⟩
theorem B_X2_put : cS yX2_put cX2_put 3 none 3 := ⟨w_2_31, w_2_30, w_1_7, by decide +kernel⟩
theorem B_X2_empty : cS yX2_empty cX2_empty 2 none 1 := ⟨w_2_15, w_2_14, w_1_7, by decide +kernel⟩
theorem B_X3_height : cV yX3_height cX3_height 2 (some .int) 1 := ⟨w_2_5, w_2_3, w_2_4, w_1_3, by decide +kernel⟩
theorem B_X3_tiltAt : cV yX3_tiltAt cX3_tiltAt 3 (some .int) 2 := ⟨w_2_175, w_2_173, w_2_174, w_1_3, by decide +kernel⟩
theorem B_X3_kindAt : cV yX3_kindAt cX3_kindAt 3 (some .int) 2 := ⟨w_2_168, w_2_166, w_2_167, w_1_3, by decide +kernel⟩
theorem B_X4_heavy : cS yX4_heavy cX4_heavy 1 (some .int) 1 := ⟨w_2_171, w_2_170, w_1_12, by decide +kernel⟩
theorem B_X3_loadOn : cV yX3_loadOn cX3_loadOn 5 (some .int) 2 := ⟨w_3_48, w_3_46, w_3_47, w_1_3, by decide +kernel⟩
theorem B_X4_stands : cS yX4_stands cX4_stands 5 (some .boolean) 4 := ⟨w_2_178, w_2_177, w_1_12, by decide +kernel⟩
theorem B_X3_standing : cV yX3_standing cX3_standing 8 (some .int) 2 := ⟨w_2_164, w_2_162, w_2_163, w_1_3, by decide +kernel⟩
theorem dX2_add_0 : decode cX2_add 0 = .ok (.aload_n 0, 1) := by decide +kernel
theorem dX2_add_1 : decode cX2_add 1 = .ok (.iload_n 1, 1) := by decide +kernel
theorem dX2_add_2 : decode cX2_add 2 = .ok (.aload_n 0, 1) := by decide +kernel
theorem dX2_add_3 : decode cX2_add 3 = .ok (.iload_n 1, 1) := by decide +kernel
theorem dX2_add_4 : decode cX2_add 4 = .ok (.invokestatic 7, 3) := by decide +kernel
theorem dX2_add_7 : decode cX2_add 7 = .ok (.iload_n 2, 1) := by decide +kernel
theorem dX2_add_8 : decode cX2_add 8 = .ok (.iadd, 1) := by decide +kernel
theorem dX2_add_9 : decode cX2_add 9 = .ok (.invokestatic 13, 3) := by decide +kernel
theorem dX2_add_12 : decode cX2_add 12 = .ok (.return_, 1) := by decide +kernel
theorem dX2_empty_0 : decode cX2_empty 0 = .ok (.aload_n 0, 1) := by decide +kernel
theorem dX2_empty_1 : decode cX2_empty 1 = .ok (.ifnull 21, 3) := by decide +kernel
theorem dX2_empty_4 : decode cX2_empty 4 = .ok (.iconst 0, 1) := by decide +kernel
theorem dX2_empty_5 : decode cX2_empty 5 = .ok (.istore_n 1, 1) := by decide +kernel
theorem dX2_empty_6 : decode cX2_empty 6 = .ok (.iload_n 1, 1) := by decide +kernel
theorem dX2_empty_7 : decode cX2_empty 7 = .ok (.aload_n 0, 1) := by decide +kernel
theorem dX2_empty_8 : decode cX2_empty 8 = .ok (.arraylength, 1) := by decide +kernel
theorem dX2_empty_9 : decode cX2_empty 9 = .ok (.if_icmp .ge 13, 3) := by decide +kernel
theorem dX2_empty_12 : decode cX2_empty 12 = .ok (.aload_n 0, 1) := by decide +kernel
theorem dX2_empty_13 : decode cX2_empty 13 = .ok (.iload_n 1, 1) := by decide +kernel
theorem dX2_empty_14 : decode cX2_empty 14 = .ok (.iconst 0, 1) := by decide +kernel
theorem dX2_empty_15 : decode cX2_empty 15 = .ok (.iastore, 1) := by decide +kernel
theorem dX2_empty_16 : decode cX2_empty 16 = .ok (.iinc 1 1, 3) := by decide +kernel
theorem dX2_empty_19 : decode cX2_empty 19 = .ok (.goto (-13), 3) := by decide +kernel
theorem dX2_empty_22 : decode cX2_empty 22 = .ok (.return_, 1) := by decide +kernel
theorem dX2_digested_0 : decode cX2_digested 0 = .ok (.lload_n 0, 1) := by decide +kernel
theorem dX2_digested_1 : decode cX2_digested 1 = .ok (.lstore 4, 2) := by decide +kernel
theorem dX2_digested_3 : decode cX2_digested 3 = .ok (.iconst 0, 1) := by decide +kernel
theorem dX2_digested_4 : decode cX2_digested 4 = .ok (.istore 6, 2) := by decide +kernel
theorem dX2_digested_6 : decode cX2_digested 6 = .ok (.iload 6, 2) := by decide +kernel
theorem dX2_digested_8 : decode cX2_digested 8 = .ok (.iload_n 3, 1) := by decide +kernel
theorem dX2_digested_9 : decode cX2_digested 9 = .ok (.if_icmp .ge 25, 3) := by decide +kernel
theorem dX2_digested_12 : decode cX2_digested 12 = .ok (.ldc2_w 29, 3) := by decide +kernel
theorem dX2_digested_15 : decode cX2_digested 15 = .ok (.lload 4, 2) := by decide +kernel
theorem dX2_digested_17 : decode cX2_digested 17 = .ok (.lmul, 1) := by decide +kernel
theorem dX2_digested_18 : decode cX2_digested 18 = .ok (.aload_n 2, 1) := by decide +kernel
theorem dX2_digested_19 : decode cX2_digested 19 = .ok (.iload 6, 2) := by decide +kernel
theorem dX2_digested_21 : decode cX2_digested 21 = .ok (.invokestatic 7, 3) := by decide +kernel
theorem dX2_digested_24 : decode cX2_digested 24 = .ok (.i2l, 1) := by decide +kernel
theorem dX2_digested_25 : decode cX2_digested 25 = .ok (.ladd, 1) := by decide +kernel
theorem dX2_digested_26 : decode cX2_digested 26 = .ok (.lstore 4, 2) := by decide +kernel
theorem dX2_digested_28 : decode cX2_digested 28 = .ok (.iinc 6 1, 3) := by decide +kernel
theorem dX2_digested_31 : decode cX2_digested 31 = .ok (.goto (-25), 3) := by decide +kernel
theorem dX2_digested_34 : decode cX2_digested 34 = .ok (.lload 4, 2) := by decide +kernel
theorem dX2_digested_36 : decode cX2_digested 36 = .ok (.lreturn, 1) := by decide +kernel
theorem dX3_empty_0 : decode cX3_empty 0 = .ok (.aload_n 0, 1) := by decide +kernel
theorem dX3_empty_1 : decode cX3_empty 1 = .ok (.iconst 0, 1) := by decide +kernel
theorem dX3_empty_2 : decode cX3_empty 2 = .ok (.putfield 21, 3) := by decide +kernel
theorem dX3_empty_5 : decode cX3_empty 5 = .ok (.aload_n 0, 1) := by decide +kernel
theorem dX3_empty_6 : decode cX3_empty 6 = .ok (.iconst 0, 1) := by decide +kernel
theorem dX3_empty_7 : decode cX3_empty 7 = .ok (.putfield 25, 3) := by decide +kernel
theorem dX3_empty_10 : decode cX3_empty 10 = .ok (.aload_n 0, 1) := by decide +kernel
theorem dX3_empty_11 : decode cX3_empty 11 = .ok (.getfield 9, 3) := by decide +kernel
theorem dX3_empty_14 : decode cX3_empty 14 = .ok (.invokestatic 34, 3) := by decide +kernel
theorem dX3_empty_17 : decode cX3_empty 17 = .ok (.return_, 1) := by decide +kernel
theorem dX3_height_0 : decode cX3_height 0 = .ok (.aload_n 0, 1) := by decide +kernel
theorem dX3_height_1 : decode cX3_height 1 = .ok (.getfield 9, 3) := by decide +kernel
theorem dX3_height_4 : decode cX3_height 4 = .ok (.iload_n 1, 1) := by decide +kernel
theorem dX3_height_5 : decode cX3_height 5 = .ok (.invokestatic 38, 3) := by decide +kernel
theorem dX3_height_8 : decode cX3_height 8 = .ok (.ireturn, 1) := by decide +kernel
theorem dX3_kindAt_0 : decode cX3_kindAt 0 = .ok (.aload_n 0, 1) := by decide +kernel
theorem dX3_kindAt_1 : decode cX3_kindAt 1 = .ok (.getfield 15, 3) := by decide +kernel
theorem dX3_kindAt_4 : decode cX3_kindAt 4 = .ok (.iload_n 1, 1) := by decide +kernel
theorem dX3_kindAt_5 : decode cX3_kindAt 5 = .ok (.iconst 5, 1) := by decide +kernel
theorem dX3_kindAt_6 : decode cX3_kindAt 6 = .ok (.imul, 1) := by decide +kernel
theorem dX3_kindAt_7 : decode cX3_kindAt 7 = .ok (.iload_n 2, 1) := by decide +kernel
theorem dX3_kindAt_8 : decode cX3_kindAt 8 = .ok (.iadd, 1) := by decide +kernel
theorem dX3_kindAt_9 : decode cX3_kindAt 9 = .ok (.invokestatic 38, 3) := by decide +kernel
theorem dX3_kindAt_12 : decode cX3_kindAt 12 = .ok (.ireturn, 1) := by decide +kernel
theorem dX3_tiltAt_0 : decode cX3_tiltAt 0 = .ok (.aload_n 0, 1) := by decide +kernel
theorem dX3_tiltAt_1 : decode cX3_tiltAt 1 = .ok (.getfield 18, 3) := by decide +kernel
theorem dX3_tiltAt_4 : decode cX3_tiltAt 4 = .ok (.iload_n 1, 1) := by decide +kernel
theorem dX3_tiltAt_5 : decode cX3_tiltAt 5 = .ok (.iconst 5, 1) := by decide +kernel
theorem dX3_tiltAt_6 : decode cX3_tiltAt 6 = .ok (.imul, 1) := by decide +kernel
theorem dX3_tiltAt_7 : decode cX3_tiltAt 7 = .ok (.iload_n 2, 1) := by decide +kernel
theorem dX3_tiltAt_8 : decode cX3_tiltAt 8 = .ok (.iadd, 1) := by decide +kernel
theorem dX3_tiltAt_9 : decode cX3_tiltAt 9 = .ok (.invokestatic 38, 3) := by decide +kernel
theorem dX3_tiltAt_12 : decode cX3_tiltAt 12 = .ok (.ireturn, 1) := by decide +kernel
theorem dX3_top_0 : decode cX3_top 0 = .ok (.aload_n 0, 1) := by decide +kernel
theorem dX3_top_1 : decode cX3_top 1 = .ok (.iload_n 1, 1) := by decide +kernel
theorem dX3_top_2 : decode cX3_top 2 = .ok (.invokevirtual 42, 3) := by decide +kernel
theorem dX3_top_5 : decode cX3_top 5 = .ok (.istore_n 2, 1) := by decide +kernel
theorem dX3_top_6 : decode cX3_top 6 = .ok (.iload_n 2, 1) := by decide +kernel
theorem dX3_top_7 : decode cX3_top 7 = .ok (.ifCond .le 14, 3) := by decide +kernel
theorem dX3_top_10 : decode cX3_top 10 = .ok (.aload_n 0, 1) := by decide +kernel
theorem dX3_top_11 : decode cX3_top 11 = .ok (.iload_n 1, 1) := by decide +kernel
theorem dX3_top_12 : decode cX3_top 12 = .ok (.iload_n 2, 1) := by decide +kernel
theorem dX3_top_13 : decode cX3_top 13 = .ok (.iconst 1, 1) := by decide +kernel
theorem dX3_top_14 : decode cX3_top 14 = .ok (.isub, 1) := by decide +kernel
theorem dX3_top_15 : decode cX3_top 15 = .ok (.invokevirtual 46, 3) := by decide +kernel
theorem dX3_top_18 : decode cX3_top 18 = .ok (.goto 4, 3) := by decide +kernel
theorem dX3_top_21 : decode cX3_top 21 = .ok (.iconst 0, 1) := by decide +kernel
theorem dX3_top_22 : decode cX3_top 22 = .ok (.ireturn, 1) := by decide +kernel
theorem dX3_loadOn_0 : decode cX3_loadOn 0 = .ok (.iconst 0, 1) := by decide +kernel
theorem dX3_loadOn_1 : decode cX3_loadOn 1 = .ok (.istore_n 3, 1) := by decide +kernel
theorem dX3_loadOn_2 : decode cX3_loadOn 2 = .ok (.iload_n 2, 1) := by decide +kernel
theorem dX3_loadOn_3 : decode cX3_loadOn 3 = .ok (.iconst 1, 1) := by decide +kernel
theorem dX3_loadOn_4 : decode cX3_loadOn 4 = .ok (.iadd, 1) := by decide +kernel
theorem dX3_loadOn_5 : decode cX3_loadOn 5 = .ok (.istore 4, 2) := by decide +kernel
theorem dX3_loadOn_7 : decode cX3_loadOn 7 = .ok (.iload 4, 2) := by decide +kernel
theorem dX3_loadOn_9 : decode cX3_loadOn 9 = .ok (.aload_n 0, 1) := by decide +kernel
theorem dX3_loadOn_10 : decode cX3_loadOn 10 = .ok (.iload_n 1, 1) := by decide +kernel
theorem dX3_loadOn_11 : decode cX3_loadOn 11 = .ok (.invokevirtual 42, 3) := by decide +kernel
theorem dX3_loadOn_14 : decode cX3_loadOn 14 = .ok (.if_icmp .ge 22, 3) := by decide +kernel
theorem dX3_loadOn_17 : decode cX3_loadOn 17 = .ok (.iload_n 3, 1) := by decide +kernel
theorem dX3_loadOn_18 : decode cX3_loadOn 18 = .ok (.aload_n 0, 1) := by decide +kernel
theorem dX3_loadOn_19 : decode cX3_loadOn 19 = .ok (.iload_n 1, 1) := by decide +kernel
theorem dX3_loadOn_20 : decode cX3_loadOn 20 = .ok (.iload 4, 2) := by decide +kernel
theorem dX3_loadOn_22 : decode cX3_loadOn 22 = .ok (.invokevirtual 53, 3) := by decide +kernel
theorem dX3_loadOn_25 : decode cX3_loadOn 25 = .ok (.invokestatic 56, 3) := by decide +kernel
theorem dX3_loadOn_28 : decode cX3_loadOn 28 = .ok (.iadd, 1) := by decide +kernel
theorem dX3_loadOn_29 : decode cX3_loadOn 29 = .ok (.istore_n 3, 1) := by decide +kernel
theorem dX3_loadOn_30 : decode cX3_loadOn 30 = .ok (.iinc 4 1, 3) := by decide +kernel
theorem dX3_loadOn_33 : decode cX3_loadOn 33 = .ok (.goto (-26), 3) := by decide +kernel
theorem dX3_loadOn_36 : decode cX3_loadOn 36 = .ok (.iload_n 3, 1) := by decide +kernel
theorem dX3_loadOn_37 : decode cX3_loadOn 37 = .ok (.ireturn, 1) := by decide +kernel
theorem dX3_weight_0 : decode cX3_weight 0 = .ok (.aload_n 0, 1) := by decide +kernel
theorem dX3_weight_1 : decode cX3_weight 1 = .ok (.iload_n 1, 1) := by decide +kernel
theorem dX3_weight_2 : decode cX3_weight 2 = .ok (.iconst (-1), 1) := by decide +kernel
theorem dX3_weight_3 : decode cX3_weight 3 = .ok (.invokevirtual 50, 3) := by decide +kernel
theorem dX3_weight_6 : decode cX3_weight 6 = .ok (.ireturn, 1) := by decide +kernel
theorem dX3_storeys_0 : decode cX3_storeys 0 = .ok (.iconst 0, 1) := by decide +kernel
theorem dX3_storeys_1 : decode cX3_storeys 1 = .ok (.istore_n 1, 1) := by decide +kernel
theorem dX3_storeys_2 : decode cX3_storeys 2 = .ok (.iconst 0, 1) := by decide +kernel
theorem dX3_storeys_3 : decode cX3_storeys 3 = .ok (.istore_n 2, 1) := by decide +kernel
theorem dX3_storeys_4 : decode cX3_storeys 4 = .ok (.iload_n 2, 1) := by decide +kernel
theorem dX3_storeys_5 : decode cX3_storeys 5 = .ok (.bipush 6, 2) := by decide +kernel
theorem dX3_storeys_7 : decode cX3_storeys 7 = .ok (.if_icmp .ge 17, 3) := by decide +kernel
theorem dX3_storeys_10 : decode cX3_storeys 10 = .ok (.iload_n 1, 1) := by decide +kernel
theorem dX3_storeys_11 : decode cX3_storeys 11 = .ok (.aload_n 0, 1) := by decide +kernel
theorem dX3_storeys_12 : decode cX3_storeys 12 = .ok (.iload_n 2, 1) := by decide +kernel
theorem dX3_storeys_13 : decode cX3_storeys 13 = .ok (.invokevirtual 42, 3) := by decide +kernel
theorem dX3_storeys_16 : decode cX3_storeys 16 = .ok (.iadd, 1) := by decide +kernel
theorem dX3_storeys_17 : decode cX3_storeys 17 = .ok (.istore_n 1, 1) := by decide +kernel
theorem dX3_storeys_18 : decode cX3_storeys 18 = .ok (.iinc 2 1, 3) := by decide +kernel
theorem dX3_storeys_21 : decode cX3_storeys 21 = .ok (.goto (-17), 3) := by decide +kernel
theorem dX3_storeys_24 : decode cX3_storeys 24 = .ok (.iload_n 1, 1) := by decide +kernel
theorem dX3_storeys_25 : decode cX3_storeys 25 = .ok (.ireturn, 1) := by decide +kernel
theorem dX3_standing_0 : decode cX3_standing 0 = .ok (.iconst 0, 1) := by decide +kernel
theorem dX3_standing_1 : decode cX3_standing 1 = .ok (.istore_n 3, 1) := by decide +kernel
theorem dX3_standing_2 : decode cX3_standing 2 = .ok (.iconst 0, 1) := by decide +kernel
theorem dX3_standing_3 : decode cX3_standing 3 = .ok (.istore 4, 2) := by decide +kernel
theorem dX3_standing_5 : decode cX3_standing 5 = .ok (.iload 4, 2) := by decide +kernel
theorem dX3_standing_7 : decode cX3_standing 7 = .ok (.iload_n 2, 1) := by decide +kernel
theorem dX3_standing_8 : decode cX3_standing 8 = .ok (.if_icmp .ge 22, 3) := by decide +kernel
theorem dX3_standing_11 : decode cX3_standing 11 = .ok (.iload_n 3, 1) := by decide +kernel
theorem dX3_standing_12 : decode cX3_standing 12 = .ok (.aload_n 0, 1) := by decide +kernel
theorem dX3_standing_13 : decode cX3_standing 13 = .ok (.iload_n 1, 1) := by decide +kernel
theorem dX3_standing_14 : decode cX3_standing 14 = .ok (.iload 4, 2) := by decide +kernel
theorem dX3_standing_16 : decode cX3_standing 16 = .ok (.invokevirtual 53, 3) := by decide +kernel
theorem dX3_standing_19 : decode cX3_standing 19 = .ok (.invokestatic 56, 3) := by decide +kernel
theorem dX3_standing_22 : decode cX3_standing 22 = .ok (.iadd, 1) := by decide +kernel
theorem dX3_standing_23 : decode cX3_standing 23 = .ok (.istore_n 3, 1) := by decide +kernel
theorem dX3_standing_24 : decode cX3_standing 24 = .ok (.iinc 4 1, 3) := by decide +kernel
theorem dX3_standing_27 : decode cX3_standing 27 = .ok (.goto (-22), 3) := by decide +kernel
theorem dX3_standing_30 : decode cX3_standing 30 = .ok (.iconst 0, 1) := by decide +kernel
theorem dX3_standing_31 : decode cX3_standing 31 = .ok (.istore 4, 2) := by decide +kernel
theorem dX3_standing_33 : decode cX3_standing 33 = .ok (.iconst 0, 1) := by decide +kernel
theorem dX3_standing_34 : decode cX3_standing 34 = .ok (.istore 5, 2) := by decide +kernel
theorem dX3_standing_36 : decode cX3_standing 36 = .ok (.iload 5, 2) := by decide +kernel
theorem dX3_standing_38 : decode cX3_standing 38 = .ok (.iload_n 2, 1) := by decide +kernel
theorem dX3_standing_39 : decode cX3_standing 39 = .ok (.if_icmp .ge 55, 3) := by decide +kernel
theorem dX3_standing_42 : decode cX3_standing 42 = .ok (.aload_n 0, 1) := by decide +kernel
theorem dX3_standing_43 : decode cX3_standing 43 = .ok (.iload_n 1, 1) := by decide +kernel
theorem dX3_standing_44 : decode cX3_standing 44 = .ok (.iload 5, 2) := by decide +kernel
theorem dX3_standing_46 : decode cX3_standing 46 = .ok (.invokevirtual 53, 3) := by decide +kernel
theorem dX3_standing_49 : decode cX3_standing 49 = .ok (.istore 6, 2) := by decide +kernel
theorem dX3_standing_51 : decode cX3_standing 51 = .ok (.aload_n 0, 1) := by decide +kernel
theorem dX3_standing_52 : decode cX3_standing 52 = .ok (.iload_n 1, 1) := by decide +kernel
theorem dX3_standing_53 : decode cX3_standing 53 = .ok (.iload 5, 2) := by decide +kernel
theorem dX3_standing_55 : decode cX3_standing 55 = .ok (.invokevirtual 46, 3) := by decide +kernel
theorem dX3_standing_58 : decode cX3_standing 58 = .ok (.istore 7, 2) := by decide +kernel
theorem dX3_standing_60 : decode cX3_standing 60 = .ok (.iload_n 3, 1) := by decide +kernel
theorem dX3_standing_61 : decode cX3_standing 61 = .ok (.iload 6, 2) := by decide +kernel
theorem dX3_standing_63 : decode cX3_standing 63 = .ok (.invokestatic 56, 3) := by decide +kernel
theorem dX3_standing_66 : decode cX3_standing 66 = .ok (.isub, 1) := by decide +kernel
theorem dX3_standing_67 : decode cX3_standing 67 = .ok (.istore_n 3, 1) := by decide +kernel
theorem dX3_standing_68 : decode cX3_standing 68 = .ok (.iload 6, 2) := by decide +kernel
theorem dX3_standing_70 : decode cX3_standing 70 = .ok (.iload 7, 2) := by decide +kernel
theorem dX3_standing_72 : decode cX3_standing 72 = .ok (.iload 4, 2) := by decide +kernel
theorem dX3_standing_74 : decode cX3_standing 74 = .ok (.iload_n 3, 1) := by decide +kernel
theorem dX3_standing_75 : decode cX3_standing 75 = .ok (.invokestatic 68, 3) := by decide +kernel
theorem dX3_standing_78 : decode cX3_standing 78 = .ok (.ifCond .ne 6, 3) := by decide +kernel
theorem dX3_standing_81 : decode cX3_standing 81 = .ok (.iload 5, 2) := by decide +kernel
theorem dX3_standing_83 : decode cX3_standing 83 = .ok (.ireturn, 1) := by decide +kernel
theorem dX3_standing_84 : decode cX3_standing 84 = .ok (.iload 7, 2) := by decide +kernel
theorem dX3_standing_86 : decode cX3_standing 86 = .ok (.istore 4, 2) := by decide +kernel
theorem dX3_standing_88 : decode cX3_standing 88 = .ok (.iinc 5 1, 3) := by decide +kernel
theorem dX3_standing_91 : decode cX3_standing 91 = .ok (.goto (-55), 3) := by decide +kernel
theorem dX3_standing_94 : decode cX3_standing 94 = .ok (.iload_n 2, 1) := by decide +kernel
theorem dX3_standing_95 : decode cX3_standing 95 = .ok (.ireturn, 1) := by decide +kernel
theorem dX3_raise_0 : decode cX3_raise 0 = .ok (.aload_n 0, 1) := by decide +kernel
theorem dX3_raise_1 : decode cX3_raise 1 = .ok (.iload_n 1, 1) := by decide +kernel
theorem dX3_raise_2 : decode cX3_raise 2 = .ok (.invokevirtual 42, 3) := by decide +kernel
theorem dX3_raise_5 : decode cX3_raise 5 = .ok (.istore 4, 2) := by decide +kernel
theorem dX3_raise_7 : decode cX3_raise 7 = .ok (.iload 4, 2) := by decide +kernel
theorem dX3_raise_9 : decode cX3_raise 9 = .ok (.iconst 5, 1) := by decide +kernel
theorem dX3_raise_10 : decode cX3_raise 10 = .ok (.if_icmp .lt 4, 3) := by decide +kernel
theorem dX3_raise_13 : decode cX3_raise 13 = .ok (.return_, 1) := by decide +kernel
theorem dX3_raise_14 : decode cX3_raise 14 = .ok (.aload_n 0, 1) := by decide +kernel
theorem dX3_raise_15 : decode cX3_raise 15 = .ok (.getfield 15, 3) := by decide +kernel
theorem dX3_raise_18 : decode cX3_raise 18 = .ok (.iload_n 1, 1) := by decide +kernel
theorem dX3_raise_19 : decode cX3_raise 19 = .ok (.iconst 5, 1) := by decide +kernel
theorem dX3_raise_20 : decode cX3_raise 20 = .ok (.imul, 1) := by decide +kernel
theorem dX3_raise_21 : decode cX3_raise 21 = .ok (.iload 4, 2) := by decide +kernel
theorem dX3_raise_23 : decode cX3_raise 23 = .ok (.iadd, 1) := by decide +kernel
theorem dX3_raise_24 : decode cX3_raise 24 = .ok (.iload_n 2, 1) := by decide +kernel
theorem dX3_raise_25 : decode cX3_raise 25 = .ok (.invokestatic 61, 3) := by decide +kernel
theorem dX3_raise_28 : decode cX3_raise 28 = .ok (.aload_n 0, 1) := by decide +kernel
theorem dX3_raise_29 : decode cX3_raise 29 = .ok (.getfield 18, 3) := by decide +kernel
theorem dX3_raise_32 : decode cX3_raise 32 = .ok (.iload_n 1, 1) := by decide +kernel
theorem dX3_raise_33 : decode cX3_raise 33 = .ok (.iconst 5, 1) := by decide +kernel
theorem dX3_raise_34 : decode cX3_raise 34 = .ok (.imul, 1) := by decide +kernel
theorem dX3_raise_35 : decode cX3_raise 35 = .ok (.iload 4, 2) := by decide +kernel
theorem dX3_raise_37 : decode cX3_raise 37 = .ok (.iadd, 1) := by decide +kernel
theorem dX3_raise_38 : decode cX3_raise 38 = .ok (.iload_n 3, 1) := by decide +kernel
theorem dX3_raise_39 : decode cX3_raise 39 = .ok (.invokestatic 61, 3) := by decide +kernel
theorem dX3_raise_42 : decode cX3_raise 42 = .ok (.iload 4, 2) := by decide +kernel
theorem dX3_raise_44 : decode cX3_raise 44 = .ok (.iconst 1, 1) := by decide +kernel
theorem dX3_raise_45 : decode cX3_raise 45 = .ok (.iadd, 1) := by decide +kernel
theorem dX3_raise_46 : decode cX3_raise 46 = .ok (.istore 5, 2) := by decide +kernel
theorem dX3_raise_48 : decode cX3_raise 48 = .ok (.aload_n 0, 1) := by decide +kernel
theorem dX3_raise_49 : decode cX3_raise 49 = .ok (.iload_n 1, 1) := by decide +kernel
theorem dX3_raise_50 : decode cX3_raise 50 = .ok (.iload 5, 2) := by decide +kernel
theorem dX3_raise_52 : decode cX3_raise 52 = .ok (.invokevirtual 65, 3) := by decide +kernel
theorem dX3_raise_55 : decode cX3_raise 55 = .ok (.istore 6, 2) := by decide +kernel
theorem dX3_raise_57 : decode cX3_raise 57 = .ok (.iconst 0, 1) := by decide +kernel
theorem dX3_raise_58 : decode cX3_raise 58 = .ok (.istore 7, 2) := by decide +kernel
theorem dX3_raise_60 : decode cX3_raise 60 = .ok (.iload 7, 2) := by decide +kernel
theorem dX3_raise_62 : decode cX3_raise 62 = .ok (.iconst 5, 1) := by decide +kernel
theorem dX3_raise_63 : decode cX3_raise 63 = .ok (.if_icmp .ge 29, 3) := by decide +kernel
theorem dX3_raise_66 : decode cX3_raise 66 = .ok (.iload 6, 2) := by decide +kernel
theorem dX3_raise_68 : decode cX3_raise 68 = .ok (.iload 5, 2) := by decide +kernel
theorem dX3_raise_70 : decode cX3_raise 70 = .ok (.if_icmp .ge 22, 3) := by decide +kernel
theorem dX3_raise_73 : decode cX3_raise 73 = .ok (.iload 6, 2) := by decide +kernel
theorem dX3_raise_75 : decode cX3_raise 75 = .ok (.istore 5, 2) := by decide +kernel
theorem dX3_raise_77 : decode cX3_raise 77 = .ok (.aload_n 0, 1) := by decide +kernel
theorem dX3_raise_78 : decode cX3_raise 78 = .ok (.iload_n 1, 1) := by decide +kernel
theorem dX3_raise_79 : decode cX3_raise 79 = .ok (.iload 5, 2) := by decide +kernel
theorem dX3_raise_81 : decode cX3_raise 81 = .ok (.invokevirtual 65, 3) := by decide +kernel
theorem dX3_raise_84 : decode cX3_raise 84 = .ok (.istore 6, 2) := by decide +kernel
theorem dX3_raise_86 : decode cX3_raise 86 = .ok (.iinc 7 1, 3) := by decide +kernel
theorem dX3_raise_89 : decode cX3_raise 89 = .ok (.goto (-29), 3) := by decide +kernel
theorem dX3_raise_92 : decode cX3_raise 92 = .ok (.aload_n 0, 1) := by decide +kernel
theorem dX3_raise_93 : decode cX3_raise 93 = .ok (.getfield 9, 3) := by decide +kernel
theorem dX3_raise_96 : decode cX3_raise 96 = .ok (.iload_n 1, 1) := by decide +kernel
theorem dX3_raise_97 : decode cX3_raise 97 = .ok (.iload 5, 2) := by decide +kernel
theorem dX3_raise_99 : decode cX3_raise 99 = .ok (.invokestatic 61, 3) := by decide +kernel
theorem dX3_raise_102 : decode cX3_raise 102 = .ok (.return_, 1) := by decide +kernel
theorem dX3_digested_0 : decode cX3_digested 0 = .ok (.lload_n 1, 1) := by decide +kernel
theorem dX3_digested_1 : decode cX3_digested 1 = .ok (.lstore_n 3, 1) := by decide +kernel
theorem dX3_digested_2 : decode cX3_digested 2 = .ok (.iconst 0, 1) := by decide +kernel
theorem dX3_digested_3 : decode cX3_digested 3 = .ok (.istore 5, 2) := by decide +kernel
theorem dX3_digested_5 : decode cX3_digested 5 = .ok (.iload 5, 2) := by decide +kernel
theorem dX3_digested_7 : decode cX3_digested 7 = .ok (.bipush 6, 2) := by decide +kernel
theorem dX3_digested_9 : decode cX3_digested 9 = .ok (.if_icmp .ge 75, 3) := by decide +kernel
theorem dX3_digested_12 : decode cX3_digested 12 = .ok (.ldc2_w 72, 3) := by decide +kernel
theorem dX3_digested_15 : decode cX3_digested 15 = .ok (.lload_n 3, 1) := by decide +kernel
theorem dX3_digested_16 : decode cX3_digested 16 = .ok (.lmul, 1) := by decide +kernel
theorem dX3_digested_17 : decode cX3_digested 17 = .ok (.aload_n 0, 1) := by decide +kernel
theorem dX3_digested_18 : decode cX3_digested 18 = .ok (.iload 5, 2) := by decide +kernel
theorem dX3_digested_20 : decode cX3_digested 20 = .ok (.invokevirtual 42, 3) := by decide +kernel
theorem dX3_digested_23 : decode cX3_digested 23 = .ok (.i2l, 1) := by decide +kernel
theorem dX3_digested_24 : decode cX3_digested 24 = .ok (.ladd, 1) := by decide +kernel
theorem dX3_digested_25 : decode cX3_digested 25 = .ok (.lstore_n 3, 1) := by decide +kernel
theorem dX3_digested_26 : decode cX3_digested 26 = .ok (.iconst 0, 1) := by decide +kernel
theorem dX3_digested_27 : decode cX3_digested 27 = .ok (.istore 6, 2) := by decide +kernel
theorem dX3_digested_29 : decode cX3_digested 29 = .ok (.iload 6, 2) := by decide +kernel
theorem dX3_digested_31 : decode cX3_digested 31 = .ok (.aload_n 0, 1) := by decide +kernel
theorem dX3_digested_32 : decode cX3_digested 32 = .ok (.iload 5, 2) := by decide +kernel
theorem dX3_digested_34 : decode cX3_digested 34 = .ok (.invokevirtual 42, 3) := by decide +kernel
theorem dX3_digested_37 : decode cX3_digested 37 = .ok (.if_icmp .ge 41, 3) := by decide +kernel
theorem dX3_digested_40 : decode cX3_digested 40 = .ok (.ldc2_w 72, 3) := by decide +kernel
theorem dX3_digested_43 : decode cX3_digested 43 = .ok (.lload_n 3, 1) := by decide +kernel
theorem dX3_digested_44 : decode cX3_digested 44 = .ok (.lmul, 1) := by decide +kernel
theorem dX3_digested_45 : decode cX3_digested 45 = .ok (.aload_n 0, 1) := by decide +kernel
theorem dX3_digested_46 : decode cX3_digested 46 = .ok (.iload 5, 2) := by decide +kernel
theorem dX3_digested_48 : decode cX3_digested 48 = .ok (.iload 6, 2) := by decide +kernel
theorem dX3_digested_50 : decode cX3_digested 50 = .ok (.invokevirtual 53, 3) := by decide +kernel
theorem dX3_digested_53 : decode cX3_digested 53 = .ok (.i2l, 1) := by decide +kernel
theorem dX3_digested_54 : decode cX3_digested 54 = .ok (.ladd, 1) := by decide +kernel
theorem dX3_digested_55 : decode cX3_digested 55 = .ok (.lstore_n 3, 1) := by decide +kernel
theorem dX3_digested_56 : decode cX3_digested 56 = .ok (.ldc2_w 72, 3) := by decide +kernel
theorem dX3_digested_59 : decode cX3_digested 59 = .ok (.lload_n 3, 1) := by decide +kernel
theorem dX3_digested_60 : decode cX3_digested 60 = .ok (.lmul, 1) := by decide +kernel
theorem dX3_digested_61 : decode cX3_digested 61 = .ok (.aload_n 0, 1) := by decide +kernel
theorem dX3_digested_62 : decode cX3_digested 62 = .ok (.iload 5, 2) := by decide +kernel
theorem dX3_digested_64 : decode cX3_digested 64 = .ok (.iload 6, 2) := by decide +kernel
theorem dX3_digested_66 : decode cX3_digested 66 = .ok (.invokevirtual 46, 3) := by decide +kernel
theorem dX3_digested_69 : decode cX3_digested 69 = .ok (.i2l, 1) := by decide +kernel
theorem dX3_digested_70 : decode cX3_digested 70 = .ok (.ladd, 1) := by decide +kernel
theorem dX3_digested_71 : decode cX3_digested 71 = .ok (.lstore_n 3, 1) := by decide +kernel
theorem dX3_digested_72 : decode cX3_digested 72 = .ok (.iinc 6 1, 3) := by decide +kernel
theorem dX3_digested_75 : decode cX3_digested 75 = .ok (.goto (-46), 3) := by decide +kernel
theorem dX3_digested_78 : decode cX3_digested 78 = .ok (.iinc 5 1, 3) := by decide +kernel
theorem dX3_digested_81 : decode cX3_digested 81 = .ok (.goto (-76), 3) := by decide +kernel
theorem dX3_digested_84 : decode cX3_digested 84 = .ok (.lload_n 3, 1) := by decide +kernel
theorem dX3_digested_85 : decode cX3_digested 85 = .ok (.lreturn, 1) := by decide +kernel
def sp_X2_add (n0 : Nat) (p1 : Int32) (p2 : Int32) (fa0 : Nat → Int32) : (Nat → Int32) := lt_ (sp_X2_put n0 p1 ((sp_X2_at n0 p1 fa0) + p2) fa0) fun z1 => z1
set_option maxHeartbeats 4000000 in
set_option maxRecDepth 100000 in
theorem c_X2_add (l : Launch) (E : wE) (a0 : Nat) (n0 : Nat) (hnn0 : n0 < 2 ^ 31) (p1 : Int32) (p2 : Int32) (fa0 : Nat → Int32) (z : (Nat → Int32)) (hsp : sp_X2_add n0 p1 p2 fa0 = z) : MW l yX2_add cX2_add 3 none 1 E [.ref a0, .int p1, .int p2] [(a0, aI E n0 fa0)] none [(a0, aI E n0 z)] := by
  refine MW.of (by decide +kernel) (Nat.le_of_ble_eq_true rfl) ?_
  intro p e s m below meth c ls A hX hK hP hD hS hA hl
  have hX : CX p s m [.ref a0, .int p1, .int p2].toArray meth c cX2_add 3 none RX2 := hX
  have hx := hX.1; have hb := hX.2.1; have hts := hX.2.2.2.2.1; have hown := hX.2.2.2.2.2.1
  have hl : lv_has ls 3 [(0, .ref a0), (1, .int p1), (2, .int p2)] := hl
  have hP : wP E [(a0, aI E n0 fa0)] s.heap := hP
  have hsp : (lt_ (sp_X2_put n0 p1 ((sp_X2_at n0 p1 fa0) + p2) fa0) fun z1 => z1) = z := hsp
  refine lv_aload_n hx hb dX2_add_0 rfl (lv_at hl 0 rfl) (W.pc 1 rfl ?_)
  refine lv_iload_n hx hb dX2_add_1 rfl (lv_at hl 1 rfl) (W.pc 2 rfl ?_)
  refine lv_aload_n hx hb dX2_add_2 rfl (lv_at hl 0 rfl) (W.pc 3 rfl ?_)
  refine lv_iload_n hx hb dX2_add_3 rfl (lv_at hl 1 rfl) (W.pc 4 rfl ?_)
  refine kSR (st1 := [.int (sp_X2_at n0 p1 fa0), .int p1, .ref a0]) hX (c_X2_at l E a0 n0 hnn0 p1 fa0 _ rfl) B_X2_at w_4_3 hK (hP.pick [0] rfl) rfl hl.1 rfl (Nat.le_of_ble_eq_true rfl) ⟨Nat.le_of_ble_eq_true rfl, Nat.le_of_ble_eq_true rfl⟩ dX2_add_4 rfl (W.pc 7 rfl ?_)
  refine lv_iload_n hx hb dX2_add_7 rfl (lv_at hl 2 rfl) (W.pc 8 rfl ?_)
  refine lv_iadd hx hb dX2_add_8 (W.pc 9 rfl ?_)
  obtain ⟨z1, hr_z1, hsp⟩ := ltb_s hsp
  refine kSW (st1 := []) (ws' := [(a0, aI E n0 z1)]) [0] hX (c_X2_put l E a0 n0 hnn0 p1 ((sp_X2_at n0 p1 fa0) + p2) fa0 z1 hr_z1) B_X2_put w_4_4 hK hP hD hS hA (by decide) rfl rfl rfl rfl hl.1 rfl (Nat.le_of_ble_eq_true rfl) ⟨Nat.le_of_ble_eq_true rfl, Nat.le_of_ble_eq_true rfl⟩ dX2_add_9 rfl (fun H locs hP hD hS => W.pc 12 rfl ?_)
  subst hsp
  exact rWv hX hP hS rfl dX2_add_12
noncomputable def lp_X2_empty_6 (n0 : Nat) : Nat → Int32 → ((Nat → Int32)) → Option (Int32 × (Nat → Int32))
 | 0, _, _ => none
 | fu + 1, x1_6, ya0_f_6 => if (Int32.ofNat n0) ≤ x1_6 then (some (x1_6, ya0_f_6)) else (gi x1_6 n0 (lp_X2_empty_6 n0 fu (x1_6 + (1 : Int32)) (upd ya0_f_6 (x1_6).toNatClampNeg (0 : Int32))))
noncomputable def sp_X2_empty (n0 : Nat) (fa0 : Nat → Int32) : Option ((Nat → Int32)) := Option.bind (lp_X2_empty_6 n0 FU (0 : Int32) fa0) fun z1 => some z1.2
set_option maxHeartbeats 4000000 in
set_option maxRecDepth 100000 in
theorem c_X2_empty (l : Launch) (E : wE) (a0 : Nat) (n0 : Nat) (hnn0 : n0 < 2 ^ 31) (fa0 : Nat → Int32) (z : (Nat → Int32)) (hsp : sp_X2_empty n0 fa0 = some z) : MW l yX2_empty cX2_empty 2 none 0 E [.ref a0] [(a0, aI E n0 fa0)] none [(a0, aI E n0 z)] := by
  refine MW.of (by decide +kernel) (Nat.le_of_ble_eq_true rfl) ?_
  intro p e s m below meth c ls A hX hK hP hD hS hA hl
  have hX : CX p s m [.ref a0].toArray meth c cX2_empty 2 none RX2 := hX
  have hx := hX.1; have hb := hX.2.1; have hts := hX.2.2.2.2.1; have hown := hX.2.2.2.2.2.1
  have hl : lv_has ls 2 [(0, .ref a0)] := hl
  have hP : wP E [(a0, aI E n0 fa0)] s.heap := hP
  have hsp : (Option.bind (lp_X2_empty_6 n0 FU (0 : Int32) fa0) fun z1 => some z1.2) = some z := hsp
  refine lv_aload_n hx hb dX2_empty_0 rfl (lv_at hl 0 rfl) (W.pc 1 rfl ?_)
  refine lv_ifnull hx hb dX2_empty_1 (W.pc 4 rfl ?_)
  refine lv_iconst (v := (0 : Int32)) hx hb dX2_empty_4 (by decide) (W.pc 5 rfl ?_)
  refine lv_istore_n (lv' := [(1, .int (0 : Int32)), (0, .ref a0)]) hx hb dX2_empty_5 rfl hl (by decide) rfl (fun ls hl => W.pc 6 rfl ?_)
  have L_6 : ∀ (z1 : Int32 × (Nat → Int32)), (∀ (H : Heap) (locs : List Loc) (ls : Array Slot), wP E [(a0, aI E n0 z1.2)] H → va_D A [(a0, aI E n0 z1.2)] → va_S A s.heap H locs → lv_has ls 2 [] → W p l e (wR 0) s m [.ref a0].toArray below meth c H locs 0 0 (MQ below (QWd E A none [(a0, aI E n0 z)]) [.ref a0].toArray s 0 0 A) (F0 m 22 ls [])) → ∀ (fu : Nat) (x1_6 : Int32) (ya0_f_6 : (Nat → Int32)), ∀ (H : Heap) (locs : List Loc) (ls : Array Slot), wP E [(a0, aI E n0 ya0_f_6)] H → va_D A [(a0, aI E n0 ya0_f_6)] → va_S A s.heap H locs → lv_has ls 2 [(0, .ref a0), (1, .int x1_6)] → lp_X2_empty_6 n0 fu x1_6 ya0_f_6 = some z1 → W p l e (wR 0) s m [.ref a0].toArray below meth c H locs 0 0 (MQ below (QWd E A none [(a0, aI E n0 z)]) [.ref a0].toArray s 0 0 A) (F0 m 6 ls []) := by
    intro z1 hk_6 fu
    induction fu with
    | zero => intro x1_6 ya0_f_6 H locs ls hP hD hS hl hsp; exact absurd (show none = some _ from hsp) (by simp)
    | succ fu ih_6 =>
      intro x1_6 ya0_f_6 H locs ls hP hD hS hl hsp
      have hsp : (if (Int32.ofNat n0) ≤ x1_6 then (some (x1_6, ya0_f_6)) else (gi x1_6 n0 (lp_X2_empty_6 n0 fu (x1_6 + (1 : Int32)) (upd ya0_f_6 (x1_6).toNatClampNeg (0 : Int32))))) = some z1 := hsp
      refine lv_iload_n hx hb dX2_empty_6 rfl (lv_at hl 1 rfl) (W.pc 7 rfl ?_)
      refine lv_aload_n hx hb dX2_empty_7 rfl (lv_at hl 0 rfl) (W.pc 8 rfl ?_)
      refine va_alen hx hb hK hP 0 0 rfl rfl (v := (Int32.ofNat n0)) rfl dX2_empty_8 (W.pc 9 rfl ?_)
      refine lv_icmp_ge (tgt := 22) hx hb dX2_empty_9 (by decide) (fun c2 => ?_) (fun c2 => W.pc 12 rfl ?_)
      · have hsp := ip hsp c2
        obtain rfl := Option.some.inj hsp
        exact hk_6 _ _ _ hP hD hS (lv_sub hl [] rfl)
      · have hsp := iq hsp c2
        refine lv_aload_n hx hb dX2_empty_12 rfl (lv_at hl 0 rfl) (W.pc 13 rfl ?_)
        refine lv_iload_n hx hb dX2_empty_13 rfl (lv_at hl 1 rfl) (W.pc 14 rfl ?_)
        refine lv_iconst (v := (0 : Int32)) hx hb dX2_empty_14 (by decide) (W.pc 15 rfl ?_)
        obtain ⟨h3, hsp⟩ := gi_s hsp
        refine va_iast hx hb hK hP hD hS 0 0 rfl rfl h3 dX2_empty_15 (fun H locs hP hD hS => W.pc 16 rfl ?_)
        have hP : wP E [(a0, aI E n0 (upd ya0_f_6 (x1_6).toNatClampNeg (0 : Int32)))] _ := hP
        have hD : va_D A [(a0, aI E n0 (upd ya0_f_6 (x1_6).toNatClampNeg (0 : Int32)))] := hD
        refine lv_iinc (v := (x1_6 + (1 : Int32))) (lv' := [(1, .int (x1_6 + (1 : Int32))), (0, .ref a0)]) hx hb dX2_empty_16 hl (k := 1) rfl rfl (by decide) rfl (fun ls hl => W.pc 19 rfl ?_)
        refine lv_goto (tgt := 6) hx hb dX2_empty_19 (by decide) ?_
        exact ih_6 (x1_6 + (1 : Int32)) (upd ya0_f_6 (x1_6).toNatClampNeg (0 : Int32)) _ _ _ hP hD hS (lv_sub hl [1, 0] rfl) hsp
  obtain ⟨z1, hr_z1, hsp⟩ := bd_s hsp
  refine L_6 z1 (fun H locs ls hP hD hS hl => ?_) FU (0 : Int32) fa0 _ _ _ hP hD hS (lv_sub hl [1, 0] rfl) hr_z1
  obtain rfl := Option.some.inj hsp
  exact rWv hX hP hS rfl dX2_empty_22
noncomputable def lp_X2_digested_6 (n1 : Nat) (p2 : Int32) (fa1 : Nat → Int32) : Nat → Int64 → Int32 → Option (Int64 × Int32)
 | 0, _, _ => none
 | fu + 1, x4_6, x6_6 => if p2 ≤ x6_6 then (some (x4_6, x6_6)) else (lp_X2_digested_6 n1 p2 fa1 fu (((31 : Int64) * x4_6) + ((sp_X2_at n1 x6_6 fa1)).toInt64) (x6_6 + (1 : Int32)))
noncomputable def sp_X2_digested (n1 : Nat) (p0 : Int64) (p2 : Int32) (fa1 : Nat → Int32) : Option (Int64) := Option.bind (lp_X2_digested_6 n1 p2 fa1 FU p0 (0 : Int32)) fun z1 => some z1.1
set_option maxHeartbeats 4000000 in
set_option maxRecDepth 100000 in
theorem c_X2_digested (l : Launch) (E : wE) (a1 : Nat) (n1 : Nat) (hnn1 : n1 < 2 ^ 31) (p0 : Int64) (p2 : Int32) (fa1 : Nat → Int32) (z : Int64) (hsp : sp_X2_digested n1 p0 p2 fa1 = some z) : MR l yX2_digested cX2_digested 7 (some .long) 1 E [.long p0, .ref a1, .int p2] [(a1, aI E n1 fa1)] (some (.long z)) := by
  refine MR.of (by decide +kernel) (Nat.le_of_ble_eq_true rfl) ?_
  intro p e s m below meth c ls hX hK hP hl
  have hX : CX p s m [.long p0, .ref a1, .int p2].toArray meth c cX2_digested 7 (some .long) RX2 := hX
  have hx := hX.1; have hb := hX.2.1; have hts := hX.2.2.2.2.1; have hown := hX.2.2.2.2.2.1
  have hl : lv_has ls 7 [(0, .long p0), (2, .ref a1), (3, .int p2)] := hl
  have hsp : (Option.bind (lp_X2_digested_6 n1 p2 fa1 FU p0 (0 : Int32)) fun z1 => some z1.1) = some z := hsp
  refine lv_lload_n hx hb dX2_digested_0 rfl (lv_at hl 0 rfl) (W.pc 1 rfl ?_)
  refine lv_lstore (lv' := [(4, .long p0), (0, .long p0), (2, .ref a1), (3, .int p2)]) hx hb dX2_digested_1 hl (by decide) rfl (fun ls hl => W.pc 3 rfl ?_)
  refine lv_iconst (v := (0 : Int32)) hx hb dX2_digested_3 (by decide) (W.pc 4 rfl ?_)
  refine lv_istore (lv' := [(6, .int (0 : Int32)), (4, .long p0), (0, .long p0), (2, .ref a1), (3, .int p2)]) hx hb dX2_digested_4 hl (by decide) rfl (fun ls hl => W.pc 6 rfl ?_)
  have L_6 : ∀ (z1 : Int64 × Int32), (∀ (ls : Array Slot), lv_has ls 7 [(4, .long z1.1)] → W p l e (wR 1) s m [.long p0, .ref a1, .int p2].toArray below meth c s.heap [] 0 0 (MQ below (QRd E (some (.long z))) [.long p0, .ref a1, .int p2].toArray s 0 0 (fun _ => False)) (F0 m 34 ls [])) → ∀ (fu : Nat) (x4_6 : Int64) (x6_6 : Int32), ∀ (ls : Array Slot), lv_has ls 7 [(2, .ref a1), (3, .int p2), (4, .long x4_6), (6, .int x6_6)] → lp_X2_digested_6 n1 p2 fa1 fu x4_6 x6_6 = some z1 → W p l e (wR 1) s m [.long p0, .ref a1, .int p2].toArray below meth c s.heap [] 0 0 (MQ below (QRd E (some (.long z))) [.long p0, .ref a1, .int p2].toArray s 0 0 (fun _ => False)) (F0 m 6 ls []) := by
    intro z1 hk_6 fu
    induction fu with
    | zero => intro x4_6 x6_6 ls hl hsp; exact absurd (show none = some _ from hsp) (by simp)
    | succ fu ih_6 =>
      intro x4_6 x6_6 ls hl hsp
      have hsp : (if p2 ≤ x6_6 then (some (x4_6, x6_6)) else (lp_X2_digested_6 n1 p2 fa1 fu (((31 : Int64) * x4_6) + ((sp_X2_at n1 x6_6 fa1)).toInt64) (x6_6 + (1 : Int32)))) = some z1 := hsp
      refine lv_iload hx hb dX2_digested_6 (lv_at hl 3 rfl) (W.pc 8 rfl ?_)
      refine lv_iload_n hx hb dX2_digested_8 rfl (lv_at hl 1 rfl) (W.pc 9 rfl ?_)
      refine lv_icmp_ge (tgt := 34) hx hb dX2_digested_9 (by decide) (fun c2 => ?_) (fun c2 => W.pc 12 rfl ?_)
      · have hsp := ip hsp c2
        obtain rfl := Option.some.inj hsp
        exact hk_6 _ (lv_sub hl [2] rfl)
      · have hsp := iq hsp c2
        refine lv_ldc2 (v := (31 : Int64)) hx hb hown (hts _ w_4_56) dX2_digested_12 (W.pc 15 rfl ?_)
        refine lv_lload hx hb dX2_digested_15 (lv_at hl 2 rfl) (W.pc 17 rfl ?_)
        refine lv_lmul hx hb dX2_digested_17 (W.pc 18 rfl ?_)
        refine lv_aload_n hx hb dX2_digested_18 rfl (lv_at hl 0 rfl) (W.pc 19 rfl ?_)
        refine lv_iload hx hb dX2_digested_19 (lv_at hl 3 rfl) (W.pc 21 rfl ?_)
        refine kSR (st1 := [.int (sp_X2_at n1 x6_6 fa1), .long ((31 : Int64) * x4_6)]) hX (c_X2_at l E a1 n1 hnn1 x6_6 fa1 _ rfl) B_X2_at w_4_3 hK (hP.pick [0] rfl) rfl hl.1 rfl (Nat.le_of_ble_eq_true rfl) ⟨Nat.le_of_ble_eq_true rfl, Nat.le_of_ble_eq_true rfl⟩ dX2_digested_21 rfl (W.pc 24 rfl ?_)
        refine lv_i2l (v := ((sp_X2_at n1 x6_6 fa1)).toInt64) hx hb dX2_digested_24 rfl (W.pc 25 rfl ?_)
        refine lv_ladd hx hb dX2_digested_25 (W.pc 26 rfl ?_)
        refine lv_lstore (lv' := [(4, .long (((31 : Int64) * x4_6) + ((sp_X2_at n1 x6_6 fa1)).toInt64)), (2, .ref a1), (3, .int p2), (6, .int x6_6)]) hx hb dX2_digested_26 hl (by decide) rfl (fun ls hl => W.pc 28 rfl ?_)
        refine lv_iinc (v := (x6_6 + (1 : Int32))) (lv' := [(6, .int (x6_6 + (1 : Int32))), (4, .long (((31 : Int64) * x4_6) + ((sp_X2_at n1 x6_6 fa1)).toInt64)), (2, .ref a1), (3, .int p2)]) hx hb dX2_digested_28 hl (k := 3) rfl rfl (by decide) rfl (fun ls hl => W.pc 31 rfl ?_)
        refine lv_goto (tgt := 6) hx hb dX2_digested_31 (by decide) ?_
        exact ih_6 (((31 : Int64) * x4_6) + ((sp_X2_at n1 x6_6 fa1)).toInt64) (x6_6 + (1 : Int32)) _ (lv_sub hl [2, 3, 1, 0] rfl) hsp
  obtain ⟨z1, hr_z1, hsp⟩ := bd_s hsp
  refine L_6 z1 (fun ls hl => ?_) FU p0 (0 : Int32) _ (lv_sub hl [3, 4, 1, 0] rfl) hr_z1
  refine lv_lload hx hb dX2_digested_34 (lv_at hl 0 rfl) (W.pc 36 rfl ?_)
  obtain rfl := Option.some.inj hsp
  exact rRl hX rfl dX2_digested_36
noncomputable def sp_X3_empty (fa0_heights : Nat → Int32) : Option (Int32 × Int32 × (Nat → Int32)) := Option.bind (sp_X2_empty 6 fa0_heights) fun z1 => some ((0 : Int32), (0 : Int32), z1)
set_option maxHeartbeats 4000000 in
set_option maxRecDepth 100000 in
theorem c_X3_empty (l : Launch) (E : wE) (a0 a0_heights a0_storeyKinds a0_storeyTilts : Nat) (a0_off : Int32) (a0_year : Int32) (fa0_heights : Nat → Int32) (z_0 : Int32) (z_1 : Int32) (z_2 : (Nat → Int32)) (hsp : sp_X3_empty fa0_heights = some (z_0, z_1, z_2)) : MW l yX3_empty cX3_empty 1 none 1 E [.ref a0] [(a0, .inr (1, [.int a0_off, .int a0_year, .ref a0_heights, .ref a0_storeyKinds, .ref a0_storeyTilts])), (a0_heights, aI E 6 fa0_heights)] none [(a0, .inr (1, [.int z_0, .int z_1, .ref a0_heights, .ref a0_storeyKinds, .ref a0_storeyTilts])), (a0_heights, aI E 6 z_2)] := by
  refine MW.of (by decide +kernel) (Nat.le_of_ble_eq_true rfl) ?_
  intro p e s m below meth c ls A hX hK hP hD hS hA hl
  have hX : CX p s m [.ref a0].toArray meth c cX3_empty 1 none RX3 := hX
  have hx := hX.1; have hb := hX.2.1; have hts := hX.2.2.2.2.1; have hown := hX.2.2.2.2.2.1
  have hl : lv_has ls 1 [(0, .ref a0)] := hl
  have hP : wP E [(a0, .inr (1, [.int a0_off, .int a0_year, .ref a0_heights, .ref a0_storeyKinds, .ref a0_storeyTilts])), (a0_heights, aI E 6 fa0_heights)] s.heap := hP
  have hsp : (Option.bind (sp_X2_empty 6 fa0_heights) fun z1 => some ((0 : Int32), (0 : Int32), z1)) = some (z_0, z_1, z_2) := hsp
  refine lv_aload_n hx hb dX3_empty_0 rfl (lv_at hl 0 rfl) (W.pc 1 rfl ?_)
  refine lv_iconst (v := (0 : Int32)) hx hb dX3_empty_1 (by decide) (W.pc 2 rfl ?_)
  refine va_put (D := E.1) (ci := 1) (v := .int (0 : Int32)) (ty := .int) (C := RX3) (T := TX3) (N := 5) hx hb hts inT_X3 tyX3 tyX3_ok nmX3 hown hK hP hD hS 0 rfl rfl 0 (by decide) (hts _ w_1_37) (fun _ h9 => h9) rfl (by decide +kernel) rfl rfl (Nat.le_of_ble_eq_true rfl) dX3_empty_2 (fun H locs hP hD hS => W.pc 5 rfl ?_)
  have hP : wP E [(a0, .inr (1, [.int (0 : Int32), .int a0_year, .ref a0_heights, .ref a0_storeyKinds, .ref a0_storeyTilts])), (a0_heights, aI E 6 fa0_heights)] _ := hP
  have hD : va_D A [(a0, .inr (1, [.int (0 : Int32), .int a0_year, .ref a0_heights, .ref a0_storeyKinds, .ref a0_storeyTilts])), (a0_heights, aI E 6 fa0_heights)] := hD
  refine lv_aload_n hx hb dX3_empty_5 rfl (lv_at hl 0 rfl) (W.pc 6 rfl ?_)
  refine lv_iconst (v := (0 : Int32)) hx hb dX3_empty_6 (by decide) (W.pc 7 rfl ?_)
  refine va_put (D := E.1) (ci := 1) (v := .int (0 : Int32)) (ty := .int) (C := RX3) (T := TX3) (N := 5) hx hb hts inT_X3 tyX3 tyX3_ok nmX3 hown hK hP hD hS 0 rfl rfl 1 (by decide) (hts _ w_1_42) (fun _ h9 => h9) rfl (by decide +kernel) rfl rfl (Nat.le_of_ble_eq_true rfl) dX3_empty_7 (fun H locs hP hD hS => W.pc 10 rfl ?_)
  have hP : wP E [(a0, .inr (1, [.int (0 : Int32), .int (0 : Int32), .ref a0_heights, .ref a0_storeyKinds, .ref a0_storeyTilts])), (a0_heights, aI E 6 fa0_heights)] _ := hP
  have hD : va_D A [(a0, .inr (1, [.int (0 : Int32), .int (0 : Int32), .ref a0_heights, .ref a0_storeyKinds, .ref a0_storeyTilts])), (a0_heights, aI E 6 fa0_heights)] := hD
  refine lv_aload_n hx hb dX3_empty_10 rfl (lv_at hl 0 rfl) (W.pc 11 rfl ?_)
  refine va_get (D := E.1) (ci := 1) (v := .ref a0_heights) (C := RX3) (T := TX3) (N := 5) hx hb hts inT_X3 hown hK hP 0 rfl rfl 2 (by decide) (hts _ w_1_46) (fun _ h9 => h9) rfl dX3_empty_11 (W.pc 14 rfl ?_)
  obtain ⟨z1, hr_z1, hsp⟩ := bd_s hsp
  refine kSW (st1 := []) (ws' := [(a0, .inr (1, [.int (0 : Int32), .int (0 : Int32), .ref a0_heights, .ref a0_storeyKinds, .ref a0_storeyTilts])), (a0_heights, aI E 6 z1)]) [1] hX (c_X2_empty l E a0_heights 6 (by decide) fa0_heights z1 hr_z1) B_X2_empty w_2_20 hK hP hD hS hA (by decide) rfl rfl rfl rfl hl.1 rfl (Nat.le_of_ble_eq_true rfl) ⟨Nat.le_of_ble_eq_true rfl, Nat.le_of_ble_eq_true rfl⟩ dX3_empty_14 rfl (fun H locs hP hD hS => W.pc 17 rfl ?_)
  cases hsp
  exact rWv hX hP hS rfl dX3_empty_17
def sp_X3_height (p1 : Int32) (fa0_heights : Nat → Int32) : Int32 := (sp_X2_at 6 p1 fa0_heights)
set_option maxHeartbeats 4000000 in
set_option maxRecDepth 100000 in
theorem c_X3_height (l : Launch) (E : wE) (a0 a0_heights a0_storeyKinds a0_storeyTilts : Nat) (p1 : Int32) (a0_off : Int32) (a0_year : Int32) (fa0_heights : Nat → Int32) (z : Int32) (hsp : sp_X3_height p1 fa0_heights = z) : MR l yX3_height cX3_height 2 (some .int) 1 E [.ref a0, .int p1] [(a0, .inr (1, [.int a0_off, .int a0_year, .ref a0_heights, .ref a0_storeyKinds, .ref a0_storeyTilts])), (a0_heights, aI E 6 fa0_heights)] (some (.int z)) := by
  refine MR.of (by decide +kernel) (Nat.le_of_ble_eq_true rfl) ?_
  intro p e s m below meth c ls hX hK hP hl
  have hX : CX p s m [.ref a0, .int p1].toArray meth c cX3_height 2 (some .int) RX3 := hX
  have hx := hX.1; have hb := hX.2.1; have hts := hX.2.2.2.2.1; have hown := hX.2.2.2.2.2.1
  have hl : lv_has ls 2 [(0, .ref a0), (1, .int p1)] := hl
  have hsp : ((sp_X2_at 6 p1 fa0_heights)) = z := hsp
  refine lv_aload_n hx hb dX3_height_0 rfl (lv_at hl 0 rfl) (W.pc 1 rfl ?_)
  refine va_get (D := E.1) (ci := 1) (v := .ref a0_heights) (C := RX3) (T := TX3) (N := 5) hx hb hts inT_X3 hown hK hP 0 rfl rfl 2 (by decide) (hts _ w_1_46) (fun _ h9 => h9) rfl dX3_height_1 (W.pc 4 rfl ?_)
  refine lv_iload_n hx hb dX3_height_4 rfl (lv_at hl 1 rfl) (W.pc 5 rfl ?_)
  refine kSR (st1 := [.int (sp_X2_at 6 p1 fa0_heights)]) hX (c_X2_at l E a0_heights 6 (by decide) p1 fa0_heights _ rfl) B_X2_at w_2_6 hK (hP.pick [1] rfl) rfl hl.1 rfl (Nat.le_of_ble_eq_true rfl) ⟨Nat.le_of_ble_eq_true rfl, Nat.le_of_ble_eq_true rfl⟩ dX3_height_5 rfl (W.pc 8 rfl ?_)
  subst hsp
  exact rRi hX rfl dX3_height_8
def sp_X3_kindAt (p1 : Int32) (p2 : Int32) (fa0_storeyKinds : Nat → Int32) : Int32 := (sp_X2_at 30 ((p1 * (5 : Int32)) + p2) fa0_storeyKinds)
set_option maxHeartbeats 4000000 in
set_option maxRecDepth 100000 in
theorem c_X3_kindAt (l : Launch) (E : wE) (a0 a0_heights a0_storeyKinds a0_storeyTilts : Nat) (p1 : Int32) (p2 : Int32) (a0_off : Int32) (a0_year : Int32) (fa0_storeyKinds : Nat → Int32) (z : Int32) (hsp : sp_X3_kindAt p1 p2 fa0_storeyKinds = z) : MR l yX3_kindAt cX3_kindAt 3 (some .int) 1 E [.ref a0, .int p1, .int p2] [(a0, .inr (1, [.int a0_off, .int a0_year, .ref a0_heights, .ref a0_storeyKinds, .ref a0_storeyTilts])), (a0_storeyKinds, aI E 30 fa0_storeyKinds)] (some (.int z)) := by
  refine MR.of (by decide +kernel) (Nat.le_of_ble_eq_true rfl) ?_
  intro p e s m below meth c ls hX hK hP hl
  have hX : CX p s m [.ref a0, .int p1, .int p2].toArray meth c cX3_kindAt 3 (some .int) RX3 := hX
  have hx := hX.1; have hb := hX.2.1; have hts := hX.2.2.2.2.1; have hown := hX.2.2.2.2.2.1
  have hl : lv_has ls 3 [(0, .ref a0), (1, .int p1), (2, .int p2)] := hl
  have hsp : ((sp_X2_at 30 ((p1 * (5 : Int32)) + p2) fa0_storeyKinds)) = z := hsp
  refine lv_aload_n hx hb dX3_kindAt_0 rfl (lv_at hl 0 rfl) (W.pc 1 rfl ?_)
  refine va_get (D := E.1) (ci := 1) (v := .ref a0_storeyKinds) (C := RX3) (T := TX3) (N := 5) hx hb hts inT_X3 hown hK hP 0 rfl rfl 3 (by decide) (hts _ w_1_47) (fun _ h9 => h9) rfl dX3_kindAt_1 (W.pc 4 rfl ?_)
  refine lv_iload_n hx hb dX3_kindAt_4 rfl (lv_at hl 1 rfl) (W.pc 5 rfl ?_)
  refine lv_iconst (v := (5 : Int32)) hx hb dX3_kindAt_5 (by decide) (W.pc 6 rfl ?_)
  refine lv_imul hx hb dX3_kindAt_6 (W.pc 7 rfl ?_)
  refine lv_iload_n hx hb dX3_kindAt_7 rfl (lv_at hl 2 rfl) (W.pc 8 rfl ?_)
  refine lv_iadd hx hb dX3_kindAt_8 (W.pc 9 rfl ?_)
  refine kSR (st1 := [.int (sp_X2_at 30 ((p1 * (5 : Int32)) + p2) fa0_storeyKinds)]) hX (c_X2_at l E a0_storeyKinds 30 (by decide) ((p1 * (5 : Int32)) + p2) fa0_storeyKinds _ rfl) B_X2_at w_2_6 hK (hP.pick [1] rfl) rfl hl.1 rfl (Nat.le_of_ble_eq_true rfl) ⟨Nat.le_of_ble_eq_true rfl, Nat.le_of_ble_eq_true rfl⟩ dX3_kindAt_9 rfl (W.pc 12 rfl ?_)
  subst hsp
  exact rRi hX rfl dX3_kindAt_12
def sp_X3_tiltAt (p1 : Int32) (p2 : Int32) (fa0_storeyTilts : Nat → Int32) : Int32 := (sp_X2_at 30 ((p1 * (5 : Int32)) + p2) fa0_storeyTilts)
set_option maxHeartbeats 4000000 in
set_option maxRecDepth 100000 in
theorem c_X3_tiltAt (l : Launch) (E : wE) (a0 a0_heights a0_storeyKinds a0_storeyTilts : Nat) (p1 : Int32) (p2 : Int32) (a0_off : Int32) (a0_year : Int32) (fa0_storeyTilts : Nat → Int32) (z : Int32) (hsp : sp_X3_tiltAt p1 p2 fa0_storeyTilts = z) : MR l yX3_tiltAt cX3_tiltAt 3 (some .int) 1 E [.ref a0, .int p1, .int p2] [(a0, .inr (1, [.int a0_off, .int a0_year, .ref a0_heights, .ref a0_storeyKinds, .ref a0_storeyTilts])), (a0_storeyTilts, aI E 30 fa0_storeyTilts)] (some (.int z)) := by
  refine MR.of (by decide +kernel) (Nat.le_of_ble_eq_true rfl) ?_
  intro p e s m below meth c ls hX hK hP hl
  have hX : CX p s m [.ref a0, .int p1, .int p2].toArray meth c cX3_tiltAt 3 (some .int) RX3 := hX
  have hx := hX.1; have hb := hX.2.1; have hts := hX.2.2.2.2.1; have hown := hX.2.2.2.2.2.1
  have hl : lv_has ls 3 [(0, .ref a0), (1, .int p1), (2, .int p2)] := hl
  have hsp : ((sp_X2_at 30 ((p1 * (5 : Int32)) + p2) fa0_storeyTilts)) = z := hsp
  refine lv_aload_n hx hb dX3_tiltAt_0 rfl (lv_at hl 0 rfl) (W.pc 1 rfl ?_)
  refine va_get (D := E.1) (ci := 1) (v := .ref a0_storeyTilts) (C := RX3) (T := TX3) (N := 5) hx hb hts inT_X3 hown hK hP 0 rfl rfl 4 (by decide) (hts _ w_1_48) (fun _ h9 => h9) rfl dX3_tiltAt_1 (W.pc 4 rfl ?_)
  refine lv_iload_n hx hb dX3_tiltAt_4 rfl (lv_at hl 1 rfl) (W.pc 5 rfl ?_)
  refine lv_iconst (v := (5 : Int32)) hx hb dX3_tiltAt_5 (by decide) (W.pc 6 rfl ?_)
  refine lv_imul hx hb dX3_tiltAt_6 (W.pc 7 rfl ?_)
  refine lv_iload_n hx hb dX3_tiltAt_7 rfl (lv_at hl 2 rfl) (W.pc 8 rfl ?_)
  refine lv_iadd hx hb dX3_tiltAt_8 (W.pc 9 rfl ?_)
  refine kSR (st1 := [.int (sp_X2_at 30 ((p1 * (5 : Int32)) + p2) fa0_storeyTilts)]) hX (c_X2_at l E a0_storeyTilts 30 (by decide) ((p1 * (5 : Int32)) + p2) fa0_storeyTilts _ rfl) B_X2_at w_2_6 hK (hP.pick [1] rfl) rfl hl.1 rfl (Nat.le_of_ble_eq_true rfl) ⟨Nat.le_of_ble_eq_true rfl, Nat.le_of_ble_eq_true rfl⟩ dX3_tiltAt_9 rfl (W.pc 12 rfl ?_)
  subst hsp
  exact rRi hX rfl dX3_tiltAt_12
def sp_X3_top (p1 : Int32) (fa0_heights : Nat → Int32) (fa0_storeyTilts : Nat → Int32) : Int32 := if (sp_X3_height p1 fa0_heights) ≤ 0 then ((0 : Int32)) else ((sp_X3_tiltAt p1 ((sp_X3_height p1 fa0_heights) - (1 : Int32)) fa0_storeyTilts))
set_option maxHeartbeats 4000000 in
set_option maxRecDepth 100000 in
theorem c_X3_top (l : Launch) (E : wE) (a0 a0_heights a0_storeyKinds a0_storeyTilts : Nat) (p1 : Int32) (a0_off : Int32) (a0_year : Int32) (fa0_heights : Nat → Int32) (fa0_storeyTilts : Nat → Int32) (z : Int32) (hsp : sp_X3_top p1 fa0_heights fa0_storeyTilts = z) : MR l yX3_top cX3_top 3 (some .int) 2 E [.ref a0, .int p1] [(a0, .inr (1, [.int a0_off, .int a0_year, .ref a0_heights, .ref a0_storeyKinds, .ref a0_storeyTilts])), (a0_heights, aI E 6 fa0_heights), (a0_storeyTilts, aI E 30 fa0_storeyTilts)] (some (.int z)) := by
  refine MR.of (by decide +kernel) (Nat.le_of_ble_eq_true rfl) ?_
  intro p e s m below meth c ls hX hK hP hl
  have hX : CX p s m [.ref a0, .int p1].toArray meth c cX3_top 3 (some .int) RX3 := hX
  have hx := hX.1; have hb := hX.2.1; have hts := hX.2.2.2.2.1; have hown := hX.2.2.2.2.2.1
  have hl : lv_has ls 3 [(0, .ref a0), (1, .int p1)] := hl
  have hsp : (if (sp_X3_height p1 fa0_heights) ≤ 0 then ((0 : Int32)) else ((sp_X3_tiltAt p1 ((sp_X3_height p1 fa0_heights) - (1 : Int32)) fa0_storeyTilts))) = z := hsp
  refine lv_aload_n hx hb dX3_top_0 rfl (lv_at hl 0 rfl) (W.pc 1 rfl ?_)
  refine lv_iload_n hx hb dX3_top_1 rfl (lv_at hl 1 rfl) (W.pc 2 rfl ?_)
  refine kVR (st1 := [.int (sp_X3_height p1 fa0_heights)]) hX (c_X3_height l E a0 a0_heights a0_storeyKinds a0_storeyTilts p1 a0_off a0_year fa0_heights _ rfl) B_X3_height w_2_2 hK (hP.pick [0, 1] rfl) (q0 := 0) (ci := 1) rfl rfl rfl rfl hl.1 rfl (Nat.le_of_ble_eq_true rfl) ⟨Nat.le_of_ble_eq_true rfl, Nat.le_of_ble_eq_true rfl⟩ dX3_top_2 rfl (W.pc 5 rfl ?_)
  refine lv_istore_n (lv' := [(2, .int (sp_X3_height p1 fa0_heights)), (0, .ref a0), (1, .int p1)]) hx hb dX3_top_5 rfl hl (by decide) rfl (fun ls hl => W.pc 6 rfl ?_)
  refine lv_iload_n hx hb dX3_top_6 rfl (lv_at hl 0 rfl) (W.pc 7 rfl ?_)
  refine lv_if_le (tgt := 21) hx hb dX3_top_7 (by decide) (fun c1 => ?_) (fun c1 => W.pc 10 rfl ?_)
  · have hsp := ip hsp c1
    refine lv_iconst (v := (0 : Int32)) hx hb dX3_top_21 (by decide) (W.pc 22 rfl ?_)
    subst hsp
    exact rRi hX rfl dX3_top_22
  · have hsp := iq hsp c1
    refine lv_aload_n hx hb dX3_top_10 rfl (lv_at hl 1 rfl) (W.pc 11 rfl ?_)
    refine lv_iload_n hx hb dX3_top_11 rfl (lv_at hl 2 rfl) (W.pc 12 rfl ?_)
    refine lv_iload_n hx hb dX3_top_12 rfl (lv_at hl 0 rfl) (W.pc 13 rfl ?_)
    refine lv_iconst (v := (1 : Int32)) hx hb dX3_top_13 (by decide) (W.pc 14 rfl ?_)
    refine lv_isub hx hb dX3_top_14 (W.pc 15 rfl ?_)
    refine kVR (st1 := [.int (sp_X3_tiltAt p1 ((sp_X3_height p1 fa0_heights) - (1 : Int32)) fa0_storeyTilts)]) hX (c_X3_tiltAt l E a0 a0_heights a0_storeyKinds a0_storeyTilts p1 ((sp_X3_height p1 fa0_heights) - (1 : Int32)) a0_off a0_year fa0_storeyTilts _ rfl) B_X3_tiltAt w_2_172 hK (hP.pick [0, 2] rfl) (q0 := 0) (ci := 1) rfl rfl rfl rfl hl.1 rfl (Nat.le_of_ble_eq_true rfl) ⟨Nat.le_of_ble_eq_true rfl, Nat.le_of_ble_eq_true rfl⟩ dX3_top_15 rfl (W.pc 18 rfl ?_)
    refine lv_goto (tgt := 22) hx hb dX3_top_18 (by decide) ?_
    subst hsp
    exact rRi hX rfl dX3_top_22
noncomputable def lp_X3_loadOn_7 (p1 : Int32) (fa0_heights : Nat → Int32) (fa0_storeyKinds : Nat → Int32) : Nat → Int32 → Int32 → Option (Int32 × Int32)
 | 0, _, _ => none
 | fu + 1, x3_7, x4_7 => if (sp_X3_height p1 fa0_heights) ≤ x4_7 then (some (x3_7, x4_7)) else (lp_X3_loadOn_7 p1 fa0_heights fa0_storeyKinds fu (x3_7 + (sp_X4_heavy (sp_X3_kindAt p1 x4_7 fa0_storeyKinds))) (x4_7 + (1 : Int32)))
noncomputable def sp_X3_loadOn (p1 : Int32) (p2 : Int32) (fa0_heights : Nat → Int32) (fa0_storeyKinds : Nat → Int32) : Option (Int32) := Option.bind (lp_X3_loadOn_7 p1 fa0_heights fa0_storeyKinds FU (0 : Int32) (p2 + (1 : Int32))) fun z1 => some z1.1
set_option maxHeartbeats 4000000 in
set_option maxRecDepth 100000 in
theorem c_X3_loadOn (l : Launch) (E : wE) (a0 a0_heights a0_storeyKinds a0_storeyTilts : Nat) (p1 : Int32) (p2 : Int32) (a0_off : Int32) (a0_year : Int32) (fa0_heights : Nat → Int32) (fa0_storeyKinds : Nat → Int32) (z : Int32) (hsp : sp_X3_loadOn p1 p2 fa0_heights fa0_storeyKinds = some z) : MR l yX3_loadOn cX3_loadOn 5 (some .int) 2 E [.ref a0, .int p1, .int p2] [(a0, .inr (1, [.int a0_off, .int a0_year, .ref a0_heights, .ref a0_storeyKinds, .ref a0_storeyTilts])), (a0_heights, aI E 6 fa0_heights), (a0_storeyKinds, aI E 30 fa0_storeyKinds)] (some (.int z)) := by
  refine MR.of (by decide +kernel) (Nat.le_of_ble_eq_true rfl) ?_
  intro p e s m below meth c ls hX hK hP hl
  have hX : CX p s m [.ref a0, .int p1, .int p2].toArray meth c cX3_loadOn 5 (some .int) RX3 := hX
  have hx := hX.1; have hb := hX.2.1; have hts := hX.2.2.2.2.1; have hown := hX.2.2.2.2.2.1
  have hl : lv_has ls 5 [(0, .ref a0), (1, .int p1), (2, .int p2)] := hl
  have hsp : (Option.bind (lp_X3_loadOn_7 p1 fa0_heights fa0_storeyKinds FU (0 : Int32) (p2 + (1 : Int32))) fun z1 => some z1.1) = some z := hsp
  refine lv_iconst (v := (0 : Int32)) hx hb dX3_loadOn_0 (by decide) (W.pc 1 rfl ?_)
  refine lv_istore_n (lv' := [(3, .int (0 : Int32)), (0, .ref a0), (1, .int p1), (2, .int p2)]) hx hb dX3_loadOn_1 rfl hl (by decide) rfl (fun ls hl => W.pc 2 rfl ?_)
  refine lv_iload_n hx hb dX3_loadOn_2 rfl (lv_at hl 3 rfl) (W.pc 3 rfl ?_)
  refine lv_iconst (v := (1 : Int32)) hx hb dX3_loadOn_3 (by decide) (W.pc 4 rfl ?_)
  refine lv_iadd hx hb dX3_loadOn_4 (W.pc 5 rfl ?_)
  refine lv_istore (lv' := [(4, .int (p2 + (1 : Int32))), (3, .int (0 : Int32)), (0, .ref a0), (1, .int p1), (2, .int p2)]) hx hb dX3_loadOn_5 hl (by decide) rfl (fun ls hl => W.pc 7 rfl ?_)
  have L_7 : ∀ (z1 : Int32 × Int32), (∀ (ls : Array Slot), lv_has ls 5 [(3, .int z1.1)] → W p l e (wR 2) s m [.ref a0, .int p1, .int p2].toArray below meth c s.heap [] 0 0 (MQ below (QRd E (some (.int z))) [.ref a0, .int p1, .int p2].toArray s 0 0 (fun _ => False)) (F0 m 36 ls [])) → ∀ (fu : Nat) (x3_7 : Int32) (x4_7 : Int32), ∀ (ls : Array Slot), lv_has ls 5 [(0, .ref a0), (1, .int p1), (3, .int x3_7), (4, .int x4_7)] → lp_X3_loadOn_7 p1 fa0_heights fa0_storeyKinds fu x3_7 x4_7 = some z1 → W p l e (wR 2) s m [.ref a0, .int p1, .int p2].toArray below meth c s.heap [] 0 0 (MQ below (QRd E (some (.int z))) [.ref a0, .int p1, .int p2].toArray s 0 0 (fun _ => False)) (F0 m 7 ls []) := by
    intro z1 hk_7 fu
    induction fu with
    | zero => intro x3_7 x4_7 ls hl hsp; exact absurd (show none = some _ from hsp) (by simp)
    | succ fu ih_7 =>
      intro x3_7 x4_7 ls hl hsp
      have hsp : (if (sp_X3_height p1 fa0_heights) ≤ x4_7 then (some (x3_7, x4_7)) else (lp_X3_loadOn_7 p1 fa0_heights fa0_storeyKinds fu (x3_7 + (sp_X4_heavy (sp_X3_kindAt p1 x4_7 fa0_storeyKinds))) (x4_7 + (1 : Int32)))) = some z1 := hsp
      refine lv_iload hx hb dX3_loadOn_7 (lv_at hl 3 rfl) (W.pc 9 rfl ?_)
      refine lv_aload_n hx hb dX3_loadOn_9 rfl (lv_at hl 0 rfl) (W.pc 10 rfl ?_)
      refine lv_iload_n hx hb dX3_loadOn_10 rfl (lv_at hl 1 rfl) (W.pc 11 rfl ?_)
      refine kVR (st1 := [.int (sp_X3_height p1 fa0_heights), .int x4_7]) hX (c_X3_height l E a0 a0_heights a0_storeyKinds a0_storeyTilts p1 a0_off a0_year fa0_heights _ rfl) B_X3_height w_2_2 hK (hP.pick [0, 1] rfl) (q0 := 0) (ci := 1) rfl rfl rfl rfl hl.1 rfl (Nat.le_of_ble_eq_true rfl) ⟨Nat.le_of_ble_eq_true rfl, Nat.le_of_ble_eq_true rfl⟩ dX3_loadOn_11 rfl (W.pc 14 rfl ?_)
      refine lv_icmp_ge (tgt := 36) hx hb dX3_loadOn_14 (by decide) (fun c2 => ?_) (fun c2 => W.pc 17 rfl ?_)
      · have hsp := ip hsp c2
        obtain rfl := Option.some.inj hsp
        exact hk_7 _ (lv_sub hl [2] rfl)
      · have hsp := iq hsp c2
        refine lv_iload_n hx hb dX3_loadOn_17 rfl (lv_at hl 2 rfl) (W.pc 18 rfl ?_)
        refine lv_aload_n hx hb dX3_loadOn_18 rfl (lv_at hl 0 rfl) (W.pc 19 rfl ?_)
        refine lv_iload_n hx hb dX3_loadOn_19 rfl (lv_at hl 1 rfl) (W.pc 20 rfl ?_)
        refine lv_iload hx hb dX3_loadOn_20 (lv_at hl 3 rfl) (W.pc 22 rfl ?_)
        refine kVR (st1 := [.int (sp_X3_kindAt p1 x4_7 fa0_storeyKinds), .int x3_7]) hX (c_X3_kindAt l E a0 a0_heights a0_storeyKinds a0_storeyTilts p1 x4_7 a0_off a0_year fa0_storeyKinds _ rfl) B_X3_kindAt w_2_165 hK (hP.pick [0, 2] rfl) (q0 := 0) (ci := 1) rfl rfl rfl rfl hl.1 rfl (Nat.le_of_ble_eq_true rfl) ⟨Nat.le_of_ble_eq_true rfl, Nat.le_of_ble_eq_true rfl⟩ dX3_loadOn_22 rfl (W.pc 25 rfl ?_)
        refine kSR (st1 := [.int (sp_X4_heavy (sp_X3_kindAt p1 x4_7 fa0_storeyKinds)), .int x3_7]) hX (c_X4_heavy l E (sp_X3_kindAt p1 x4_7 fa0_storeyKinds) _ rfl) B_X4_heavy w_2_169 hK (hP.pick [] rfl) rfl hl.1 rfl (Nat.le_of_ble_eq_true rfl) ⟨Nat.le_of_ble_eq_true rfl, Nat.le_of_ble_eq_true rfl⟩ dX3_loadOn_25 rfl (W.pc 28 rfl ?_)
        refine lv_iadd hx hb dX3_loadOn_28 (W.pc 29 rfl ?_)
        refine lv_istore_n (lv' := [(3, .int (x3_7 + (sp_X4_heavy (sp_X3_kindAt p1 x4_7 fa0_storeyKinds)))), (0, .ref a0), (1, .int p1), (4, .int x4_7)]) hx hb dX3_loadOn_29 rfl hl (by decide) rfl (fun ls hl => W.pc 30 rfl ?_)
        refine lv_iinc (v := (x4_7 + (1 : Int32))) (lv' := [(4, .int (x4_7 + (1 : Int32))), (3, .int (x3_7 + (sp_X4_heavy (sp_X3_kindAt p1 x4_7 fa0_storeyKinds)))), (0, .ref a0), (1, .int p1)]) hx hb dX3_loadOn_30 hl (k := 3) rfl rfl (by decide) rfl (fun ls hl => W.pc 33 rfl ?_)
        refine lv_goto (tgt := 7) hx hb dX3_loadOn_33 (by decide) ?_
        exact ih_7 (x3_7 + (sp_X4_heavy (sp_X3_kindAt p1 x4_7 fa0_storeyKinds))) (x4_7 + (1 : Int32)) _ (lv_sub hl [2, 3, 1, 0] rfl) hsp
  obtain ⟨z1, hr_z1, hsp⟩ := bd_s hsp
  refine L_7 z1 (fun ls hl => ?_) FU (0 : Int32) (p2 + (1 : Int32)) _ (lv_sub hl [2, 3, 1, 0] rfl) hr_z1
  refine lv_iload_n hx hb dX3_loadOn_36 rfl (lv_at hl 0 rfl) (W.pc 37 rfl ?_)
  obtain rfl := Option.some.inj hsp
  exact rRi hX rfl dX3_loadOn_37
noncomputable def sp_X3_weight (p1 : Int32) (fa0_heights : Nat → Int32) (fa0_storeyKinds : Nat → Int32) : Option (Int32) := Option.bind (sp_X3_loadOn p1 (-1 : Int32) fa0_heights fa0_storeyKinds) fun z1 => some z1
set_option maxHeartbeats 4000000 in
set_option maxRecDepth 100000 in
theorem c_X3_weight (l : Launch) (E : wE) (a0 a0_heights a0_storeyKinds a0_storeyTilts : Nat) (p1 : Int32) (a0_off : Int32) (a0_year : Int32) (fa0_heights : Nat → Int32) (fa0_storeyKinds : Nat → Int32) (z : Int32) (hsp : sp_X3_weight p1 fa0_heights fa0_storeyKinds = some z) : MR l yX3_weight cX3_weight 2 (some .int) 3 E [.ref a0, .int p1] [(a0, .inr (1, [.int a0_off, .int a0_year, .ref a0_heights, .ref a0_storeyKinds, .ref a0_storeyTilts])), (a0_heights, aI E 6 fa0_heights), (a0_storeyKinds, aI E 30 fa0_storeyKinds)] (some (.int z)) := by
  refine MR.of (by decide +kernel) (Nat.le_of_ble_eq_true rfl) ?_
  intro p e s m below meth c ls hX hK hP hl
  have hX : CX p s m [.ref a0, .int p1].toArray meth c cX3_weight 2 (some .int) RX3 := hX
  have hx := hX.1; have hb := hX.2.1; have hts := hX.2.2.2.2.1; have hown := hX.2.2.2.2.2.1
  have hl : lv_has ls 2 [(0, .ref a0), (1, .int p1)] := hl
  have hsp : (Option.bind (sp_X3_loadOn p1 (-1 : Int32) fa0_heights fa0_storeyKinds) fun z1 => some z1) = some z := hsp
  refine lv_aload_n hx hb dX3_weight_0 rfl (lv_at hl 0 rfl) (W.pc 1 rfl ?_)
  refine lv_iload_n hx hb dX3_weight_1 rfl (lv_at hl 1 rfl) (W.pc 2 rfl ?_)
  refine lv_iconst (v := (-1 : Int32)) hx hb dX3_weight_2 (by decide) (W.pc 3 rfl ?_)
  obtain ⟨z1, hr_z1, hsp⟩ := bd_s hsp
  refine kVR (st1 := [.int z1]) hX (c_X3_loadOn l E a0 a0_heights a0_storeyKinds a0_storeyTilts p1 (-1 : Int32) a0_off a0_year fa0_heights fa0_storeyKinds z1 hr_z1) B_X3_loadOn w_3_61 hK (hP.pick [0, 1, 2] rfl) (q0 := 0) (ci := 1) rfl rfl rfl rfl hl.1 rfl (Nat.le_of_ble_eq_true rfl) ⟨Nat.le_of_ble_eq_true rfl, Nat.le_of_ble_eq_true rfl⟩ dX3_weight_3 rfl (W.pc 6 rfl ?_)
  obtain rfl := Option.some.inj hsp
  exact rRi hX rfl dX3_weight_6
noncomputable def lp_X3_storeys_4 (fa0_heights : Nat → Int32) : Nat → Int32 → Int32 → Option (Int32 × Int32)
 | 0, _, _ => none
 | fu + 1, x1_4, x2_4 => if (6 : Int32) ≤ x2_4 then (some (x1_4, x2_4)) else (lp_X3_storeys_4 fa0_heights fu (x1_4 + (sp_X3_height x2_4 fa0_heights)) (x2_4 + (1 : Int32)))
noncomputable def sp_X3_storeys (fa0_heights : Nat → Int32) : Option (Int32) := Option.bind (lp_X3_storeys_4 fa0_heights FU (0 : Int32) (0 : Int32)) fun z1 => some z1.1
set_option maxHeartbeats 4000000 in
set_option maxRecDepth 100000 in
theorem c_X3_storeys (l : Launch) (E : wE) (a0 a0_heights a0_storeyKinds a0_storeyTilts : Nat) (a0_off : Int32) (a0_year : Int32) (fa0_heights : Nat → Int32) (z : Int32) (hsp : sp_X3_storeys fa0_heights = some z) : MR l yX3_storeys cX3_storeys 3 (some .int) 2 E [.ref a0] [(a0, .inr (1, [.int a0_off, .int a0_year, .ref a0_heights, .ref a0_storeyKinds, .ref a0_storeyTilts])), (a0_heights, aI E 6 fa0_heights)] (some (.int z)) := by
  refine MR.of (by decide +kernel) (Nat.le_of_ble_eq_true rfl) ?_
  intro p e s m below meth c ls hX hK hP hl
  have hX : CX p s m [.ref a0].toArray meth c cX3_storeys 3 (some .int) RX3 := hX
  have hx := hX.1; have hb := hX.2.1; have hts := hX.2.2.2.2.1; have hown := hX.2.2.2.2.2.1
  have hl : lv_has ls 3 [(0, .ref a0)] := hl
  have hsp : (Option.bind (lp_X3_storeys_4 fa0_heights FU (0 : Int32) (0 : Int32)) fun z1 => some z1.1) = some z := hsp
  refine lv_iconst (v := (0 : Int32)) hx hb dX3_storeys_0 (by decide) (W.pc 1 rfl ?_)
  refine lv_istore_n (lv' := [(1, .int (0 : Int32)), (0, .ref a0)]) hx hb dX3_storeys_1 rfl hl (by decide) rfl (fun ls hl => W.pc 2 rfl ?_)
  refine lv_iconst (v := (0 : Int32)) hx hb dX3_storeys_2 (by decide) (W.pc 3 rfl ?_)
  refine lv_istore_n (lv' := [(2, .int (0 : Int32)), (1, .int (0 : Int32)), (0, .ref a0)]) hx hb dX3_storeys_3 rfl hl (by decide) rfl (fun ls hl => W.pc 4 rfl ?_)
  have L_4 : ∀ (z1 : Int32 × Int32), (∀ (ls : Array Slot), lv_has ls 3 [(1, .int z1.1)] → W p l e (wR 2) s m [.ref a0].toArray below meth c s.heap [] 0 0 (MQ below (QRd E (some (.int z))) [.ref a0].toArray s 0 0 (fun _ => False)) (F0 m 24 ls [])) → ∀ (fu : Nat) (x1_4 : Int32) (x2_4 : Int32), ∀ (ls : Array Slot), lv_has ls 3 [(0, .ref a0), (1, .int x1_4), (2, .int x2_4)] → lp_X3_storeys_4 fa0_heights fu x1_4 x2_4 = some z1 → W p l e (wR 2) s m [.ref a0].toArray below meth c s.heap [] 0 0 (MQ below (QRd E (some (.int z))) [.ref a0].toArray s 0 0 (fun _ => False)) (F0 m 4 ls []) := by
    intro z1 hk_4 fu
    induction fu with
    | zero => intro x1_4 x2_4 ls hl hsp; exact absurd (show none = some _ from hsp) (by simp)
    | succ fu ih_4 =>
      intro x1_4 x2_4 ls hl hsp
      have hsp : (if (6 : Int32) ≤ x2_4 then (some (x1_4, x2_4)) else (lp_X3_storeys_4 fa0_heights fu (x1_4 + (sp_X3_height x2_4 fa0_heights)) (x2_4 + (1 : Int32)))) = some z1 := hsp
      refine lv_iload_n hx hb dX3_storeys_4 rfl (lv_at hl 2 rfl) (W.pc 5 rfl ?_)
      refine lv_bipush (v := (6 : Int32)) hx hb dX3_storeys_5 (by decide) (W.pc 7 rfl ?_)
      refine lv_icmp_ge (tgt := 24) hx hb dX3_storeys_7 (by decide) (fun c2 => ?_) (fun c2 => W.pc 10 rfl ?_)
      · have hsp := ip hsp c2
        obtain rfl := Option.some.inj hsp
        exact hk_4 _ (lv_sub hl [1] rfl)
      · have hsp := iq hsp c2
        refine lv_iload_n hx hb dX3_storeys_10 rfl (lv_at hl 1 rfl) (W.pc 11 rfl ?_)
        refine lv_aload_n hx hb dX3_storeys_11 rfl (lv_at hl 0 rfl) (W.pc 12 rfl ?_)
        refine lv_iload_n hx hb dX3_storeys_12 rfl (lv_at hl 2 rfl) (W.pc 13 rfl ?_)
        refine kVR (st1 := [.int (sp_X3_height x2_4 fa0_heights), .int x1_4]) hX (c_X3_height l E a0 a0_heights a0_storeyKinds a0_storeyTilts x2_4 a0_off a0_year fa0_heights _ rfl) B_X3_height w_2_2 hK (hP.pick [0, 1] rfl) (q0 := 0) (ci := 1) rfl rfl rfl rfl hl.1 rfl (Nat.le_of_ble_eq_true rfl) ⟨Nat.le_of_ble_eq_true rfl, Nat.le_of_ble_eq_true rfl⟩ dX3_storeys_13 rfl (W.pc 16 rfl ?_)
        refine lv_iadd hx hb dX3_storeys_16 (W.pc 17 rfl ?_)
        refine lv_istore_n (lv' := [(1, .int (x1_4 + (sp_X3_height x2_4 fa0_heights))), (0, .ref a0), (2, .int x2_4)]) hx hb dX3_storeys_17 rfl hl (by decide) rfl (fun ls hl => W.pc 18 rfl ?_)
        refine lv_iinc (v := (x2_4 + (1 : Int32))) (lv' := [(2, .int (x2_4 + (1 : Int32))), (1, .int (x1_4 + (sp_X3_height x2_4 fa0_heights))), (0, .ref a0)]) hx hb dX3_storeys_18 hl (k := 2) rfl rfl (by decide) rfl (fun ls hl => W.pc 21 rfl ?_)
        refine lv_goto (tgt := 4) hx hb dX3_storeys_21 (by decide) ?_
        exact ih_4 (x1_4 + (sp_X3_height x2_4 fa0_heights)) (x2_4 + (1 : Int32)) _ (lv_sub hl [2, 1, 0] rfl) hsp
  obtain ⟨z1, hr_z1, hsp⟩ := bd_s hsp
  refine L_4 z1 (fun ls hl => ?_) FU (0 : Int32) (0 : Int32) _ (lv_sub hl [2, 1, 0] rfl) hr_z1
  refine lv_iload_n hx hb dX3_storeys_24 rfl (lv_at hl 0 rfl) (W.pc 25 rfl ?_)
  obtain rfl := Option.some.inj hsp
  exact rRi hX rfl dX3_storeys_25
noncomputable def lp_X3_standing_5 (p1 : Int32) (p2 : Int32) (fa0_storeyKinds : Nat → Int32) : Nat → Int32 → Int32 → Option (Int32 × Int32)
 | 0, _, _ => none
 | fu + 1, x3_5, x4_5 => if p2 ≤ x4_5 then (some (x3_5, x4_5)) else (lp_X3_standing_5 p1 p2 fa0_storeyKinds fu (x3_5 + (sp_X4_heavy (sp_X3_kindAt p1 x4_5 fa0_storeyKinds))) (x4_5 + (1 : Int32)))
noncomputable def lp_X3_standing_36 (p1 : Int32) (p2 : Int32) (fa0_storeyKinds : Nat → Int32) (fa0_storeyTilts : Nat → Int32) : Nat → Int32 → Int32 → Int32 → Option (Int32)
 | 0, _, _, _ => none
 | fu + 1, x3_36, x4_36, x5_36 => if p2 ≤ x5_36 then (some p2) else (if (sp_X4_stands (sp_X3_kindAt p1 x5_36 fa0_storeyKinds) (sp_X3_tiltAt p1 x5_36 fa0_storeyTilts) x4_36 (x3_36 - (sp_X4_heavy (sp_X3_kindAt p1 x5_36 fa0_storeyKinds)))) = 0 then (some x5_36) else (lp_X3_standing_36 p1 p2 fa0_storeyKinds fa0_storeyTilts fu (x3_36 - (sp_X4_heavy (sp_X3_kindAt p1 x5_36 fa0_storeyKinds))) (sp_X3_tiltAt p1 x5_36 fa0_storeyTilts) (x5_36 + (1 : Int32))))
noncomputable def sp_X3_standing (p1 : Int32) (p2 : Int32) (fa0_storeyKinds : Nat → Int32) (fa0_storeyTilts : Nat → Int32) : Option (Int32) := Option.bind (lp_X3_standing_5 p1 p2 fa0_storeyKinds FU (0 : Int32) (0 : Int32)) fun z1 => lp_X3_standing_36 p1 p2 fa0_storeyKinds fa0_storeyTilts FU z1.1 (0 : Int32) (0 : Int32)
set_option maxHeartbeats 4000000 in
set_option maxRecDepth 100000 in
theorem c_X3_standing (l : Launch) (E : wE) (a0 a0_heights a0_storeyKinds a0_storeyTilts : Nat) (p1 : Int32) (p2 : Int32) (a0_off : Int32) (a0_year : Int32) (fa0_storeyKinds : Nat → Int32) (fa0_storeyTilts : Nat → Int32) (z : Int32) (hsp : sp_X3_standing p1 p2 fa0_storeyKinds fa0_storeyTilts = some z) : MR l yX3_standing cX3_standing 8 (some .int) 2 E [.ref a0, .int p1, .int p2] [(a0, .inr (1, [.int a0_off, .int a0_year, .ref a0_heights, .ref a0_storeyKinds, .ref a0_storeyTilts])), (a0_storeyKinds, aI E 30 fa0_storeyKinds), (a0_storeyTilts, aI E 30 fa0_storeyTilts)] (some (.int z)) := by
  refine MR.of (by decide +kernel) (Nat.le_of_ble_eq_true rfl) ?_
  intro p e s m below meth c ls hX hK hP hl
  have hX : CX p s m [.ref a0, .int p1, .int p2].toArray meth c cX3_standing 8 (some .int) RX3 := hX
  have hx := hX.1; have hb := hX.2.1; have hts := hX.2.2.2.2.1; have hown := hX.2.2.2.2.2.1
  have hl : lv_has ls 8 [(0, .ref a0), (1, .int p1), (2, .int p2)] := hl
  have hsp : (Option.bind (lp_X3_standing_5 p1 p2 fa0_storeyKinds FU (0 : Int32) (0 : Int32)) fun z1 => lp_X3_standing_36 p1 p2 fa0_storeyKinds fa0_storeyTilts FU z1.1 (0 : Int32) (0 : Int32)) = some z := hsp
  refine lv_iconst (v := (0 : Int32)) hx hb dX3_standing_0 (by decide) (W.pc 1 rfl ?_)
  refine lv_istore_n (lv' := [(3, .int (0 : Int32)), (0, .ref a0), (1, .int p1), (2, .int p2)]) hx hb dX3_standing_1 rfl hl (by decide) rfl (fun ls hl => W.pc 2 rfl ?_)
  refine lv_iconst (v := (0 : Int32)) hx hb dX3_standing_2 (by decide) (W.pc 3 rfl ?_)
  refine lv_istore (lv' := [(4, .int (0 : Int32)), (3, .int (0 : Int32)), (0, .ref a0), (1, .int p1), (2, .int p2)]) hx hb dX3_standing_3 hl (by decide) rfl (fun ls hl => W.pc 5 rfl ?_)
  have L_5 : ∀ (z1 : Int32 × Int32), (∀ (ls : Array Slot), lv_has ls 8 [(0, .ref a0), (1, .int p1), (2, .int p2), (3, .int z1.1)] → W p l e (wR 2) s m [.ref a0, .int p1, .int p2].toArray below meth c s.heap [] 0 0 (MQ below (QRd E (some (.int z))) [.ref a0, .int p1, .int p2].toArray s 0 0 (fun _ => False)) (F0 m 30 ls [])) → ∀ (fu : Nat) (x3_5 : Int32) (x4_5 : Int32), ∀ (ls : Array Slot), lv_has ls 8 [(0, .ref a0), (1, .int p1), (2, .int p2), (3, .int x3_5), (4, .int x4_5)] → lp_X3_standing_5 p1 p2 fa0_storeyKinds fu x3_5 x4_5 = some z1 → W p l e (wR 2) s m [.ref a0, .int p1, .int p2].toArray below meth c s.heap [] 0 0 (MQ below (QRd E (some (.int z))) [.ref a0, .int p1, .int p2].toArray s 0 0 (fun _ => False)) (F0 m 5 ls []) := by
    intro z1 hk_5 fu
    induction fu with
    | zero => intro x3_5 x4_5 ls hl hsp; exact absurd (show none = some _ from hsp) (by simp)
    | succ fu ih_5 =>
      intro x3_5 x4_5 ls hl hsp
      have hsp : (if p2 ≤ x4_5 then (some (x3_5, x4_5)) else (lp_X3_standing_5 p1 p2 fa0_storeyKinds fu (x3_5 + (sp_X4_heavy (sp_X3_kindAt p1 x4_5 fa0_storeyKinds))) (x4_5 + (1 : Int32)))) = some z1 := hsp
      refine lv_iload hx hb dX3_standing_5 (lv_at hl 4 rfl) (W.pc 7 rfl ?_)
      refine lv_iload_n hx hb dX3_standing_7 rfl (lv_at hl 2 rfl) (W.pc 8 rfl ?_)
      refine lv_icmp_ge (tgt := 30) hx hb dX3_standing_8 (by decide) (fun c2 => ?_) (fun c2 => W.pc 11 rfl ?_)
      · have hsp := ip hsp c2
        obtain rfl := Option.some.inj hsp
        exact hk_5 _ (lv_sub hl [0, 1, 2, 3] rfl)
      · have hsp := iq hsp c2
        refine lv_iload_n hx hb dX3_standing_11 rfl (lv_at hl 3 rfl) (W.pc 12 rfl ?_)
        refine lv_aload_n hx hb dX3_standing_12 rfl (lv_at hl 0 rfl) (W.pc 13 rfl ?_)
        refine lv_iload_n hx hb dX3_standing_13 rfl (lv_at hl 1 rfl) (W.pc 14 rfl ?_)
        refine lv_iload hx hb dX3_standing_14 (lv_at hl 4 rfl) (W.pc 16 rfl ?_)
        refine kVR (st1 := [.int (sp_X3_kindAt p1 x4_5 fa0_storeyKinds), .int x3_5]) hX (c_X3_kindAt l E a0 a0_heights a0_storeyKinds a0_storeyTilts p1 x4_5 a0_off a0_year fa0_storeyKinds _ rfl) B_X3_kindAt w_2_165 hK (hP.pick [0, 1] rfl) (q0 := 0) (ci := 1) rfl rfl rfl rfl hl.1 rfl (Nat.le_of_ble_eq_true rfl) ⟨Nat.le_of_ble_eq_true rfl, Nat.le_of_ble_eq_true rfl⟩ dX3_standing_16 rfl (W.pc 19 rfl ?_)
        refine kSR (st1 := [.int (sp_X4_heavy (sp_X3_kindAt p1 x4_5 fa0_storeyKinds)), .int x3_5]) hX (c_X4_heavy l E (sp_X3_kindAt p1 x4_5 fa0_storeyKinds) _ rfl) B_X4_heavy w_2_169 hK (hP.pick [] rfl) rfl hl.1 rfl (Nat.le_of_ble_eq_true rfl) ⟨Nat.le_of_ble_eq_true rfl, Nat.le_of_ble_eq_true rfl⟩ dX3_standing_19 rfl (W.pc 22 rfl ?_)
        refine lv_iadd hx hb dX3_standing_22 (W.pc 23 rfl ?_)
        refine lv_istore_n (lv' := [(3, .int (x3_5 + (sp_X4_heavy (sp_X3_kindAt p1 x4_5 fa0_storeyKinds)))), (0, .ref a0), (1, .int p1), (2, .int p2), (4, .int x4_5)]) hx hb dX3_standing_23 rfl hl (by decide) rfl (fun ls hl => W.pc 24 rfl ?_)
        refine lv_iinc (v := (x4_5 + (1 : Int32))) (lv' := [(4, .int (x4_5 + (1 : Int32))), (3, .int (x3_5 + (sp_X4_heavy (sp_X3_kindAt p1 x4_5 fa0_storeyKinds)))), (0, .ref a0), (1, .int p1), (2, .int p2)]) hx hb dX3_standing_24 hl (k := 4) rfl rfl (by decide) rfl (fun ls hl => W.pc 27 rfl ?_)
        refine lv_goto (tgt := 5) hx hb dX3_standing_27 (by decide) ?_
        exact ih_5 (x3_5 + (sp_X4_heavy (sp_X3_kindAt p1 x4_5 fa0_storeyKinds))) (x4_5 + (1 : Int32)) _ (lv_sub hl [2, 3, 4, 1, 0] rfl) hsp
  obtain ⟨z1, hr_z1, hsp⟩ := bd_s hsp
  refine L_5 z1 (fun ls hl => ?_) FU (0 : Int32) (0 : Int32) _ (lv_sub hl [2, 3, 4, 1, 0] rfl) hr_z1
  refine lv_iconst (v := (0 : Int32)) hx hb dX3_standing_30 (by decide) (W.pc 31 rfl ?_)
  refine lv_istore (lv' := [(4, .int (0 : Int32)), (0, .ref a0), (1, .int p1), (2, .int p2), (3, .int z1.1)]) hx hb dX3_standing_31 hl (by decide) rfl (fun ls hl => W.pc 33 rfl ?_)
  refine lv_iconst (v := (0 : Int32)) hx hb dX3_standing_33 (by decide) (W.pc 34 rfl ?_)
  refine lv_istore (lv' := [(5, .int (0 : Int32)), (4, .int (0 : Int32)), (0, .ref a0), (1, .int p1), (2, .int p2), (3, .int z1.1)]) hx hb dX3_standing_34 hl (by decide) rfl (fun ls hl => W.pc 36 rfl ?_)
  have L_36 : ∀ (fu : Nat) (x3_36 : Int32) (x4_36 : Int32) (x5_36 : Int32), ∀ (ls : Array Slot), lv_has ls 8 [(0, .ref a0), (1, .int p1), (2, .int p2), (3, .int x3_36), (4, .int x4_36), (5, .int x5_36)] → lp_X3_standing_36 p1 p2 fa0_storeyKinds fa0_storeyTilts fu x3_36 x4_36 x5_36 = some z → W p l e (wR 2) s m [.ref a0, .int p1, .int p2].toArray below meth c s.heap [] 0 0 (MQ below (QRd E (some (.int z))) [.ref a0, .int p1, .int p2].toArray s 0 0 (fun _ => False)) (F0 m 36 ls []) := by
    intro fu
    induction fu with
    | zero => intro x3_36 x4_36 x5_36 ls hl hsp; exact absurd (show none = some _ from hsp) (by simp)
    | succ fu ih_36 =>
      intro x3_36 x4_36 x5_36 ls hl hsp
      have hsp : (if p2 ≤ x5_36 then (some p2) else (if (sp_X4_stands (sp_X3_kindAt p1 x5_36 fa0_storeyKinds) (sp_X3_tiltAt p1 x5_36 fa0_storeyTilts) x4_36 (x3_36 - (sp_X4_heavy (sp_X3_kindAt p1 x5_36 fa0_storeyKinds)))) = 0 then (some x5_36) else (lp_X3_standing_36 p1 p2 fa0_storeyKinds fa0_storeyTilts fu (x3_36 - (sp_X4_heavy (sp_X3_kindAt p1 x5_36 fa0_storeyKinds))) (sp_X3_tiltAt p1 x5_36 fa0_storeyTilts) (x5_36 + (1 : Int32))))) = some z := hsp
      refine lv_iload hx hb dX3_standing_36 (lv_at hl 5 rfl) (W.pc 38 rfl ?_)
      refine lv_iload_n hx hb dX3_standing_38 rfl (lv_at hl 2 rfl) (W.pc 39 rfl ?_)
      refine lv_icmp_ge (tgt := 94) hx hb dX3_standing_39 (by decide) (fun c3 => ?_) (fun c3 => W.pc 42 rfl ?_)
      · have hsp := ip hsp c3
        refine lv_iload_n hx hb dX3_standing_94 rfl (lv_at hl 2 rfl) (W.pc 95 rfl ?_)
        obtain rfl := Option.some.inj hsp
        exact rRi hX rfl dX3_standing_95
      · have hsp := iq hsp c3
        refine lv_aload_n hx hb dX3_standing_42 rfl (lv_at hl 0 rfl) (W.pc 43 rfl ?_)
        refine lv_iload_n hx hb dX3_standing_43 rfl (lv_at hl 1 rfl) (W.pc 44 rfl ?_)
        refine lv_iload hx hb dX3_standing_44 (lv_at hl 5 rfl) (W.pc 46 rfl ?_)
        refine kVR (st1 := [.int (sp_X3_kindAt p1 x5_36 fa0_storeyKinds)]) hX (c_X3_kindAt l E a0 a0_heights a0_storeyKinds a0_storeyTilts p1 x5_36 a0_off a0_year fa0_storeyKinds _ rfl) B_X3_kindAt w_2_165 hK (hP.pick [0, 1] rfl) (q0 := 0) (ci := 1) rfl rfl rfl rfl hl.1 rfl (Nat.le_of_ble_eq_true rfl) ⟨Nat.le_of_ble_eq_true rfl, Nat.le_of_ble_eq_true rfl⟩ dX3_standing_46 rfl (W.pc 49 rfl ?_)
        refine lv_istore (lv' := [(6, .int (sp_X3_kindAt p1 x5_36 fa0_storeyKinds)), (0, .ref a0), (1, .int p1), (2, .int p2), (3, .int x3_36), (4, .int x4_36), (5, .int x5_36)]) hx hb dX3_standing_49 hl (by decide) rfl (fun ls hl => W.pc 51 rfl ?_)
        refine lv_aload_n hx hb dX3_standing_51 rfl (lv_at hl 1 rfl) (W.pc 52 rfl ?_)
        refine lv_iload_n hx hb dX3_standing_52 rfl (lv_at hl 2 rfl) (W.pc 53 rfl ?_)
        refine lv_iload hx hb dX3_standing_53 (lv_at hl 6 rfl) (W.pc 55 rfl ?_)
        refine kVR (st1 := [.int (sp_X3_tiltAt p1 x5_36 fa0_storeyTilts)]) hX (c_X3_tiltAt l E a0 a0_heights a0_storeyKinds a0_storeyTilts p1 x5_36 a0_off a0_year fa0_storeyTilts _ rfl) B_X3_tiltAt w_2_172 hK (hP.pick [0, 2] rfl) (q0 := 0) (ci := 1) rfl rfl rfl rfl hl.1 rfl (Nat.le_of_ble_eq_true rfl) ⟨Nat.le_of_ble_eq_true rfl, Nat.le_of_ble_eq_true rfl⟩ dX3_standing_55 rfl (W.pc 58 rfl ?_)
        refine lv_istore (lv' := [(7, .int (sp_X3_tiltAt p1 x5_36 fa0_storeyTilts)), (6, .int (sp_X3_kindAt p1 x5_36 fa0_storeyKinds)), (0, .ref a0), (1, .int p1), (2, .int p2), (3, .int x3_36), (4, .int x4_36), (5, .int x5_36)]) hx hb dX3_standing_58 hl (by decide) rfl (fun ls hl => W.pc 60 rfl ?_)
        refine lv_iload_n hx hb dX3_standing_60 rfl (lv_at hl 5 rfl) (W.pc 61 rfl ?_)
        refine lv_iload hx hb dX3_standing_61 (lv_at hl 1 rfl) (W.pc 63 rfl ?_)
        refine kSR (st1 := [.int (sp_X4_heavy (sp_X3_kindAt p1 x5_36 fa0_storeyKinds)), .int x3_36]) hX (c_X4_heavy l E (sp_X3_kindAt p1 x5_36 fa0_storeyKinds) _ rfl) B_X4_heavy w_2_169 hK (hP.pick [] rfl) rfl hl.1 rfl (Nat.le_of_ble_eq_true rfl) ⟨Nat.le_of_ble_eq_true rfl, Nat.le_of_ble_eq_true rfl⟩ dX3_standing_63 rfl (W.pc 66 rfl ?_)
        refine lv_isub hx hb dX3_standing_66 (W.pc 67 rfl ?_)
        refine lv_istore_n (lv' := [(3, .int (x3_36 - (sp_X4_heavy (sp_X3_kindAt p1 x5_36 fa0_storeyKinds)))), (7, .int (sp_X3_tiltAt p1 x5_36 fa0_storeyTilts)), (6, .int (sp_X3_kindAt p1 x5_36 fa0_storeyKinds)), (0, .ref a0), (1, .int p1), (2, .int p2), (4, .int x4_36), (5, .int x5_36)]) hx hb dX3_standing_67 rfl hl (by decide) rfl (fun ls hl => W.pc 68 rfl ?_)
        refine lv_iload hx hb dX3_standing_68 (lv_at hl 2 rfl) (W.pc 70 rfl ?_)
        refine lv_iload hx hb dX3_standing_70 (lv_at hl 1 rfl) (W.pc 72 rfl ?_)
        refine lv_iload hx hb dX3_standing_72 (lv_at hl 6 rfl) (W.pc 74 rfl ?_)
        refine lv_iload_n hx hb dX3_standing_74 rfl (lv_at hl 0 rfl) (W.pc 75 rfl ?_)
        refine kSR (st1 := [.int (sp_X4_stands (sp_X3_kindAt p1 x5_36 fa0_storeyKinds) (sp_X3_tiltAt p1 x5_36 fa0_storeyTilts) x4_36 (x3_36 - (sp_X4_heavy (sp_X3_kindAt p1 x5_36 fa0_storeyKinds))))]) hX (c_X4_stands l E (sp_X3_kindAt p1 x5_36 fa0_storeyKinds) (sp_X3_tiltAt p1 x5_36 fa0_storeyTilts) x4_36 (x3_36 - (sp_X4_heavy (sp_X3_kindAt p1 x5_36 fa0_storeyKinds))) _ rfl) B_X4_stands w_2_176 hK (hP.pick [] rfl) rfl hl.1 rfl (Nat.le_of_ble_eq_true rfl) ⟨Nat.le_of_ble_eq_true rfl, Nat.le_of_ble_eq_true rfl⟩ dX3_standing_75 rfl (W.pc 78 rfl ?_)
        refine lv_if_ne (tgt := 84) hx hb dX3_standing_78 (by decide) (fun c4 => ?_) (fun c4 => W.pc 81 rfl ?_)
        · have hsp := iq hsp c4
          refine lv_iload hx hb dX3_standing_84 (lv_at hl 1 rfl) (W.pc 86 rfl ?_)
          refine lv_istore (lv' := [(4, .int (sp_X3_tiltAt p1 x5_36 fa0_storeyTilts)), (3, .int (x3_36 - (sp_X4_heavy (sp_X3_kindAt p1 x5_36 fa0_storeyKinds)))), (7, .int (sp_X3_tiltAt p1 x5_36 fa0_storeyTilts)), (6, .int (sp_X3_kindAt p1 x5_36 fa0_storeyKinds)), (0, .ref a0), (1, .int p1), (2, .int p2), (5, .int x5_36)]) hx hb dX3_standing_86 hl (by decide) rfl (fun ls hl => W.pc 88 rfl ?_)
          refine lv_iinc (v := (x5_36 + (1 : Int32))) (lv' := [(5, .int (x5_36 + (1 : Int32))), (4, .int (sp_X3_tiltAt p1 x5_36 fa0_storeyTilts)), (3, .int (x3_36 - (sp_X4_heavy (sp_X3_kindAt p1 x5_36 fa0_storeyKinds)))), (7, .int (sp_X3_tiltAt p1 x5_36 fa0_storeyTilts)), (6, .int (sp_X3_kindAt p1 x5_36 fa0_storeyKinds)), (0, .ref a0), (1, .int p1), (2, .int p2)]) hx hb dX3_standing_88 hl (k := 7) rfl rfl (by decide) rfl (fun ls hl => W.pc 91 rfl ?_)
          refine lv_goto (tgt := 36) hx hb dX3_standing_91 (by decide) ?_
          exact ih_36 (x3_36 - (sp_X4_heavy (sp_X3_kindAt p1 x5_36 fa0_storeyKinds))) (sp_X3_tiltAt p1 x5_36 fa0_storeyTilts) (x5_36 + (1 : Int32)) _ (lv_sub hl [5, 6, 7, 2, 1, 0] rfl) hsp
        · have hsp := ip hsp c4
          refine lv_iload hx hb dX3_standing_81 (lv_at hl 7 rfl) (W.pc 83 rfl ?_)
          obtain rfl := Option.some.inj hsp
          exact rRi hX rfl dX3_standing_83
  exact L_36 FU z1.1 (0 : Int32) (0 : Int32) _ (lv_sub hl [2, 3, 4, 5, 1, 0] rfl) hsp
noncomputable def lp_X3_raise_60 (p1 : Int32) (z2 : (Nat → Int32)) (z3 : (Nat → Int32)) : Nat → Int32 → Int32 → Int32 → Option (Int32 × Int32 × Int32)
 | 0, _, _, _ => none
 | fu + 1, x5_60, x6_60, x7_60 => if (5 : Int32) ≤ x7_60 then (some (x5_60, x6_60, x7_60)) else (if x5_60 ≤ x6_60 then (some (x5_60, x6_60, x7_60)) else (Option.bind (sp_X3_standing p1 x6_60 z2 z3) fun z8 => lp_X3_raise_60 p1 z2 z3 fu x6_60 z8 (x7_60 + (1 : Int32))))
noncomputable def sp_X3_raise (p1 : Int32) (p2 : Int32) (p3 : Int32) (fa0_heights : Nat → Int32) (fa0_storeyKinds : Nat → Int32) (fa0_storeyTilts : Nat → Int32) : Option ((Nat → Int32) × (Nat → Int32) × (Nat → Int32)) := if (sp_X3_height p1 fa0_heights) < (5 : Int32) then (lt_ (sp_X2_put 30 ((p1 * (5 : Int32)) + (sp_X3_height p1 fa0_heights)) p2 fa0_storeyKinds) fun z2 => lt_ (sp_X2_put 30 ((p1 * (5 : Int32)) + (sp_X3_height p1 fa0_heights)) p3 fa0_storeyTilts) fun z3 => Option.bind (sp_X3_standing p1 ((sp_X3_height p1 fa0_heights) + (1 : Int32)) z2 z3) fun z4 => Option.bind (lp_X3_raise_60 p1 z2 z3 FU ((sp_X3_height p1 fa0_heights) + (1 : Int32)) z4 (0 : Int32)) fun z5 => lt_ (sp_X2_put 6 p1 z5.1 fa0_heights) fun z9 => some (z9, z2, z3)) else (some (fa0_heights, fa0_storeyKinds, fa0_storeyTilts))
set_option maxHeartbeats 4000000 in
set_option maxRecDepth 100000 in
theorem c_X3_raise (l : Launch) (E : wE) (a0 a0_heights a0_storeyKinds a0_storeyTilts : Nat) (p1 : Int32) (p2 : Int32) (p3 : Int32) (a0_off : Int32) (a0_year : Int32) (fa0_heights : Nat → Int32) (fa0_storeyKinds : Nat → Int32) (fa0_storeyTilts : Nat → Int32) (z_0 : (Nat → Int32)) (z_1 : (Nat → Int32)) (z_2 : (Nat → Int32)) (hsp : sp_X3_raise p1 p2 p3 fa0_heights fa0_storeyKinds fa0_storeyTilts = some (z_0, z_1, z_2)) : MW l yX3_raise cX3_raise 8 none 3 E [.ref a0, .int p1, .int p2, .int p3] [(a0, .inr (1, [.int a0_off, .int a0_year, .ref a0_heights, .ref a0_storeyKinds, .ref a0_storeyTilts])), (a0_heights, aI E 6 fa0_heights), (a0_storeyKinds, aI E 30 fa0_storeyKinds), (a0_storeyTilts, aI E 30 fa0_storeyTilts)] none [(a0, .inr (1, [.int a0_off, .int a0_year, .ref a0_heights, .ref a0_storeyKinds, .ref a0_storeyTilts])), (a0_heights, aI E 6 z_0), (a0_storeyKinds, aI E 30 z_1), (a0_storeyTilts, aI E 30 z_2)] := by
  refine MW.of (by decide +kernel) (Nat.le_of_ble_eq_true rfl) ?_
  intro p e s m below meth c ls A hX hK hP hD hS hA hl
  have hX : CX p s m [.ref a0, .int p1, .int p2, .int p3].toArray meth c cX3_raise 8 none RX3 := hX
  have hx := hX.1; have hb := hX.2.1; have hts := hX.2.2.2.2.1; have hown := hX.2.2.2.2.2.1
  have hl : lv_has ls 8 [(0, .ref a0), (1, .int p1), (2, .int p2), (3, .int p3)] := hl
  have hP : wP E [(a0, .inr (1, [.int a0_off, .int a0_year, .ref a0_heights, .ref a0_storeyKinds, .ref a0_storeyTilts])), (a0_heights, aI E 6 fa0_heights), (a0_storeyKinds, aI E 30 fa0_storeyKinds), (a0_storeyTilts, aI E 30 fa0_storeyTilts)] s.heap := hP
  have hsp : (if (sp_X3_height p1 fa0_heights) < (5 : Int32) then (lt_ (sp_X2_put 30 ((p1 * (5 : Int32)) + (sp_X3_height p1 fa0_heights)) p2 fa0_storeyKinds) fun z2 => lt_ (sp_X2_put 30 ((p1 * (5 : Int32)) + (sp_X3_height p1 fa0_heights)) p3 fa0_storeyTilts) fun z3 => Option.bind (sp_X3_standing p1 ((sp_X3_height p1 fa0_heights) + (1 : Int32)) z2 z3) fun z4 => Option.bind (lp_X3_raise_60 p1 z2 z3 FU ((sp_X3_height p1 fa0_heights) + (1 : Int32)) z4 (0 : Int32)) fun z5 => lt_ (sp_X2_put 6 p1 z5.1 fa0_heights) fun z9 => some (z9, z2, z3)) else (some (fa0_heights, fa0_storeyKinds, fa0_storeyTilts))) = some (z_0, z_1, z_2) := hsp
  refine lv_aload_n hx hb dX3_raise_0 rfl (lv_at hl 0 rfl) (W.pc 1 rfl ?_)
  refine lv_iload_n hx hb dX3_raise_1 rfl (lv_at hl 1 rfl) (W.pc 2 rfl ?_)
  refine kVR (st1 := [.int (sp_X3_height p1 fa0_heights)]) hX (c_X3_height l E a0 a0_heights a0_storeyKinds a0_storeyTilts p1 a0_off a0_year fa0_heights _ rfl) B_X3_height w_2_2 hK (hP.pick [0, 1] rfl) (q0 := 0) (ci := 1) rfl rfl rfl rfl hl.1 rfl (Nat.le_of_ble_eq_true rfl) ⟨Nat.le_of_ble_eq_true rfl, Nat.le_of_ble_eq_true rfl⟩ dX3_raise_2 rfl (W.pc 5 rfl ?_)
  refine lv_istore (lv' := [(4, .int (sp_X3_height p1 fa0_heights)), (0, .ref a0), (1, .int p1), (2, .int p2), (3, .int p3)]) hx hb dX3_raise_5 hl (by decide) rfl (fun ls hl => W.pc 7 rfl ?_)
  refine lv_iload hx hb dX3_raise_7 (lv_at hl 0 rfl) (W.pc 9 rfl ?_)
  refine lv_iconst (v := (5 : Int32)) hx hb dX3_raise_9 (by decide) (W.pc 10 rfl ?_)
  refine lv_icmp_lt (tgt := 14) hx hb dX3_raise_10 (by decide) (fun c1 => ?_) (fun c1 => W.pc 13 rfl ?_)
  · have hsp := ip hsp c1
    refine lv_aload_n hx hb dX3_raise_14 rfl (lv_at hl 1 rfl) (W.pc 15 rfl ?_)
    refine va_get (D := E.1) (ci := 1) (v := .ref a0_storeyKinds) (C := RX3) (T := TX3) (N := 5) hx hb hts inT_X3 hown hK hP 0 rfl rfl 3 (by decide) (hts _ w_1_47) (fun _ h9 => h9) rfl dX3_raise_15 (W.pc 18 rfl ?_)
    refine lv_iload_n hx hb dX3_raise_18 rfl (lv_at hl 2 rfl) (W.pc 19 rfl ?_)
    refine lv_iconst (v := (5 : Int32)) hx hb dX3_raise_19 (by decide) (W.pc 20 rfl ?_)
    refine lv_imul hx hb dX3_raise_20 (W.pc 21 rfl ?_)
    refine lv_iload hx hb dX3_raise_21 (lv_at hl 0 rfl) (W.pc 23 rfl ?_)
    refine lv_iadd hx hb dX3_raise_23 (W.pc 24 rfl ?_)
    refine lv_iload_n hx hb dX3_raise_24 rfl (lv_at hl 3 rfl) (W.pc 25 rfl ?_)
    obtain ⟨z2, hr_z2, hsp⟩ := ltb_s hsp
    refine kSW (st1 := []) (ws' := [(a0, .inr (1, [.int a0_off, .int a0_year, .ref a0_heights, .ref a0_storeyKinds, .ref a0_storeyTilts])), (a0_heights, aI E 6 fa0_heights), (a0_storeyKinds, aI E 30 z2), (a0_storeyTilts, aI E 30 fa0_storeyTilts)]) [2] hX (c_X2_put l E a0_storeyKinds 30 (by decide) ((p1 * (5 : Int32)) + (sp_X3_height p1 fa0_heights)) p2 fa0_storeyKinds z2 hr_z2) B_X2_put w_2_160 hK hP hD hS hA (by decide) rfl rfl rfl rfl hl.1 rfl (Nat.le_of_ble_eq_true rfl) ⟨Nat.le_of_ble_eq_true rfl, Nat.le_of_ble_eq_true rfl⟩ dX3_raise_25 rfl (fun H locs hP hD hS => W.pc 28 rfl ?_)
    refine lv_aload_n hx hb dX3_raise_28 rfl (lv_at hl 1 rfl) (W.pc 29 rfl ?_)
    refine va_get (D := E.1) (ci := 1) (v := .ref a0_storeyTilts) (C := RX3) (T := TX3) (N := 5) hx hb hts inT_X3 hown hK hP 0 rfl rfl 4 (by decide) (hts _ w_1_48) (fun _ h9 => h9) rfl dX3_raise_29 (W.pc 32 rfl ?_)
    refine lv_iload_n hx hb dX3_raise_32 rfl (lv_at hl 2 rfl) (W.pc 33 rfl ?_)
    refine lv_iconst (v := (5 : Int32)) hx hb dX3_raise_33 (by decide) (W.pc 34 rfl ?_)
    refine lv_imul hx hb dX3_raise_34 (W.pc 35 rfl ?_)
    refine lv_iload hx hb dX3_raise_35 (lv_at hl 0 rfl) (W.pc 37 rfl ?_)
    refine lv_iadd hx hb dX3_raise_37 (W.pc 38 rfl ?_)
    refine lv_iload_n hx hb dX3_raise_38 rfl (lv_at hl 4 rfl) (W.pc 39 rfl ?_)
    obtain ⟨z3, hr_z3, hsp⟩ := ltb_s hsp
    refine kSW (st1 := []) (ws' := [(a0, .inr (1, [.int a0_off, .int a0_year, .ref a0_heights, .ref a0_storeyKinds, .ref a0_storeyTilts])), (a0_heights, aI E 6 fa0_heights), (a0_storeyKinds, aI E 30 z2), (a0_storeyTilts, aI E 30 z3)]) [3] hX (c_X2_put l E a0_storeyTilts 30 (by decide) ((p1 * (5 : Int32)) + (sp_X3_height p1 fa0_heights)) p3 fa0_storeyTilts z3 hr_z3) B_X2_put w_2_160 hK hP hD hS hA (by decide) rfl rfl rfl rfl hl.1 rfl (Nat.le_of_ble_eq_true rfl) ⟨Nat.le_of_ble_eq_true rfl, Nat.le_of_ble_eq_true rfl⟩ dX3_raise_39 rfl (fun H locs hP hD hS => W.pc 42 rfl ?_)
    refine lv_iload hx hb dX3_raise_42 (lv_at hl 0 rfl) (W.pc 44 rfl ?_)
    refine lv_iconst (v := (1 : Int32)) hx hb dX3_raise_44 (by decide) (W.pc 45 rfl ?_)
    refine lv_iadd hx hb dX3_raise_45 (W.pc 46 rfl ?_)
    refine lv_istore (lv' := [(5, .int ((sp_X3_height p1 fa0_heights) + (1 : Int32))), (4, .int (sp_X3_height p1 fa0_heights)), (0, .ref a0), (1, .int p1), (2, .int p2), (3, .int p3)]) hx hb dX3_raise_46 hl (by decide) rfl (fun ls hl => W.pc 48 rfl ?_)
    refine lv_aload_n hx hb dX3_raise_48 rfl (lv_at hl 2 rfl) (W.pc 49 rfl ?_)
    refine lv_iload_n hx hb dX3_raise_49 rfl (lv_at hl 3 rfl) (W.pc 50 rfl ?_)
    refine lv_iload hx hb dX3_raise_50 (lv_at hl 0 rfl) (W.pc 52 rfl ?_)
    obtain ⟨z4, hr_z4, hsp⟩ := bd_s hsp
    refine kVR (st1 := [.int z4]) hX (c_X3_standing l E a0 a0_heights a0_storeyKinds a0_storeyTilts p1 ((sp_X3_height p1 fa0_heights) + (1 : Int32)) a0_off a0_year z2 z3 z4 hr_z4) B_X3_standing w_2_161 hK (hP.pick [0, 2, 3] rfl) (q0 := 0) (ci := 1) rfl rfl rfl rfl hl.1 rfl (Nat.le_of_ble_eq_true rfl) ⟨Nat.le_of_ble_eq_true rfl, Nat.le_of_ble_eq_true rfl⟩ dX3_raise_52 rfl (W.pc 55 rfl ?_)
    refine lv_istore (lv' := [(6, .int z4), (5, .int ((sp_X3_height p1 fa0_heights) + (1 : Int32))), (4, .int (sp_X3_height p1 fa0_heights)), (0, .ref a0), (1, .int p1), (2, .int p2), (3, .int p3)]) hx hb dX3_raise_55 hl (by decide) rfl (fun ls hl => W.pc 57 rfl ?_)
    refine lv_iconst (v := (0 : Int32)) hx hb dX3_raise_57 (by decide) (W.pc 58 rfl ?_)
    refine lv_istore (lv' := [(7, .int (0 : Int32)), (6, .int z4), (5, .int ((sp_X3_height p1 fa0_heights) + (1 : Int32))), (4, .int (sp_X3_height p1 fa0_heights)), (0, .ref a0), (1, .int p1), (2, .int p2), (3, .int p3)]) hx hb dX3_raise_58 hl (by decide) rfl (fun ls hl => W.pc 60 rfl ?_)
    have L_60 : ∀ (z5 : Int32 × Int32 × Int32), (∀ (H : Heap) (locs : List Loc) (ls : Array Slot), wP E [(a0, .inr (1, [.int a0_off, .int a0_year, .ref a0_heights, .ref a0_storeyKinds, .ref a0_storeyTilts])), (a0_heights, aI E 6 fa0_heights), (a0_storeyKinds, aI E 30 z2), (a0_storeyTilts, aI E 30 z3)] H → va_D A [(a0, .inr (1, [.int a0_off, .int a0_year, .ref a0_heights, .ref a0_storeyKinds, .ref a0_storeyTilts])), (a0_heights, aI E 6 fa0_heights), (a0_storeyKinds, aI E 30 z2), (a0_storeyTilts, aI E 30 z3)] → va_S A s.heap H locs → lv_has ls 8 [(0, .ref a0), (1, .int p1), (5, .int z5.1)] → W p l e (wR 3) s m [.ref a0, .int p1, .int p2, .int p3].toArray below meth c H locs 0 0 (MQ below (QWd E A none [(a0, .inr (1, [.int a0_off, .int a0_year, .ref a0_heights, .ref a0_storeyKinds, .ref a0_storeyTilts])), (a0_heights, aI E 6 z_0), (a0_storeyKinds, aI E 30 z_1), (a0_storeyTilts, aI E 30 z_2)]) [.ref a0, .int p1, .int p2, .int p3].toArray s 0 0 A) (F0 m 92 ls [])) → ∀ (fu : Nat) (x5_60 : Int32) (x6_60 : Int32) (x7_60 : Int32), ∀ (H : Heap) (locs : List Loc) (ls : Array Slot), wP E [(a0, .inr (1, [.int a0_off, .int a0_year, .ref a0_heights, .ref a0_storeyKinds, .ref a0_storeyTilts])), (a0_heights, aI E 6 fa0_heights), (a0_storeyKinds, aI E 30 z2), (a0_storeyTilts, aI E 30 z3)] H → va_D A [(a0, .inr (1, [.int a0_off, .int a0_year, .ref a0_heights, .ref a0_storeyKinds, .ref a0_storeyTilts])), (a0_heights, aI E 6 fa0_heights), (a0_storeyKinds, aI E 30 z2), (a0_storeyTilts, aI E 30 z3)] → va_S A s.heap H locs → lv_has ls 8 [(0, .ref a0), (1, .int p1), (5, .int x5_60), (6, .int x6_60), (7, .int x7_60)] → lp_X3_raise_60 p1 z2 z3 fu x5_60 x6_60 x7_60 = some z5 → W p l e (wR 3) s m [.ref a0, .int p1, .int p2, .int p3].toArray below meth c H locs 0 0 (MQ below (QWd E A none [(a0, .inr (1, [.int a0_off, .int a0_year, .ref a0_heights, .ref a0_storeyKinds, .ref a0_storeyTilts])), (a0_heights, aI E 6 z_0), (a0_storeyKinds, aI E 30 z_1), (a0_storeyTilts, aI E 30 z_2)]) [.ref a0, .int p1, .int p2, .int p3].toArray s 0 0 A) (F0 m 60 ls []) := by
      intro z5 hk_60 fu
      induction fu with
      | zero => intro x5_60 x6_60 x7_60 H locs ls hP hD hS hl hsp; exact absurd (show none = some _ from hsp) (by simp)
      | succ fu ih_60 =>
        intro x5_60 x6_60 x7_60 H locs ls hP hD hS hl hsp
        have hsp : (if (5 : Int32) ≤ x7_60 then (some (x5_60, x6_60, x7_60)) else (if x5_60 ≤ x6_60 then (some (x5_60, x6_60, x7_60)) else (Option.bind (sp_X3_standing p1 x6_60 z2 z3) fun z8 => lp_X3_raise_60 p1 z2 z3 fu x6_60 z8 (x7_60 + (1 : Int32))))) = some z5 := hsp
        refine lv_iload hx hb dX3_raise_60 (lv_at hl 4 rfl) (W.pc 62 rfl ?_)
        refine lv_iconst (v := (5 : Int32)) hx hb dX3_raise_62 (by decide) (W.pc 63 rfl ?_)
        refine lv_icmp_ge (tgt := 92) hx hb dX3_raise_63 (by decide) (fun c6 => ?_) (fun c6 => W.pc 66 rfl ?_)
        · have hsp := ip hsp c6
          obtain rfl := Option.some.inj hsp
          exact hk_60 _ _ _ hP hD hS (lv_sub hl [0, 1, 2] rfl)
        · have hsp := iq hsp c6
          refine lv_iload hx hb dX3_raise_66 (lv_at hl 3 rfl) (W.pc 68 rfl ?_)
          refine lv_iload hx hb dX3_raise_68 (lv_at hl 2 rfl) (W.pc 70 rfl ?_)
          refine lv_icmp_ge (tgt := 92) hx hb dX3_raise_70 (by decide) (fun c7 => ?_) (fun c7 => W.pc 73 rfl ?_)
          · have hsp := ip hsp c7
            obtain rfl := Option.some.inj hsp
            exact hk_60 _ _ _ hP hD hS (lv_sub hl [0, 1, 2] rfl)
          · have hsp := iq hsp c7
            refine lv_iload hx hb dX3_raise_73 (lv_at hl 3 rfl) (W.pc 75 rfl ?_)
            refine lv_istore (lv' := [(5, .int x6_60), (0, .ref a0), (1, .int p1), (6, .int x6_60), (7, .int x7_60)]) hx hb dX3_raise_75 hl (by decide) rfl (fun ls hl => W.pc 77 rfl ?_)
            refine lv_aload_n hx hb dX3_raise_77 rfl (lv_at hl 1 rfl) (W.pc 78 rfl ?_)
            refine lv_iload_n hx hb dX3_raise_78 rfl (lv_at hl 2 rfl) (W.pc 79 rfl ?_)
            refine lv_iload hx hb dX3_raise_79 (lv_at hl 0 rfl) (W.pc 81 rfl ?_)
            obtain ⟨z8, hr_z8, hsp⟩ := bd_s hsp
            refine kVR (st1 := [.int z8]) hX (c_X3_standing l E a0 a0_heights a0_storeyKinds a0_storeyTilts p1 x6_60 a0_off a0_year z2 z3 z8 hr_z8) B_X3_standing w_2_161 hK (hP.pick [0, 2, 3] rfl) (q0 := 0) (ci := 1) rfl rfl rfl rfl hl.1 rfl (Nat.le_of_ble_eq_true rfl) ⟨Nat.le_of_ble_eq_true rfl, Nat.le_of_ble_eq_true rfl⟩ dX3_raise_81 rfl (W.pc 84 rfl ?_)
            refine lv_istore (lv' := [(6, .int z8), (5, .int x6_60), (0, .ref a0), (1, .int p1), (7, .int x7_60)]) hx hb dX3_raise_84 hl (by decide) rfl (fun ls hl => W.pc 86 rfl ?_)
            refine lv_iinc (v := (x7_60 + (1 : Int32))) (lv' := [(7, .int (x7_60 + (1 : Int32))), (6, .int z8), (5, .int x6_60), (0, .ref a0), (1, .int p1)]) hx hb dX3_raise_86 hl (k := 4) rfl rfl (by decide) rfl (fun ls hl => W.pc 89 rfl ?_)
            refine lv_goto (tgt := 60) hx hb dX3_raise_89 (by decide) ?_
            exact ih_60 x6_60 z8 (x7_60 + (1 : Int32)) _ _ _ hP hD hS (lv_sub hl [3, 4, 2, 1, 0] rfl) hsp
    obtain ⟨z5, hr_z5, hsp⟩ := bd_s hsp
    refine L_60 z5 (fun H locs ls hP hD hS hl => ?_) FU ((sp_X3_height p1 fa0_heights) + (1 : Int32)) z4 (0 : Int32) _ _ _ hP hD hS (lv_sub hl [4, 5, 2, 1, 0] rfl) hr_z5
    refine lv_aload_n hx hb dX3_raise_92 rfl (lv_at hl 0 rfl) (W.pc 93 rfl ?_)
    refine va_get (D := E.1) (ci := 1) (v := .ref a0_heights) (C := RX3) (T := TX3) (N := 5) hx hb hts inT_X3 hown hK hP 0 rfl rfl 2 (by decide) (hts _ w_1_46) (fun _ h9 => h9) rfl dX3_raise_93 (W.pc 96 rfl ?_)
    refine lv_iload_n hx hb dX3_raise_96 rfl (lv_at hl 1 rfl) (W.pc 97 rfl ?_)
    refine lv_iload hx hb dX3_raise_97 (lv_at hl 2 rfl) (W.pc 99 rfl ?_)
    obtain ⟨z9, hr_z9, hsp⟩ := ltb_s hsp
    refine kSW (st1 := []) (ws' := [(a0, .inr (1, [.int a0_off, .int a0_year, .ref a0_heights, .ref a0_storeyKinds, .ref a0_storeyTilts])), (a0_heights, aI E 6 z9), (a0_storeyKinds, aI E 30 z2), (a0_storeyTilts, aI E 30 z3)]) [1] hX (c_X2_put l E a0_heights 6 (by decide) p1 z5.1 fa0_heights z9 hr_z9) B_X2_put w_2_160 hK hP hD hS hA (by decide) rfl rfl rfl rfl hl.1 rfl (Nat.le_of_ble_eq_true rfl) ⟨Nat.le_of_ble_eq_true rfl, Nat.le_of_ble_eq_true rfl⟩ dX3_raise_99 rfl (fun H locs hP hD hS => W.pc 102 rfl ?_)
    cases hsp
    exact rWv hX hP hS rfl dX3_raise_102
  · have hsp := iq hsp c1
    cases hsp
    exact rWv hX hP hS rfl dX3_raise_13
noncomputable def lp_X3_digested_29 (fa0_heights : Nat → Int32) (fa0_storeyKinds : Nat → Int32) (fa0_storeyTilts : Nat → Int32) (x5_5 : Int32) : Nat → Int64 → Int32 → Option (Int64 × Int32)
 | 0, _, _ => none
 | fu + 1, x3_29, x6_29 => if (sp_X3_height x5_5 fa0_heights) ≤ x6_29 then (some (x3_29, x6_29)) else (lp_X3_digested_29 fa0_heights fa0_storeyKinds fa0_storeyTilts x5_5 fu (((31 : Int64) * (((31 : Int64) * x3_29) + ((sp_X3_kindAt x5_5 x6_29 fa0_storeyKinds)).toInt64)) + ((sp_X3_tiltAt x5_5 x6_29 fa0_storeyTilts)).toInt64) (x6_29 + (1 : Int32)))
noncomputable def lp_X3_digested_5 (fa0_heights : Nat → Int32) (fa0_storeyKinds : Nat → Int32) (fa0_storeyTilts : Nat → Int32) : Nat → Int64 → Int32 → Option (Int64 × Int32)
 | 0, _, _ => none
 | fu + 1, x3_5, x5_5 => if (6 : Int32) ≤ x5_5 then (some (x3_5, x5_5)) else (Option.bind (lp_X3_digested_29 fa0_heights fa0_storeyKinds fa0_storeyTilts x5_5 FU (((31 : Int64) * x3_5) + ((sp_X3_height x5_5 fa0_heights)).toInt64) (0 : Int32)) fun z3 => lp_X3_digested_5 fa0_heights fa0_storeyKinds fa0_storeyTilts fu z3.1 (x5_5 + (1 : Int32)))
noncomputable def sp_X3_digested (p1 : Int64) (fa0_heights : Nat → Int32) (fa0_storeyKinds : Nat → Int32) (fa0_storeyTilts : Nat → Int32) : Option (Int64) := Option.bind (lp_X3_digested_5 fa0_heights fa0_storeyKinds fa0_storeyTilts FU p1 (0 : Int32)) fun z1 => some z1.1
set_option maxHeartbeats 4000000 in
set_option maxRecDepth 100000 in
theorem c_X3_digested (l : Launch) (E : wE) (a0 a0_heights a0_storeyKinds a0_storeyTilts : Nat) (p1 : Int64) (a0_off : Int32) (a0_year : Int32) (fa0_heights : Nat → Int32) (fa0_storeyKinds : Nat → Int32) (fa0_storeyTilts : Nat → Int32) (z : Int64) (hsp : sp_X3_digested p1 fa0_heights fa0_storeyKinds fa0_storeyTilts = some z) : MR l yX3_digested cX3_digested 7 (some .long) 2 E [.ref a0, .long p1] [(a0, .inr (1, [.int a0_off, .int a0_year, .ref a0_heights, .ref a0_storeyKinds, .ref a0_storeyTilts])), (a0_heights, aI E 6 fa0_heights), (a0_storeyKinds, aI E 30 fa0_storeyKinds), (a0_storeyTilts, aI E 30 fa0_storeyTilts)] (some (.long z)) := by
  refine MR.of (by decide +kernel) (Nat.le_of_ble_eq_true rfl) ?_
  intro p e s m below meth c ls hX hK hP hl
  have hX : CX p s m [.ref a0, .long p1].toArray meth c cX3_digested 7 (some .long) RX3 := hX
  have hx := hX.1; have hb := hX.2.1; have hts := hX.2.2.2.2.1; have hown := hX.2.2.2.2.2.1
  have hl : lv_has ls 7 [(0, .ref a0), (1, .long p1)] := hl
  have hsp : (Option.bind (lp_X3_digested_5 fa0_heights fa0_storeyKinds fa0_storeyTilts FU p1 (0 : Int32)) fun z1 => some z1.1) = some z := hsp
  refine lv_lload_n hx hb dX3_digested_0 rfl (lv_at hl 1 rfl) (W.pc 1 rfl ?_)
  refine lv_lstore_n (lv' := [(3, .long p1), (0, .ref a0), (1, .long p1)]) hx hb dX3_digested_1 rfl hl (by decide) rfl (fun ls hl => W.pc 2 rfl ?_)
  refine lv_iconst (v := (0 : Int32)) hx hb dX3_digested_2 (by decide) (W.pc 3 rfl ?_)
  refine lv_istore (lv' := [(5, .int (0 : Int32)), (3, .long p1), (0, .ref a0), (1, .long p1)]) hx hb dX3_digested_3 hl (by decide) rfl (fun ls hl => W.pc 5 rfl ?_)
  have L_5 : ∀ (z1 : Int64 × Int32), (∀ (ls : Array Slot), lv_has ls 7 [(3, .long z1.1)] → W p l e (wR 2) s m [.ref a0, .long p1].toArray below meth c s.heap [] 0 0 (MQ below (QRd E (some (.long z))) [.ref a0, .long p1].toArray s 0 0 (fun _ => False)) (F0 m 84 ls [])) → ∀ (fu : Nat) (x3_5 : Int64) (x5_5 : Int32), ∀ (ls : Array Slot), lv_has ls 7 [(0, .ref a0), (3, .long x3_5), (5, .int x5_5)] → lp_X3_digested_5 fa0_heights fa0_storeyKinds fa0_storeyTilts fu x3_5 x5_5 = some z1 → W p l e (wR 2) s m [.ref a0, .long p1].toArray below meth c s.heap [] 0 0 (MQ below (QRd E (some (.long z))) [.ref a0, .long p1].toArray s 0 0 (fun _ => False)) (F0 m 5 ls []) := by
    intro z1 hk_5 fu
    induction fu with
    | zero => intro x3_5 x5_5 ls hl hsp; exact absurd (show none = some _ from hsp) (by simp)
    | succ fu ih_5 =>
      intro x3_5 x5_5 ls hl hsp
      have hsp : (if (6 : Int32) ≤ x5_5 then (some (x3_5, x5_5)) else (Option.bind (lp_X3_digested_29 fa0_heights fa0_storeyKinds fa0_storeyTilts x5_5 FU (((31 : Int64) * x3_5) + ((sp_X3_height x5_5 fa0_heights)).toInt64) (0 : Int32)) fun z3 => lp_X3_digested_5 fa0_heights fa0_storeyKinds fa0_storeyTilts fu z3.1 (x5_5 + (1 : Int32)))) = some z1 := hsp
      refine lv_iload hx hb dX3_digested_5 (lv_at hl 2 rfl) (W.pc 7 rfl ?_)
      refine lv_bipush (v := (6 : Int32)) hx hb dX3_digested_7 (by decide) (W.pc 9 rfl ?_)
      refine lv_icmp_ge (tgt := 84) hx hb dX3_digested_9 (by decide) (fun c2 => ?_) (fun c2 => W.pc 12 rfl ?_)
      · have hsp := ip hsp c2
        obtain rfl := Option.some.inj hsp
        exact hk_5 _ (lv_sub hl [1] rfl)
      · have hsp := iq hsp c2
        refine lv_ldc2 (v := (31 : Int64)) hx hb hown (hts _ w_4_61) dX3_digested_12 (W.pc 15 rfl ?_)
        refine lv_lload_n hx hb dX3_digested_15 rfl (lv_at hl 1 rfl) (W.pc 16 rfl ?_)
        refine lv_lmul hx hb dX3_digested_16 (W.pc 17 rfl ?_)
        refine lv_aload_n hx hb dX3_digested_17 rfl (lv_at hl 0 rfl) (W.pc 18 rfl ?_)
        refine lv_iload hx hb dX3_digested_18 (lv_at hl 2 rfl) (W.pc 20 rfl ?_)
        refine kVR (st1 := [.int (sp_X3_height x5_5 fa0_heights), .long ((31 : Int64) * x3_5)]) hX (c_X3_height l E a0 a0_heights a0_storeyKinds a0_storeyTilts x5_5 a0_off a0_year fa0_heights _ rfl) B_X3_height w_2_2 hK (hP.pick [0, 1] rfl) (q0 := 0) (ci := 1) rfl rfl rfl rfl hl.1 rfl (Nat.le_of_ble_eq_true rfl) ⟨Nat.le_of_ble_eq_true rfl, Nat.le_of_ble_eq_true rfl⟩ dX3_digested_20 rfl (W.pc 23 rfl ?_)
        refine lv_i2l (v := ((sp_X3_height x5_5 fa0_heights)).toInt64) hx hb dX3_digested_23 rfl (W.pc 24 rfl ?_)
        refine lv_ladd hx hb dX3_digested_24 (W.pc 25 rfl ?_)
        refine lv_lstore_n (lv' := [(3, .long (((31 : Int64) * x3_5) + ((sp_X3_height x5_5 fa0_heights)).toInt64)), (0, .ref a0), (5, .int x5_5)]) hx hb dX3_digested_25 rfl hl (by decide) rfl (fun ls hl => W.pc 26 rfl ?_)
        refine lv_iconst (v := (0 : Int32)) hx hb dX3_digested_26 (by decide) (W.pc 27 rfl ?_)
        refine lv_istore (lv' := [(6, .int (0 : Int32)), (3, .long (((31 : Int64) * x3_5) + ((sp_X3_height x5_5 fa0_heights)).toInt64)), (0, .ref a0), (5, .int x5_5)]) hx hb dX3_digested_27 hl (by decide) rfl (fun ls hl => W.pc 29 rfl ?_)
        have L_29 : ∀ (z3 : Int64 × Int32), (∀ (ls : Array Slot), lv_has ls 7 [(0, .ref a0), (3, .long z3.1), (5, .int x5_5)] → W p l e (wR 2) s m [.ref a0, .long p1].toArray below meth c s.heap [] 0 0 (MQ below (QRd E (some (.long z))) [.ref a0, .long p1].toArray s 0 0 (fun _ => False)) (F0 m 78 ls [])) → ∀ (fu : Nat) (x3_29 : Int64) (x6_29 : Int32), ∀ (ls : Array Slot), lv_has ls 7 [(0, .ref a0), (3, .long x3_29), (5, .int x5_5), (6, .int x6_29)] → lp_X3_digested_29 fa0_heights fa0_storeyKinds fa0_storeyTilts x5_5 fu x3_29 x6_29 = some z3 → W p l e (wR 2) s m [.ref a0, .long p1].toArray below meth c s.heap [] 0 0 (MQ below (QRd E (some (.long z))) [.ref a0, .long p1].toArray s 0 0 (fun _ => False)) (F0 m 29 ls []) := by
          intro z3 hk_29 fu
          induction fu with
          | zero => intro x3_29 x6_29 ls hl hsp; exact absurd (show none = some _ from hsp) (by simp)
          | succ fu ih_29 =>
            intro x3_29 x6_29 ls hl hsp
            have hsp : (if (sp_X3_height x5_5 fa0_heights) ≤ x6_29 then (some (x3_29, x6_29)) else (lp_X3_digested_29 fa0_heights fa0_storeyKinds fa0_storeyTilts x5_5 fu (((31 : Int64) * (((31 : Int64) * x3_29) + ((sp_X3_kindAt x5_5 x6_29 fa0_storeyKinds)).toInt64)) + ((sp_X3_tiltAt x5_5 x6_29 fa0_storeyTilts)).toInt64) (x6_29 + (1 : Int32)))) = some z3 := hsp
            refine lv_iload hx hb dX3_digested_29 (lv_at hl 3 rfl) (W.pc 31 rfl ?_)
            refine lv_aload_n hx hb dX3_digested_31 rfl (lv_at hl 0 rfl) (W.pc 32 rfl ?_)
            refine lv_iload hx hb dX3_digested_32 (lv_at hl 2 rfl) (W.pc 34 rfl ?_)
            refine kVR (st1 := [.int (sp_X3_height x5_5 fa0_heights), .int x6_29]) hX (c_X3_height l E a0 a0_heights a0_storeyKinds a0_storeyTilts x5_5 a0_off a0_year fa0_heights _ rfl) B_X3_height w_2_2 hK (hP.pick [0, 1] rfl) (q0 := 0) (ci := 1) rfl rfl rfl rfl hl.1 rfl (Nat.le_of_ble_eq_true rfl) ⟨Nat.le_of_ble_eq_true rfl, Nat.le_of_ble_eq_true rfl⟩ dX3_digested_34 rfl (W.pc 37 rfl ?_)
            refine lv_icmp_ge (tgt := 78) hx hb dX3_digested_37 (by decide) (fun c4 => ?_) (fun c4 => W.pc 40 rfl ?_)
            · have hsp := ip hsp c4
              obtain rfl := Option.some.inj hsp
              exact hk_29 _ (lv_sub hl [0, 1, 2] rfl)
            · have hsp := iq hsp c4
              refine lv_ldc2 (v := (31 : Int64)) hx hb hown (hts _ w_4_61) dX3_digested_40 (W.pc 43 rfl ?_)
              refine lv_lload_n hx hb dX3_digested_43 rfl (lv_at hl 1 rfl) (W.pc 44 rfl ?_)
              refine lv_lmul hx hb dX3_digested_44 (W.pc 45 rfl ?_)
              refine lv_aload_n hx hb dX3_digested_45 rfl (lv_at hl 0 rfl) (W.pc 46 rfl ?_)
              refine lv_iload hx hb dX3_digested_46 (lv_at hl 2 rfl) (W.pc 48 rfl ?_)
              refine lv_iload hx hb dX3_digested_48 (lv_at hl 3 rfl) (W.pc 50 rfl ?_)
              refine kVR (st1 := [.int (sp_X3_kindAt x5_5 x6_29 fa0_storeyKinds), .long ((31 : Int64) * x3_29)]) hX (c_X3_kindAt l E a0 a0_heights a0_storeyKinds a0_storeyTilts x5_5 x6_29 a0_off a0_year fa0_storeyKinds _ rfl) B_X3_kindAt w_2_165 hK (hP.pick [0, 2] rfl) (q0 := 0) (ci := 1) rfl rfl rfl rfl hl.1 rfl (Nat.le_of_ble_eq_true rfl) ⟨Nat.le_of_ble_eq_true rfl, Nat.le_of_ble_eq_true rfl⟩ dX3_digested_50 rfl (W.pc 53 rfl ?_)
              refine lv_i2l (v := ((sp_X3_kindAt x5_5 x6_29 fa0_storeyKinds)).toInt64) hx hb dX3_digested_53 rfl (W.pc 54 rfl ?_)
              refine lv_ladd hx hb dX3_digested_54 (W.pc 55 rfl ?_)
              refine lv_lstore_n (lv' := [(3, .long (((31 : Int64) * x3_29) + ((sp_X3_kindAt x5_5 x6_29 fa0_storeyKinds)).toInt64)), (0, .ref a0), (5, .int x5_5), (6, .int x6_29)]) hx hb dX3_digested_55 rfl hl (by decide) rfl (fun ls hl => W.pc 56 rfl ?_)
              refine lv_ldc2 (v := (31 : Int64)) hx hb hown (hts _ w_4_61) dX3_digested_56 (W.pc 59 rfl ?_)
              refine lv_lload_n hx hb dX3_digested_59 rfl (lv_at hl 0 rfl) (W.pc 60 rfl ?_)
              refine lv_lmul hx hb dX3_digested_60 (W.pc 61 rfl ?_)
              refine lv_aload_n hx hb dX3_digested_61 rfl (lv_at hl 1 rfl) (W.pc 62 rfl ?_)
              refine lv_iload hx hb dX3_digested_62 (lv_at hl 2 rfl) (W.pc 64 rfl ?_)
              refine lv_iload hx hb dX3_digested_64 (lv_at hl 3 rfl) (W.pc 66 rfl ?_)
              refine kVR (st1 := [.int (sp_X3_tiltAt x5_5 x6_29 fa0_storeyTilts), .long ((31 : Int64) * (((31 : Int64) * x3_29) + ((sp_X3_kindAt x5_5 x6_29 fa0_storeyKinds)).toInt64))]) hX (c_X3_tiltAt l E a0 a0_heights a0_storeyKinds a0_storeyTilts x5_5 x6_29 a0_off a0_year fa0_storeyTilts _ rfl) B_X3_tiltAt w_2_172 hK (hP.pick [0, 3] rfl) (q0 := 0) (ci := 1) rfl rfl rfl rfl hl.1 rfl (Nat.le_of_ble_eq_true rfl) ⟨Nat.le_of_ble_eq_true rfl, Nat.le_of_ble_eq_true rfl⟩ dX3_digested_66 rfl (W.pc 69 rfl ?_)
              refine lv_i2l (v := ((sp_X3_tiltAt x5_5 x6_29 fa0_storeyTilts)).toInt64) hx hb dX3_digested_69 rfl (W.pc 70 rfl ?_)
              refine lv_ladd hx hb dX3_digested_70 (W.pc 71 rfl ?_)
              refine lv_lstore_n (lv' := [(3, .long (((31 : Int64) * (((31 : Int64) * x3_29) + ((sp_X3_kindAt x5_5 x6_29 fa0_storeyKinds)).toInt64)) + ((sp_X3_tiltAt x5_5 x6_29 fa0_storeyTilts)).toInt64)), (0, .ref a0), (5, .int x5_5), (6, .int x6_29)]) hx hb dX3_digested_71 rfl hl (by decide) rfl (fun ls hl => W.pc 72 rfl ?_)
              refine lv_iinc (v := (x6_29 + (1 : Int32))) (lv' := [(6, .int (x6_29 + (1 : Int32))), (3, .long (((31 : Int64) * (((31 : Int64) * x3_29) + ((sp_X3_kindAt x5_5 x6_29 fa0_storeyKinds)).toInt64)) + ((sp_X3_tiltAt x5_5 x6_29 fa0_storeyTilts)).toInt64)), (0, .ref a0), (5, .int x5_5)]) hx hb dX3_digested_72 hl (k := 3) rfl rfl (by decide) rfl (fun ls hl => W.pc 75 rfl ?_)
              refine lv_goto (tgt := 29) hx hb dX3_digested_75 (by decide) ?_
              exact ih_29 (((31 : Int64) * (((31 : Int64) * x3_29) + ((sp_X3_kindAt x5_5 x6_29 fa0_storeyKinds)).toInt64)) + ((sp_X3_tiltAt x5_5 x6_29 fa0_storeyTilts)).toInt64) (x6_29 + (1 : Int32)) _ (lv_sub hl [2, 1, 3, 0] rfl) hsp
        obtain ⟨z3, hr_z3, hsp⟩ := bd_s hsp
        refine L_29 z3 (fun ls hl => ?_) FU (((31 : Int64) * x3_5) + ((sp_X3_height x5_5 fa0_heights)).toInt64) (0 : Int32) _ (lv_sub hl [2, 1, 3, 0] rfl) hr_z3
        refine lv_iinc (v := (x5_5 + (1 : Int32))) (lv' := [(5, .int (x5_5 + (1 : Int32))), (0, .ref a0), (3, .long z3.1)]) hx hb dX3_digested_78 hl (k := 2) rfl rfl (by decide) rfl (fun ls hl => W.pc 81 rfl ?_)
        refine lv_goto (tgt := 5) hx hb dX3_digested_81 (by decide) ?_
        exact ih_5 z3.1 (x5_5 + (1 : Int32)) _ (lv_sub hl [1, 2, 0] rfl) hsp
  obtain ⟨z1, hr_z1, hsp⟩ := bd_s hsp
  refine L_5 z1 (fun ls hl => ?_) FU p1 (0 : Int32) _ (lv_sub hl [2, 1, 0] rfl) hr_z1
  refine lv_lload_n hx hb dX3_digested_84 rfl (lv_at hl 0 rfl) (W.pc 85 rfl ?_)
  obtain rfl := Option.some.inj hsp
  exact rRl hX rfl dX3_digested_85
