theorem w_3_202 : Cond.methodLink RX7 264 yX6_marksFit ∈ TBL := TBL_t (tin3 (List.mem_of_getElem? (i := 202) (by decide +kernel))) (by decide +kernel)
theorem w_3_211 : Cond.methodLink RX7 267 yX7_kinds ∈ TBL := TBL_t (tin3 (List.mem_of_getElem? (i := 211) (by decide +kernel))) (by decide +kernel)
theorem w_3_212 : Cond.methodLink RX7 270 yX7_greaterPart ∈ TBL := TBL_t (tin3 (List.mem_of_getElem? (i := 212) (by decide +kernel))) (by decide +kernel)
theorem w_3_220 : Cond.methodLink RX7 273 yX7_carrierGets ∈ TBL := TBL_t (tin3 (List.mem_of_getElem? (i := 220) (by decide +kernel))) (by decide +kernel)
theorem w_3_228 : Cond.methodLink RX7 276 yX7_keeperGets ∈ TBL := TBL_t (tin3 (List.mem_of_getElem? (i := 228) (by decide +kernel))) (by decide +kernel)
theorem w_4_16 : Cond.constant RX7 290 (999999 : Int32) ∈ TBL := TBL_t (tin4 (List.mem_of_getElem? (i := 16) (by decide +kernel))) (by decide +kernel)
theorem w_4_17 : Cond.constantLong RX7 291 (1103515245 : Int64) ∈ TBL := TBL_t (tin4 (List.mem_of_getElem? (i := 17) (by decide +kernel))) (by decide +kernel)
theorem w_4_18 : Cond.constantLong RX7 293 (12345 : Int64) ∈ TBL := TBL_t (tin4 (List.mem_of_getElem? (i := 18) (by decide +kernel))) (by decide +kernel)
theorem w_4_19 : Cond.constantLong RX7 295 (2147483648 : Int64) ∈ TBL := TBL_t (tin4 (List.mem_of_getElem? (i := 19) (by decide +kernel))) (by decide +kernel)
theorem w_4_20 : Cond.constantLong RX7 297 (65536 : Int64) ∈ TBL := TBL_t (tin4 (List.mem_of_getElem? (i := 20) (by decide +kernel))) (by decide +kernel)
theorem w_4_21 : Cond.constantLong RX7 299 (19 : Int64) ∈ TBL := TBL_t (tin4 (List.mem_of_getElem? (i := 21) (by decide +kernel))) (by decide +kernel)
theorem w_4_50 : Cond.constantLong RX7 320 (1489 : Int64) ∈ TBL := TBL_t (tin4 (List.mem_of_getElem? (i := 50) (by decide +kernel))) (by decide +kernel)
theorem w_4_51 : Cond.constantLong RX7 322 (31 : Int64) ∈ TBL := TBL_t (tin4 (List.mem_of_getElem? (i := 51) (by decide +kernel))) (by decide +kernel)
theorem w_4_52 : Cond.methodLink RX7 324 yX7_count ∈ TBL := TBL_t (tin4 (List.mem_of_getElem? (i := 52) (by decide +kernel))) (by decide +kernel)
theorem w_4_53 : Cond.methodLink RX7 327 yX2_digested ∈ TBL := TBL_t (tin4 (List.mem_of_getElem? (i := 53) (by decide +kernel))) (by decide +kernel)
theorem w_4_57 : Cond.methodLink RX7 331 yX3_digested ∈ TBL := TBL_t (tin4 (List.mem_of_getElem? (i := 57) (by decide +kernel))) (by decide +kernel)
theorem w_3_204 : Cond.selects yX6_marksFit.cls yX6_marksFit yX6_marksFit ∈ TBL := TBL_t (tin3 (List.mem_of_getElem? (i := 204) (by decide +kernel))) (by decide +kernel)
theorem w_3_205 : Cond.code yX6_marksFit cX6_marksFit 9 (some .boolean) ∈ TBL := TBL_t (tin3 (List.mem_of_getElem? (i := 205) (by decide +kernel))) (by decide +kernel)
theorem w_3_203 : Cond.instanceMethod yX6_marksFit ∈ TBL := TBL_t (tin3 (List.mem_of_getElem? (i := 203) (by decide +kernel))) (by decide +kernel)
theorem w_3_200 : Cond.selects yX7_kinds.cls yX7_kinds yX7_kinds ∈ TBL := TBL_t (tin3 (List.mem_of_getElem? (i := 200) (by decide +kernel))) (by decide +kernel)
theorem w_3_201 : Cond.code yX7_kinds cX7_kinds 4 (some .int) ∈ TBL := TBL_t (tin3 (List.mem_of_getElem? (i := 201) (by decide +kernel))) (by decide +kernel)
theorem w_3_199 : Cond.instanceMethod yX7_kinds ∈ TBL := TBL_t (tin3 (List.mem_of_getElem? (i := 199) (by decide +kernel))) (by decide +kernel)
theorem w_3_214 : Cond.code yX7_greaterPart cX7_greaterPart 5 (some .int) ∈ TBL := TBL_t (tin3 (List.mem_of_getElem? (i := 214) (by decide +kernel))) (by decide +kernel)
theorem w_3_213 : Cond.static yX7_greaterPart ∈ TBL := TBL_t (tin3 (List.mem_of_getElem? (i := 213) (by decide +kernel))) (by decide +kernel)
theorem w_3_223 : Cond.code yX7_carrierGets cX7_carrierGets 2 (some .int) ∈ TBL := TBL_t (tin3 (List.mem_of_getElem? (i := 223) (by decide +kernel))) (by decide +kernel)
theorem w_3_222 : Cond.instanceMethod yX7_carrierGets ∈ TBL := TBL_t (tin3 (List.mem_of_getElem? (i := 222) (by decide +kernel))) (by decide +kernel)
theorem w_3_231 : Cond.code yX7_keeperGets cX7_keeperGets 2 (some .int) ∈ TBL := TBL_t (tin3 (List.mem_of_getElem? (i := 231) (by decide +kernel))) (by decide +kernel)
theorem w_3_230 : Cond.instanceMethod yX7_keeperGets ∈ TBL := TBL_t (tin3 (List.mem_of_getElem? (i := 230) (by decide +kernel))) (by decide +kernel)
theorem w_4_44 : Cond.selects yX7_count.cls yX7_count yX7_count ∈ TBL := TBL_t (tin4 (List.mem_of_getElem? (i := 44) (by decide +kernel))) (by decide +kernel)
theorem w_4_45 : Cond.code yX7_count cX7_count 2 (some .int) ∈ TBL := TBL_t (tin4 (List.mem_of_getElem? (i := 45) (by decide +kernel))) (by decide +kernel)
theorem w_4_43 : Cond.instanceMethod yX7_count ∈ TBL := TBL_t (tin4 (List.mem_of_getElem? (i := 43) (by decide +kernel))) (by decide +kernel)
theorem w_4_55 : Cond.code yX2_digested cX2_digested 7 (some .long) ∈ TBL := TBL_t (tin4 (List.mem_of_getElem? (i := 55) (by decide +kernel))) (by decide +kernel)
theorem w_4_54 : Cond.static yX2_digested ∈ TBL := TBL_t (tin4 (List.mem_of_getElem? (i := 54) (by decide +kernel))) (by decide +kernel)
theorem w_4_59 : Cond.selects yX3_digested.cls yX3_digested yX3_digested ∈ TBL := TBL_t (tin4 (List.mem_of_getElem? (i := 59) (by decide +kernel))) (by decide +kernel)
theorem w_4_60 : Cond.code yX3_digested cX3_digested 7 (some .long) ∈ TBL := TBL_t (tin4 (List.mem_of_getElem? (i := 60) (by decide +kernel))) (by decide +kernel)
theorem w_4_58 : Cond.instanceMethod yX3_digested ∈ TBL := TBL_t (tin4 (List.mem_of_getElem? (i := 58) (by decide +kernel))) (by decide +kernel)
theorem ws_22 : Cond.selects yX7_carrierGets.cls yX7_carrierGets yX7_carrierGets ∈ TBL := TBL_s (List.mem_of_getElem? (i := 22) (by decide +kernel)) (by decide +kernel)
theorem ws_24 : Cond.selects yX7_keeperGets.cls yX7_keeperGets yX7_keeperGets ∈ TBL := TBL_s (List.mem_of_getElem? (i := 24) (by decide +kernel)) (by decide +kernel)
theorem B_X6_marksFit : cV yX6_marksFit cX6_marksFit 9 (some .boolean) 2 := ⟨w_3_205, w_3_203, w_3_204, w_1_2, by decide +kernel⟩
theorem B_X7_kinds : cV yX7_kinds cX7_kinds 4 (some .int) 1 := ⟨w_3_201, w_3_199, w_3_200, w_1_1, by decide +kernel⟩
theorem B_X7_greaterPart : cS yX7_greaterPart cX7_greaterPart 5 (some .int) 3 := ⟨w_3_214, w_3_213, w_1_1, by decide +kernel⟩
theorem B_X7_carrierGets : cV yX7_carrierGets cX7_carrierGets 2 (some .int) 1 := ⟨w_3_223, w_3_222, (ws_22), w_1_1, by decide +kernel⟩
theorem B_X7_keeperGets : cV yX7_keeperGets cX7_keeperGets 2 (some .int) 1 := ⟨w_3_231, w_3_230, (ws_24), w_1_1, by decide +kernel⟩
theorem B_X7_count : cV yX7_count cX7_count 2 (some .int) 1 := ⟨w_4_45, w_4_43, w_4_44, w_1_1, by decide +kernel⟩
theorem B_X2_digested : cS yX2_digested cX2_digested 7 (some .long) 3 := ⟨w_4_55, w_4_54, w_1_7, by decide +kernel⟩
theorem B_X3_digested : cV yX3_digested cX3_digested 7 (some .long) 1 := ⟨w_4_60, w_4_58, w_4_59, w_1_3, by decide +kernel⟩
theorem dX7_kinds_0 : decode cX7_kinds 0 = .ok (.iload_n 1, 1) := by decide +kernel
theorem dX7_kinds_1 : decode cX7_kinds 1 = .ok (.invokestatic 245, 3) := by decide +kernel
theorem dX7_kinds_4 : decode cX7_kinds 4 = .ok (.ifCond .ne 10, 3) := by decide +kernel
theorem dX7_kinds_7 : decode cX7_kinds 7 = .ok (.aload_n 0, 1) := by decide +kernel
theorem dX7_kinds_8 : decode cX7_kinds 8 = .ok (.bipush (-2), 2) := by decide +kernel
theorem dX7_kinds_10 : decode cX7_kinds 10 = .ok (.invokevirtual 62, 3) := by decide +kernel
theorem dX7_kinds_13 : decode cX7_kinds 13 = .ok (.ireturn, 1) := by decide +kernel
theorem dX7_kinds_14 : decode cX7_kinds 14 = .ok (.iconst 0, 1) := by decide +kernel
theorem dX7_kinds_15 : decode cX7_kinds 15 = .ok (.istore_n 2, 1) := by decide +kernel
theorem dX7_kinds_16 : decode cX7_kinds 16 = .ok (.iconst 0, 1) := by decide +kernel
theorem dX7_kinds_17 : decode cX7_kinds 17 = .ok (.istore_n 3, 1) := by decide +kernel
theorem dX7_kinds_18 : decode cX7_kinds 18 = .ok (.iload_n 3, 1) := by decide +kernel
theorem dX7_kinds_19 : decode cX7_kinds 19 = .ok (.bipush 6, 2) := by decide +kernel
theorem dX7_kinds_21 : decode cX7_kinds 21 = .ok (.if_icmp .ge 27, 3) := by decide +kernel
theorem dX7_kinds_24 : decode cX7_kinds 24 = .ok (.aload_n 0, 1) := by decide +kernel
theorem dX7_kinds_25 : decode cX7_kinds 25 = .ok (.getfield 10, 3) := by decide +kernel
theorem dX7_kinds_28 : decode cX7_kinds 28 = .ok (.iload_n 1, 1) := by decide +kernel
theorem dX7_kinds_29 : decode cX7_kinds 29 = .ok (.iload_n 3, 1) := by decide +kernel
theorem dX7_kinds_30 : decode cX7_kinds 30 = .ok (.invokevirtual 264, 3) := by decide +kernel
theorem dX7_kinds_33 : decode cX7_kinds 33 = .ok (.ifCond .eq 9, 3) := by decide +kernel
theorem dX7_kinds_36 : decode cX7_kinds 36 = .ok (.iload_n 2, 1) := by decide +kernel
theorem dX7_kinds_37 : decode cX7_kinds 37 = .ok (.iconst 1, 1) := by decide +kernel
theorem dX7_kinds_38 : decode cX7_kinds 38 = .ok (.iload_n 3, 1) := by decide +kernel
theorem dX7_kinds_39 : decode cX7_kinds 39 = .ok (.ishl, 1) := by decide +kernel
theorem dX7_kinds_40 : decode cX7_kinds 40 = .ok (.ior, 1) := by decide +kernel
theorem dX7_kinds_41 : decode cX7_kinds 41 = .ok (.istore_n 2, 1) := by decide +kernel
theorem dX7_kinds_42 : decode cX7_kinds 42 = .ok (.iinc 3 1, 3) := by decide +kernel
theorem dX7_kinds_45 : decode cX7_kinds 45 = .ok (.goto (-27), 3) := by decide +kernel
theorem dX7_kinds_48 : decode cX7_kinds 48 = .ok (.iload_n 2, 1) := by decide +kernel
theorem dX7_kinds_49 : decode cX7_kinds 49 = .ok (.ireturn, 1) := by decide +kernel
theorem dX7_tries_0 : decode cX7_tries 0 = .ok (.iload_n 1, 1) := by decide +kernel
theorem dX7_tries_1 : decode cX7_tries 1 = .ok (.invokestatic 245, 3) := by decide +kernel
theorem dX7_tries_4 : decode cX7_tries 4 = .ok (.ifCond .ne 10, 3) := by decide +kernel
theorem dX7_tries_7 : decode cX7_tries 7 = .ok (.aload_n 0, 1) := by decide +kernel
theorem dX7_tries_8 : decode cX7_tries 8 = .ok (.bipush (-2), 2) := by decide +kernel
theorem dX7_tries_10 : decode cX7_tries 10 = .ok (.invokevirtual 62, 3) := by decide +kernel
theorem dX7_tries_13 : decode cX7_tries 13 = .ok (.ireturn, 1) := by decide +kernel
theorem dX7_tries_14 : decode cX7_tries 14 = .ok (.aload_n 0, 1) := by decide +kernel
theorem dX7_tries_15 : decode cX7_tries 15 = .ok (.iload_n 1, 1) := by decide +kernel
theorem dX7_tries_16 : decode cX7_tries 16 = .ok (.invokevirtual 267, 3) := by decide +kernel
theorem dX7_tries_19 : decode cX7_tries 19 = .ok (.istore_n 2, 1) := by decide +kernel
theorem dX7_tries_20 : decode cX7_tries 20 = .ok (.iconst (-1), 1) := by decide +kernel
theorem dX7_tries_21 : decode cX7_tries 21 = .ok (.istore_n 3, 1) := by decide +kernel
theorem dX7_tries_22 : decode cX7_tries 22 = .ok (.bipush 7, 2) := by decide +kernel
theorem dX7_tries_24 : decode cX7_tries 24 = .ok (.istore 4, 2) := by decide +kernel
theorem dX7_tries_26 : decode cX7_tries 26 = .ok (.iload_n 2, 1) := by decide +kernel
theorem dX7_tries_27 : decode cX7_tries 27 = .ok (.ifCond .ne 5, 3) := by decide +kernel
theorem dX7_tries_30 : decode cX7_tries 30 = .ok (.iconst (-1), 1) := by decide +kernel
theorem dX7_tries_31 : decode cX7_tries 31 = .ok (.ireturn, 1) := by decide +kernel
theorem dX7_tries_32 : decode cX7_tries 32 = .ok (.iconst 0, 1) := by decide +kernel
theorem dX7_tries_33 : decode cX7_tries 33 = .ok (.istore 5, 2) := by decide +kernel
theorem dX7_tries_35 : decode cX7_tries 35 = .ok (.iload 5, 2) := by decide +kernel
theorem dX7_tries_37 : decode cX7_tries 37 = .ok (.bipush 9, 2) := by decide +kernel
theorem dX7_tries_39 : decode cX7_tries 39 = .ok (.if_icmp .gt 55, 3) := by decide +kernel
theorem dX7_tries_42 : decode cX7_tries 42 = .ok (.iconst 0, 1) := by decide +kernel
theorem dX7_tries_43 : decode cX7_tries 43 = .ok (.istore 6, 2) := by decide +kernel
theorem dX7_tries_45 : decode cX7_tries 45 = .ok (.iload 6, 2) := by decide +kernel
theorem dX7_tries_47 : decode cX7_tries 47 = .ok (.bipush 9, 2) := by decide +kernel
theorem dX7_tries_49 : decode cX7_tries 49 = .ok (.if_icmp .gt 39, 3) := by decide +kernel
theorem dX7_tries_52 : decode cX7_tries 52 = .ok (.iload_n 2, 1) := by decide +kernel
theorem dX7_tries_53 : decode cX7_tries 53 = .ok (.iload 5, 2) := by decide +kernel
theorem dX7_tries_55 : decode cX7_tries 55 = .ok (.iload 6, 2) := by decide +kernel
theorem dX7_tries_57 : decode cX7_tries 57 = .ok (.invokestatic 270, 3) := by decide +kernel
theorem dX7_tries_60 : decode cX7_tries 60 = .ok (.istore 7, 2) := by decide +kernel
theorem dX7_tries_62 : decode cX7_tries 62 = .ok (.iload 7, 2) := by decide +kernel
theorem dX7_tries_64 : decode cX7_tries 64 = .ok (.iload 4, 2) := by decide +kernel
theorem dX7_tries_66 : decode cX7_tries 66 = .ok (.if_icmp .ge 16, 3) := by decide +kernel
theorem dX7_tries_69 : decode cX7_tries 69 = .ok (.iload 7, 2) := by decide +kernel
theorem dX7_tries_71 : decode cX7_tries 71 = .ok (.istore 4, 2) := by decide +kernel
theorem dX7_tries_73 : decode cX7_tries 73 = .ok (.bipush 100, 2) := by decide +kernel
theorem dX7_tries_75 : decode cX7_tries 75 = .ok (.iload 5, 2) := by decide +kernel
theorem dX7_tries_77 : decode cX7_tries 77 = .ok (.imul, 1) := by decide +kernel
theorem dX7_tries_78 : decode cX7_tries 78 = .ok (.iload 6, 2) := by decide +kernel
theorem dX7_tries_80 : decode cX7_tries 80 = .ok (.iadd, 1) := by decide +kernel
theorem dX7_tries_81 : decode cX7_tries 81 = .ok (.istore_n 3, 1) := by decide +kernel
theorem dX7_tries_82 : decode cX7_tries 82 = .ok (.iinc 6 1, 3) := by decide +kernel
theorem dX7_tries_85 : decode cX7_tries 85 = .ok (.goto (-40), 3) := by decide +kernel
theorem dX7_tries_88 : decode cX7_tries 88 = .ok (.iinc 5 1, 3) := by decide +kernel
theorem dX7_tries_91 : decode cX7_tries 91 = .ok (.goto (-56), 3) := by decide +kernel
theorem dX7_tries_94 : decode cX7_tries 94 = .ok (.iload_n 3, 1) := by decide +kernel
theorem dX7_tries_95 : decode cX7_tries 95 = .ok (.ireturn, 1) := by decide +kernel
theorem dX7_game_0 : decode cX7_game 0 = .ok (.iconst 0, 1) := by decide +kernel
theorem dX7_game_1 : decode cX7_game 1 = .ok (.istore_n 1, 1) := by decide +kernel
theorem dX7_game_2 : decode cX7_game 2 = .ok (.iconst 0, 1) := by decide +kernel
theorem dX7_game_3 : decode cX7_game 3 = .ok (.istore_n 2, 1) := by decide +kernel
theorem dX7_game_4 : decode cX7_game 4 = .ok (.iload_n 2, 1) := by decide +kernel
theorem dX7_game_5 : decode cX7_game 5 = .ok (.iconst 4, 1) := by decide +kernel
theorem dX7_game_6 : decode cX7_game 6 = .ok (.if_icmp .ge 67, 3) := by decide +kernel
theorem dX7_game_9 : decode cX7_game 9 = .ok (.aload_n 0, 1) := by decide +kernel
theorem dX7_game_10 : decode cX7_game 10 = .ok (.iload_n 2, 1) := by decide +kernel
theorem dX7_game_11 : decode cX7_game 11 = .ok (.invokevirtual 273, 3) := by decide +kernel
theorem dX7_game_14 : decode cX7_game 14 = .ok (.aload_n 0, 1) := by decide +kernel
theorem dX7_game_15 : decode cX7_game 15 = .ok (.iload_n 2, 1) := by decide +kernel
theorem dX7_game_16 : decode cX7_game 16 = .ok (.iconst 1, 1) := by decide +kernel
theorem dX7_game_17 : decode cX7_game 17 = .ok (.ixor, 1) := by decide +kernel
theorem dX7_game_18 : decode cX7_game 18 = .ok (.invokevirtual 273, 3) := by decide +kernel
theorem dX7_game_21 : decode cX7_game 21 = .ok (.if_icmp .lt 7, 3) := by decide +kernel
theorem dX7_game_24 : decode cX7_game 24 = .ok (.iconst 1, 1) := by decide +kernel
theorem dX7_game_25 : decode cX7_game 25 = .ok (.goto 4, 3) := by decide +kernel
theorem dX7_game_28 : decode cX7_game 28 = .ok (.iconst 0, 1) := by decide +kernel
theorem dX7_game_29 : decode cX7_game 29 = .ok (.istore_n 3, 1) := by decide +kernel
theorem dX7_game_30 : decode cX7_game 30 = .ok (.aload_n 0, 1) := by decide +kernel
theorem dX7_game_31 : decode cX7_game 31 = .ok (.iload_n 2, 1) := by decide +kernel
theorem dX7_game_32 : decode cX7_game 32 = .ok (.invokevirtual 276, 3) := by decide +kernel
theorem dX7_game_35 : decode cX7_game 35 = .ok (.aload_n 0, 1) := by decide +kernel
theorem dX7_game_36 : decode cX7_game 36 = .ok (.iload_n 2, 1) := by decide +kernel
theorem dX7_game_37 : decode cX7_game 37 = .ok (.iconst 2, 1) := by decide +kernel
theorem dX7_game_38 : decode cX7_game 38 = .ok (.ixor, 1) := by decide +kernel
theorem dX7_game_39 : decode cX7_game 39 = .ok (.invokevirtual 276, 3) := by decide +kernel
theorem dX7_game_42 : decode cX7_game 42 = .ok (.if_icmp .lt 7, 3) := by decide +kernel
theorem dX7_game_45 : decode cX7_game 45 = .ok (.iconst 1, 1) := by decide +kernel
theorem dX7_game_46 : decode cX7_game 46 = .ok (.goto 4, 3) := by decide +kernel
theorem dX7_game_49 : decode cX7_game 49 = .ok (.iconst 0, 1) := by decide +kernel
theorem dX7_game_50 : decode cX7_game 50 = .ok (.istore 4, 2) := by decide +kernel
theorem dX7_game_52 : decode cX7_game 52 = .ok (.iload_n 3, 1) := by decide +kernel
theorem dX7_game_53 : decode cX7_game 53 = .ok (.ifCond .eq 14, 3) := by decide +kernel
theorem dX7_game_56 : decode cX7_game 56 = .ok (.iload 4, 2) := by decide +kernel
theorem dX7_game_58 : decode cX7_game 58 = .ok (.ifCond .eq 9, 3) := by decide +kernel
theorem dX7_game_61 : decode cX7_game 61 = .ok (.iload_n 1, 1) := by decide +kernel
theorem dX7_game_62 : decode cX7_game 62 = .ok (.iconst 1, 1) := by decide +kernel
theorem dX7_game_63 : decode cX7_game 63 = .ok (.iload_n 2, 1) := by decide +kernel
theorem dX7_game_64 : decode cX7_game 64 = .ok (.ishl, 1) := by decide +kernel
theorem dX7_game_65 : decode cX7_game 65 = .ok (.ior, 1) := by decide +kernel
theorem dX7_game_66 : decode cX7_game 66 = .ok (.istore_n 1, 1) := by decide +kernel
theorem dX7_game_67 : decode cX7_game 67 = .ok (.iinc 2 1, 3) := by decide +kernel
theorem dX7_game_70 : decode cX7_game 70 = .ok (.goto (-66), 3) := by decide +kernel
theorem dX7_game_73 : decode cX7_game 73 = .ok (.iload_n 1, 1) := by decide +kernel
theorem dX7_game_74 : decode cX7_game 74 = .ok (.ireturn, 1) := by decide +kernel
theorem dX7_times_0 : decode cX7_times 0 = .ok (.iload_n 1, 1) := by decide +kernel
theorem dX7_times_1 : decode cX7_times 1 = .ok (.iconst 0, 1) := by decide +kernel
theorem dX7_times_2 : decode cX7_times 2 = .ok (.ldc_w 290, 3) := by decide +kernel
theorem dX7_times_5 : decode cX7_times 5 = .ok (.invokestatic 77, 3) := by decide +kernel
theorem dX7_times_8 : decode cX7_times 8 = .ok (.ifCond .eq 13, 3) := by decide +kernel
theorem dX7_times_11 : decode cX7_times 11 = .ok (.iload_n 2, 1) := by decide +kernel
theorem dX7_times_12 : decode cX7_times 12 = .ok (.iconst 0, 1) := by decide +kernel
theorem dX7_times_13 : decode cX7_times 13 = .ok (.bipush 60, 2) := by decide +kernel
theorem dX7_times_15 : decode cX7_times 15 = .ok (.invokestatic 77, 3) := by decide +kernel
theorem dX7_times_18 : decode cX7_times 18 = .ok (.ifCond .ne 10, 3) := by decide +kernel
theorem dX7_times_21 : decode cX7_times 21 = .ok (.aload_n 0, 1) := by decide +kernel
theorem dX7_times_22 : decode cX7_times 22 = .ok (.bipush (-2), 2) := by decide +kernel
theorem dX7_times_24 : decode cX7_times 24 = .ok (.invokevirtual 62, 3) := by decide +kernel
theorem dX7_times_27 : decode cX7_times 27 = .ok (.ireturn, 1) := by decide +kernel
theorem dX7_times_28 : decode cX7_times 28 = .ok (.iload_n 1, 1) := by decide +kernel
theorem dX7_times_29 : decode cX7_times 29 = .ok (.i2l, 1) := by decide +kernel
theorem dX7_times_30 : decode cX7_times 30 = .ok (.lstore_n 3, 1) := by decide +kernel
theorem dX7_times_31 : decode cX7_times 31 = .ok (.aload_n 0, 1) := by decide +kernel
theorem dX7_times_32 : decode cX7_times 32 = .ok (.getfield 10, 3) := by decide +kernel
theorem dX7_times_35 : decode cX7_times 35 = .ok (.getfield 66, 3) := by decide +kernel
theorem dX7_times_38 : decode cX7_times 38 = .ok (.getfield 143, 3) := by decide +kernel
theorem dX7_times_41 : decode cX7_times 41 = .ok (.istore 5, 2) := by decide +kernel
theorem dX7_times_43 : decode cX7_times 43 = .ok (.iconst 0, 1) := by decide +kernel
theorem dX7_times_44 : decode cX7_times 44 = .ok (.istore 6, 2) := by decide +kernel
theorem dX7_times_46 : decode cX7_times 46 = .ok (.iconst 0, 1) := by decide +kernel
theorem dX7_times_47 : decode cX7_times 47 = .ok (.istore 7, 2) := by decide +kernel
theorem dX7_times_49 : decode cX7_times 49 = .ok (.iload 7, 2) := by decide +kernel
theorem dX7_times_51 : decode cX7_times 51 = .ok (.iload_n 2, 1) := by decide +kernel
theorem dX7_times_52 : decode cX7_times 52 = .ok (.if_icmp .ge 77, 3) := by decide +kernel
theorem dX7_times_55 : decode cX7_times 55 = .ok (.lload_n 3, 1) := by decide +kernel
theorem dX7_times_56 : decode cX7_times 56 = .ok (.ldc2_w 291, 3) := by decide +kernel
theorem dX7_times_59 : decode cX7_times 59 = .ok (.lmul, 1) := by decide +kernel
theorem dX7_times_60 : decode cX7_times 60 = .ok (.ldc2_w 293, 3) := by decide +kernel
theorem dX7_times_63 : decode cX7_times 63 = .ok (.ladd, 1) := by decide +kernel
theorem dX7_times_64 : decode cX7_times 64 = .ok (.ldc2_w 295, 3) := by decide +kernel
theorem dX7_times_67 : decode cX7_times 67 = .ok (.lrem, 1) := by decide +kernel
theorem dX7_times_68 : decode cX7_times 68 = .ok (.lstore_n 3, 1) := by decide +kernel
theorem dX7_times_69 : decode cX7_times 69 = .ok (.lload_n 3, 1) := by decide +kernel
theorem dX7_times_70 : decode cX7_times 70 = .ok (.ldc2_w 297, 3) := by decide +kernel
theorem dX7_times_73 : decode cX7_times 73 = .ok (.ldiv, 1) := by decide +kernel
theorem dX7_times_74 : decode cX7_times 74 = .ok (.ldc2_w 299, 3) := by decide +kernel
theorem dX7_times_77 : decode cX7_times 77 = .ok (.lrem, 1) := by decide +kernel
theorem dX7_times_78 : decode cX7_times 78 = .ok (.l2i, 1) := by decide +kernel
theorem dX7_times_79 : decode cX7_times 79 = .ok (.bipush 9, 2) := by decide +kernel
theorem dX7_times_81 : decode cX7_times 81 = .ok (.isub, 1) := by decide +kernel
theorem dX7_times_82 : decode cX7_times 82 = .ok (.istore 8, 2) := by decide +kernel
theorem dX7_times_84 : decode cX7_times 84 = .ok (.aload_n 0, 1) := by decide +kernel
theorem dX7_times_85 : decode cX7_times 85 = .ok (.getfield 10, 3) := by decide +kernel
theorem dX7_times_88 : decode cX7_times 88 = .ok (.getfield 155, 3) := by decide +kernel
theorem dX7_times_91 : decode cX7_times 91 = .ok (.aload_n 0, 1) := by decide +kernel
theorem dX7_times_92 : decode cX7_times 92 = .ok (.getfield 10, 3) := by decide +kernel
theorem dX7_times_95 : decode cX7_times 95 = .ok (.getfield 66, 3) := by decide +kernel
theorem dX7_times_98 : decode cX7_times 98 = .ok (.getfield 152, 3) := by decide +kernel
theorem dX7_times_101 : decode cX7_times 101 = .ok (.iload 7, 2) := by decide +kernel
theorem dX7_times_103 : decode cX7_times 103 = .ok (.iadd, 1) := by decide +kernel
theorem dX7_times_104 : decode cX7_times 104 = .ok (.iload 5, 2) := by decide +kernel
theorem dX7_times_106 : decode cX7_times 106 = .ok (.iload 8, 2) := by decide +kernel
theorem dX7_times_108 : decode cX7_times 108 = .ok (.invokestatic 233, 3) := by decide +kernel
theorem dX7_times_111 : decode cX7_times 111 = .ok (.istore 5, 2) := by decide +kernel
theorem dX7_times_113 : decode cX7_times 113 = .ok (.iload 6, 2) := by decide +kernel
theorem dX7_times_115 : decode cX7_times 115 = .ok (.iload 5, 2) := by decide +kernel
theorem dX7_times_117 : decode cX7_times 117 = .ok (.invokestatic 183, 3) := by decide +kernel
theorem dX7_times_120 : decode cX7_times 120 = .ok (.iadd, 1) := by decide +kernel
theorem dX7_times_121 : decode cX7_times 121 = .ok (.istore 6, 2) := by decide +kernel
theorem dX7_times_123 : decode cX7_times 123 = .ok (.iinc 7 1, 3) := by decide +kernel
theorem dX7_times_126 : decode cX7_times 126 = .ok (.goto (-77), 3) := by decide +kernel
theorem dX7_times_129 : decode cX7_times 129 = .ok (.iload 6, 2) := by decide +kernel
theorem dX7_times_131 : decode cX7_times 131 = .ok (.ireturn, 1) := by decide +kernel
theorem dX7_part_0 : decode cX7_part 0 = .ok (.iload_n 1, 1) := by decide +kernel
theorem dX7_part_1 : decode cX7_part 1 = .ok (.lookupswitch 37 #[(0, 27), (1, 32)], 27) := by decide +kernel
theorem dX7_part_28 : decode cX7_part 28 = .ok (.aload_n 0, 1) := by decide +kernel
theorem dX7_part_29 : decode cX7_part 29 = .ok (.getfield 301, 3) := by decide +kernel
theorem dX7_part_32 : decode cX7_part 32 = .ok (.lreturn, 1) := by decide +kernel
theorem dX7_part_33 : decode cX7_part 33 = .ok (.aload_n 0, 1) := by decide +kernel
theorem dX7_part_34 : decode cX7_part 34 = .ok (.getfield 54, 3) := by decide +kernel
theorem dX7_part_37 : decode cX7_part 37 = .ok (.lreturn, 1) := by decide +kernel
theorem dX7_part_38 : decode cX7_part 38 = .ok (.aload_n 0, 1) := by decide +kernel
theorem dX7_part_39 : decode cX7_part 39 = .ok (.bipush (-2), 2) := by decide +kernel
theorem dX7_part_41 : decode cX7_part 41 = .ok (.invokevirtual 62, 3) := by decide +kernel
theorem dX7_part_44 : decode cX7_part 44 = .ok (.i2l, 1) := by decide +kernel
theorem dX7_part_45 : decode cX7_part 45 = .ok (.lreturn, 1) := by decide +kernel
theorem dX7_status_0 : decode cX7_status 0 = .ok (.iload_n 1, 1) := by decide +kernel
theorem dX7_status_1 : decode cX7_status 1 = .ok (.tableswitch 42 0 2 #[27, 32, 37], 27) := by decide +kernel
theorem dX7_status_28 : decode cX7_status 28 = .ok (.aload_n 0, 1) := by decide +kernel
theorem dX7_status_29 : decode cX7_status 29 = .ok (.getfield 311, 3) := by decide +kernel
theorem dX7_status_32 : decode cX7_status 32 = .ok (.ireturn, 1) := by decide +kernel
theorem dX7_status_33 : decode cX7_status 33 = .ok (.aload_n 0, 1) := by decide +kernel
theorem dX7_status_34 : decode cX7_status 34 = .ok (.getfield 314, 3) := by decide +kernel
theorem dX7_status_37 : decode cX7_status 37 = .ok (.ireturn, 1) := by decide +kernel
theorem dX7_status_38 : decode cX7_status 38 = .ok (.aload_n 0, 1) := by decide +kernel
theorem dX7_status_39 : decode cX7_status 39 = .ok (.getfield 317, 3) := by decide +kernel
theorem dX7_status_42 : decode cX7_status 42 = .ok (.ireturn, 1) := by decide +kernel
theorem dX7_status_43 : decode cX7_status 43 = .ok (.aload_n 0, 1) := by decide +kernel
theorem dX7_status_44 : decode cX7_status 44 = .ok (.iconst (-1), 1) := by decide +kernel
theorem dX7_status_45 : decode cX7_status 45 = .ok (.invokevirtual 62, 3) := by decide +kernel
theorem dX7_status_48 : decode cX7_status 48 = .ok (.ireturn, 1) := by decide +kernel
theorem dX7_count_0 : decode cX7_count 0 = .ok (.iload_n 1, 1) := by decide +kernel
theorem dX7_count_1 : decode cX7_count 1 = .ok (.tableswitch 105 0 6 #[43, 54, 65, 73, 81, 89, 97], 43) := by decide +kernel
theorem dX7_count_44 : decode cX7_count 44 = .ok (.aload_n 0, 1) := by decide +kernel
theorem dX7_count_45 : decode cX7_count 45 = .ok (.getfield 10, 3) := by decide +kernel
theorem dX7_count_48 : decode cX7_count 48 = .ok (.getfield 66, 3) := by decide +kernel
theorem dX7_count_51 : decode cX7_count 51 = .ok (.invokevirtual 69, 3) := by decide +kernel
theorem dX7_count_54 : decode cX7_count 54 = .ok (.ireturn, 1) := by decide +kernel
theorem dX7_count_55 : decode cX7_count 55 = .ok (.aload_n 0, 1) := by decide +kernel
theorem dX7_count_56 : decode cX7_count 56 = .ok (.getfield 10, 3) := by decide +kernel
theorem dX7_count_59 : decode cX7_count 59 = .ok (.getfield 66, 3) := by decide +kernel
theorem dX7_count_62 : decode cX7_count 62 = .ok (.getfield 152, 3) := by decide +kernel
theorem dX7_count_65 : decode cX7_count 65 = .ok (.ireturn, 1) := by decide +kernel
theorem dX7_count_66 : decode cX7_count 66 = .ok (.aload_n 0, 1) := by decide +kernel
theorem dX7_count_67 : decode cX7_count 67 = .ok (.getfield 10, 3) := by decide +kernel
theorem dX7_count_70 : decode cX7_count 70 = .ok (.getfield 101, 3) := by decide +kernel
theorem dX7_count_73 : decode cX7_count 73 = .ok (.ireturn, 1) := by decide +kernel
theorem dX7_count_74 : decode cX7_count 74 = .ok (.aload_n 0, 1) := by decide +kernel
theorem dX7_count_75 : decode cX7_count 75 = .ok (.getfield 10, 3) := by decide +kernel
theorem dX7_count_78 : decode cX7_count 78 = .ok (.getfield 239, 3) := by decide +kernel
theorem dX7_count_81 : decode cX7_count 81 = .ok (.ireturn, 1) := by decide +kernel
theorem dX7_count_82 : decode cX7_count 82 = .ok (.aload_n 0, 1) := by decide +kernel
theorem dX7_count_83 : decode cX7_count 83 = .ok (.getfield 10, 3) := by decide +kernel
theorem dX7_count_86 : decode cX7_count 86 = .ok (.getfield 248, 3) := by decide +kernel
theorem dX7_count_89 : decode cX7_count 89 = .ok (.ireturn, 1) := by decide +kernel
theorem dX7_count_90 : decode cX7_count 90 = .ok (.aload_n 0, 1) := by decide +kernel
theorem dX7_count_91 : decode cX7_count 91 = .ok (.getfield 10, 3) := by decide +kernel
theorem dX7_count_94 : decode cX7_count 94 = .ok (.getfield 97, 3) := by decide +kernel
theorem dX7_count_97 : decode cX7_count 97 = .ok (.ireturn, 1) := by decide +kernel
theorem dX7_count_98 : decode cX7_count 98 = .ok (.aload_n 0, 1) := by decide +kernel
theorem dX7_count_99 : decode cX7_count 99 = .ok (.getfield 26, 3) := by decide +kernel
theorem dX7_count_102 : decode cX7_count 102 = .ok (.getfield 110, 3) := by decide +kernel
theorem dX7_count_105 : decode cX7_count 105 = .ok (.ireturn, 1) := by decide +kernel
theorem dX7_count_106 : decode cX7_count 106 = .ok (.aload_n 0, 1) := by decide +kernel
theorem dX7_count_107 : decode cX7_count 107 = .ok (.bipush (-2), 2) := by decide +kernel
theorem dX7_count_109 : decode cX7_count 109 = .ok (.invokevirtual 62, 3) := by decide +kernel
theorem dX7_count_112 : decode cX7_count 112 = .ok (.ireturn, 1) := by decide +kernel
theorem dX7_digest_0 : decode cX7_digest 0 = .ok (.ldc2_w 320, 3) := by decide +kernel
theorem dX7_digest_3 : decode cX7_digest 3 = .ok (.lstore_n 1, 1) := by decide +kernel
theorem dX7_digest_4 : decode cX7_digest 4 = .ok (.iconst 0, 1) := by decide +kernel
theorem dX7_digest_5 : decode cX7_digest 5 = .ok (.istore_n 3, 1) := by decide +kernel
theorem dX7_digest_6 : decode cX7_digest 6 = .ok (.iload_n 3, 1) := by decide +kernel
theorem dX7_digest_7 : decode cX7_digest 7 = .ok (.bipush 6, 2) := by decide +kernel
theorem dX7_digest_9 : decode cX7_digest 9 = .ok (.if_icmp .gt 22, 3) := by decide +kernel
theorem dX7_digest_12 : decode cX7_digest 12 = .ok (.ldc2_w 322, 3) := by decide +kernel
theorem dX7_digest_15 : decode cX7_digest 15 = .ok (.lload_n 1, 1) := by decide +kernel
theorem dX7_digest_16 : decode cX7_digest 16 = .ok (.lmul, 1) := by decide +kernel
theorem dX7_digest_17 : decode cX7_digest 17 = .ok (.aload_n 0, 1) := by decide +kernel
theorem dX7_digest_18 : decode cX7_digest 18 = .ok (.iload_n 3, 1) := by decide +kernel
theorem dX7_digest_19 : decode cX7_digest 19 = .ok (.invokevirtual 324, 3) := by decide +kernel
theorem dX7_digest_22 : decode cX7_digest 22 = .ok (.i2l, 1) := by decide +kernel
theorem dX7_digest_23 : decode cX7_digest 23 = .ok (.ladd, 1) := by decide +kernel
theorem dX7_digest_24 : decode cX7_digest 24 = .ok (.lstore_n 1, 1) := by decide +kernel
theorem dX7_digest_25 : decode cX7_digest 25 = .ok (.iinc 3 1, 3) := by decide +kernel
theorem dX7_digest_28 : decode cX7_digest 28 = .ok (.goto (-22), 3) := by decide +kernel
theorem dX7_digest_31 : decode cX7_digest 31 = .ok (.ldc2_w 322, 3) := by decide +kernel
theorem dX7_digest_34 : decode cX7_digest 34 = .ok (.lload_n 1, 1) := by decide +kernel
theorem dX7_digest_35 : decode cX7_digest 35 = .ok (.lmul, 1) := by decide +kernel
theorem dX7_digest_36 : decode cX7_digest 36 = .ok (.aload_n 0, 1) := by decide +kernel
theorem dX7_digest_37 : decode cX7_digest 37 = .ok (.getfield 10, 3) := by decide +kernel
theorem dX7_digest_40 : decode cX7_digest 40 = .ok (.getfield 155, 3) := by decide +kernel
theorem dX7_digest_43 : decode cX7_digest 43 = .ok (.i2l, 1) := by decide +kernel
theorem dX7_digest_44 : decode cX7_digest 44 = .ok (.ladd, 1) := by decide +kernel
theorem dX7_digest_45 : decode cX7_digest 45 = .ok (.lstore_n 1, 1) := by decide +kernel
theorem dX7_digest_46 : decode cX7_digest 46 = .ok (.ldc2_w 322, 3) := by decide +kernel
theorem dX7_digest_49 : decode cX7_digest 49 = .ok (.lload_n 1, 1) := by decide +kernel
theorem dX7_digest_50 : decode cX7_digest 50 = .ok (.lmul, 1) := by decide +kernel
theorem dX7_digest_51 : decode cX7_digest 51 = .ok (.aload_n 0, 1) := by decide +kernel
theorem dX7_digest_52 : decode cX7_digest 52 = .ok (.getfield 10, 3) := by decide +kernel
theorem dX7_digest_55 : decode cX7_digest 55 = .ok (.getfield 66, 3) := by decide +kernel
theorem dX7_digest_58 : decode cX7_digest 58 = .ok (.getfield 143, 3) := by decide +kernel
theorem dX7_digest_61 : decode cX7_digest 61 = .ok (.i2l, 1) := by decide +kernel
theorem dX7_digest_62 : decode cX7_digest 62 = .ok (.ladd, 1) := by decide +kernel
theorem dX7_digest_63 : decode cX7_digest 63 = .ok (.lstore_n 1, 1) := by decide +kernel
theorem dX7_digest_64 : decode cX7_digest 64 = .ok (.lload_n 1, 1) := by decide +kernel
theorem dX7_digest_65 : decode cX7_digest 65 = .ok (.aload_n 0, 1) := by decide +kernel
theorem dX7_digest_66 : decode cX7_digest 66 = .ok (.getfield 10, 3) := by decide +kernel
theorem dX7_digest_69 : decode cX7_digest 69 = .ok (.getfield 86, 3) := by decide +kernel
theorem dX7_digest_72 : decode cX7_digest 72 = .ok (.bipush 6, 2) := by decide +kernel
theorem dX7_digest_74 : decode cX7_digest 74 = .ok (.invokestatic 327, 3) := by decide +kernel
theorem dX7_digest_77 : decode cX7_digest 77 = .ok (.lstore_n 1, 1) := by decide +kernel
theorem dX7_digest_78 : decode cX7_digest 78 = .ok (.aload_n 0, 1) := by decide +kernel
theorem dX7_digest_79 : decode cX7_digest 79 = .ok (.getfield 10, 3) := by decide +kernel
theorem dX7_digest_82 : decode cX7_digest 82 = .ok (.getfield 66, 3) := by decide +kernel
theorem dX7_digest_85 : decode cX7_digest 85 = .ok (.lload_n 1, 1) := by decide +kernel
theorem dX7_digest_86 : decode cX7_digest 86 = .ok (.invokevirtual 331, 3) := by decide +kernel
theorem dX7_digest_89 : decode cX7_digest 89 = .ok (.lstore_n 1, 1) := by decide +kernel
theorem dX7_digest_90 : decode cX7_digest 90 = .ok (.lload_n 1, 1) := by decide +kernel
theorem dX7_digest_91 : decode cX7_digest 91 = .ok (.aload_n 0, 1) := by decide +kernel
theorem dX7_digest_92 : decode cX7_digest 92 = .ok (.getfield 10, 3) := by decide +kernel
theorem dX7_digest_95 : decode cX7_digest 95 = .ok (.getfield 107, 3) := by decide +kernel
theorem dX7_digest_98 : decode cX7_digest 98 = .ok (.aload_n 0, 1) := by decide +kernel
theorem dX7_digest_99 : decode cX7_digest 99 = .ok (.getfield 10, 3) := by decide +kernel
theorem dX7_digest_102 : decode cX7_digest 102 = .ok (.getfield 101, 3) := by decide +kernel
theorem dX7_digest_105 : decode cX7_digest 105 = .ok (.invokestatic 327, 3) := by decide +kernel
theorem dX7_digest_108 : decode cX7_digest 108 = .ok (.lstore_n 1, 1) := by decide +kernel
theorem dX7_digest_109 : decode cX7_digest 109 = .ok (.lload_n 1, 1) := by decide +kernel
theorem dX7_digest_110 : decode cX7_digest 110 = .ok (.aload_n 0, 1) := by decide +kernel
theorem dX7_digest_111 : decode cX7_digest 111 = .ok (.getfield 10, 3) := by decide +kernel
theorem dX7_digest_114 : decode cX7_digest 114 = .ok (.getfield 242, 3) := by decide +kernel
theorem dX7_digest_117 : decode cX7_digest 117 = .ok (.aload_n 0, 1) := by decide +kernel
theorem dX7_digest_118 : decode cX7_digest 118 = .ok (.getfield 10, 3) := by decide +kernel
theorem dX7_digest_121 : decode cX7_digest 121 = .ok (.getfield 239, 3) := by decide +kernel
theorem dX7_digest_124 : decode cX7_digest 124 = .ok (.iconst 4, 1) := by decide +kernel
theorem dX7_digest_125 : decode cX7_digest 125 = .ok (.imul, 1) := by decide +kernel
theorem dX7_digest_126 : decode cX7_digest 126 = .ok (.invokestatic 327, 3) := by decide +kernel
theorem dX7_digest_129 : decode cX7_digest 129 = .ok (.lstore_n 1, 1) := by decide +kernel
theorem dX7_digest_130 : decode cX7_digest 130 = .ok (.lload_n 1, 1) := by decide +kernel
theorem dX7_digest_131 : decode cX7_digest 131 = .ok (.aload_n 0, 1) := by decide +kernel
theorem dX7_digest_132 : decode cX7_digest 132 = .ok (.getfield 10, 3) := by decide +kernel
theorem dX7_digest_135 : decode cX7_digest 135 = .ok (.getfield 251, 3) := by decide +kernel
theorem dX7_digest_138 : decode cX7_digest 138 = .ok (.aload_n 0, 1) := by decide +kernel
theorem dX7_digest_139 : decode cX7_digest 139 = .ok (.getfield 10, 3) := by decide +kernel
theorem dX7_digest_142 : decode cX7_digest 142 = .ok (.getfield 248, 3) := by decide +kernel
theorem dX7_digest_145 : decode cX7_digest 145 = .ok (.iconst 5, 1) := by decide +kernel
theorem dX7_digest_146 : decode cX7_digest 146 = .ok (.imul, 1) := by decide +kernel
theorem dX7_digest_147 : decode cX7_digest 147 = .ok (.invokestatic 327, 3) := by decide +kernel
theorem dX7_digest_150 : decode cX7_digest 150 = .ok (.lstore_n 1, 1) := by decide +kernel
theorem dX7_digest_151 : decode cX7_digest 151 = .ok (.ldc2_w 322, 3) := by decide +kernel
theorem dX7_digest_154 : decode cX7_digest 154 = .ok (.lload_n 1, 1) := by decide +kernel
theorem dX7_digest_155 : decode cX7_digest 155 = .ok (.lmul, 1) := by decide +kernel
theorem dX7_digest_156 : decode cX7_digest 156 = .ok (.aload_n 0, 1) := by decide +kernel
theorem dX7_digest_157 : decode cX7_digest 157 = .ok (.getfield 301, 3) := by decide +kernel
theorem dX7_digest_160 : decode cX7_digest 160 = .ok (.ladd, 1) := by decide +kernel
theorem dX7_digest_161 : decode cX7_digest 161 = .ok (.lstore_n 1, 1) := by decide +kernel
theorem dX7_digest_162 : decode cX7_digest 162 = .ok (.ldc2_w 322, 3) := by decide +kernel
theorem dX7_digest_165 : decode cX7_digest 165 = .ok (.lload_n 1, 1) := by decide +kernel
theorem dX7_digest_166 : decode cX7_digest 166 = .ok (.lmul, 1) := by decide +kernel
theorem dX7_digest_167 : decode cX7_digest 167 = .ok (.aload_n 0, 1) := by decide +kernel
theorem dX7_digest_168 : decode cX7_digest 168 = .ok (.getfield 54, 3) := by decide +kernel
theorem dX7_digest_171 : decode cX7_digest 171 = .ok (.ladd, 1) := by decide +kernel
theorem dX7_digest_172 : decode cX7_digest 172 = .ok (.lreturn, 1) := by decide +kernel
noncomputable def lp_X7_kinds_18 (p1 : Int32) (a0_town_markCount : Int32) (fa0_town_marks : Nat → Int32) : Nat → Int32 → Int32 → Option (Int32 × Int32)
 | 0, _, _ => none
 | fu + 1, x2_18, x3_18 => if (6 : Int32) ≤ x3_18 then (some (x2_18, x3_18)) else (Option.bind (sp_X6_marksFit p1 x3_18 a0_town_markCount fa0_town_marks) fun z4 => lt_ (if z4 = 0 then (x2_18) else ((x2_18 ||| ((1 : Int32) <<< (x3_18 &&& 31))))) fun z5 => lp_X7_kinds_18 p1 a0_town_markCount fa0_town_marks fu z5 (x3_18 + (1 : Int32)))
noncomputable def sp_X7_kinds (p1 : Int32) (a0_refusedAsBad : Int32) (a0_town_markCount : Int32) (fa0_town_marks : Nat → Int32) : Option (Int32 × Int32) := if (sp_X7_isName p1) = 0 then (lt_ (sp_X7_bad (-2 : Int32) a0_refusedAsBad) fun z8 => some (z8.1, z8.2)) else (Option.bind (lp_X7_kinds_18 p1 a0_town_markCount fa0_town_marks FU (0 : Int32) (0 : Int32)) fun z2 => some (z2.1, a0_refusedAsBad))
set_option maxHeartbeats 4000000 in
set_option maxRecDepth 100000 in
theorem c_X7_kinds (l : Launch) (E : wE) (a0 a0_town a0_draft a0_images a0_text a0_planner a0_trial a0_spread a0_spreadBehind a0_tally a0_town_pulls a0_town_site a0_town_past a0_town_views a0_town_notes a0_town_marks : Nat) (p1 : Int32) (a0_imagesKept : Int32) (a0_above : Int64) (a0_below : Int64) (a0_refusedAsBad : Int32) (a0_refusedAsNo : Int32) (a0_refusedAsFull : Int32) (a0_town_kind : Int32) (a0_town_pasts : Int32) (a0_town_members : Int32) (a0_town_noteCount : Int32) (a0_town_markCount : Int32) (fa0_town_marks : Nat → Int32) (z_0 : Int32) (z_1 : Int32) (hsp : sp_X7_kinds p1 a0_refusedAsBad a0_town_markCount fa0_town_marks = some (z_0, z_1)) : MW l yX7_kinds cX7_kinds 4 (some .int) 3 E [.ref a0, .int p1] [(a0, .inr (4, [.ref a0_town, .ref a0_draft, .ref a0_images, .int a0_imagesKept, .ref a0_text, .ref a0_planner, .ref a0_trial, .ref a0_spread, .ref a0_spreadBehind, .ref a0_tally, .long a0_above, .long a0_below, .int a0_refusedAsBad, .int a0_refusedAsNo, .int a0_refusedAsFull])), (a0_town, .inr (3, [.int a0_town_kind, .ref a0_town_pulls, .ref a0_town_site, .ref a0_town_past, .int a0_town_pasts, .ref a0_town_views, .int a0_town_members, .ref a0_town_notes, .int a0_town_noteCount, .ref a0_town_marks, .int a0_town_markCount])), (a0_town_marks, aI E 30 fa0_town_marks)] (some (.int z_0)) [(a0, .inr (4, [.ref a0_town, .ref a0_draft, .ref a0_images, .int a0_imagesKept, .ref a0_text, .ref a0_planner, .ref a0_trial, .ref a0_spread, .ref a0_spreadBehind, .ref a0_tally, .long a0_above, .long a0_below, .int z_1, .int a0_refusedAsNo, .int a0_refusedAsFull])), (a0_town, .inr (3, [.int a0_town_kind, .ref a0_town_pulls, .ref a0_town_site, .ref a0_town_past, .int a0_town_pasts, .ref a0_town_views, .int a0_town_members, .ref a0_town_notes, .int a0_town_noteCount, .ref a0_town_marks, .int a0_town_markCount])), (a0_town_marks, aI E 30 fa0_town_marks)] := by
  refine MW.of (by decide +kernel) (Nat.le_of_ble_eq_true rfl) ?_
  intro p e s m below meth c ls A hX hK hP hD hS hA hl
  have hX : CX p s m [.ref a0, .int p1].toArray meth c cX7_kinds 4 (some .int) RX7 := hX
  have hx := hX.1; have hb := hX.2.1; have hts := hX.2.2.2.2.1; have hown := hX.2.2.2.2.2.1
  have hl : lv_has ls 4 [(0, .ref a0), (1, .int p1)] := hl
  have hP : wP E [(a0, .inr (4, [.ref a0_town, .ref a0_draft, .ref a0_images, .int a0_imagesKept, .ref a0_text, .ref a0_planner, .ref a0_trial, .ref a0_spread, .ref a0_spreadBehind, .ref a0_tally, .long a0_above, .long a0_below, .int a0_refusedAsBad, .int a0_refusedAsNo, .int a0_refusedAsFull])), (a0_town, .inr (3, [.int a0_town_kind, .ref a0_town_pulls, .ref a0_town_site, .ref a0_town_past, .int a0_town_pasts, .ref a0_town_views, .int a0_town_members, .ref a0_town_notes, .int a0_town_noteCount, .ref a0_town_marks, .int a0_town_markCount])), (a0_town_marks, aI E 30 fa0_town_marks)] s.heap := hP
  have hsp : (if (sp_X7_isName p1) = 0 then (lt_ (sp_X7_bad (-2 : Int32) a0_refusedAsBad) fun z8 => some (z8.1, z8.2)) else (Option.bind (lp_X7_kinds_18 p1 a0_town_markCount fa0_town_marks FU (0 : Int32) (0 : Int32)) fun z2 => some (z2.1, a0_refusedAsBad))) = some (z_0, z_1) := hsp
  refine lv_iload_n hx hb dX7_kinds_0 rfl (lv_at hl 1 rfl) (W.pc 1 rfl ?_)
  refine kSR (st1 := [.int (sp_X7_isName p1)]) hX (c_X7_isName l E p1 _ rfl) B_X7_isName w_3_173 hK (hP.pick [] rfl) rfl hl.1 rfl (Nat.le_of_ble_eq_true rfl) ⟨Nat.le_of_ble_eq_true rfl, Nat.le_of_ble_eq_true rfl⟩ dX7_kinds_1 rfl (W.pc 4 rfl ?_)
  refine lv_if_ne (tgt := 14) hx hb dX7_kinds_4 (by decide) (fun c1 => ?_) (fun c1 => W.pc 7 rfl ?_)
  · have hsp := iq hsp c1
    refine lv_iconst (v := (0 : Int32)) hx hb dX7_kinds_14 (by decide) (W.pc 15 rfl ?_)
    refine lv_istore_n (lv' := [(2, .int (0 : Int32)), (0, .ref a0), (1, .int p1)]) hx hb dX7_kinds_15 rfl hl (by decide) rfl (fun ls hl => W.pc 16 rfl ?_)
    refine lv_iconst (v := (0 : Int32)) hx hb dX7_kinds_16 (by decide) (W.pc 17 rfl ?_)
    refine lv_istore_n (lv' := [(3, .int (0 : Int32)), (2, .int (0 : Int32)), (0, .ref a0), (1, .int p1)]) hx hb dX7_kinds_17 rfl hl (by decide) rfl (fun ls hl => W.pc 18 rfl ?_)
    have L_18 : ∀ (z2 : Int32 × Int32), (∀ (H : Heap) (locs : List Loc) (ls : Array Slot), wP E [(a0, .inr (4, [.ref a0_town, .ref a0_draft, .ref a0_images, .int a0_imagesKept, .ref a0_text, .ref a0_planner, .ref a0_trial, .ref a0_spread, .ref a0_spreadBehind, .ref a0_tally, .long a0_above, .long a0_below, .int a0_refusedAsBad, .int a0_refusedAsNo, .int a0_refusedAsFull])), (a0_town, .inr (3, [.int a0_town_kind, .ref a0_town_pulls, .ref a0_town_site, .ref a0_town_past, .int a0_town_pasts, .ref a0_town_views, .int a0_town_members, .ref a0_town_notes, .int a0_town_noteCount, .ref a0_town_marks, .int a0_town_markCount])), (a0_town_marks, aI E 30 fa0_town_marks)] H → va_D A [(a0, .inr (4, [.ref a0_town, .ref a0_draft, .ref a0_images, .int a0_imagesKept, .ref a0_text, .ref a0_planner, .ref a0_trial, .ref a0_spread, .ref a0_spreadBehind, .ref a0_tally, .long a0_above, .long a0_below, .int a0_refusedAsBad, .int a0_refusedAsNo, .int a0_refusedAsFull])), (a0_town, .inr (3, [.int a0_town_kind, .ref a0_town_pulls, .ref a0_town_site, .ref a0_town_past, .int a0_town_pasts, .ref a0_town_views, .int a0_town_members, .ref a0_town_notes, .int a0_town_noteCount, .ref a0_town_marks, .int a0_town_markCount])), (a0_town_marks, aI E 30 fa0_town_marks)] → va_S A s.heap H locs → lv_has ls 4 [(2, .int z2.1)] → W p l e (wR 3) s m [.ref a0, .int p1].toArray below meth c H locs 0 0 (MQ below (QWd E A (some (.int z_0)) [(a0, .inr (4, [.ref a0_town, .ref a0_draft, .ref a0_images, .int a0_imagesKept, .ref a0_text, .ref a0_planner, .ref a0_trial, .ref a0_spread, .ref a0_spreadBehind, .ref a0_tally, .long a0_above, .long a0_below, .int z_1, .int a0_refusedAsNo, .int a0_refusedAsFull])), (a0_town, .inr (3, [.int a0_town_kind, .ref a0_town_pulls, .ref a0_town_site, .ref a0_town_past, .int a0_town_pasts, .ref a0_town_views, .int a0_town_members, .ref a0_town_notes, .int a0_town_noteCount, .ref a0_town_marks, .int a0_town_markCount])), (a0_town_marks, aI E 30 fa0_town_marks)]) [.ref a0, .int p1].toArray s 0 0 A) (F0 m 48 ls [])) → ∀ (fu : Nat) (x2_18 : Int32) (x3_18 : Int32), ∀ (H : Heap) (locs : List Loc) (ls : Array Slot), wP E [(a0, .inr (4, [.ref a0_town, .ref a0_draft, .ref a0_images, .int a0_imagesKept, .ref a0_text, .ref a0_planner, .ref a0_trial, .ref a0_spread, .ref a0_spreadBehind, .ref a0_tally, .long a0_above, .long a0_below, .int a0_refusedAsBad, .int a0_refusedAsNo, .int a0_refusedAsFull])), (a0_town, .inr (3, [.int a0_town_kind, .ref a0_town_pulls, .ref a0_town_site, .ref a0_town_past, .int a0_town_pasts, .ref a0_town_views, .int a0_town_members, .ref a0_town_notes, .int a0_town_noteCount, .ref a0_town_marks, .int a0_town_markCount])), (a0_town_marks, aI E 30 fa0_town_marks)] H → va_D A [(a0, .inr (4, [.ref a0_town, .ref a0_draft, .ref a0_images, .int a0_imagesKept, .ref a0_text, .ref a0_planner, .ref a0_trial, .ref a0_spread, .ref a0_spreadBehind, .ref a0_tally, .long a0_above, .long a0_below, .int a0_refusedAsBad, .int a0_refusedAsNo, .int a0_refusedAsFull])), (a0_town, .inr (3, [.int a0_town_kind, .ref a0_town_pulls, .ref a0_town_site, .ref a0_town_past, .int a0_town_pasts, .ref a0_town_views, .int a0_town_members, .ref a0_town_notes, .int a0_town_noteCount, .ref a0_town_marks, .int a0_town_markCount])), (a0_town_marks, aI E 30 fa0_town_marks)] → va_S A s.heap H locs → lv_has ls 4 [(0, .ref a0), (1, .int p1), (2, .int x2_18), (3, .int x3_18)] → lp_X7_kinds_18 p1 a0_town_markCount fa0_town_marks fu x2_18 x3_18 = some z2 → W p l e (wR 3) s m [.ref a0, .int p1].toArray below meth c H locs 0 0 (MQ below (QWd E A (some (.int z_0)) [(a0, .inr (4, [.ref a0_town, .ref a0_draft, .ref a0_images, .int a0_imagesKept, .ref a0_text, .ref a0_planner, .ref a0_trial, .ref a0_spread, .ref a0_spreadBehind, .ref a0_tally, .long a0_above, .long a0_below, .int z_1, .int a0_refusedAsNo, .int a0_refusedAsFull])), (a0_town, .inr (3, [.int a0_town_kind, .ref a0_town_pulls, .ref a0_town_site, .ref a0_town_past, .int a0_town_pasts, .ref a0_town_views, .int a0_town_members, .ref a0_town_notes, .int a0_town_noteCount, .ref a0_town_marks, .int a0_town_markCount])), (a0_town_marks, aI E 30 fa0_town_marks)]) [.ref a0, .int p1].toArray s 0 0 A) (F0 m 18 ls []) := by
      intro z2 hk_18 fu
      induction fu with
      | zero => intro x2_18 x3_18 H locs ls hP hD hS hl hsp; exact absurd (show none = some _ from hsp) (by simp)
      | succ fu ih_18 =>
        intro x2_18 x3_18 H locs ls hP hD hS hl hsp
        have hsp : (if (6 : Int32) ≤ x3_18 then (some (x2_18, x3_18)) else (Option.bind (sp_X6_marksFit p1 x3_18 a0_town_markCount fa0_town_marks) fun z4 => lt_ (if z4 = 0 then (x2_18) else ((x2_18 ||| ((1 : Int32) <<< (x3_18 &&& 31))))) fun z5 => lp_X7_kinds_18 p1 a0_town_markCount fa0_town_marks fu z5 (x3_18 + (1 : Int32)))) = some z2 := hsp
        refine lv_iload_n hx hb dX7_kinds_18 rfl (lv_at hl 3 rfl) (W.pc 19 rfl ?_)
        refine lv_bipush (v := (6 : Int32)) hx hb dX7_kinds_19 (by decide) (W.pc 21 rfl ?_)
        refine lv_icmp_ge (tgt := 48) hx hb dX7_kinds_21 (by decide) (fun c3 => ?_) (fun c3 => W.pc 24 rfl ?_)
        · have hsp := ip hsp c3
          obtain rfl := Option.some.inj hsp
          exact hk_18 _ _ _ hP hD hS (lv_sub hl [2] rfl)
        · have hsp := iq hsp c3
          refine lv_aload_n hx hb dX7_kinds_24 rfl (lv_at hl 0 rfl) (W.pc 25 rfl ?_)
          refine va_get (D := E.1) (ci := 4) (v := .ref a0_town) (C := RX7) (T := TX7) (N := 15) hx hb hts inT_X7 hown hK hP 0 rfl rfl 0 (by decide) (hts _ w_1_178) (fun _ h9 => h9) rfl dX7_kinds_25 (W.pc 28 rfl ?_)
          refine lv_iload_n hx hb dX7_kinds_28 rfl (lv_at hl 1 rfl) (W.pc 29 rfl ?_)
          refine lv_iload_n hx hb dX7_kinds_29 rfl (lv_at hl 3 rfl) (W.pc 30 rfl ?_)
          obtain ⟨z4, hr_z4, hsp⟩ := bd_s hsp
          refine kVR (st1 := [.int z4]) hX (c_X6_marksFit l E a0_town a0_town_pulls a0_town_site a0_town_past a0_town_views a0_town_notes a0_town_marks p1 x3_18 a0_town_kind a0_town_pasts a0_town_members a0_town_noteCount a0_town_markCount fa0_town_marks z4 hr_z4) B_X6_marksFit w_3_202 hK (hP.pick [1, 2] rfl) (q0 := 0) (ci := 3) rfl rfl rfl rfl hl.1 rfl (Nat.le_of_ble_eq_true rfl) ⟨Nat.le_of_ble_eq_true rfl, Nat.le_of_ble_eq_true rfl⟩ dX7_kinds_30 rfl (W.pc 33 rfl ?_)
          obtain ⟨z5, hr_z5, hsp⟩ := ltb_s hsp
          have J6 : ∀ (H : Heap) (locs : List Loc) (ls : Array Slot), wP E [(a0, .inr (4, [.ref a0_town, .ref a0_draft, .ref a0_images, .int a0_imagesKept, .ref a0_text, .ref a0_planner, .ref a0_trial, .ref a0_spread, .ref a0_spreadBehind, .ref a0_tally, .long a0_above, .long a0_below, .int a0_refusedAsBad, .int a0_refusedAsNo, .int a0_refusedAsFull])), (a0_town, .inr (3, [.int a0_town_kind, .ref a0_town_pulls, .ref a0_town_site, .ref a0_town_past, .int a0_town_pasts, .ref a0_town_views, .int a0_town_members, .ref a0_town_notes, .int a0_town_noteCount, .ref a0_town_marks, .int a0_town_markCount])), (a0_town_marks, aI E 30 fa0_town_marks)] H → va_D A [(a0, .inr (4, [.ref a0_town, .ref a0_draft, .ref a0_images, .int a0_imagesKept, .ref a0_text, .ref a0_planner, .ref a0_trial, .ref a0_spread, .ref a0_spreadBehind, .ref a0_tally, .long a0_above, .long a0_below, .int a0_refusedAsBad, .int a0_refusedAsNo, .int a0_refusedAsFull])), (a0_town, .inr (3, [.int a0_town_kind, .ref a0_town_pulls, .ref a0_town_site, .ref a0_town_past, .int a0_town_pasts, .ref a0_town_views, .int a0_town_members, .ref a0_town_notes, .int a0_town_noteCount, .ref a0_town_marks, .int a0_town_markCount])), (a0_town_marks, aI E 30 fa0_town_marks)] → va_S A s.heap H locs → lv_has ls 4 [(0, .ref a0), (1, .int p1), (2, .int z5), (3, .int x3_18)] → W p l e (wR 3) s m [.ref a0, .int p1].toArray below meth c H locs 0 0 (MQ below (QWd E A (some (.int z_0)) [(a0, .inr (4, [.ref a0_town, .ref a0_draft, .ref a0_images, .int a0_imagesKept, .ref a0_text, .ref a0_planner, .ref a0_trial, .ref a0_spread, .ref a0_spreadBehind, .ref a0_tally, .long a0_above, .long a0_below, .int z_1, .int a0_refusedAsNo, .int a0_refusedAsFull])), (a0_town, .inr (3, [.int a0_town_kind, .ref a0_town_pulls, .ref a0_town_site, .ref a0_town_past, .int a0_town_pasts, .ref a0_town_views, .int a0_town_members, .ref a0_town_notes, .int a0_town_noteCount, .ref a0_town_marks, .int a0_town_markCount])), (a0_town_marks, aI E 30 fa0_town_marks)]) [.ref a0, .int p1].toArray s 0 0 A) (F0 m 42 ls []) := by
            intro H locs ls hP hD hS hl
            refine lv_iinc (v := (x3_18 + (1 : Int32))) (lv' := [(3, .int (x3_18 + (1 : Int32))), (0, .ref a0), (1, .int p1), (2, .int z5)]) hx hb dX7_kinds_42 hl (k := 3) rfl rfl (by decide) rfl (fun ls hl => W.pc 45 rfl ?_)
            refine lv_goto (tgt := 18) hx hb dX7_kinds_45 (by decide) ?_
            exact ih_18 z5 (x3_18 + (1 : Int32)) _ _ _ hP hD hS (lv_sub hl [1, 2, 3, 0] rfl) hsp
          replace hsp := hr_z5
          refine lv_if_eq (tgt := 42) hx hb dX7_kinds_33 (by decide) (fun c7 => ?_) (fun c7 => W.pc 36 rfl ?_)
          · have hsp := ip hsp c7
            subst hsp
            exact J6 _ _ _ hP hD hS (lv_sub hl [0, 1, 2, 3] rfl)
          · have hsp := iq hsp c7
            refine lv_iload_n hx hb dX7_kinds_36 rfl (lv_at hl 2 rfl) (W.pc 37 rfl ?_)
            refine lv_iconst (v := (1 : Int32)) hx hb dX7_kinds_37 (by decide) (W.pc 38 rfl ?_)
            refine lv_iload_n hx hb dX7_kinds_38 rfl (lv_at hl 3 rfl) (W.pc 39 rfl ?_)
            refine lv_ishl hx hb dX7_kinds_39 (W.pc 40 rfl ?_)
            refine lv_ior hx hb dX7_kinds_40 (W.pc 41 rfl ?_)
            refine lv_istore_n (lv' := [(2, .int (x2_18 ||| ((1 : Int32) <<< (x3_18 &&& 31)))), (0, .ref a0), (1, .int p1), (3, .int x3_18)]) hx hb dX7_kinds_41 rfl hl (by decide) rfl (fun ls hl => W.pc 42 rfl ?_)
            subst hsp
            exact J6 _ _ _ hP hD hS (lv_sub hl [1, 2, 0, 3] rfl)
    obtain ⟨z2, hr_z2, hsp⟩ := bd_s hsp
    refine L_18 z2 (fun H locs ls hP hD hS hl => ?_) FU (0 : Int32) (0 : Int32) _ _ _ hP hD hS (lv_sub hl [2, 3, 1, 0] rfl) hr_z2
    refine lv_iload_n hx hb dX7_kinds_48 rfl (lv_at hl 0 rfl) (W.pc 49 rfl ?_)
    cases hsp
    exact rWi hX hP hS rfl rfl dX7_kinds_49
  · have hsp := ip hsp c1
    refine lv_aload_n hx hb dX7_kinds_7 rfl (lv_at hl 0 rfl) (W.pc 8 rfl ?_)
    refine lv_bipush (v := (-2 : Int32)) hx hb dX7_kinds_8 (by decide) (W.pc 10 rfl ?_)
    obtain ⟨z8, hr_z8, hsp⟩ := ltb_s hsp
    refine kVW (st1 := [.int z8.1]) (ws' := [(a0, .inr (4, [.ref a0_town, .ref a0_draft, .ref a0_images, .int a0_imagesKept, .ref a0_text, .ref a0_planner, .ref a0_trial, .ref a0_spread, .ref a0_spreadBehind, .ref a0_tally, .long a0_above, .long a0_below, .int z8.2, .int a0_refusedAsNo, .int a0_refusedAsFull])), (a0_town, .inr (3, [.int a0_town_kind, .ref a0_town_pulls, .ref a0_town_site, .ref a0_town_past, .int a0_town_pasts, .ref a0_town_views, .int a0_town_members, .ref a0_town_notes, .int a0_town_noteCount, .ref a0_town_marks, .int a0_town_markCount])), (a0_town_marks, aI E 30 fa0_town_marks)]) [0] hX (c_X7_bad l E a0 a0_town a0_draft a0_images a0_text a0_planner a0_trial a0_spread a0_spreadBehind a0_tally (-2 : Int32) a0_imagesKept a0_above a0_below a0_refusedAsBad a0_refusedAsNo a0_refusedAsFull z8.1 z8.2 hr_z8) B_X7_bad w_1_234 hK hP hD hS hA (by decide) rfl rfl rfl (q0 := 0) (ci := 4) rfl rfl rfl rfl hl.1 rfl (Nat.le_of_ble_eq_true rfl) ⟨Nat.le_of_ble_eq_true rfl, Nat.le_of_ble_eq_true rfl⟩ dX7_kinds_10 rfl (fun H locs hP hD hS => W.pc 13 rfl ?_)
    cases hsp
    exact rWi hX hP hS rfl rfl dX7_kinds_13
noncomputable def lp_X7_tries_45 (z2 : Int32 × Int32) (x5_35 : Int32) : Nat → Int32 → Int32 → Int32 → Option (Int32 × Int32 × Int32)
 | 0, _, _, _ => none
 | fu + 1, x3_45, x4_45, x6_45 => if (9 : Int32) < x6_45 then (some (x3_45, x4_45, x6_45)) else (Option.bind (sp_X7_greaterPart z2.1 x5_35 x6_45) fun z8 => lt_ (if x4_45 ≤ z8 then ((x3_45, x4_45)) else (((((100 : Int32) * x5_35) + x6_45), z8))) fun z9 => lp_X7_tries_45 z2 x5_35 fu z9.1 z9.2 (x6_45 + (1 : Int32)))
noncomputable def lp_X7_tries_35 (z2 : Int32 × Int32) : Nat → Int32 → Int32 → Int32 → Option (Int32 × Int32 × Int32)
 | 0, _, _, _ => none
 | fu + 1, x3_35, x4_35, x5_35 => if (9 : Int32) < x5_35 then (some (x3_35, x4_35, x5_35)) else (Option.bind (lp_X7_tries_45 z2 x5_35 FU x3_35 x4_35 (0 : Int32)) fun z6 => lp_X7_tries_35 z2 fu z6.1 z6.2.1 (x5_35 + (1 : Int32)))
noncomputable def sp_X7_tries (p1 : Int32) (a0_refusedAsBad : Int32) (a0_town_markCount : Int32) (fa0_town_marks : Nat → Int32) : Option (Int32 × Int32) := if (sp_X7_isName p1) = 0 then (lt_ (sp_X7_bad (-2 : Int32) a0_refusedAsBad) fun z12 => some (z12.1, z12.2)) else (Option.bind (sp_X7_kinds p1 a0_refusedAsBad a0_town_markCount fa0_town_marks) fun z2 => if z2.1 = 0 then (some ((-1 : Int32), z2.2)) else (Option.bind (lp_X7_tries_35 z2 FU (-1 : Int32) (7 : Int32) (0 : Int32)) fun z4 => some (z4.1, z2.2)))
set_option maxHeartbeats 4000000 in
set_option maxRecDepth 100000 in
theorem c_X7_tries (l : Launch) (E : wE) (a0 a0_town a0_draft a0_images a0_text a0_planner a0_trial a0_spread a0_spreadBehind a0_tally a0_town_pulls a0_town_site a0_town_past a0_town_views a0_town_notes a0_town_marks : Nat) (p1 : Int32) (a0_imagesKept : Int32) (a0_above : Int64) (a0_below : Int64) (a0_refusedAsBad : Int32) (a0_refusedAsNo : Int32) (a0_refusedAsFull : Int32) (a0_town_kind : Int32) (a0_town_pasts : Int32) (a0_town_members : Int32) (a0_town_noteCount : Int32) (a0_town_markCount : Int32) (fa0_town_marks : Nat → Int32) (z_0 : Int32) (z_1 : Int32) (hsp : sp_X7_tries p1 a0_refusedAsBad a0_town_markCount fa0_town_marks = some (z_0, z_1)) : MW l yX7_tries cX7_tries 8 (some .int) 4 E [.ref a0, .int p1] [(a0, .inr (4, [.ref a0_town, .ref a0_draft, .ref a0_images, .int a0_imagesKept, .ref a0_text, .ref a0_planner, .ref a0_trial, .ref a0_spread, .ref a0_spreadBehind, .ref a0_tally, .long a0_above, .long a0_below, .int a0_refusedAsBad, .int a0_refusedAsNo, .int a0_refusedAsFull])), (a0_town, .inr (3, [.int a0_town_kind, .ref a0_town_pulls, .ref a0_town_site, .ref a0_town_past, .int a0_town_pasts, .ref a0_town_views, .int a0_town_members, .ref a0_town_notes, .int a0_town_noteCount, .ref a0_town_marks, .int a0_town_markCount])), (a0_town_marks, aI E 30 fa0_town_marks)] (some (.int z_0)) [(a0, .inr (4, [.ref a0_town, .ref a0_draft, .ref a0_images, .int a0_imagesKept, .ref a0_text, .ref a0_planner, .ref a0_trial, .ref a0_spread, .ref a0_spreadBehind, .ref a0_tally, .long a0_above, .long a0_below, .int z_1, .int a0_refusedAsNo, .int a0_refusedAsFull])), (a0_town, .inr (3, [.int a0_town_kind, .ref a0_town_pulls, .ref a0_town_site, .ref a0_town_past, .int a0_town_pasts, .ref a0_town_views, .int a0_town_members, .ref a0_town_notes, .int a0_town_noteCount, .ref a0_town_marks, .int a0_town_markCount])), (a0_town_marks, aI E 30 fa0_town_marks)] := by
  refine MW.of (by decide +kernel) (Nat.le_of_ble_eq_true rfl) ?_
  intro p e s m below meth c ls A hX hK hP hD hS hA hl
  have hX : CX p s m [.ref a0, .int p1].toArray meth c cX7_tries 8 (some .int) RX7 := hX
  have hx := hX.1; have hb := hX.2.1; have hts := hX.2.2.2.2.1; have hown := hX.2.2.2.2.2.1
  have hl : lv_has ls 8 [(0, .ref a0), (1, .int p1)] := hl
  have hP : wP E [(a0, .inr (4, [.ref a0_town, .ref a0_draft, .ref a0_images, .int a0_imagesKept, .ref a0_text, .ref a0_planner, .ref a0_trial, .ref a0_spread, .ref a0_spreadBehind, .ref a0_tally, .long a0_above, .long a0_below, .int a0_refusedAsBad, .int a0_refusedAsNo, .int a0_refusedAsFull])), (a0_town, .inr (3, [.int a0_town_kind, .ref a0_town_pulls, .ref a0_town_site, .ref a0_town_past, .int a0_town_pasts, .ref a0_town_views, .int a0_town_members, .ref a0_town_notes, .int a0_town_noteCount, .ref a0_town_marks, .int a0_town_markCount])), (a0_town_marks, aI E 30 fa0_town_marks)] s.heap := hP
  have hsp : (if (sp_X7_isName p1) = 0 then (lt_ (sp_X7_bad (-2 : Int32) a0_refusedAsBad) fun z12 => some (z12.1, z12.2)) else (Option.bind (sp_X7_kinds p1 a0_refusedAsBad a0_town_markCount fa0_town_marks) fun z2 => if z2.1 = 0 then (some ((-1 : Int32), z2.2)) else (Option.bind (lp_X7_tries_35 z2 FU (-1 : Int32) (7 : Int32) (0 : Int32)) fun z4 => some (z4.1, z2.2)))) = some (z_0, z_1) := hsp
  refine lv_iload_n hx hb dX7_tries_0 rfl (lv_at hl 1 rfl) (W.pc 1 rfl ?_)
  refine kSR (st1 := [.int (sp_X7_isName p1)]) hX (c_X7_isName l E p1 _ rfl) B_X7_isName w_3_173 hK (hP.pick [] rfl) rfl hl.1 rfl (Nat.le_of_ble_eq_true rfl) ⟨Nat.le_of_ble_eq_true rfl, Nat.le_of_ble_eq_true rfl⟩ dX7_tries_1 rfl (W.pc 4 rfl ?_)
  refine lv_if_ne (tgt := 14) hx hb dX7_tries_4 (by decide) (fun c1 => ?_) (fun c1 => W.pc 7 rfl ?_)
  · have hsp := iq hsp c1
    refine lv_aload_n hx hb dX7_tries_14 rfl (lv_at hl 0 rfl) (W.pc 15 rfl ?_)
    refine lv_iload_n hx hb dX7_tries_15 rfl (lv_at hl 1 rfl) (W.pc 16 rfl ?_)
    obtain ⟨z2, hr_z2, hsp⟩ := bd_s hsp
    refine kVW (st1 := [.int z2.1]) (ws' := [(a0, .inr (4, [.ref a0_town, .ref a0_draft, .ref a0_images, .int a0_imagesKept, .ref a0_text, .ref a0_planner, .ref a0_trial, .ref a0_spread, .ref a0_spreadBehind, .ref a0_tally, .long a0_above, .long a0_below, .int z2.2, .int a0_refusedAsNo, .int a0_refusedAsFull])), (a0_town, .inr (3, [.int a0_town_kind, .ref a0_town_pulls, .ref a0_town_site, .ref a0_town_past, .int a0_town_pasts, .ref a0_town_views, .int a0_town_members, .ref a0_town_notes, .int a0_town_noteCount, .ref a0_town_marks, .int a0_town_markCount])), (a0_town_marks, aI E 30 fa0_town_marks)]) [0, 1, 2] hX (c_X7_kinds l E a0 a0_town a0_draft a0_images a0_text a0_planner a0_trial a0_spread a0_spreadBehind a0_tally a0_town_pulls a0_town_site a0_town_past a0_town_views a0_town_notes a0_town_marks p1 a0_imagesKept a0_above a0_below a0_refusedAsBad a0_refusedAsNo a0_refusedAsFull a0_town_kind a0_town_pasts a0_town_members a0_town_noteCount a0_town_markCount fa0_town_marks z2.1 z2.2 hr_z2) B_X7_kinds w_3_211 hK hP hD hS hA (by decide) rfl rfl rfl (q0 := 0) (ci := 4) rfl rfl rfl rfl hl.1 rfl (Nat.le_of_ble_eq_true rfl) ⟨Nat.le_of_ble_eq_true rfl, Nat.le_of_ble_eq_true rfl⟩ dX7_tries_16 rfl (fun H locs hP hD hS => W.pc 19 rfl ?_)
    refine lv_istore_n (lv' := [(2, .int z2.1), (0, .ref a0), (1, .int p1)]) hx hb dX7_tries_19 rfl hl (by decide) rfl (fun ls hl => W.pc 20 rfl ?_)
    refine lv_iconst (v := (-1 : Int32)) hx hb dX7_tries_20 (by decide) (W.pc 21 rfl ?_)
    refine lv_istore_n (lv' := [(3, .int (-1 : Int32)), (2, .int z2.1), (0, .ref a0), (1, .int p1)]) hx hb dX7_tries_21 rfl hl (by decide) rfl (fun ls hl => W.pc 22 rfl ?_)
    refine lv_bipush (v := (7 : Int32)) hx hb dX7_tries_22 (by decide) (W.pc 24 rfl ?_)
    refine lv_istore (lv' := [(4, .int (7 : Int32)), (3, .int (-1 : Int32)), (2, .int z2.1), (0, .ref a0), (1, .int p1)]) hx hb dX7_tries_24 hl (by decide) rfl (fun ls hl => W.pc 26 rfl ?_)
    refine lv_iload_n hx hb dX7_tries_26 rfl (lv_at hl 2 rfl) (W.pc 27 rfl ?_)
    refine lv_if_ne (tgt := 32) hx hb dX7_tries_27 (by decide) (fun c3 => ?_) (fun c3 => W.pc 30 rfl ?_)
    · have hsp := iq hsp c3
      refine lv_iconst (v := (0 : Int32)) hx hb dX7_tries_32 (by decide) (W.pc 33 rfl ?_)
      refine lv_istore (lv' := [(5, .int (0 : Int32)), (4, .int (7 : Int32)), (3, .int (-1 : Int32)), (2, .int z2.1), (0, .ref a0), (1, .int p1)]) hx hb dX7_tries_33 hl (by decide) rfl (fun ls hl => W.pc 35 rfl ?_)
      have L_35 : ∀ (z4 : Int32 × Int32 × Int32), (∀ (H : Heap) (locs : List Loc) (ls : Array Slot), wP E [(a0, .inr (4, [.ref a0_town, .ref a0_draft, .ref a0_images, .int a0_imagesKept, .ref a0_text, .ref a0_planner, .ref a0_trial, .ref a0_spread, .ref a0_spreadBehind, .ref a0_tally, .long a0_above, .long a0_below, .int z2.2, .int a0_refusedAsNo, .int a0_refusedAsFull])), (a0_town, .inr (3, [.int a0_town_kind, .ref a0_town_pulls, .ref a0_town_site, .ref a0_town_past, .int a0_town_pasts, .ref a0_town_views, .int a0_town_members, .ref a0_town_notes, .int a0_town_noteCount, .ref a0_town_marks, .int a0_town_markCount])), (a0_town_marks, aI E 30 fa0_town_marks)] H → va_D A [(a0, .inr (4, [.ref a0_town, .ref a0_draft, .ref a0_images, .int a0_imagesKept, .ref a0_text, .ref a0_planner, .ref a0_trial, .ref a0_spread, .ref a0_spreadBehind, .ref a0_tally, .long a0_above, .long a0_below, .int z2.2, .int a0_refusedAsNo, .int a0_refusedAsFull])), (a0_town, .inr (3, [.int a0_town_kind, .ref a0_town_pulls, .ref a0_town_site, .ref a0_town_past, .int a0_town_pasts, .ref a0_town_views, .int a0_town_members, .ref a0_town_notes, .int a0_town_noteCount, .ref a0_town_marks, .int a0_town_markCount])), (a0_town_marks, aI E 30 fa0_town_marks)] → va_S A s.heap H locs → lv_has ls 8 [(3, .int z4.1)] → W p l e (wR 4) s m [.ref a0, .int p1].toArray below meth c H locs 0 0 (MQ below (QWd E A (some (.int z_0)) [(a0, .inr (4, [.ref a0_town, .ref a0_draft, .ref a0_images, .int a0_imagesKept, .ref a0_text, .ref a0_planner, .ref a0_trial, .ref a0_spread, .ref a0_spreadBehind, .ref a0_tally, .long a0_above, .long a0_below, .int z_1, .int a0_refusedAsNo, .int a0_refusedAsFull])), (a0_town, .inr (3, [.int a0_town_kind, .ref a0_town_pulls, .ref a0_town_site, .ref a0_town_past, .int a0_town_pasts, .ref a0_town_views, .int a0_town_members, .ref a0_town_notes, .int a0_town_noteCount, .ref a0_town_marks, .int a0_town_markCount])), (a0_town_marks, aI E 30 fa0_town_marks)]) [.ref a0, .int p1].toArray s 0 0 A) (F0 m 94 ls [])) → ∀ (fu : Nat) (x3_35 : Int32) (x4_35 : Int32) (x5_35 : Int32), ∀ (H : Heap) (locs : List Loc) (ls : Array Slot), wP E [(a0, .inr (4, [.ref a0_town, .ref a0_draft, .ref a0_images, .int a0_imagesKept, .ref a0_text, .ref a0_planner, .ref a0_trial, .ref a0_spread, .ref a0_spreadBehind, .ref a0_tally, .long a0_above, .long a0_below, .int z2.2, .int a0_refusedAsNo, .int a0_refusedAsFull])), (a0_town, .inr (3, [.int a0_town_kind, .ref a0_town_pulls, .ref a0_town_site, .ref a0_town_past, .int a0_town_pasts, .ref a0_town_views, .int a0_town_members, .ref a0_town_notes, .int a0_town_noteCount, .ref a0_town_marks, .int a0_town_markCount])), (a0_town_marks, aI E 30 fa0_town_marks)] H → va_D A [(a0, .inr (4, [.ref a0_town, .ref a0_draft, .ref a0_images, .int a0_imagesKept, .ref a0_text, .ref a0_planner, .ref a0_trial, .ref a0_spread, .ref a0_spreadBehind, .ref a0_tally, .long a0_above, .long a0_below, .int z2.2, .int a0_refusedAsNo, .int a0_refusedAsFull])), (a0_town, .inr (3, [.int a0_town_kind, .ref a0_town_pulls, .ref a0_town_site, .ref a0_town_past, .int a0_town_pasts, .ref a0_town_views, .int a0_town_members, .ref a0_town_notes, .int a0_town_noteCount, .ref a0_town_marks, .int a0_town_markCount])), (a0_town_marks, aI E 30 fa0_town_marks)] → va_S A s.heap H locs → lv_has ls 8 [(2, .int z2.1), (3, .int x3_35), (4, .int x4_35), (5, .int x5_35)] → lp_X7_tries_35 z2 fu x3_35 x4_35 x5_35 = some z4 → W p l e (wR 4) s m [.ref a0, .int p1].toArray below meth c H locs 0 0 (MQ below (QWd E A (some (.int z_0)) [(a0, .inr (4, [.ref a0_town, .ref a0_draft, .ref a0_images, .int a0_imagesKept, .ref a0_text, .ref a0_planner, .ref a0_trial, .ref a0_spread, .ref a0_spreadBehind, .ref a0_tally, .long a0_above, .long a0_below, .int z_1, .int a0_refusedAsNo, .int a0_refusedAsFull])), (a0_town, .inr (3, [.int a0_town_kind, .ref a0_town_pulls, .ref a0_town_site, .ref a0_town_past, .int a0_town_pasts, .ref a0_town_views, .int a0_town_members, .ref a0_town_notes, .int a0_town_noteCount, .ref a0_town_marks, .int a0_town_markCount])), (a0_town_marks, aI E 30 fa0_town_marks)]) [.ref a0, .int p1].toArray s 0 0 A) (F0 m 35 ls []) := by
        intro z4 hk_35 fu
        induction fu with
        | zero => intro x3_35 x4_35 x5_35 H locs ls hP hD hS hl hsp; exact absurd (show none = some _ from hsp) (by simp)
        | succ fu ih_35 =>
          intro x3_35 x4_35 x5_35 H locs ls hP hD hS hl hsp
          have hsp : (if (9 : Int32) < x5_35 then (some (x3_35, x4_35, x5_35)) else (Option.bind (lp_X7_tries_45 z2 x5_35 FU x3_35 x4_35 (0 : Int32)) fun z6 => lp_X7_tries_35 z2 fu z6.1 z6.2.1 (x5_35 + (1 : Int32)))) = some z4 := hsp
          refine lv_iload hx hb dX7_tries_35 (lv_at hl 3 rfl) (W.pc 37 rfl ?_)
          refine lv_bipush (v := (9 : Int32)) hx hb dX7_tries_37 (by decide) (W.pc 39 rfl ?_)
          refine lv_icmp_gt (tgt := 94) hx hb dX7_tries_39 (by decide) (fun c5 => ?_) (fun c5 => W.pc 42 rfl ?_)
          · have hsp := ip hsp c5
            obtain rfl := Option.some.inj hsp
            exact hk_35 _ _ _ hP hD hS (lv_sub hl [1] rfl)
          · have hsp := iq hsp c5
            refine lv_iconst (v := (0 : Int32)) hx hb dX7_tries_42 (by decide) (W.pc 43 rfl ?_)
            refine lv_istore (lv' := [(6, .int (0 : Int32)), (2, .int z2.1), (3, .int x3_35), (4, .int x4_35), (5, .int x5_35)]) hx hb dX7_tries_43 hl (by decide) rfl (fun ls hl => W.pc 45 rfl ?_)
            have L_45 : ∀ (z6 : Int32 × Int32 × Int32), (∀ (H : Heap) (locs : List Loc) (ls : Array Slot), wP E [(a0, .inr (4, [.ref a0_town, .ref a0_draft, .ref a0_images, .int a0_imagesKept, .ref a0_text, .ref a0_planner, .ref a0_trial, .ref a0_spread, .ref a0_spreadBehind, .ref a0_tally, .long a0_above, .long a0_below, .int z2.2, .int a0_refusedAsNo, .int a0_refusedAsFull])), (a0_town, .inr (3, [.int a0_town_kind, .ref a0_town_pulls, .ref a0_town_site, .ref a0_town_past, .int a0_town_pasts, .ref a0_town_views, .int a0_town_members, .ref a0_town_notes, .int a0_town_noteCount, .ref a0_town_marks, .int a0_town_markCount])), (a0_town_marks, aI E 30 fa0_town_marks)] H → va_D A [(a0, .inr (4, [.ref a0_town, .ref a0_draft, .ref a0_images, .int a0_imagesKept, .ref a0_text, .ref a0_planner, .ref a0_trial, .ref a0_spread, .ref a0_spreadBehind, .ref a0_tally, .long a0_above, .long a0_below, .int z2.2, .int a0_refusedAsNo, .int a0_refusedAsFull])), (a0_town, .inr (3, [.int a0_town_kind, .ref a0_town_pulls, .ref a0_town_site, .ref a0_town_past, .int a0_town_pasts, .ref a0_town_views, .int a0_town_members, .ref a0_town_notes, .int a0_town_noteCount, .ref a0_town_marks, .int a0_town_markCount])), (a0_town_marks, aI E 30 fa0_town_marks)] → va_S A s.heap H locs → lv_has ls 8 [(2, .int z2.1), (3, .int z6.1), (4, .int z6.2.1), (5, .int x5_35)] → W p l e (wR 4) s m [.ref a0, .int p1].toArray below meth c H locs 0 0 (MQ below (QWd E A (some (.int z_0)) [(a0, .inr (4, [.ref a0_town, .ref a0_draft, .ref a0_images, .int a0_imagesKept, .ref a0_text, .ref a0_planner, .ref a0_trial, .ref a0_spread, .ref a0_spreadBehind, .ref a0_tally, .long a0_above, .long a0_below, .int z_1, .int a0_refusedAsNo, .int a0_refusedAsFull])), (a0_town, .inr (3, [.int a0_town_kind, .ref a0_town_pulls, .ref a0_town_site, .ref a0_town_past, .int a0_town_pasts, .ref a0_town_views, .int a0_town_members, .ref a0_town_notes, .int a0_town_noteCount, .ref a0_town_marks, .int a0_town_markCount])), (a0_town_marks, aI E 30 fa0_town_marks)]) [.ref a0, .int p1].toArray s 0 0 A) (F0 m 88 ls [])) → ∀ (fu : Nat) (x3_45 : Int32) (x4_45 : Int32) (x6_45 : Int32), ∀ (H : Heap) (locs : List Loc) (ls : Array Slot), wP E [(a0, .inr (4, [.ref a0_town, .ref a0_draft, .ref a0_images, .int a0_imagesKept, .ref a0_text, .ref a0_planner, .ref a0_trial, .ref a0_spread, .ref a0_spreadBehind, .ref a0_tally, .long a0_above, .long a0_below, .int z2.2, .int a0_refusedAsNo, .int a0_refusedAsFull])), (a0_town, .inr (3, [.int a0_town_kind, .ref a0_town_pulls, .ref a0_town_site, .ref a0_town_past, .int a0_town_pasts, .ref a0_town_views, .int a0_town_members, .ref a0_town_notes, .int a0_town_noteCount, .ref a0_town_marks, .int a0_town_markCount])), (a0_town_marks, aI E 30 fa0_town_marks)] H → va_D A [(a0, .inr (4, [.ref a0_town, .ref a0_draft, .ref a0_images, .int a0_imagesKept, .ref a0_text, .ref a0_planner, .ref a0_trial, .ref a0_spread, .ref a0_spreadBehind, .ref a0_tally, .long a0_above, .long a0_below, .int z2.2, .int a0_refusedAsNo, .int a0_refusedAsFull])), (a0_town, .inr (3, [.int a0_town_kind, .ref a0_town_pulls, .ref a0_town_site, .ref a0_town_past, .int a0_town_pasts, .ref a0_town_views, .int a0_town_members, .ref a0_town_notes, .int a0_town_noteCount, .ref a0_town_marks, .int a0_town_markCount])), (a0_town_marks, aI E 30 fa0_town_marks)] → va_S A s.heap H locs → lv_has ls 8 [(2, .int z2.1), (3, .int x3_45), (4, .int x4_45), (5, .int x5_35), (6, .int x6_45)] → lp_X7_tries_45 z2 x5_35 fu x3_45 x4_45 x6_45 = some z6 → W p l e (wR 4) s m [.ref a0, .int p1].toArray below meth c H locs 0 0 (MQ below (QWd E A (some (.int z_0)) [(a0, .inr (4, [.ref a0_town, .ref a0_draft, .ref a0_images, .int a0_imagesKept, .ref a0_text, .ref a0_planner, .ref a0_trial, .ref a0_spread, .ref a0_spreadBehind, .ref a0_tally, .long a0_above, .long a0_below, .int z_1, .int a0_refusedAsNo, .int a0_refusedAsFull])), (a0_town, .inr (3, [.int a0_town_kind, .ref a0_town_pulls, .ref a0_town_site, .ref a0_town_past, .int a0_town_pasts, .ref a0_town_views, .int a0_town_members, .ref a0_town_notes, .int a0_town_noteCount, .ref a0_town_marks, .int a0_town_markCount])), (a0_town_marks, aI E 30 fa0_town_marks)]) [.ref a0, .int p1].toArray s 0 0 A) (F0 m 45 ls []) := by
              intro z6 hk_45 fu
              induction fu with
              | zero => intro x3_45 x4_45 x6_45 H locs ls hP hD hS hl hsp; exact absurd (show none = some _ from hsp) (by simp)
              | succ fu ih_45 =>
                intro x3_45 x4_45 x6_45 H locs ls hP hD hS hl hsp
                have hsp : (if (9 : Int32) < x6_45 then (some (x3_45, x4_45, x6_45)) else (Option.bind (sp_X7_greaterPart z2.1 x5_35 x6_45) fun z8 => lt_ (if x4_45 ≤ z8 then ((x3_45, x4_45)) else (((((100 : Int32) * x5_35) + x6_45), z8))) fun z9 => lp_X7_tries_45 z2 x5_35 fu z9.1 z9.2 (x6_45 + (1 : Int32)))) = some z6 := hsp
                refine lv_iload hx hb dX7_tries_45 (lv_at hl 4 rfl) (W.pc 47 rfl ?_)
                refine lv_bipush (v := (9 : Int32)) hx hb dX7_tries_47 (by decide) (W.pc 49 rfl ?_)
                refine lv_icmp_gt (tgt := 88) hx hb dX7_tries_49 (by decide) (fun c7 => ?_) (fun c7 => W.pc 52 rfl ?_)
                · have hsp := ip hsp c7
                  obtain rfl := Option.some.inj hsp
                  exact hk_45 _ _ _ hP hD hS (lv_sub hl [0, 1, 2, 3] rfl)
                · have hsp := iq hsp c7
                  refine lv_iload_n hx hb dX7_tries_52 rfl (lv_at hl 0 rfl) (W.pc 53 rfl ?_)
                  refine lv_iload hx hb dX7_tries_53 (lv_at hl 3 rfl) (W.pc 55 rfl ?_)
                  refine lv_iload hx hb dX7_tries_55 (lv_at hl 4 rfl) (W.pc 57 rfl ?_)
                  obtain ⟨z8, hr_z8, hsp⟩ := bd_s hsp
                  refine kSR (st1 := [.int z8]) hX (c_X7_greaterPart l E z2.1 x5_35 x6_45 z8 hr_z8) B_X7_greaterPart w_3_212 hK (hP.pick [] rfl) rfl hl.1 rfl (Nat.le_of_ble_eq_true rfl) ⟨Nat.le_of_ble_eq_true rfl, Nat.le_of_ble_eq_true rfl⟩ dX7_tries_57 rfl (W.pc 60 rfl ?_)
                  refine lv_istore (lv' := [(7, .int z8), (2, .int z2.1), (3, .int x3_45), (4, .int x4_45), (5, .int x5_35), (6, .int x6_45)]) hx hb dX7_tries_60 hl (by decide) rfl (fun ls hl => W.pc 62 rfl ?_)
                  refine lv_iload hx hb dX7_tries_62 (lv_at hl 0 rfl) (W.pc 64 rfl ?_)
                  refine lv_iload hx hb dX7_tries_64 (lv_at hl 3 rfl) (W.pc 66 rfl ?_)
                  obtain ⟨z9, hr_z9, hsp⟩ := ltb_s hsp
                  have J10 : ∀ (H : Heap) (locs : List Loc) (ls : Array Slot), wP E [(a0, .inr (4, [.ref a0_town, .ref a0_draft, .ref a0_images, .int a0_imagesKept, .ref a0_text, .ref a0_planner, .ref a0_trial, .ref a0_spread, .ref a0_spreadBehind, .ref a0_tally, .long a0_above, .long a0_below, .int z2.2, .int a0_refusedAsNo, .int a0_refusedAsFull])), (a0_town, .inr (3, [.int a0_town_kind, .ref a0_town_pulls, .ref a0_town_site, .ref a0_town_past, .int a0_town_pasts, .ref a0_town_views, .int a0_town_members, .ref a0_town_notes, .int a0_town_noteCount, .ref a0_town_marks, .int a0_town_markCount])), (a0_town_marks, aI E 30 fa0_town_marks)] H → va_D A [(a0, .inr (4, [.ref a0_town, .ref a0_draft, .ref a0_images, .int a0_imagesKept, .ref a0_text, .ref a0_planner, .ref a0_trial, .ref a0_spread, .ref a0_spreadBehind, .ref a0_tally, .long a0_above, .long a0_below, .int z2.2, .int a0_refusedAsNo, .int a0_refusedAsFull])), (a0_town, .inr (3, [.int a0_town_kind, .ref a0_town_pulls, .ref a0_town_site, .ref a0_town_past, .int a0_town_pasts, .ref a0_town_views, .int a0_town_members, .ref a0_town_notes, .int a0_town_noteCount, .ref a0_town_marks, .int a0_town_markCount])), (a0_town_marks, aI E 30 fa0_town_marks)] → va_S A s.heap H locs → lv_has ls 8 [(2, .int z2.1), (3, .int z9.1), (4, .int z9.2), (5, .int x5_35), (6, .int x6_45)] → W p l e (wR 4) s m [.ref a0, .int p1].toArray below meth c H locs 0 0 (MQ below (QWd E A (some (.int z_0)) [(a0, .inr (4, [.ref a0_town, .ref a0_draft, .ref a0_images, .int a0_imagesKept, .ref a0_text, .ref a0_planner, .ref a0_trial, .ref a0_spread, .ref a0_spreadBehind, .ref a0_tally, .long a0_above, .long a0_below, .int z_1, .int a0_refusedAsNo, .int a0_refusedAsFull])), (a0_town, .inr (3, [.int a0_town_kind, .ref a0_town_pulls, .ref a0_town_site, .ref a0_town_past, .int a0_town_pasts, .ref a0_town_views, .int a0_town_members, .ref a0_town_notes, .int a0_town_noteCount, .ref a0_town_marks, .int a0_town_markCount])), (a0_town_marks, aI E 30 fa0_town_marks)]) [.ref a0, .int p1].toArray s 0 0 A) (F0 m 82 ls []) := by
                    intro H locs ls hP hD hS hl
                    refine lv_iinc (v := (x6_45 + (1 : Int32))) (lv' := [(6, .int (x6_45 + (1 : Int32))), (2, .int z2.1), (3, .int z9.1), (4, .int z9.2), (5, .int x5_35)]) hx hb dX7_tries_82 hl (k := 4) rfl rfl (by decide) rfl (fun ls hl => W.pc 85 rfl ?_)
                    refine lv_goto (tgt := 45) hx hb dX7_tries_85 (by decide) ?_
                    exact ih_45 z9.1 z9.2 (x6_45 + (1 : Int32)) _ _ _ hP hD hS (lv_sub hl [1, 2, 3, 4, 0] rfl) hsp
                  replace hsp := hr_z9
                  refine lv_icmp_ge (tgt := 82) hx hb dX7_tries_66 (by decide) (fun c11 => ?_) (fun c11 => W.pc 69 rfl ?_)
                  · have hsp := ip hsp c11
                    subst hsp
                    exact J10 _ _ _ hP hD hS (lv_sub hl [1, 2, 3, 4, 5] rfl)
                  · have hsp := iq hsp c11
                    refine lv_iload hx hb dX7_tries_69 (lv_at hl 0 rfl) (W.pc 71 rfl ?_)
                    refine lv_istore (lv' := [(4, .int z8), (7, .int z8), (2, .int z2.1), (3, .int x3_45), (5, .int x5_35), (6, .int x6_45)]) hx hb dX7_tries_71 hl (by decide) rfl (fun ls hl => W.pc 73 rfl ?_)
                    refine lv_bipush (v := (100 : Int32)) hx hb dX7_tries_73 (by decide) (W.pc 75 rfl ?_)
                    refine lv_iload hx hb dX7_tries_75 (lv_at hl 4 rfl) (W.pc 77 rfl ?_)
                    refine lv_imul hx hb dX7_tries_77 (W.pc 78 rfl ?_)
                    refine lv_iload hx hb dX7_tries_78 (lv_at hl 5 rfl) (W.pc 80 rfl ?_)
                    refine lv_iadd hx hb dX7_tries_80 (W.pc 81 rfl ?_)
                    refine lv_istore_n (lv' := [(3, .int (((100 : Int32) * x5_35) + x6_45)), (4, .int z8), (7, .int z8), (2, .int z2.1), (5, .int x5_35), (6, .int x6_45)]) hx hb dX7_tries_81 rfl hl (by decide) rfl (fun ls hl => W.pc 82 rfl ?_)
                    subst hsp
                    exact J10 _ _ _ hP hD hS (lv_sub hl [3, 0, 1, 4, 5] rfl)
            obtain ⟨z6, hr_z6, hsp⟩ := bd_s hsp
            refine L_45 z6 (fun H locs ls hP hD hS hl => ?_) FU x3_35 x4_35 (0 : Int32) _ _ _ hP hD hS (lv_sub hl [1, 2, 3, 4, 0] rfl) hr_z6
            refine lv_iinc (v := (x5_35 + (1 : Int32))) (lv' := [(5, .int (x5_35 + (1 : Int32))), (2, .int z2.1), (3, .int z6.1), (4, .int z6.2.1)]) hx hb dX7_tries_88 hl (k := 3) rfl rfl (by decide) rfl (fun ls hl => W.pc 91 rfl ?_)
            refine lv_goto (tgt := 35) hx hb dX7_tries_91 (by decide) ?_
            exact ih_35 z6.1 z6.2.1 (x5_35 + (1 : Int32)) _ _ _ hP hD hS (lv_sub hl [1, 2, 3, 0] rfl) hsp
      obtain ⟨z4, hr_z4, hsp⟩ := bd_s hsp
      refine L_35 z4 (fun H locs ls hP hD hS hl => ?_) FU (-1 : Int32) (7 : Int32) (0 : Int32) _ _ _ hP hD hS (lv_sub hl [3, 2, 1, 0] rfl) hr_z4
      refine lv_iload_n hx hb dX7_tries_94 rfl (lv_at hl 0 rfl) (W.pc 95 rfl ?_)
      cases hsp
      exact rWi hX hP hS rfl rfl dX7_tries_95
    · have hsp := ip hsp c3
      refine lv_iconst (v := (-1 : Int32)) hx hb dX7_tries_30 (by decide) (W.pc 31 rfl ?_)
      cases hsp
      exact rWi hX hP hS rfl rfl dX7_tries_31
  · have hsp := ip hsp c1
    refine lv_aload_n hx hb dX7_tries_7 rfl (lv_at hl 0 rfl) (W.pc 8 rfl ?_)
    refine lv_bipush (v := (-2 : Int32)) hx hb dX7_tries_8 (by decide) (W.pc 10 rfl ?_)
    obtain ⟨z12, hr_z12, hsp⟩ := ltb_s hsp
    refine kVW (st1 := [.int z12.1]) (ws' := [(a0, .inr (4, [.ref a0_town, .ref a0_draft, .ref a0_images, .int a0_imagesKept, .ref a0_text, .ref a0_planner, .ref a0_trial, .ref a0_spread, .ref a0_spreadBehind, .ref a0_tally, .long a0_above, .long a0_below, .int z12.2, .int a0_refusedAsNo, .int a0_refusedAsFull])), (a0_town, .inr (3, [.int a0_town_kind, .ref a0_town_pulls, .ref a0_town_site, .ref a0_town_past, .int a0_town_pasts, .ref a0_town_views, .int a0_town_members, .ref a0_town_notes, .int a0_town_noteCount, .ref a0_town_marks, .int a0_town_markCount])), (a0_town_marks, aI E 30 fa0_town_marks)]) [0] hX (c_X7_bad l E a0 a0_town a0_draft a0_images a0_text a0_planner a0_trial a0_spread a0_spreadBehind a0_tally (-2 : Int32) a0_imagesKept a0_above a0_below a0_refusedAsBad a0_refusedAsNo a0_refusedAsFull z12.1 z12.2 hr_z12) B_X7_bad w_1_234 hK hP hD hS hA (by decide) rfl rfl rfl (q0 := 0) (ci := 4) rfl rfl rfl rfl hl.1 rfl (Nat.le_of_ble_eq_true rfl) ⟨Nat.le_of_ble_eq_true rfl, Nat.le_of_ble_eq_true rfl⟩ dX7_tries_10 rfl (fun H locs hP hD hS => W.pc 13 rfl ?_)
    cases hsp
    exact rWi hX hP hS rfl rfl dX7_tries_13
noncomputable def lp_X7_game_4 (a0_town_kind : Int32) (a0_town_site_off : Int32) (a0_town_site_year : Int32) (fa0_town_pulls : Nat → Int32) : Nat → Int32 → Int32 → Option (Int32 × Int32)
 | 0, _, _ => none
 | fu + 1, x1_4, x2_4 => if (4 : Int32) ≤ x2_4 then (some (x1_4, x2_4)) else (lt_ (if (sp_X7_carrierGets x2_4 a0_town_kind a0_town_site_off a0_town_site_year fa0_town_pulls) < (sp_X7_carrierGets (x2_4 ^^^ (1 : Int32)) a0_town_kind a0_town_site_off a0_town_site_year fa0_town_pulls) then ((0 : Int32)) else ((1 : Int32))) fun z3 => lt_ (if (sp_X7_keeperGets x2_4 a0_town_kind a0_town_site_off a0_town_site_year fa0_town_pulls) < (sp_X7_keeperGets (x2_4 ^^^ (2 : Int32)) a0_town_kind a0_town_site_off a0_town_site_year fa0_town_pulls) then ((0 : Int32)) else ((1 : Int32))) fun z6 => lt_ (if z3 = 0 then (x1_4) else (if z6 = 0 then (x1_4) else ((x1_4 ||| ((1 : Int32) <<< (x2_4 &&& 31)))))) fun z9 => lp_X7_game_4 a0_town_kind a0_town_site_off a0_town_site_year fa0_town_pulls fu z9 (x2_4 + (1 : Int32)))
noncomputable def sp_X7_game (a0_town_kind : Int32) (a0_town_site_off : Int32) (a0_town_site_year : Int32) (fa0_town_pulls : Nat → Int32) : Option (Int32) := Option.bind (lp_X7_game_4 a0_town_kind a0_town_site_off a0_town_site_year fa0_town_pulls FU (0 : Int32) (0 : Int32)) fun z1 => some z1.1
set_option maxHeartbeats 4000000 in
set_option maxRecDepth 100000 in
theorem c_X7_game (l : Launch) (E : wE) (a0 a0_town a0_draft a0_images a0_text a0_planner a0_trial a0_spread a0_spreadBehind a0_tally a0_town_pulls a0_town_site a0_town_past a0_town_views a0_town_notes a0_town_marks a0_town_site_heights a0_town_site_storeyKinds a0_town_site_storeyTilts : Nat) (a0_imagesKept : Int32) (a0_above : Int64) (a0_below : Int64) (a0_refusedAsBad : Int32) (a0_refusedAsNo : Int32) (a0_refusedAsFull : Int32) (a0_town_kind : Int32) (a0_town_pasts : Int32) (a0_town_members : Int32) (a0_town_noteCount : Int32) (a0_town_markCount : Int32) (a0_town_site_off : Int32) (a0_town_site_year : Int32) (fa0_town_pulls : Nat → Int32) (z : Int32) (hsp : sp_X7_game a0_town_kind a0_town_site_off a0_town_site_year fa0_town_pulls = some z) : MR l yX7_game cX7_game 5 (some .int) 5 E [.ref a0] [(a0, .inr (4, [.ref a0_town, .ref a0_draft, .ref a0_images, .int a0_imagesKept, .ref a0_text, .ref a0_planner, .ref a0_trial, .ref a0_spread, .ref a0_spreadBehind, .ref a0_tally, .long a0_above, .long a0_below, .int a0_refusedAsBad, .int a0_refusedAsNo, .int a0_refusedAsFull])), (a0_town, .inr (3, [.int a0_town_kind, .ref a0_town_pulls, .ref a0_town_site, .ref a0_town_past, .int a0_town_pasts, .ref a0_town_views, .int a0_town_members, .ref a0_town_notes, .int a0_town_noteCount, .ref a0_town_marks, .int a0_town_markCount])), (a0_town_site, .inr (1, [.int a0_town_site_off, .int a0_town_site_year, .ref a0_town_site_heights, .ref a0_town_site_storeyKinds, .ref a0_town_site_storeyTilts])), (a0_town_pulls, aI E 6 fa0_town_pulls)] (some (.int z)) := by
  refine MR.of (by decide +kernel) (Nat.le_of_ble_eq_true rfl) ?_
  intro p e s m below meth c ls hX hK hP hl
  have hX : CX p s m [.ref a0].toArray meth c cX7_game 5 (some .int) RX7 := hX
  have hx := hX.1; have hb := hX.2.1; have hts := hX.2.2.2.2.1; have hown := hX.2.2.2.2.2.1
  have hl : lv_has ls 5 [(0, .ref a0)] := hl
  have hsp : (Option.bind (lp_X7_game_4 a0_town_kind a0_town_site_off a0_town_site_year fa0_town_pulls FU (0 : Int32) (0 : Int32)) fun z1 => some z1.1) = some z := hsp
  refine lv_iconst (v := (0 : Int32)) hx hb dX7_game_0 (by decide) (W.pc 1 rfl ?_)
  refine lv_istore_n (lv' := [(1, .int (0 : Int32)), (0, .ref a0)]) hx hb dX7_game_1 rfl hl (by decide) rfl (fun ls hl => W.pc 2 rfl ?_)
  refine lv_iconst (v := (0 : Int32)) hx hb dX7_game_2 (by decide) (W.pc 3 rfl ?_)
  refine lv_istore_n (lv' := [(2, .int (0 : Int32)), (1, .int (0 : Int32)), (0, .ref a0)]) hx hb dX7_game_3 rfl hl (by decide) rfl (fun ls hl => W.pc 4 rfl ?_)
  have L_4 : ∀ (z1 : Int32 × Int32), (∀ (ls : Array Slot), lv_has ls 5 [(1, .int z1.1)] → W p l e (wR 5) s m [.ref a0].toArray below meth c s.heap [] 0 0 (MQ below (QRd E (some (.int z))) [.ref a0].toArray s 0 0 (fun _ => False)) (F0 m 73 ls [])) → ∀ (fu : Nat) (x1_4 : Int32) (x2_4 : Int32), ∀ (ls : Array Slot), lv_has ls 5 [(0, .ref a0), (1, .int x1_4), (2, .int x2_4)] → lp_X7_game_4 a0_town_kind a0_town_site_off a0_town_site_year fa0_town_pulls fu x1_4 x2_4 = some z1 → W p l e (wR 5) s m [.ref a0].toArray below meth c s.heap [] 0 0 (MQ below (QRd E (some (.int z))) [.ref a0].toArray s 0 0 (fun _ => False)) (F0 m 4 ls []) := by
    intro z1 hk_4 fu
    induction fu with
    | zero => intro x1_4 x2_4 ls hl hsp; exact absurd (show none = some _ from hsp) (by simp)
    | succ fu ih_4 =>
      intro x1_4 x2_4 ls hl hsp
      have hsp : (if (4 : Int32) ≤ x2_4 then (some (x1_4, x2_4)) else (lt_ (if (sp_X7_carrierGets x2_4 a0_town_kind a0_town_site_off a0_town_site_year fa0_town_pulls) < (sp_X7_carrierGets (x2_4 ^^^ (1 : Int32)) a0_town_kind a0_town_site_off a0_town_site_year fa0_town_pulls) then ((0 : Int32)) else ((1 : Int32))) fun z3 => lt_ (if (sp_X7_keeperGets x2_4 a0_town_kind a0_town_site_off a0_town_site_year fa0_town_pulls) < (sp_X7_keeperGets (x2_4 ^^^ (2 : Int32)) a0_town_kind a0_town_site_off a0_town_site_year fa0_town_pulls) then ((0 : Int32)) else ((1 : Int32))) fun z6 => lt_ (if z3 = 0 then (x1_4) else (if z6 = 0 then (x1_4) else ((x1_4 ||| ((1 : Int32) <<< (x2_4 &&& 31)))))) fun z9 => lp_X7_game_4 a0_town_kind a0_town_site_off a0_town_site_year fa0_town_pulls fu z9 (x2_4 + (1 : Int32)))) = some z1 := hsp
      refine lv_iload_n hx hb dX7_game_4 rfl (lv_at hl 2 rfl) (W.pc 5 rfl ?_)
      refine lv_iconst (v := (4 : Int32)) hx hb dX7_game_5 (by decide) (W.pc 6 rfl ?_)
      refine lv_icmp_ge (tgt := 73) hx hb dX7_game_6 (by decide) (fun c2 => ?_) (fun c2 => W.pc 9 rfl ?_)
      · have hsp := ip hsp c2
        obtain rfl := Option.some.inj hsp
        exact hk_4 _ (lv_sub hl [1] rfl)
      · have hsp := iq hsp c2
        refine lv_aload_n hx hb dX7_game_9 rfl (lv_at hl 0 rfl) (W.pc 10 rfl ?_)
        refine lv_iload_n hx hb dX7_game_10 rfl (lv_at hl 2 rfl) (W.pc 11 rfl ?_)
        refine kVR (st1 := [.int (sp_X7_carrierGets x2_4 a0_town_kind a0_town_site_off a0_town_site_year fa0_town_pulls)]) hX (c_X7_carrierGets l E a0 a0_town a0_draft a0_images a0_text a0_planner a0_trial a0_spread a0_spreadBehind a0_tally a0_town_pulls a0_town_site a0_town_past a0_town_views a0_town_notes a0_town_marks a0_town_site_heights a0_town_site_storeyKinds a0_town_site_storeyTilts x2_4 a0_imagesKept a0_above a0_below a0_refusedAsBad a0_refusedAsNo a0_refusedAsFull a0_town_kind a0_town_pasts a0_town_members a0_town_noteCount a0_town_markCount a0_town_site_off a0_town_site_year fa0_town_pulls _ rfl) B_X7_carrierGets w_3_220 hK (hP.pick [0, 1, 2, 3] rfl) (q0 := 0) (ci := 4) rfl rfl rfl rfl hl.1 rfl (Nat.le_of_ble_eq_true rfl) ⟨Nat.le_of_ble_eq_true rfl, Nat.le_of_ble_eq_true rfl⟩ dX7_game_11 rfl (W.pc 14 rfl ?_)
        refine lv_aload_n hx hb dX7_game_14 rfl (lv_at hl 0 rfl) (W.pc 15 rfl ?_)
        refine lv_iload_n hx hb dX7_game_15 rfl (lv_at hl 2 rfl) (W.pc 16 rfl ?_)
        refine lv_iconst (v := (1 : Int32)) hx hb dX7_game_16 (by decide) (W.pc 17 rfl ?_)
        refine lv_ixor hx hb dX7_game_17 (W.pc 18 rfl ?_)
        refine kVR (st1 := [.int (sp_X7_carrierGets (x2_4 ^^^ (1 : Int32)) a0_town_kind a0_town_site_off a0_town_site_year fa0_town_pulls), .int (sp_X7_carrierGets x2_4 a0_town_kind a0_town_site_off a0_town_site_year fa0_town_pulls)]) hX (c_X7_carrierGets l E a0 a0_town a0_draft a0_images a0_text a0_planner a0_trial a0_spread a0_spreadBehind a0_tally a0_town_pulls a0_town_site a0_town_past a0_town_views a0_town_notes a0_town_marks a0_town_site_heights a0_town_site_storeyKinds a0_town_site_storeyTilts (x2_4 ^^^ (1 : Int32)) a0_imagesKept a0_above a0_below a0_refusedAsBad a0_refusedAsNo a0_refusedAsFull a0_town_kind a0_town_pasts a0_town_members a0_town_noteCount a0_town_markCount a0_town_site_off a0_town_site_year fa0_town_pulls _ rfl) B_X7_carrierGets w_3_220 hK (hP.pick [0, 1, 2, 3] rfl) (q0 := 0) (ci := 4) rfl rfl rfl rfl hl.1 rfl (Nat.le_of_ble_eq_true rfl) ⟨Nat.le_of_ble_eq_true rfl, Nat.le_of_ble_eq_true rfl⟩ dX7_game_18 rfl (W.pc 21 rfl ?_)
        obtain ⟨z3, hr_z3, hsp⟩ := ltb_s hsp
        have J4 : ∀ (ls : Array Slot), lv_has ls 5 [(0, .ref a0), (1, .int x1_4), (2, .int x2_4)] → W p l e (wR 5) s m [.ref a0].toArray below meth c s.heap [] 0 0 (MQ below (QRd E (some (.int z))) [.ref a0].toArray s 0 0 (fun _ => False)) (F0 m 29 ls [.int z3]) := by
          intro ls hl
          refine lv_istore_n (lv' := [(3, .int z3), (0, .ref a0), (1, .int x1_4), (2, .int x2_4)]) hx hb dX7_game_29 rfl hl (by decide) rfl (fun ls hl => W.pc 30 rfl ?_)
          refine lv_aload_n hx hb dX7_game_30 rfl (lv_at hl 1 rfl) (W.pc 31 rfl ?_)
          refine lv_iload_n hx hb dX7_game_31 rfl (lv_at hl 3 rfl) (W.pc 32 rfl ?_)
          refine kVR (st1 := [.int (sp_X7_keeperGets x2_4 a0_town_kind a0_town_site_off a0_town_site_year fa0_town_pulls)]) hX (c_X7_keeperGets l E a0 a0_town a0_draft a0_images a0_text a0_planner a0_trial a0_spread a0_spreadBehind a0_tally a0_town_pulls a0_town_site a0_town_past a0_town_views a0_town_notes a0_town_marks a0_town_site_heights a0_town_site_storeyKinds a0_town_site_storeyTilts x2_4 a0_imagesKept a0_above a0_below a0_refusedAsBad a0_refusedAsNo a0_refusedAsFull a0_town_kind a0_town_pasts a0_town_members a0_town_noteCount a0_town_markCount a0_town_site_off a0_town_site_year fa0_town_pulls _ rfl) B_X7_keeperGets w_3_228 hK (hP.pick [0, 1, 2, 3] rfl) (q0 := 0) (ci := 4) rfl rfl rfl rfl hl.1 rfl (Nat.le_of_ble_eq_true rfl) ⟨Nat.le_of_ble_eq_true rfl, Nat.le_of_ble_eq_true rfl⟩ dX7_game_32 rfl (W.pc 35 rfl ?_)
          refine lv_aload_n hx hb dX7_game_35 rfl (lv_at hl 1 rfl) (W.pc 36 rfl ?_)
          refine lv_iload_n hx hb dX7_game_36 rfl (lv_at hl 3 rfl) (W.pc 37 rfl ?_)
          refine lv_iconst (v := (2 : Int32)) hx hb dX7_game_37 (by decide) (W.pc 38 rfl ?_)
          refine lv_ixor hx hb dX7_game_38 (W.pc 39 rfl ?_)
          refine kVR (st1 := [.int (sp_X7_keeperGets (x2_4 ^^^ (2 : Int32)) a0_town_kind a0_town_site_off a0_town_site_year fa0_town_pulls), .int (sp_X7_keeperGets x2_4 a0_town_kind a0_town_site_off a0_town_site_year fa0_town_pulls)]) hX (c_X7_keeperGets l E a0 a0_town a0_draft a0_images a0_text a0_planner a0_trial a0_spread a0_spreadBehind a0_tally a0_town_pulls a0_town_site a0_town_past a0_town_views a0_town_notes a0_town_marks a0_town_site_heights a0_town_site_storeyKinds a0_town_site_storeyTilts (x2_4 ^^^ (2 : Int32)) a0_imagesKept a0_above a0_below a0_refusedAsBad a0_refusedAsNo a0_refusedAsFull a0_town_kind a0_town_pasts a0_town_members a0_town_noteCount a0_town_markCount a0_town_site_off a0_town_site_year fa0_town_pulls _ rfl) B_X7_keeperGets w_3_228 hK (hP.pick [0, 1, 2, 3] rfl) (q0 := 0) (ci := 4) rfl rfl rfl rfl hl.1 rfl (Nat.le_of_ble_eq_true rfl) ⟨Nat.le_of_ble_eq_true rfl, Nat.le_of_ble_eq_true rfl⟩ dX7_game_39 rfl (W.pc 42 rfl ?_)
          obtain ⟨z6, hr_z6, hsp⟩ := ltb_s hsp
          have J7 : ∀ (ls : Array Slot), lv_has ls 5 [(0, .ref a0), (1, .int x1_4), (2, .int x2_4), (3, .int z3)] → W p l e (wR 5) s m [.ref a0].toArray below meth c s.heap [] 0 0 (MQ below (QRd E (some (.int z))) [.ref a0].toArray s 0 0 (fun _ => False)) (F0 m 50 ls [.int z6]) := by
            intro ls hl
            refine lv_istore (lv' := [(4, .int z6), (0, .ref a0), (1, .int x1_4), (2, .int x2_4), (3, .int z3)]) hx hb dX7_game_50 hl (by decide) rfl (fun ls hl => W.pc 52 rfl ?_)
            refine lv_iload_n hx hb dX7_game_52 rfl (lv_at hl 4 rfl) (W.pc 53 rfl ?_)
            obtain ⟨z9, hr_z9, hsp⟩ := ltb_s hsp
            have J10 : ∀ (ls : Array Slot), lv_has ls 5 [(0, .ref a0), (1, .int z9), (2, .int x2_4)] → W p l e (wR 5) s m [.ref a0].toArray below meth c s.heap [] 0 0 (MQ below (QRd E (some (.int z))) [.ref a0].toArray s 0 0 (fun _ => False)) (F0 m 67 ls []) := by
              intro ls hl
              refine lv_iinc (v := (x2_4 + (1 : Int32))) (lv' := [(2, .int (x2_4 + (1 : Int32))), (0, .ref a0), (1, .int z9)]) hx hb dX7_game_67 hl (k := 2) rfl rfl (by decide) rfl (fun ls hl => W.pc 70 rfl ?_)
              refine lv_goto (tgt := 4) hx hb dX7_game_70 (by decide) ?_
              exact ih_4 z9 (x2_4 + (1 : Int32)) _ (lv_sub hl [1, 2, 0] rfl) hsp
            replace hsp := hr_z9
            refine lv_if_eq (tgt := 67) hx hb dX7_game_53 (by decide) (fun c11 => ?_) (fun c11 => W.pc 56 rfl ?_)
            · have hsp := ip hsp c11
              subst hsp
              exact J10 _ (lv_sub hl [1, 2, 3] rfl)
            · have hsp := iq hsp c11
              refine lv_iload hx hb dX7_game_56 (lv_at hl 0 rfl) (W.pc 58 rfl ?_)
              refine lv_if_eq (tgt := 67) hx hb dX7_game_58 (by decide) (fun c12 => ?_) (fun c12 => W.pc 61 rfl ?_)
              · have hsp := ip hsp c12
                subst hsp
                exact J10 _ (lv_sub hl [1, 2, 3] rfl)
              · have hsp := iq hsp c12
                refine lv_iload_n hx hb dX7_game_61 rfl (lv_at hl 2 rfl) (W.pc 62 rfl ?_)
                refine lv_iconst (v := (1 : Int32)) hx hb dX7_game_62 (by decide) (W.pc 63 rfl ?_)
                refine lv_iload_n hx hb dX7_game_63 rfl (lv_at hl 3 rfl) (W.pc 64 rfl ?_)
                refine lv_ishl hx hb dX7_game_64 (W.pc 65 rfl ?_)
                refine lv_ior hx hb dX7_game_65 (W.pc 66 rfl ?_)
                refine lv_istore_n (lv' := [(1, .int (x1_4 ||| ((1 : Int32) <<< (x2_4 &&& 31)))), (4, .int z6), (0, .ref a0), (2, .int x2_4), (3, .int z3)]) hx hb dX7_game_66 rfl hl (by decide) rfl (fun ls hl => W.pc 67 rfl ?_)
                subst hsp
                exact J10 _ (lv_sub hl [2, 0, 3] rfl)
          replace hsp := hr_z6
          refine lv_icmp_lt (tgt := 49) hx hb dX7_game_42 (by decide) (fun c8 => ?_) (fun c8 => W.pc 45 rfl ?_)
          · have hsp := ip hsp c8
            refine lv_iconst (v := (0 : Int32)) hx hb dX7_game_49 (by decide) (W.pc 50 rfl ?_)
            subst hsp
            exact J7 _ (lv_sub hl [1, 2, 3, 0] rfl)
          · have hsp := iq hsp c8
            refine lv_iconst (v := (1 : Int32)) hx hb dX7_game_45 (by decide) (W.pc 46 rfl ?_)
            refine lv_goto (tgt := 50) hx hb dX7_game_46 (by decide) ?_
            subst hsp
            exact J7 _ (lv_sub hl [1, 2, 3, 0] rfl)
        replace hsp := hr_z3
        refine lv_icmp_lt (tgt := 28) hx hb dX7_game_21 (by decide) (fun c5 => ?_) (fun c5 => W.pc 24 rfl ?_)
        · have hsp := ip hsp c5
          refine lv_iconst (v := (0 : Int32)) hx hb dX7_game_28 (by decide) (W.pc 29 rfl ?_)
          subst hsp
          exact J4 _ (lv_sub hl [0, 1, 2] rfl)
        · have hsp := iq hsp c5
          refine lv_iconst (v := (1 : Int32)) hx hb dX7_game_24 (by decide) (W.pc 25 rfl ?_)
          refine lv_goto (tgt := 29) hx hb dX7_game_25 (by decide) ?_
          subst hsp
          exact J4 _ (lv_sub hl [0, 1, 2] rfl)
  obtain ⟨z1, hr_z1, hsp⟩ := bd_s hsp
  refine L_4 z1 (fun ls hl => ?_) FU (0 : Int32) (0 : Int32) _ (lv_sub hl [2, 1, 0] rfl) hr_z1
  refine lv_iload_n hx hb dX7_game_73 rfl (lv_at hl 0 rfl) (W.pc 74 rfl ?_)
  obtain rfl := Option.some.inj hsp
  exact rRi hX rfl dX7_game_74
noncomputable def lp_X7_times_49 (p2 : Int32) (a0_town_kind : Int32) (a0_town_site_year : Int32) : Nat → Int64 → Int32 → Int32 → Int32 → Option (Int64 × Int32 × Int32 × Int32)
 | 0, _, _, _, _ => none
 | fu + 1, x3_49, x5_49, x6_49, x7_49 => if p2 ≤ x7_49 then (some (x3_49, x5_49, x6_49, x7_49)) else (lp_X7_times_49 p2 a0_town_kind a0_town_site_year fu (((x3_49 * (1103515245 : Int64)) + (12345 : Int64)) - ((x3_49 * (1103515245 : Int64)) + (12345 : Int64)) / (2147483648 : Int64) * (2147483648 : Int64)) (sp_X0_behind a0_town_kind (a0_town_site_year + x7_49) x5_49 (((((((x3_49 * (1103515245 : Int64)) + (12345 : Int64)) - ((x3_49 * (1103515245 : Int64)) + (12345 : Int64)) / (2147483648 : Int64) * (2147483648 : Int64)) / (65536 : Int64)) - ((((x3_49 * (1103515245 : Int64)) + (12345 : Int64)) - ((x3_49 * (1103515245 : Int64)) + (12345 : Int64)) / (2147483648 : Int64) * (2147483648 : Int64)) / (65536 : Int64)) / (19 : Int64) * (19 : Int64))).toInt32 - (9 : Int32))) (x6_49 + (j_abs (sp_X0_behind a0_town_kind (a0_town_site_year + x7_49) x5_49 (((((((x3_49 * (1103515245 : Int64)) + (12345 : Int64)) - ((x3_49 * (1103515245 : Int64)) + (12345 : Int64)) / (2147483648 : Int64) * (2147483648 : Int64)) / (65536 : Int64)) - ((((x3_49 * (1103515245 : Int64)) + (12345 : Int64)) - ((x3_49 * (1103515245 : Int64)) + (12345 : Int64)) / (2147483648 : Int64) * (2147483648 : Int64)) / (65536 : Int64)) / (19 : Int64) * (19 : Int64))).toInt32 - (9 : Int32))))) (x7_49 + (1 : Int32)))
noncomputable def sp_X7_times (p1 : Int32) (p2 : Int32) (a0_refusedAsBad : Int32) (a0_town_kind : Int32) (a0_town_site_off : Int32) (a0_town_site_year : Int32) : Option (Int32 × Int32) := if (sp_X2_within p1 (0 : Int32) (999999 : Int32)) = 0 then (lt_ (sp_X7_bad (-2 : Int32) a0_refusedAsBad) fun z2 => some (z2.1, z2.2)) else (if (sp_X2_within p2 (0 : Int32) (60 : Int32)) = 0 then (lt_ (sp_X7_bad (-2 : Int32) a0_refusedAsBad) fun z6 => some (z6.1, z6.2)) else (Option.bind (lp_X7_times_49 p2 a0_town_kind a0_town_site_year FU ((p1).toInt64) a0_town_site_off (0 : Int32) (0 : Int32)) fun z4 => some (z4.2.2.1, a0_refusedAsBad)))
set_option maxHeartbeats 4000000 in
set_option maxRecDepth 100000 in
theorem c_X7_times (l : Launch) (E : wE) (a0 a0_town a0_draft a0_images a0_text a0_planner a0_trial a0_spread a0_spreadBehind a0_tally a0_town_pulls a0_town_site a0_town_past a0_town_views a0_town_notes a0_town_marks a0_town_site_heights a0_town_site_storeyKinds a0_town_site_storeyTilts : Nat) (p1 : Int32) (p2 : Int32) (a0_imagesKept : Int32) (a0_above : Int64) (a0_below : Int64) (a0_refusedAsBad : Int32) (a0_refusedAsNo : Int32) (a0_refusedAsFull : Int32) (a0_town_kind : Int32) (a0_town_pasts : Int32) (a0_town_members : Int32) (a0_town_noteCount : Int32) (a0_town_markCount : Int32) (a0_town_site_off : Int32) (a0_town_site_year : Int32) (z_0 : Int32) (z_1 : Int32) (hsp : sp_X7_times p1 p2 a0_refusedAsBad a0_town_kind a0_town_site_off a0_town_site_year = some (z_0, z_1)) : MW l yX7_times cX7_times 9 (some .int) 3 E [.ref a0, .int p1, .int p2] [(a0, .inr (4, [.ref a0_town, .ref a0_draft, .ref a0_images, .int a0_imagesKept, .ref a0_text, .ref a0_planner, .ref a0_trial, .ref a0_spread, .ref a0_spreadBehind, .ref a0_tally, .long a0_above, .long a0_below, .int a0_refusedAsBad, .int a0_refusedAsNo, .int a0_refusedAsFull])), (a0_town, .inr (3, [.int a0_town_kind, .ref a0_town_pulls, .ref a0_town_site, .ref a0_town_past, .int a0_town_pasts, .ref a0_town_views, .int a0_town_members, .ref a0_town_notes, .int a0_town_noteCount, .ref a0_town_marks, .int a0_town_markCount])), (a0_town_site, .inr (1, [.int a0_town_site_off, .int a0_town_site_year, .ref a0_town_site_heights, .ref a0_town_site_storeyKinds, .ref a0_town_site_storeyTilts]))] (some (.int z_0)) [(a0, .inr (4, [.ref a0_town, .ref a0_draft, .ref a0_images, .int a0_imagesKept, .ref a0_text, .ref a0_planner, .ref a0_trial, .ref a0_spread, .ref a0_spreadBehind, .ref a0_tally, .long a0_above, .long a0_below, .int z_1, .int a0_refusedAsNo, .int a0_refusedAsFull])), (a0_town, .inr (3, [.int a0_town_kind, .ref a0_town_pulls, .ref a0_town_site, .ref a0_town_past, .int a0_town_pasts, .ref a0_town_views, .int a0_town_members, .ref a0_town_notes, .int a0_town_noteCount, .ref a0_town_marks, .int a0_town_markCount])), (a0_town_site, .inr (1, [.int a0_town_site_off, .int a0_town_site_year, .ref a0_town_site_heights, .ref a0_town_site_storeyKinds, .ref a0_town_site_storeyTilts]))] := by
  refine MW.of (by decide +kernel) (Nat.le_of_ble_eq_true rfl) ?_
  intro p e s m below meth c ls A hX hK hP hD hS hA hl
  have hX : CX p s m [.ref a0, .int p1, .int p2].toArray meth c cX7_times 9 (some .int) RX7 := hX
  have hx := hX.1; have hb := hX.2.1; have hts := hX.2.2.2.2.1; have hown := hX.2.2.2.2.2.1
  have hl : lv_has ls 9 [(0, .ref a0), (1, .int p1), (2, .int p2)] := hl
  have hP : wP E [(a0, .inr (4, [.ref a0_town, .ref a0_draft, .ref a0_images, .int a0_imagesKept, .ref a0_text, .ref a0_planner, .ref a0_trial, .ref a0_spread, .ref a0_spreadBehind, .ref a0_tally, .long a0_above, .long a0_below, .int a0_refusedAsBad, .int a0_refusedAsNo, .int a0_refusedAsFull])), (a0_town, .inr (3, [.int a0_town_kind, .ref a0_town_pulls, .ref a0_town_site, .ref a0_town_past, .int a0_town_pasts, .ref a0_town_views, .int a0_town_members, .ref a0_town_notes, .int a0_town_noteCount, .ref a0_town_marks, .int a0_town_markCount])), (a0_town_site, .inr (1, [.int a0_town_site_off, .int a0_town_site_year, .ref a0_town_site_heights, .ref a0_town_site_storeyKinds, .ref a0_town_site_storeyTilts]))] s.heap := hP
  have hsp : (if (sp_X2_within p1 (0 : Int32) (999999 : Int32)) = 0 then (lt_ (sp_X7_bad (-2 : Int32) a0_refusedAsBad) fun z2 => some (z2.1, z2.2)) else (if (sp_X2_within p2 (0 : Int32) (60 : Int32)) = 0 then (lt_ (sp_X7_bad (-2 : Int32) a0_refusedAsBad) fun z6 => some (z6.1, z6.2)) else (Option.bind (lp_X7_times_49 p2 a0_town_kind a0_town_site_year FU ((p1).toInt64) a0_town_site_off (0 : Int32) (0 : Int32)) fun z4 => some (z4.2.2.1, a0_refusedAsBad)))) = some (z_0, z_1) := hsp
  refine lv_iload_n hx hb dX7_times_0 rfl (lv_at hl 1 rfl) (W.pc 1 rfl ?_)
  refine lv_iconst (v := (0 : Int32)) hx hb dX7_times_1 (by decide) (W.pc 2 rfl ?_)
  refine lv_ldcw (v := (999999 : Int32)) hx hb hown (hts _ w_4_16) dX7_times_2 (W.pc 5 rfl ?_)
  refine kSR (st1 := [.int (sp_X2_within p1 (0 : Int32) (999999 : Int32))]) hX (c_X2_within l E p1 (0 : Int32) (999999 : Int32) _ rfl) B_X2_within w_1_231 hK (hP.pick [] rfl) rfl hl.1 rfl (Nat.le_of_ble_eq_true rfl) ⟨Nat.le_of_ble_eq_true rfl, Nat.le_of_ble_eq_true rfl⟩ dX7_times_5 rfl (W.pc 8 rfl ?_)
  refine lv_if_eq (tgt := 21) hx hb dX7_times_8 (by decide) (fun c1 => ?_) (fun c1 => W.pc 11 rfl ?_)
  · have hsp := ip hsp c1
    refine lv_aload_n hx hb dX7_times_21 rfl (lv_at hl 0 rfl) (W.pc 22 rfl ?_)
    refine lv_bipush (v := (-2 : Int32)) hx hb dX7_times_22 (by decide) (W.pc 24 rfl ?_)
    obtain ⟨z2, hr_z2, hsp⟩ := ltb_s hsp
    refine kVW (st1 := [.int z2.1]) (ws' := [(a0, .inr (4, [.ref a0_town, .ref a0_draft, .ref a0_images, .int a0_imagesKept, .ref a0_text, .ref a0_planner, .ref a0_trial, .ref a0_spread, .ref a0_spreadBehind, .ref a0_tally, .long a0_above, .long a0_below, .int z2.2, .int a0_refusedAsNo, .int a0_refusedAsFull])), (a0_town, .inr (3, [.int a0_town_kind, .ref a0_town_pulls, .ref a0_town_site, .ref a0_town_past, .int a0_town_pasts, .ref a0_town_views, .int a0_town_members, .ref a0_town_notes, .int a0_town_noteCount, .ref a0_town_marks, .int a0_town_markCount])), (a0_town_site, .inr (1, [.int a0_town_site_off, .int a0_town_site_year, .ref a0_town_site_heights, .ref a0_town_site_storeyKinds, .ref a0_town_site_storeyTilts]))]) [0] hX (c_X7_bad l E a0 a0_town a0_draft a0_images a0_text a0_planner a0_trial a0_spread a0_spreadBehind a0_tally (-2 : Int32) a0_imagesKept a0_above a0_below a0_refusedAsBad a0_refusedAsNo a0_refusedAsFull z2.1 z2.2 hr_z2) B_X7_bad w_1_234 hK hP hD hS hA (by decide) rfl rfl rfl (q0 := 0) (ci := 4) rfl rfl rfl rfl hl.1 rfl (Nat.le_of_ble_eq_true rfl) ⟨Nat.le_of_ble_eq_true rfl, Nat.le_of_ble_eq_true rfl⟩ dX7_times_24 rfl (fun H locs hP hD hS => W.pc 27 rfl ?_)
    cases hsp
    exact rWi hX hP hS rfl rfl dX7_times_27
  · have hsp := iq hsp c1
    refine lv_iload_n hx hb dX7_times_11 rfl (lv_at hl 2 rfl) (W.pc 12 rfl ?_)
    refine lv_iconst (v := (0 : Int32)) hx hb dX7_times_12 (by decide) (W.pc 13 rfl ?_)
    refine lv_bipush (v := (60 : Int32)) hx hb dX7_times_13 (by decide) (W.pc 15 rfl ?_)
    refine kSR (st1 := [.int (sp_X2_within p2 (0 : Int32) (60 : Int32))]) hX (c_X2_within l E p2 (0 : Int32) (60 : Int32) _ rfl) B_X2_within w_1_231 hK (hP.pick [] rfl) rfl hl.1 rfl (Nat.le_of_ble_eq_true rfl) ⟨Nat.le_of_ble_eq_true rfl, Nat.le_of_ble_eq_true rfl⟩ dX7_times_15 rfl (W.pc 18 rfl ?_)
    refine lv_if_ne (tgt := 28) hx hb dX7_times_18 (by decide) (fun c3 => ?_) (fun c3 => W.pc 21 rfl ?_)
    · have hsp := iq hsp c3
      refine lv_iload_n hx hb dX7_times_28 rfl (lv_at hl 1 rfl) (W.pc 29 rfl ?_)
      refine lv_i2l (v := (p1).toInt64) hx hb dX7_times_29 rfl (W.pc 30 rfl ?_)
      refine lv_lstore_n (lv' := [(3, .long (p1).toInt64), (0, .ref a0), (1, .int p1), (2, .int p2)]) hx hb dX7_times_30 rfl hl (by decide) rfl (fun ls hl => W.pc 31 rfl ?_)
      refine lv_aload_n hx hb dX7_times_31 rfl (lv_at hl 1 rfl) (W.pc 32 rfl ?_)
      refine va_get (D := E.1) (ci := 4) (v := .ref a0_town) (C := RX7) (T := TX7) (N := 15) hx hb hts inT_X7 hown hK hP 0 rfl rfl 0 (by decide) (hts _ w_1_178) (fun _ h9 => h9) rfl dX7_times_32 (W.pc 35 rfl ?_)
      refine va_get (D := E.1) (ci := 3) (v := .ref a0_town_site) (C := RX6) (T := TX6) (N := 11) hx hb hts inT_X6 hown hK hP 1 rfl rfl 2 (by decide) (hts _ w_1_68) (fun _ h9 => h9) rfl dX7_times_35 (W.pc 38 rfl ?_)
      refine va_get (D := E.1) (ci := 1) (v := .int a0_town_site_off) (C := RX3) (T := TX3) (N := 5) hx hb hts inT_X3 hown hK hP 2 rfl rfl 0 (by decide) (hts _ w_1_40) (fun _ h9 => h9) rfl dX7_times_38 (W.pc 41 rfl ?_)
      refine lv_istore (lv' := [(5, .int a0_town_site_off), (3, .long (p1).toInt64), (0, .ref a0), (1, .int p1), (2, .int p2)]) hx hb dX7_times_41 hl (by decide) rfl (fun ls hl => W.pc 43 rfl ?_)
      refine lv_iconst (v := (0 : Int32)) hx hb dX7_times_43 (by decide) (W.pc 44 rfl ?_)
      refine lv_istore (lv' := [(6, .int (0 : Int32)), (5, .int a0_town_site_off), (3, .long (p1).toInt64), (0, .ref a0), (1, .int p1), (2, .int p2)]) hx hb dX7_times_44 hl (by decide) rfl (fun ls hl => W.pc 46 rfl ?_)
      refine lv_iconst (v := (0 : Int32)) hx hb dX7_times_46 (by decide) (W.pc 47 rfl ?_)
      refine lv_istore (lv' := [(7, .int (0 : Int32)), (6, .int (0 : Int32)), (5, .int a0_town_site_off), (3, .long (p1).toInt64), (0, .ref a0), (1, .int p1), (2, .int p2)]) hx hb dX7_times_47 hl (by decide) rfl (fun ls hl => W.pc 49 rfl ?_)
      have L_49 : ∀ (z4 : Int64 × Int32 × Int32 × Int32), (∀ (H : Heap) (locs : List Loc) (ls : Array Slot), wP E [(a0, .inr (4, [.ref a0_town, .ref a0_draft, .ref a0_images, .int a0_imagesKept, .ref a0_text, .ref a0_planner, .ref a0_trial, .ref a0_spread, .ref a0_spreadBehind, .ref a0_tally, .long a0_above, .long a0_below, .int a0_refusedAsBad, .int a0_refusedAsNo, .int a0_refusedAsFull])), (a0_town, .inr (3, [.int a0_town_kind, .ref a0_town_pulls, .ref a0_town_site, .ref a0_town_past, .int a0_town_pasts, .ref a0_town_views, .int a0_town_members, .ref a0_town_notes, .int a0_town_noteCount, .ref a0_town_marks, .int a0_town_markCount])), (a0_town_site, .inr (1, [.int a0_town_site_off, .int a0_town_site_year, .ref a0_town_site_heights, .ref a0_town_site_storeyKinds, .ref a0_town_site_storeyTilts]))] H → va_D A [(a0, .inr (4, [.ref a0_town, .ref a0_draft, .ref a0_images, .int a0_imagesKept, .ref a0_text, .ref a0_planner, .ref a0_trial, .ref a0_spread, .ref a0_spreadBehind, .ref a0_tally, .long a0_above, .long a0_below, .int a0_refusedAsBad, .int a0_refusedAsNo, .int a0_refusedAsFull])), (a0_town, .inr (3, [.int a0_town_kind, .ref a0_town_pulls, .ref a0_town_site, .ref a0_town_past, .int a0_town_pasts, .ref a0_town_views, .int a0_town_members, .ref a0_town_notes, .int a0_town_noteCount, .ref a0_town_marks, .int a0_town_markCount])), (a0_town_site, .inr (1, [.int a0_town_site_off, .int a0_town_site_year, .ref a0_town_site_heights, .ref a0_town_site_storeyKinds, .ref a0_town_site_storeyTilts]))] → va_S A s.heap H locs → lv_has ls 9 [(6, .int z4.2.2.1)] → W p l e (wR 3) s m [.ref a0, .int p1, .int p2].toArray below meth c H locs 0 0 (MQ below (QWd E A (some (.int z_0)) [(a0, .inr (4, [.ref a0_town, .ref a0_draft, .ref a0_images, .int a0_imagesKept, .ref a0_text, .ref a0_planner, .ref a0_trial, .ref a0_spread, .ref a0_spreadBehind, .ref a0_tally, .long a0_above, .long a0_below, .int z_1, .int a0_refusedAsNo, .int a0_refusedAsFull])), (a0_town, .inr (3, [.int a0_town_kind, .ref a0_town_pulls, .ref a0_town_site, .ref a0_town_past, .int a0_town_pasts, .ref a0_town_views, .int a0_town_members, .ref a0_town_notes, .int a0_town_noteCount, .ref a0_town_marks, .int a0_town_markCount])), (a0_town_site, .inr (1, [.int a0_town_site_off, .int a0_town_site_year, .ref a0_town_site_heights, .ref a0_town_site_storeyKinds, .ref a0_town_site_storeyTilts]))]) [.ref a0, .int p1, .int p2].toArray s 0 0 A) (F0 m 129 ls [])) → ∀ (fu : Nat) (x3_49 : Int64) (x5_49 : Int32) (x6_49 : Int32) (x7_49 : Int32), ∀ (H : Heap) (locs : List Loc) (ls : Array Slot), wP E [(a0, .inr (4, [.ref a0_town, .ref a0_draft, .ref a0_images, .int a0_imagesKept, .ref a0_text, .ref a0_planner, .ref a0_trial, .ref a0_spread, .ref a0_spreadBehind, .ref a0_tally, .long a0_above, .long a0_below, .int a0_refusedAsBad, .int a0_refusedAsNo, .int a0_refusedAsFull])), (a0_town, .inr (3, [.int a0_town_kind, .ref a0_town_pulls, .ref a0_town_site, .ref a0_town_past, .int a0_town_pasts, .ref a0_town_views, .int a0_town_members, .ref a0_town_notes, .int a0_town_noteCount, .ref a0_town_marks, .int a0_town_markCount])), (a0_town_site, .inr (1, [.int a0_town_site_off, .int a0_town_site_year, .ref a0_town_site_heights, .ref a0_town_site_storeyKinds, .ref a0_town_site_storeyTilts]))] H → va_D A [(a0, .inr (4, [.ref a0_town, .ref a0_draft, .ref a0_images, .int a0_imagesKept, .ref a0_text, .ref a0_planner, .ref a0_trial, .ref a0_spread, .ref a0_spreadBehind, .ref a0_tally, .long a0_above, .long a0_below, .int a0_refusedAsBad, .int a0_refusedAsNo, .int a0_refusedAsFull])), (a0_town, .inr (3, [.int a0_town_kind, .ref a0_town_pulls, .ref a0_town_site, .ref a0_town_past, .int a0_town_pasts, .ref a0_town_views, .int a0_town_members, .ref a0_town_notes, .int a0_town_noteCount, .ref a0_town_marks, .int a0_town_markCount])), (a0_town_site, .inr (1, [.int a0_town_site_off, .int a0_town_site_year, .ref a0_town_site_heights, .ref a0_town_site_storeyKinds, .ref a0_town_site_storeyTilts]))] → va_S A s.heap H locs → lv_has ls 9 [(0, .ref a0), (2, .int p2), (3, .long x3_49), (5, .int x5_49), (6, .int x6_49), (7, .int x7_49)] → lp_X7_times_49 p2 a0_town_kind a0_town_site_year fu x3_49 x5_49 x6_49 x7_49 = some z4 → W p l e (wR 3) s m [.ref a0, .int p1, .int p2].toArray below meth c H locs 0 0 (MQ below (QWd E A (some (.int z_0)) [(a0, .inr (4, [.ref a0_town, .ref a0_draft, .ref a0_images, .int a0_imagesKept, .ref a0_text, .ref a0_planner, .ref a0_trial, .ref a0_spread, .ref a0_spreadBehind, .ref a0_tally, .long a0_above, .long a0_below, .int z_1, .int a0_refusedAsNo, .int a0_refusedAsFull])), (a0_town, .inr (3, [.int a0_town_kind, .ref a0_town_pulls, .ref a0_town_site, .ref a0_town_past, .int a0_town_pasts, .ref a0_town_views, .int a0_town_members, .ref a0_town_notes, .int a0_town_noteCount, .ref a0_town_marks, .int a0_town_markCount])), (a0_town_site, .inr (1, [.int a0_town_site_off, .int a0_town_site_year, .ref a0_town_site_heights, .ref a0_town_site_storeyKinds, .ref a0_town_site_storeyTilts]))]) [.ref a0, .int p1, .int p2].toArray s 0 0 A) (F0 m 49 ls []) := by
        intro z4 hk_49 fu
        induction fu with
        | zero => intro x3_49 x5_49 x6_49 x7_49 H locs ls hP hD hS hl hsp; exact absurd (show none = some _ from hsp) (by simp)
        | succ fu ih_49 =>
          intro x3_49 x5_49 x6_49 x7_49 H locs ls hP hD hS hl hsp
          have hsp : (if p2 ≤ x7_49 then (some (x3_49, x5_49, x6_49, x7_49)) else (lp_X7_times_49 p2 a0_town_kind a0_town_site_year fu (((x3_49 * (1103515245 : Int64)) + (12345 : Int64)) - ((x3_49 * (1103515245 : Int64)) + (12345 : Int64)) / (2147483648 : Int64) * (2147483648 : Int64)) (sp_X0_behind a0_town_kind (a0_town_site_year + x7_49) x5_49 (((((((x3_49 * (1103515245 : Int64)) + (12345 : Int64)) - ((x3_49 * (1103515245 : Int64)) + (12345 : Int64)) / (2147483648 : Int64) * (2147483648 : Int64)) / (65536 : Int64)) - ((((x3_49 * (1103515245 : Int64)) + (12345 : Int64)) - ((x3_49 * (1103515245 : Int64)) + (12345 : Int64)) / (2147483648 : Int64) * (2147483648 : Int64)) / (65536 : Int64)) / (19 : Int64) * (19 : Int64))).toInt32 - (9 : Int32))) (x6_49 + (j_abs (sp_X0_behind a0_town_kind (a0_town_site_year + x7_49) x5_49 (((((((x3_49 * (1103515245 : Int64)) + (12345 : Int64)) - ((x3_49 * (1103515245 : Int64)) + (12345 : Int64)) / (2147483648 : Int64) * (2147483648 : Int64)) / (65536 : Int64)) - ((((x3_49 * (1103515245 : Int64)) + (12345 : Int64)) - ((x3_49 * (1103515245 : Int64)) + (12345 : Int64)) / (2147483648 : Int64) * (2147483648 : Int64)) / (65536 : Int64)) / (19 : Int64) * (19 : Int64))).toInt32 - (9 : Int32))))) (x7_49 + (1 : Int32)))) = some z4 := hsp
          refine lv_iload hx hb dX7_times_49 (lv_at hl 5 rfl) (W.pc 51 rfl ?_)
          refine lv_iload_n hx hb dX7_times_51 rfl (lv_at hl 1 rfl) (W.pc 52 rfl ?_)
          refine lv_icmp_ge (tgt := 129) hx hb dX7_times_52 (by decide) (fun c5 => ?_) (fun c5 => W.pc 55 rfl ?_)
          · have hsp := ip hsp c5
            obtain rfl := Option.some.inj hsp
            exact hk_49 _ _ _ hP hD hS (lv_sub hl [4] rfl)
          · have hsp := iq hsp c5
            refine lv_lload_n hx hb dX7_times_55 rfl (lv_at hl 2 rfl) (W.pc 56 rfl ?_)
            refine lv_ldc2 (v := (1103515245 : Int64)) hx hb hown (hts _ w_4_17) dX7_times_56 (W.pc 59 rfl ?_)
            refine lv_lmul hx hb dX7_times_59 (W.pc 60 rfl ?_)
            refine lv_ldc2 (v := (12345 : Int64)) hx hb hown (hts _ w_4_18) dX7_times_60 (W.pc 63 rfl ?_)
            refine lv_ladd hx hb dX7_times_63 (W.pc 64 rfl ?_)
            refine lv_ldc2 (v := (2147483648 : Int64)) hx hb hown (hts _ w_4_19) dX7_times_64 (W.pc 67 rfl ?_)
            refine lv_lrem hx hb dX7_times_67 (by decide) (W.pc 68 rfl ?_)
            refine lv_lstore_n (lv' := [(3, .long (((x3_49 * (1103515245 : Int64)) + (12345 : Int64)) - ((x3_49 * (1103515245 : Int64)) + (12345 : Int64)) / (2147483648 : Int64) * (2147483648 : Int64))), (0, .ref a0), (2, .int p2), (5, .int x5_49), (6, .int x6_49), (7, .int x7_49)]) hx hb dX7_times_68 rfl hl (by decide) rfl (fun ls hl => W.pc 69 rfl ?_)
            refine lv_lload_n hx hb dX7_times_69 rfl (lv_at hl 0 rfl) (W.pc 70 rfl ?_)
            refine lv_ldc2 (v := (65536 : Int64)) hx hb hown (hts _ w_4_20) dX7_times_70 (W.pc 73 rfl ?_)
            refine lv_ldiv hx hb dX7_times_73 (by decide) (W.pc 74 rfl ?_)
            refine lv_ldc2 (v := (19 : Int64)) hx hb hown (hts _ w_4_21) dX7_times_74 (W.pc 77 rfl ?_)
            refine lv_lrem hx hb dX7_times_77 (by decide) (W.pc 78 rfl ?_)
            refine lv_l2i (v := ((((((x3_49 * (1103515245 : Int64)) + (12345 : Int64)) - ((x3_49 * (1103515245 : Int64)) + (12345 : Int64)) / (2147483648 : Int64) * (2147483648 : Int64)) / (65536 : Int64)) - ((((x3_49 * (1103515245 : Int64)) + (12345 : Int64)) - ((x3_49 * (1103515245 : Int64)) + (12345 : Int64)) / (2147483648 : Int64) * (2147483648 : Int64)) / (65536 : Int64)) / (19 : Int64) * (19 : Int64))).toInt32) hx hb dX7_times_78 rfl (W.pc 79 rfl ?_)
            refine lv_bipush (v := (9 : Int32)) hx hb dX7_times_79 (by decide) (W.pc 81 rfl ?_)
            refine lv_isub hx hb dX7_times_81 (W.pc 82 rfl ?_)
            refine lv_istore (lv' := [(8, .int (((((((x3_49 * (1103515245 : Int64)) + (12345 : Int64)) - ((x3_49 * (1103515245 : Int64)) + (12345 : Int64)) / (2147483648 : Int64) * (2147483648 : Int64)) / (65536 : Int64)) - ((((x3_49 * (1103515245 : Int64)) + (12345 : Int64)) - ((x3_49 * (1103515245 : Int64)) + (12345 : Int64)) / (2147483648 : Int64) * (2147483648 : Int64)) / (65536 : Int64)) / (19 : Int64) * (19 : Int64))).toInt32 - (9 : Int32))), (3, .long (((x3_49 * (1103515245 : Int64)) + (12345 : Int64)) - ((x3_49 * (1103515245 : Int64)) + (12345 : Int64)) / (2147483648 : Int64) * (2147483648 : Int64))), (0, .ref a0), (2, .int p2), (5, .int x5_49), (6, .int x6_49), (7, .int x7_49)]) hx hb dX7_times_82 hl (by decide) rfl (fun ls hl => W.pc 84 rfl ?_)
            refine lv_aload_n hx hb dX7_times_84 rfl (lv_at hl 2 rfl) (W.pc 85 rfl ?_)
            refine va_get (D := E.1) (ci := 4) (v := .ref a0_town) (C := RX7) (T := TX7) (N := 15) hx hb hts inT_X7 hown hK hP 0 rfl rfl 0 (by decide) (hts _ w_1_178) (fun _ h9 => h9) rfl dX7_times_85 (W.pc 88 rfl ?_)
            refine va_get (D := E.1) (ci := 3) (v := .int a0_town_kind) (C := RX6) (T := TX6) (N := 11) hx hb hts inT_X6 hown hK hP 1 rfl rfl 0 (by decide) (hts _ w_1_63) (fun _ h9 => h9) rfl dX7_times_88 (W.pc 91 rfl ?_)
            refine lv_aload_n hx hb dX7_times_91 rfl (lv_at hl 2 rfl) (W.pc 92 rfl ?_)
            refine va_get (D := E.1) (ci := 4) (v := .ref a0_town) (C := RX7) (T := TX7) (N := 15) hx hb hts inT_X7 hown hK hP 0 rfl rfl 0 (by decide) (hts _ w_1_178) (fun _ h9 => h9) rfl dX7_times_92 (W.pc 95 rfl ?_)
            refine va_get (D := E.1) (ci := 3) (v := .ref a0_town_site) (C := RX6) (T := TX6) (N := 11) hx hb hts inT_X6 hown hK hP 1 rfl rfl 2 (by decide) (hts _ w_1_68) (fun _ h9 => h9) rfl dX7_times_95 (W.pc 98 rfl ?_)
            refine va_get (D := E.1) (ci := 1) (v := .int a0_town_site_year) (C := RX3) (T := TX3) (N := 5) hx hb hts inT_X3 hown hK hP 2 rfl rfl 1 (by decide) (hts _ w_1_45) (fun _ h9 => h9) rfl dX7_times_98 (W.pc 101 rfl ?_)
            refine lv_iload hx hb dX7_times_101 (lv_at hl 6 rfl) (W.pc 103 rfl ?_)
            refine lv_iadd hx hb dX7_times_103 (W.pc 104 rfl ?_)
            refine lv_iload hx hb dX7_times_104 (lv_at hl 4 rfl) (W.pc 106 rfl ?_)
            refine lv_iload hx hb dX7_times_106 (lv_at hl 0 rfl) (W.pc 108 rfl ?_)
            refine kSR (st1 := [.int (sp_X0_behind a0_town_kind (a0_town_site_year + x7_49) x5_49 (((((((x3_49 * (1103515245 : Int64)) + (12345 : Int64)) - ((x3_49 * (1103515245 : Int64)) + (12345 : Int64)) / (2147483648 : Int64) * (2147483648 : Int64)) / (65536 : Int64)) - ((((x3_49 * (1103515245 : Int64)) + (12345 : Int64)) - ((x3_49 * (1103515245 : Int64)) + (12345 : Int64)) / (2147483648 : Int64) * (2147483648 : Int64)) / (65536 : Int64)) / (19 : Int64) * (19 : Int64))).toInt32 - (9 : Int32)))]) hX (c_X0_behind l E a0_town_kind (a0_town_site_year + x7_49) x5_49 (((((((x3_49 * (1103515245 : Int64)) + (12345 : Int64)) - ((x3_49 * (1103515245 : Int64)) + (12345 : Int64)) / (2147483648 : Int64) * (2147483648 : Int64)) / (65536 : Int64)) - ((((x3_49 * (1103515245 : Int64)) + (12345 : Int64)) - ((x3_49 * (1103515245 : Int64)) + (12345 : Int64)) / (2147483648 : Int64) * (2147483648 : Int64)) / (65536 : Int64)) / (19 : Int64) * (19 : Int64))).toInt32 - (9 : Int32)) _ rfl) B_X0_behind w_3_164 hK (hP.pick [] rfl) rfl hl.1 rfl (Nat.le_of_ble_eq_true rfl) ⟨Nat.le_of_ble_eq_true rfl, Nat.le_of_ble_eq_true rfl⟩ dX7_times_108 rfl (W.pc 111 rfl ?_)
            refine lv_istore (lv' := [(5, .int (sp_X0_behind a0_town_kind (a0_town_site_year + x7_49) x5_49 (((((((x3_49 * (1103515245 : Int64)) + (12345 : Int64)) - ((x3_49 * (1103515245 : Int64)) + (12345 : Int64)) / (2147483648 : Int64) * (2147483648 : Int64)) / (65536 : Int64)) - ((((x3_49 * (1103515245 : Int64)) + (12345 : Int64)) - ((x3_49 * (1103515245 : Int64)) + (12345 : Int64)) / (2147483648 : Int64) * (2147483648 : Int64)) / (65536 : Int64)) / (19 : Int64) * (19 : Int64))).toInt32 - (9 : Int32)))), (8, .int (((((((x3_49 * (1103515245 : Int64)) + (12345 : Int64)) - ((x3_49 * (1103515245 : Int64)) + (12345 : Int64)) / (2147483648 : Int64) * (2147483648 : Int64)) / (65536 : Int64)) - ((((x3_49 * (1103515245 : Int64)) + (12345 : Int64)) - ((x3_49 * (1103515245 : Int64)) + (12345 : Int64)) / (2147483648 : Int64) * (2147483648 : Int64)) / (65536 : Int64)) / (19 : Int64) * (19 : Int64))).toInt32 - (9 : Int32))), (3, .long (((x3_49 * (1103515245 : Int64)) + (12345 : Int64)) - ((x3_49 * (1103515245 : Int64)) + (12345 : Int64)) / (2147483648 : Int64) * (2147483648 : Int64))), (0, .ref a0), (2, .int p2), (6, .int x6_49), (7, .int x7_49)]) hx hb dX7_times_111 hl (by decide) rfl (fun ls hl => W.pc 113 rfl ?_)
            refine lv_iload hx hb dX7_times_113 (lv_at hl 5 rfl) (W.pc 115 rfl ?_)
            refine lv_iload hx hb dX7_times_115 (lv_at hl 0 rfl) (W.pc 117 rfl ?_)
            refine kAbs hX hl.1 w_3_74 w_2_180 w_1_13 w_2_181 ⟨Nat.le_of_ble_eq_true rfl, Nat.le_of_ble_eq_true rfl⟩ dX7_times_117 (W.pc 120 rfl ?_)
            refine lv_iadd hx hb dX7_times_120 (W.pc 121 rfl ?_)
            refine lv_istore (lv' := [(6, .int (x6_49 + (j_abs (sp_X0_behind a0_town_kind (a0_town_site_year + x7_49) x5_49 (((((((x3_49 * (1103515245 : Int64)) + (12345 : Int64)) - ((x3_49 * (1103515245 : Int64)) + (12345 : Int64)) / (2147483648 : Int64) * (2147483648 : Int64)) / (65536 : Int64)) - ((((x3_49 * (1103515245 : Int64)) + (12345 : Int64)) - ((x3_49 * (1103515245 : Int64)) + (12345 : Int64)) / (2147483648 : Int64) * (2147483648 : Int64)) / (65536 : Int64)) / (19 : Int64) * (19 : Int64))).toInt32 - (9 : Int32)))))), (5, .int (sp_X0_behind a0_town_kind (a0_town_site_year + x7_49) x5_49 (((((((x3_49 * (1103515245 : Int64)) + (12345 : Int64)) - ((x3_49 * (1103515245 : Int64)) + (12345 : Int64)) / (2147483648 : Int64) * (2147483648 : Int64)) / (65536 : Int64)) - ((((x3_49 * (1103515245 : Int64)) + (12345 : Int64)) - ((x3_49 * (1103515245 : Int64)) + (12345 : Int64)) / (2147483648 : Int64) * (2147483648 : Int64)) / (65536 : Int64)) / (19 : Int64) * (19 : Int64))).toInt32 - (9 : Int32)))), (8, .int (((((((x3_49 * (1103515245 : Int64)) + (12345 : Int64)) - ((x3_49 * (1103515245 : Int64)) + (12345 : Int64)) / (2147483648 : Int64) * (2147483648 : Int64)) / (65536 : Int64)) - ((((x3_49 * (1103515245 : Int64)) + (12345 : Int64)) - ((x3_49 * (1103515245 : Int64)) + (12345 : Int64)) / (2147483648 : Int64) * (2147483648 : Int64)) / (65536 : Int64)) / (19 : Int64) * (19 : Int64))).toInt32 - (9 : Int32))), (3, .long (((x3_49 * (1103515245 : Int64)) + (12345 : Int64)) - ((x3_49 * (1103515245 : Int64)) + (12345 : Int64)) / (2147483648 : Int64) * (2147483648 : Int64))), (0, .ref a0), (2, .int p2), (7, .int x7_49)]) hx hb dX7_times_121 hl (by decide) rfl (fun ls hl => W.pc 123 rfl ?_)
            refine lv_iinc (v := (x7_49 + (1 : Int32))) (lv' := [(7, .int (x7_49 + (1 : Int32))), (6, .int (x6_49 + (j_abs (sp_X0_behind a0_town_kind (a0_town_site_year + x7_49) x5_49 (((((((x3_49 * (1103515245 : Int64)) + (12345 : Int64)) - ((x3_49 * (1103515245 : Int64)) + (12345 : Int64)) / (2147483648 : Int64) * (2147483648 : Int64)) / (65536 : Int64)) - ((((x3_49 * (1103515245 : Int64)) + (12345 : Int64)) - ((x3_49 * (1103515245 : Int64)) + (12345 : Int64)) / (2147483648 : Int64) * (2147483648 : Int64)) / (65536 : Int64)) / (19 : Int64) * (19 : Int64))).toInt32 - (9 : Int32)))))), (5, .int (sp_X0_behind a0_town_kind (a0_town_site_year + x7_49) x5_49 (((((((x3_49 * (1103515245 : Int64)) + (12345 : Int64)) - ((x3_49 * (1103515245 : Int64)) + (12345 : Int64)) / (2147483648 : Int64) * (2147483648 : Int64)) / (65536 : Int64)) - ((((x3_49 * (1103515245 : Int64)) + (12345 : Int64)) - ((x3_49 * (1103515245 : Int64)) + (12345 : Int64)) / (2147483648 : Int64) * (2147483648 : Int64)) / (65536 : Int64)) / (19 : Int64) * (19 : Int64))).toInt32 - (9 : Int32)))), (8, .int (((((((x3_49 * (1103515245 : Int64)) + (12345 : Int64)) - ((x3_49 * (1103515245 : Int64)) + (12345 : Int64)) / (2147483648 : Int64) * (2147483648 : Int64)) / (65536 : Int64)) - ((((x3_49 * (1103515245 : Int64)) + (12345 : Int64)) - ((x3_49 * (1103515245 : Int64)) + (12345 : Int64)) / (2147483648 : Int64) * (2147483648 : Int64)) / (65536 : Int64)) / (19 : Int64) * (19 : Int64))).toInt32 - (9 : Int32))), (3, .long (((x3_49 * (1103515245 : Int64)) + (12345 : Int64)) - ((x3_49 * (1103515245 : Int64)) + (12345 : Int64)) / (2147483648 : Int64) * (2147483648 : Int64))), (0, .ref a0), (2, .int p2)]) hx hb dX7_times_123 hl (k := 6) rfl rfl (by decide) rfl (fun ls hl => W.pc 126 rfl ?_)
            refine lv_goto (tgt := 49) hx hb dX7_times_126 (by decide) ?_
            exact ih_49 (((x3_49 * (1103515245 : Int64)) + (12345 : Int64)) - ((x3_49 * (1103515245 : Int64)) + (12345 : Int64)) / (2147483648 : Int64) * (2147483648 : Int64)) (sp_X0_behind a0_town_kind (a0_town_site_year + x7_49) x5_49 (((((((x3_49 * (1103515245 : Int64)) + (12345 : Int64)) - ((x3_49 * (1103515245 : Int64)) + (12345 : Int64)) / (2147483648 : Int64) * (2147483648 : Int64)) / (65536 : Int64)) - ((((x3_49 * (1103515245 : Int64)) + (12345 : Int64)) - ((x3_49 * (1103515245 : Int64)) + (12345 : Int64)) / (2147483648 : Int64) * (2147483648 : Int64)) / (65536 : Int64)) / (19 : Int64) * (19 : Int64))).toInt32 - (9 : Int32))) (x6_49 + (j_abs (sp_X0_behind a0_town_kind (a0_town_site_year + x7_49) x5_49 (((((((x3_49 * (1103515245 : Int64)) + (12345 : Int64)) - ((x3_49 * (1103515245 : Int64)) + (12345 : Int64)) / (2147483648 : Int64) * (2147483648 : Int64)) / (65536 : Int64)) - ((((x3_49 * (1103515245 : Int64)) + (12345 : Int64)) - ((x3_49 * (1103515245 : Int64)) + (12345 : Int64)) / (2147483648 : Int64) * (2147483648 : Int64)) / (65536 : Int64)) / (19 : Int64) * (19 : Int64))).toInt32 - (9 : Int32))))) (x7_49 + (1 : Int32)) _ _ _ hP hD hS (lv_sub hl [5, 6, 4, 2, 1, 0] rfl) hsp
      obtain ⟨z4, hr_z4, hsp⟩ := bd_s hsp
      refine L_49 z4 (fun H locs ls hP hD hS hl => ?_) FU ((p1).toInt64) a0_town_site_off (0 : Int32) (0 : Int32) _ _ _ hP hD hS (lv_sub hl [4, 6, 3, 2, 1, 0] rfl) hr_z4
      refine lv_iload hx hb dX7_times_129 (lv_at hl 0 rfl) (W.pc 131 rfl ?_)
      cases hsp
      exact rWi hX hP hS rfl rfl dX7_times_131
    · have hsp := ip hsp c3
      refine lv_aload_n hx hb dX7_times_21 rfl (lv_at hl 0 rfl) (W.pc 22 rfl ?_)
      refine lv_bipush (v := (-2 : Int32)) hx hb dX7_times_22 (by decide) (W.pc 24 rfl ?_)
      obtain ⟨z6, hr_z6, hsp⟩ := ltb_s hsp
      refine kVW (st1 := [.int z6.1]) (ws' := [(a0, .inr (4, [.ref a0_town, .ref a0_draft, .ref a0_images, .int a0_imagesKept, .ref a0_text, .ref a0_planner, .ref a0_trial, .ref a0_spread, .ref a0_spreadBehind, .ref a0_tally, .long a0_above, .long a0_below, .int z6.2, .int a0_refusedAsNo, .int a0_refusedAsFull])), (a0_town, .inr (3, [.int a0_town_kind, .ref a0_town_pulls, .ref a0_town_site, .ref a0_town_past, .int a0_town_pasts, .ref a0_town_views, .int a0_town_members, .ref a0_town_notes, .int a0_town_noteCount, .ref a0_town_marks, .int a0_town_markCount])), (a0_town_site, .inr (1, [.int a0_town_site_off, .int a0_town_site_year, .ref a0_town_site_heights, .ref a0_town_site_storeyKinds, .ref a0_town_site_storeyTilts]))]) [0] hX (c_X7_bad l E a0 a0_town a0_draft a0_images a0_text a0_planner a0_trial a0_spread a0_spreadBehind a0_tally (-2 : Int32) a0_imagesKept a0_above a0_below a0_refusedAsBad a0_refusedAsNo a0_refusedAsFull z6.1 z6.2 hr_z6) B_X7_bad w_1_234 hK hP hD hS hA (by decide) rfl rfl rfl (q0 := 0) (ci := 4) rfl rfl rfl rfl hl.1 rfl (Nat.le_of_ble_eq_true rfl) ⟨Nat.le_of_ble_eq_true rfl, Nat.le_of_ble_eq_true rfl⟩ dX7_times_24 rfl (fun H locs hP hD hS => W.pc 27 rfl ?_)
      cases hsp
      exact rWi hX hP hS rfl rfl dX7_times_27
def sp_X7_part (p1 : Int32) (a0_above : Int64) (a0_below : Int64) (a0_refusedAsBad : Int32) : Int64 × Int32 := if p1 = (0 : Int32) then ((a0_above, a0_refusedAsBad)) else (if p1 = (1 : Int32) then ((a0_below, a0_refusedAsBad)) else ((lt_ (sp_X7_bad (-2 : Int32) a0_refusedAsBad) fun z3 => ((z3.1).toInt64, z3.2))))
set_option maxHeartbeats 4000000 in
set_option maxRecDepth 100000 in
theorem c_X7_part (l : Launch) (E : wE) (a0 a0_town a0_draft a0_images a0_text a0_planner a0_trial a0_spread a0_spreadBehind a0_tally : Nat) (p1 : Int32) (a0_imagesKept : Int32) (a0_above : Int64) (a0_below : Int64) (a0_refusedAsBad : Int32) (a0_refusedAsNo : Int32) (a0_refusedAsFull : Int32) (z_0 : Int64) (z_1 : Int32) (hsp : sp_X7_part p1 a0_above a0_below a0_refusedAsBad = (z_0, z_1)) : MW l yX7_part cX7_part 2 (some .long) 1 E [.ref a0, .int p1] [(a0, .inr (4, [.ref a0_town, .ref a0_draft, .ref a0_images, .int a0_imagesKept, .ref a0_text, .ref a0_planner, .ref a0_trial, .ref a0_spread, .ref a0_spreadBehind, .ref a0_tally, .long a0_above, .long a0_below, .int a0_refusedAsBad, .int a0_refusedAsNo, .int a0_refusedAsFull]))] (some (.long z_0)) [(a0, .inr (4, [.ref a0_town, .ref a0_draft, .ref a0_images, .int a0_imagesKept, .ref a0_text, .ref a0_planner, .ref a0_trial, .ref a0_spread, .ref a0_spreadBehind, .ref a0_tally, .long a0_above, .long a0_below, .int z_1, .int a0_refusedAsNo, .int a0_refusedAsFull]))] := by
  refine MW.of (by decide +kernel) (Nat.le_of_ble_eq_true rfl) ?_
  intro p e s m below meth c ls A hX hK hP hD hS hA hl
  have hX : CX p s m [.ref a0, .int p1].toArray meth c cX7_part 2 (some .long) RX7 := hX
  have hx := hX.1; have hb := hX.2.1; have hts := hX.2.2.2.2.1; have hown := hX.2.2.2.2.2.1
  have hl : lv_has ls 2 [(0, .ref a0), (1, .int p1)] := hl
  have hP : wP E [(a0, .inr (4, [.ref a0_town, .ref a0_draft, .ref a0_images, .int a0_imagesKept, .ref a0_text, .ref a0_planner, .ref a0_trial, .ref a0_spread, .ref a0_spreadBehind, .ref a0_tally, .long a0_above, .long a0_below, .int a0_refusedAsBad, .int a0_refusedAsNo, .int a0_refusedAsFull]))] s.heap := hP
  have hsp : (if p1 = (0 : Int32) then ((a0_above, a0_refusedAsBad)) else (if p1 = (1 : Int32) then ((a0_below, a0_refusedAsBad)) else ((lt_ (sp_X7_bad (-2 : Int32) a0_refusedAsBad) fun z3 => ((z3.1).toInt64, z3.2))))) = (z_0, z_1) := hsp
  refine lv_iload_n hx hb dX7_part_0 rfl (lv_at hl 1 rfl) (W.pc 1 rfl ?_)
  by_cases c1 : p1 = (0 : Int32)
  · have hsp := ip hsp c1
    refine lv_lookup (off := 27) (tgt := 28) hx hb dX7_part_1 (by decide) (by rw [c1]; rfl) (by decide) ?_
    refine lv_aload_n hx hb dX7_part_28 rfl (lv_at hl 0 rfl) (W.pc 29 rfl ?_)
    refine va_get (D := E.1) (ci := 4) (v := .long a0_above) (C := RX7) (T := TX7) (N := 15) hx hb hts inT_X7 hown hK hP 0 rfl rfl 10 (by decide) (hts _ w_1_188) (fun _ h9 => h9) rfl dX7_part_29 (W.pc 32 rfl ?_)
    cases hsp
    exact rWl hX hP hS rfl rfl dX7_part_32
  · have hsp := iq hsp c1
    by_cases c2 : p1 = (1 : Int32)
    · have hsp := ip hsp c2
      refine lv_lookup (off := 32) (tgt := 33) hx hb dX7_part_1 (by decide) (by rw [c2]; rfl) (by decide) ?_
      refine lv_aload_n hx hb dX7_part_33 rfl (lv_at hl 0 rfl) (W.pc 34 rfl ?_)
      refine va_get (D := E.1) (ci := 4) (v := .long a0_below) (C := RX7) (T := TX7) (N := 15) hx hb hts inT_X7 hown hK hP 0 rfl rfl 11 (by decide) (hts _ w_1_189) (fun _ h9 => h9) rfl dX7_part_34 (W.pc 37 rfl ?_)
      cases hsp
      exact rWl hX hP hS rfl rfl dX7_part_37
    · have hsp := iq hsp c2
      refine lv_lookup (off := 37) (tgt := 38) hx hb dX7_part_1 (by decide) (by show Jvm.Op.lookupswitch.offset [(0, 27), (1, 32)] 37 (p1).toInt = 37; rw [lv_osw (a := 0) c1 rfl]; rw [lv_osw (a := 1) c2 rfl]; rfl) (by decide) ?_
      refine lv_aload_n hx hb dX7_part_38 rfl (lv_at hl 0 rfl) (W.pc 39 rfl ?_)
      refine lv_bipush (v := (-2 : Int32)) hx hb dX7_part_39 (by decide) (W.pc 41 rfl ?_)
      obtain ⟨z3, hr_z3, hsp⟩ := ltb_s hsp
      refine kVW (st1 := [.int z3.1]) (ws' := [(a0, .inr (4, [.ref a0_town, .ref a0_draft, .ref a0_images, .int a0_imagesKept, .ref a0_text, .ref a0_planner, .ref a0_trial, .ref a0_spread, .ref a0_spreadBehind, .ref a0_tally, .long a0_above, .long a0_below, .int z3.2, .int a0_refusedAsNo, .int a0_refusedAsFull]))]) [0] hX (c_X7_bad l E a0 a0_town a0_draft a0_images a0_text a0_planner a0_trial a0_spread a0_spreadBehind a0_tally (-2 : Int32) a0_imagesKept a0_above a0_below a0_refusedAsBad a0_refusedAsNo a0_refusedAsFull z3.1 z3.2 hr_z3) B_X7_bad w_1_234 hK hP hD hS hA (by decide) rfl rfl rfl (q0 := 0) (ci := 4) rfl rfl rfl rfl hl.1 rfl (Nat.le_of_ble_eq_true rfl) ⟨Nat.le_of_ble_eq_true rfl, Nat.le_of_ble_eq_true rfl⟩ dX7_part_41 rfl (fun H locs hP hD hS => W.pc 44 rfl ?_)
      refine lv_i2l (v := (z3.1).toInt64) hx hb dX7_part_44 rfl (W.pc 45 rfl ?_)
      cases hsp
      exact rWl hX hP hS rfl rfl dX7_part_45
def sp_X7_status (p1 : Int32) (a0_refusedAsBad : Int32) (a0_refusedAsNo : Int32) (a0_refusedAsFull : Int32) : Int32 × Int32 := if p1 = (0 : Int32) then ((a0_refusedAsBad, a0_refusedAsBad)) else (if p1 = (1 : Int32) then ((a0_refusedAsNo, a0_refusedAsBad)) else (if p1 = (2 : Int32) then ((a0_refusedAsFull, a0_refusedAsBad)) else ((lt_ (sp_X7_bad (-1 : Int32) a0_refusedAsBad) fun z4 => (z4.1, z4.2)))))
set_option maxHeartbeats 4000000 in
set_option maxRecDepth 100000 in
theorem c_X7_status (l : Launch) (E : wE) (a0 a0_town a0_draft a0_images a0_text a0_planner a0_trial a0_spread a0_spreadBehind a0_tally : Nat) (p1 : Int32) (a0_imagesKept : Int32) (a0_above : Int64) (a0_below : Int64) (a0_refusedAsBad : Int32) (a0_refusedAsNo : Int32) (a0_refusedAsFull : Int32) (z_0 : Int32) (z_1 : Int32) (hsp : sp_X7_status p1 a0_refusedAsBad a0_refusedAsNo a0_refusedAsFull = (z_0, z_1)) : MW l yX7_status cX7_status 2 (some .int) 1 E [.ref a0, .int p1] [(a0, .inr (4, [.ref a0_town, .ref a0_draft, .ref a0_images, .int a0_imagesKept, .ref a0_text, .ref a0_planner, .ref a0_trial, .ref a0_spread, .ref a0_spreadBehind, .ref a0_tally, .long a0_above, .long a0_below, .int a0_refusedAsBad, .int a0_refusedAsNo, .int a0_refusedAsFull]))] (some (.int z_0)) [(a0, .inr (4, [.ref a0_town, .ref a0_draft, .ref a0_images, .int a0_imagesKept, .ref a0_text, .ref a0_planner, .ref a0_trial, .ref a0_spread, .ref a0_spreadBehind, .ref a0_tally, .long a0_above, .long a0_below, .int z_1, .int a0_refusedAsNo, .int a0_refusedAsFull]))] := by
  refine MW.of (by decide +kernel) (Nat.le_of_ble_eq_true rfl) ?_
  intro p e s m below meth c ls A hX hK hP hD hS hA hl
  have hX : CX p s m [.ref a0, .int p1].toArray meth c cX7_status 2 (some .int) RX7 := hX
  have hx := hX.1; have hb := hX.2.1; have hts := hX.2.2.2.2.1; have hown := hX.2.2.2.2.2.1
  have hl : lv_has ls 2 [(0, .ref a0), (1, .int p1)] := hl
  have hP : wP E [(a0, .inr (4, [.ref a0_town, .ref a0_draft, .ref a0_images, .int a0_imagesKept, .ref a0_text, .ref a0_planner, .ref a0_trial, .ref a0_spread, .ref a0_spreadBehind, .ref a0_tally, .long a0_above, .long a0_below, .int a0_refusedAsBad, .int a0_refusedAsNo, .int a0_refusedAsFull]))] s.heap := hP
  have hsp : (if p1 = (0 : Int32) then ((a0_refusedAsBad, a0_refusedAsBad)) else (if p1 = (1 : Int32) then ((a0_refusedAsNo, a0_refusedAsBad)) else (if p1 = (2 : Int32) then ((a0_refusedAsFull, a0_refusedAsBad)) else ((lt_ (sp_X7_bad (-1 : Int32) a0_refusedAsBad) fun z4 => (z4.1, z4.2)))))) = (z_0, z_1) := hsp
  refine lv_iload_n hx hb dX7_status_0 rfl (lv_at hl 1 rfl) (W.pc 1 rfl ?_)
  by_cases c1 : p1 = (0 : Int32)
  · have hsp := ip hsp c1
    refine lv_tableIn (off := 27) (tgt := 28) hx hb dX7_status_1 (by rw [c1]; decide) (by rw [c1]; decide) (by rw [c1]; rfl) (by decide) ?_
    refine lv_aload_n hx hb dX7_status_28 rfl (lv_at hl 0 rfl) (W.pc 29 rfl ?_)
    refine va_get (D := E.1) (ci := 4) (v := .int a0_refusedAsBad) (C := RX7) (T := TX7) (N := 15) hx hb hts inT_X7 hown hK hP 0 rfl rfl 12 (by decide) (hts _ w_1_190) (fun _ h9 => h9) rfl dX7_status_29 (W.pc 32 rfl ?_)
    cases hsp
    exact rWi hX hP hS rfl rfl dX7_status_32
  · have hsp := iq hsp c1
    by_cases c2 : p1 = (1 : Int32)
    · have hsp := ip hsp c2
      refine lv_tableIn (off := 32) (tgt := 33) hx hb dX7_status_1 (by rw [c2]; decide) (by rw [c2]; decide) (by rw [c2]; rfl) (by decide) ?_
      refine lv_aload_n hx hb dX7_status_33 rfl (lv_at hl 0 rfl) (W.pc 34 rfl ?_)
      refine va_get (D := E.1) (ci := 4) (v := .int a0_refusedAsNo) (C := RX7) (T := TX7) (N := 15) hx hb hts inT_X7 hown hK hP 0 rfl rfl 13 (by decide) (hts _ w_1_191) (fun _ h9 => h9) rfl dX7_status_34 (W.pc 37 rfl ?_)
      cases hsp
      exact rWi hX hP hS rfl rfl dX7_status_37
    · have hsp := iq hsp c2
      by_cases c3 : p1 = (2 : Int32)
      · have hsp := ip hsp c3
        refine lv_tableIn (off := 37) (tgt := 38) hx hb dX7_status_1 (by rw [c3]; decide) (by rw [c3]; decide) (by rw [c3]; rfl) (by decide) ?_
        refine lv_aload_n hx hb dX7_status_38 rfl (lv_at hl 0 rfl) (W.pc 39 rfl ?_)
        refine va_get (D := E.1) (ci := 4) (v := .int a0_refusedAsFull) (C := RX7) (T := TX7) (N := 15) hx hb hts inT_X7 hown hK hP 0 rfl rfl 14 (by decide) (hts _ w_1_192) (fun _ h9 => h9) rfl dX7_status_39 (W.pc 42 rfl ?_)
        cases hsp
        exact rWi hX hP hS rfl rfl dX7_status_42
      · have hsp := iq hsp c3
        refine lv_tableOut (tgt := 43) hx hb dX7_status_1 (by have := lv_neT c1 (a := 0) rfl; have := lv_neT c2 (a := 1) rfl; have := lv_neT c3 (a := 2) rfl;  omega) (by decide) ?_
        refine lv_aload_n hx hb dX7_status_43 rfl (lv_at hl 0 rfl) (W.pc 44 rfl ?_)
        refine lv_iconst (v := (-1 : Int32)) hx hb dX7_status_44 (by decide) (W.pc 45 rfl ?_)
        obtain ⟨z4, hr_z4, hsp⟩ := ltb_s hsp
        refine kVW (st1 := [.int z4.1]) (ws' := [(a0, .inr (4, [.ref a0_town, .ref a0_draft, .ref a0_images, .int a0_imagesKept, .ref a0_text, .ref a0_planner, .ref a0_trial, .ref a0_spread, .ref a0_spreadBehind, .ref a0_tally, .long a0_above, .long a0_below, .int z4.2, .int a0_refusedAsNo, .int a0_refusedAsFull]))]) [0] hX (c_X7_bad l E a0 a0_town a0_draft a0_images a0_text a0_planner a0_trial a0_spread a0_spreadBehind a0_tally (-1 : Int32) a0_imagesKept a0_above a0_below a0_refusedAsBad a0_refusedAsNo a0_refusedAsFull z4.1 z4.2 hr_z4) B_X7_bad w_1_234 hK hP hD hS hA (by decide) rfl rfl rfl (q0 := 0) (ci := 4) rfl rfl rfl rfl hl.1 rfl (Nat.le_of_ble_eq_true rfl) ⟨Nat.le_of_ble_eq_true rfl, Nat.le_of_ble_eq_true rfl⟩ dX7_status_45 rfl (fun H locs hP hD hS => W.pc 48 rfl ?_)
        cases hsp
        exact rWi hX hP hS rfl rfl dX7_status_48
noncomputable def sp_X7_count (p1 : Int32) (a0_refusedAsBad : Int32) (a0_town_pasts : Int32) (a0_town_members : Int32) (a0_town_noteCount : Int32) (a0_town_markCount : Int32) (a0_town_site_year : Int32) (fa0_town_site_heights : Nat → Int32) (a0_text_length : Int32) : Option (Int32 × Int32) := if p1 = (0 : Int32) then (Option.bind (sp_X3_storeys fa0_town_site_heights) fun z2 => some (z2, a0_refusedAsBad)) else (if p1 = (1 : Int32) then (some (a0_town_site_year, a0_refusedAsBad)) else (if p1 = (2 : Int32) then (some (a0_town_members, a0_refusedAsBad)) else (if p1 = (3 : Int32) then (some (a0_town_noteCount, a0_refusedAsBad)) else (if p1 = (4 : Int32) then (some (a0_town_markCount, a0_refusedAsBad)) else (if p1 = (5 : Int32) then (some (a0_town_pasts, a0_refusedAsBad)) else (if p1 = (6 : Int32) then (some (a0_text_length, a0_refusedAsBad)) else ((lt_ (sp_X7_bad (-2 : Int32) a0_refusedAsBad) fun z9 => some (z9.1, z9.2)))))))))
set_option maxHeartbeats 4000000 in
set_option maxRecDepth 100000 in
theorem c_X7_count (l : Launch) (E : wE) (a0 a0_town a0_draft a0_images a0_text a0_planner a0_trial a0_spread a0_spreadBehind a0_tally a0_town_pulls a0_town_site a0_town_past a0_town_views a0_town_notes a0_town_marks a0_town_site_heights a0_town_site_storeyKinds a0_town_site_storeyTilts a0_text_bytes : Nat) (p1 : Int32) (a0_imagesKept : Int32) (a0_above : Int64) (a0_below : Int64) (a0_refusedAsBad : Int32) (a0_refusedAsNo : Int32) (a0_refusedAsFull : Int32) (a0_town_kind : Int32) (a0_town_pasts : Int32) (a0_town_members : Int32) (a0_town_noteCount : Int32) (a0_town_markCount : Int32) (a0_town_site_off : Int32) (a0_town_site_year : Int32) (fa0_town_site_heights : Nat → Int32) (a0_text_length : Int32) (a0_text_token : Int32) (a0_text_start : Int32) (a0_text_behind : Int32) (a0_text_value : Int32) (z_0 : Int32) (z_1 : Int32) (hsp : sp_X7_count p1 a0_refusedAsBad a0_town_pasts a0_town_members a0_town_noteCount a0_town_markCount a0_town_site_year fa0_town_site_heights a0_text_length = some (z_0, z_1)) : MW l yX7_count cX7_count 2 (some .int) 3 E [.ref a0, .int p1] [(a0, .inr (4, [.ref a0_town, .ref a0_draft, .ref a0_images, .int a0_imagesKept, .ref a0_text, .ref a0_planner, .ref a0_trial, .ref a0_spread, .ref a0_spreadBehind, .ref a0_tally, .long a0_above, .long a0_below, .int a0_refusedAsBad, .int a0_refusedAsNo, .int a0_refusedAsFull])), (a0_town, .inr (3, [.int a0_town_kind, .ref a0_town_pulls, .ref a0_town_site, .ref a0_town_past, .int a0_town_pasts, .ref a0_town_views, .int a0_town_members, .ref a0_town_notes, .int a0_town_noteCount, .ref a0_town_marks, .int a0_town_markCount])), (a0_town_site, .inr (1, [.int a0_town_site_off, .int a0_town_site_year, .ref a0_town_site_heights, .ref a0_town_site_storeyKinds, .ref a0_town_site_storeyTilts])), (a0_town_site_heights, aI E 6 fa0_town_site_heights), (a0_text, .inr (2, [.ref a0_text_bytes, .int a0_text_length, .int a0_text_token, .int a0_text_start, .int a0_text_behind, .int a0_text_value]))] (some (.int z_0)) [(a0, .inr (4, [.ref a0_town, .ref a0_draft, .ref a0_images, .int a0_imagesKept, .ref a0_text, .ref a0_planner, .ref a0_trial, .ref a0_spread, .ref a0_spreadBehind, .ref a0_tally, .long a0_above, .long a0_below, .int z_1, .int a0_refusedAsNo, .int a0_refusedAsFull])), (a0_town, .inr (3, [.int a0_town_kind, .ref a0_town_pulls, .ref a0_town_site, .ref a0_town_past, .int a0_town_pasts, .ref a0_town_views, .int a0_town_members, .ref a0_town_notes, .int a0_town_noteCount, .ref a0_town_marks, .int a0_town_markCount])), (a0_town_site, .inr (1, [.int a0_town_site_off, .int a0_town_site_year, .ref a0_town_site_heights, .ref a0_town_site_storeyKinds, .ref a0_town_site_storeyTilts])), (a0_town_site_heights, aI E 6 fa0_town_site_heights), (a0_text, .inr (2, [.ref a0_text_bytes, .int a0_text_length, .int a0_text_token, .int a0_text_start, .int a0_text_behind, .int a0_text_value]))] := by
  refine MW.of (by decide +kernel) (Nat.le_of_ble_eq_true rfl) ?_
  intro p e s m below meth c ls A hX hK hP hD hS hA hl
  have hX : CX p s m [.ref a0, .int p1].toArray meth c cX7_count 2 (some .int) RX7 := hX
  have hx := hX.1; have hb := hX.2.1; have hts := hX.2.2.2.2.1; have hown := hX.2.2.2.2.2.1
  have hl : lv_has ls 2 [(0, .ref a0), (1, .int p1)] := hl
  have hP : wP E [(a0, .inr (4, [.ref a0_town, .ref a0_draft, .ref a0_images, .int a0_imagesKept, .ref a0_text, .ref a0_planner, .ref a0_trial, .ref a0_spread, .ref a0_spreadBehind, .ref a0_tally, .long a0_above, .long a0_below, .int a0_refusedAsBad, .int a0_refusedAsNo, .int a0_refusedAsFull])), (a0_town, .inr (3, [.int a0_town_kind, .ref a0_town_pulls, .ref a0_town_site, .ref a0_town_past, .int a0_town_pasts, .ref a0_town_views, .int a0_town_members, .ref a0_town_notes, .int a0_town_noteCount, .ref a0_town_marks, .int a0_town_markCount])), (a0_town_site, .inr (1, [.int a0_town_site_off, .int a0_town_site_year, .ref a0_town_site_heights, .ref a0_town_site_storeyKinds, .ref a0_town_site_storeyTilts])), (a0_town_site_heights, aI E 6 fa0_town_site_heights), (a0_text, .inr (2, [.ref a0_text_bytes, .int a0_text_length, .int a0_text_token, .int a0_text_start, .int a0_text_behind, .int a0_text_value]))] s.heap := hP
  have hsp : (if p1 = (0 : Int32) then (Option.bind (sp_X3_storeys fa0_town_site_heights) fun z2 => some (z2, a0_refusedAsBad)) else (if p1 = (1 : Int32) then (some (a0_town_site_year, a0_refusedAsBad)) else (if p1 = (2 : Int32) then (some (a0_town_members, a0_refusedAsBad)) else (if p1 = (3 : Int32) then (some (a0_town_noteCount, a0_refusedAsBad)) else (if p1 = (4 : Int32) then (some (a0_town_markCount, a0_refusedAsBad)) else (if p1 = (5 : Int32) then (some (a0_town_pasts, a0_refusedAsBad)) else (if p1 = (6 : Int32) then (some (a0_text_length, a0_refusedAsBad)) else ((lt_ (sp_X7_bad (-2 : Int32) a0_refusedAsBad) fun z9 => some (z9.1, z9.2)))))))))) = some (z_0, z_1) := hsp
  refine lv_iload_n hx hb dX7_count_0 rfl (lv_at hl 1 rfl) (W.pc 1 rfl ?_)
  by_cases c1 : p1 = (0 : Int32)
  · have hsp := ip hsp c1
    refine lv_tableIn (off := 43) (tgt := 44) hx hb dX7_count_1 (by rw [c1]; decide) (by rw [c1]; decide) (by rw [c1]; rfl) (by decide) ?_
    refine lv_aload_n hx hb dX7_count_44 rfl (lv_at hl 0 rfl) (W.pc 45 rfl ?_)
    refine va_get (D := E.1) (ci := 4) (v := .ref a0_town) (C := RX7) (T := TX7) (N := 15) hx hb hts inT_X7 hown hK hP 0 rfl rfl 0 (by decide) (hts _ w_1_178) (fun _ h9 => h9) rfl dX7_count_45 (W.pc 48 rfl ?_)
    refine va_get (D := E.1) (ci := 3) (v := .ref a0_town_site) (C := RX6) (T := TX6) (N := 11) hx hb hts inT_X6 hown hK hP 1 rfl rfl 2 (by decide) (hts _ w_1_68) (fun _ h9 => h9) rfl dX7_count_48 (W.pc 51 rfl ?_)
    obtain ⟨z2, hr_z2, hsp⟩ := bd_s hsp
    refine kVR (st1 := [.int z2]) hX (c_X3_storeys l E a0_town_site a0_town_site_heights a0_town_site_storeyKinds a0_town_site_storeyTilts a0_town_site_off a0_town_site_year fa0_town_site_heights z2 hr_z2) B_X3_storeys w_1_238 hK (hP.pick [2, 3] rfl) (q0 := 0) (ci := 1) rfl rfl rfl rfl hl.1 rfl (Nat.le_of_ble_eq_true rfl) ⟨Nat.le_of_ble_eq_true rfl, Nat.le_of_ble_eq_true rfl⟩ dX7_count_51 rfl (W.pc 54 rfl ?_)
    cases hsp
    exact rWi hX hP hS rfl rfl dX7_count_54
  · have hsp := iq hsp c1
    by_cases c3 : p1 = (1 : Int32)
    · have hsp := ip hsp c3
      refine lv_tableIn (off := 54) (tgt := 55) hx hb dX7_count_1 (by rw [c3]; decide) (by rw [c3]; decide) (by rw [c3]; rfl) (by decide) ?_
      refine lv_aload_n hx hb dX7_count_55 rfl (lv_at hl 0 rfl) (W.pc 56 rfl ?_)
      refine va_get (D := E.1) (ci := 4) (v := .ref a0_town) (C := RX7) (T := TX7) (N := 15) hx hb hts inT_X7 hown hK hP 0 rfl rfl 0 (by decide) (hts _ w_1_178) (fun _ h9 => h9) rfl dX7_count_56 (W.pc 59 rfl ?_)
      refine va_get (D := E.1) (ci := 3) (v := .ref a0_town_site) (C := RX6) (T := TX6) (N := 11) hx hb hts inT_X6 hown hK hP 1 rfl rfl 2 (by decide) (hts _ w_1_68) (fun _ h9 => h9) rfl dX7_count_59 (W.pc 62 rfl ?_)
      refine va_get (D := E.1) (ci := 1) (v := .int a0_town_site_year) (C := RX3) (T := TX3) (N := 5) hx hb hts inT_X3 hown hK hP 2 rfl rfl 1 (by decide) (hts _ w_1_45) (fun _ h9 => h9) rfl dX7_count_62 (W.pc 65 rfl ?_)
      cases hsp
      exact rWi hX hP hS rfl rfl dX7_count_65
    · have hsp := iq hsp c3
      by_cases c4 : p1 = (2 : Int32)
      · have hsp := ip hsp c4
        refine lv_tableIn (off := 65) (tgt := 66) hx hb dX7_count_1 (by rw [c4]; decide) (by rw [c4]; decide) (by rw [c4]; rfl) (by decide) ?_
        refine lv_aload_n hx hb dX7_count_66 rfl (lv_at hl 0 rfl) (W.pc 67 rfl ?_)
        refine va_get (D := E.1) (ci := 4) (v := .ref a0_town) (C := RX7) (T := TX7) (N := 15) hx hb hts inT_X7 hown hK hP 0 rfl rfl 0 (by decide) (hts _ w_1_178) (fun _ h9 => h9) rfl dX7_count_67 (W.pc 70 rfl ?_)
        refine va_get (D := E.1) (ci := 3) (v := .int a0_town_members) (C := RX6) (T := TX6) (N := 11) hx hb hts inT_X6 hown hK hP 1 rfl rfl 6 (by decide) (hts _ w_1_77) (fun _ h9 => h9) rfl dX7_count_70 (W.pc 73 rfl ?_)
        cases hsp
        exact rWi hX hP hS rfl rfl dX7_count_73
      · have hsp := iq hsp c4
        by_cases c5 : p1 = (3 : Int32)
        · have hsp := ip hsp c5
          refine lv_tableIn (off := 73) (tgt := 74) hx hb dX7_count_1 (by rw [c5]; decide) (by rw [c5]; decide) (by rw [c5]; rfl) (by decide) ?_
          refine lv_aload_n hx hb dX7_count_74 rfl (lv_at hl 0 rfl) (W.pc 75 rfl ?_)
          refine va_get (D := E.1) (ci := 4) (v := .ref a0_town) (C := RX7) (T := TX7) (N := 15) hx hb hts inT_X7 hown hK hP 0 rfl rfl 0 (by decide) (hts _ w_1_178) (fun _ h9 => h9) rfl dX7_count_75 (W.pc 78 rfl ?_)
          refine va_get (D := E.1) (ci := 3) (v := .int a0_town_noteCount) (C := RX6) (T := TX6) (N := 11) hx hb hts inT_X6 hown hK hP 1 rfl rfl 8 (by decide) (hts _ w_1_81) (fun _ h9 => h9) rfl dX7_count_78 (W.pc 81 rfl ?_)
          cases hsp
          exact rWi hX hP hS rfl rfl dX7_count_81
        · have hsp := iq hsp c5
          by_cases c6 : p1 = (4 : Int32)
          · have hsp := ip hsp c6
            refine lv_tableIn (off := 81) (tgt := 82) hx hb dX7_count_1 (by rw [c6]; decide) (by rw [c6]; decide) (by rw [c6]; rfl) (by decide) ?_
            refine lv_aload_n hx hb dX7_count_82 rfl (lv_at hl 0 rfl) (W.pc 83 rfl ?_)
            refine va_get (D := E.1) (ci := 4) (v := .ref a0_town) (C := RX7) (T := TX7) (N := 15) hx hb hts inT_X7 hown hK hP 0 rfl rfl 0 (by decide) (hts _ w_1_178) (fun _ h9 => h9) rfl dX7_count_83 (W.pc 86 rfl ?_)
            refine va_get (D := E.1) (ci := 3) (v := .int a0_town_markCount) (C := RX6) (T := TX6) (N := 11) hx hb hts inT_X6 hown hK hP 1 rfl rfl 10 (by decide) (hts _ w_1_85) (fun _ h9 => h9) rfl dX7_count_86 (W.pc 89 rfl ?_)
            cases hsp
            exact rWi hX hP hS rfl rfl dX7_count_89
          · have hsp := iq hsp c6
            by_cases c7 : p1 = (5 : Int32)
            · have hsp := ip hsp c7
              refine lv_tableIn (off := 89) (tgt := 90) hx hb dX7_count_1 (by rw [c7]; decide) (by rw [c7]; decide) (by rw [c7]; rfl) (by decide) ?_
              refine lv_aload_n hx hb dX7_count_90 rfl (lv_at hl 0 rfl) (W.pc 91 rfl ?_)
              refine va_get (D := E.1) (ci := 4) (v := .ref a0_town) (C := RX7) (T := TX7) (N := 15) hx hb hts inT_X7 hown hK hP 0 rfl rfl 0 (by decide) (hts _ w_1_178) (fun _ h9 => h9) rfl dX7_count_91 (W.pc 94 rfl ?_)
              refine va_get (D := E.1) (ci := 3) (v := .int a0_town_pasts) (C := RX6) (T := TX6) (N := 11) hx hb hts inT_X6 hown hK hP 1 rfl rfl 4 (by decide) (hts _ w_1_73) (fun _ h9 => h9) rfl dX7_count_94 (W.pc 97 rfl ?_)
              cases hsp
              exact rWi hX hP hS rfl rfl dX7_count_97
            · have hsp := iq hsp c7
              by_cases c8 : p1 = (6 : Int32)
              · have hsp := ip hsp c8
                refine lv_tableIn (off := 97) (tgt := 98) hx hb dX7_count_1 (by rw [c8]; decide) (by rw [c8]; decide) (by rw [c8]; rfl) (by decide) ?_
                refine lv_aload_n hx hb dX7_count_98 rfl (lv_at hl 0 rfl) (W.pc 99 rfl ?_)
                refine va_get (D := E.1) (ci := 4) (v := .ref a0_text) (C := RX7) (T := TX7) (N := 15) hx hb hts inT_X7 hown hK hP 0 rfl rfl 4 (by decide) (hts _ w_1_182) (fun _ h9 => h9) rfl dX7_count_99 (W.pc 102 rfl ?_)
                refine va_get (D := E.1) (ci := 2) (v := .int a0_text_length) (C := RX5) (T := TX5) (N := 6) hx hb hts inT_X5 hown hK hP 4 rfl rfl 1 (by decide) (hts _ w_1_118) (fun _ h9 => h9) rfl dX7_count_102 (W.pc 105 rfl ?_)
                cases hsp
                exact rWi hX hP hS rfl rfl dX7_count_105
              · have hsp := iq hsp c8
                refine lv_tableOut (tgt := 106) hx hb dX7_count_1 (by have := lv_neT c1 (a := 0) rfl; have := lv_neT c3 (a := 1) rfl; have := lv_neT c4 (a := 2) rfl; have := lv_neT c5 (a := 3) rfl; have := lv_neT c6 (a := 4) rfl; have := lv_neT c7 (a := 5) rfl; have := lv_neT c8 (a := 6) rfl;  omega) (by decide) ?_
                refine lv_aload_n hx hb dX7_count_106 rfl (lv_at hl 0 rfl) (W.pc 107 rfl ?_)
                refine lv_bipush (v := (-2 : Int32)) hx hb dX7_count_107 (by decide) (W.pc 109 rfl ?_)
                obtain ⟨z9, hr_z9, hsp⟩ := ltb_s hsp
                refine kVW (st1 := [.int z9.1]) (ws' := [(a0, .inr (4, [.ref a0_town, .ref a0_draft, .ref a0_images, .int a0_imagesKept, .ref a0_text, .ref a0_planner, .ref a0_trial, .ref a0_spread, .ref a0_spreadBehind, .ref a0_tally, .long a0_above, .long a0_below, .int z9.2, .int a0_refusedAsNo, .int a0_refusedAsFull])), (a0_town, .inr (3, [.int a0_town_kind, .ref a0_town_pulls, .ref a0_town_site, .ref a0_town_past, .int a0_town_pasts, .ref a0_town_views, .int a0_town_members, .ref a0_town_notes, .int a0_town_noteCount, .ref a0_town_marks, .int a0_town_markCount])), (a0_town_site, .inr (1, [.int a0_town_site_off, .int a0_town_site_year, .ref a0_town_site_heights, .ref a0_town_site_storeyKinds, .ref a0_town_site_storeyTilts])), (a0_town_site_heights, aI E 6 fa0_town_site_heights), (a0_text, .inr (2, [.ref a0_text_bytes, .int a0_text_length, .int a0_text_token, .int a0_text_start, .int a0_text_behind, .int a0_text_value]))]) [0] hX (c_X7_bad l E a0 a0_town a0_draft a0_images a0_text a0_planner a0_trial a0_spread a0_spreadBehind a0_tally (-2 : Int32) a0_imagesKept a0_above a0_below a0_refusedAsBad a0_refusedAsNo a0_refusedAsFull z9.1 z9.2 hr_z9) B_X7_bad w_1_234 hK hP hD hS hA (by decide) rfl rfl rfl (q0 := 0) (ci := 4) rfl rfl rfl rfl hl.1 rfl (Nat.le_of_ble_eq_true rfl) ⟨Nat.le_of_ble_eq_true rfl, Nat.le_of_ble_eq_true rfl⟩ dX7_count_109 rfl (fun H locs hP hD hS => W.pc 112 rfl ?_)
                cases hsp
                exact rWi hX hP hS rfl rfl dX7_count_112
noncomputable def lp_X7_digest_6 (a0_town_pasts : Int32) (a0_town_members : Int32) (a0_town_noteCount : Int32) (a0_town_markCount : Int32) (a0_town_site_year : Int32) (fa0_town_site_heights : Nat → Int32) (a0_text_length : Int32) : Nat → Int64 → Int32 → Int32 → Option (Int64 × Int32 × Int32)
 | 0, _, _, _ => none
 | fu + 1, x1_6, x3_6, ya0_12_6 => if (6 : Int32) < x3_6 then (some (x1_6, x3_6, ya0_12_6)) else (Option.bind (sp_X7_count x3_6 ya0_12_6 a0_town_pasts a0_town_members a0_town_noteCount a0_town_markCount a0_town_site_year fa0_town_site_heights a0_text_length) fun z3 => lp_X7_digest_6 a0_town_pasts a0_town_members a0_town_noteCount a0_town_markCount a0_town_site_year fa0_town_site_heights a0_text_length fu (((31 : Int64) * x1_6) + (z3.1).toInt64) (x3_6 + (1 : Int32)) z3.2)
noncomputable def sp_X7_digest (a0_above : Int64) (a0_below : Int64) (a0_refusedAsBad : Int32) (a0_town_kind : Int32) (a0_town_pasts : Int32) (a0_town_members : Int32) (a0_town_noteCount : Int32) (a0_town_markCount : Int32) (a0_town_site_off : Int32) (a0_town_site_year : Int32) (fa0_town_site_heights : Nat → Int32) (a0_text_length : Int32) (fa0_town_pulls : Nat → Int32) (fa0_town_site_storeyKinds : Nat → Int32) (fa0_town_site_storeyTilts : Nat → Int32) (fa0_town_views : Nat → Int32) (fa0_town_notes : Nat → Int32) (fa0_town_marks : Nat → Int32) : Option (Int64 × Int32) := Option.bind (lp_X7_digest_6 a0_town_pasts a0_town_members a0_town_noteCount a0_town_markCount a0_town_site_year fa0_town_site_heights a0_text_length FU (1489 : Int64) (0 : Int32) a0_refusedAsBad) fun z1 => Option.bind (sp_X2_digested 6 (((31 : Int64) * (((31 : Int64) * z1.1) + (a0_town_kind).toInt64)) + (a0_town_site_off).toInt64) (6 : Int32) fa0_town_pulls) fun z4 => Option.bind (sp_X3_digested z4 fa0_town_site_heights fa0_town_site_storeyKinds fa0_town_site_storeyTilts) fun z5 => Option.bind (sp_X2_digested 5 z5 a0_town_members fa0_town_views) fun z6 => Option.bind (sp_X2_digested 24 z6 (a0_town_noteCount * (4 : Int32)) fa0_town_notes) fun z7 => Option.bind (sp_X2_digested 30 z7 (a0_town_markCount * (5 : Int32)) fa0_town_marks) fun z8 => some ((((31 : Int64) * (((31 : Int64) * z8) + a0_above)) + a0_below), z1.2.2)
set_option maxHeartbeats 4000000 in
set_option maxRecDepth 100000 in
theorem c_X7_digest (l : Launch) (E : wE) (a0 a0_town a0_draft a0_images a0_text a0_planner a0_trial a0_spread a0_spreadBehind a0_tally a0_town_pulls a0_town_site a0_town_past a0_town_views a0_town_notes a0_town_marks a0_town_site_heights a0_town_site_storeyKinds a0_town_site_storeyTilts a0_text_bytes : Nat) (a0_imagesKept : Int32) (a0_above : Int64) (a0_below : Int64) (a0_refusedAsBad : Int32) (a0_refusedAsNo : Int32) (a0_refusedAsFull : Int32) (a0_town_kind : Int32) (a0_town_pasts : Int32) (a0_town_members : Int32) (a0_town_noteCount : Int32) (a0_town_markCount : Int32) (a0_town_site_off : Int32) (a0_town_site_year : Int32) (fa0_town_site_heights : Nat → Int32) (a0_text_length : Int32) (a0_text_token : Int32) (a0_text_start : Int32) (a0_text_behind : Int32) (a0_text_value : Int32) (fa0_town_pulls : Nat → Int32) (fa0_town_site_storeyKinds : Nat → Int32) (fa0_town_site_storeyTilts : Nat → Int32) (fa0_town_views : Nat → Int32) (fa0_town_notes : Nat → Int32) (fa0_town_marks : Nat → Int32) (z_0 : Int64) (z_1 : Int32) (hsp : sp_X7_digest a0_above a0_below a0_refusedAsBad a0_town_kind a0_town_pasts a0_town_members a0_town_noteCount a0_town_markCount a0_town_site_off a0_town_site_year fa0_town_site_heights a0_text_length fa0_town_pulls fa0_town_site_storeyKinds fa0_town_site_storeyTilts fa0_town_views fa0_town_notes fa0_town_marks = some (z_0, z_1)) : MW l yX7_digest cX7_digest 4 (some .long) 4 E [.ref a0] [(a0, .inr (4, [.ref a0_town, .ref a0_draft, .ref a0_images, .int a0_imagesKept, .ref a0_text, .ref a0_planner, .ref a0_trial, .ref a0_spread, .ref a0_spreadBehind, .ref a0_tally, .long a0_above, .long a0_below, .int a0_refusedAsBad, .int a0_refusedAsNo, .int a0_refusedAsFull])), (a0_town, .inr (3, [.int a0_town_kind, .ref a0_town_pulls, .ref a0_town_site, .ref a0_town_past, .int a0_town_pasts, .ref a0_town_views, .int a0_town_members, .ref a0_town_notes, .int a0_town_noteCount, .ref a0_town_marks, .int a0_town_markCount])), (a0_town_site, .inr (1, [.int a0_town_site_off, .int a0_town_site_year, .ref a0_town_site_heights, .ref a0_town_site_storeyKinds, .ref a0_town_site_storeyTilts])), (a0_town_site_heights, aI E 6 fa0_town_site_heights), (a0_text, .inr (2, [.ref a0_text_bytes, .int a0_text_length, .int a0_text_token, .int a0_text_start, .int a0_text_behind, .int a0_text_value])), (a0_town_pulls, aI E 6 fa0_town_pulls), (a0_town_site_storeyKinds, aI E 30 fa0_town_site_storeyKinds), (a0_town_site_storeyTilts, aI E 30 fa0_town_site_storeyTilts), (a0_town_views, aI E 5 fa0_town_views), (a0_town_notes, aI E 24 fa0_town_notes), (a0_town_marks, aI E 30 fa0_town_marks)] (some (.long z_0)) [(a0, .inr (4, [.ref a0_town, .ref a0_draft, .ref a0_images, .int a0_imagesKept, .ref a0_text, .ref a0_planner, .ref a0_trial, .ref a0_spread, .ref a0_spreadBehind, .ref a0_tally, .long a0_above, .long a0_below, .int z_1, .int a0_refusedAsNo, .int a0_refusedAsFull])), (a0_town, .inr (3, [.int a0_town_kind, .ref a0_town_pulls, .ref a0_town_site, .ref a0_town_past, .int a0_town_pasts, .ref a0_town_views, .int a0_town_members, .ref a0_town_notes, .int a0_town_noteCount, .ref a0_town_marks, .int a0_town_markCount])), (a0_town_site, .inr (1, [.int a0_town_site_off, .int a0_town_site_year, .ref a0_town_site_heights, .ref a0_town_site_storeyKinds, .ref a0_town_site_storeyTilts])), (a0_town_site_heights, aI E 6 fa0_town_site_heights), (a0_text, .inr (2, [.ref a0_text_bytes, .int a0_text_length, .int a0_text_token, .int a0_text_start, .int a0_text_behind, .int a0_text_value])), (a0_town_pulls, aI E 6 fa0_town_pulls), (a0_town_site_storeyKinds, aI E 30 fa0_town_site_storeyKinds), (a0_town_site_storeyTilts, aI E 30 fa0_town_site_storeyTilts), (a0_town_views, aI E 5 fa0_town_views), (a0_town_notes, aI E 24 fa0_town_notes), (a0_town_marks, aI E 30 fa0_town_marks)] := by
  refine MW.of (by decide +kernel) (Nat.le_of_ble_eq_true rfl) ?_
  intro p e s m below meth c ls A hX hK hP hD hS hA hl
  have hX : CX p s m [.ref a0].toArray meth c cX7_digest 4 (some .long) RX7 := hX
  have hx := hX.1; have hb := hX.2.1; have hts := hX.2.2.2.2.1; have hown := hX.2.2.2.2.2.1
  have hl : lv_has ls 4 [(0, .ref a0)] := hl
  have hP : wP E [(a0, .inr (4, [.ref a0_town, .ref a0_draft, .ref a0_images, .int a0_imagesKept, .ref a0_text, .ref a0_planner, .ref a0_trial, .ref a0_spread, .ref a0_spreadBehind, .ref a0_tally, .long a0_above, .long a0_below, .int a0_refusedAsBad, .int a0_refusedAsNo, .int a0_refusedAsFull])), (a0_town, .inr (3, [.int a0_town_kind, .ref a0_town_pulls, .ref a0_town_site, .ref a0_town_past, .int a0_town_pasts, .ref a0_town_views, .int a0_town_members, .ref a0_town_notes, .int a0_town_noteCount, .ref a0_town_marks, .int a0_town_markCount])), (a0_town_site, .inr (1, [.int a0_town_site_off, .int a0_town_site_year, .ref a0_town_site_heights, .ref a0_town_site_storeyKinds, .ref a0_town_site_storeyTilts])), (a0_town_site_heights, aI E 6 fa0_town_site_heights), (a0_text, .inr (2, [.ref a0_text_bytes, .int a0_text_length, .int a0_text_token, .int a0_text_start, .int a0_text_behind, .int a0_text_value])), (a0_town_pulls, aI E 6 fa0_town_pulls), (a0_town_site_storeyKinds, aI E 30 fa0_town_site_storeyKinds), (a0_town_site_storeyTilts, aI E 30 fa0_town_site_storeyTilts), (a0_town_views, aI E 5 fa0_town_views), (a0_town_notes, aI E 24 fa0_town_notes), (a0_town_marks, aI E 30 fa0_town_marks)] s.heap := hP
  have hsp : (Option.bind (lp_X7_digest_6 a0_town_pasts a0_town_members a0_town_noteCount a0_town_markCount a0_town_site_year fa0_town_site_heights a0_text_length FU (1489 : Int64) (0 : Int32) a0_refusedAsBad) fun z1 => Option.bind (sp_X2_digested 6 (((31 : Int64) * (((31 : Int64) * z1.1) + (a0_town_kind).toInt64)) + (a0_town_site_off).toInt64) (6 : Int32) fa0_town_pulls) fun z4 => Option.bind (sp_X3_digested z4 fa0_town_site_heights fa0_town_site_storeyKinds fa0_town_site_storeyTilts) fun z5 => Option.bind (sp_X2_digested 5 z5 a0_town_members fa0_town_views) fun z6 => Option.bind (sp_X2_digested 24 z6 (a0_town_noteCount * (4 : Int32)) fa0_town_notes) fun z7 => Option.bind (sp_X2_digested 30 z7 (a0_town_markCount * (5 : Int32)) fa0_town_marks) fun z8 => some ((((31 : Int64) * (((31 : Int64) * z8) + a0_above)) + a0_below), z1.2.2)) = some (z_0, z_1) := hsp
  refine lv_ldc2 (v := (1489 : Int64)) hx hb hown (hts _ w_4_50) dX7_digest_0 (W.pc 3 rfl ?_)
  refine lv_lstore_n (lv' := [(1, .long (1489 : Int64)), (0, .ref a0)]) hx hb dX7_digest_3 rfl hl (by decide) rfl (fun ls hl => W.pc 4 rfl ?_)
  refine lv_iconst (v := (0 : Int32)) hx hb dX7_digest_4 (by decide) (W.pc 5 rfl ?_)
  refine lv_istore_n (lv' := [(3, .int (0 : Int32)), (1, .long (1489 : Int64)), (0, .ref a0)]) hx hb dX7_digest_5 rfl hl (by decide) rfl (fun ls hl => W.pc 6 rfl ?_)
  have L_6 : ∀ (z1 : Int64 × Int32 × Int32), (∀ (H : Heap) (locs : List Loc) (ls : Array Slot), wP E [(a0, .inr (4, [.ref a0_town, .ref a0_draft, .ref a0_images, .int a0_imagesKept, .ref a0_text, .ref a0_planner, .ref a0_trial, .ref a0_spread, .ref a0_spreadBehind, .ref a0_tally, .long a0_above, .long a0_below, .int z1.2.2, .int a0_refusedAsNo, .int a0_refusedAsFull])), (a0_town, .inr (3, [.int a0_town_kind, .ref a0_town_pulls, .ref a0_town_site, .ref a0_town_past, .int a0_town_pasts, .ref a0_town_views, .int a0_town_members, .ref a0_town_notes, .int a0_town_noteCount, .ref a0_town_marks, .int a0_town_markCount])), (a0_town_site, .inr (1, [.int a0_town_site_off, .int a0_town_site_year, .ref a0_town_site_heights, .ref a0_town_site_storeyKinds, .ref a0_town_site_storeyTilts])), (a0_town_site_heights, aI E 6 fa0_town_site_heights), (a0_text, .inr (2, [.ref a0_text_bytes, .int a0_text_length, .int a0_text_token, .int a0_text_start, .int a0_text_behind, .int a0_text_value])), (a0_town_pulls, aI E 6 fa0_town_pulls), (a0_town_site_storeyKinds, aI E 30 fa0_town_site_storeyKinds), (a0_town_site_storeyTilts, aI E 30 fa0_town_site_storeyTilts), (a0_town_views, aI E 5 fa0_town_views), (a0_town_notes, aI E 24 fa0_town_notes), (a0_town_marks, aI E 30 fa0_town_marks)] H → va_D A [(a0, .inr (4, [.ref a0_town, .ref a0_draft, .ref a0_images, .int a0_imagesKept, .ref a0_text, .ref a0_planner, .ref a0_trial, .ref a0_spread, .ref a0_spreadBehind, .ref a0_tally, .long a0_above, .long a0_below, .int z1.2.2, .int a0_refusedAsNo, .int a0_refusedAsFull])), (a0_town, .inr (3, [.int a0_town_kind, .ref a0_town_pulls, .ref a0_town_site, .ref a0_town_past, .int a0_town_pasts, .ref a0_town_views, .int a0_town_members, .ref a0_town_notes, .int a0_town_noteCount, .ref a0_town_marks, .int a0_town_markCount])), (a0_town_site, .inr (1, [.int a0_town_site_off, .int a0_town_site_year, .ref a0_town_site_heights, .ref a0_town_site_storeyKinds, .ref a0_town_site_storeyTilts])), (a0_town_site_heights, aI E 6 fa0_town_site_heights), (a0_text, .inr (2, [.ref a0_text_bytes, .int a0_text_length, .int a0_text_token, .int a0_text_start, .int a0_text_behind, .int a0_text_value])), (a0_town_pulls, aI E 6 fa0_town_pulls), (a0_town_site_storeyKinds, aI E 30 fa0_town_site_storeyKinds), (a0_town_site_storeyTilts, aI E 30 fa0_town_site_storeyTilts), (a0_town_views, aI E 5 fa0_town_views), (a0_town_notes, aI E 24 fa0_town_notes), (a0_town_marks, aI E 30 fa0_town_marks)] → va_S A s.heap H locs → lv_has ls 4 [(0, .ref a0), (1, .long z1.1)] → W p l e (wR 4) s m [.ref a0].toArray below meth c H locs 0 0 (MQ below (QWd E A (some (.long z_0)) [(a0, .inr (4, [.ref a0_town, .ref a0_draft, .ref a0_images, .int a0_imagesKept, .ref a0_text, .ref a0_planner, .ref a0_trial, .ref a0_spread, .ref a0_spreadBehind, .ref a0_tally, .long a0_above, .long a0_below, .int z_1, .int a0_refusedAsNo, .int a0_refusedAsFull])), (a0_town, .inr (3, [.int a0_town_kind, .ref a0_town_pulls, .ref a0_town_site, .ref a0_town_past, .int a0_town_pasts, .ref a0_town_views, .int a0_town_members, .ref a0_town_notes, .int a0_town_noteCount, .ref a0_town_marks, .int a0_town_markCount])), (a0_town_site, .inr (1, [.int a0_town_site_off, .int a0_town_site_year, .ref a0_town_site_heights, .ref a0_town_site_storeyKinds, .ref a0_town_site_storeyTilts])), (a0_town_site_heights, aI E 6 fa0_town_site_heights), (a0_text, .inr (2, [.ref a0_text_bytes, .int a0_text_length, .int a0_text_token, .int a0_text_start, .int a0_text_behind, .int a0_text_value])), (a0_town_pulls, aI E 6 fa0_town_pulls), (a0_town_site_storeyKinds, aI E 30 fa0_town_site_storeyKinds), (a0_town_site_storeyTilts, aI E 30 fa0_town_site_storeyTilts), (a0_town_views, aI E 5 fa0_town_views), (a0_town_notes, aI E 24 fa0_town_notes), (a0_town_marks, aI E 30 fa0_town_marks)]) [.ref a0].toArray s 0 0 A) (F0 m 31 ls [])) → ∀ (fu : Nat) (x1_6 : Int64) (x3_6 : Int32) (ya0_12_6 : Int32), ∀ (H : Heap) (locs : List Loc) (ls : Array Slot), wP E [(a0, .inr (4, [.ref a0_town, .ref a0_draft, .ref a0_images, .int a0_imagesKept, .ref a0_text, .ref a0_planner, .ref a0_trial, .ref a0_spread, .ref a0_spreadBehind, .ref a0_tally, .long a0_above, .long a0_below, .int ya0_12_6, .int a0_refusedAsNo, .int a0_refusedAsFull])), (a0_town, .inr (3, [.int a0_town_kind, .ref a0_town_pulls, .ref a0_town_site, .ref a0_town_past, .int a0_town_pasts, .ref a0_town_views, .int a0_town_members, .ref a0_town_notes, .int a0_town_noteCount, .ref a0_town_marks, .int a0_town_markCount])), (a0_town_site, .inr (1, [.int a0_town_site_off, .int a0_town_site_year, .ref a0_town_site_heights, .ref a0_town_site_storeyKinds, .ref a0_town_site_storeyTilts])), (a0_town_site_heights, aI E 6 fa0_town_site_heights), (a0_text, .inr (2, [.ref a0_text_bytes, .int a0_text_length, .int a0_text_token, .int a0_text_start, .int a0_text_behind, .int a0_text_value])), (a0_town_pulls, aI E 6 fa0_town_pulls), (a0_town_site_storeyKinds, aI E 30 fa0_town_site_storeyKinds), (a0_town_site_storeyTilts, aI E 30 fa0_town_site_storeyTilts), (a0_town_views, aI E 5 fa0_town_views), (a0_town_notes, aI E 24 fa0_town_notes), (a0_town_marks, aI E 30 fa0_town_marks)] H → va_D A [(a0, .inr (4, [.ref a0_town, .ref a0_draft, .ref a0_images, .int a0_imagesKept, .ref a0_text, .ref a0_planner, .ref a0_trial, .ref a0_spread, .ref a0_spreadBehind, .ref a0_tally, .long a0_above, .long a0_below, .int ya0_12_6, .int a0_refusedAsNo, .int a0_refusedAsFull])), (a0_town, .inr (3, [.int a0_town_kind, .ref a0_town_pulls, .ref a0_town_site, .ref a0_town_past, .int a0_town_pasts, .ref a0_town_views, .int a0_town_members, .ref a0_town_notes, .int a0_town_noteCount, .ref a0_town_marks, .int a0_town_markCount])), (a0_town_site, .inr (1, [.int a0_town_site_off, .int a0_town_site_year, .ref a0_town_site_heights, .ref a0_town_site_storeyKinds, .ref a0_town_site_storeyTilts])), (a0_town_site_heights, aI E 6 fa0_town_site_heights), (a0_text, .inr (2, [.ref a0_text_bytes, .int a0_text_length, .int a0_text_token, .int a0_text_start, .int a0_text_behind, .int a0_text_value])), (a0_town_pulls, aI E 6 fa0_town_pulls), (a0_town_site_storeyKinds, aI E 30 fa0_town_site_storeyKinds), (a0_town_site_storeyTilts, aI E 30 fa0_town_site_storeyTilts), (a0_town_views, aI E 5 fa0_town_views), (a0_town_notes, aI E 24 fa0_town_notes), (a0_town_marks, aI E 30 fa0_town_marks)] → va_S A s.heap H locs → lv_has ls 4 [(0, .ref a0), (1, .long x1_6), (3, .int x3_6)] → lp_X7_digest_6 a0_town_pasts a0_town_members a0_town_noteCount a0_town_markCount a0_town_site_year fa0_town_site_heights a0_text_length fu x1_6 x3_6 ya0_12_6 = some z1 → W p l e (wR 4) s m [.ref a0].toArray below meth c H locs 0 0 (MQ below (QWd E A (some (.long z_0)) [(a0, .inr (4, [.ref a0_town, .ref a0_draft, .ref a0_images, .int a0_imagesKept, .ref a0_text, .ref a0_planner, .ref a0_trial, .ref a0_spread, .ref a0_spreadBehind, .ref a0_tally, .long a0_above, .long a0_below, .int z_1, .int a0_refusedAsNo, .int a0_refusedAsFull])), (a0_town, .inr (3, [.int a0_town_kind, .ref a0_town_pulls, .ref a0_town_site, .ref a0_town_past, .int a0_town_pasts, .ref a0_town_views, .int a0_town_members, .ref a0_town_notes, .int a0_town_noteCount, .ref a0_town_marks, .int a0_town_markCount])), (a0_town_site, .inr (1, [.int a0_town_site_off, .int a0_town_site_year, .ref a0_town_site_heights, .ref a0_town_site_storeyKinds, .ref a0_town_site_storeyTilts])), (a0_town_site_heights, aI E 6 fa0_town_site_heights), (a0_text, .inr (2, [.ref a0_text_bytes, .int a0_text_length, .int a0_text_token, .int a0_text_start, .int a0_text_behind, .int a0_text_value])), (a0_town_pulls, aI E 6 fa0_town_pulls), (a0_town_site_storeyKinds, aI E 30 fa0_town_site_storeyKinds), (a0_town_site_storeyTilts, aI E 30 fa0_town_site_storeyTilts), (a0_town_views, aI E 5 fa0_town_views), (a0_town_notes, aI E 24 fa0_town_notes), (a0_town_marks, aI E 30 fa0_town_marks)]) [.ref a0].toArray s 0 0 A) (F0 m 6 ls []) := by
    intro z1 hk_6 fu
    induction fu with
    | zero => intro x1_6 x3_6 ya0_12_6 H locs ls hP hD hS hl hsp; exact absurd (show none = some _ from hsp) (by simp)
    | succ fu ih_6 =>
      intro x1_6 x3_6 ya0_12_6 H locs ls hP hD hS hl hsp
      have hsp : (if (6 : Int32) < x3_6 then (some (x1_6, x3_6, ya0_12_6)) else (Option.bind (sp_X7_count x3_6 ya0_12_6 a0_town_pasts a0_town_members a0_town_noteCount a0_town_markCount a0_town_site_year fa0_town_site_heights a0_text_length) fun z3 => lp_X7_digest_6 a0_town_pasts a0_town_members a0_town_noteCount a0_town_markCount a0_town_site_year fa0_town_site_heights a0_text_length fu (((31 : Int64) * x1_6) + (z3.1).toInt64) (x3_6 + (1 : Int32)) z3.2)) = some z1 := hsp
      refine lv_iload_n hx hb dX7_digest_6 rfl (lv_at hl 2 rfl) (W.pc 7 rfl ?_)
      refine lv_bipush (v := (6 : Int32)) hx hb dX7_digest_7 (by decide) (W.pc 9 rfl ?_)
      refine lv_icmp_gt (tgt := 31) hx hb dX7_digest_9 (by decide) (fun c2 => ?_) (fun c2 => W.pc 12 rfl ?_)
      · have hsp := ip hsp c2
        obtain rfl := Option.some.inj hsp
        exact hk_6 _ _ _ hP hD hS (lv_sub hl [0, 1] rfl)
      · have hsp := iq hsp c2
        refine lv_ldc2 (v := (31 : Int64)) hx hb hown (hts _ w_4_51) dX7_digest_12 (W.pc 15 rfl ?_)
        refine lv_lload_n hx hb dX7_digest_15 rfl (lv_at hl 1 rfl) (W.pc 16 rfl ?_)
        refine lv_lmul hx hb dX7_digest_16 (W.pc 17 rfl ?_)
        refine lv_aload_n hx hb dX7_digest_17 rfl (lv_at hl 0 rfl) (W.pc 18 rfl ?_)
        refine lv_iload_n hx hb dX7_digest_18 rfl (lv_at hl 2 rfl) (W.pc 19 rfl ?_)
        obtain ⟨z3, hr_z3, hsp⟩ := bd_s hsp
        refine kVW (st1 := [.int z3.1, .long ((31 : Int64) * x1_6)]) (ws' := [(a0, .inr (4, [.ref a0_town, .ref a0_draft, .ref a0_images, .int a0_imagesKept, .ref a0_text, .ref a0_planner, .ref a0_trial, .ref a0_spread, .ref a0_spreadBehind, .ref a0_tally, .long a0_above, .long a0_below, .int z3.2, .int a0_refusedAsNo, .int a0_refusedAsFull])), (a0_town, .inr (3, [.int a0_town_kind, .ref a0_town_pulls, .ref a0_town_site, .ref a0_town_past, .int a0_town_pasts, .ref a0_town_views, .int a0_town_members, .ref a0_town_notes, .int a0_town_noteCount, .ref a0_town_marks, .int a0_town_markCount])), (a0_town_site, .inr (1, [.int a0_town_site_off, .int a0_town_site_year, .ref a0_town_site_heights, .ref a0_town_site_storeyKinds, .ref a0_town_site_storeyTilts])), (a0_town_site_heights, aI E 6 fa0_town_site_heights), (a0_text, .inr (2, [.ref a0_text_bytes, .int a0_text_length, .int a0_text_token, .int a0_text_start, .int a0_text_behind, .int a0_text_value])), (a0_town_pulls, aI E 6 fa0_town_pulls), (a0_town_site_storeyKinds, aI E 30 fa0_town_site_storeyKinds), (a0_town_site_storeyTilts, aI E 30 fa0_town_site_storeyTilts), (a0_town_views, aI E 5 fa0_town_views), (a0_town_notes, aI E 24 fa0_town_notes), (a0_town_marks, aI E 30 fa0_town_marks)]) [0, 1, 2, 3, 4] hX (c_X7_count l E a0 a0_town a0_draft a0_images a0_text a0_planner a0_trial a0_spread a0_spreadBehind a0_tally a0_town_pulls a0_town_site a0_town_past a0_town_views a0_town_notes a0_town_marks a0_town_site_heights a0_town_site_storeyKinds a0_town_site_storeyTilts a0_text_bytes x3_6 a0_imagesKept a0_above a0_below ya0_12_6 a0_refusedAsNo a0_refusedAsFull a0_town_kind a0_town_pasts a0_town_members a0_town_noteCount a0_town_markCount a0_town_site_off a0_town_site_year fa0_town_site_heights a0_text_length a0_text_token a0_text_start a0_text_behind a0_text_value z3.1 z3.2 hr_z3) B_X7_count w_4_52 hK hP hD hS hA (by decide) rfl rfl rfl (q0 := 0) (ci := 4) rfl rfl rfl rfl hl.1 rfl (Nat.le_of_ble_eq_true rfl) ⟨Nat.le_of_ble_eq_true rfl, Nat.le_of_ble_eq_true rfl⟩ dX7_digest_19 rfl (fun H locs hP hD hS => W.pc 22 rfl ?_)
        refine lv_i2l (v := (z3.1).toInt64) hx hb dX7_digest_22 rfl (W.pc 23 rfl ?_)
        refine lv_ladd hx hb dX7_digest_23 (W.pc 24 rfl ?_)
        refine lv_lstore_n (lv' := [(1, .long (((31 : Int64) * x1_6) + (z3.1).toInt64)), (0, .ref a0), (3, .int x3_6)]) hx hb dX7_digest_24 rfl hl (by decide) rfl (fun ls hl => W.pc 25 rfl ?_)
        refine lv_iinc (v := (x3_6 + (1 : Int32))) (lv' := [(3, .int (x3_6 + (1 : Int32))), (1, .long (((31 : Int64) * x1_6) + (z3.1).toInt64)), (0, .ref a0)]) hx hb dX7_digest_25 hl (k := 2) rfl rfl (by decide) rfl (fun ls hl => W.pc 28 rfl ?_)
        refine lv_goto (tgt := 6) hx hb dX7_digest_28 (by decide) ?_
        exact ih_6 (((31 : Int64) * x1_6) + (z3.1).toInt64) (x3_6 + (1 : Int32)) z3.2 _ _ _ hP hD hS (lv_sub hl [2, 1, 0] rfl) hsp
  obtain ⟨z1, hr_z1, hsp⟩ := bd_s hsp
  refine L_6 z1 (fun H locs ls hP hD hS hl => ?_) FU (1489 : Int64) (0 : Int32) a0_refusedAsBad _ _ _ hP hD hS (lv_sub hl [2, 1, 0] rfl) hr_z1
  refine lv_ldc2 (v := (31 : Int64)) hx hb hown (hts _ w_4_51) dX7_digest_31 (W.pc 34 rfl ?_)
  refine lv_lload_n hx hb dX7_digest_34 rfl (lv_at hl 1 rfl) (W.pc 35 rfl ?_)
  refine lv_lmul hx hb dX7_digest_35 (W.pc 36 rfl ?_)
  refine lv_aload_n hx hb dX7_digest_36 rfl (lv_at hl 0 rfl) (W.pc 37 rfl ?_)
  refine va_get (D := E.1) (ci := 4) (v := .ref a0_town) (C := RX7) (T := TX7) (N := 15) hx hb hts inT_X7 hown hK hP 0 rfl rfl 0 (by decide) (hts _ w_1_178) (fun _ h9 => h9) rfl dX7_digest_37 (W.pc 40 rfl ?_)
  refine va_get (D := E.1) (ci := 3) (v := .int a0_town_kind) (C := RX6) (T := TX6) (N := 11) hx hb hts inT_X6 hown hK hP 1 rfl rfl 0 (by decide) (hts _ w_1_63) (fun _ h9 => h9) rfl dX7_digest_40 (W.pc 43 rfl ?_)
  refine lv_i2l (v := (a0_town_kind).toInt64) hx hb dX7_digest_43 rfl (W.pc 44 rfl ?_)
  refine lv_ladd hx hb dX7_digest_44 (W.pc 45 rfl ?_)
  refine lv_lstore_n (lv' := [(1, .long (((31 : Int64) * z1.1) + (a0_town_kind).toInt64)), (0, .ref a0)]) hx hb dX7_digest_45 rfl hl (by decide) rfl (fun ls hl => W.pc 46 rfl ?_)
  refine lv_ldc2 (v := (31 : Int64)) hx hb hown (hts _ w_4_51) dX7_digest_46 (W.pc 49 rfl ?_)
  refine lv_lload_n hx hb dX7_digest_49 rfl (lv_at hl 0 rfl) (W.pc 50 rfl ?_)
  refine lv_lmul hx hb dX7_digest_50 (W.pc 51 rfl ?_)
  refine lv_aload_n hx hb dX7_digest_51 rfl (lv_at hl 1 rfl) (W.pc 52 rfl ?_)
  refine va_get (D := E.1) (ci := 4) (v := .ref a0_town) (C := RX7) (T := TX7) (N := 15) hx hb hts inT_X7 hown hK hP 0 rfl rfl 0 (by decide) (hts _ w_1_178) (fun _ h9 => h9) rfl dX7_digest_52 (W.pc 55 rfl ?_)
  refine va_get (D := E.1) (ci := 3) (v := .ref a0_town_site) (C := RX6) (T := TX6) (N := 11) hx hb hts inT_X6 hown hK hP 1 rfl rfl 2 (by decide) (hts _ w_1_68) (fun _ h9 => h9) rfl dX7_digest_55 (W.pc 58 rfl ?_)
  refine va_get (D := E.1) (ci := 1) (v := .int a0_town_site_off) (C := RX3) (T := TX3) (N := 5) hx hb hts inT_X3 hown hK hP 2 rfl rfl 0 (by decide) (hts _ w_1_40) (fun _ h9 => h9) rfl dX7_digest_58 (W.pc 61 rfl ?_)
  refine lv_i2l (v := (a0_town_site_off).toInt64) hx hb dX7_digest_61 rfl (W.pc 62 rfl ?_)
  refine lv_ladd hx hb dX7_digest_62 (W.pc 63 rfl ?_)
  refine lv_lstore_n (lv' := [(1, .long (((31 : Int64) * (((31 : Int64) * z1.1) + (a0_town_kind).toInt64)) + (a0_town_site_off).toInt64)), (0, .ref a0)]) hx hb dX7_digest_63 rfl hl (by decide) rfl (fun ls hl => W.pc 64 rfl ?_)
  refine lv_lload_n hx hb dX7_digest_64 rfl (lv_at hl 0 rfl) (W.pc 65 rfl ?_)
  refine lv_aload_n hx hb dX7_digest_65 rfl (lv_at hl 1 rfl) (W.pc 66 rfl ?_)
  refine va_get (D := E.1) (ci := 4) (v := .ref a0_town) (C := RX7) (T := TX7) (N := 15) hx hb hts inT_X7 hown hK hP 0 rfl rfl 0 (by decide) (hts _ w_1_178) (fun _ h9 => h9) rfl dX7_digest_66 (W.pc 69 rfl ?_)
  refine va_get (D := E.1) (ci := 3) (v := .ref a0_town_pulls) (C := RX6) (T := TX6) (N := 11) hx hb hts inT_X6 hown hK hP 1 rfl rfl 1 (by decide) (hts _ w_1_65) (fun _ h9 => h9) rfl dX7_digest_69 (W.pc 72 rfl ?_)
  refine lv_bipush (v := (6 : Int32)) hx hb dX7_digest_72 (by decide) (W.pc 74 rfl ?_)
  obtain ⟨z4, hr_z4, hsp⟩ := bd_s hsp
  refine kSR (st1 := [.long z4]) hX (c_X2_digested l E a0_town_pulls 6 (by decide) (((31 : Int64) * (((31 : Int64) * z1.1) + (a0_town_kind).toInt64)) + (a0_town_site_off).toInt64) (6 : Int32) fa0_town_pulls z4 hr_z4) B_X2_digested w_4_53 hK (hP.pick [5] rfl) rfl hl.1 rfl (Nat.le_of_ble_eq_true rfl) ⟨Nat.le_of_ble_eq_true rfl, Nat.le_of_ble_eq_true rfl⟩ dX7_digest_74 rfl (W.pc 77 rfl ?_)
  refine lv_lstore_n (lv' := [(1, .long z4), (0, .ref a0)]) hx hb dX7_digest_77 rfl hl (by decide) rfl (fun ls hl => W.pc 78 rfl ?_)
  refine lv_aload_n hx hb dX7_digest_78 rfl (lv_at hl 1 rfl) (W.pc 79 rfl ?_)
  refine va_get (D := E.1) (ci := 4) (v := .ref a0_town) (C := RX7) (T := TX7) (N := 15) hx hb hts inT_X7 hown hK hP 0 rfl rfl 0 (by decide) (hts _ w_1_178) (fun _ h9 => h9) rfl dX7_digest_79 (W.pc 82 rfl ?_)
  refine va_get (D := E.1) (ci := 3) (v := .ref a0_town_site) (C := RX6) (T := TX6) (N := 11) hx hb hts inT_X6 hown hK hP 1 rfl rfl 2 (by decide) (hts _ w_1_68) (fun _ h9 => h9) rfl dX7_digest_82 (W.pc 85 rfl ?_)
  refine lv_lload_n hx hb dX7_digest_85 rfl (lv_at hl 0 rfl) (W.pc 86 rfl ?_)
  obtain ⟨z5, hr_z5, hsp⟩ := bd_s hsp
  refine kVR (st1 := [.long z5]) hX (c_X3_digested l E a0_town_site a0_town_site_heights a0_town_site_storeyKinds a0_town_site_storeyTilts z4 a0_town_site_off a0_town_site_year fa0_town_site_heights fa0_town_site_storeyKinds fa0_town_site_storeyTilts z5 hr_z5) B_X3_digested w_4_57 hK (hP.pick [2, 3, 6, 7] rfl) (q0 := 0) (ci := 1) rfl rfl rfl rfl hl.1 rfl (Nat.le_of_ble_eq_true rfl) ⟨Nat.le_of_ble_eq_true rfl, Nat.le_of_ble_eq_true rfl⟩ dX7_digest_86 rfl (W.pc 89 rfl ?_)
  refine lv_lstore_n (lv' := [(1, .long z5), (0, .ref a0)]) hx hb dX7_digest_89 rfl hl (by decide) rfl (fun ls hl => W.pc 90 rfl ?_)
  refine lv_lload_n hx hb dX7_digest_90 rfl (lv_at hl 0 rfl) (W.pc 91 rfl ?_)
  refine lv_aload_n hx hb dX7_digest_91 rfl (lv_at hl 1 rfl) (W.pc 92 rfl ?_)
  refine va_get (D := E.1) (ci := 4) (v := .ref a0_town) (C := RX7) (T := TX7) (N := 15) hx hb hts inT_X7 hown hK hP 0 rfl rfl 0 (by decide) (hts _ w_1_178) (fun _ h9 => h9) rfl dX7_digest_92 (W.pc 95 rfl ?_)
  refine va_get (D := E.1) (ci := 3) (v := .ref a0_town_views) (C := RX6) (T := TX6) (N := 11) hx hb hts inT_X6 hown hK hP 1 rfl rfl 5 (by decide) (hts _ w_1_75) (fun _ h9 => h9) rfl dX7_digest_95 (W.pc 98 rfl ?_)
  refine lv_aload_n hx hb dX7_digest_98 rfl (lv_at hl 1 rfl) (W.pc 99 rfl ?_)
  refine va_get (D := E.1) (ci := 4) (v := .ref a0_town) (C := RX7) (T := TX7) (N := 15) hx hb hts inT_X7 hown hK hP 0 rfl rfl 0 (by decide) (hts _ w_1_178) (fun _ h9 => h9) rfl dX7_digest_99 (W.pc 102 rfl ?_)
  refine va_get (D := E.1) (ci := 3) (v := .int a0_town_members) (C := RX6) (T := TX6) (N := 11) hx hb hts inT_X6 hown hK hP 1 rfl rfl 6 (by decide) (hts _ w_1_77) (fun _ h9 => h9) rfl dX7_digest_102 (W.pc 105 rfl ?_)
  obtain ⟨z6, hr_z6, hsp⟩ := bd_s hsp
  refine kSR (st1 := [.long z6]) hX (c_X2_digested l E a0_town_views 5 (by decide) z5 a0_town_members fa0_town_views z6 hr_z6) B_X2_digested w_4_53 hK (hP.pick [8] rfl) rfl hl.1 rfl (Nat.le_of_ble_eq_true rfl) ⟨Nat.le_of_ble_eq_true rfl, Nat.le_of_ble_eq_true rfl⟩ dX7_digest_105 rfl (W.pc 108 rfl ?_)
  refine lv_lstore_n (lv' := [(1, .long z6), (0, .ref a0)]) hx hb dX7_digest_108 rfl hl (by decide) rfl (fun ls hl => W.pc 109 rfl ?_)
  refine lv_lload_n hx hb dX7_digest_109 rfl (lv_at hl 0 rfl) (W.pc 110 rfl ?_)
  refine lv_aload_n hx hb dX7_digest_110 rfl (lv_at hl 1 rfl) (W.pc 111 rfl ?_)
  refine va_get (D := E.1) (ci := 4) (v := .ref a0_town) (C := RX7) (T := TX7) (N := 15) hx hb hts inT_X7 hown hK hP 0 rfl rfl 0 (by decide) (hts _ w_1_178) (fun _ h9 => h9) rfl dX7_digest_111 (W.pc 114 rfl ?_)
  refine va_get (D := E.1) (ci := 3) (v := .ref a0_town_notes) (C := RX6) (T := TX6) (N := 11) hx hb hts inT_X6 hown hK hP 1 rfl rfl 7 (by decide) (hts _ w_1_79) (fun _ h9 => h9) rfl dX7_digest_114 (W.pc 117 rfl ?_)
  refine lv_aload_n hx hb dX7_digest_117 rfl (lv_at hl 1 rfl) (W.pc 118 rfl ?_)
  refine va_get (D := E.1) (ci := 4) (v := .ref a0_town) (C := RX7) (T := TX7) (N := 15) hx hb hts inT_X7 hown hK hP 0 rfl rfl 0 (by decide) (hts _ w_1_178) (fun _ h9 => h9) rfl dX7_digest_118 (W.pc 121 rfl ?_)
  refine va_get (D := E.1) (ci := 3) (v := .int a0_town_noteCount) (C := RX6) (T := TX6) (N := 11) hx hb hts inT_X6 hown hK hP 1 rfl rfl 8 (by decide) (hts _ w_1_81) (fun _ h9 => h9) rfl dX7_digest_121 (W.pc 124 rfl ?_)
  refine lv_iconst (v := (4 : Int32)) hx hb dX7_digest_124 (by decide) (W.pc 125 rfl ?_)
  refine lv_imul hx hb dX7_digest_125 (W.pc 126 rfl ?_)
  obtain ⟨z7, hr_z7, hsp⟩ := bd_s hsp
  refine kSR (st1 := [.long z7]) hX (c_X2_digested l E a0_town_notes 24 (by decide) z6 (a0_town_noteCount * (4 : Int32)) fa0_town_notes z7 hr_z7) B_X2_digested w_4_53 hK (hP.pick [9] rfl) rfl hl.1 rfl (Nat.le_of_ble_eq_true rfl) ⟨Nat.le_of_ble_eq_true rfl, Nat.le_of_ble_eq_true rfl⟩ dX7_digest_126 rfl (W.pc 129 rfl ?_)
  refine lv_lstore_n (lv' := [(1, .long z7), (0, .ref a0)]) hx hb dX7_digest_129 rfl hl (by decide) rfl (fun ls hl => W.pc 130 rfl ?_)
  refine lv_lload_n hx hb dX7_digest_130 rfl (lv_at hl 0 rfl) (W.pc 131 rfl ?_)
  refine lv_aload_n hx hb dX7_digest_131 rfl (lv_at hl 1 rfl) (W.pc 132 rfl ?_)
  refine va_get (D := E.1) (ci := 4) (v := .ref a0_town) (C := RX7) (T := TX7) (N := 15) hx hb hts inT_X7 hown hK hP 0 rfl rfl 0 (by decide) (hts _ w_1_178) (fun _ h9 => h9) rfl dX7_digest_132 (W.pc 135 rfl ?_)
  refine va_get (D := E.1) (ci := 3) (v := .ref a0_town_marks) (C := RX6) (T := TX6) (N := 11) hx hb hts inT_X6 hown hK hP 1 rfl rfl 9 (by decide) (hts _ w_1_83) (fun _ h9 => h9) rfl dX7_digest_135 (W.pc 138 rfl ?_)
  refine lv_aload_n hx hb dX7_digest_138 rfl (lv_at hl 1 rfl) (W.pc 139 rfl ?_)
  refine va_get (D := E.1) (ci := 4) (v := .ref a0_town) (C := RX7) (T := TX7) (N := 15) hx hb hts inT_X7 hown hK hP 0 rfl rfl 0 (by decide) (hts _ w_1_178) (fun _ h9 => h9) rfl dX7_digest_139 (W.pc 142 rfl ?_)
  refine va_get (D := E.1) (ci := 3) (v := .int a0_town_markCount) (C := RX6) (T := TX6) (N := 11) hx hb hts inT_X6 hown hK hP 1 rfl rfl 10 (by decide) (hts _ w_1_85) (fun _ h9 => h9) rfl dX7_digest_142 (W.pc 145 rfl ?_)
  refine lv_iconst (v := (5 : Int32)) hx hb dX7_digest_145 (by decide) (W.pc 146 rfl ?_)
  refine lv_imul hx hb dX7_digest_146 (W.pc 147 rfl ?_)
  obtain ⟨z8, hr_z8, hsp⟩ := bd_s hsp
  refine kSR (st1 := [.long z8]) hX (c_X2_digested l E a0_town_marks 30 (by decide) z7 (a0_town_markCount * (5 : Int32)) fa0_town_marks z8 hr_z8) B_X2_digested w_4_53 hK (hP.pick [10] rfl) rfl hl.1 rfl (Nat.le_of_ble_eq_true rfl) ⟨Nat.le_of_ble_eq_true rfl, Nat.le_of_ble_eq_true rfl⟩ dX7_digest_147 rfl (W.pc 150 rfl ?_)
  refine lv_lstore_n (lv' := [(1, .long z8), (0, .ref a0)]) hx hb dX7_digest_150 rfl hl (by decide) rfl (fun ls hl => W.pc 151 rfl ?_)
  refine lv_ldc2 (v := (31 : Int64)) hx hb hown (hts _ w_4_51) dX7_digest_151 (W.pc 154 rfl ?_)
  refine lv_lload_n hx hb dX7_digest_154 rfl (lv_at hl 0 rfl) (W.pc 155 rfl ?_)
  refine lv_lmul hx hb dX7_digest_155 (W.pc 156 rfl ?_)
  refine lv_aload_n hx hb dX7_digest_156 rfl (lv_at hl 1 rfl) (W.pc 157 rfl ?_)
  refine va_get (D := E.1) (ci := 4) (v := .long a0_above) (C := RX7) (T := TX7) (N := 15) hx hb hts inT_X7 hown hK hP 0 rfl rfl 10 (by decide) (hts _ w_1_188) (fun _ h9 => h9) rfl dX7_digest_157 (W.pc 160 rfl ?_)
  refine lv_ladd hx hb dX7_digest_160 (W.pc 161 rfl ?_)
  refine lv_lstore_n (lv' := [(1, .long (((31 : Int64) * z8) + a0_above)), (0, .ref a0)]) hx hb dX7_digest_161 rfl hl (by decide) rfl (fun ls hl => W.pc 162 rfl ?_)
  refine lv_ldc2 (v := (31 : Int64)) hx hb hown (hts _ w_4_51) dX7_digest_162 (W.pc 165 rfl ?_)
  refine lv_lload_n hx hb dX7_digest_165 rfl (lv_at hl 0 rfl) (W.pc 166 rfl ?_)
  refine lv_lmul hx hb dX7_digest_166 (W.pc 167 rfl ?_)
  refine lv_aload_n hx hb dX7_digest_167 rfl (lv_at hl 1 rfl) (W.pc 168 rfl ?_)
  refine va_get (D := E.1) (ci := 4) (v := .long a0_below) (C := RX7) (T := TX7) (N := 15) hx hb hts inT_X7 hown hK hP 0 rfl rfl 11 (by decide) (hts _ w_1_189) (fun _ h9 => h9) rfl dX7_digest_168 (W.pc 171 rfl ?_)
  refine lv_ladd hx hb dX7_digest_171 (W.pc 172 rfl ?_)
  cases hsp
  exact rWl hX hP hS rfl rfl dX7_digest_172
