theorem w_5_115 : Cond.methodLink RX8 205 yX8_ones ∈ TBL := TBL_t (tin5 (List.mem_of_getElem? (i := 115) (by decide +kernel))) (by decide +kernel)
theorem w_5_107 : Cond.methodLink RX8 208 yX8_votes ∈ TBL := TBL_t (tin5 (List.mem_of_getElem? (i := 107) (by decide +kernel))) (by decide +kernel)
theorem w_5_111 : Cond.methodLink RX8 211 yX8_isCarried ∈ TBL := TBL_t (tin5 (List.mem_of_getElem? (i := 111) (by decide +kernel))) (by decide +kernel)
theorem w_5_151 : Cond.methodLink RX8 214 yX8_has ∈ TBL := TBL_t (tin5 (List.mem_of_getElem? (i := 151) (by decide +kernel))) (by decide +kernel)
theorem w_5_146 : Cond.methodLink RX8 217 yX8_is ∈ TBL := TBL_t (tin5 (List.mem_of_getElem? (i := 146) (by decide +kernel))) (by decide +kernel)
theorem w_5_147 : Cond.methodLink RX8 220 yX8_alike ∈ TBL := TBL_t (tin5 (List.mem_of_getElem? (i := 147) (by decide +kernel))) (by decide +kernel)
theorem w_5_158 : Cond.methodLink RX8 223 yX8_kindsBy ∈ TBL := TBL_t (tin5 (List.mem_of_getElem? (i := 158) (by decide +kernel))) (by decide +kernel)
theorem w_5_170 : Cond.methodLink RX8 226 yX8_offBy ∈ TBL := TBL_t (tin5 (List.mem_of_getElem? (i := 170) (by decide +kernel))) (by decide +kernel)
theorem w_5_117 : Cond.code yX8_ones cX8_ones 3 (some .int) ∈ TBL := TBL_t (tin5 (List.mem_of_getElem? (i := 117) (by decide +kernel))) (by decide +kernel)
theorem w_5_116 : Cond.static yX8_ones ∈ TBL := TBL_t (tin5 (List.mem_of_getElem? (i := 116) (by decide +kernel))) (by decide +kernel)
theorem w_5_110 : Cond.code yX8_votes cX8_votes 4 (some .int) ∈ TBL := TBL_t (tin5 (List.mem_of_getElem? (i := 110) (by decide +kernel))) (by decide +kernel)
theorem w_5_109 : Cond.instanceMethod yX8_votes ∈ TBL := TBL_t (tin5 (List.mem_of_getElem? (i := 109) (by decide +kernel))) (by decide +kernel)
theorem w_5_114 : Cond.code yX8_isCarried cX8_isCarried 2 (some .boolean) ∈ TBL := TBL_t (tin5 (List.mem_of_getElem? (i := 114) (by decide +kernel))) (by decide +kernel)
theorem w_5_113 : Cond.instanceMethod yX8_isCarried ∈ TBL := TBL_t (tin5 (List.mem_of_getElem? (i := 113) (by decide +kernel))) (by decide +kernel)
theorem w_5_153 : Cond.code yX8_has cX8_has 2 (some .boolean) ∈ TBL := TBL_t (tin5 (List.mem_of_getElem? (i := 153) (by decide +kernel))) (by decide +kernel)
theorem w_5_152 : Cond.static yX8_has ∈ TBL := TBL_t (tin5 (List.mem_of_getElem? (i := 152) (by decide +kernel))) (by decide +kernel)
theorem w_5_140 : Cond.selects yX8_is.cls yX8_is yX8_is ∈ TBL := TBL_t (tin5 (List.mem_of_getElem? (i := 140) (by decide +kernel))) (by decide +kernel)
theorem w_5_141 : Cond.code yX8_is cX8_is 5 (some .int) ∈ TBL := TBL_t (tin5 (List.mem_of_getElem? (i := 141) (by decide +kernel))) (by decide +kernel)
theorem w_5_139 : Cond.instanceMethod yX8_is ∈ TBL := TBL_t (tin5 (List.mem_of_getElem? (i := 139) (by decide +kernel))) (by decide +kernel)
theorem w_5_150 : Cond.code yX8_alike cX8_alike 8 (some .int) ∈ TBL := TBL_t (tin5 (List.mem_of_getElem? (i := 150) (by decide +kernel))) (by decide +kernel)
theorem w_5_149 : Cond.instanceMethod yX8_alike ∈ TBL := TBL_t (tin5 (List.mem_of_getElem? (i := 149) (by decide +kernel))) (by decide +kernel)
theorem w_5_161 : Cond.code yX8_kindsBy cX8_kindsBy 7 (some .int) ∈ TBL := TBL_t (tin5 (List.mem_of_getElem? (i := 161) (by decide +kernel))) (by decide +kernel)
theorem w_5_160 : Cond.instanceMethod yX8_kindsBy ∈ TBL := TBL_t (tin5 (List.mem_of_getElem? (i := 160) (by decide +kernel))) (by decide +kernel)
theorem w_5_173 : Cond.code yX8_offBy cX8_offBy 4 (some .int) ∈ TBL := TBL_t (tin5 (List.mem_of_getElem? (i := 173) (by decide +kernel))) (by decide +kernel)
theorem w_5_172 : Cond.instanceMethod yX8_offBy ∈ TBL := TBL_t (tin5 (List.mem_of_getElem? (i := 172) (by decide +kernel))) (by decide +kernel)
theorem ws_48 : Cond.selects yX8_votes.cls yX8_votes yX8_votes ∈ TBL := TBL_s (List.mem_of_getElem? (i := 48) (by decide +kernel)) (by decide +kernel)
theorem ws_49 : Cond.selects yX8_isCarried.cls yX8_isCarried yX8_isCarried ∈ TBL := TBL_s (List.mem_of_getElem? (i := 49) (by decide +kernel)) (by decide +kernel)
theorem ws_50 : Cond.selects yX8_alike.cls yX8_alike yX8_alike ∈ TBL := TBL_s (List.mem_of_getElem? (i := 50) (by decide +kernel)) (by decide +kernel)
theorem ws_51 : Cond.selects yX8_kindsBy.cls yX8_kindsBy yX8_kindsBy ∈ TBL := TBL_s (List.mem_of_getElem? (i := 51) (by decide +kernel)) (by decide +kernel)
theorem ws_52 : Cond.selects yX8_offBy.cls yX8_offBy yX8_offBy ∈ TBL := TBL_s (List.mem_of_getElem? (i := 52) (by decide +kernel)) (by decide +kernel)
theorem B_X8_ones : cS yX8_ones cX8_ones 3 (some .int) 1 := ⟨w_5_117, w_5_116, w_1_6, by decide +kernel⟩
theorem B_X8_votes : cV yX8_votes cX8_votes 4 (some .int) 1 := ⟨w_5_110, w_5_109, (ws_48), w_1_6, by decide +kernel⟩
theorem B_X8_isCarried : cV yX8_isCarried cX8_isCarried 2 (some .boolean) 1 := ⟨w_5_114, w_5_113, (ws_49), w_1_6, by decide +kernel⟩
theorem B_X8_has : cS yX8_has cX8_has 2 (some .boolean) 2 := ⟨w_5_153, w_5_152, w_1_6, by decide +kernel⟩
theorem B_X8_is : cV yX8_is cX8_is 5 (some .int) 0 := ⟨w_5_141, w_5_139, w_5_140, w_1_6, by decide +kernel⟩
theorem B_X8_alike : cV yX8_alike cX8_alike 8 (some .int) 3 := ⟨w_5_150, w_5_149, (ws_50), w_1_6, by decide +kernel⟩
theorem B_X8_kindsBy : cV yX8_kindsBy cX8_kindsBy 7 (some .int) 1 := ⟨w_5_161, w_5_160, (ws_51), w_1_6, by decide +kernel⟩
theorem B_X8_offBy : cV yX8_offBy cX8_offBy 4 (some .int) 2 := ⟨w_5_173, w_5_172, (ws_52), w_1_6, by decide +kernel⟩
theorem dX8_votes_0 : decode cX8_votes 0 = .ok (.iconst 0, 1) := by decide +kernel
theorem dX8_votes_1 : decode cX8_votes 1 = .ok (.istore_n 2, 1) := by decide +kernel
theorem dX8_votes_2 : decode cX8_votes 2 = .ok (.iconst 0, 1) := by decide +kernel
theorem dX8_votes_3 : decode cX8_votes 3 = .ok (.istore_n 3, 1) := by decide +kernel
theorem dX8_votes_4 : decode cX8_votes 4 = .ok (.iload_n 3, 1) := by decide +kernel
theorem dX8_votes_5 : decode cX8_votes 5 = .ok (.aload_n 0, 1) := by decide +kernel
theorem dX8_votes_6 : decode cX8_votes 6 = .ok (.getfield 13, 3) := by decide +kernel
theorem dX8_votes_9 : decode cX8_votes 9 = .ok (.bipush 75, 2) := by decide +kernel
theorem dX8_votes_11 : decode cX8_votes 11 = .ok (.iaload, 1) := by decide +kernel
theorem dX8_votes_12 : decode cX8_votes 12 = .ok (.if_icmp .ge 33, 3) := by decide +kernel
theorem dX8_votes_15 : decode cX8_votes 15 = .ok (.iload_n 2, 1) := by decide +kernel
theorem dX8_votes_16 : decode cX8_votes 16 = .ok (.aload_n 0, 1) := by decide +kernel
theorem dX8_votes_17 : decode cX8_votes 17 = .ok (.getfield 13, 3) := by decide +kernel
theorem dX8_votes_20 : decode cX8_votes 20 = .ok (.bipush 76, 2) := by decide +kernel
theorem dX8_votes_22 : decode cX8_votes 22 = .ok (.iload_n 3, 1) := by decide +kernel
theorem dX8_votes_23 : decode cX8_votes 23 = .ok (.iadd, 1) := by decide +kernel
theorem dX8_votes_24 : decode cX8_votes 24 = .ok (.iaload, 1) := by decide +kernel
theorem dX8_votes_25 : decode cX8_votes 25 = .ok (.iload_n 1, 1) := by decide +kernel
theorem dX8_votes_26 : decode cX8_votes 26 = .ok (.iadd, 1) := by decide +kernel
theorem dX8_votes_27 : decode cX8_votes 27 = .ok (.ifCond .le 9, 3) := by decide +kernel
theorem dX8_votes_30 : decode cX8_votes 30 = .ok (.iconst 1, 1) := by decide +kernel
theorem dX8_votes_31 : decode cX8_votes 31 = .ok (.iload_n 3, 1) := by decide +kernel
theorem dX8_votes_32 : decode cX8_votes 32 = .ok (.ishl, 1) := by decide +kernel
theorem dX8_votes_33 : decode cX8_votes 33 = .ok (.goto 4, 3) := by decide +kernel
theorem dX8_votes_36 : decode cX8_votes 36 = .ok (.iconst 0, 1) := by decide +kernel
theorem dX8_votes_37 : decode cX8_votes 37 = .ok (.ior, 1) := by decide +kernel
theorem dX8_votes_38 : decode cX8_votes 38 = .ok (.istore_n 2, 1) := by decide +kernel
theorem dX8_votes_39 : decode cX8_votes 39 = .ok (.iinc 3 1, 3) := by decide +kernel
theorem dX8_votes_42 : decode cX8_votes 42 = .ok (.goto (-38), 3) := by decide +kernel
theorem dX8_votes_45 : decode cX8_votes 45 = .ok (.iload_n 2, 1) := by decide +kernel
theorem dX8_votes_46 : decode cX8_votes 46 = .ok (.ireturn, 1) := by decide +kernel
theorem dX8_isCarried_0 : decode cX8_isCarried 0 = .ok (.iconst 2, 1) := by decide +kernel
theorem dX8_isCarried_1 : decode cX8_isCarried 1 = .ok (.iload_n 1, 1) := by decide +kernel
theorem dX8_isCarried_2 : decode cX8_isCarried 2 = .ok (.invokestatic 205, 3) := by decide +kernel
theorem dX8_isCarried_5 : decode cX8_isCarried 5 = .ok (.imul, 1) := by decide +kernel
theorem dX8_isCarried_6 : decode cX8_isCarried 6 = .ok (.aload_n 0, 1) := by decide +kernel
theorem dX8_isCarried_7 : decode cX8_isCarried 7 = .ok (.getfield 13, 3) := by decide +kernel
theorem dX8_isCarried_10 : decode cX8_isCarried 10 = .ok (.bipush 75, 2) := by decide +kernel
theorem dX8_isCarried_12 : decode cX8_isCarried 12 = .ok (.iaload, 1) := by decide +kernel
theorem dX8_isCarried_13 : decode cX8_isCarried 13 = .ok (.if_icmp .le 7, 3) := by decide +kernel
theorem dX8_isCarried_16 : decode cX8_isCarried 16 = .ok (.iconst 1, 1) := by decide +kernel
theorem dX8_isCarried_17 : decode cX8_isCarried 17 = .ok (.goto 4, 3) := by decide +kernel
theorem dX8_isCarried_20 : decode cX8_isCarried 20 = .ok (.iconst 0, 1) := by decide +kernel
theorem dX8_isCarried_21 : decode cX8_isCarried 21 = .ok (.ireturn, 1) := by decide +kernel
theorem dX8_council_0 : decode cX8_council 0 = .ok (.iload_n 1, 1) := by decide +kernel
theorem dX8_council_1 : decode cX8_council 1 = .ok (.iconst 0, 1) := by decide +kernel
theorem dX8_council_2 : decode cX8_council 2 = .ok (.iconst 2, 1) := by decide +kernel
theorem dX8_council_3 : decode cX8_council 3 = .ok (.invokestatic 42, 3) := by decide +kernel
theorem dX8_council_6 : decode cX8_council 6 = .ok (.ifCond .ne 8, 3) := by decide +kernel
theorem dX8_council_9 : decode cX8_council 9 = .ok (.aload_n 0, 1) := by decide +kernel
theorem dX8_council_10 : decode cX8_council 10 = .ok (.invokevirtual 86, 3) := by decide +kernel
theorem dX8_council_13 : decode cX8_council 13 = .ok (.ireturn, 1) := by decide +kernel
theorem dX8_council_14 : decode cX8_council 14 = .ok (.aload_n 0, 1) := by decide +kernel
theorem dX8_council_15 : decode cX8_council 15 = .ok (.aload_n 0, 1) := by decide +kernel
theorem dX8_council_16 : decode cX8_council 16 = .ok (.getfield 13, 3) := by decide +kernel
theorem dX8_council_19 : decode cX8_council 19 = .ok (.iconst 1, 1) := by decide +kernel
theorem dX8_council_20 : decode cX8_council 20 = .ok (.iaload, 1) := by decide +kernel
theorem dX8_council_21 : decode cX8_council 21 = .ok (.invokevirtual 208, 3) := by decide +kernel
theorem dX8_council_24 : decode cX8_council 24 = .ok (.istore_n 2, 1) := by decide +kernel
theorem dX8_council_25 : decode cX8_council 25 = .ok (.iload_n 1, 1) := by decide +kernel
theorem dX8_council_26 : decode cX8_council 26 = .ok (.ifCond .ne 7, 3) := by decide +kernel
theorem dX8_council_29 : decode cX8_council 29 = .ok (.iload_n 2, 1) := by decide +kernel
theorem dX8_council_30 : decode cX8_council 30 = .ok (.goto 31, 3) := by decide +kernel
theorem dX8_council_33 : decode cX8_council 33 = .ok (.iload_n 1, 1) := by decide +kernel
theorem dX8_council_34 : decode cX8_council 34 = .ok (.iconst 1, 1) := by decide +kernel
theorem dX8_council_35 : decode cX8_council 35 = .ok (.if_icmp .ne 19, 3) := by decide +kernel
theorem dX8_council_38 : decode cX8_council 38 = .ok (.aload_n 0, 1) := by decide +kernel
theorem dX8_council_39 : decode cX8_council 39 = .ok (.iload_n 2, 1) := by decide +kernel
theorem dX8_council_40 : decode cX8_council 40 = .ok (.invokevirtual 211, 3) := by decide +kernel
theorem dX8_council_43 : decode cX8_council 43 = .ok (.ifCond .eq 7, 3) := by decide +kernel
theorem dX8_council_46 : decode cX8_council 46 = .ok (.iconst 1, 1) := by decide +kernel
theorem dX8_council_47 : decode cX8_council 47 = .ok (.goto 14, 3) := by decide +kernel
theorem dX8_council_50 : decode cX8_council 50 = .ok (.iconst 0, 1) := by decide +kernel
theorem dX8_council_51 : decode cX8_council 51 = .ok (.goto 10, 3) := by decide +kernel
theorem dX8_council_54 : decode cX8_council 54 = .ok (.iload_n 2, 1) := by decide +kernel
theorem dX8_council_55 : decode cX8_council 55 = .ok (.aload_n 0, 1) := by decide +kernel
theorem dX8_council_56 : decode cX8_council 56 = .ok (.iconst 0, 1) := by decide +kernel
theorem dX8_council_57 : decode cX8_council 57 = .ok (.invokevirtual 208, 3) := by decide +kernel
theorem dX8_council_60 : decode cX8_council 60 = .ok (.ixor, 1) := by decide +kernel
theorem dX8_council_61 : decode cX8_council 61 = .ok (.ireturn, 1) := by decide +kernel
theorem dX8_power_0 : decode cX8_power 0 = .ok (.iload_n 1, 1) := by decide +kernel
theorem dX8_power_1 : decode cX8_power 1 = .ok (.iconst 0, 1) := by decide +kernel
theorem dX8_power_2 : decode cX8_power 2 = .ok (.aload_n 0, 1) := by decide +kernel
theorem dX8_power_3 : decode cX8_power 3 = .ok (.getfield 13, 3) := by decide +kernel
theorem dX8_power_6 : decode cX8_power 6 = .ok (.bipush 75, 2) := by decide +kernel
theorem dX8_power_8 : decode cX8_power 8 = .ok (.iaload, 1) := by decide +kernel
theorem dX8_power_9 : decode cX8_power 9 = .ok (.iconst 1, 1) := by decide +kernel
theorem dX8_power_10 : decode cX8_power 10 = .ok (.isub, 1) := by decide +kernel
theorem dX8_power_11 : decode cX8_power 11 = .ok (.invokestatic 42, 3) := by decide +kernel
theorem dX8_power_14 : decode cX8_power 14 = .ok (.ifCond .ne 8, 3) := by decide +kernel
theorem dX8_power_17 : decode cX8_power 17 = .ok (.aload_n 0, 1) := by decide +kernel
theorem dX8_power_18 : decode cX8_power 18 = .ok (.invokevirtual 86, 3) := by decide +kernel
theorem dX8_power_21 : decode cX8_power 21 = .ok (.ireturn, 1) := by decide +kernel
theorem dX8_power_22 : decode cX8_power 22 = .ok (.iconst 0, 1) := by decide +kernel
theorem dX8_power_23 : decode cX8_power 23 = .ok (.istore_n 2, 1) := by decide +kernel
theorem dX8_power_24 : decode cX8_power 24 = .ok (.bipush (-9), 2) := by decide +kernel
theorem dX8_power_26 : decode cX8_power 26 = .ok (.istore_n 3, 1) := by decide +kernel
theorem dX8_power_27 : decode cX8_power 27 = .ok (.iload_n 3, 1) := by decide +kernel
theorem dX8_power_28 : decode cX8_power 28 = .ok (.bipush 10, 2) := by decide +kernel
theorem dX8_power_30 : decode cX8_power 30 = .ok (.if_icmp .ge 43, 3) := by decide +kernel
theorem dX8_power_33 : decode cX8_power 33 = .ok (.aload_n 0, 1) := by decide +kernel
theorem dX8_power_34 : decode cX8_power 34 = .ok (.iload_n 3, 1) := by decide +kernel
theorem dX8_power_35 : decode cX8_power 35 = .ok (.invokevirtual 208, 3) := by decide +kernel
theorem dX8_power_38 : decode cX8_power 38 = .ok (.istore 4, 2) := by decide +kernel
theorem dX8_power_40 : decode cX8_power 40 = .ok (.iload_n 2, 1) := by decide +kernel
theorem dX8_power_41 : decode cX8_power 41 = .ok (.aload_n 0, 1) := by decide +kernel
theorem dX8_power_42 : decode cX8_power 42 = .ok (.iload 4, 2) := by decide +kernel
theorem dX8_power_44 : decode cX8_power 44 = .ok (.invokevirtual 211, 3) := by decide +kernel
theorem dX8_power_47 : decode cX8_power 47 = .ok (.aload_n 0, 1) := by decide +kernel
theorem dX8_power_48 : decode cX8_power 48 = .ok (.iload 4, 2) := by decide +kernel
theorem dX8_power_50 : decode cX8_power 50 = .ok (.iconst 1, 1) := by decide +kernel
theorem dX8_power_51 : decode cX8_power 51 = .ok (.iload_n 1, 1) := by decide +kernel
theorem dX8_power_52 : decode cX8_power 52 = .ok (.ishl, 1) := by decide +kernel
theorem dX8_power_53 : decode cX8_power 53 = .ok (.ixor, 1) := by decide +kernel
theorem dX8_power_54 : decode cX8_power 54 = .ok (.invokevirtual 211, 3) := by decide +kernel
theorem dX8_power_57 : decode cX8_power 57 = .ok (.if_icmp .ne 7, 3) := by decide +kernel
theorem dX8_power_60 : decode cX8_power 60 = .ok (.iconst 0, 1) := by decide +kernel
theorem dX8_power_61 : decode cX8_power 61 = .ok (.goto 4, 3) := by decide +kernel
theorem dX8_power_64 : decode cX8_power 64 = .ok (.iconst 1, 1) := by decide +kernel
theorem dX8_power_65 : decode cX8_power 65 = .ok (.iadd, 1) := by decide +kernel
theorem dX8_power_66 : decode cX8_power 66 = .ok (.istore_n 2, 1) := by decide +kernel
theorem dX8_power_67 : decode cX8_power 67 = .ok (.iinc 3 1, 3) := by decide +kernel
theorem dX8_power_70 : decode cX8_power 70 = .ok (.goto (-43), 3) := by decide +kernel
theorem dX8_power_73 : decode cX8_power 73 = .ok (.iload_n 2, 1) := by decide +kernel
theorem dX8_power_74 : decode cX8_power 74 = .ok (.ireturn, 1) := by decide +kernel
theorem dX8_built_0 : decode cX8_built 0 = .ok (.iload_n 1, 1) := by decide +kernel
theorem dX8_built_1 : decode cX8_built 1 = .ok (.invokestatic 82, 3) := by decide +kernel
theorem dX8_built_4 : decode cX8_built 4 = .ok (.ifCond .eq 10, 3) := by decide +kernel
theorem dX8_built_7 : decode cX8_built 7 = .ok (.iload_n 2, 1) := by decide +kernel
theorem dX8_built_8 : decode cX8_built 8 = .ok (.invokestatic 101, 3) := by decide +kernel
theorem dX8_built_11 : decode cX8_built 11 = .ok (.ifCond .ne 8, 3) := by decide +kernel
theorem dX8_built_14 : decode cX8_built 14 = .ok (.aload_n 0, 1) := by decide +kernel
theorem dX8_built_15 : decode cX8_built 15 = .ok (.invokevirtual 86, 3) := by decide +kernel
theorem dX8_built_18 : decode cX8_built 18 = .ok (.ireturn, 1) := by decide +kernel
theorem dX8_built_19 : decode cX8_built 19 = .ok (.iconst 0, 1) := by decide +kernel
theorem dX8_built_20 : decode cX8_built 20 = .ok (.istore_n 3, 1) := by decide +kernel
theorem dX8_built_21 : decode cX8_built 21 = .ok (.iconst 0, 1) := by decide +kernel
theorem dX8_built_22 : decode cX8_built 22 = .ok (.istore 4, 2) := by decide +kernel
theorem dX8_built_24 : decode cX8_built 24 = .ok (.iconst 0, 1) := by decide +kernel
theorem dX8_built_25 : decode cX8_built 25 = .ok (.istore 5, 2) := by decide +kernel
theorem dX8_built_27 : decode cX8_built 27 = .ok (.iload 5, 2) := by decide +kernel
theorem dX8_built_29 : decode cX8_built 29 = .ok (.bipush 30, 2) := by decide +kernel
theorem dX8_built_31 : decode cX8_built 31 = .ok (.if_icmp .ge 45, 3) := by decide +kernel
theorem dX8_built_34 : decode cX8_built 34 = .ok (.iload_n 3, 1) := by decide +kernel
theorem dX8_built_35 : decode cX8_built 35 = .ok (.iload 4, 2) := by decide +kernel
theorem dX8_built_37 : decode cX8_built 37 = .ok (.iload_n 2, 1) := by decide +kernel
theorem dX8_built_38 : decode cX8_built 38 = .ok (.if_icmp .ne 10, 3) := by decide +kernel
theorem dX8_built_41 : decode cX8_built 41 = .ok (.iconst 1, 1) := by decide +kernel
theorem dX8_built_42 : decode cX8_built 42 = .ok (.iload 5, 2) := by decide +kernel
theorem dX8_built_44 : decode cX8_built 44 = .ok (.ishl, 1) := by decide +kernel
theorem dX8_built_45 : decode cX8_built 45 = .ok (.goto 4, 3) := by decide +kernel
theorem dX8_built_48 : decode cX8_built 48 = .ok (.iconst 0, 1) := by decide +kernel
theorem dX8_built_49 : decode cX8_built 49 = .ok (.ior, 1) := by decide +kernel
theorem dX8_built_50 : decode cX8_built 50 = .ok (.istore_n 3, 1) := by decide +kernel
theorem dX8_built_51 : decode cX8_built 51 = .ok (.iload_n 1, 1) := by decide +kernel
theorem dX8_built_52 : decode cX8_built 52 = .ok (.iload 4, 2) := by decide +kernel
theorem dX8_built_54 : decode cX8_built 54 = .ok (.aload_n 0, 1) := by decide +kernel
theorem dX8_built_55 : decode cX8_built 55 = .ok (.getfield 13, 3) := by decide +kernel
theorem dX8_built_58 : decode cX8_built 58 = .ok (.iload 5, 2) := by decide +kernel
theorem dX8_built_60 : decode cX8_built 60 = .ok (.invokestatic 75, 3) := by decide +kernel
theorem dX8_built_63 : decode cX8_built 63 = .ok (.iload 5, 2) := by decide +kernel
theorem dX8_built_65 : decode cX8_built 65 = .ok (.invokestatic 78, 3) := by decide +kernel
theorem dX8_built_68 : decode cX8_built 68 = .ok (.istore 4, 2) := by decide +kernel
theorem dX8_built_70 : decode cX8_built 70 = .ok (.iinc 5 1, 3) := by decide +kernel
theorem dX8_built_73 : decode cX8_built 73 = .ok (.goto (-46), 3) := by decide +kernel
theorem dX8_built_76 : decode cX8_built 76 = .ok (.iload_n 3, 1) := by decide +kernel
theorem dX8_built_77 : decode cX8_built 77 = .ok (.ireturn, 1) := by decide +kernel
theorem dX8_note_0 : decode cX8_note 0 = .ok (.iload_n 1, 1) := by decide +kernel
theorem dX8_note_1 : decode cX8_note 1 = .ok (.invokestatic 101, 3) := by decide +kernel
theorem dX8_note_4 : decode cX8_note 4 = .ok (.ifCond .eq 28, 3) := by decide +kernel
theorem dX8_note_7 : decode cX8_note 7 = .ok (.iload_n 2, 1) := by decide +kernel
theorem dX8_note_8 : decode cX8_note 8 = .ok (.invokestatic 101, 3) := by decide +kernel
theorem dX8_note_11 : decode cX8_note 11 = .ok (.ifCond .eq 21, 3) := by decide +kernel
theorem dX8_note_14 : decode cX8_note 14 = .ok (.iload_n 3, 1) := by decide +kernel
theorem dX8_note_15 : decode cX8_note 15 = .ok (.iconst 0, 1) := by decide +kernel
theorem dX8_note_16 : decode cX8_note 16 = .ok (.bipush 99, 2) := by decide +kernel
theorem dX8_note_18 : decode cX8_note 18 = .ok (.invokestatic 42, 3) := by decide +kernel
theorem dX8_note_21 : decode cX8_note 21 = .ok (.ifCond .eq 11, 3) := by decide +kernel
theorem dX8_note_24 : decode cX8_note 24 = .ok (.iload 4, 2) := by decide +kernel
theorem dX8_note_26 : decode cX8_note 26 = .ok (.invokestatic 101, 3) := by decide +kernel
theorem dX8_note_29 : decode cX8_note 29 = .ok (.ifCond .ne 8, 3) := by decide +kernel
theorem dX8_note_32 : decode cX8_note 32 = .ok (.aload_n 0, 1) := by decide +kernel
theorem dX8_note_33 : decode cX8_note 33 = .ok (.invokevirtual 86, 3) := by decide +kernel
theorem dX8_note_36 : decode cX8_note 36 = .ok (.ireturn, 1) := by decide +kernel
theorem dX8_note_37 : decode cX8_note 37 = .ok (.aload_n 0, 1) := by decide +kernel
theorem dX8_note_38 : decode cX8_note 38 = .ok (.getfield 13, 3) := by decide +kernel
theorem dX8_note_41 : decode cX8_note 41 = .ok (.bipush 81, 2) := by decide +kernel
theorem dX8_note_43 : decode cX8_note 43 = .ok (.iaload, 1) := by decide +kernel
theorem dX8_note_44 : decode cX8_note 44 = .ok (.bipush 6, 2) := by decide +kernel
theorem dX8_note_46 : decode cX8_note 46 = .ok (.if_icmp .ne 8, 3) := by decide +kernel
theorem dX8_note_49 : decode cX8_note 49 = .ok (.aload_n 0, 1) := by decide +kernel
theorem dX8_note_50 : decode cX8_note 50 = .ok (.invokevirtual 107, 3) := by decide +kernel
theorem dX8_note_53 : decode cX8_note 53 = .ok (.ireturn, 1) := by decide +kernel
theorem dX8_note_54 : decode cX8_note 54 = .ok (.bipush 82, 2) := by decide +kernel
theorem dX8_note_56 : decode cX8_note 56 = .ok (.iconst 4, 1) := by decide +kernel
theorem dX8_note_57 : decode cX8_note 57 = .ok (.aload_n 0, 1) := by decide +kernel
theorem dX8_note_58 : decode cX8_note 58 = .ok (.getfield 13, 3) := by decide +kernel
theorem dX8_note_61 : decode cX8_note 61 = .ok (.bipush 81, 2) := by decide +kernel
theorem dX8_note_63 : decode cX8_note 63 = .ok (.iaload, 1) := by decide +kernel
theorem dX8_note_64 : decode cX8_note 64 = .ok (.imul, 1) := by decide +kernel
theorem dX8_note_65 : decode cX8_note 65 = .ok (.iadd, 1) := by decide +kernel
theorem dX8_note_66 : decode cX8_note 66 = .ok (.istore 5, 2) := by decide +kernel
theorem dX8_note_68 : decode cX8_note 68 = .ok (.aload_n 0, 1) := by decide +kernel
theorem dX8_note_69 : decode cX8_note 69 = .ok (.getfield 13, 3) := by decide +kernel
theorem dX8_note_72 : decode cX8_note 72 = .ok (.iload 5, 2) := by decide +kernel
theorem dX8_note_74 : decode cX8_note 74 = .ok (.iload_n 1, 1) := by decide +kernel
theorem dX8_note_75 : decode cX8_note 75 = .ok (.iastore, 1) := by decide +kernel
theorem dX8_note_76 : decode cX8_note 76 = .ok (.aload_n 0, 1) := by decide +kernel
theorem dX8_note_77 : decode cX8_note 77 = .ok (.getfield 13, 3) := by decide +kernel
theorem dX8_note_80 : decode cX8_note 80 = .ok (.iload 5, 2) := by decide +kernel
theorem dX8_note_82 : decode cX8_note 82 = .ok (.iconst 1, 1) := by decide +kernel
theorem dX8_note_83 : decode cX8_note 83 = .ok (.iadd, 1) := by decide +kernel
theorem dX8_note_84 : decode cX8_note 84 = .ok (.iload_n 2, 1) := by decide +kernel
theorem dX8_note_85 : decode cX8_note 85 = .ok (.iastore, 1) := by decide +kernel
theorem dX8_note_86 : decode cX8_note 86 = .ok (.aload_n 0, 1) := by decide +kernel
theorem dX8_note_87 : decode cX8_note 87 = .ok (.getfield 13, 3) := by decide +kernel
theorem dX8_note_90 : decode cX8_note 90 = .ok (.iload 5, 2) := by decide +kernel
theorem dX8_note_92 : decode cX8_note 92 = .ok (.iconst 2, 1) := by decide +kernel
theorem dX8_note_93 : decode cX8_note 93 = .ok (.iadd, 1) := by decide +kernel
theorem dX8_note_94 : decode cX8_note 94 = .ok (.iload_n 3, 1) := by decide +kernel
theorem dX8_note_95 : decode cX8_note 95 = .ok (.iastore, 1) := by decide +kernel
theorem dX8_note_96 : decode cX8_note 96 = .ok (.aload_n 0, 1) := by decide +kernel
theorem dX8_note_97 : decode cX8_note 97 = .ok (.getfield 13, 3) := by decide +kernel
theorem dX8_note_100 : decode cX8_note 100 = .ok (.iload 5, 2) := by decide +kernel
theorem dX8_note_102 : decode cX8_note 102 = .ok (.iconst 3, 1) := by decide +kernel
theorem dX8_note_103 : decode cX8_note 103 = .ok (.iadd, 1) := by decide +kernel
theorem dX8_note_104 : decode cX8_note 104 = .ok (.iload 4, 2) := by decide +kernel
theorem dX8_note_106 : decode cX8_note 106 = .ok (.iastore, 1) := by decide +kernel
theorem dX8_note_107 : decode cX8_note 107 = .ok (.aload_n 0, 1) := by decide +kernel
theorem dX8_note_108 : decode cX8_note 108 = .ok (.getfield 13, 3) := by decide +kernel
theorem dX8_note_111 : decode cX8_note 111 = .ok (.bipush 81, 2) := by decide +kernel
theorem dX8_note_113 : decode cX8_note 113 = .ok (.dup2, 1) := by decide +kernel
theorem dX8_note_114 : decode cX8_note 114 = .ok (.iaload, 1) := by decide +kernel
theorem dX8_note_115 : decode cX8_note 115 = .ok (.iconst 1, 1) := by decide +kernel
theorem dX8_note_116 : decode cX8_note 116 = .ok (.iadd, 1) := by decide +kernel
theorem dX8_note_117 : decode cX8_note 117 = .ok (.iastore, 1) := by decide +kernel
theorem dX8_note_118 : decode cX8_note 118 = .ok (.aload_n 0, 1) := by decide +kernel
theorem dX8_note_119 : decode cX8_note 119 = .ok (.getfield 13, 3) := by decide +kernel
theorem dX8_note_122 : decode cX8_note 122 = .ok (.bipush 81, 2) := by decide +kernel
theorem dX8_note_124 : decode cX8_note 124 = .ok (.iaload, 1) := by decide +kernel
theorem dX8_note_125 : decode cX8_note 125 = .ok (.ireturn, 1) := by decide +kernel
theorem dX8_mark_0 : decode cX8_mark 0 = .ok (.iload_n 1, 1) := by decide +kernel
theorem dX8_mark_1 : decode cX8_mark 1 = .ok (.iconst 0, 1) := by decide +kernel
theorem dX8_mark_2 : decode cX8_mark 2 = .ok (.bipush 9, 2) := by decide +kernel
theorem dX8_mark_4 : decode cX8_mark 4 = .ok (.invokestatic 42, 3) := by decide +kernel
theorem dX8_mark_7 : decode cX8_mark 7 = .ok (.ifCond .eq 38, 3) := by decide +kernel
theorem dX8_mark_10 : decode cX8_mark 10 = .ok (.iload_n 2, 1) := by decide +kernel
theorem dX8_mark_11 : decode cX8_mark 11 = .ok (.invokestatic 101, 3) := by decide +kernel
theorem dX8_mark_14 : decode cX8_mark 14 = .ok (.ifCond .eq 31, 3) := by decide +kernel
theorem dX8_mark_17 : decode cX8_mark 17 = .ok (.iload_n 3, 1) := by decide +kernel
theorem dX8_mark_18 : decode cX8_mark 18 = .ok (.invokestatic 101, 3) := by decide +kernel
theorem dX8_mark_21 : decode cX8_mark 21 = .ok (.ifCond .eq 24, 3) := by decide +kernel
theorem dX8_mark_24 : decode cX8_mark 24 = .ok (.iload 4, 2) := by decide +kernel
theorem dX8_mark_26 : decode cX8_mark 26 = .ok (.iconst 0, 1) := by decide +kernel
theorem dX8_mark_27 : decode cX8_mark 27 = .ok (.bipush 30, 2) := by decide +kernel
theorem dX8_mark_29 : decode cX8_mark 29 = .ok (.invokestatic 42, 3) := by decide +kernel
theorem dX8_mark_32 : decode cX8_mark 32 = .ok (.ifCond .eq 13, 3) := by decide +kernel
theorem dX8_mark_35 : decode cX8_mark 35 = .ok (.iload 5, 2) := by decide +kernel
theorem dX8_mark_37 : decode cX8_mark 37 = .ok (.iconst 0, 1) := by decide +kernel
theorem dX8_mark_38 : decode cX8_mark 38 = .ok (.iconst 1, 1) := by decide +kernel
theorem dX8_mark_39 : decode cX8_mark 39 = .ok (.invokestatic 42, 3) := by decide +kernel
theorem dX8_mark_42 : decode cX8_mark 42 = .ok (.ifCond .ne 8, 3) := by decide +kernel
theorem dX8_mark_45 : decode cX8_mark 45 = .ok (.aload_n 0, 1) := by decide +kernel
theorem dX8_mark_46 : decode cX8_mark 46 = .ok (.invokevirtual 86, 3) := by decide +kernel
theorem dX8_mark_49 : decode cX8_mark 49 = .ok (.ireturn, 1) := by decide +kernel
theorem dX8_mark_50 : decode cX8_mark 50 = .ok (.aload_n 0, 1) := by decide +kernel
theorem dX8_mark_51 : decode cX8_mark 51 = .ok (.getfield 13, 3) := by decide +kernel
theorem dX8_mark_54 : decode cX8_mark 54 = .ok (.bipush 106, 2) := by decide +kernel
theorem dX8_mark_56 : decode cX8_mark 56 = .ok (.iaload, 1) := by decide +kernel
theorem dX8_mark_57 : decode cX8_mark 57 = .ok (.bipush 6, 2) := by decide +kernel
theorem dX8_mark_59 : decode cX8_mark 59 = .ok (.if_icmp .ne 8, 3) := by decide +kernel
theorem dX8_mark_62 : decode cX8_mark 62 = .ok (.aload_n 0, 1) := by decide +kernel
theorem dX8_mark_63 : decode cX8_mark 63 = .ok (.invokevirtual 107, 3) := by decide +kernel
theorem dX8_mark_66 : decode cX8_mark 66 = .ok (.ireturn, 1) := by decide +kernel
theorem dX8_mark_67 : decode cX8_mark 67 = .ok (.bipush 107, 2) := by decide +kernel
theorem dX8_mark_69 : decode cX8_mark 69 = .ok (.iconst 5, 1) := by decide +kernel
theorem dX8_mark_70 : decode cX8_mark 70 = .ok (.aload_n 0, 1) := by decide +kernel
theorem dX8_mark_71 : decode cX8_mark 71 = .ok (.getfield 13, 3) := by decide +kernel
theorem dX8_mark_74 : decode cX8_mark 74 = .ok (.bipush 106, 2) := by decide +kernel
theorem dX8_mark_76 : decode cX8_mark 76 = .ok (.iaload, 1) := by decide +kernel
theorem dX8_mark_77 : decode cX8_mark 77 = .ok (.imul, 1) := by decide +kernel
theorem dX8_mark_78 : decode cX8_mark 78 = .ok (.iadd, 1) := by decide +kernel
theorem dX8_mark_79 : decode cX8_mark 79 = .ok (.istore 6, 2) := by decide +kernel
theorem dX8_mark_81 : decode cX8_mark 81 = .ok (.aload_n 0, 1) := by decide +kernel
theorem dX8_mark_82 : decode cX8_mark 82 = .ok (.getfield 13, 3) := by decide +kernel
theorem dX8_mark_85 : decode cX8_mark 85 = .ok (.iload 6, 2) := by decide +kernel
theorem dX8_mark_87 : decode cX8_mark 87 = .ok (.iload_n 1, 1) := by decide +kernel
theorem dX8_mark_88 : decode cX8_mark 88 = .ok (.iastore, 1) := by decide +kernel
theorem dX8_mark_89 : decode cX8_mark 89 = .ok (.aload_n 0, 1) := by decide +kernel
theorem dX8_mark_90 : decode cX8_mark 90 = .ok (.getfield 13, 3) := by decide +kernel
theorem dX8_mark_93 : decode cX8_mark 93 = .ok (.iload 6, 2) := by decide +kernel
theorem dX8_mark_95 : decode cX8_mark 95 = .ok (.iconst 1, 1) := by decide +kernel
theorem dX8_mark_96 : decode cX8_mark 96 = .ok (.iadd, 1) := by decide +kernel
theorem dX8_mark_97 : decode cX8_mark 97 = .ok (.iload_n 2, 1) := by decide +kernel
theorem dX8_mark_98 : decode cX8_mark 98 = .ok (.iastore, 1) := by decide +kernel
theorem dX8_mark_99 : decode cX8_mark 99 = .ok (.aload_n 0, 1) := by decide +kernel
theorem dX8_mark_100 : decode cX8_mark 100 = .ok (.getfield 13, 3) := by decide +kernel
theorem dX8_mark_103 : decode cX8_mark 103 = .ok (.iload 6, 2) := by decide +kernel
theorem dX8_mark_105 : decode cX8_mark 105 = .ok (.iconst 2, 1) := by decide +kernel
theorem dX8_mark_106 : decode cX8_mark 106 = .ok (.iadd, 1) := by decide +kernel
theorem dX8_mark_107 : decode cX8_mark 107 = .ok (.iload_n 3, 1) := by decide +kernel
theorem dX8_mark_108 : decode cX8_mark 108 = .ok (.iastore, 1) := by decide +kernel
theorem dX8_mark_109 : decode cX8_mark 109 = .ok (.aload_n 0, 1) := by decide +kernel
theorem dX8_mark_110 : decode cX8_mark 110 = .ok (.getfield 13, 3) := by decide +kernel
theorem dX8_mark_113 : decode cX8_mark 113 = .ok (.iload 6, 2) := by decide +kernel
theorem dX8_mark_115 : decode cX8_mark 115 = .ok (.iconst 3, 1) := by decide +kernel
theorem dX8_mark_116 : decode cX8_mark 116 = .ok (.iadd, 1) := by decide +kernel
theorem dX8_mark_117 : decode cX8_mark 117 = .ok (.iload 4, 2) := by decide +kernel
theorem dX8_mark_119 : decode cX8_mark 119 = .ok (.iastore, 1) := by decide +kernel
theorem dX8_mark_120 : decode cX8_mark 120 = .ok (.aload_n 0, 1) := by decide +kernel
theorem dX8_mark_121 : decode cX8_mark 121 = .ok (.getfield 13, 3) := by decide +kernel
theorem dX8_mark_124 : decode cX8_mark 124 = .ok (.iload 6, 2) := by decide +kernel
theorem dX8_mark_126 : decode cX8_mark 126 = .ok (.iconst 4, 1) := by decide +kernel
theorem dX8_mark_127 : decode cX8_mark 127 = .ok (.iadd, 1) := by decide +kernel
theorem dX8_mark_128 : decode cX8_mark 128 = .ok (.iload 5, 2) := by decide +kernel
theorem dX8_mark_130 : decode cX8_mark 130 = .ok (.iastore, 1) := by decide +kernel
theorem dX8_mark_131 : decode cX8_mark 131 = .ok (.aload_n 0, 1) := by decide +kernel
theorem dX8_mark_132 : decode cX8_mark 132 = .ok (.getfield 13, 3) := by decide +kernel
theorem dX8_mark_135 : decode cX8_mark 135 = .ok (.bipush 106, 2) := by decide +kernel
theorem dX8_mark_137 : decode cX8_mark 137 = .ok (.dup2, 1) := by decide +kernel
theorem dX8_mark_138 : decode cX8_mark 138 = .ok (.iaload, 1) := by decide +kernel
theorem dX8_mark_139 : decode cX8_mark 139 = .ok (.iconst 1, 1) := by decide +kernel
theorem dX8_mark_140 : decode cX8_mark 140 = .ok (.iadd, 1) := by decide +kernel
theorem dX8_mark_141 : decode cX8_mark 141 = .ok (.iastore, 1) := by decide +kernel
theorem dX8_mark_142 : decode cX8_mark 142 = .ok (.aload_n 0, 1) := by decide +kernel
theorem dX8_mark_143 : decode cX8_mark 143 = .ok (.getfield 13, 3) := by decide +kernel
theorem dX8_mark_146 : decode cX8_mark 146 = .ok (.bipush 106, 2) := by decide +kernel
theorem dX8_mark_148 : decode cX8_mark 148 = .ok (.iaload, 1) := by decide +kernel
theorem dX8_mark_149 : decode cX8_mark 149 = .ok (.ireturn, 1) := by decide +kernel
theorem dX8_forget_0 : decode cX8_forget 0 = .ok (.iload_n 1, 1) := by decide +kernel
theorem dX8_forget_1 : decode cX8_forget 1 = .ok (.iconst 0, 1) := by decide +kernel
theorem dX8_forget_2 : decode cX8_forget 2 = .ok (.iconst 1, 1) := by decide +kernel
theorem dX8_forget_3 : decode cX8_forget 3 = .ok (.invokestatic 42, 3) := by decide +kernel
theorem dX8_forget_6 : decode cX8_forget 6 = .ok (.ifCond .ne 8, 3) := by decide +kernel
theorem dX8_forget_9 : decode cX8_forget 9 = .ok (.aload_n 0, 1) := by decide +kernel
theorem dX8_forget_10 : decode cX8_forget 10 = .ok (.invokevirtual 86, 3) := by decide +kernel
theorem dX8_forget_13 : decode cX8_forget 13 = .ok (.ireturn, 1) := by decide +kernel
theorem dX8_forget_14 : decode cX8_forget 14 = .ok (.iload_n 1, 1) := by decide +kernel
theorem dX8_forget_15 : decode cX8_forget 15 = .ok (.ifCond .ne 8, 3) := by decide +kernel
theorem dX8_forget_18 : decode cX8_forget 18 = .ok (.bipush 81, 2) := by decide +kernel
theorem dX8_forget_20 : decode cX8_forget 20 = .ok (.goto 5, 3) := by decide +kernel
theorem dX8_forget_23 : decode cX8_forget 23 = .ok (.bipush 106, 2) := by decide +kernel
theorem dX8_forget_25 : decode cX8_forget 25 = .ok (.istore_n 2, 1) := by decide +kernel
theorem dX8_forget_26 : decode cX8_forget 26 = .ok (.aload_n 0, 1) := by decide +kernel
theorem dX8_forget_27 : decode cX8_forget 27 = .ok (.getfield 13, 3) := by decide +kernel
theorem dX8_forget_30 : decode cX8_forget 30 = .ok (.iload_n 2, 1) := by decide +kernel
theorem dX8_forget_31 : decode cX8_forget 31 = .ok (.iaload, 1) := by decide +kernel
theorem dX8_forget_32 : decode cX8_forget 32 = .ok (.istore_n 3, 1) := by decide +kernel
theorem dX8_forget_33 : decode cX8_forget 33 = .ok (.aload_n 0, 1) := by decide +kernel
theorem dX8_forget_34 : decode cX8_forget 34 = .ok (.getfield 13, 3) := by decide +kernel
theorem dX8_forget_37 : decode cX8_forget 37 = .ok (.iload_n 2, 1) := by decide +kernel
theorem dX8_forget_38 : decode cX8_forget 38 = .ok (.iconst 0, 1) := by decide +kernel
theorem dX8_forget_39 : decode cX8_forget 39 = .ok (.iastore, 1) := by decide +kernel
theorem dX8_forget_40 : decode cX8_forget 40 = .ok (.iload_n 3, 1) := by decide +kernel
theorem dX8_forget_41 : decode cX8_forget 41 = .ok (.ireturn, 1) := by decide +kernel
theorem dX8_is_0 : decode cX8_is 0 = .ok (.iconst 0, 1) := by decide +kernel
theorem dX8_is_1 : decode cX8_is 1 = .ok (.istore_n 1, 1) := by decide +kernel
theorem dX8_is_2 : decode cX8_is 2 = .ok (.iconst 0, 1) := by decide +kernel
theorem dX8_is_3 : decode cX8_is 3 = .ok (.istore_n 2, 1) := by decide +kernel
theorem dX8_is_4 : decode cX8_is 4 = .ok (.iload_n 2, 1) := by decide +kernel
theorem dX8_is_5 : decode cX8_is 5 = .ok (.bipush 6, 2) := by decide +kernel
theorem dX8_is_7 : decode cX8_is 7 = .ok (.if_icmp .ge 103, 3) := by decide +kernel
theorem dX8_is_10 : decode cX8_is 10 = .ok (.iconst 1, 1) := by decide +kernel
theorem dX8_is_11 : decode cX8_is 11 = .ok (.istore_n 3, 1) := by decide +kernel
theorem dX8_is_12 : decode cX8_is 12 = .ok (.bipush 82, 2) := by decide +kernel
theorem dX8_is_14 : decode cX8_is 14 = .ok (.istore 4, 2) := by decide +kernel
theorem dX8_is_16 : decode cX8_is 16 = .ok (.iload 4, 2) := by decide +kernel
theorem dX8_is_18 : decode cX8_is 18 = .ok (.bipush 82, 2) := by decide +kernel
theorem dX8_is_20 : decode cX8_is 20 = .ok (.iconst 4, 1) := by decide +kernel
theorem dX8_is_21 : decode cX8_is 21 = .ok (.aload_n 0, 1) := by decide +kernel
theorem dX8_is_22 : decode cX8_is 22 = .ok (.getfield 13, 3) := by decide +kernel
theorem dX8_is_25 : decode cX8_is 25 = .ok (.bipush 81, 2) := by decide +kernel
theorem dX8_is_27 : decode cX8_is 27 = .ok (.iaload, 1) := by decide +kernel
theorem dX8_is_28 : decode cX8_is 28 = .ok (.imul, 1) := by decide +kernel
theorem dX8_is_29 : decode cX8_is 29 = .ok (.iadd, 1) := by decide +kernel
theorem dX8_is_30 : decode cX8_is 30 = .ok (.if_icmp .ge 60, 3) := by decide +kernel
theorem dX8_is_33 : decode cX8_is 33 = .ok (.iload_n 3, 1) := by decide +kernel
theorem dX8_is_34 : decode cX8_is 34 = .ok (.ifCond .eq 48, 3) := by decide +kernel
theorem dX8_is_37 : decode cX8_is 37 = .ok (.iload_n 2, 1) := by decide +kernel
theorem dX8_is_38 : decode cX8_is 38 = .ok (.aload_n 0, 1) := by decide +kernel
theorem dX8_is_39 : decode cX8_is 39 = .ok (.getfield 13, 3) := by decide +kernel
theorem dX8_is_42 : decode cX8_is 42 = .ok (.iload 4, 2) := by decide +kernel
theorem dX8_is_44 : decode cX8_is 44 = .ok (.iaload, 1) := by decide +kernel
theorem dX8_is_45 : decode cX8_is 45 = .ok (.aload_n 0, 1) := by decide +kernel
theorem dX8_is_46 : decode cX8_is 46 = .ok (.getfield 13, 3) := by decide +kernel
theorem dX8_is_49 : decode cX8_is 49 = .ok (.iload 4, 2) := by decide +kernel
theorem dX8_is_51 : decode cX8_is 51 = .ok (.iconst 1, 1) := by decide +kernel
theorem dX8_is_52 : decode cX8_is 52 = .ok (.iadd, 1) := by decide +kernel
theorem dX8_is_53 : decode cX8_is 53 = .ok (.iaload, 1) := by decide +kernel
theorem dX8_is_54 : decode cX8_is 54 = .ok (.aload_n 0, 1) := by decide +kernel
theorem dX8_is_55 : decode cX8_is 55 = .ok (.getfield 13, 3) := by decide +kernel
theorem dX8_is_58 : decode cX8_is 58 = .ok (.iload 4, 2) := by decide +kernel
theorem dX8_is_60 : decode cX8_is 60 = .ok (.iconst 2, 1) := by decide +kernel
theorem dX8_is_61 : decode cX8_is 61 = .ok (.iadd, 1) := by decide +kernel
theorem dX8_is_62 : decode cX8_is 62 = .ok (.iaload, 1) := by decide +kernel
theorem dX8_is_63 : decode cX8_is 63 = .ok (.invokestatic 78, 3) := by decide +kernel
theorem dX8_is_66 : decode cX8_is 66 = .ok (.aload_n 0, 1) := by decide +kernel
theorem dX8_is_67 : decode cX8_is 67 = .ok (.getfield 13, 3) := by decide +kernel
theorem dX8_is_70 : decode cX8_is 70 = .ok (.iload 4, 2) := by decide +kernel
theorem dX8_is_72 : decode cX8_is 72 = .ok (.iconst 3, 1) := by decide +kernel
theorem dX8_is_73 : decode cX8_is 73 = .ok (.iadd, 1) := by decide +kernel
theorem dX8_is_74 : decode cX8_is 74 = .ok (.iaload, 1) := by decide +kernel
theorem dX8_is_75 : decode cX8_is 75 = .ok (.if_icmp .ne 7, 3) := by decide +kernel
theorem dX8_is_78 : decode cX8_is 78 = .ok (.iconst 1, 1) := by decide +kernel
theorem dX8_is_79 : decode cX8_is 79 = .ok (.goto 4, 3) := by decide +kernel
theorem dX8_is_82 : decode cX8_is 82 = .ok (.iconst 0, 1) := by decide +kernel
theorem dX8_is_83 : decode cX8_is 83 = .ok (.istore_n 3, 1) := by decide +kernel
theorem dX8_is_84 : decode cX8_is 84 = .ok (.iinc 4 4, 3) := by decide +kernel
theorem dX8_is_87 : decode cX8_is 87 = .ok (.goto (-71), 3) := by decide +kernel
theorem dX8_is_90 : decode cX8_is 90 = .ok (.iload_n 1, 1) := by decide +kernel
theorem dX8_is_91 : decode cX8_is 91 = .ok (.iload_n 3, 1) := by decide +kernel
theorem dX8_is_92 : decode cX8_is 92 = .ok (.ifCond .eq 9, 3) := by decide +kernel
theorem dX8_is_95 : decode cX8_is 95 = .ok (.iconst 1, 1) := by decide +kernel
theorem dX8_is_96 : decode cX8_is 96 = .ok (.iload_n 2, 1) := by decide +kernel
theorem dX8_is_97 : decode cX8_is 97 = .ok (.ishl, 1) := by decide +kernel
theorem dX8_is_98 : decode cX8_is 98 = .ok (.goto 4, 3) := by decide +kernel
theorem dX8_is_101 : decode cX8_is 101 = .ok (.iconst 0, 1) := by decide +kernel
theorem dX8_is_102 : decode cX8_is 102 = .ok (.ior, 1) := by decide +kernel
theorem dX8_is_103 : decode cX8_is 103 = .ok (.istore_n 1, 1) := by decide +kernel
theorem dX8_is_104 : decode cX8_is 104 = .ok (.iinc 2 1, 3) := by decide +kernel
theorem dX8_is_107 : decode cX8_is 107 = .ok (.goto (-103), 3) := by decide +kernel
theorem dX8_is_110 : decode cX8_is 110 = .ok (.iload_n 1, 1) := by decide +kernel
theorem dX8_is_111 : decode cX8_is 111 = .ok (.ireturn, 1) := by decide +kernel
theorem dX8_alike_0 : decode cX8_alike 0 = .ok (.iconst 0, 1) := by decide +kernel
theorem dX8_alike_1 : decode cX8_alike 1 = .ok (.istore 4, 2) := by decide +kernel
theorem dX8_alike_3 : decode cX8_alike 3 = .ok (.bipush (-9), 2) := by decide +kernel
theorem dX8_alike_5 : decode cX8_alike 5 = .ok (.istore 5, 2) := by decide +kernel
theorem dX8_alike_7 : decode cX8_alike 7 = .ok (.iload 5, 2) := by decide +kernel
theorem dX8_alike_9 : decode cX8_alike 9 = .ok (.bipush 10, 2) := by decide +kernel
theorem dX8_alike_11 : decode cX8_alike 11 = .ok (.if_icmp .ge 81, 3) := by decide +kernel
theorem dX8_alike_14 : decode cX8_alike 14 = .ok (.iconst 0, 1) := by decide +kernel
theorem dX8_alike_15 : decode cX8_alike 15 = .ok (.istore 6, 2) := by decide +kernel
theorem dX8_alike_17 : decode cX8_alike 17 = .ok (.iconst 0, 1) := by decide +kernel
theorem dX8_alike_18 : decode cX8_alike 18 = .ok (.istore 7, 2) := by decide +kernel
theorem dX8_alike_20 : decode cX8_alike 20 = .ok (.iload 7, 2) := by decide +kernel
theorem dX8_alike_22 : decode cX8_alike 22 = .ok (.bipush 6, 2) := by decide +kernel
theorem dX8_alike_24 : decode cX8_alike 24 = .ok (.if_icmp .ge 46, 3) := by decide +kernel
theorem dX8_alike_27 : decode cX8_alike 27 = .ok (.iload 6, 2) := by decide +kernel
theorem dX8_alike_29 : decode cX8_alike 29 = .ok (.iload_n 1, 1) := by decide +kernel
theorem dX8_alike_30 : decode cX8_alike 30 = .ok (.iload 7, 2) := by decide +kernel
theorem dX8_alike_32 : decode cX8_alike 32 = .ok (.invokestatic 214, 3) := by decide +kernel
theorem dX8_alike_35 : decode cX8_alike 35 = .ok (.ifCond .eq 25, 3) := by decide +kernel
theorem dX8_alike_38 : decode cX8_alike 38 = .ok (.iload 7, 2) := by decide +kernel
theorem dX8_alike_40 : decode cX8_alike 40 = .ok (.aload_n 0, 1) := by decide +kernel
theorem dX8_alike_41 : decode cX8_alike 41 = .ok (.getfield 13, 3) := by decide +kernel
theorem dX8_alike_44 : decode cX8_alike 44 = .ok (.iconst 1, 1) := by decide +kernel
theorem dX8_alike_45 : decode cX8_alike 45 = .ok (.iaload, 1) := by decide +kernel
theorem dX8_alike_46 : decode cX8_alike 46 = .ok (.iload_n 2, 1) := by decide +kernel
theorem dX8_alike_47 : decode cX8_alike 47 = .ok (.iload_n 3, 1) := by decide +kernel
theorem dX8_alike_48 : decode cX8_alike 48 = .ok (.invokestatic 78, 3) := by decide +kernel
theorem dX8_alike_51 : decode cX8_alike 51 = .ok (.iload 5, 2) := by decide +kernel
theorem dX8_alike_53 : decode cX8_alike 53 = .ok (.if_icmp .ne 7, 3) := by decide +kernel
theorem dX8_alike_56 : decode cX8_alike 56 = .ok (.iconst 1, 1) := by decide +kernel
theorem dX8_alike_57 : decode cX8_alike 57 = .ok (.goto 4, 3) := by decide +kernel
theorem dX8_alike_60 : decode cX8_alike 60 = .ok (.iconst 0, 1) := by decide +kernel
theorem dX8_alike_61 : decode cX8_alike 61 = .ok (.iadd, 1) := by decide +kernel
theorem dX8_alike_62 : decode cX8_alike 62 = .ok (.istore 6, 2) := by decide +kernel
theorem dX8_alike_64 : decode cX8_alike 64 = .ok (.iinc 7 1, 3) := by decide +kernel
theorem dX8_alike_67 : decode cX8_alike 67 = .ok (.goto (-47), 3) := by decide +kernel
theorem dX8_alike_70 : decode cX8_alike 70 = .ok (.iload 6, 2) := by decide +kernel
theorem dX8_alike_72 : decode cX8_alike 72 = .ok (.iload 4, 2) := by decide +kernel
theorem dX8_alike_74 : decode cX8_alike 74 = .ok (.if_icmp .le 8, 3) := by decide +kernel
theorem dX8_alike_77 : decode cX8_alike 77 = .ok (.iload 6, 2) := by decide +kernel
theorem dX8_alike_79 : decode cX8_alike 79 = .ok (.goto 5, 3) := by decide +kernel
theorem dX8_alike_82 : decode cX8_alike 82 = .ok (.iload 4, 2) := by decide +kernel
theorem dX8_alike_84 : decode cX8_alike 84 = .ok (.istore 4, 2) := by decide +kernel
theorem dX8_alike_86 : decode cX8_alike 86 = .ok (.iinc 5 1, 3) := by decide +kernel
theorem dX8_alike_89 : decode cX8_alike 89 = .ok (.goto (-82), 3) := by decide +kernel
theorem dX8_alike_92 : decode cX8_alike 92 = .ok (.iload 4, 2) := by decide +kernel
theorem dX8_alike_94 : decode cX8_alike 94 = .ok (.ireturn, 1) := by decide +kernel
theorem dX8_watch_0 : decode cX8_watch 0 = .ok (.aload_n 0, 1) := by decide +kernel
theorem dX8_watch_1 : decode cX8_watch 1 = .ok (.invokevirtual 217, 3) := by decide +kernel
theorem dX8_watch_4 : decode cX8_watch 4 = .ok (.istore_n 1, 1) := by decide +kernel
theorem dX8_watch_5 : decode cX8_watch 5 = .ok (.iconst (-1), 1) := by decide +kernel
theorem dX8_watch_6 : decode cX8_watch 6 = .ok (.istore_n 2, 1) := by decide +kernel
theorem dX8_watch_7 : decode cX8_watch 7 = .ok (.bipush 7, 2) := by decide +kernel
theorem dX8_watch_9 : decode cX8_watch 9 = .ok (.istore_n 3, 1) := by decide +kernel
theorem dX8_watch_10 : decode cX8_watch 10 = .ok (.iconst 0, 1) := by decide +kernel
theorem dX8_watch_11 : decode cX8_watch 11 = .ok (.istore 4, 2) := by decide +kernel
theorem dX8_watch_13 : decode cX8_watch 13 = .ok (.iload 4, 2) := by decide +kernel
theorem dX8_watch_15 : decode cX8_watch 15 = .ok (.bipush 6, 2) := by decide +kernel
theorem dX8_watch_17 : decode cX8_watch 17 = .ok (.if_icmp .ge 72, 3) := by decide +kernel
theorem dX8_watch_20 : decode cX8_watch 20 = .ok (.bipush (-9), 2) := by decide +kernel
theorem dX8_watch_22 : decode cX8_watch 22 = .ok (.istore 5, 2) := by decide +kernel
theorem dX8_watch_24 : decode cX8_watch 24 = .ok (.iload 5, 2) := by decide +kernel
theorem dX8_watch_26 : decode cX8_watch 26 = .ok (.bipush 10, 2) := by decide +kernel
theorem dX8_watch_28 : decode cX8_watch 28 = .ok (.if_icmp .ge 55, 3) := by decide +kernel
theorem dX8_watch_31 : decode cX8_watch 31 = .ok (.aload_n 0, 1) := by decide +kernel
theorem dX8_watch_32 : decode cX8_watch 32 = .ok (.iload_n 1, 1) := by decide +kernel
theorem dX8_watch_33 : decode cX8_watch 33 = .ok (.iload 5, 2) := by decide +kernel
theorem dX8_watch_35 : decode cX8_watch 35 = .ok (.iload 4, 2) := by decide +kernel
theorem dX8_watch_37 : decode cX8_watch 37 = .ok (.invokevirtual 220, 3) := by decide +kernel
theorem dX8_watch_40 : decode cX8_watch 40 = .ok (.istore 6, 2) := by decide +kernel
theorem dX8_watch_42 : decode cX8_watch 42 = .ok (.iload 6, 2) := by decide +kernel
theorem dX8_watch_44 : decode cX8_watch 44 = .ok (.iload_n 3, 1) := by decide +kernel
theorem dX8_watch_45 : decode cX8_watch 45 = .ok (.if_icmp .ge 17, 3) := by decide +kernel
theorem dX8_watch_48 : decode cX8_watch 48 = .ok (.bipush 100, 2) := by decide +kernel
theorem dX8_watch_50 : decode cX8_watch 50 = .ok (.iload 4, 2) := by decide +kernel
theorem dX8_watch_52 : decode cX8_watch 52 = .ok (.imul, 1) := by decide +kernel
theorem dX8_watch_53 : decode cX8_watch 53 = .ok (.iload 5, 2) := by decide +kernel
theorem dX8_watch_55 : decode cX8_watch 55 = .ok (.iadd, 1) := by decide +kernel
theorem dX8_watch_56 : decode cX8_watch 56 = .ok (.bipush 9, 2) := by decide +kernel
theorem dX8_watch_58 : decode cX8_watch 58 = .ok (.iadd, 1) := by decide +kernel
theorem dX8_watch_59 : decode cX8_watch 59 = .ok (.goto 4, 3) := by decide +kernel
theorem dX8_watch_62 : decode cX8_watch 62 = .ok (.iload_n 2, 1) := by decide +kernel
theorem dX8_watch_63 : decode cX8_watch 63 = .ok (.istore_n 2, 1) := by decide +kernel
theorem dX8_watch_64 : decode cX8_watch 64 = .ok (.iload 6, 2) := by decide +kernel
theorem dX8_watch_66 : decode cX8_watch 66 = .ok (.iload_n 3, 1) := by decide +kernel
theorem dX8_watch_67 : decode cX8_watch 67 = .ok (.if_icmp .ge 8, 3) := by decide +kernel
theorem dX8_watch_70 : decode cX8_watch 70 = .ok (.iload 6, 2) := by decide +kernel
theorem dX8_watch_72 : decode cX8_watch 72 = .ok (.goto 4, 3) := by decide +kernel
theorem dX8_watch_75 : decode cX8_watch 75 = .ok (.iload_n 3, 1) := by decide +kernel
theorem dX8_watch_76 : decode cX8_watch 76 = .ok (.istore_n 3, 1) := by decide +kernel
theorem dX8_watch_77 : decode cX8_watch 77 = .ok (.iinc 5 1, 3) := by decide +kernel
theorem dX8_watch_80 : decode cX8_watch 80 = .ok (.goto (-56), 3) := by decide +kernel
theorem dX8_watch_83 : decode cX8_watch 83 = .ok (.iinc 4 1, 3) := by decide +kernel
theorem dX8_watch_86 : decode cX8_watch 86 = .ok (.goto (-73), 3) := by decide +kernel
theorem dX8_watch_89 : decode cX8_watch 89 = .ok (.iload_n 1, 1) := by decide +kernel
theorem dX8_watch_90 : decode cX8_watch 90 = .ok (.ifCond .ne 7, 3) := by decide +kernel
theorem dX8_watch_93 : decode cX8_watch 93 = .ok (.iconst (-1), 1) := by decide +kernel
theorem dX8_watch_94 : decode cX8_watch 94 = .ok (.goto 4, 3) := by decide +kernel
theorem dX8_watch_97 : decode cX8_watch 97 = .ok (.iload_n 2, 1) := by decide +kernel
theorem dX8_watch_98 : decode cX8_watch 98 = .ok (.ireturn, 1) := by decide +kernel
theorem dX8_kindsBy_0 : decode cX8_kindsBy 0 = .ok (.iconst 0, 1) := by decide +kernel
theorem dX8_kindsBy_1 : decode cX8_kindsBy 1 = .ok (.istore_n 2, 1) := by decide +kernel
theorem dX8_kindsBy_2 : decode cX8_kindsBy 2 = .ok (.iconst 0, 1) := by decide +kernel
theorem dX8_kindsBy_3 : decode cX8_kindsBy 3 = .ok (.istore_n 3, 1) := by decide +kernel
theorem dX8_kindsBy_4 : decode cX8_kindsBy 4 = .ok (.iload_n 3, 1) := by decide +kernel
theorem dX8_kindsBy_5 : decode cX8_kindsBy 5 = .ok (.bipush 6, 2) := by decide +kernel
theorem dX8_kindsBy_7 : decode cX8_kindsBy 7 = .ok (.if_icmp .ge 133, 3) := by decide +kernel
theorem dX8_kindsBy_10 : decode cX8_kindsBy 10 = .ok (.iconst 1, 1) := by decide +kernel
theorem dX8_kindsBy_11 : decode cX8_kindsBy 11 = .ok (.istore 4, 2) := by decide +kernel
theorem dX8_kindsBy_13 : decode cX8_kindsBy 13 = .ok (.bipush 107, 2) := by decide +kernel
theorem dX8_kindsBy_15 : decode cX8_kindsBy 15 = .ok (.istore 5, 2) := by decide +kernel
theorem dX8_kindsBy_17 : decode cX8_kindsBy 17 = .ok (.iload 5, 2) := by decide +kernel
theorem dX8_kindsBy_19 : decode cX8_kindsBy 19 = .ok (.bipush 107, 2) := by decide +kernel
theorem dX8_kindsBy_21 : decode cX8_kindsBy 21 = .ok (.iconst 5, 1) := by decide +kernel
theorem dX8_kindsBy_22 : decode cX8_kindsBy 22 = .ok (.aload_n 0, 1) := by decide +kernel
theorem dX8_kindsBy_23 : decode cX8_kindsBy 23 = .ok (.getfield 13, 3) := by decide +kernel
theorem dX8_kindsBy_26 : decode cX8_kindsBy 26 = .ok (.bipush 106, 2) := by decide +kernel
theorem dX8_kindsBy_28 : decode cX8_kindsBy 28 = .ok (.iaload, 1) := by decide +kernel
theorem dX8_kindsBy_29 : decode cX8_kindsBy 29 = .ok (.imul, 1) := by decide +kernel
theorem dX8_kindsBy_30 : decode cX8_kindsBy 30 = .ok (.iadd, 1) := by decide +kernel
theorem dX8_kindsBy_31 : decode cX8_kindsBy 31 = .ok (.if_icmp .ge 88, 3) := by decide +kernel
theorem dX8_kindsBy_34 : decode cX8_kindsBy 34 = .ok (.iload_n 3, 1) := by decide +kernel
theorem dX8_kindsBy_35 : decode cX8_kindsBy 35 = .ok (.aload_n 0, 1) := by decide +kernel
theorem dX8_kindsBy_36 : decode cX8_kindsBy 36 = .ok (.getfield 13, 3) := by decide +kernel
theorem dX8_kindsBy_39 : decode cX8_kindsBy 39 = .ok (.iload 5, 2) := by decide +kernel
theorem dX8_kindsBy_41 : decode cX8_kindsBy 41 = .ok (.iconst 1, 1) := by decide +kernel
theorem dX8_kindsBy_42 : decode cX8_kindsBy 42 = .ok (.iadd, 1) := by decide +kernel
theorem dX8_kindsBy_43 : decode cX8_kindsBy 43 = .ok (.iaload, 1) := by decide +kernel
theorem dX8_kindsBy_44 : decode cX8_kindsBy 44 = .ok (.aload_n 0, 1) := by decide +kernel
theorem dX8_kindsBy_45 : decode cX8_kindsBy 45 = .ok (.getfield 13, 3) := by decide +kernel
theorem dX8_kindsBy_48 : decode cX8_kindsBy 48 = .ok (.iload 5, 2) := by decide +kernel
theorem dX8_kindsBy_50 : decode cX8_kindsBy 50 = .ok (.iconst 2, 1) := by decide +kernel
theorem dX8_kindsBy_51 : decode cX8_kindsBy 51 = .ok (.iadd, 1) := by decide +kernel
theorem dX8_kindsBy_52 : decode cX8_kindsBy 52 = .ok (.iaload, 1) := by decide +kernel
theorem dX8_kindsBy_53 : decode cX8_kindsBy 53 = .ok (.aload_n 0, 1) := by decide +kernel
theorem dX8_kindsBy_54 : decode cX8_kindsBy 54 = .ok (.getfield 13, 3) := by decide +kernel
theorem dX8_kindsBy_57 : decode cX8_kindsBy 57 = .ok (.iload 5, 2) := by decide +kernel
theorem dX8_kindsBy_59 : decode cX8_kindsBy 59 = .ok (.iconst 3, 1) := by decide +kernel
theorem dX8_kindsBy_60 : decode cX8_kindsBy 60 = .ok (.iadd, 1) := by decide +kernel
theorem dX8_kindsBy_61 : decode cX8_kindsBy 61 = .ok (.iaload, 1) := by decide +kernel
theorem dX8_kindsBy_62 : decode cX8_kindsBy 62 = .ok (.invokestatic 67, 3) := by decide +kernel
theorem dX8_kindsBy_65 : decode cX8_kindsBy 65 = .ok (.istore 6, 2) := by decide +kernel
theorem dX8_kindsBy_67 : decode cX8_kindsBy 67 = .ok (.iload 4, 2) := by decide +kernel
theorem dX8_kindsBy_69 : decode cX8_kindsBy 69 = .ok (.ifCond .eq 41, 3) := by decide +kernel
theorem dX8_kindsBy_72 : decode cX8_kindsBy 72 = .ok (.aload_n 0, 1) := by decide +kernel
theorem dX8_kindsBy_73 : decode cX8_kindsBy 73 = .ok (.getfield 13, 3) := by decide +kernel
theorem dX8_kindsBy_76 : decode cX8_kindsBy 76 = .ok (.iload 5, 2) := by decide +kernel
theorem dX8_kindsBy_78 : decode cX8_kindsBy 78 = .ok (.iaload, 1) := by decide +kernel
theorem dX8_kindsBy_79 : decode cX8_kindsBy 79 = .ok (.iload_n 1, 1) := by decide +kernel
theorem dX8_kindsBy_80 : decode cX8_kindsBy 80 = .ok (.if_icmp .ne 26, 3) := by decide +kernel
theorem dX8_kindsBy_83 : decode cX8_kindsBy 83 = .ok (.iload 6, 2) := by decide +kernel
theorem dX8_kindsBy_85 : decode cX8_kindsBy 85 = .ok (.aload_n 0, 1) := by decide +kernel
theorem dX8_kindsBy_86 : decode cX8_kindsBy 86 = .ok (.getfield 13, 3) := by decide +kernel
theorem dX8_kindsBy_89 : decode cX8_kindsBy 89 = .ok (.iload 5, 2) := by decide +kernel
theorem dX8_kindsBy_91 : decode cX8_kindsBy 91 = .ok (.iconst 4, 1) := by decide +kernel
theorem dX8_kindsBy_92 : decode cX8_kindsBy 92 = .ok (.iadd, 1) := by decide +kernel
theorem dX8_kindsBy_93 : decode cX8_kindsBy 93 = .ok (.iaload, 1) := by decide +kernel
theorem dX8_kindsBy_94 : decode cX8_kindsBy 94 = .ok (.iconst 1, 1) := by decide +kernel
theorem dX8_kindsBy_95 : decode cX8_kindsBy 95 = .ok (.if_icmp .ne 7, 3) := by decide +kernel
theorem dX8_kindsBy_98 : decode cX8_kindsBy 98 = .ok (.iconst 1, 1) := by decide +kernel
theorem dX8_kindsBy_99 : decode cX8_kindsBy 99 = .ok (.goto 4, 3) := by decide +kernel
theorem dX8_kindsBy_102 : decode cX8_kindsBy 102 = .ok (.iconst 0, 1) := by decide +kernel
theorem dX8_kindsBy_103 : decode cX8_kindsBy 103 = .ok (.if_icmp .ne 7, 3) := by decide +kernel
theorem dX8_kindsBy_106 : decode cX8_kindsBy 106 = .ok (.iconst 1, 1) := by decide +kernel
theorem dX8_kindsBy_107 : decode cX8_kindsBy 107 = .ok (.goto 4, 3) := by decide +kernel
theorem dX8_kindsBy_110 : decode cX8_kindsBy 110 = .ok (.iconst 0, 1) := by decide +kernel
theorem dX8_kindsBy_111 : decode cX8_kindsBy 111 = .ok (.istore 4, 2) := by decide +kernel
theorem dX8_kindsBy_113 : decode cX8_kindsBy 113 = .ok (.iinc 5 5, 3) := by decide +kernel
theorem dX8_kindsBy_116 : decode cX8_kindsBy 116 = .ok (.goto (-99), 3) := by decide +kernel
theorem dX8_kindsBy_119 : decode cX8_kindsBy 119 = .ok (.iload_n 2, 1) := by decide +kernel
theorem dX8_kindsBy_120 : decode cX8_kindsBy 120 = .ok (.iload 4, 2) := by decide +kernel
theorem dX8_kindsBy_122 : decode cX8_kindsBy 122 = .ok (.ifCond .eq 9, 3) := by decide +kernel
theorem dX8_kindsBy_125 : decode cX8_kindsBy 125 = .ok (.iconst 1, 1) := by decide +kernel
theorem dX8_kindsBy_126 : decode cX8_kindsBy 126 = .ok (.iload_n 3, 1) := by decide +kernel
theorem dX8_kindsBy_127 : decode cX8_kindsBy 127 = .ok (.ishl, 1) := by decide +kernel
theorem dX8_kindsBy_128 : decode cX8_kindsBy 128 = .ok (.goto 4, 3) := by decide +kernel
theorem dX8_kindsBy_131 : decode cX8_kindsBy 131 = .ok (.iconst 0, 1) := by decide +kernel
theorem dX8_kindsBy_132 : decode cX8_kindsBy 132 = .ok (.ior, 1) := by decide +kernel
theorem dX8_kindsBy_133 : decode cX8_kindsBy 133 = .ok (.istore_n 2, 1) := by decide +kernel
theorem dX8_kindsBy_134 : decode cX8_kindsBy 134 = .ok (.iinc 3 1, 3) := by decide +kernel
theorem dX8_kindsBy_137 : decode cX8_kindsBy 137 = .ok (.goto (-133), 3) := by decide +kernel
theorem dX8_kindsBy_140 : decode cX8_kindsBy 140 = .ok (.iload_n 2, 1) := by decide +kernel
theorem dX8_kindsBy_141 : decode cX8_kindsBy 141 = .ok (.ireturn, 1) := by decide +kernel
theorem dX8_kinds_0 : decode cX8_kinds 0 = .ok (.iload_n 1, 1) := by decide +kernel
theorem dX8_kinds_1 : decode cX8_kinds 1 = .ok (.iconst 0, 1) := by decide +kernel
theorem dX8_kinds_2 : decode cX8_kinds 2 = .ok (.bipush 9, 2) := by decide +kernel
theorem dX8_kinds_4 : decode cX8_kinds 4 = .ok (.invokestatic 42, 3) := by decide +kernel
theorem dX8_kinds_7 : decode cX8_kinds 7 = .ok (.ifCond .eq 11, 3) := by decide +kernel
theorem dX8_kinds_10 : decode cX8_kinds 10 = .ok (.aload_n 0, 1) := by decide +kernel
theorem dX8_kinds_11 : decode cX8_kinds 11 = .ok (.iload_n 1, 1) := by decide +kernel
theorem dX8_kinds_12 : decode cX8_kinds 12 = .ok (.invokevirtual 223, 3) := by decide +kernel
theorem dX8_kinds_15 : decode cX8_kinds 15 = .ok (.goto 7, 3) := by decide +kernel
theorem dX8_kinds_18 : decode cX8_kinds 18 = .ok (.aload_n 0, 1) := by decide +kernel
theorem dX8_kinds_19 : decode cX8_kinds 19 = .ok (.invokevirtual 86, 3) := by decide +kernel
theorem dX8_kinds_22 : decode cX8_kinds 22 = .ok (.ireturn, 1) := by decide +kernel
theorem dX8_tries_0 : decode cX8_tries 0 = .ok (.iload_n 1, 1) := by decide +kernel
theorem dX8_tries_1 : decode cX8_tries 1 = .ok (.iconst 0, 1) := by decide +kernel
theorem dX8_tries_2 : decode cX8_tries 2 = .ok (.bipush 9, 2) := by decide +kernel
theorem dX8_tries_4 : decode cX8_tries 4 = .ok (.invokestatic 42, 3) := by decide +kernel
theorem dX8_tries_7 : decode cX8_tries 7 = .ok (.ifCond .ne 8, 3) := by decide +kernel
theorem dX8_tries_10 : decode cX8_tries 10 = .ok (.aload_n 0, 1) := by decide +kernel
theorem dX8_tries_11 : decode cX8_tries 11 = .ok (.invokevirtual 86, 3) := by decide +kernel
theorem dX8_tries_14 : decode cX8_tries 14 = .ok (.ireturn, 1) := by decide +kernel
theorem dX8_tries_15 : decode cX8_tries 15 = .ok (.aload_n 0, 1) := by decide +kernel
theorem dX8_tries_16 : decode cX8_tries 16 = .ok (.iload_n 1, 1) := by decide +kernel
theorem dX8_tries_17 : decode cX8_tries 17 = .ok (.invokevirtual 223, 3) := by decide +kernel
theorem dX8_tries_20 : decode cX8_tries 20 = .ok (.istore_n 2, 1) := by decide +kernel
theorem dX8_tries_21 : decode cX8_tries 21 = .ok (.iconst (-1), 1) := by decide +kernel
theorem dX8_tries_22 : decode cX8_tries 22 = .ok (.istore_n 3, 1) := by decide +kernel
theorem dX8_tries_23 : decode cX8_tries 23 = .ok (.bipush 7, 2) := by decide +kernel
theorem dX8_tries_25 : decode cX8_tries 25 = .ok (.istore 4, 2) := by decide +kernel
theorem dX8_tries_27 : decode cX8_tries 27 = .ok (.iconst 0, 1) := by decide +kernel
theorem dX8_tries_28 : decode cX8_tries 28 = .ok (.istore 5, 2) := by decide +kernel
theorem dX8_tries_30 : decode cX8_tries 30 = .ok (.iload 5, 2) := by decide +kernel
theorem dX8_tries_32 : decode cX8_tries 32 = .ok (.bipush 10, 2) := by decide +kernel
theorem dX8_tries_34 : decode cX8_tries 34 = .ok (.if_icmp .ge 137, 3) := by decide +kernel
theorem dX8_tries_37 : decode cX8_tries 37 = .ok (.iconst 0, 1) := by decide +kernel
theorem dX8_tries_38 : decode cX8_tries 38 = .ok (.istore 6, 2) := by decide +kernel
theorem dX8_tries_40 : decode cX8_tries 40 = .ok (.iload 6, 2) := by decide +kernel
theorem dX8_tries_42 : decode cX8_tries 42 = .ok (.bipush 10, 2) := by decide +kernel
theorem dX8_tries_44 : decode cX8_tries 44 = .ok (.if_icmp .ge 121, 3) := by decide +kernel
theorem dX8_tries_47 : decode cX8_tries 47 = .ok (.iconst 0, 1) := by decide +kernel
theorem dX8_tries_48 : decode cX8_tries 48 = .ok (.istore 7, 2) := by decide +kernel
theorem dX8_tries_50 : decode cX8_tries 50 = .ok (.iconst 0, 1) := by decide +kernel
theorem dX8_tries_51 : decode cX8_tries 51 = .ok (.istore 8, 2) := by decide +kernel
theorem dX8_tries_53 : decode cX8_tries 53 = .ok (.iload 8, 2) := by decide +kernel
theorem dX8_tries_55 : decode cX8_tries 55 = .ok (.bipush 6, 2) := by decide +kernel
theorem dX8_tries_57 : decode cX8_tries 57 = .ok (.if_icmp .ge 41, 3) := by decide +kernel
theorem dX8_tries_60 : decode cX8_tries 60 = .ok (.iload 7, 2) := by decide +kernel
theorem dX8_tries_62 : decode cX8_tries 62 = .ok (.iload_n 2, 1) := by decide +kernel
theorem dX8_tries_63 : decode cX8_tries 63 = .ok (.iload 8, 2) := by decide +kernel
theorem dX8_tries_65 : decode cX8_tries 65 = .ok (.invokestatic 214, 3) := by decide +kernel
theorem dX8_tries_68 : decode cX8_tries 68 = .ok (.ifCond .eq 20, 3) := by decide +kernel
theorem dX8_tries_71 : decode cX8_tries 71 = .ok (.iload 8, 2) := by decide +kernel
theorem dX8_tries_73 : decode cX8_tries 73 = .ok (.iload 5, 2) := by decide +kernel
theorem dX8_tries_75 : decode cX8_tries 75 = .ok (.iconst 0, 1) := by decide +kernel
theorem dX8_tries_76 : decode cX8_tries 76 = .ok (.iload 6, 2) := by decide +kernel
theorem dX8_tries_78 : decode cX8_tries 78 = .ok (.invokestatic 67, 3) := by decide +kernel
theorem dX8_tries_81 : decode cX8_tries 81 = .ok (.ifCond .eq 7, 3) := by decide +kernel
theorem dX8_tries_84 : decode cX8_tries 84 = .ok (.iconst 1, 1) := by decide +kernel
theorem dX8_tries_85 : decode cX8_tries 85 = .ok (.goto 4, 3) := by decide +kernel
theorem dX8_tries_88 : decode cX8_tries 88 = .ok (.iconst 0, 1) := by decide +kernel
theorem dX8_tries_89 : decode cX8_tries 89 = .ok (.iadd, 1) := by decide +kernel
theorem dX8_tries_90 : decode cX8_tries 90 = .ok (.istore 7, 2) := by decide +kernel
theorem dX8_tries_92 : decode cX8_tries 92 = .ok (.iinc 8 1, 3) := by decide +kernel
theorem dX8_tries_95 : decode cX8_tries 95 = .ok (.goto (-42), 3) := by decide +kernel
theorem dX8_tries_98 : decode cX8_tries 98 = .ok (.iconst 2, 1) := by decide +kernel
theorem dX8_tries_99 : decode cX8_tries 99 = .ok (.iload 7, 2) := by decide +kernel
theorem dX8_tries_101 : decode cX8_tries 101 = .ok (.imul, 1) := by decide +kernel
theorem dX8_tries_102 : decode cX8_tries 102 = .ok (.iload_n 2, 1) := by decide +kernel
theorem dX8_tries_103 : decode cX8_tries 103 = .ok (.invokestatic 205, 3) := by decide +kernel
theorem dX8_tries_106 : decode cX8_tries 106 = .ok (.if_icmp .le 8, 3) := by decide +kernel
theorem dX8_tries_109 : decode cX8_tries 109 = .ok (.iload 7, 2) := by decide +kernel
theorem dX8_tries_111 : decode cX8_tries 111 = .ok (.goto 10, 3) := by decide +kernel
theorem dX8_tries_114 : decode cX8_tries 114 = .ok (.iload_n 2, 1) := by decide +kernel
theorem dX8_tries_115 : decode cX8_tries 115 = .ok (.invokestatic 205, 3) := by decide +kernel
theorem dX8_tries_118 : decode cX8_tries 118 = .ok (.iload 7, 2) := by decide +kernel
theorem dX8_tries_120 : decode cX8_tries 120 = .ok (.isub, 1) := by decide +kernel
theorem dX8_tries_121 : decode cX8_tries 121 = .ok (.istore 8, 2) := by decide +kernel
theorem dX8_tries_123 : decode cX8_tries 123 = .ok (.iload 8, 2) := by decide +kernel
theorem dX8_tries_125 : decode cX8_tries 125 = .ok (.iload 4, 2) := by decide +kernel
theorem dX8_tries_127 : decode cX8_tries 127 = .ok (.if_icmp .ge 14, 3) := by decide +kernel
theorem dX8_tries_130 : decode cX8_tries 130 = .ok (.bipush 100, 2) := by decide +kernel
theorem dX8_tries_132 : decode cX8_tries 132 = .ok (.iload 5, 2) := by decide +kernel
theorem dX8_tries_134 : decode cX8_tries 134 = .ok (.imul, 1) := by decide +kernel
theorem dX8_tries_135 : decode cX8_tries 135 = .ok (.iload 6, 2) := by decide +kernel
theorem dX8_tries_137 : decode cX8_tries 137 = .ok (.iadd, 1) := by decide +kernel
theorem dX8_tries_138 : decode cX8_tries 138 = .ok (.goto 4, 3) := by decide +kernel
theorem dX8_tries_141 : decode cX8_tries 141 = .ok (.iload_n 3, 1) := by decide +kernel
theorem dX8_tries_142 : decode cX8_tries 142 = .ok (.istore_n 3, 1) := by decide +kernel
theorem dX8_tries_143 : decode cX8_tries 143 = .ok (.iload 8, 2) := by decide +kernel
theorem dX8_tries_145 : decode cX8_tries 145 = .ok (.iload 4, 2) := by decide +kernel
theorem dX8_tries_147 : decode cX8_tries 147 = .ok (.if_icmp .ge 8, 3) := by decide +kernel
theorem dX8_tries_150 : decode cX8_tries 150 = .ok (.iload 8, 2) := by decide +kernel
theorem dX8_tries_152 : decode cX8_tries 152 = .ok (.goto 5, 3) := by decide +kernel
theorem dX8_tries_155 : decode cX8_tries 155 = .ok (.iload 4, 2) := by decide +kernel
theorem dX8_tries_157 : decode cX8_tries 157 = .ok (.istore 4, 2) := by decide +kernel
theorem dX8_tries_159 : decode cX8_tries 159 = .ok (.iinc 6 1, 3) := by decide +kernel
theorem dX8_tries_162 : decode cX8_tries 162 = .ok (.goto (-122), 3) := by decide +kernel
theorem dX8_tries_165 : decode cX8_tries 165 = .ok (.iinc 5 1, 3) := by decide +kernel
theorem dX8_tries_168 : decode cX8_tries 168 = .ok (.goto (-138), 3) := by decide +kernel
theorem dX8_tries_171 : decode cX8_tries 171 = .ok (.iload_n 2, 1) := by decide +kernel
theorem dX8_tries_172 : decode cX8_tries 172 = .ok (.ifCond .ne 7, 3) := by decide +kernel
theorem dX8_tries_175 : decode cX8_tries 175 = .ok (.iconst (-1), 1) := by decide +kernel
theorem dX8_tries_176 : decode cX8_tries 176 = .ok (.goto 4, 3) := by decide +kernel
theorem dX8_tries_179 : decode cX8_tries 179 = .ok (.iload_n 3, 1) := by decide +kernel
theorem dX8_tries_180 : decode cX8_tries 180 = .ok (.ireturn, 1) := by decide +kernel
theorem dX8_offBy_0 : decode cX8_offBy 0 = .ok (.iload_n 1, 1) := by decide +kernel
theorem dX8_offBy_1 : decode cX8_offBy 1 = .ok (.ifCond .eq 19, 3) := by decide +kernel
theorem dX8_offBy_4 : decode cX8_offBy 4 = .ok (.aload_n 0, 1) := by decide +kernel
theorem dX8_offBy_5 : decode cX8_offBy 5 = .ok (.getfield 13, 3) := by decide +kernel
theorem dX8_offBy_8 : decode cX8_offBy 8 = .ok (.aload_n 0, 1) := by decide +kernel
theorem dX8_offBy_9 : decode cX8_offBy 9 = .ok (.getfield 13, 3) := by decide +kernel
theorem dX8_offBy_12 : decode cX8_offBy 12 = .ok (.iconst 2, 1) := by decide +kernel
theorem dX8_offBy_13 : decode cX8_offBy 13 = .ok (.iaload, 1) := by decide +kernel
theorem dX8_offBy_14 : decode cX8_offBy 14 = .ok (.invokestatic 75, 3) := by decide +kernel
theorem dX8_offBy_17 : decode cX8_offBy 17 = .ok (.goto 4, 3) := by decide +kernel
theorem dX8_offBy_20 : decode cX8_offBy 20 = .ok (.iconst 0, 1) := by decide +kernel
theorem dX8_offBy_21 : decode cX8_offBy 21 = .ok (.istore_n 3, 1) := by decide +kernel
theorem dX8_offBy_22 : decode cX8_offBy 22 = .ok (.iload_n 2, 1) := by decide +kernel
theorem dX8_offBy_23 : decode cX8_offBy 23 = .ok (.ifCond .eq 12, 3) := by decide +kernel
theorem dX8_offBy_26 : decode cX8_offBy 26 = .ok (.aload_n 0, 1) := by decide +kernel
theorem dX8_offBy_27 : decode cX8_offBy 27 = .ok (.getfield 13, 3) := by decide +kernel
theorem dX8_offBy_30 : decode cX8_offBy 30 = .ok (.iconst 1, 1) := by decide +kernel
theorem dX8_offBy_31 : decode cX8_offBy 31 = .ok (.iaload, 1) := by decide +kernel
theorem dX8_offBy_32 : decode cX8_offBy 32 = .ok (.goto 25, 3) := by decide +kernel
theorem dX8_offBy_35 : decode cX8_offBy 35 = .ok (.aload_n 0, 1) := by decide +kernel
theorem dX8_offBy_36 : decode cX8_offBy 36 = .ok (.getfield 13, 3) := by decide +kernel
theorem dX8_offBy_39 : decode cX8_offBy 39 = .ok (.iconst 0, 1) := by decide +kernel
theorem dX8_offBy_40 : decode cX8_offBy 40 = .ok (.iaload, 1) := by decide +kernel
theorem dX8_offBy_41 : decode cX8_offBy 41 = .ok (.aload_n 0, 1) := by decide +kernel
theorem dX8_offBy_42 : decode cX8_offBy 42 = .ok (.getfield 13, 3) := by decide +kernel
theorem dX8_offBy_45 : decode cX8_offBy 45 = .ok (.iconst 1, 1) := by decide +kernel
theorem dX8_offBy_46 : decode cX8_offBy 46 = .ok (.iaload, 1) := by decide +kernel
theorem dX8_offBy_47 : decode cX8_offBy 47 = .ok (.iload_n 3, 1) := by decide +kernel
theorem dX8_offBy_48 : decode cX8_offBy 48 = .ok (.aload_n 0, 1) := by decide +kernel
theorem dX8_offBy_49 : decode cX8_offBy 49 = .ok (.getfield 13, 3) := by decide +kernel
theorem dX8_offBy_52 : decode cX8_offBy 52 = .ok (.iconst 2, 1) := by decide +kernel
theorem dX8_offBy_53 : decode cX8_offBy 53 = .ok (.iaload, 1) := by decide +kernel
theorem dX8_offBy_54 : decode cX8_offBy 54 = .ok (.invokestatic 78, 3) := by decide +kernel
theorem dX8_offBy_57 : decode cX8_offBy 57 = .ok (.invokestatic 53, 3) := by decide +kernel
theorem dX8_offBy_60 : decode cX8_offBy 60 = .ok (.ireturn, 1) := by decide +kernel
theorem dX8_game_0 : decode cX8_game 0 = .ok (.iconst 0, 1) := by decide +kernel
theorem dX8_game_1 : decode cX8_game 1 = .ok (.istore_n 1, 1) := by decide +kernel
theorem dX8_game_2 : decode cX8_game 2 = .ok (.iconst 0, 1) := by decide +kernel
theorem dX8_game_3 : decode cX8_game 3 = .ok (.istore_n 2, 1) := by decide +kernel
theorem dX8_game_4 : decode cX8_game 4 = .ok (.iload_n 2, 1) := by decide +kernel
theorem dX8_game_5 : decode cX8_game 5 = .ok (.iconst 4, 1) := by decide +kernel
theorem dX8_game_6 : decode cX8_game 6 = .ok (.if_icmp .ge 149, 3) := by decide +kernel
theorem dX8_game_9 : decode cX8_game 9 = .ok (.iload_n 2, 1) := by decide +kernel
theorem dX8_game_10 : decode cX8_game 10 = .ok (.iconst 2, 1) := by decide +kernel
theorem dX8_game_11 : decode cX8_game 11 = .ok (.irem, 1) := by decide +kernel
theorem dX8_game_12 : decode cX8_game 12 = .ok (.iconst 1, 1) := by decide +kernel
theorem dX8_game_13 : decode cX8_game 13 = .ok (.if_icmp .ne 7, 3) := by decide +kernel
theorem dX8_game_16 : decode cX8_game 16 = .ok (.iconst 1, 1) := by decide +kernel
theorem dX8_game_17 : decode cX8_game 17 = .ok (.goto 4, 3) := by decide +kernel
theorem dX8_game_20 : decode cX8_game 20 = .ok (.iconst 0, 1) := by decide +kernel
theorem dX8_game_21 : decode cX8_game 21 = .ok (.istore_n 3, 1) := by decide +kernel
theorem dX8_game_22 : decode cX8_game 22 = .ok (.iload_n 2, 1) := by decide +kernel
theorem dX8_game_23 : decode cX8_game 23 = .ok (.iconst 1, 1) := by decide +kernel
theorem dX8_game_24 : decode cX8_game 24 = .ok (.if_icmp .le 7, 3) := by decide +kernel
theorem dX8_game_27 : decode cX8_game 27 = .ok (.iconst 1, 1) := by decide +kernel
theorem dX8_game_28 : decode cX8_game 28 = .ok (.goto 4, 3) := by decide +kernel
theorem dX8_game_31 : decode cX8_game 31 = .ok (.iconst 0, 1) := by decide +kernel
theorem dX8_game_32 : decode cX8_game 32 = .ok (.istore 4, 2) := by decide +kernel
theorem dX8_game_34 : decode cX8_game 34 = .ok (.aload_n 0, 1) := by decide +kernel
theorem dX8_game_35 : decode cX8_game 35 = .ok (.iload_n 3, 1) := by decide +kernel
theorem dX8_game_36 : decode cX8_game 36 = .ok (.iload 4, 2) := by decide +kernel
theorem dX8_game_38 : decode cX8_game 38 = .ok (.invokevirtual 226, 3) := by decide +kernel
theorem dX8_game_41 : decode cX8_game 41 = .ok (.istore 5, 2) := by decide +kernel
theorem dX8_game_43 : decode cX8_game 43 = .ok (.aload_n 0, 1) := by decide +kernel
theorem dX8_game_44 : decode cX8_game 44 = .ok (.iload_n 3, 1) := by decide +kernel
theorem dX8_game_45 : decode cX8_game 45 = .ok (.ifCond .ne 7, 3) := by decide +kernel
theorem dX8_game_48 : decode cX8_game 48 = .ok (.iconst 1, 1) := by decide +kernel
theorem dX8_game_49 : decode cX8_game 49 = .ok (.goto 4, 3) := by decide +kernel
theorem dX8_game_52 : decode cX8_game 52 = .ok (.iconst 0, 1) := by decide +kernel
theorem dX8_game_53 : decode cX8_game 53 = .ok (.iload 4, 2) := by decide +kernel
theorem dX8_game_55 : decode cX8_game 55 = .ok (.invokevirtual 226, 3) := by decide +kernel
theorem dX8_game_58 : decode cX8_game 58 = .ok (.iload_n 3, 1) := by decide +kernel
theorem dX8_game_59 : decode cX8_game 59 = .ok (.ifCond .eq 7, 3) := by decide +kernel
theorem dX8_game_62 : decode cX8_game 62 = .ok (.iconst 0, 1) := by decide +kernel
theorem dX8_game_63 : decode cX8_game 63 = .ok (.goto 4, 3) := by decide +kernel
theorem dX8_game_66 : decode cX8_game 66 = .ok (.iconst 1, 1) := by decide +kernel
theorem dX8_game_67 : decode cX8_game 67 = .ok (.isub, 1) := by decide +kernel
theorem dX8_game_68 : decode cX8_game 68 = .ok (.iload 5, 2) := by decide +kernel
theorem dX8_game_70 : decode cX8_game 70 = .ok (.iload_n 3, 1) := by decide +kernel
theorem dX8_game_71 : decode cX8_game 71 = .ok (.ifCond .eq 7, 3) := by decide +kernel
theorem dX8_game_74 : decode cX8_game 74 = .ok (.iconst 1, 1) := by decide +kernel
theorem dX8_game_75 : decode cX8_game 75 = .ok (.goto 4, 3) := by decide +kernel
theorem dX8_game_78 : decode cX8_game 78 = .ok (.iconst 0, 1) := by decide +kernel
theorem dX8_game_79 : decode cX8_game 79 = .ok (.isub, 1) := by decide +kernel
theorem dX8_game_80 : decode cX8_game 80 = .ok (.if_icmp .gt 51, 3) := by decide +kernel
theorem dX8_game_83 : decode cX8_game 83 = .ok (.aload_n 0, 1) := by decide +kernel
theorem dX8_game_84 : decode cX8_game 84 = .ok (.iload_n 3, 1) := by decide +kernel
theorem dX8_game_85 : decode cX8_game 85 = .ok (.iload 4, 2) := by decide +kernel
theorem dX8_game_87 : decode cX8_game 87 = .ok (.ifCond .ne 7, 3) := by decide +kernel
theorem dX8_game_90 : decode cX8_game 90 = .ok (.iconst 1, 1) := by decide +kernel
theorem dX8_game_91 : decode cX8_game 91 = .ok (.goto 4, 3) := by decide +kernel
theorem dX8_game_94 : decode cX8_game 94 = .ok (.iconst 0, 1) := by decide +kernel
theorem dX8_game_95 : decode cX8_game 95 = .ok (.invokevirtual 226, 3) := by decide +kernel
theorem dX8_game_98 : decode cX8_game 98 = .ok (.ineg, 1) := by decide +kernel
theorem dX8_game_99 : decode cX8_game 99 = .ok (.iload 4, 2) := by decide +kernel
theorem dX8_game_101 : decode cX8_game 101 = .ok (.ifCond .eq 7, 3) := by decide +kernel
theorem dX8_game_104 : decode cX8_game 104 = .ok (.iconst 0, 1) := by decide +kernel
theorem dX8_game_105 : decode cX8_game 105 = .ok (.goto 4, 3) := by decide +kernel
theorem dX8_game_108 : decode cX8_game 108 = .ok (.iconst 2, 1) := by decide +kernel
theorem dX8_game_109 : decode cX8_game 109 = .ok (.isub, 1) := by decide +kernel
theorem dX8_game_110 : decode cX8_game 110 = .ok (.iload 5, 2) := by decide +kernel
theorem dX8_game_112 : decode cX8_game 112 = .ok (.ineg, 1) := by decide +kernel
theorem dX8_game_113 : decode cX8_game 113 = .ok (.iload 4, 2) := by decide +kernel
theorem dX8_game_115 : decode cX8_game 115 = .ok (.ifCond .eq 7, 3) := by decide +kernel
theorem dX8_game_118 : decode cX8_game 118 = .ok (.iconst 2, 1) := by decide +kernel
theorem dX8_game_119 : decode cX8_game 119 = .ok (.goto 4, 3) := by decide +kernel
theorem dX8_game_122 : decode cX8_game 122 = .ok (.iconst 0, 1) := by decide +kernel
theorem dX8_game_123 : decode cX8_game 123 = .ok (.isub, 1) := by decide +kernel
theorem dX8_game_124 : decode cX8_game 124 = .ok (.if_icmp .gt 7, 3) := by decide +kernel
theorem dX8_game_127 : decode cX8_game 127 = .ok (.iconst 1, 1) := by decide +kernel
theorem dX8_game_128 : decode cX8_game 128 = .ok (.goto 4, 3) := by decide +kernel
theorem dX8_game_131 : decode cX8_game 131 = .ok (.iconst 0, 1) := by decide +kernel
theorem dX8_game_132 : decode cX8_game 132 = .ok (.istore 6, 2) := by decide +kernel
theorem dX8_game_134 : decode cX8_game 134 = .ok (.iload_n 1, 1) := by decide +kernel
theorem dX8_game_135 : decode cX8_game 135 = .ok (.iload 6, 2) := by decide +kernel
theorem dX8_game_137 : decode cX8_game 137 = .ok (.ifCond .eq 9, 3) := by decide +kernel
theorem dX8_game_140 : decode cX8_game 140 = .ok (.iconst 1, 1) := by decide +kernel
theorem dX8_game_141 : decode cX8_game 141 = .ok (.iload_n 2, 1) := by decide +kernel
theorem dX8_game_142 : decode cX8_game 142 = .ok (.ishl, 1) := by decide +kernel
theorem dX8_game_143 : decode cX8_game 143 = .ok (.goto 4, 3) := by decide +kernel
theorem dX8_game_146 : decode cX8_game 146 = .ok (.iconst 0, 1) := by decide +kernel
theorem dX8_game_147 : decode cX8_game 147 = .ok (.ior, 1) := by decide +kernel
theorem dX8_game_148 : decode cX8_game 148 = .ok (.istore_n 1, 1) := by decide +kernel
theorem dX8_game_149 : decode cX8_game 149 = .ok (.iinc 2 1, 3) := by decide +kernel
theorem dX8_game_152 : decode cX8_game 152 = .ok (.goto (-148), 3) := by decide +kernel
theorem dX8_game_155 : decode cX8_game 155 = .ok (.iload_n 1, 1) := by decide +kernel
theorem dX8_game_156 : decode cX8_game 156 = .ok (.ireturn, 1) := by decide +kernel
noncomputable def lp_X8_votes_4 (p1 : Int32) (fa0_town : Nat → Int32) : Nat → Int32 → Int32 → Option (Int32 × Int32)
 | 0, _, _ => none
 | fu + 1, x2_4, x3_4 => if (fa0_town ((75 : Int32)).toNatClampNeg) ≤ x3_4 then (some (x2_4, x3_4)) else (gi ((76 : Int32) + x3_4) 682 (lt_ (if ((fa0_town (((76 : Int32) + x3_4)).toNatClampNeg) + p1) ≤ 0 then ((0 : Int32)) else (((1 : Int32) <<< (x3_4 &&& 31)))) fun z4 => lp_X8_votes_4 p1 fa0_town fu (x2_4 ||| z4) (x3_4 + (1 : Int32))))
noncomputable def sp_X8_votes (p1 : Int32) (fa0_town : Nat → Int32) : Option (Int32) := Option.bind (lp_X8_votes_4 p1 fa0_town FU (0 : Int32) (0 : Int32)) fun z1 => some z1.1
set_option maxHeartbeats 4000000 in
set_option maxRecDepth 100000 in
theorem c_X8_votes (l : Launch) (E : wE) (a0 a0_text a0_town a0_draft a0_tried a0_images a0_kept a0_refused a0_line a0_best : Nat) (p1 : Int32) (a0_letters : Int32) (a0_above : Int64) (a0_below : Int64) (a0_at : Int32) (a0_start : Int32) (a0_isWell : Int32) (a0_faultAt : Int32) (fa0_town : Nat → Int32) (z : Int32) (hsp : sp_X8_votes p1 fa0_town = some z) : MR l yX8_votes cX8_votes 4 (some .int) 0 E [.ref a0, .int p1] [(a0, .inr (5, [.ref a0_text, .int a0_letters, .ref a0_town, .ref a0_draft, .ref a0_tried, .ref a0_images, .ref a0_kept, .ref a0_refused, .long a0_above, .long a0_below, .ref a0_line, .ref a0_best, .int a0_at, .int a0_start, .int a0_isWell, .int a0_faultAt])), (a0_town, aI E 682 fa0_town)] (some (.int z)) := by
  refine MR.of (by decide +kernel) (Nat.le_of_ble_eq_true rfl) ?_
  intro p e s m below meth c ls hX hK hP hl
  have hX : CX p s m [.ref a0, .int p1].toArray meth c cX8_votes 4 (some .int) RX8 := hX
  have hx := hX.1; have hb := hX.2.1; have hts := hX.2.2.2.2.1; have hown := hX.2.2.2.2.2.1
  have hl : lv_has ls 4 [(0, .ref a0), (1, .int p1)] := hl
  have hsp : (Option.bind (lp_X8_votes_4 p1 fa0_town FU (0 : Int32) (0 : Int32)) fun z1 => some z1.1) = some z := hsp
  refine lv_iconst (v := (0 : Int32)) hx hb dX8_votes_0 (by decide) (W.pc 1 rfl ?_)
  refine lv_istore_n (lv' := [(2, .int (0 : Int32)), (0, .ref a0), (1, .int p1)]) hx hb dX8_votes_1 rfl hl (by decide) rfl (fun ls hl => W.pc 2 rfl ?_)
  refine lv_iconst (v := (0 : Int32)) hx hb dX8_votes_2 (by decide) (W.pc 3 rfl ?_)
  refine lv_istore_n (lv' := [(3, .int (0 : Int32)), (2, .int (0 : Int32)), (0, .ref a0), (1, .int p1)]) hx hb dX8_votes_3 rfl hl (by decide) rfl (fun ls hl => W.pc 4 rfl ?_)
  have L_4 : ∀ (z1 : Int32 × Int32), (∀ (ls : Array Slot), lv_has ls 4 [(2, .int z1.1)] → W p l e (wR 0) s m [.ref a0, .int p1].toArray below meth c s.heap [] 0 0 (MQ below (QRd E (some (.int z))) [.ref a0, .int p1].toArray s 0 0 (fun _ => False)) (F0 m 45 ls [])) → ∀ (fu : Nat) (x2_4 : Int32) (x3_4 : Int32), ∀ (ls : Array Slot), lv_has ls 4 [(0, .ref a0), (1, .int p1), (2, .int x2_4), (3, .int x3_4)] → lp_X8_votes_4 p1 fa0_town fu x2_4 x3_4 = some z1 → W p l e (wR 0) s m [.ref a0, .int p1].toArray below meth c s.heap [] 0 0 (MQ below (QRd E (some (.int z))) [.ref a0, .int p1].toArray s 0 0 (fun _ => False)) (F0 m 4 ls []) := by
    intro z1 hk_4 fu
    induction fu with
    | zero => intro x2_4 x3_4 ls hl hsp; exact absurd (show none = some _ from hsp) (by simp)
    | succ fu ih_4 =>
      intro x2_4 x3_4 ls hl hsp
      have hsp : (if (fa0_town ((75 : Int32)).toNatClampNeg) ≤ x3_4 then (some (x2_4, x3_4)) else (gi ((76 : Int32) + x3_4) 682 (lt_ (if ((fa0_town (((76 : Int32) + x3_4)).toNatClampNeg) + p1) ≤ 0 then ((0 : Int32)) else (((1 : Int32) <<< (x3_4 &&& 31)))) fun z4 => lp_X8_votes_4 p1 fa0_town fu (x2_4 ||| z4) (x3_4 + (1 : Int32))))) = some z1 := hsp
      refine lv_iload_n hx hb dX8_votes_4 rfl (lv_at hl 3 rfl) (W.pc 5 rfl ?_)
      refine lv_aload_n hx hb dX8_votes_5 rfl (lv_at hl 0 rfl) (W.pc 6 rfl ?_)
      refine va_get (D := E.1) (ci := 5) (v := .ref a0_town) (C := RX8) (T := TX8) (N := 16) hx hb hts inT_X8 hown hK hP 0 rfl rfl 2 (by decide) (hts _ w_4_70) (fun _ h9 => h9) rfl dX8_votes_6 (W.pc 9 rfl ?_)
      refine lv_bipush (v := (75 : Int32)) hx hb dX8_votes_9 (by decide) (W.pc 11 rfl ?_)
      refine va_iald hx hb hK hP 1 0 rfl rfl (vp_in_nI (n := 75) (N := 682) (by decide) (by decide)) dX8_votes_11 (W.pc 12 rfl ?_)
      refine lv_icmp_ge (tgt := 45) hx hb dX8_votes_12 (by decide) (fun c2 => ?_) (fun c2 => W.pc 15 rfl ?_)
      · have hsp := ip hsp c2
        obtain rfl := Option.some.inj hsp
        exact hk_4 _ (lv_sub hl [2] rfl)
      · have hsp := iq hsp c2
        refine lv_iload_n hx hb dX8_votes_15 rfl (lv_at hl 2 rfl) (W.pc 16 rfl ?_)
        refine lv_aload_n hx hb dX8_votes_16 rfl (lv_at hl 0 rfl) (W.pc 17 rfl ?_)
        refine va_get (D := E.1) (ci := 5) (v := .ref a0_town) (C := RX8) (T := TX8) (N := 16) hx hb hts inT_X8 hown hK hP 0 rfl rfl 2 (by decide) (hts _ w_4_70) (fun _ h9 => h9) rfl dX8_votes_17 (W.pc 20 rfl ?_)
        refine lv_bipush (v := (76 : Int32)) hx hb dX8_votes_20 (by decide) (W.pc 22 rfl ?_)
        refine lv_iload_n hx hb dX8_votes_22 rfl (lv_at hl 3 rfl) (W.pc 23 rfl ?_)
        refine lv_iadd hx hb dX8_votes_23 (W.pc 24 rfl ?_)
        obtain ⟨h3, hsp⟩ := gi_s hsp
        refine va_iald hx hb hK hP 1 0 rfl rfl h3 dX8_votes_24 (W.pc 25 rfl ?_)
        refine lv_iload_n hx hb dX8_votes_25 rfl (lv_at hl 1 rfl) (W.pc 26 rfl ?_)
        refine lv_iadd hx hb dX8_votes_26 (W.pc 27 rfl ?_)
        obtain ⟨z4, hr_z4, hsp⟩ := ltb_s hsp
        have J5 : ∀ (ls : Array Slot), lv_has ls 4 [(0, .ref a0), (1, .int p1), (3, .int x3_4)] → W p l e (wR 0) s m [.ref a0, .int p1].toArray below meth c s.heap [] 0 0 (MQ below (QRd E (some (.int z))) [.ref a0, .int p1].toArray s 0 0 (fun _ => False)) (F0 m 37 ls [.int z4, .int x2_4]) := by
          intro ls hl
          refine lv_ior hx hb dX8_votes_37 (W.pc 38 rfl ?_)
          refine lv_istore_n (lv' := [(2, .int (x2_4 ||| z4)), (0, .ref a0), (1, .int p1), (3, .int x3_4)]) hx hb dX8_votes_38 rfl hl (by decide) rfl (fun ls hl => W.pc 39 rfl ?_)
          refine lv_iinc (v := (x3_4 + (1 : Int32))) (lv' := [(3, .int (x3_4 + (1 : Int32))), (2, .int (x2_4 ||| z4)), (0, .ref a0), (1, .int p1)]) hx hb dX8_votes_39 hl (k := 3) rfl rfl (by decide) rfl (fun ls hl => W.pc 42 rfl ?_)
          refine lv_goto (tgt := 4) hx hb dX8_votes_42 (by decide) ?_
          exact ih_4 (x2_4 ||| z4) (x3_4 + (1 : Int32)) _ (lv_sub hl [2, 3, 1, 0] rfl) hsp
        replace hsp := hr_z4
        refine lv_if_le (tgt := 36) hx hb dX8_votes_27 (by decide) (fun c6 => ?_) (fun c6 => W.pc 30 rfl ?_)
        · have hsp := ip hsp c6
          refine lv_iconst (v := (0 : Int32)) hx hb dX8_votes_36 (by decide) (W.pc 37 rfl ?_)
          subst hsp
          exact J5 _ (lv_sub hl [0, 1, 3] rfl)
        · have hsp := iq hsp c6
          refine lv_iconst (v := (1 : Int32)) hx hb dX8_votes_30 (by decide) (W.pc 31 rfl ?_)
          refine lv_iload_n hx hb dX8_votes_31 rfl (lv_at hl 3 rfl) (W.pc 32 rfl ?_)
          refine lv_ishl hx hb dX8_votes_32 (W.pc 33 rfl ?_)
          refine lv_goto (tgt := 37) hx hb dX8_votes_33 (by decide) ?_
          subst hsp
          exact J5 _ (lv_sub hl [0, 1, 3] rfl)
  obtain ⟨z1, hr_z1, hsp⟩ := bd_s hsp
  refine L_4 z1 (fun ls hl => ?_) FU (0 : Int32) (0 : Int32) _ (lv_sub hl [2, 3, 1, 0] rfl) hr_z1
  refine lv_iload_n hx hb dX8_votes_45 rfl (lv_at hl 0 rfl) (W.pc 46 rfl ?_)
  obtain rfl := Option.some.inj hsp
  exact rRi hX rfl dX8_votes_46
noncomputable def sp_X8_isCarried (p1 : Int32) (fa0_town : Nat → Int32) : Option (Int32) := Option.bind (sp_X8_ones p1) fun z1 => if ((2 : Int32) * z1) ≤ (fa0_town ((75 : Int32)).toNatClampNeg) then (some (0 : Int32)) else (some (1 : Int32))
set_option maxHeartbeats 4000000 in
set_option maxRecDepth 100000 in
theorem c_X8_isCarried (l : Launch) (E : wE) (a0 a0_text a0_town a0_draft a0_tried a0_images a0_kept a0_refused a0_line a0_best : Nat) (p1 : Int32) (a0_letters : Int32) (a0_above : Int64) (a0_below : Int64) (a0_at : Int32) (a0_start : Int32) (a0_isWell : Int32) (a0_faultAt : Int32) (fa0_town : Nat → Int32) (z : Int32) (hsp : sp_X8_isCarried p1 fa0_town = some z) : MR l yX8_isCarried cX8_isCarried 2 (some .boolean) 1 E [.ref a0, .int p1] [(a0, .inr (5, [.ref a0_text, .int a0_letters, .ref a0_town, .ref a0_draft, .ref a0_tried, .ref a0_images, .ref a0_kept, .ref a0_refused, .long a0_above, .long a0_below, .ref a0_line, .ref a0_best, .int a0_at, .int a0_start, .int a0_isWell, .int a0_faultAt])), (a0_town, aI E 682 fa0_town)] (some (.int z)) := by
  refine MR.of (by decide +kernel) (Nat.le_of_ble_eq_true rfl) ?_
  intro p e s m below meth c ls hX hK hP hl
  have hX : CX p s m [.ref a0, .int p1].toArray meth c cX8_isCarried 2 (some .boolean) RX8 := hX
  have hx := hX.1; have hb := hX.2.1; have hts := hX.2.2.2.2.1; have hown := hX.2.2.2.2.2.1
  have hl : lv_has ls 2 [(0, .ref a0), (1, .int p1)] := hl
  have hsp : (Option.bind (sp_X8_ones p1) fun z1 => if ((2 : Int32) * z1) ≤ (fa0_town ((75 : Int32)).toNatClampNeg) then (some (0 : Int32)) else (some (1 : Int32))) = some z := hsp
  refine lv_iconst (v := (2 : Int32)) hx hb dX8_isCarried_0 (by decide) (W.pc 1 rfl ?_)
  refine lv_iload_n hx hb dX8_isCarried_1 rfl (lv_at hl 1 rfl) (W.pc 2 rfl ?_)
  obtain ⟨z1, hr_z1, hsp⟩ := bd_s hsp
  refine kSR (st1 := [.int z1, .int (2 : Int32)]) hX (c_X8_ones l E p1 z1 hr_z1) B_X8_ones w_5_115 hK (hP.pick [] rfl) rfl hl.1 rfl (Nat.le_of_ble_eq_true rfl) ⟨Nat.le_of_ble_eq_true rfl, Nat.le_of_ble_eq_true rfl⟩ dX8_isCarried_2 rfl (W.pc 5 rfl ?_)
  refine lv_imul hx hb dX8_isCarried_5 (W.pc 6 rfl ?_)
  refine lv_aload_n hx hb dX8_isCarried_6 rfl (lv_at hl 0 rfl) (W.pc 7 rfl ?_)
  refine va_get (D := E.1) (ci := 5) (v := .ref a0_town) (C := RX8) (T := TX8) (N := 16) hx hb hts inT_X8 hown hK hP 0 rfl rfl 2 (by decide) (hts _ w_4_70) (fun _ h9 => h9) rfl dX8_isCarried_7 (W.pc 10 rfl ?_)
  refine lv_bipush (v := (75 : Int32)) hx hb dX8_isCarried_10 (by decide) (W.pc 12 rfl ?_)
  refine va_iald hx hb hK hP 1 0 rfl rfl (vp_in_nI (n := 75) (N := 682) (by decide) (by decide)) dX8_isCarried_12 (W.pc 13 rfl ?_)
  refine lv_icmp_le (tgt := 20) hx hb dX8_isCarried_13 (by decide) (fun c2 => ?_) (fun c2 => W.pc 16 rfl ?_)
  · have hsp := ip hsp c2
    refine lv_iconst (v := (0 : Int32)) hx hb dX8_isCarried_20 (by decide) (W.pc 21 rfl ?_)
    obtain rfl := Option.some.inj hsp
    exact rRz hX rfl rfl dX8_isCarried_21
  · have hsp := iq hsp c2
    refine lv_iconst (v := (1 : Int32)) hx hb dX8_isCarried_16 (by decide) (W.pc 17 rfl ?_)
    refine lv_goto (tgt := 21) hx hb dX8_isCarried_17 (by decide) ?_
    obtain rfl := Option.some.inj hsp
    exact rRz hX rfl rfl dX8_isCarried_21
noncomputable def sp_X8_council (p1 : Int32) (fa0_town : Nat → Int32) (fa0_refused : Nat → Int32) : Option (Int32 × (Nat → Int32)) := if (sp_X8_in p1 (0 : Int32) (2 : Int32)) = 0 then (lt_ (sp_X8_bad fa0_refused) fun z8 => some (z8.1, z8.2)) else (Option.bind (sp_X8_votes (fa0_town ((1 : Int32)).toNatClampNeg) fa0_town) fun z2 => if p1 = 0 then (some (z2, fa0_refused)) else (if p1 = (1 : Int32) then (Option.bind (sp_X8_isCarried z2 fa0_town) fun z6 => if z6 = 0 then (some ((0 : Int32), fa0_refused)) else (some ((1 : Int32), fa0_refused))) else (Option.bind (sp_X8_votes (0 : Int32) fa0_town) fun z5 => some ((z2 ^^^ z5), fa0_refused))))
set_option maxHeartbeats 4000000 in
set_option maxRecDepth 100000 in
theorem c_X8_council (l : Launch) (E : wE) (a0 a0_text a0_town a0_draft a0_tried a0_images a0_kept a0_refused a0_line a0_best : Nat) (p1 : Int32) (a0_letters : Int32) (a0_above : Int64) (a0_below : Int64) (a0_at : Int32) (a0_start : Int32) (a0_isWell : Int32) (a0_faultAt : Int32) (fa0_town : Nat → Int32) (fa0_refused : Nat → Int32) (z_0 : Int32) (z_1 : (Nat → Int32)) (hsp : sp_X8_council p1 fa0_town fa0_refused = some (z_0, z_1)) : MW l yX8_council cX8_council 3 (some .int) 2 E [.ref a0, .int p1] [(a0, .inr (5, [.ref a0_text, .int a0_letters, .ref a0_town, .ref a0_draft, .ref a0_tried, .ref a0_images, .ref a0_kept, .ref a0_refused, .long a0_above, .long a0_below, .ref a0_line, .ref a0_best, .int a0_at, .int a0_start, .int a0_isWell, .int a0_faultAt])), (a0_town, aI E 682 fa0_town), (a0_refused, aI E 3 fa0_refused)] (some (.int z_0)) [(a0, .inr (5, [.ref a0_text, .int a0_letters, .ref a0_town, .ref a0_draft, .ref a0_tried, .ref a0_images, .ref a0_kept, .ref a0_refused, .long a0_above, .long a0_below, .ref a0_line, .ref a0_best, .int a0_at, .int a0_start, .int a0_isWell, .int a0_faultAt])), (a0_town, aI E 682 fa0_town), (a0_refused, aI E 3 z_1)] := by
  refine MW.of (by decide +kernel) (Nat.le_of_ble_eq_true rfl) ?_
  intro p e s m below meth c ls A hX hK hP hD hS hA hl
  have hX : CX p s m [.ref a0, .int p1].toArray meth c cX8_council 3 (some .int) RX8 := hX
  have hx := hX.1; have hb := hX.2.1; have hts := hX.2.2.2.2.1; have hown := hX.2.2.2.2.2.1
  have hl : lv_has ls 3 [(0, .ref a0), (1, .int p1)] := hl
  have hP : wP E [(a0, .inr (5, [.ref a0_text, .int a0_letters, .ref a0_town, .ref a0_draft, .ref a0_tried, .ref a0_images, .ref a0_kept, .ref a0_refused, .long a0_above, .long a0_below, .ref a0_line, .ref a0_best, .int a0_at, .int a0_start, .int a0_isWell, .int a0_faultAt])), (a0_town, aI E 682 fa0_town), (a0_refused, aI E 3 fa0_refused)] s.heap := hP
  have hsp : (if (sp_X8_in p1 (0 : Int32) (2 : Int32)) = 0 then (lt_ (sp_X8_bad fa0_refused) fun z8 => some (z8.1, z8.2)) else (Option.bind (sp_X8_votes (fa0_town ((1 : Int32)).toNatClampNeg) fa0_town) fun z2 => if p1 = 0 then (some (z2, fa0_refused)) else (if p1 = (1 : Int32) then (Option.bind (sp_X8_isCarried z2 fa0_town) fun z6 => if z6 = 0 then (some ((0 : Int32), fa0_refused)) else (some ((1 : Int32), fa0_refused))) else (Option.bind (sp_X8_votes (0 : Int32) fa0_town) fun z5 => some ((z2 ^^^ z5), fa0_refused))))) = some (z_0, z_1) := hsp
  refine lv_iload_n hx hb dX8_council_0 rfl (lv_at hl 1 rfl) (W.pc 1 rfl ?_)
  refine lv_iconst (v := (0 : Int32)) hx hb dX8_council_1 (by decide) (W.pc 2 rfl ?_)
  refine lv_iconst (v := (2 : Int32)) hx hb dX8_council_2 (by decide) (W.pc 3 rfl ?_)
  refine kSR (st1 := [.int (sp_X8_in p1 (0 : Int32) (2 : Int32))]) hX (c_X8_in l E p1 (0 : Int32) (2 : Int32) _ rfl) B_X8_in w_4_125 hK (hP.pick [] rfl) rfl hl.1 rfl (Nat.le_of_ble_eq_true rfl) ⟨Nat.le_of_ble_eq_true rfl, Nat.le_of_ble_eq_true rfl⟩ dX8_council_3 rfl (W.pc 6 rfl ?_)
  refine lv_if_ne (tgt := 14) hx hb dX8_council_6 (by decide) (fun c1 => ?_) (fun c1 => W.pc 9 rfl ?_)
  · have hsp := iq hsp c1
    refine lv_aload_n hx hb dX8_council_14 rfl (lv_at hl 0 rfl) (W.pc 15 rfl ?_)
    refine lv_aload_n hx hb dX8_council_15 rfl (lv_at hl 0 rfl) (W.pc 16 rfl ?_)
    refine va_get (D := E.1) (ci := 5) (v := .ref a0_town) (C := RX8) (T := TX8) (N := 16) hx hb hts inT_X8 hown hK hP 0 rfl rfl 2 (by decide) (hts _ w_4_70) (fun _ h9 => h9) rfl dX8_council_16 (W.pc 19 rfl ?_)
    refine lv_iconst (v := (1 : Int32)) hx hb dX8_council_19 (by decide) (W.pc 20 rfl ?_)
    refine va_iald hx hb hK hP 1 0 rfl rfl (vp_in_nI (n := 1) (N := 682) (by decide) (by decide)) dX8_council_20 (W.pc 21 rfl ?_)
    obtain ⟨z2, hr_z2, hsp⟩ := bd_s hsp
    refine kVR (st1 := [.int z2]) hX (c_X8_votes l E a0 a0_text a0_town a0_draft a0_tried a0_images a0_kept a0_refused a0_line a0_best (fa0_town ((1 : Int32)).toNatClampNeg) a0_letters a0_above a0_below a0_at a0_start a0_isWell a0_faultAt fa0_town z2 hr_z2) B_X8_votes w_5_107 hK (hP.pick [0, 1] rfl) (q0 := 0) (ci := 5) rfl rfl rfl rfl hl.1 rfl (Nat.le_of_ble_eq_true rfl) ⟨Nat.le_of_ble_eq_true rfl, Nat.le_of_ble_eq_true rfl⟩ dX8_council_21 rfl (W.pc 24 rfl ?_)
    refine lv_istore_n (lv' := [(2, .int z2), (0, .ref a0), (1, .int p1)]) hx hb dX8_council_24 rfl hl (by decide) rfl (fun ls hl => W.pc 25 rfl ?_)
    refine lv_iload_n hx hb dX8_council_25 rfl (lv_at hl 2 rfl) (W.pc 26 rfl ?_)
    refine lv_if_ne (tgt := 33) hx hb dX8_council_26 (by decide) (fun c3 => ?_) (fun c3 => W.pc 29 rfl ?_)
    · have hsp := iq hsp c3
      refine lv_iload_n hx hb dX8_council_33 rfl (lv_at hl 2 rfl) (W.pc 34 rfl ?_)
      refine lv_iconst (v := (1 : Int32)) hx hb dX8_council_34 (by decide) (W.pc 35 rfl ?_)
      refine lv_icmp_ne (tgt := 54) hx hb dX8_council_35 (by decide) (fun c4 => ?_) (fun c4 => W.pc 38 rfl ?_)
      · have hsp := iq hsp c4
        refine lv_iload_n hx hb dX8_council_54 rfl (lv_at hl 0 rfl) (W.pc 55 rfl ?_)
        refine lv_aload_n hx hb dX8_council_55 rfl (lv_at hl 1 rfl) (W.pc 56 rfl ?_)
        refine lv_iconst (v := (0 : Int32)) hx hb dX8_council_56 (by decide) (W.pc 57 rfl ?_)
        obtain ⟨z5, hr_z5, hsp⟩ := bd_s hsp
        refine kVR (st1 := [.int z5, .int z2]) hX (c_X8_votes l E a0 a0_text a0_town a0_draft a0_tried a0_images a0_kept a0_refused a0_line a0_best (0 : Int32) a0_letters a0_above a0_below a0_at a0_start a0_isWell a0_faultAt fa0_town z5 hr_z5) B_X8_votes w_5_107 hK (hP.pick [0, 1] rfl) (q0 := 0) (ci := 5) rfl rfl rfl rfl hl.1 rfl (Nat.le_of_ble_eq_true rfl) ⟨Nat.le_of_ble_eq_true rfl, Nat.le_of_ble_eq_true rfl⟩ dX8_council_57 rfl (W.pc 60 rfl ?_)
        refine lv_ixor hx hb dX8_council_60 (W.pc 61 rfl ?_)
        cases hsp
        exact rWi hX hP hS rfl rfl dX8_council_61
      · have hsp := ip hsp c4
        refine lv_aload_n hx hb dX8_council_38 rfl (lv_at hl 1 rfl) (W.pc 39 rfl ?_)
        refine lv_iload_n hx hb dX8_council_39 rfl (lv_at hl 0 rfl) (W.pc 40 rfl ?_)
        obtain ⟨z6, hr_z6, hsp⟩ := bd_s hsp
        refine kVR (st1 := [.int z6]) hX (c_X8_isCarried l E a0 a0_text a0_town a0_draft a0_tried a0_images a0_kept a0_refused a0_line a0_best z2 a0_letters a0_above a0_below a0_at a0_start a0_isWell a0_faultAt fa0_town z6 hr_z6) B_X8_isCarried w_5_111 hK (hP.pick [0, 1] rfl) (q0 := 0) (ci := 5) rfl rfl rfl rfl hl.1 rfl (Nat.le_of_ble_eq_true rfl) ⟨Nat.le_of_ble_eq_true rfl, Nat.le_of_ble_eq_true rfl⟩ dX8_council_40 rfl (W.pc 43 rfl ?_)
        refine lv_if_eq (tgt := 50) hx hb dX8_council_43 (by decide) (fun c7 => ?_) (fun c7 => W.pc 46 rfl ?_)
        · have hsp := ip hsp c7
          refine lv_iconst (v := (0 : Int32)) hx hb dX8_council_50 (by decide) (W.pc 51 rfl ?_)
          refine lv_goto (tgt := 61) hx hb dX8_council_51 (by decide) ?_
          cases hsp
          exact rWi hX hP hS rfl rfl dX8_council_61
        · have hsp := iq hsp c7
          refine lv_iconst (v := (1 : Int32)) hx hb dX8_council_46 (by decide) (W.pc 47 rfl ?_)
          refine lv_goto (tgt := 61) hx hb dX8_council_47 (by decide) ?_
          cases hsp
          exact rWi hX hP hS rfl rfl dX8_council_61
    · have hsp := ip hsp c3
      refine lv_iload_n hx hb dX8_council_29 rfl (lv_at hl 0 rfl) (W.pc 30 rfl ?_)
      refine lv_goto (tgt := 61) hx hb dX8_council_30 (by decide) ?_
      cases hsp
      exact rWi hX hP hS rfl rfl dX8_council_61
  · have hsp := ip hsp c1
    refine lv_aload_n hx hb dX8_council_9 rfl (lv_at hl 0 rfl) (W.pc 10 rfl ?_)
    obtain ⟨z8, hr_z8, hsp⟩ := ltb_s hsp
    refine kVW (st1 := [.int z8.1]) (ws' := [(a0, .inr (5, [.ref a0_text, .int a0_letters, .ref a0_town, .ref a0_draft, .ref a0_tried, .ref a0_images, .ref a0_kept, .ref a0_refused, .long a0_above, .long a0_below, .ref a0_line, .ref a0_best, .int a0_at, .int a0_start, .int a0_isWell, .int a0_faultAt])), (a0_town, aI E 682 fa0_town), (a0_refused, aI E 3 z8.2)]) [0, 2] hX (c_X8_bad l E a0 a0_text a0_town a0_draft a0_tried a0_images a0_kept a0_refused a0_line a0_best a0_letters a0_above a0_below a0_at a0_start a0_isWell a0_faultAt fa0_refused z8.1 z8.2 hr_z8) B_X8_bad w_4_128 hK hP hD hS hA (by decide) rfl rfl rfl (q0 := 0) (ci := 5) rfl rfl rfl rfl hl.1 rfl (Nat.le_of_ble_eq_true rfl) ⟨Nat.le_of_ble_eq_true rfl, Nat.le_of_ble_eq_true rfl⟩ dX8_council_10 rfl (fun H locs hP hD hS => W.pc 13 rfl ?_)
    cases hsp
    exact rWi hX hP hS rfl rfl dX8_council_13
noncomputable def lp_X8_power_27 (p1 : Int32) (fa0_town : Nat → Int32) : Nat → Int32 → Int32 → Option (Int32 × Int32)
 | 0, _, _ => none
 | fu + 1, x2_27, x3_27 => if (10 : Int32) ≤ x3_27 then (some (x2_27, x3_27)) else (Option.bind (sp_X8_votes x3_27 fa0_town) fun z4 => Option.bind (sp_X8_isCarried z4 fa0_town) fun z5 => Option.bind (sp_X8_isCarried (z4 ^^^ ((1 : Int32) <<< (p1 &&& 31))) fa0_town) fun z6 => lt_ (if z5 = z6 then ((0 : Int32)) else ((1 : Int32))) fun z7 => lp_X8_power_27 p1 fa0_town fu (x2_27 + z7) (x3_27 + (1 : Int32)))
noncomputable def sp_X8_power (p1 : Int32) (fa0_town : Nat → Int32) (fa0_refused : Nat → Int32) : Option (Int32 × (Nat → Int32)) := if (sp_X8_in p1 (0 : Int32) ((fa0_town ((75 : Int32)).toNatClampNeg) - (1 : Int32))) = 0 then (lt_ (sp_X8_bad fa0_refused) fun z10 => some (z10.1, z10.2)) else (Option.bind (lp_X8_power_27 p1 fa0_town FU (0 : Int32) (-9 : Int32)) fun z2 => some (z2.1, fa0_refused))
set_option maxHeartbeats 4000000 in
set_option maxRecDepth 100000 in
theorem c_X8_power (l : Launch) (E : wE) (a0 a0_text a0_town a0_draft a0_tried a0_images a0_kept a0_refused a0_line a0_best : Nat) (p1 : Int32) (a0_letters : Int32) (a0_above : Int64) (a0_below : Int64) (a0_at : Int32) (a0_start : Int32) (a0_isWell : Int32) (a0_faultAt : Int32) (fa0_town : Nat → Int32) (fa0_refused : Nat → Int32) (z_0 : Int32) (z_1 : (Nat → Int32)) (hsp : sp_X8_power p1 fa0_town fa0_refused = some (z_0, z_1)) : MW l yX8_power cX8_power 5 (some .int) 2 E [.ref a0, .int p1] [(a0, .inr (5, [.ref a0_text, .int a0_letters, .ref a0_town, .ref a0_draft, .ref a0_tried, .ref a0_images, .ref a0_kept, .ref a0_refused, .long a0_above, .long a0_below, .ref a0_line, .ref a0_best, .int a0_at, .int a0_start, .int a0_isWell, .int a0_faultAt])), (a0_town, aI E 682 fa0_town), (a0_refused, aI E 3 fa0_refused)] (some (.int z_0)) [(a0, .inr (5, [.ref a0_text, .int a0_letters, .ref a0_town, .ref a0_draft, .ref a0_tried, .ref a0_images, .ref a0_kept, .ref a0_refused, .long a0_above, .long a0_below, .ref a0_line, .ref a0_best, .int a0_at, .int a0_start, .int a0_isWell, .int a0_faultAt])), (a0_town, aI E 682 fa0_town), (a0_refused, aI E 3 z_1)] := by
  refine MW.of (by decide +kernel) (Nat.le_of_ble_eq_true rfl) ?_
  intro p e s m below meth c ls A hX hK hP hD hS hA hl
  have hX : CX p s m [.ref a0, .int p1].toArray meth c cX8_power 5 (some .int) RX8 := hX
  have hx := hX.1; have hb := hX.2.1; have hts := hX.2.2.2.2.1; have hown := hX.2.2.2.2.2.1
  have hl : lv_has ls 5 [(0, .ref a0), (1, .int p1)] := hl
  have hP : wP E [(a0, .inr (5, [.ref a0_text, .int a0_letters, .ref a0_town, .ref a0_draft, .ref a0_tried, .ref a0_images, .ref a0_kept, .ref a0_refused, .long a0_above, .long a0_below, .ref a0_line, .ref a0_best, .int a0_at, .int a0_start, .int a0_isWell, .int a0_faultAt])), (a0_town, aI E 682 fa0_town), (a0_refused, aI E 3 fa0_refused)] s.heap := hP
  have hsp : (if (sp_X8_in p1 (0 : Int32) ((fa0_town ((75 : Int32)).toNatClampNeg) - (1 : Int32))) = 0 then (lt_ (sp_X8_bad fa0_refused) fun z10 => some (z10.1, z10.2)) else (Option.bind (lp_X8_power_27 p1 fa0_town FU (0 : Int32) (-9 : Int32)) fun z2 => some (z2.1, fa0_refused))) = some (z_0, z_1) := hsp
  refine lv_iload_n hx hb dX8_power_0 rfl (lv_at hl 1 rfl) (W.pc 1 rfl ?_)
  refine lv_iconst (v := (0 : Int32)) hx hb dX8_power_1 (by decide) (W.pc 2 rfl ?_)
  refine lv_aload_n hx hb dX8_power_2 rfl (lv_at hl 0 rfl) (W.pc 3 rfl ?_)
  refine va_get (D := E.1) (ci := 5) (v := .ref a0_town) (C := RX8) (T := TX8) (N := 16) hx hb hts inT_X8 hown hK hP 0 rfl rfl 2 (by decide) (hts _ w_4_70) (fun _ h9 => h9) rfl dX8_power_3 (W.pc 6 rfl ?_)
  refine lv_bipush (v := (75 : Int32)) hx hb dX8_power_6 (by decide) (W.pc 8 rfl ?_)
  refine va_iald hx hb hK hP 1 0 rfl rfl (vp_in_nI (n := 75) (N := 682) (by decide) (by decide)) dX8_power_8 (W.pc 9 rfl ?_)
  refine lv_iconst (v := (1 : Int32)) hx hb dX8_power_9 (by decide) (W.pc 10 rfl ?_)
  refine lv_isub hx hb dX8_power_10 (W.pc 11 rfl ?_)
  refine kSR (st1 := [.int (sp_X8_in p1 (0 : Int32) ((fa0_town ((75 : Int32)).toNatClampNeg) - (1 : Int32)))]) hX (c_X8_in l E p1 (0 : Int32) ((fa0_town ((75 : Int32)).toNatClampNeg) - (1 : Int32)) _ rfl) B_X8_in w_4_125 hK (hP.pick [] rfl) rfl hl.1 rfl (Nat.le_of_ble_eq_true rfl) ⟨Nat.le_of_ble_eq_true rfl, Nat.le_of_ble_eq_true rfl⟩ dX8_power_11 rfl (W.pc 14 rfl ?_)
  refine lv_if_ne (tgt := 22) hx hb dX8_power_14 (by decide) (fun c1 => ?_) (fun c1 => W.pc 17 rfl ?_)
  · have hsp := iq hsp c1
    refine lv_iconst (v := (0 : Int32)) hx hb dX8_power_22 (by decide) (W.pc 23 rfl ?_)
    refine lv_istore_n (lv' := [(2, .int (0 : Int32)), (0, .ref a0), (1, .int p1)]) hx hb dX8_power_23 rfl hl (by decide) rfl (fun ls hl => W.pc 24 rfl ?_)
    refine lv_bipush (v := (-9 : Int32)) hx hb dX8_power_24 (by decide) (W.pc 26 rfl ?_)
    refine lv_istore_n (lv' := [(3, .int (-9 : Int32)), (2, .int (0 : Int32)), (0, .ref a0), (1, .int p1)]) hx hb dX8_power_26 rfl hl (by decide) rfl (fun ls hl => W.pc 27 rfl ?_)
    have L_27 : ∀ (z2 : Int32 × Int32), (∀ (H : Heap) (locs : List Loc) (ls : Array Slot), wP E [(a0, .inr (5, [.ref a0_text, .int a0_letters, .ref a0_town, .ref a0_draft, .ref a0_tried, .ref a0_images, .ref a0_kept, .ref a0_refused, .long a0_above, .long a0_below, .ref a0_line, .ref a0_best, .int a0_at, .int a0_start, .int a0_isWell, .int a0_faultAt])), (a0_town, aI E 682 fa0_town), (a0_refused, aI E 3 fa0_refused)] H → va_D A [(a0, .inr (5, [.ref a0_text, .int a0_letters, .ref a0_town, .ref a0_draft, .ref a0_tried, .ref a0_images, .ref a0_kept, .ref a0_refused, .long a0_above, .long a0_below, .ref a0_line, .ref a0_best, .int a0_at, .int a0_start, .int a0_isWell, .int a0_faultAt])), (a0_town, aI E 682 fa0_town), (a0_refused, aI E 3 fa0_refused)] → va_S A s.heap H locs → lv_has ls 5 [(2, .int z2.1)] → W p l e (wR 2) s m [.ref a0, .int p1].toArray below meth c H locs 0 0 (MQ below (QWd E A (some (.int z_0)) [(a0, .inr (5, [.ref a0_text, .int a0_letters, .ref a0_town, .ref a0_draft, .ref a0_tried, .ref a0_images, .ref a0_kept, .ref a0_refused, .long a0_above, .long a0_below, .ref a0_line, .ref a0_best, .int a0_at, .int a0_start, .int a0_isWell, .int a0_faultAt])), (a0_town, aI E 682 fa0_town), (a0_refused, aI E 3 z_1)]) [.ref a0, .int p1].toArray s 0 0 A) (F0 m 73 ls [])) → ∀ (fu : Nat) (x2_27 : Int32) (x3_27 : Int32), ∀ (H : Heap) (locs : List Loc) (ls : Array Slot), wP E [(a0, .inr (5, [.ref a0_text, .int a0_letters, .ref a0_town, .ref a0_draft, .ref a0_tried, .ref a0_images, .ref a0_kept, .ref a0_refused, .long a0_above, .long a0_below, .ref a0_line, .ref a0_best, .int a0_at, .int a0_start, .int a0_isWell, .int a0_faultAt])), (a0_town, aI E 682 fa0_town), (a0_refused, aI E 3 fa0_refused)] H → va_D A [(a0, .inr (5, [.ref a0_text, .int a0_letters, .ref a0_town, .ref a0_draft, .ref a0_tried, .ref a0_images, .ref a0_kept, .ref a0_refused, .long a0_above, .long a0_below, .ref a0_line, .ref a0_best, .int a0_at, .int a0_start, .int a0_isWell, .int a0_faultAt])), (a0_town, aI E 682 fa0_town), (a0_refused, aI E 3 fa0_refused)] → va_S A s.heap H locs → lv_has ls 5 [(0, .ref a0), (1, .int p1), (2, .int x2_27), (3, .int x3_27)] → lp_X8_power_27 p1 fa0_town fu x2_27 x3_27 = some z2 → W p l e (wR 2) s m [.ref a0, .int p1].toArray below meth c H locs 0 0 (MQ below (QWd E A (some (.int z_0)) [(a0, .inr (5, [.ref a0_text, .int a0_letters, .ref a0_town, .ref a0_draft, .ref a0_tried, .ref a0_images, .ref a0_kept, .ref a0_refused, .long a0_above, .long a0_below, .ref a0_line, .ref a0_best, .int a0_at, .int a0_start, .int a0_isWell, .int a0_faultAt])), (a0_town, aI E 682 fa0_town), (a0_refused, aI E 3 z_1)]) [.ref a0, .int p1].toArray s 0 0 A) (F0 m 27 ls []) := by
      intro z2 hk_27 fu
      induction fu with
      | zero => intro x2_27 x3_27 H locs ls hP hD hS hl hsp; exact absurd (show none = some _ from hsp) (by simp)
      | succ fu ih_27 =>
        intro x2_27 x3_27 H locs ls hP hD hS hl hsp
        have hsp : (if (10 : Int32) ≤ x3_27 then (some (x2_27, x3_27)) else (Option.bind (sp_X8_votes x3_27 fa0_town) fun z4 => Option.bind (sp_X8_isCarried z4 fa0_town) fun z5 => Option.bind (sp_X8_isCarried (z4 ^^^ ((1 : Int32) <<< (p1 &&& 31))) fa0_town) fun z6 => lt_ (if z5 = z6 then ((0 : Int32)) else ((1 : Int32))) fun z7 => lp_X8_power_27 p1 fa0_town fu (x2_27 + z7) (x3_27 + (1 : Int32)))) = some z2 := hsp
        refine lv_iload_n hx hb dX8_power_27 rfl (lv_at hl 3 rfl) (W.pc 28 rfl ?_)
        refine lv_bipush (v := (10 : Int32)) hx hb dX8_power_28 (by decide) (W.pc 30 rfl ?_)
        refine lv_icmp_ge (tgt := 73) hx hb dX8_power_30 (by decide) (fun c3 => ?_) (fun c3 => W.pc 33 rfl ?_)
        · have hsp := ip hsp c3
          obtain rfl := Option.some.inj hsp
          exact hk_27 _ _ _ hP hD hS (lv_sub hl [2] rfl)
        · have hsp := iq hsp c3
          refine lv_aload_n hx hb dX8_power_33 rfl (lv_at hl 0 rfl) (W.pc 34 rfl ?_)
          refine lv_iload_n hx hb dX8_power_34 rfl (lv_at hl 3 rfl) (W.pc 35 rfl ?_)
          obtain ⟨z4, hr_z4, hsp⟩ := bd_s hsp
          refine kVR (st1 := [.int z4]) hX (c_X8_votes l E a0 a0_text a0_town a0_draft a0_tried a0_images a0_kept a0_refused a0_line a0_best x3_27 a0_letters a0_above a0_below a0_at a0_start a0_isWell a0_faultAt fa0_town z4 hr_z4) B_X8_votes w_5_107 hK (hP.pick [0, 1] rfl) (q0 := 0) (ci := 5) rfl rfl rfl rfl hl.1 rfl (Nat.le_of_ble_eq_true rfl) ⟨Nat.le_of_ble_eq_true rfl, Nat.le_of_ble_eq_true rfl⟩ dX8_power_35 rfl (W.pc 38 rfl ?_)
          refine lv_istore (lv' := [(4, .int z4), (0, .ref a0), (1, .int p1), (2, .int x2_27), (3, .int x3_27)]) hx hb dX8_power_38 hl (by decide) rfl (fun ls hl => W.pc 40 rfl ?_)
          refine lv_iload_n hx hb dX8_power_40 rfl (lv_at hl 3 rfl) (W.pc 41 rfl ?_)
          refine lv_aload_n hx hb dX8_power_41 rfl (lv_at hl 1 rfl) (W.pc 42 rfl ?_)
          refine lv_iload hx hb dX8_power_42 (lv_at hl 0 rfl) (W.pc 44 rfl ?_)
          obtain ⟨z5, hr_z5, hsp⟩ := bd_s hsp
          refine kVR (st1 := [.int z5, .int x2_27]) hX (c_X8_isCarried l E a0 a0_text a0_town a0_draft a0_tried a0_images a0_kept a0_refused a0_line a0_best z4 a0_letters a0_above a0_below a0_at a0_start a0_isWell a0_faultAt fa0_town z5 hr_z5) B_X8_isCarried w_5_111 hK (hP.pick [0, 1] rfl) (q0 := 0) (ci := 5) rfl rfl rfl rfl hl.1 rfl (Nat.le_of_ble_eq_true rfl) ⟨Nat.le_of_ble_eq_true rfl, Nat.le_of_ble_eq_true rfl⟩ dX8_power_44 rfl (W.pc 47 rfl ?_)
          refine lv_aload_n hx hb dX8_power_47 rfl (lv_at hl 1 rfl) (W.pc 48 rfl ?_)
          refine lv_iload hx hb dX8_power_48 (lv_at hl 0 rfl) (W.pc 50 rfl ?_)
          refine lv_iconst (v := (1 : Int32)) hx hb dX8_power_50 (by decide) (W.pc 51 rfl ?_)
          refine lv_iload_n hx hb dX8_power_51 rfl (lv_at hl 2 rfl) (W.pc 52 rfl ?_)
          refine lv_ishl hx hb dX8_power_52 (W.pc 53 rfl ?_)
          refine lv_ixor hx hb dX8_power_53 (W.pc 54 rfl ?_)
          obtain ⟨z6, hr_z6, hsp⟩ := bd_s hsp
          refine kVR (st1 := [.int z6, .int z5, .int x2_27]) hX (c_X8_isCarried l E a0 a0_text a0_town a0_draft a0_tried a0_images a0_kept a0_refused a0_line a0_best (z4 ^^^ ((1 : Int32) <<< (p1 &&& 31))) a0_letters a0_above a0_below a0_at a0_start a0_isWell a0_faultAt fa0_town z6 hr_z6) B_X8_isCarried w_5_111 hK (hP.pick [0, 1] rfl) (q0 := 0) (ci := 5) rfl rfl rfl rfl hl.1 rfl (Nat.le_of_ble_eq_true rfl) ⟨Nat.le_of_ble_eq_true rfl, Nat.le_of_ble_eq_true rfl⟩ dX8_power_54 rfl (W.pc 57 rfl ?_)
          obtain ⟨z7, hr_z7, hsp⟩ := ltb_s hsp
          have J8 : ∀ (H : Heap) (locs : List Loc) (ls : Array Slot), wP E [(a0, .inr (5, [.ref a0_text, .int a0_letters, .ref a0_town, .ref a0_draft, .ref a0_tried, .ref a0_images, .ref a0_kept, .ref a0_refused, .long a0_above, .long a0_below, .ref a0_line, .ref a0_best, .int a0_at, .int a0_start, .int a0_isWell, .int a0_faultAt])), (a0_town, aI E 682 fa0_town), (a0_refused, aI E 3 fa0_refused)] H → va_D A [(a0, .inr (5, [.ref a0_text, .int a0_letters, .ref a0_town, .ref a0_draft, .ref a0_tried, .ref a0_images, .ref a0_kept, .ref a0_refused, .long a0_above, .long a0_below, .ref a0_line, .ref a0_best, .int a0_at, .int a0_start, .int a0_isWell, .int a0_faultAt])), (a0_town, aI E 682 fa0_town), (a0_refused, aI E 3 fa0_refused)] → va_S A s.heap H locs → lv_has ls 5 [(0, .ref a0), (1, .int p1), (3, .int x3_27)] → W p l e (wR 2) s m [.ref a0, .int p1].toArray below meth c H locs 0 0 (MQ below (QWd E A (some (.int z_0)) [(a0, .inr (5, [.ref a0_text, .int a0_letters, .ref a0_town, .ref a0_draft, .ref a0_tried, .ref a0_images, .ref a0_kept, .ref a0_refused, .long a0_above, .long a0_below, .ref a0_line, .ref a0_best, .int a0_at, .int a0_start, .int a0_isWell, .int a0_faultAt])), (a0_town, aI E 682 fa0_town), (a0_refused, aI E 3 z_1)]) [.ref a0, .int p1].toArray s 0 0 A) (F0 m 65 ls [.int z7, .int x2_27]) := by
            intro H locs ls hP hD hS hl
            refine lv_iadd hx hb dX8_power_65 (W.pc 66 rfl ?_)
            refine lv_istore_n (lv' := [(2, .int (x2_27 + z7)), (0, .ref a0), (1, .int p1), (3, .int x3_27)]) hx hb dX8_power_66 rfl hl (by decide) rfl (fun ls hl => W.pc 67 rfl ?_)
            refine lv_iinc (v := (x3_27 + (1 : Int32))) (lv' := [(3, .int (x3_27 + (1 : Int32))), (2, .int (x2_27 + z7)), (0, .ref a0), (1, .int p1)]) hx hb dX8_power_67 hl (k := 3) rfl rfl (by decide) rfl (fun ls hl => W.pc 70 rfl ?_)
            refine lv_goto (tgt := 27) hx hb dX8_power_70 (by decide) ?_
            exact ih_27 (x2_27 + z7) (x3_27 + (1 : Int32)) _ _ _ hP hD hS (lv_sub hl [2, 3, 1, 0] rfl) hsp
          replace hsp := hr_z7
          refine lv_icmp_ne (tgt := 64) hx hb dX8_power_57 (by decide) (fun c9 => ?_) (fun c9 => W.pc 60 rfl ?_)
          · have hsp := iq hsp c9
            refine lv_iconst (v := (1 : Int32)) hx hb dX8_power_64 (by decide) (W.pc 65 rfl ?_)
            subst hsp
            exact J8 _ _ _ hP hD hS (lv_sub hl [1, 2, 4] rfl)
          · have hsp := ip hsp c9
            refine lv_iconst (v := (0 : Int32)) hx hb dX8_power_60 (by decide) (W.pc 61 rfl ?_)
            refine lv_goto (tgt := 65) hx hb dX8_power_61 (by decide) ?_
            subst hsp
            exact J8 _ _ _ hP hD hS (lv_sub hl [1, 2, 4] rfl)
    obtain ⟨z2, hr_z2, hsp⟩ := bd_s hsp
    refine L_27 z2 (fun H locs ls hP hD hS hl => ?_) FU (0 : Int32) (-9 : Int32) _ _ _ hP hD hS (lv_sub hl [2, 3, 1, 0] rfl) hr_z2
    refine lv_iload_n hx hb dX8_power_73 rfl (lv_at hl 0 rfl) (W.pc 74 rfl ?_)
    cases hsp
    exact rWi hX hP hS rfl rfl dX8_power_74
  · have hsp := ip hsp c1
    refine lv_aload_n hx hb dX8_power_17 rfl (lv_at hl 0 rfl) (W.pc 18 rfl ?_)
    obtain ⟨z10, hr_z10, hsp⟩ := ltb_s hsp
    refine kVW (st1 := [.int z10.1]) (ws' := [(a0, .inr (5, [.ref a0_text, .int a0_letters, .ref a0_town, .ref a0_draft, .ref a0_tried, .ref a0_images, .ref a0_kept, .ref a0_refused, .long a0_above, .long a0_below, .ref a0_line, .ref a0_best, .int a0_at, .int a0_start, .int a0_isWell, .int a0_faultAt])), (a0_town, aI E 682 fa0_town), (a0_refused, aI E 3 z10.2)]) [0, 2] hX (c_X8_bad l E a0 a0_text a0_town a0_draft a0_tried a0_images a0_kept a0_refused a0_line a0_best a0_letters a0_above a0_below a0_at a0_start a0_isWell a0_faultAt fa0_refused z10.1 z10.2 hr_z10) B_X8_bad w_4_128 hK hP hD hS hA (by decide) rfl rfl rfl (q0 := 0) (ci := 5) rfl rfl rfl rfl hl.1 rfl (Nat.le_of_ble_eq_true rfl) ⟨Nat.le_of_ble_eq_true rfl, Nat.le_of_ble_eq_true rfl⟩ dX8_power_18 rfl (fun H locs hP hD hS => W.pc 21 rfl ?_)
    cases hsp
    exact rWi hX hP hS rfl rfl dX8_power_21
noncomputable def lp_X8_built_27 (p1 : Int32) (p2 : Int32) (fa0_town : Nat → Int32) : Nat → Int32 → Int32 → Int32 → Option (Int32 × Int32 × Int32)
 | 0, _, _, _ => none
 | fu + 1, x3_27, x4_27, x5_27 => if (30 : Int32) ≤ x5_27 then (some (x3_27, x4_27, x5_27)) else (lt_ (if x4_27 = p2 then (((1 : Int32) <<< (x5_27 &&& 31))) else ((0 : Int32))) fun z6 => Option.bind (sp_X8_pullIn x5_27 fa0_town) fun z9 => lp_X8_built_27 p1 p2 fa0_town fu (x3_27 ||| z6) (sp_X8_behind p1 x4_27 z9 x5_27) (x5_27 + (1 : Int32)))
noncomputable def sp_X8_built (p1 : Int32) (p2 : Int32) (fa0_refused : Nat → Int32) (fa0_town : Nat → Int32) : Option (Int32 × (Nat → Int32)) := if (sp_X8_isKind p1) = 0 then (lt_ (sp_X8_bad fa0_refused) fun z2 => some (z2.1, z2.2)) else (if (sp_X8_isTilt p2) = 0 then (lt_ (sp_X8_bad fa0_refused) fun z10 => some (z10.1, z10.2)) else (Option.bind (lp_X8_built_27 p1 p2 fa0_town FU (0 : Int32) (0 : Int32) (0 : Int32)) fun z4 => some (z4.1, fa0_refused)))
set_option maxHeartbeats 4000000 in
set_option maxRecDepth 100000 in
theorem c_X8_built (l : Launch) (E : wE) (a0 a0_text a0_town a0_draft a0_tried a0_images a0_kept a0_refused a0_line a0_best : Nat) (p1 : Int32) (p2 : Int32) (a0_letters : Int32) (a0_above : Int64) (a0_below : Int64) (a0_at : Int32) (a0_start : Int32) (a0_isWell : Int32) (a0_faultAt : Int32) (fa0_refused : Nat → Int32) (fa0_town : Nat → Int32) (z_0 : Int32) (z_1 : (Nat → Int32)) (hsp : sp_X8_built p1 p2 fa0_refused fa0_town = some (z_0, z_1)) : MW l yX8_built cX8_built 6 (some .int) 2 E [.ref a0, .int p1, .int p2] [(a0, .inr (5, [.ref a0_text, .int a0_letters, .ref a0_town, .ref a0_draft, .ref a0_tried, .ref a0_images, .ref a0_kept, .ref a0_refused, .long a0_above, .long a0_below, .ref a0_line, .ref a0_best, .int a0_at, .int a0_start, .int a0_isWell, .int a0_faultAt])), (a0_refused, aI E 3 fa0_refused), (a0_town, aI E 682 fa0_town)] (some (.int z_0)) [(a0, .inr (5, [.ref a0_text, .int a0_letters, .ref a0_town, .ref a0_draft, .ref a0_tried, .ref a0_images, .ref a0_kept, .ref a0_refused, .long a0_above, .long a0_below, .ref a0_line, .ref a0_best, .int a0_at, .int a0_start, .int a0_isWell, .int a0_faultAt])), (a0_refused, aI E 3 z_1), (a0_town, aI E 682 fa0_town)] := by
  refine MW.of (by decide +kernel) (Nat.le_of_ble_eq_true rfl) ?_
  intro p e s m below meth c ls A hX hK hP hD hS hA hl
  have hX : CX p s m [.ref a0, .int p1, .int p2].toArray meth c cX8_built 6 (some .int) RX8 := hX
  have hx := hX.1; have hb := hX.2.1; have hts := hX.2.2.2.2.1; have hown := hX.2.2.2.2.2.1
  have hl : lv_has ls 6 [(0, .ref a0), (1, .int p1), (2, .int p2)] := hl
  have hP : wP E [(a0, .inr (5, [.ref a0_text, .int a0_letters, .ref a0_town, .ref a0_draft, .ref a0_tried, .ref a0_images, .ref a0_kept, .ref a0_refused, .long a0_above, .long a0_below, .ref a0_line, .ref a0_best, .int a0_at, .int a0_start, .int a0_isWell, .int a0_faultAt])), (a0_refused, aI E 3 fa0_refused), (a0_town, aI E 682 fa0_town)] s.heap := hP
  have hsp : (if (sp_X8_isKind p1) = 0 then (lt_ (sp_X8_bad fa0_refused) fun z2 => some (z2.1, z2.2)) else (if (sp_X8_isTilt p2) = 0 then (lt_ (sp_X8_bad fa0_refused) fun z10 => some (z10.1, z10.2)) else (Option.bind (lp_X8_built_27 p1 p2 fa0_town FU (0 : Int32) (0 : Int32) (0 : Int32)) fun z4 => some (z4.1, fa0_refused)))) = some (z_0, z_1) := hsp
  refine lv_iload_n hx hb dX8_built_0 rfl (lv_at hl 1 rfl) (W.pc 1 rfl ?_)
  refine kSR (st1 := [.int (sp_X8_isKind p1)]) hX (c_X8_isKind l E p1 _ rfl) B_X8_isKind w_4_122 hK (hP.pick [] rfl) rfl hl.1 rfl (Nat.le_of_ble_eq_true rfl) ⟨Nat.le_of_ble_eq_true rfl, Nat.le_of_ble_eq_true rfl⟩ dX8_built_1 rfl (W.pc 4 rfl ?_)
  refine lv_if_eq (tgt := 14) hx hb dX8_built_4 (by decide) (fun c1 => ?_) (fun c1 => W.pc 7 rfl ?_)
  · have hsp := ip hsp c1
    refine lv_aload_n hx hb dX8_built_14 rfl (lv_at hl 0 rfl) (W.pc 15 rfl ?_)
    obtain ⟨z2, hr_z2, hsp⟩ := ltb_s hsp
    refine kVW (st1 := [.int z2.1]) (ws' := [(a0, .inr (5, [.ref a0_text, .int a0_letters, .ref a0_town, .ref a0_draft, .ref a0_tried, .ref a0_images, .ref a0_kept, .ref a0_refused, .long a0_above, .long a0_below, .ref a0_line, .ref a0_best, .int a0_at, .int a0_start, .int a0_isWell, .int a0_faultAt])), (a0_refused, aI E 3 z2.2), (a0_town, aI E 682 fa0_town)]) [0, 1] hX (c_X8_bad l E a0 a0_text a0_town a0_draft a0_tried a0_images a0_kept a0_refused a0_line a0_best a0_letters a0_above a0_below a0_at a0_start a0_isWell a0_faultAt fa0_refused z2.1 z2.2 hr_z2) B_X8_bad w_4_128 hK hP hD hS hA (by decide) rfl rfl rfl (q0 := 0) (ci := 5) rfl rfl rfl rfl hl.1 rfl (Nat.le_of_ble_eq_true rfl) ⟨Nat.le_of_ble_eq_true rfl, Nat.le_of_ble_eq_true rfl⟩ dX8_built_15 rfl (fun H locs hP hD hS => W.pc 18 rfl ?_)
    cases hsp
    exact rWi hX hP hS rfl rfl dX8_built_18
  · have hsp := iq hsp c1
    refine lv_iload_n hx hb dX8_built_7 rfl (lv_at hl 2 rfl) (W.pc 8 rfl ?_)
    refine kSR (st1 := [.int (sp_X8_isTilt p2)]) hX (c_X8_isTilt l E p2 _ rfl) B_X8_isTilt w_4_145 hK (hP.pick [] rfl) rfl hl.1 rfl (Nat.le_of_ble_eq_true rfl) ⟨Nat.le_of_ble_eq_true rfl, Nat.le_of_ble_eq_true rfl⟩ dX8_built_8 rfl (W.pc 11 rfl ?_)
    refine lv_if_ne (tgt := 19) hx hb dX8_built_11 (by decide) (fun c3 => ?_) (fun c3 => W.pc 14 rfl ?_)
    · have hsp := iq hsp c3
      refine lv_iconst (v := (0 : Int32)) hx hb dX8_built_19 (by decide) (W.pc 20 rfl ?_)
      refine lv_istore_n (lv' := [(3, .int (0 : Int32)), (0, .ref a0), (1, .int p1), (2, .int p2)]) hx hb dX8_built_20 rfl hl (by decide) rfl (fun ls hl => W.pc 21 rfl ?_)
      refine lv_iconst (v := (0 : Int32)) hx hb dX8_built_21 (by decide) (W.pc 22 rfl ?_)
      refine lv_istore (lv' := [(4, .int (0 : Int32)), (3, .int (0 : Int32)), (0, .ref a0), (1, .int p1), (2, .int p2)]) hx hb dX8_built_22 hl (by decide) rfl (fun ls hl => W.pc 24 rfl ?_)
      refine lv_iconst (v := (0 : Int32)) hx hb dX8_built_24 (by decide) (W.pc 25 rfl ?_)
      refine lv_istore (lv' := [(5, .int (0 : Int32)), (4, .int (0 : Int32)), (3, .int (0 : Int32)), (0, .ref a0), (1, .int p1), (2, .int p2)]) hx hb dX8_built_25 hl (by decide) rfl (fun ls hl => W.pc 27 rfl ?_)
      have L_27 : ∀ (z4 : Int32 × Int32 × Int32), (∀ (H : Heap) (locs : List Loc) (ls : Array Slot), wP E [(a0, .inr (5, [.ref a0_text, .int a0_letters, .ref a0_town, .ref a0_draft, .ref a0_tried, .ref a0_images, .ref a0_kept, .ref a0_refused, .long a0_above, .long a0_below, .ref a0_line, .ref a0_best, .int a0_at, .int a0_start, .int a0_isWell, .int a0_faultAt])), (a0_refused, aI E 3 fa0_refused), (a0_town, aI E 682 fa0_town)] H → va_D A [(a0, .inr (5, [.ref a0_text, .int a0_letters, .ref a0_town, .ref a0_draft, .ref a0_tried, .ref a0_images, .ref a0_kept, .ref a0_refused, .long a0_above, .long a0_below, .ref a0_line, .ref a0_best, .int a0_at, .int a0_start, .int a0_isWell, .int a0_faultAt])), (a0_refused, aI E 3 fa0_refused), (a0_town, aI E 682 fa0_town)] → va_S A s.heap H locs → lv_has ls 6 [(3, .int z4.1)] → W p l e (wR 2) s m [.ref a0, .int p1, .int p2].toArray below meth c H locs 0 0 (MQ below (QWd E A (some (.int z_0)) [(a0, .inr (5, [.ref a0_text, .int a0_letters, .ref a0_town, .ref a0_draft, .ref a0_tried, .ref a0_images, .ref a0_kept, .ref a0_refused, .long a0_above, .long a0_below, .ref a0_line, .ref a0_best, .int a0_at, .int a0_start, .int a0_isWell, .int a0_faultAt])), (a0_refused, aI E 3 z_1), (a0_town, aI E 682 fa0_town)]) [.ref a0, .int p1, .int p2].toArray s 0 0 A) (F0 m 76 ls [])) → ∀ (fu : Nat) (x3_27 : Int32) (x4_27 : Int32) (x5_27 : Int32), ∀ (H : Heap) (locs : List Loc) (ls : Array Slot), wP E [(a0, .inr (5, [.ref a0_text, .int a0_letters, .ref a0_town, .ref a0_draft, .ref a0_tried, .ref a0_images, .ref a0_kept, .ref a0_refused, .long a0_above, .long a0_below, .ref a0_line, .ref a0_best, .int a0_at, .int a0_start, .int a0_isWell, .int a0_faultAt])), (a0_refused, aI E 3 fa0_refused), (a0_town, aI E 682 fa0_town)] H → va_D A [(a0, .inr (5, [.ref a0_text, .int a0_letters, .ref a0_town, .ref a0_draft, .ref a0_tried, .ref a0_images, .ref a0_kept, .ref a0_refused, .long a0_above, .long a0_below, .ref a0_line, .ref a0_best, .int a0_at, .int a0_start, .int a0_isWell, .int a0_faultAt])), (a0_refused, aI E 3 fa0_refused), (a0_town, aI E 682 fa0_town)] → va_S A s.heap H locs → lv_has ls 6 [(0, .ref a0), (1, .int p1), (2, .int p2), (3, .int x3_27), (4, .int x4_27), (5, .int x5_27)] → lp_X8_built_27 p1 p2 fa0_town fu x3_27 x4_27 x5_27 = some z4 → W p l e (wR 2) s m [.ref a0, .int p1, .int p2].toArray below meth c H locs 0 0 (MQ below (QWd E A (some (.int z_0)) [(a0, .inr (5, [.ref a0_text, .int a0_letters, .ref a0_town, .ref a0_draft, .ref a0_tried, .ref a0_images, .ref a0_kept, .ref a0_refused, .long a0_above, .long a0_below, .ref a0_line, .ref a0_best, .int a0_at, .int a0_start, .int a0_isWell, .int a0_faultAt])), (a0_refused, aI E 3 z_1), (a0_town, aI E 682 fa0_town)]) [.ref a0, .int p1, .int p2].toArray s 0 0 A) (F0 m 27 ls []) := by
        intro z4 hk_27 fu
        induction fu with
        | zero => intro x3_27 x4_27 x5_27 H locs ls hP hD hS hl hsp; exact absurd (show none = some _ from hsp) (by simp)
        | succ fu ih_27 =>
          intro x3_27 x4_27 x5_27 H locs ls hP hD hS hl hsp
          have hsp : (if (30 : Int32) ≤ x5_27 then (some (x3_27, x4_27, x5_27)) else (lt_ (if x4_27 = p2 then (((1 : Int32) <<< (x5_27 &&& 31))) else ((0 : Int32))) fun z6 => Option.bind (sp_X8_pullIn x5_27 fa0_town) fun z9 => lp_X8_built_27 p1 p2 fa0_town fu (x3_27 ||| z6) (sp_X8_behind p1 x4_27 z9 x5_27) (x5_27 + (1 : Int32)))) = some z4 := hsp
          refine lv_iload hx hb dX8_built_27 (lv_at hl 5 rfl) (W.pc 29 rfl ?_)
          refine lv_bipush (v := (30 : Int32)) hx hb dX8_built_29 (by decide) (W.pc 31 rfl ?_)
          refine lv_icmp_ge (tgt := 76) hx hb dX8_built_31 (by decide) (fun c5 => ?_) (fun c5 => W.pc 34 rfl ?_)
          · have hsp := ip hsp c5
            obtain rfl := Option.some.inj hsp
            exact hk_27 _ _ _ hP hD hS (lv_sub hl [3] rfl)
          · have hsp := iq hsp c5
            refine lv_iload_n hx hb dX8_built_34 rfl (lv_at hl 3 rfl) (W.pc 35 rfl ?_)
            refine lv_iload hx hb dX8_built_35 (lv_at hl 4 rfl) (W.pc 37 rfl ?_)
            refine lv_iload_n hx hb dX8_built_37 rfl (lv_at hl 2 rfl) (W.pc 38 rfl ?_)
            obtain ⟨z6, hr_z6, hsp⟩ := ltb_s hsp
            have J7 : ∀ (H : Heap) (locs : List Loc) (ls : Array Slot), wP E [(a0, .inr (5, [.ref a0_text, .int a0_letters, .ref a0_town, .ref a0_draft, .ref a0_tried, .ref a0_images, .ref a0_kept, .ref a0_refused, .long a0_above, .long a0_below, .ref a0_line, .ref a0_best, .int a0_at, .int a0_start, .int a0_isWell, .int a0_faultAt])), (a0_refused, aI E 3 fa0_refused), (a0_town, aI E 682 fa0_town)] H → va_D A [(a0, .inr (5, [.ref a0_text, .int a0_letters, .ref a0_town, .ref a0_draft, .ref a0_tried, .ref a0_images, .ref a0_kept, .ref a0_refused, .long a0_above, .long a0_below, .ref a0_line, .ref a0_best, .int a0_at, .int a0_start, .int a0_isWell, .int a0_faultAt])), (a0_refused, aI E 3 fa0_refused), (a0_town, aI E 682 fa0_town)] → va_S A s.heap H locs → lv_has ls 6 [(0, .ref a0), (1, .int p1), (2, .int p2), (4, .int x4_27), (5, .int x5_27)] → W p l e (wR 2) s m [.ref a0, .int p1, .int p2].toArray below meth c H locs 0 0 (MQ below (QWd E A (some (.int z_0)) [(a0, .inr (5, [.ref a0_text, .int a0_letters, .ref a0_town, .ref a0_draft, .ref a0_tried, .ref a0_images, .ref a0_kept, .ref a0_refused, .long a0_above, .long a0_below, .ref a0_line, .ref a0_best, .int a0_at, .int a0_start, .int a0_isWell, .int a0_faultAt])), (a0_refused, aI E 3 z_1), (a0_town, aI E 682 fa0_town)]) [.ref a0, .int p1, .int p2].toArray s 0 0 A) (F0 m 49 ls [.int z6, .int x3_27]) := by
              intro H locs ls hP hD hS hl
              refine lv_ior hx hb dX8_built_49 (W.pc 50 rfl ?_)
              refine lv_istore_n (lv' := [(3, .int (x3_27 ||| z6)), (0, .ref a0), (1, .int p1), (2, .int p2), (4, .int x4_27), (5, .int x5_27)]) hx hb dX8_built_50 rfl hl (by decide) rfl (fun ls hl => W.pc 51 rfl ?_)
              refine lv_iload_n hx hb dX8_built_51 rfl (lv_at hl 2 rfl) (W.pc 52 rfl ?_)
              refine lv_iload hx hb dX8_built_52 (lv_at hl 4 rfl) (W.pc 54 rfl ?_)
              refine lv_aload_n hx hb dX8_built_54 rfl (lv_at hl 1 rfl) (W.pc 55 rfl ?_)
              refine va_get (D := E.1) (ci := 5) (v := .ref a0_town) (C := RX8) (T := TX8) (N := 16) hx hb hts inT_X8 hown hK hP 0 rfl rfl 2 (by decide) (hts _ w_4_70) (fun _ h9 => h9) rfl dX8_built_55 (W.pc 58 rfl ?_)
              refine lv_iload hx hb dX8_built_58 (lv_at hl 5 rfl) (W.pc 60 rfl ?_)
              obtain ⟨z9, hr_z9, hsp⟩ := bd_s hsp
              refine kSR (st1 := [.int z9, .int x4_27, .int p1]) hX (c_X8_pullIn l E a0_town x5_27 fa0_town z9 hr_z9) B_X8_pullIn w_4_218 hK (hP.pick [2] rfl) rfl hl.1 rfl (Nat.le_of_ble_eq_true rfl) ⟨Nat.le_of_ble_eq_true rfl, Nat.le_of_ble_eq_true rfl⟩ dX8_built_60 rfl (W.pc 63 rfl ?_)
              refine lv_iload hx hb dX8_built_63 (lv_at hl 5 rfl) (W.pc 65 rfl ?_)
              refine kSR (st1 := [.int (sp_X8_behind p1 x4_27 z9 x5_27)]) hX (c_X8_behind l E p1 x4_27 z9 x5_27 _ rfl) B_X8_behind w_4_221 hK (hP.pick [] rfl) rfl hl.1 rfl (Nat.le_of_ble_eq_true rfl) ⟨Nat.le_of_ble_eq_true rfl, Nat.le_of_ble_eq_true rfl⟩ dX8_built_65 rfl (W.pc 68 rfl ?_)
              refine lv_istore (lv' := [(4, .int (sp_X8_behind p1 x4_27 z9 x5_27)), (3, .int (x3_27 ||| z6)), (0, .ref a0), (1, .int p1), (2, .int p2), (5, .int x5_27)]) hx hb dX8_built_68 hl (by decide) rfl (fun ls hl => W.pc 70 rfl ?_)
              refine lv_iinc (v := (x5_27 + (1 : Int32))) (lv' := [(5, .int (x5_27 + (1 : Int32))), (4, .int (sp_X8_behind p1 x4_27 z9 x5_27)), (3, .int (x3_27 ||| z6)), (0, .ref a0), (1, .int p1), (2, .int p2)]) hx hb dX8_built_70 hl (k := 5) rfl rfl (by decide) rfl (fun ls hl => W.pc 73 rfl ?_)
              refine lv_goto (tgt := 27) hx hb dX8_built_73 (by decide) ?_
              exact ih_27 (x3_27 ||| z6) (sp_X8_behind p1 x4_27 z9 x5_27) (x5_27 + (1 : Int32)) _ _ _ hP hD hS (lv_sub hl [3, 4, 5, 2, 1, 0] rfl) hsp
            replace hsp := hr_z6
            refine lv_icmp_ne (tgt := 48) hx hb dX8_built_38 (by decide) (fun c8 => ?_) (fun c8 => W.pc 41 rfl ?_)
            · have hsp := iq hsp c8
              refine lv_iconst (v := (0 : Int32)) hx hb dX8_built_48 (by decide) (W.pc 49 rfl ?_)
              subst hsp
              exact J7 _ _ _ hP hD hS (lv_sub hl [0, 1, 2, 4, 5] rfl)
            · have hsp := ip hsp c8
              refine lv_iconst (v := (1 : Int32)) hx hb dX8_built_41 (by decide) (W.pc 42 rfl ?_)
              refine lv_iload hx hb dX8_built_42 (lv_at hl 5 rfl) (W.pc 44 rfl ?_)
              refine lv_ishl hx hb dX8_built_44 (W.pc 45 rfl ?_)
              refine lv_goto (tgt := 49) hx hb dX8_built_45 (by decide) ?_
              subst hsp
              exact J7 _ _ _ hP hD hS (lv_sub hl [0, 1, 2, 4, 5] rfl)
      obtain ⟨z4, hr_z4, hsp⟩ := bd_s hsp
      refine L_27 z4 (fun H locs ls hP hD hS hl => ?_) FU (0 : Int32) (0 : Int32) (0 : Int32) _ _ _ hP hD hS (lv_sub hl [3, 4, 5, 2, 1, 0] rfl) hr_z4
      refine lv_iload_n hx hb dX8_built_76 rfl (lv_at hl 0 rfl) (W.pc 77 rfl ?_)
      cases hsp
      exact rWi hX hP hS rfl rfl dX8_built_77
    · have hsp := ip hsp c3
      refine lv_aload_n hx hb dX8_built_14 rfl (lv_at hl 0 rfl) (W.pc 15 rfl ?_)
      obtain ⟨z10, hr_z10, hsp⟩ := ltb_s hsp
      refine kVW (st1 := [.int z10.1]) (ws' := [(a0, .inr (5, [.ref a0_text, .int a0_letters, .ref a0_town, .ref a0_draft, .ref a0_tried, .ref a0_images, .ref a0_kept, .ref a0_refused, .long a0_above, .long a0_below, .ref a0_line, .ref a0_best, .int a0_at, .int a0_start, .int a0_isWell, .int a0_faultAt])), (a0_refused, aI E 3 z10.2), (a0_town, aI E 682 fa0_town)]) [0, 1] hX (c_X8_bad l E a0 a0_text a0_town a0_draft a0_tried a0_images a0_kept a0_refused a0_line a0_best a0_letters a0_above a0_below a0_at a0_start a0_isWell a0_faultAt fa0_refused z10.1 z10.2 hr_z10) B_X8_bad w_4_128 hK hP hD hS hA (by decide) rfl rfl rfl (q0 := 0) (ci := 5) rfl rfl rfl rfl hl.1 rfl (Nat.le_of_ble_eq_true rfl) ⟨Nat.le_of_ble_eq_true rfl, Nat.le_of_ble_eq_true rfl⟩ dX8_built_15 rfl (fun H locs hP hD hS => W.pc 18 rfl ?_)
      cases hsp
      exact rWi hX hP hS rfl rfl dX8_built_18
noncomputable def sp_X8_note (p1 : Int32) (p2 : Int32) (p3 : Int32) (p4 : Int32) (fa0_refused : Nat → Int32) (fa0_town : Nat → Int32) : Option (Int32 × (Nat → Int32) × (Nat → Int32)) := if (sp_X8_isTilt p1) = 0 then (lt_ (sp_X8_bad fa0_refused) fun z2 => some (z2.1, z2.2, fa0_town)) else (if (sp_X8_isTilt p2) = 0 then (lt_ (sp_X8_bad fa0_refused) fun z4 => some (z4.1, z4.2, fa0_town)) else (if (sp_X8_in p3 (0 : Int32) (99 : Int32)) = 0 then (lt_ (sp_X8_bad fa0_refused) fun z6 => some (z6.1, z6.2, fa0_town)) else (if (sp_X8_isTilt p4) = 0 then (lt_ (sp_X8_bad fa0_refused) fun z14 => some (z14.1, z14.2, fa0_town)) else (if (fa0_town ((81 : Int32)).toNatClampNeg) = (6 : Int32) then (lt_ (sp_X8_full fa0_refused) fun z13 => some (z13.1, z13.2, fa0_town)) else (gi ((82 : Int32) + ((4 : Int32) * (fa0_town ((81 : Int32)).toNatClampNeg))) 682 (gi (((82 : Int32) + ((4 : Int32) * (fa0_town ((81 : Int32)).toNatClampNeg))) + (1 : Int32)) 682 (gi (((82 : Int32) + ((4 : Int32) * (fa0_town ((81 : Int32)).toNatClampNeg))) + (2 : Int32)) 682 (gi (((82 : Int32) + ((4 : Int32) * (fa0_town ((81 : Int32)).toNatClampNeg))) + (3 : Int32)) 682 (some (((upd (upd (upd (upd (upd fa0_town (((82 : Int32) + ((4 : Int32) * (fa0_town ((81 : Int32)).toNatClampNeg)))).toNatClampNeg p1) ((((82 : Int32) + ((4 : Int32) * (fa0_town ((81 : Int32)).toNatClampNeg))) + (1 : Int32))).toNatClampNeg p2) ((((82 : Int32) + ((4 : Int32) * (fa0_town ((81 : Int32)).toNatClampNeg))) + (2 : Int32))).toNatClampNeg p3) ((((82 : Int32) + ((4 : Int32) * (fa0_town ((81 : Int32)).toNatClampNeg))) + (3 : Int32))).toNatClampNeg p4) ((81 : Int32)).toNatClampNeg (((upd (upd (upd (upd fa0_town (((82 : Int32) + ((4 : Int32) * (fa0_town ((81 : Int32)).toNatClampNeg)))).toNatClampNeg p1) ((((82 : Int32) + ((4 : Int32) * (fa0_town ((81 : Int32)).toNatClampNeg))) + (1 : Int32))).toNatClampNeg p2) ((((82 : Int32) + ((4 : Int32) * (fa0_town ((81 : Int32)).toNatClampNeg))) + (2 : Int32))).toNatClampNeg p3) ((((82 : Int32) + ((4 : Int32) * (fa0_town ((81 : Int32)).toNatClampNeg))) + (3 : Int32))).toNatClampNeg p4) ((81 : Int32)).toNatClampNeg) + (1 : Int32))) ((81 : Int32)).toNatClampNeg), fa0_refused, (upd (upd (upd (upd (upd fa0_town (((82 : Int32) + ((4 : Int32) * (fa0_town ((81 : Int32)).toNatClampNeg)))).toNatClampNeg p1) ((((82 : Int32) + ((4 : Int32) * (fa0_town ((81 : Int32)).toNatClampNeg))) + (1 : Int32))).toNatClampNeg p2) ((((82 : Int32) + ((4 : Int32) * (fa0_town ((81 : Int32)).toNatClampNeg))) + (2 : Int32))).toNatClampNeg p3) ((((82 : Int32) + ((4 : Int32) * (fa0_town ((81 : Int32)).toNatClampNeg))) + (3 : Int32))).toNatClampNeg p4) ((81 : Int32)).toNatClampNeg (((upd (upd (upd (upd fa0_town (((82 : Int32) + ((4 : Int32) * (fa0_town ((81 : Int32)).toNatClampNeg)))).toNatClampNeg p1) ((((82 : Int32) + ((4 : Int32) * (fa0_town ((81 : Int32)).toNatClampNeg))) + (1 : Int32))).toNatClampNeg p2) ((((82 : Int32) + ((4 : Int32) * (fa0_town ((81 : Int32)).toNatClampNeg))) + (2 : Int32))).toNatClampNeg p3) ((((82 : Int32) + ((4 : Int32) * (fa0_town ((81 : Int32)).toNatClampNeg))) + (3 : Int32))).toNatClampNeg p4) ((81 : Int32)).toNatClampNeg) + (1 : Int32)))))))))))))
set_option maxHeartbeats 4000000 in
set_option maxRecDepth 100000 in
theorem c_X8_note (l : Launch) (E : wE) (a0 a0_text a0_town a0_draft a0_tried a0_images a0_kept a0_refused a0_line a0_best : Nat) (p1 : Int32) (p2 : Int32) (p3 : Int32) (p4 : Int32) (a0_letters : Int32) (a0_above : Int64) (a0_below : Int64) (a0_at : Int32) (a0_start : Int32) (a0_isWell : Int32) (a0_faultAt : Int32) (fa0_refused : Nat → Int32) (fa0_town : Nat → Int32) (z_0 : Int32) (z_1 : (Nat → Int32)) (z_2 : (Nat → Int32)) (hsp : sp_X8_note p1 p2 p3 p4 fa0_refused fa0_town = some (z_0, z_1, z_2)) : MW l yX8_note cX8_note 6 (some .int) 2 E [.ref a0, .int p1, .int p2, .int p3, .int p4] [(a0, .inr (5, [.ref a0_text, .int a0_letters, .ref a0_town, .ref a0_draft, .ref a0_tried, .ref a0_images, .ref a0_kept, .ref a0_refused, .long a0_above, .long a0_below, .ref a0_line, .ref a0_best, .int a0_at, .int a0_start, .int a0_isWell, .int a0_faultAt])), (a0_refused, aI E 3 fa0_refused), (a0_town, aI E 682 fa0_town)] (some (.int z_0)) [(a0, .inr (5, [.ref a0_text, .int a0_letters, .ref a0_town, .ref a0_draft, .ref a0_tried, .ref a0_images, .ref a0_kept, .ref a0_refused, .long a0_above, .long a0_below, .ref a0_line, .ref a0_best, .int a0_at, .int a0_start, .int a0_isWell, .int a0_faultAt])), (a0_refused, aI E 3 z_1), (a0_town, aI E 682 z_2)] := by
  refine MW.of (by decide +kernel) (Nat.le_of_ble_eq_true rfl) ?_
  intro p e s m below meth c ls A hX hK hP hD hS hA hl
  have hX : CX p s m [.ref a0, .int p1, .int p2, .int p3, .int p4].toArray meth c cX8_note 6 (some .int) RX8 := hX
  have hx := hX.1; have hb := hX.2.1; have hts := hX.2.2.2.2.1; have hown := hX.2.2.2.2.2.1
  have hl : lv_has ls 6 [(0, .ref a0), (1, .int p1), (2, .int p2), (3, .int p3), (4, .int p4)] := hl
  have hP : wP E [(a0, .inr (5, [.ref a0_text, .int a0_letters, .ref a0_town, .ref a0_draft, .ref a0_tried, .ref a0_images, .ref a0_kept, .ref a0_refused, .long a0_above, .long a0_below, .ref a0_line, .ref a0_best, .int a0_at, .int a0_start, .int a0_isWell, .int a0_faultAt])), (a0_refused, aI E 3 fa0_refused), (a0_town, aI E 682 fa0_town)] s.heap := hP
  have hsp : (if (sp_X8_isTilt p1) = 0 then (lt_ (sp_X8_bad fa0_refused) fun z2 => some (z2.1, z2.2, fa0_town)) else (if (sp_X8_isTilt p2) = 0 then (lt_ (sp_X8_bad fa0_refused) fun z4 => some (z4.1, z4.2, fa0_town)) else (if (sp_X8_in p3 (0 : Int32) (99 : Int32)) = 0 then (lt_ (sp_X8_bad fa0_refused) fun z6 => some (z6.1, z6.2, fa0_town)) else (if (sp_X8_isTilt p4) = 0 then (lt_ (sp_X8_bad fa0_refused) fun z14 => some (z14.1, z14.2, fa0_town)) else (if (fa0_town ((81 : Int32)).toNatClampNeg) = (6 : Int32) then (lt_ (sp_X8_full fa0_refused) fun z13 => some (z13.1, z13.2, fa0_town)) else (gi ((82 : Int32) + ((4 : Int32) * (fa0_town ((81 : Int32)).toNatClampNeg))) 682 (gi (((82 : Int32) + ((4 : Int32) * (fa0_town ((81 : Int32)).toNatClampNeg))) + (1 : Int32)) 682 (gi (((82 : Int32) + ((4 : Int32) * (fa0_town ((81 : Int32)).toNatClampNeg))) + (2 : Int32)) 682 (gi (((82 : Int32) + ((4 : Int32) * (fa0_town ((81 : Int32)).toNatClampNeg))) + (3 : Int32)) 682 (some (((upd (upd (upd (upd (upd fa0_town (((82 : Int32) + ((4 : Int32) * (fa0_town ((81 : Int32)).toNatClampNeg)))).toNatClampNeg p1) ((((82 : Int32) + ((4 : Int32) * (fa0_town ((81 : Int32)).toNatClampNeg))) + (1 : Int32))).toNatClampNeg p2) ((((82 : Int32) + ((4 : Int32) * (fa0_town ((81 : Int32)).toNatClampNeg))) + (2 : Int32))).toNatClampNeg p3) ((((82 : Int32) + ((4 : Int32) * (fa0_town ((81 : Int32)).toNatClampNeg))) + (3 : Int32))).toNatClampNeg p4) ((81 : Int32)).toNatClampNeg (((upd (upd (upd (upd fa0_town (((82 : Int32) + ((4 : Int32) * (fa0_town ((81 : Int32)).toNatClampNeg)))).toNatClampNeg p1) ((((82 : Int32) + ((4 : Int32) * (fa0_town ((81 : Int32)).toNatClampNeg))) + (1 : Int32))).toNatClampNeg p2) ((((82 : Int32) + ((4 : Int32) * (fa0_town ((81 : Int32)).toNatClampNeg))) + (2 : Int32))).toNatClampNeg p3) ((((82 : Int32) + ((4 : Int32) * (fa0_town ((81 : Int32)).toNatClampNeg))) + (3 : Int32))).toNatClampNeg p4) ((81 : Int32)).toNatClampNeg) + (1 : Int32))) ((81 : Int32)).toNatClampNeg), fa0_refused, (upd (upd (upd (upd (upd fa0_town (((82 : Int32) + ((4 : Int32) * (fa0_town ((81 : Int32)).toNatClampNeg)))).toNatClampNeg p1) ((((82 : Int32) + ((4 : Int32) * (fa0_town ((81 : Int32)).toNatClampNeg))) + (1 : Int32))).toNatClampNeg p2) ((((82 : Int32) + ((4 : Int32) * (fa0_town ((81 : Int32)).toNatClampNeg))) + (2 : Int32))).toNatClampNeg p3) ((((82 : Int32) + ((4 : Int32) * (fa0_town ((81 : Int32)).toNatClampNeg))) + (3 : Int32))).toNatClampNeg p4) ((81 : Int32)).toNatClampNeg (((upd (upd (upd (upd fa0_town (((82 : Int32) + ((4 : Int32) * (fa0_town ((81 : Int32)).toNatClampNeg)))).toNatClampNeg p1) ((((82 : Int32) + ((4 : Int32) * (fa0_town ((81 : Int32)).toNatClampNeg))) + (1 : Int32))).toNatClampNeg p2) ((((82 : Int32) + ((4 : Int32) * (fa0_town ((81 : Int32)).toNatClampNeg))) + (2 : Int32))).toNatClampNeg p3) ((((82 : Int32) + ((4 : Int32) * (fa0_town ((81 : Int32)).toNatClampNeg))) + (3 : Int32))).toNatClampNeg p4) ((81 : Int32)).toNatClampNeg) + (1 : Int32)))))))))))))) = some (z_0, z_1, z_2) := hsp
  refine lv_iload_n hx hb dX8_note_0 rfl (lv_at hl 1 rfl) (W.pc 1 rfl ?_)
  refine kSR (st1 := [.int (sp_X8_isTilt p1)]) hX (c_X8_isTilt l E p1 _ rfl) B_X8_isTilt w_4_145 hK (hP.pick [] rfl) rfl hl.1 rfl (Nat.le_of_ble_eq_true rfl) ⟨Nat.le_of_ble_eq_true rfl, Nat.le_of_ble_eq_true rfl⟩ dX8_note_1 rfl (W.pc 4 rfl ?_)
  refine lv_if_eq (tgt := 32) hx hb dX8_note_4 (by decide) (fun c1 => ?_) (fun c1 => W.pc 7 rfl ?_)
  · have hsp := ip hsp c1
    refine lv_aload_n hx hb dX8_note_32 rfl (lv_at hl 0 rfl) (W.pc 33 rfl ?_)
    obtain ⟨z2, hr_z2, hsp⟩ := ltb_s hsp
    refine kVW (st1 := [.int z2.1]) (ws' := [(a0, .inr (5, [.ref a0_text, .int a0_letters, .ref a0_town, .ref a0_draft, .ref a0_tried, .ref a0_images, .ref a0_kept, .ref a0_refused, .long a0_above, .long a0_below, .ref a0_line, .ref a0_best, .int a0_at, .int a0_start, .int a0_isWell, .int a0_faultAt])), (a0_refused, aI E 3 z2.2), (a0_town, aI E 682 fa0_town)]) [0, 1] hX (c_X8_bad l E a0 a0_text a0_town a0_draft a0_tried a0_images a0_kept a0_refused a0_line a0_best a0_letters a0_above a0_below a0_at a0_start a0_isWell a0_faultAt fa0_refused z2.1 z2.2 hr_z2) B_X8_bad w_4_128 hK hP hD hS hA (by decide) rfl rfl rfl (q0 := 0) (ci := 5) rfl rfl rfl rfl hl.1 rfl (Nat.le_of_ble_eq_true rfl) ⟨Nat.le_of_ble_eq_true rfl, Nat.le_of_ble_eq_true rfl⟩ dX8_note_33 rfl (fun H locs hP hD hS => W.pc 36 rfl ?_)
    cases hsp
    exact rWi hX hP hS rfl rfl dX8_note_36
  · have hsp := iq hsp c1
    refine lv_iload_n hx hb dX8_note_7 rfl (lv_at hl 2 rfl) (W.pc 8 rfl ?_)
    refine kSR (st1 := [.int (sp_X8_isTilt p2)]) hX (c_X8_isTilt l E p2 _ rfl) B_X8_isTilt w_4_145 hK (hP.pick [] rfl) rfl hl.1 rfl (Nat.le_of_ble_eq_true rfl) ⟨Nat.le_of_ble_eq_true rfl, Nat.le_of_ble_eq_true rfl⟩ dX8_note_8 rfl (W.pc 11 rfl ?_)
    refine lv_if_eq (tgt := 32) hx hb dX8_note_11 (by decide) (fun c3 => ?_) (fun c3 => W.pc 14 rfl ?_)
    · have hsp := ip hsp c3
      refine lv_aload_n hx hb dX8_note_32 rfl (lv_at hl 0 rfl) (W.pc 33 rfl ?_)
      obtain ⟨z4, hr_z4, hsp⟩ := ltb_s hsp
      refine kVW (st1 := [.int z4.1]) (ws' := [(a0, .inr (5, [.ref a0_text, .int a0_letters, .ref a0_town, .ref a0_draft, .ref a0_tried, .ref a0_images, .ref a0_kept, .ref a0_refused, .long a0_above, .long a0_below, .ref a0_line, .ref a0_best, .int a0_at, .int a0_start, .int a0_isWell, .int a0_faultAt])), (a0_refused, aI E 3 z4.2), (a0_town, aI E 682 fa0_town)]) [0, 1] hX (c_X8_bad l E a0 a0_text a0_town a0_draft a0_tried a0_images a0_kept a0_refused a0_line a0_best a0_letters a0_above a0_below a0_at a0_start a0_isWell a0_faultAt fa0_refused z4.1 z4.2 hr_z4) B_X8_bad w_4_128 hK hP hD hS hA (by decide) rfl rfl rfl (q0 := 0) (ci := 5) rfl rfl rfl rfl hl.1 rfl (Nat.le_of_ble_eq_true rfl) ⟨Nat.le_of_ble_eq_true rfl, Nat.le_of_ble_eq_true rfl⟩ dX8_note_33 rfl (fun H locs hP hD hS => W.pc 36 rfl ?_)
      cases hsp
      exact rWi hX hP hS rfl rfl dX8_note_36
    · have hsp := iq hsp c3
      refine lv_iload_n hx hb dX8_note_14 rfl (lv_at hl 3 rfl) (W.pc 15 rfl ?_)
      refine lv_iconst (v := (0 : Int32)) hx hb dX8_note_15 (by decide) (W.pc 16 rfl ?_)
      refine lv_bipush (v := (99 : Int32)) hx hb dX8_note_16 (by decide) (W.pc 18 rfl ?_)
      refine kSR (st1 := [.int (sp_X8_in p3 (0 : Int32) (99 : Int32))]) hX (c_X8_in l E p3 (0 : Int32) (99 : Int32) _ rfl) B_X8_in w_4_125 hK (hP.pick [] rfl) rfl hl.1 rfl (Nat.le_of_ble_eq_true rfl) ⟨Nat.le_of_ble_eq_true rfl, Nat.le_of_ble_eq_true rfl⟩ dX8_note_18 rfl (W.pc 21 rfl ?_)
      refine lv_if_eq (tgt := 32) hx hb dX8_note_21 (by decide) (fun c5 => ?_) (fun c5 => W.pc 24 rfl ?_)
      · have hsp := ip hsp c5
        refine lv_aload_n hx hb dX8_note_32 rfl (lv_at hl 0 rfl) (W.pc 33 rfl ?_)
        obtain ⟨z6, hr_z6, hsp⟩ := ltb_s hsp
        refine kVW (st1 := [.int z6.1]) (ws' := [(a0, .inr (5, [.ref a0_text, .int a0_letters, .ref a0_town, .ref a0_draft, .ref a0_tried, .ref a0_images, .ref a0_kept, .ref a0_refused, .long a0_above, .long a0_below, .ref a0_line, .ref a0_best, .int a0_at, .int a0_start, .int a0_isWell, .int a0_faultAt])), (a0_refused, aI E 3 z6.2), (a0_town, aI E 682 fa0_town)]) [0, 1] hX (c_X8_bad l E a0 a0_text a0_town a0_draft a0_tried a0_images a0_kept a0_refused a0_line a0_best a0_letters a0_above a0_below a0_at a0_start a0_isWell a0_faultAt fa0_refused z6.1 z6.2 hr_z6) B_X8_bad w_4_128 hK hP hD hS hA (by decide) rfl rfl rfl (q0 := 0) (ci := 5) rfl rfl rfl rfl hl.1 rfl (Nat.le_of_ble_eq_true rfl) ⟨Nat.le_of_ble_eq_true rfl, Nat.le_of_ble_eq_true rfl⟩ dX8_note_33 rfl (fun H locs hP hD hS => W.pc 36 rfl ?_)
        cases hsp
        exact rWi hX hP hS rfl rfl dX8_note_36
      · have hsp := iq hsp c5
        refine lv_iload hx hb dX8_note_24 (lv_at hl 4 rfl) (W.pc 26 rfl ?_)
        refine kSR (st1 := [.int (sp_X8_isTilt p4)]) hX (c_X8_isTilt l E p4 _ rfl) B_X8_isTilt w_4_145 hK (hP.pick [] rfl) rfl hl.1 rfl (Nat.le_of_ble_eq_true rfl) ⟨Nat.le_of_ble_eq_true rfl, Nat.le_of_ble_eq_true rfl⟩ dX8_note_26 rfl (W.pc 29 rfl ?_)
        refine lv_if_ne (tgt := 37) hx hb dX8_note_29 (by decide) (fun c7 => ?_) (fun c7 => W.pc 32 rfl ?_)
        · have hsp := iq hsp c7
          refine lv_aload_n hx hb dX8_note_37 rfl (lv_at hl 0 rfl) (W.pc 38 rfl ?_)
          refine va_get (D := E.1) (ci := 5) (v := .ref a0_town) (C := RX8) (T := TX8) (N := 16) hx hb hts inT_X8 hown hK hP 0 rfl rfl 2 (by decide) (hts _ w_4_70) (fun _ h9 => h9) rfl dX8_note_38 (W.pc 41 rfl ?_)
          refine lv_bipush (v := (81 : Int32)) hx hb dX8_note_41 (by decide) (W.pc 43 rfl ?_)
          refine va_iald hx hb hK hP 2 0 rfl rfl (vp_in_nI (n := 81) (N := 682) (by decide) (by decide)) dX8_note_43 (W.pc 44 rfl ?_)
          refine lv_bipush (v := (6 : Int32)) hx hb dX8_note_44 (by decide) (W.pc 46 rfl ?_)
          refine lv_icmp_ne (tgt := 54) hx hb dX8_note_46 (by decide) (fun c8 => ?_) (fun c8 => W.pc 49 rfl ?_)
          · have hsp := iq hsp c8
            refine lv_bipush (v := (82 : Int32)) hx hb dX8_note_54 (by decide) (W.pc 56 rfl ?_)
            refine lv_iconst (v := (4 : Int32)) hx hb dX8_note_56 (by decide) (W.pc 57 rfl ?_)
            refine lv_aload_n hx hb dX8_note_57 rfl (lv_at hl 0 rfl) (W.pc 58 rfl ?_)
            refine va_get (D := E.1) (ci := 5) (v := .ref a0_town) (C := RX8) (T := TX8) (N := 16) hx hb hts inT_X8 hown hK hP 0 rfl rfl 2 (by decide) (hts _ w_4_70) (fun _ h9 => h9) rfl dX8_note_58 (W.pc 61 rfl ?_)
            refine lv_bipush (v := (81 : Int32)) hx hb dX8_note_61 (by decide) (W.pc 63 rfl ?_)
            refine va_iald hx hb hK hP 2 0 rfl rfl (vp_in_nI (n := 81) (N := 682) (by decide) (by decide)) dX8_note_63 (W.pc 64 rfl ?_)
            refine lv_imul hx hb dX8_note_64 (W.pc 65 rfl ?_)
            refine lv_iadd hx hb dX8_note_65 (W.pc 66 rfl ?_)
            refine lv_istore (lv' := [(5, .int ((82 : Int32) + ((4 : Int32) * (fa0_town ((81 : Int32)).toNatClampNeg)))), (0, .ref a0), (1, .int p1), (2, .int p2), (3, .int p3), (4, .int p4)]) hx hb dX8_note_66 hl (by decide) rfl (fun ls hl => W.pc 68 rfl ?_)
            refine lv_aload_n hx hb dX8_note_68 rfl (lv_at hl 1 rfl) (W.pc 69 rfl ?_)
            refine va_get (D := E.1) (ci := 5) (v := .ref a0_town) (C := RX8) (T := TX8) (N := 16) hx hb hts inT_X8 hown hK hP 0 rfl rfl 2 (by decide) (hts _ w_4_70) (fun _ h9 => h9) rfl dX8_note_69 (W.pc 72 rfl ?_)
            refine lv_iload hx hb dX8_note_72 (lv_at hl 0 rfl) (W.pc 74 rfl ?_)
            refine lv_iload_n hx hb dX8_note_74 rfl (lv_at hl 2 rfl) (W.pc 75 rfl ?_)
            obtain ⟨h9, hsp⟩ := gi_s hsp
            refine va_iast hx hb hK hP hD hS 2 0 rfl rfl h9 dX8_note_75 (fun H locs hP hD hS => W.pc 76 rfl ?_)
            have hP : wP E [(a0, .inr (5, [.ref a0_text, .int a0_letters, .ref a0_town, .ref a0_draft, .ref a0_tried, .ref a0_images, .ref a0_kept, .ref a0_refused, .long a0_above, .long a0_below, .ref a0_line, .ref a0_best, .int a0_at, .int a0_start, .int a0_isWell, .int a0_faultAt])), (a0_refused, aI E 3 fa0_refused), (a0_town, aI E 682 (upd fa0_town (((82 : Int32) + ((4 : Int32) * (fa0_town ((81 : Int32)).toNatClampNeg)))).toNatClampNeg p1))] _ := hP
            have hD : va_D A [(a0, .inr (5, [.ref a0_text, .int a0_letters, .ref a0_town, .ref a0_draft, .ref a0_tried, .ref a0_images, .ref a0_kept, .ref a0_refused, .long a0_above, .long a0_below, .ref a0_line, .ref a0_best, .int a0_at, .int a0_start, .int a0_isWell, .int a0_faultAt])), (a0_refused, aI E 3 fa0_refused), (a0_town, aI E 682 (upd fa0_town (((82 : Int32) + ((4 : Int32) * (fa0_town ((81 : Int32)).toNatClampNeg)))).toNatClampNeg p1))] := hD
            refine lv_aload_n hx hb dX8_note_76 rfl (lv_at hl 1 rfl) (W.pc 77 rfl ?_)
            refine va_get (D := E.1) (ci := 5) (v := .ref a0_town) (C := RX8) (T := TX8) (N := 16) hx hb hts inT_X8 hown hK hP 0 rfl rfl 2 (by decide) (hts _ w_4_70) (fun _ h9 => h9) rfl dX8_note_77 (W.pc 80 rfl ?_)
            refine lv_iload hx hb dX8_note_80 (lv_at hl 0 rfl) (W.pc 82 rfl ?_)
            refine lv_iconst (v := (1 : Int32)) hx hb dX8_note_82 (by decide) (W.pc 83 rfl ?_)
            refine lv_iadd hx hb dX8_note_83 (W.pc 84 rfl ?_)
            refine lv_iload_n hx hb dX8_note_84 rfl (lv_at hl 3 rfl) (W.pc 85 rfl ?_)
            obtain ⟨h10, hsp⟩ := gi_s hsp
            refine va_iast hx hb hK hP hD hS 2 0 rfl rfl h10 dX8_note_85 (fun H locs hP hD hS => W.pc 86 rfl ?_)
            have hP : wP E [(a0, .inr (5, [.ref a0_text, .int a0_letters, .ref a0_town, .ref a0_draft, .ref a0_tried, .ref a0_images, .ref a0_kept, .ref a0_refused, .long a0_above, .long a0_below, .ref a0_line, .ref a0_best, .int a0_at, .int a0_start, .int a0_isWell, .int a0_faultAt])), (a0_refused, aI E 3 fa0_refused), (a0_town, aI E 682 (upd (upd fa0_town (((82 : Int32) + ((4 : Int32) * (fa0_town ((81 : Int32)).toNatClampNeg)))).toNatClampNeg p1) ((((82 : Int32) + ((4 : Int32) * (fa0_town ((81 : Int32)).toNatClampNeg))) + (1 : Int32))).toNatClampNeg p2))] _ := hP
            have hD : va_D A [(a0, .inr (5, [.ref a0_text, .int a0_letters, .ref a0_town, .ref a0_draft, .ref a0_tried, .ref a0_images, .ref a0_kept, .ref a0_refused, .long a0_above, .long a0_below, .ref a0_line, .ref a0_best, .int a0_at, .int a0_start, .int a0_isWell, .int a0_faultAt])), (a0_refused, aI E 3 fa0_refused), (a0_town, aI E 682 (upd (upd fa0_town (((82 : Int32) + ((4 : Int32) * (fa0_town ((81 : Int32)).toNatClampNeg)))).toNatClampNeg p1) ((((82 : Int32) + ((4 : Int32) * (fa0_town ((81 : Int32)).toNatClampNeg))) + (1 : Int32))).toNatClampNeg p2))] := hD
            refine lv_aload_n hx hb dX8_note_86 rfl (lv_at hl 1 rfl) (W.pc 87 rfl ?_)
            refine va_get (D := E.1) (ci := 5) (v := .ref a0_town) (C := RX8) (T := TX8) (N := 16) hx hb hts inT_X8 hown hK hP 0 rfl rfl 2 (by decide) (hts _ w_4_70) (fun _ h9 => h9) rfl dX8_note_87 (W.pc 90 rfl ?_)
            refine lv_iload hx hb dX8_note_90 (lv_at hl 0 rfl) (W.pc 92 rfl ?_)
            refine lv_iconst (v := (2 : Int32)) hx hb dX8_note_92 (by decide) (W.pc 93 rfl ?_)
            refine lv_iadd hx hb dX8_note_93 (W.pc 94 rfl ?_)
            refine lv_iload_n hx hb dX8_note_94 rfl (lv_at hl 4 rfl) (W.pc 95 rfl ?_)
            obtain ⟨h11, hsp⟩ := gi_s hsp
            refine va_iast hx hb hK hP hD hS 2 0 rfl rfl h11 dX8_note_95 (fun H locs hP hD hS => W.pc 96 rfl ?_)
            have hP : wP E [(a0, .inr (5, [.ref a0_text, .int a0_letters, .ref a0_town, .ref a0_draft, .ref a0_tried, .ref a0_images, .ref a0_kept, .ref a0_refused, .long a0_above, .long a0_below, .ref a0_line, .ref a0_best, .int a0_at, .int a0_start, .int a0_isWell, .int a0_faultAt])), (a0_refused, aI E 3 fa0_refused), (a0_town, aI E 682 (upd (upd (upd fa0_town (((82 : Int32) + ((4 : Int32) * (fa0_town ((81 : Int32)).toNatClampNeg)))).toNatClampNeg p1) ((((82 : Int32) + ((4 : Int32) * (fa0_town ((81 : Int32)).toNatClampNeg))) + (1 : Int32))).toNatClampNeg p2) ((((82 : Int32) + ((4 : Int32) * (fa0_town ((81 : Int32)).toNatClampNeg))) + (2 : Int32))).toNatClampNeg p3))] _ := hP
            have hD : va_D A [(a0, .inr (5, [.ref a0_text, .int a0_letters, .ref a0_town, .ref a0_draft, .ref a0_tried, .ref a0_images, .ref a0_kept, .ref a0_refused, .long a0_above, .long a0_below, .ref a0_line, .ref a0_best, .int a0_at, .int a0_start, .int a0_isWell, .int a0_faultAt])), (a0_refused, aI E 3 fa0_refused), (a0_town, aI E 682 (upd (upd (upd fa0_town (((82 : Int32) + ((4 : Int32) * (fa0_town ((81 : Int32)).toNatClampNeg)))).toNatClampNeg p1) ((((82 : Int32) + ((4 : Int32) * (fa0_town ((81 : Int32)).toNatClampNeg))) + (1 : Int32))).toNatClampNeg p2) ((((82 : Int32) + ((4 : Int32) * (fa0_town ((81 : Int32)).toNatClampNeg))) + (2 : Int32))).toNatClampNeg p3))] := hD
            refine lv_aload_n hx hb dX8_note_96 rfl (lv_at hl 1 rfl) (W.pc 97 rfl ?_)
            refine va_get (D := E.1) (ci := 5) (v := .ref a0_town) (C := RX8) (T := TX8) (N := 16) hx hb hts inT_X8 hown hK hP 0 rfl rfl 2 (by decide) (hts _ w_4_70) (fun _ h9 => h9) rfl dX8_note_97 (W.pc 100 rfl ?_)
            refine lv_iload hx hb dX8_note_100 (lv_at hl 0 rfl) (W.pc 102 rfl ?_)
            refine lv_iconst (v := (3 : Int32)) hx hb dX8_note_102 (by decide) (W.pc 103 rfl ?_)
            refine lv_iadd hx hb dX8_note_103 (W.pc 104 rfl ?_)
            refine lv_iload hx hb dX8_note_104 (lv_at hl 5 rfl) (W.pc 106 rfl ?_)
            obtain ⟨h12, hsp⟩ := gi_s hsp
            refine va_iast hx hb hK hP hD hS 2 0 rfl rfl h12 dX8_note_106 (fun H locs hP hD hS => W.pc 107 rfl ?_)
            have hP : wP E [(a0, .inr (5, [.ref a0_text, .int a0_letters, .ref a0_town, .ref a0_draft, .ref a0_tried, .ref a0_images, .ref a0_kept, .ref a0_refused, .long a0_above, .long a0_below, .ref a0_line, .ref a0_best, .int a0_at, .int a0_start, .int a0_isWell, .int a0_faultAt])), (a0_refused, aI E 3 fa0_refused), (a0_town, aI E 682 (upd (upd (upd (upd fa0_town (((82 : Int32) + ((4 : Int32) * (fa0_town ((81 : Int32)).toNatClampNeg)))).toNatClampNeg p1) ((((82 : Int32) + ((4 : Int32) * (fa0_town ((81 : Int32)).toNatClampNeg))) + (1 : Int32))).toNatClampNeg p2) ((((82 : Int32) + ((4 : Int32) * (fa0_town ((81 : Int32)).toNatClampNeg))) + (2 : Int32))).toNatClampNeg p3) ((((82 : Int32) + ((4 : Int32) * (fa0_town ((81 : Int32)).toNatClampNeg))) + (3 : Int32))).toNatClampNeg p4))] _ := hP
            have hD : va_D A [(a0, .inr (5, [.ref a0_text, .int a0_letters, .ref a0_town, .ref a0_draft, .ref a0_tried, .ref a0_images, .ref a0_kept, .ref a0_refused, .long a0_above, .long a0_below, .ref a0_line, .ref a0_best, .int a0_at, .int a0_start, .int a0_isWell, .int a0_faultAt])), (a0_refused, aI E 3 fa0_refused), (a0_town, aI E 682 (upd (upd (upd (upd fa0_town (((82 : Int32) + ((4 : Int32) * (fa0_town ((81 : Int32)).toNatClampNeg)))).toNatClampNeg p1) ((((82 : Int32) + ((4 : Int32) * (fa0_town ((81 : Int32)).toNatClampNeg))) + (1 : Int32))).toNatClampNeg p2) ((((82 : Int32) + ((4 : Int32) * (fa0_town ((81 : Int32)).toNatClampNeg))) + (2 : Int32))).toNatClampNeg p3) ((((82 : Int32) + ((4 : Int32) * (fa0_town ((81 : Int32)).toNatClampNeg))) + (3 : Int32))).toNatClampNeg p4))] := hD
            refine lv_aload_n hx hb dX8_note_107 rfl (lv_at hl 1 rfl) (W.pc 108 rfl ?_)
            refine va_get (D := E.1) (ci := 5) (v := .ref a0_town) (C := RX8) (T := TX8) (N := 16) hx hb hts inT_X8 hown hK hP 0 rfl rfl 2 (by decide) (hts _ w_4_70) (fun _ h9 => h9) rfl dX8_note_108 (W.pc 111 rfl ?_)
            refine lv_bipush (v := (81 : Int32)) hx hb dX8_note_111 (by decide) (W.pc 113 rfl ?_)
            refine lv_dup2_11 hx hb dX8_note_113 rfl rfl (W.pc 114 rfl ?_)
            refine va_iald hx hb hK hP 2 0 rfl rfl (vp_in_nI (n := 81) (N := 682) (by decide) (by decide)) dX8_note_114 (W.pc 115 rfl ?_)
            refine lv_iconst (v := (1 : Int32)) hx hb dX8_note_115 (by decide) (W.pc 116 rfl ?_)
            refine lv_iadd hx hb dX8_note_116 (W.pc 117 rfl ?_)
            refine va_iast hx hb hK hP hD hS 2 0 rfl rfl (vp_in_nI (n := 81) (N := 682) (by decide) (by decide)) dX8_note_117 (fun H locs hP hD hS => W.pc 118 rfl ?_)
            have hP : wP E [(a0, .inr (5, [.ref a0_text, .int a0_letters, .ref a0_town, .ref a0_draft, .ref a0_tried, .ref a0_images, .ref a0_kept, .ref a0_refused, .long a0_above, .long a0_below, .ref a0_line, .ref a0_best, .int a0_at, .int a0_start, .int a0_isWell, .int a0_faultAt])), (a0_refused, aI E 3 fa0_refused), (a0_town, aI E 682 (upd (upd (upd (upd (upd fa0_town (((82 : Int32) + ((4 : Int32) * (fa0_town ((81 : Int32)).toNatClampNeg)))).toNatClampNeg p1) ((((82 : Int32) + ((4 : Int32) * (fa0_town ((81 : Int32)).toNatClampNeg))) + (1 : Int32))).toNatClampNeg p2) ((((82 : Int32) + ((4 : Int32) * (fa0_town ((81 : Int32)).toNatClampNeg))) + (2 : Int32))).toNatClampNeg p3) ((((82 : Int32) + ((4 : Int32) * (fa0_town ((81 : Int32)).toNatClampNeg))) + (3 : Int32))).toNatClampNeg p4) ((81 : Int32)).toNatClampNeg (((upd (upd (upd (upd fa0_town (((82 : Int32) + ((4 : Int32) * (fa0_town ((81 : Int32)).toNatClampNeg)))).toNatClampNeg p1) ((((82 : Int32) + ((4 : Int32) * (fa0_town ((81 : Int32)).toNatClampNeg))) + (1 : Int32))).toNatClampNeg p2) ((((82 : Int32) + ((4 : Int32) * (fa0_town ((81 : Int32)).toNatClampNeg))) + (2 : Int32))).toNatClampNeg p3) ((((82 : Int32) + ((4 : Int32) * (fa0_town ((81 : Int32)).toNatClampNeg))) + (3 : Int32))).toNatClampNeg p4) ((81 : Int32)).toNatClampNeg) + (1 : Int32))))] _ := hP
            have hD : va_D A [(a0, .inr (5, [.ref a0_text, .int a0_letters, .ref a0_town, .ref a0_draft, .ref a0_tried, .ref a0_images, .ref a0_kept, .ref a0_refused, .long a0_above, .long a0_below, .ref a0_line, .ref a0_best, .int a0_at, .int a0_start, .int a0_isWell, .int a0_faultAt])), (a0_refused, aI E 3 fa0_refused), (a0_town, aI E 682 (upd (upd (upd (upd (upd fa0_town (((82 : Int32) + ((4 : Int32) * (fa0_town ((81 : Int32)).toNatClampNeg)))).toNatClampNeg p1) ((((82 : Int32) + ((4 : Int32) * (fa0_town ((81 : Int32)).toNatClampNeg))) + (1 : Int32))).toNatClampNeg p2) ((((82 : Int32) + ((4 : Int32) * (fa0_town ((81 : Int32)).toNatClampNeg))) + (2 : Int32))).toNatClampNeg p3) ((((82 : Int32) + ((4 : Int32) * (fa0_town ((81 : Int32)).toNatClampNeg))) + (3 : Int32))).toNatClampNeg p4) ((81 : Int32)).toNatClampNeg (((upd (upd (upd (upd fa0_town (((82 : Int32) + ((4 : Int32) * (fa0_town ((81 : Int32)).toNatClampNeg)))).toNatClampNeg p1) ((((82 : Int32) + ((4 : Int32) * (fa0_town ((81 : Int32)).toNatClampNeg))) + (1 : Int32))).toNatClampNeg p2) ((((82 : Int32) + ((4 : Int32) * (fa0_town ((81 : Int32)).toNatClampNeg))) + (2 : Int32))).toNatClampNeg p3) ((((82 : Int32) + ((4 : Int32) * (fa0_town ((81 : Int32)).toNatClampNeg))) + (3 : Int32))).toNatClampNeg p4) ((81 : Int32)).toNatClampNeg) + (1 : Int32))))] := hD
            refine lv_aload_n hx hb dX8_note_118 rfl (lv_at hl 1 rfl) (W.pc 119 rfl ?_)
            refine va_get (D := E.1) (ci := 5) (v := .ref a0_town) (C := RX8) (T := TX8) (N := 16) hx hb hts inT_X8 hown hK hP 0 rfl rfl 2 (by decide) (hts _ w_4_70) (fun _ h9 => h9) rfl dX8_note_119 (W.pc 122 rfl ?_)
            refine lv_bipush (v := (81 : Int32)) hx hb dX8_note_122 (by decide) (W.pc 124 rfl ?_)
            refine va_iald hx hb hK hP 2 0 rfl rfl (vp_in_nI (n := 81) (N := 682) (by decide) (by decide)) dX8_note_124 (W.pc 125 rfl ?_)
            cases hsp
            exact rWi hX hP hS rfl rfl dX8_note_125
          · have hsp := ip hsp c8
            refine lv_aload_n hx hb dX8_note_49 rfl (lv_at hl 0 rfl) (W.pc 50 rfl ?_)
            obtain ⟨z13, hr_z13, hsp⟩ := ltb_s hsp
            refine kVW (st1 := [.int z13.1]) (ws' := [(a0, .inr (5, [.ref a0_text, .int a0_letters, .ref a0_town, .ref a0_draft, .ref a0_tried, .ref a0_images, .ref a0_kept, .ref a0_refused, .long a0_above, .long a0_below, .ref a0_line, .ref a0_best, .int a0_at, .int a0_start, .int a0_isWell, .int a0_faultAt])), (a0_refused, aI E 3 z13.2), (a0_town, aI E 682 fa0_town)]) [0, 1] hX (c_X8_full l E a0 a0_text a0_town a0_draft a0_tried a0_images a0_kept a0_refused a0_line a0_best a0_letters a0_above a0_below a0_at a0_start a0_isWell a0_faultAt fa0_refused z13.1 z13.2 hr_z13) B_X8_full w_4_156 hK hP hD hS hA (by decide) rfl rfl rfl (q0 := 0) (ci := 5) rfl rfl rfl rfl hl.1 rfl (Nat.le_of_ble_eq_true rfl) ⟨Nat.le_of_ble_eq_true rfl, Nat.le_of_ble_eq_true rfl⟩ dX8_note_50 rfl (fun H locs hP hD hS => W.pc 53 rfl ?_)
            cases hsp
            exact rWi hX hP hS rfl rfl dX8_note_53
        · have hsp := ip hsp c7
          refine lv_aload_n hx hb dX8_note_32 rfl (lv_at hl 0 rfl) (W.pc 33 rfl ?_)
          obtain ⟨z14, hr_z14, hsp⟩ := ltb_s hsp
          refine kVW (st1 := [.int z14.1]) (ws' := [(a0, .inr (5, [.ref a0_text, .int a0_letters, .ref a0_town, .ref a0_draft, .ref a0_tried, .ref a0_images, .ref a0_kept, .ref a0_refused, .long a0_above, .long a0_below, .ref a0_line, .ref a0_best, .int a0_at, .int a0_start, .int a0_isWell, .int a0_faultAt])), (a0_refused, aI E 3 z14.2), (a0_town, aI E 682 fa0_town)]) [0, 1] hX (c_X8_bad l E a0 a0_text a0_town a0_draft a0_tried a0_images a0_kept a0_refused a0_line a0_best a0_letters a0_above a0_below a0_at a0_start a0_isWell a0_faultAt fa0_refused z14.1 z14.2 hr_z14) B_X8_bad w_4_128 hK hP hD hS hA (by decide) rfl rfl rfl (q0 := 0) (ci := 5) rfl rfl rfl rfl hl.1 rfl (Nat.le_of_ble_eq_true rfl) ⟨Nat.le_of_ble_eq_true rfl, Nat.le_of_ble_eq_true rfl⟩ dX8_note_33 rfl (fun H locs hP hD hS => W.pc 36 rfl ?_)
          cases hsp
          exact rWi hX hP hS rfl rfl dX8_note_36
noncomputable def sp_X8_mark (p1 : Int32) (p2 : Int32) (p3 : Int32) (p4 : Int32) (p5 : Int32) (fa0_refused : Nat → Int32) (fa0_town : Nat → Int32) : Option (Int32 × (Nat → Int32) × (Nat → Int32)) := if (sp_X8_in p1 (0 : Int32) (9 : Int32)) = 0 then (lt_ (sp_X8_bad fa0_refused) fun z2 => some (z2.1, z2.2, fa0_town)) else (if (sp_X8_isTilt p2) = 0 then (lt_ (sp_X8_bad fa0_refused) fun z4 => some (z4.1, z4.2, fa0_town)) else (if (sp_X8_isTilt p3) = 0 then (lt_ (sp_X8_bad fa0_refused) fun z6 => some (z6.1, z6.2, fa0_town)) else (if (sp_X8_in p4 (0 : Int32) (30 : Int32)) = 0 then (lt_ (sp_X8_bad fa0_refused) fun z8 => some (z8.1, z8.2, fa0_town)) else (if (sp_X8_in p5 (0 : Int32) (1 : Int32)) = 0 then (lt_ (sp_X8_bad fa0_refused) fun z17 => some (z17.1, z17.2, fa0_town)) else (if (fa0_town ((106 : Int32)).toNatClampNeg) = (6 : Int32) then (lt_ (sp_X8_full fa0_refused) fun z16 => some (z16.1, z16.2, fa0_town)) else (gi ((107 : Int32) + ((5 : Int32) * (fa0_town ((106 : Int32)).toNatClampNeg))) 682 (gi (((107 : Int32) + ((5 : Int32) * (fa0_town ((106 : Int32)).toNatClampNeg))) + (1 : Int32)) 682 (gi (((107 : Int32) + ((5 : Int32) * (fa0_town ((106 : Int32)).toNatClampNeg))) + (2 : Int32)) 682 (gi (((107 : Int32) + ((5 : Int32) * (fa0_town ((106 : Int32)).toNatClampNeg))) + (3 : Int32)) 682 (gi (((107 : Int32) + ((5 : Int32) * (fa0_town ((106 : Int32)).toNatClampNeg))) + (4 : Int32)) 682 (some (((upd (upd (upd (upd (upd (upd fa0_town (((107 : Int32) + ((5 : Int32) * (fa0_town ((106 : Int32)).toNatClampNeg)))).toNatClampNeg p1) ((((107 : Int32) + ((5 : Int32) * (fa0_town ((106 : Int32)).toNatClampNeg))) + (1 : Int32))).toNatClampNeg p2) ((((107 : Int32) + ((5 : Int32) * (fa0_town ((106 : Int32)).toNatClampNeg))) + (2 : Int32))).toNatClampNeg p3) ((((107 : Int32) + ((5 : Int32) * (fa0_town ((106 : Int32)).toNatClampNeg))) + (3 : Int32))).toNatClampNeg p4) ((((107 : Int32) + ((5 : Int32) * (fa0_town ((106 : Int32)).toNatClampNeg))) + (4 : Int32))).toNatClampNeg p5) ((106 : Int32)).toNatClampNeg (((upd (upd (upd (upd (upd fa0_town (((107 : Int32) + ((5 : Int32) * (fa0_town ((106 : Int32)).toNatClampNeg)))).toNatClampNeg p1) ((((107 : Int32) + ((5 : Int32) * (fa0_town ((106 : Int32)).toNatClampNeg))) + (1 : Int32))).toNatClampNeg p2) ((((107 : Int32) + ((5 : Int32) * (fa0_town ((106 : Int32)).toNatClampNeg))) + (2 : Int32))).toNatClampNeg p3) ((((107 : Int32) + ((5 : Int32) * (fa0_town ((106 : Int32)).toNatClampNeg))) + (3 : Int32))).toNatClampNeg p4) ((((107 : Int32) + ((5 : Int32) * (fa0_town ((106 : Int32)).toNatClampNeg))) + (4 : Int32))).toNatClampNeg p5) ((106 : Int32)).toNatClampNeg) + (1 : Int32))) ((106 : Int32)).toNatClampNeg), fa0_refused, (upd (upd (upd (upd (upd (upd fa0_town (((107 : Int32) + ((5 : Int32) * (fa0_town ((106 : Int32)).toNatClampNeg)))).toNatClampNeg p1) ((((107 : Int32) + ((5 : Int32) * (fa0_town ((106 : Int32)).toNatClampNeg))) + (1 : Int32))).toNatClampNeg p2) ((((107 : Int32) + ((5 : Int32) * (fa0_town ((106 : Int32)).toNatClampNeg))) + (2 : Int32))).toNatClampNeg p3) ((((107 : Int32) + ((5 : Int32) * (fa0_town ((106 : Int32)).toNatClampNeg))) + (3 : Int32))).toNatClampNeg p4) ((((107 : Int32) + ((5 : Int32) * (fa0_town ((106 : Int32)).toNatClampNeg))) + (4 : Int32))).toNatClampNeg p5) ((106 : Int32)).toNatClampNeg (((upd (upd (upd (upd (upd fa0_town (((107 : Int32) + ((5 : Int32) * (fa0_town ((106 : Int32)).toNatClampNeg)))).toNatClampNeg p1) ((((107 : Int32) + ((5 : Int32) * (fa0_town ((106 : Int32)).toNatClampNeg))) + (1 : Int32))).toNatClampNeg p2) ((((107 : Int32) + ((5 : Int32) * (fa0_town ((106 : Int32)).toNatClampNeg))) + (2 : Int32))).toNatClampNeg p3) ((((107 : Int32) + ((5 : Int32) * (fa0_town ((106 : Int32)).toNatClampNeg))) + (3 : Int32))).toNatClampNeg p4) ((((107 : Int32) + ((5 : Int32) * (fa0_town ((106 : Int32)).toNatClampNeg))) + (4 : Int32))).toNatClampNeg p5) ((106 : Int32)).toNatClampNeg) + (1 : Int32)))))))))))))))
set_option maxHeartbeats 4000000 in
set_option maxRecDepth 100000 in
theorem c_X8_mark (l : Launch) (E : wE) (a0 a0_text a0_town a0_draft a0_tried a0_images a0_kept a0_refused a0_line a0_best : Nat) (p1 : Int32) (p2 : Int32) (p3 : Int32) (p4 : Int32) (p5 : Int32) (a0_letters : Int32) (a0_above : Int64) (a0_below : Int64) (a0_at : Int32) (a0_start : Int32) (a0_isWell : Int32) (a0_faultAt : Int32) (fa0_refused : Nat → Int32) (fa0_town : Nat → Int32) (z_0 : Int32) (z_1 : (Nat → Int32)) (z_2 : (Nat → Int32)) (hsp : sp_X8_mark p1 p2 p3 p4 p5 fa0_refused fa0_town = some (z_0, z_1, z_2)) : MW l yX8_mark cX8_mark 7 (some .int) 2 E [.ref a0, .int p1, .int p2, .int p3, .int p4, .int p5] [(a0, .inr (5, [.ref a0_text, .int a0_letters, .ref a0_town, .ref a0_draft, .ref a0_tried, .ref a0_images, .ref a0_kept, .ref a0_refused, .long a0_above, .long a0_below, .ref a0_line, .ref a0_best, .int a0_at, .int a0_start, .int a0_isWell, .int a0_faultAt])), (a0_refused, aI E 3 fa0_refused), (a0_town, aI E 682 fa0_town)] (some (.int z_0)) [(a0, .inr (5, [.ref a0_text, .int a0_letters, .ref a0_town, .ref a0_draft, .ref a0_tried, .ref a0_images, .ref a0_kept, .ref a0_refused, .long a0_above, .long a0_below, .ref a0_line, .ref a0_best, .int a0_at, .int a0_start, .int a0_isWell, .int a0_faultAt])), (a0_refused, aI E 3 z_1), (a0_town, aI E 682 z_2)] := by
  refine MW.of (by decide +kernel) (Nat.le_of_ble_eq_true rfl) ?_
  intro p e s m below meth c ls A hX hK hP hD hS hA hl
  have hX : CX p s m [.ref a0, .int p1, .int p2, .int p3, .int p4, .int p5].toArray meth c cX8_mark 7 (some .int) RX8 := hX
  have hx := hX.1; have hb := hX.2.1; have hts := hX.2.2.2.2.1; have hown := hX.2.2.2.2.2.1
  have hl : lv_has ls 7 [(0, .ref a0), (1, .int p1), (2, .int p2), (3, .int p3), (4, .int p4), (5, .int p5)] := hl
  have hP : wP E [(a0, .inr (5, [.ref a0_text, .int a0_letters, .ref a0_town, .ref a0_draft, .ref a0_tried, .ref a0_images, .ref a0_kept, .ref a0_refused, .long a0_above, .long a0_below, .ref a0_line, .ref a0_best, .int a0_at, .int a0_start, .int a0_isWell, .int a0_faultAt])), (a0_refused, aI E 3 fa0_refused), (a0_town, aI E 682 fa0_town)] s.heap := hP
  have hsp : (if (sp_X8_in p1 (0 : Int32) (9 : Int32)) = 0 then (lt_ (sp_X8_bad fa0_refused) fun z2 => some (z2.1, z2.2, fa0_town)) else (if (sp_X8_isTilt p2) = 0 then (lt_ (sp_X8_bad fa0_refused) fun z4 => some (z4.1, z4.2, fa0_town)) else (if (sp_X8_isTilt p3) = 0 then (lt_ (sp_X8_bad fa0_refused) fun z6 => some (z6.1, z6.2, fa0_town)) else (if (sp_X8_in p4 (0 : Int32) (30 : Int32)) = 0 then (lt_ (sp_X8_bad fa0_refused) fun z8 => some (z8.1, z8.2, fa0_town)) else (if (sp_X8_in p5 (0 : Int32) (1 : Int32)) = 0 then (lt_ (sp_X8_bad fa0_refused) fun z17 => some (z17.1, z17.2, fa0_town)) else (if (fa0_town ((106 : Int32)).toNatClampNeg) = (6 : Int32) then (lt_ (sp_X8_full fa0_refused) fun z16 => some (z16.1, z16.2, fa0_town)) else (gi ((107 : Int32) + ((5 : Int32) * (fa0_town ((106 : Int32)).toNatClampNeg))) 682 (gi (((107 : Int32) + ((5 : Int32) * (fa0_town ((106 : Int32)).toNatClampNeg))) + (1 : Int32)) 682 (gi (((107 : Int32) + ((5 : Int32) * (fa0_town ((106 : Int32)).toNatClampNeg))) + (2 : Int32)) 682 (gi (((107 : Int32) + ((5 : Int32) * (fa0_town ((106 : Int32)).toNatClampNeg))) + (3 : Int32)) 682 (gi (((107 : Int32) + ((5 : Int32) * (fa0_town ((106 : Int32)).toNatClampNeg))) + (4 : Int32)) 682 (some (((upd (upd (upd (upd (upd (upd fa0_town (((107 : Int32) + ((5 : Int32) * (fa0_town ((106 : Int32)).toNatClampNeg)))).toNatClampNeg p1) ((((107 : Int32) + ((5 : Int32) * (fa0_town ((106 : Int32)).toNatClampNeg))) + (1 : Int32))).toNatClampNeg p2) ((((107 : Int32) + ((5 : Int32) * (fa0_town ((106 : Int32)).toNatClampNeg))) + (2 : Int32))).toNatClampNeg p3) ((((107 : Int32) + ((5 : Int32) * (fa0_town ((106 : Int32)).toNatClampNeg))) + (3 : Int32))).toNatClampNeg p4) ((((107 : Int32) + ((5 : Int32) * (fa0_town ((106 : Int32)).toNatClampNeg))) + (4 : Int32))).toNatClampNeg p5) ((106 : Int32)).toNatClampNeg (((upd (upd (upd (upd (upd fa0_town (((107 : Int32) + ((5 : Int32) * (fa0_town ((106 : Int32)).toNatClampNeg)))).toNatClampNeg p1) ((((107 : Int32) + ((5 : Int32) * (fa0_town ((106 : Int32)).toNatClampNeg))) + (1 : Int32))).toNatClampNeg p2) ((((107 : Int32) + ((5 : Int32) * (fa0_town ((106 : Int32)).toNatClampNeg))) + (2 : Int32))).toNatClampNeg p3) ((((107 : Int32) + ((5 : Int32) * (fa0_town ((106 : Int32)).toNatClampNeg))) + (3 : Int32))).toNatClampNeg p4) ((((107 : Int32) + ((5 : Int32) * (fa0_town ((106 : Int32)).toNatClampNeg))) + (4 : Int32))).toNatClampNeg p5) ((106 : Int32)).toNatClampNeg) + (1 : Int32))) ((106 : Int32)).toNatClampNeg), fa0_refused, (upd (upd (upd (upd (upd (upd fa0_town (((107 : Int32) + ((5 : Int32) * (fa0_town ((106 : Int32)).toNatClampNeg)))).toNatClampNeg p1) ((((107 : Int32) + ((5 : Int32) * (fa0_town ((106 : Int32)).toNatClampNeg))) + (1 : Int32))).toNatClampNeg p2) ((((107 : Int32) + ((5 : Int32) * (fa0_town ((106 : Int32)).toNatClampNeg))) + (2 : Int32))).toNatClampNeg p3) ((((107 : Int32) + ((5 : Int32) * (fa0_town ((106 : Int32)).toNatClampNeg))) + (3 : Int32))).toNatClampNeg p4) ((((107 : Int32) + ((5 : Int32) * (fa0_town ((106 : Int32)).toNatClampNeg))) + (4 : Int32))).toNatClampNeg p5) ((106 : Int32)).toNatClampNeg (((upd (upd (upd (upd (upd fa0_town (((107 : Int32) + ((5 : Int32) * (fa0_town ((106 : Int32)).toNatClampNeg)))).toNatClampNeg p1) ((((107 : Int32) + ((5 : Int32) * (fa0_town ((106 : Int32)).toNatClampNeg))) + (1 : Int32))).toNatClampNeg p2) ((((107 : Int32) + ((5 : Int32) * (fa0_town ((106 : Int32)).toNatClampNeg))) + (2 : Int32))).toNatClampNeg p3) ((((107 : Int32) + ((5 : Int32) * (fa0_town ((106 : Int32)).toNatClampNeg))) + (3 : Int32))).toNatClampNeg p4) ((((107 : Int32) + ((5 : Int32) * (fa0_town ((106 : Int32)).toNatClampNeg))) + (4 : Int32))).toNatClampNeg p5) ((106 : Int32)).toNatClampNeg) + (1 : Int32)))))))))))))))) = some (z_0, z_1, z_2) := hsp
  refine lv_iload_n hx hb dX8_mark_0 rfl (lv_at hl 1 rfl) (W.pc 1 rfl ?_)
  refine lv_iconst (v := (0 : Int32)) hx hb dX8_mark_1 (by decide) (W.pc 2 rfl ?_)
  refine lv_bipush (v := (9 : Int32)) hx hb dX8_mark_2 (by decide) (W.pc 4 rfl ?_)
  refine kSR (st1 := [.int (sp_X8_in p1 (0 : Int32) (9 : Int32))]) hX (c_X8_in l E p1 (0 : Int32) (9 : Int32) _ rfl) B_X8_in w_4_125 hK (hP.pick [] rfl) rfl hl.1 rfl (Nat.le_of_ble_eq_true rfl) ⟨Nat.le_of_ble_eq_true rfl, Nat.le_of_ble_eq_true rfl⟩ dX8_mark_4 rfl (W.pc 7 rfl ?_)
  refine lv_if_eq (tgt := 45) hx hb dX8_mark_7 (by decide) (fun c1 => ?_) (fun c1 => W.pc 10 rfl ?_)
  · have hsp := ip hsp c1
    refine lv_aload_n hx hb dX8_mark_45 rfl (lv_at hl 0 rfl) (W.pc 46 rfl ?_)
    obtain ⟨z2, hr_z2, hsp⟩ := ltb_s hsp
    refine kVW (st1 := [.int z2.1]) (ws' := [(a0, .inr (5, [.ref a0_text, .int a0_letters, .ref a0_town, .ref a0_draft, .ref a0_tried, .ref a0_images, .ref a0_kept, .ref a0_refused, .long a0_above, .long a0_below, .ref a0_line, .ref a0_best, .int a0_at, .int a0_start, .int a0_isWell, .int a0_faultAt])), (a0_refused, aI E 3 z2.2), (a0_town, aI E 682 fa0_town)]) [0, 1] hX (c_X8_bad l E a0 a0_text a0_town a0_draft a0_tried a0_images a0_kept a0_refused a0_line a0_best a0_letters a0_above a0_below a0_at a0_start a0_isWell a0_faultAt fa0_refused z2.1 z2.2 hr_z2) B_X8_bad w_4_128 hK hP hD hS hA (by decide) rfl rfl rfl (q0 := 0) (ci := 5) rfl rfl rfl rfl hl.1 rfl (Nat.le_of_ble_eq_true rfl) ⟨Nat.le_of_ble_eq_true rfl, Nat.le_of_ble_eq_true rfl⟩ dX8_mark_46 rfl (fun H locs hP hD hS => W.pc 49 rfl ?_)
    cases hsp
    exact rWi hX hP hS rfl rfl dX8_mark_49
  · have hsp := iq hsp c1
    refine lv_iload_n hx hb dX8_mark_10 rfl (lv_at hl 2 rfl) (W.pc 11 rfl ?_)
    refine kSR (st1 := [.int (sp_X8_isTilt p2)]) hX (c_X8_isTilt l E p2 _ rfl) B_X8_isTilt w_4_145 hK (hP.pick [] rfl) rfl hl.1 rfl (Nat.le_of_ble_eq_true rfl) ⟨Nat.le_of_ble_eq_true rfl, Nat.le_of_ble_eq_true rfl⟩ dX8_mark_11 rfl (W.pc 14 rfl ?_)
    refine lv_if_eq (tgt := 45) hx hb dX8_mark_14 (by decide) (fun c3 => ?_) (fun c3 => W.pc 17 rfl ?_)
    · have hsp := ip hsp c3
      refine lv_aload_n hx hb dX8_mark_45 rfl (lv_at hl 0 rfl) (W.pc 46 rfl ?_)
      obtain ⟨z4, hr_z4, hsp⟩ := ltb_s hsp
      refine kVW (st1 := [.int z4.1]) (ws' := [(a0, .inr (5, [.ref a0_text, .int a0_letters, .ref a0_town, .ref a0_draft, .ref a0_tried, .ref a0_images, .ref a0_kept, .ref a0_refused, .long a0_above, .long a0_below, .ref a0_line, .ref a0_best, .int a0_at, .int a0_start, .int a0_isWell, .int a0_faultAt])), (a0_refused, aI E 3 z4.2), (a0_town, aI E 682 fa0_town)]) [0, 1] hX (c_X8_bad l E a0 a0_text a0_town a0_draft a0_tried a0_images a0_kept a0_refused a0_line a0_best a0_letters a0_above a0_below a0_at a0_start a0_isWell a0_faultAt fa0_refused z4.1 z4.2 hr_z4) B_X8_bad w_4_128 hK hP hD hS hA (by decide) rfl rfl rfl (q0 := 0) (ci := 5) rfl rfl rfl rfl hl.1 rfl (Nat.le_of_ble_eq_true rfl) ⟨Nat.le_of_ble_eq_true rfl, Nat.le_of_ble_eq_true rfl⟩ dX8_mark_46 rfl (fun H locs hP hD hS => W.pc 49 rfl ?_)
      cases hsp
      exact rWi hX hP hS rfl rfl dX8_mark_49
    · have hsp := iq hsp c3
      refine lv_iload_n hx hb dX8_mark_17 rfl (lv_at hl 3 rfl) (W.pc 18 rfl ?_)
      refine kSR (st1 := [.int (sp_X8_isTilt p3)]) hX (c_X8_isTilt l E p3 _ rfl) B_X8_isTilt w_4_145 hK (hP.pick [] rfl) rfl hl.1 rfl (Nat.le_of_ble_eq_true rfl) ⟨Nat.le_of_ble_eq_true rfl, Nat.le_of_ble_eq_true rfl⟩ dX8_mark_18 rfl (W.pc 21 rfl ?_)
      refine lv_if_eq (tgt := 45) hx hb dX8_mark_21 (by decide) (fun c5 => ?_) (fun c5 => W.pc 24 rfl ?_)
      · have hsp := ip hsp c5
        refine lv_aload_n hx hb dX8_mark_45 rfl (lv_at hl 0 rfl) (W.pc 46 rfl ?_)
        obtain ⟨z6, hr_z6, hsp⟩ := ltb_s hsp
        refine kVW (st1 := [.int z6.1]) (ws' := [(a0, .inr (5, [.ref a0_text, .int a0_letters, .ref a0_town, .ref a0_draft, .ref a0_tried, .ref a0_images, .ref a0_kept, .ref a0_refused, .long a0_above, .long a0_below, .ref a0_line, .ref a0_best, .int a0_at, .int a0_start, .int a0_isWell, .int a0_faultAt])), (a0_refused, aI E 3 z6.2), (a0_town, aI E 682 fa0_town)]) [0, 1] hX (c_X8_bad l E a0 a0_text a0_town a0_draft a0_tried a0_images a0_kept a0_refused a0_line a0_best a0_letters a0_above a0_below a0_at a0_start a0_isWell a0_faultAt fa0_refused z6.1 z6.2 hr_z6) B_X8_bad w_4_128 hK hP hD hS hA (by decide) rfl rfl rfl (q0 := 0) (ci := 5) rfl rfl rfl rfl hl.1 rfl (Nat.le_of_ble_eq_true rfl) ⟨Nat.le_of_ble_eq_true rfl, Nat.le_of_ble_eq_true rfl⟩ dX8_mark_46 rfl (fun H locs hP hD hS => W.pc 49 rfl ?_)
        cases hsp
        exact rWi hX hP hS rfl rfl dX8_mark_49
      · have hsp := iq hsp c5
        refine lv_iload hx hb dX8_mark_24 (lv_at hl 4 rfl) (W.pc 26 rfl ?_)
        refine lv_iconst (v := (0 : Int32)) hx hb dX8_mark_26 (by decide) (W.pc 27 rfl ?_)
        refine lv_bipush (v := (30 : Int32)) hx hb dX8_mark_27 (by decide) (W.pc 29 rfl ?_)
        refine kSR (st1 := [.int (sp_X8_in p4 (0 : Int32) (30 : Int32))]) hX (c_X8_in l E p4 (0 : Int32) (30 : Int32) _ rfl) B_X8_in w_4_125 hK (hP.pick [] rfl) rfl hl.1 rfl (Nat.le_of_ble_eq_true rfl) ⟨Nat.le_of_ble_eq_true rfl, Nat.le_of_ble_eq_true rfl⟩ dX8_mark_29 rfl (W.pc 32 rfl ?_)
        refine lv_if_eq (tgt := 45) hx hb dX8_mark_32 (by decide) (fun c7 => ?_) (fun c7 => W.pc 35 rfl ?_)
        · have hsp := ip hsp c7
          refine lv_aload_n hx hb dX8_mark_45 rfl (lv_at hl 0 rfl) (W.pc 46 rfl ?_)
          obtain ⟨z8, hr_z8, hsp⟩ := ltb_s hsp
          refine kVW (st1 := [.int z8.1]) (ws' := [(a0, .inr (5, [.ref a0_text, .int a0_letters, .ref a0_town, .ref a0_draft, .ref a0_tried, .ref a0_images, .ref a0_kept, .ref a0_refused, .long a0_above, .long a0_below, .ref a0_line, .ref a0_best, .int a0_at, .int a0_start, .int a0_isWell, .int a0_faultAt])), (a0_refused, aI E 3 z8.2), (a0_town, aI E 682 fa0_town)]) [0, 1] hX (c_X8_bad l E a0 a0_text a0_town a0_draft a0_tried a0_images a0_kept a0_refused a0_line a0_best a0_letters a0_above a0_below a0_at a0_start a0_isWell a0_faultAt fa0_refused z8.1 z8.2 hr_z8) B_X8_bad w_4_128 hK hP hD hS hA (by decide) rfl rfl rfl (q0 := 0) (ci := 5) rfl rfl rfl rfl hl.1 rfl (Nat.le_of_ble_eq_true rfl) ⟨Nat.le_of_ble_eq_true rfl, Nat.le_of_ble_eq_true rfl⟩ dX8_mark_46 rfl (fun H locs hP hD hS => W.pc 49 rfl ?_)
          cases hsp
          exact rWi hX hP hS rfl rfl dX8_mark_49
        · have hsp := iq hsp c7
          refine lv_iload hx hb dX8_mark_35 (lv_at hl 5 rfl) (W.pc 37 rfl ?_)
          refine lv_iconst (v := (0 : Int32)) hx hb dX8_mark_37 (by decide) (W.pc 38 rfl ?_)
          refine lv_iconst (v := (1 : Int32)) hx hb dX8_mark_38 (by decide) (W.pc 39 rfl ?_)
          refine kSR (st1 := [.int (sp_X8_in p5 (0 : Int32) (1 : Int32))]) hX (c_X8_in l E p5 (0 : Int32) (1 : Int32) _ rfl) B_X8_in w_4_125 hK (hP.pick [] rfl) rfl hl.1 rfl (Nat.le_of_ble_eq_true rfl) ⟨Nat.le_of_ble_eq_true rfl, Nat.le_of_ble_eq_true rfl⟩ dX8_mark_39 rfl (W.pc 42 rfl ?_)
          refine lv_if_ne (tgt := 50) hx hb dX8_mark_42 (by decide) (fun c9 => ?_) (fun c9 => W.pc 45 rfl ?_)
          · have hsp := iq hsp c9
            refine lv_aload_n hx hb dX8_mark_50 rfl (lv_at hl 0 rfl) (W.pc 51 rfl ?_)
            refine va_get (D := E.1) (ci := 5) (v := .ref a0_town) (C := RX8) (T := TX8) (N := 16) hx hb hts inT_X8 hown hK hP 0 rfl rfl 2 (by decide) (hts _ w_4_70) (fun _ h9 => h9) rfl dX8_mark_51 (W.pc 54 rfl ?_)
            refine lv_bipush (v := (106 : Int32)) hx hb dX8_mark_54 (by decide) (W.pc 56 rfl ?_)
            refine va_iald hx hb hK hP 2 0 rfl rfl (vp_in_nI (n := 106) (N := 682) (by decide) (by decide)) dX8_mark_56 (W.pc 57 rfl ?_)
            refine lv_bipush (v := (6 : Int32)) hx hb dX8_mark_57 (by decide) (W.pc 59 rfl ?_)
            refine lv_icmp_ne (tgt := 67) hx hb dX8_mark_59 (by decide) (fun c10 => ?_) (fun c10 => W.pc 62 rfl ?_)
            · have hsp := iq hsp c10
              refine lv_bipush (v := (107 : Int32)) hx hb dX8_mark_67 (by decide) (W.pc 69 rfl ?_)
              refine lv_iconst (v := (5 : Int32)) hx hb dX8_mark_69 (by decide) (W.pc 70 rfl ?_)
              refine lv_aload_n hx hb dX8_mark_70 rfl (lv_at hl 0 rfl) (W.pc 71 rfl ?_)
              refine va_get (D := E.1) (ci := 5) (v := .ref a0_town) (C := RX8) (T := TX8) (N := 16) hx hb hts inT_X8 hown hK hP 0 rfl rfl 2 (by decide) (hts _ w_4_70) (fun _ h9 => h9) rfl dX8_mark_71 (W.pc 74 rfl ?_)
              refine lv_bipush (v := (106 : Int32)) hx hb dX8_mark_74 (by decide) (W.pc 76 rfl ?_)
              refine va_iald hx hb hK hP 2 0 rfl rfl (vp_in_nI (n := 106) (N := 682) (by decide) (by decide)) dX8_mark_76 (W.pc 77 rfl ?_)
              refine lv_imul hx hb dX8_mark_77 (W.pc 78 rfl ?_)
              refine lv_iadd hx hb dX8_mark_78 (W.pc 79 rfl ?_)
              refine lv_istore (lv' := [(6, .int ((107 : Int32) + ((5 : Int32) * (fa0_town ((106 : Int32)).toNatClampNeg)))), (0, .ref a0), (1, .int p1), (2, .int p2), (3, .int p3), (4, .int p4), (5, .int p5)]) hx hb dX8_mark_79 hl (by decide) rfl (fun ls hl => W.pc 81 rfl ?_)
              refine lv_aload_n hx hb dX8_mark_81 rfl (lv_at hl 1 rfl) (W.pc 82 rfl ?_)
              refine va_get (D := E.1) (ci := 5) (v := .ref a0_town) (C := RX8) (T := TX8) (N := 16) hx hb hts inT_X8 hown hK hP 0 rfl rfl 2 (by decide) (hts _ w_4_70) (fun _ h9 => h9) rfl dX8_mark_82 (W.pc 85 rfl ?_)
              refine lv_iload hx hb dX8_mark_85 (lv_at hl 0 rfl) (W.pc 87 rfl ?_)
              refine lv_iload_n hx hb dX8_mark_87 rfl (lv_at hl 2 rfl) (W.pc 88 rfl ?_)
              obtain ⟨h11, hsp⟩ := gi_s hsp
              refine va_iast hx hb hK hP hD hS 2 0 rfl rfl h11 dX8_mark_88 (fun H locs hP hD hS => W.pc 89 rfl ?_)
              have hP : wP E [(a0, .inr (5, [.ref a0_text, .int a0_letters, .ref a0_town, .ref a0_draft, .ref a0_tried, .ref a0_images, .ref a0_kept, .ref a0_refused, .long a0_above, .long a0_below, .ref a0_line, .ref a0_best, .int a0_at, .int a0_start, .int a0_isWell, .int a0_faultAt])), (a0_refused, aI E 3 fa0_refused), (a0_town, aI E 682 (upd fa0_town (((107 : Int32) + ((5 : Int32) * (fa0_town ((106 : Int32)).toNatClampNeg)))).toNatClampNeg p1))] _ := hP
              have hD : va_D A [(a0, .inr (5, [.ref a0_text, .int a0_letters, .ref a0_town, .ref a0_draft, .ref a0_tried, .ref a0_images, .ref a0_kept, .ref a0_refused, .long a0_above, .long a0_below, .ref a0_line, .ref a0_best, .int a0_at, .int a0_start, .int a0_isWell, .int a0_faultAt])), (a0_refused, aI E 3 fa0_refused), (a0_town, aI E 682 (upd fa0_town (((107 : Int32) + ((5 : Int32) * (fa0_town ((106 : Int32)).toNatClampNeg)))).toNatClampNeg p1))] := hD
              refine lv_aload_n hx hb dX8_mark_89 rfl (lv_at hl 1 rfl) (W.pc 90 rfl ?_)
              refine va_get (D := E.1) (ci := 5) (v := .ref a0_town) (C := RX8) (T := TX8) (N := 16) hx hb hts inT_X8 hown hK hP 0 rfl rfl 2 (by decide) (hts _ w_4_70) (fun _ h9 => h9) rfl dX8_mark_90 (W.pc 93 rfl ?_)
              refine lv_iload hx hb dX8_mark_93 (lv_at hl 0 rfl) (W.pc 95 rfl ?_)
              refine lv_iconst (v := (1 : Int32)) hx hb dX8_mark_95 (by decide) (W.pc 96 rfl ?_)
              refine lv_iadd hx hb dX8_mark_96 (W.pc 97 rfl ?_)
              refine lv_iload_n hx hb dX8_mark_97 rfl (lv_at hl 3 rfl) (W.pc 98 rfl ?_)
              obtain ⟨h12, hsp⟩ := gi_s hsp
              refine va_iast hx hb hK hP hD hS 2 0 rfl rfl h12 dX8_mark_98 (fun H locs hP hD hS => W.pc 99 rfl ?_)
              have hP : wP E [(a0, .inr (5, [.ref a0_text, .int a0_letters, .ref a0_town, .ref a0_draft, .ref a0_tried, .ref a0_images, .ref a0_kept, .ref a0_refused, .long a0_above, .long a0_below, .ref a0_line, .ref a0_best, .int a0_at, .int a0_start, .int a0_isWell, .int a0_faultAt])), (a0_refused, aI E 3 fa0_refused), (a0_town, aI E 682 (upd (upd fa0_town (((107 : Int32) + ((5 : Int32) * (fa0_town ((106 : Int32)).toNatClampNeg)))).toNatClampNeg p1) ((((107 : Int32) + ((5 : Int32) * (fa0_town ((106 : Int32)).toNatClampNeg))) + (1 : Int32))).toNatClampNeg p2))] _ := hP
              have hD : va_D A [(a0, .inr (5, [.ref a0_text, .int a0_letters, .ref a0_town, .ref a0_draft, .ref a0_tried, .ref a0_images, .ref a0_kept, .ref a0_refused, .long a0_above, .long a0_below, .ref a0_line, .ref a0_best, .int a0_at, .int a0_start, .int a0_isWell, .int a0_faultAt])), (a0_refused, aI E 3 fa0_refused), (a0_town, aI E 682 (upd (upd fa0_town (((107 : Int32) + ((5 : Int32) * (fa0_town ((106 : Int32)).toNatClampNeg)))).toNatClampNeg p1) ((((107 : Int32) + ((5 : Int32) * (fa0_town ((106 : Int32)).toNatClampNeg))) + (1 : Int32))).toNatClampNeg p2))] := hD
              refine lv_aload_n hx hb dX8_mark_99 rfl (lv_at hl 1 rfl) (W.pc 100 rfl ?_)
              refine va_get (D := E.1) (ci := 5) (v := .ref a0_town) (C := RX8) (T := TX8) (N := 16) hx hb hts inT_X8 hown hK hP 0 rfl rfl 2 (by decide) (hts _ w_4_70) (fun _ h9 => h9) rfl dX8_mark_100 (W.pc 103 rfl ?_)
              refine lv_iload hx hb dX8_mark_103 (lv_at hl 0 rfl) (W.pc 105 rfl ?_)
              refine lv_iconst (v := (2 : Int32)) hx hb dX8_mark_105 (by decide) (W.pc 106 rfl ?_)
              refine lv_iadd hx hb dX8_mark_106 (W.pc 107 rfl ?_)
              refine lv_iload_n hx hb dX8_mark_107 rfl (lv_at hl 4 rfl) (W.pc 108 rfl ?_)
              obtain ⟨h13, hsp⟩ := gi_s hsp
              refine va_iast hx hb hK hP hD hS 2 0 rfl rfl h13 dX8_mark_108 (fun H locs hP hD hS => W.pc 109 rfl ?_)
              have hP : wP E [(a0, .inr (5, [.ref a0_text, .int a0_letters, .ref a0_town, .ref a0_draft, .ref a0_tried, .ref a0_images, .ref a0_kept, .ref a0_refused, .long a0_above, .long a0_below, .ref a0_line, .ref a0_best, .int a0_at, .int a0_start, .int a0_isWell, .int a0_faultAt])), (a0_refused, aI E 3 fa0_refused), (a0_town, aI E 682 (upd (upd (upd fa0_town (((107 : Int32) + ((5 : Int32) * (fa0_town ((106 : Int32)).toNatClampNeg)))).toNatClampNeg p1) ((((107 : Int32) + ((5 : Int32) * (fa0_town ((106 : Int32)).toNatClampNeg))) + (1 : Int32))).toNatClampNeg p2) ((((107 : Int32) + ((5 : Int32) * (fa0_town ((106 : Int32)).toNatClampNeg))) + (2 : Int32))).toNatClampNeg p3))] _ := hP
              have hD : va_D A [(a0, .inr (5, [.ref a0_text, .int a0_letters, .ref a0_town, .ref a0_draft, .ref a0_tried, .ref a0_images, .ref a0_kept, .ref a0_refused, .long a0_above, .long a0_below, .ref a0_line, .ref a0_best, .int a0_at, .int a0_start, .int a0_isWell, .int a0_faultAt])), (a0_refused, aI E 3 fa0_refused), (a0_town, aI E 682 (upd (upd (upd fa0_town (((107 : Int32) + ((5 : Int32) * (fa0_town ((106 : Int32)).toNatClampNeg)))).toNatClampNeg p1) ((((107 : Int32) + ((5 : Int32) * (fa0_town ((106 : Int32)).toNatClampNeg))) + (1 : Int32))).toNatClampNeg p2) ((((107 : Int32) + ((5 : Int32) * (fa0_town ((106 : Int32)).toNatClampNeg))) + (2 : Int32))).toNatClampNeg p3))] := hD
              refine lv_aload_n hx hb dX8_mark_109 rfl (lv_at hl 1 rfl) (W.pc 110 rfl ?_)
              refine va_get (D := E.1) (ci := 5) (v := .ref a0_town) (C := RX8) (T := TX8) (N := 16) hx hb hts inT_X8 hown hK hP 0 rfl rfl 2 (by decide) (hts _ w_4_70) (fun _ h9 => h9) rfl dX8_mark_110 (W.pc 113 rfl ?_)
              refine lv_iload hx hb dX8_mark_113 (lv_at hl 0 rfl) (W.pc 115 rfl ?_)
              refine lv_iconst (v := (3 : Int32)) hx hb dX8_mark_115 (by decide) (W.pc 116 rfl ?_)
              refine lv_iadd hx hb dX8_mark_116 (W.pc 117 rfl ?_)
              refine lv_iload hx hb dX8_mark_117 (lv_at hl 5 rfl) (W.pc 119 rfl ?_)
              obtain ⟨h14, hsp⟩ := gi_s hsp
              refine va_iast hx hb hK hP hD hS 2 0 rfl rfl h14 dX8_mark_119 (fun H locs hP hD hS => W.pc 120 rfl ?_)
              have hP : wP E [(a0, .inr (5, [.ref a0_text, .int a0_letters, .ref a0_town, .ref a0_draft, .ref a0_tried, .ref a0_images, .ref a0_kept, .ref a0_refused, .long a0_above, .long a0_below, .ref a0_line, .ref a0_best, .int a0_at, .int a0_start, .int a0_isWell, .int a0_faultAt])), (a0_refused, aI E 3 fa0_refused), (a0_town, aI E 682 (upd (upd (upd (upd fa0_town (((107 : Int32) + ((5 : Int32) * (fa0_town ((106 : Int32)).toNatClampNeg)))).toNatClampNeg p1) ((((107 : Int32) + ((5 : Int32) * (fa0_town ((106 : Int32)).toNatClampNeg))) + (1 : Int32))).toNatClampNeg p2) ((((107 : Int32) + ((5 : Int32) * (fa0_town ((106 : Int32)).toNatClampNeg))) + (2 : Int32))).toNatClampNeg p3) ((((107 : Int32) + ((5 : Int32) * (fa0_town ((106 : Int32)).toNatClampNeg))) + (3 : Int32))).toNatClampNeg p4))] _ := hP
              have hD : va_D A [(a0, .inr (5, [.ref a0_text, .int a0_letters, .ref a0_town, .ref a0_draft, .ref a0_tried, .ref a0_images, .ref a0_kept, .ref a0_refused, .long a0_above, .long a0_below, .ref a0_line, .ref a0_best, .int a0_at, .int a0_start, .int a0_isWell, .int a0_faultAt])), (a0_refused, aI E 3 fa0_refused), (a0_town, aI E 682 (upd (upd (upd (upd fa0_town (((107 : Int32) + ((5 : Int32) * (fa0_town ((106 : Int32)).toNatClampNeg)))).toNatClampNeg p1) ((((107 : Int32) + ((5 : Int32) * (fa0_town ((106 : Int32)).toNatClampNeg))) + (1 : Int32))).toNatClampNeg p2) ((((107 : Int32) + ((5 : Int32) * (fa0_town ((106 : Int32)).toNatClampNeg))) + (2 : Int32))).toNatClampNeg p3) ((((107 : Int32) + ((5 : Int32) * (fa0_town ((106 : Int32)).toNatClampNeg))) + (3 : Int32))).toNatClampNeg p4))] := hD
              refine lv_aload_n hx hb dX8_mark_120 rfl (lv_at hl 1 rfl) (W.pc 121 rfl ?_)
              refine va_get (D := E.1) (ci := 5) (v := .ref a0_town) (C := RX8) (T := TX8) (N := 16) hx hb hts inT_X8 hown hK hP 0 rfl rfl 2 (by decide) (hts _ w_4_70) (fun _ h9 => h9) rfl dX8_mark_121 (W.pc 124 rfl ?_)
              refine lv_iload hx hb dX8_mark_124 (lv_at hl 0 rfl) (W.pc 126 rfl ?_)
              refine lv_iconst (v := (4 : Int32)) hx hb dX8_mark_126 (by decide) (W.pc 127 rfl ?_)
              refine lv_iadd hx hb dX8_mark_127 (W.pc 128 rfl ?_)
              refine lv_iload hx hb dX8_mark_128 (lv_at hl 6 rfl) (W.pc 130 rfl ?_)
              obtain ⟨h15, hsp⟩ := gi_s hsp
              refine va_iast hx hb hK hP hD hS 2 0 rfl rfl h15 dX8_mark_130 (fun H locs hP hD hS => W.pc 131 rfl ?_)
              have hP : wP E [(a0, .inr (5, [.ref a0_text, .int a0_letters, .ref a0_town, .ref a0_draft, .ref a0_tried, .ref a0_images, .ref a0_kept, .ref a0_refused, .long a0_above, .long a0_below, .ref a0_line, .ref a0_best, .int a0_at, .int a0_start, .int a0_isWell, .int a0_faultAt])), (a0_refused, aI E 3 fa0_refused), (a0_town, aI E 682 (upd (upd (upd (upd (upd fa0_town (((107 : Int32) + ((5 : Int32) * (fa0_town ((106 : Int32)).toNatClampNeg)))).toNatClampNeg p1) ((((107 : Int32) + ((5 : Int32) * (fa0_town ((106 : Int32)).toNatClampNeg))) + (1 : Int32))).toNatClampNeg p2) ((((107 : Int32) + ((5 : Int32) * (fa0_town ((106 : Int32)).toNatClampNeg))) + (2 : Int32))).toNatClampNeg p3) ((((107 : Int32) + ((5 : Int32) * (fa0_town ((106 : Int32)).toNatClampNeg))) + (3 : Int32))).toNatClampNeg p4) ((((107 : Int32) + ((5 : Int32) * (fa0_town ((106 : Int32)).toNatClampNeg))) + (4 : Int32))).toNatClampNeg p5))] _ := hP
              have hD : va_D A [(a0, .inr (5, [.ref a0_text, .int a0_letters, .ref a0_town, .ref a0_draft, .ref a0_tried, .ref a0_images, .ref a0_kept, .ref a0_refused, .long a0_above, .long a0_below, .ref a0_line, .ref a0_best, .int a0_at, .int a0_start, .int a0_isWell, .int a0_faultAt])), (a0_refused, aI E 3 fa0_refused), (a0_town, aI E 682 (upd (upd (upd (upd (upd fa0_town (((107 : Int32) + ((5 : Int32) * (fa0_town ((106 : Int32)).toNatClampNeg)))).toNatClampNeg p1) ((((107 : Int32) + ((5 : Int32) * (fa0_town ((106 : Int32)).toNatClampNeg))) + (1 : Int32))).toNatClampNeg p2) ((((107 : Int32) + ((5 : Int32) * (fa0_town ((106 : Int32)).toNatClampNeg))) + (2 : Int32))).toNatClampNeg p3) ((((107 : Int32) + ((5 : Int32) * (fa0_town ((106 : Int32)).toNatClampNeg))) + (3 : Int32))).toNatClampNeg p4) ((((107 : Int32) + ((5 : Int32) * (fa0_town ((106 : Int32)).toNatClampNeg))) + (4 : Int32))).toNatClampNeg p5))] := hD
              refine lv_aload_n hx hb dX8_mark_131 rfl (lv_at hl 1 rfl) (W.pc 132 rfl ?_)
              refine va_get (D := E.1) (ci := 5) (v := .ref a0_town) (C := RX8) (T := TX8) (N := 16) hx hb hts inT_X8 hown hK hP 0 rfl rfl 2 (by decide) (hts _ w_4_70) (fun _ h9 => h9) rfl dX8_mark_132 (W.pc 135 rfl ?_)
              refine lv_bipush (v := (106 : Int32)) hx hb dX8_mark_135 (by decide) (W.pc 137 rfl ?_)
              refine lv_dup2_11 hx hb dX8_mark_137 rfl rfl (W.pc 138 rfl ?_)
              refine va_iald hx hb hK hP 2 0 rfl rfl (vp_in_nI (n := 106) (N := 682) (by decide) (by decide)) dX8_mark_138 (W.pc 139 rfl ?_)
              refine lv_iconst (v := (1 : Int32)) hx hb dX8_mark_139 (by decide) (W.pc 140 rfl ?_)
              refine lv_iadd hx hb dX8_mark_140 (W.pc 141 rfl ?_)
              refine va_iast hx hb hK hP hD hS 2 0 rfl rfl (vp_in_nI (n := 106) (N := 682) (by decide) (by decide)) dX8_mark_141 (fun H locs hP hD hS => W.pc 142 rfl ?_)
              have hP : wP E [(a0, .inr (5, [.ref a0_text, .int a0_letters, .ref a0_town, .ref a0_draft, .ref a0_tried, .ref a0_images, .ref a0_kept, .ref a0_refused, .long a0_above, .long a0_below, .ref a0_line, .ref a0_best, .int a0_at, .int a0_start, .int a0_isWell, .int a0_faultAt])), (a0_refused, aI E 3 fa0_refused), (a0_town, aI E 682 (upd (upd (upd (upd (upd (upd fa0_town (((107 : Int32) + ((5 : Int32) * (fa0_town ((106 : Int32)).toNatClampNeg)))).toNatClampNeg p1) ((((107 : Int32) + ((5 : Int32) * (fa0_town ((106 : Int32)).toNatClampNeg))) + (1 : Int32))).toNatClampNeg p2) ((((107 : Int32) + ((5 : Int32) * (fa0_town ((106 : Int32)).toNatClampNeg))) + (2 : Int32))).toNatClampNeg p3) ((((107 : Int32) + ((5 : Int32) * (fa0_town ((106 : Int32)).toNatClampNeg))) + (3 : Int32))).toNatClampNeg p4) ((((107 : Int32) + ((5 : Int32) * (fa0_town ((106 : Int32)).toNatClampNeg))) + (4 : Int32))).toNatClampNeg p5) ((106 : Int32)).toNatClampNeg (((upd (upd (upd (upd (upd fa0_town (((107 : Int32) + ((5 : Int32) * (fa0_town ((106 : Int32)).toNatClampNeg)))).toNatClampNeg p1) ((((107 : Int32) + ((5 : Int32) * (fa0_town ((106 : Int32)).toNatClampNeg))) + (1 : Int32))).toNatClampNeg p2) ((((107 : Int32) + ((5 : Int32) * (fa0_town ((106 : Int32)).toNatClampNeg))) + (2 : Int32))).toNatClampNeg p3) ((((107 : Int32) + ((5 : Int32) * (fa0_town ((106 : Int32)).toNatClampNeg))) + (3 : Int32))).toNatClampNeg p4) ((((107 : Int32) + ((5 : Int32) * (fa0_town ((106 : Int32)).toNatClampNeg))) + (4 : Int32))).toNatClampNeg p5) ((106 : Int32)).toNatClampNeg) + (1 : Int32))))] _ := hP
              have hD : va_D A [(a0, .inr (5, [.ref a0_text, .int a0_letters, .ref a0_town, .ref a0_draft, .ref a0_tried, .ref a0_images, .ref a0_kept, .ref a0_refused, .long a0_above, .long a0_below, .ref a0_line, .ref a0_best, .int a0_at, .int a0_start, .int a0_isWell, .int a0_faultAt])), (a0_refused, aI E 3 fa0_refused), (a0_town, aI E 682 (upd (upd (upd (upd (upd (upd fa0_town (((107 : Int32) + ((5 : Int32) * (fa0_town ((106 : Int32)).toNatClampNeg)))).toNatClampNeg p1) ((((107 : Int32) + ((5 : Int32) * (fa0_town ((106 : Int32)).toNatClampNeg))) + (1 : Int32))).toNatClampNeg p2) ((((107 : Int32) + ((5 : Int32) * (fa0_town ((106 : Int32)).toNatClampNeg))) + (2 : Int32))).toNatClampNeg p3) ((((107 : Int32) + ((5 : Int32) * (fa0_town ((106 : Int32)).toNatClampNeg))) + (3 : Int32))).toNatClampNeg p4) ((((107 : Int32) + ((5 : Int32) * (fa0_town ((106 : Int32)).toNatClampNeg))) + (4 : Int32))).toNatClampNeg p5) ((106 : Int32)).toNatClampNeg (((upd (upd (upd (upd (upd fa0_town (((107 : Int32) + ((5 : Int32) * (fa0_town ((106 : Int32)).toNatClampNeg)))).toNatClampNeg p1) ((((107 : Int32) + ((5 : Int32) * (fa0_town ((106 : Int32)).toNatClampNeg))) + (1 : Int32))).toNatClampNeg p2) ((((107 : Int32) + ((5 : Int32) * (fa0_town ((106 : Int32)).toNatClampNeg))) + (2 : Int32))).toNatClampNeg p3) ((((107 : Int32) + ((5 : Int32) * (fa0_town ((106 : Int32)).toNatClampNeg))) + (3 : Int32))).toNatClampNeg p4) ((((107 : Int32) + ((5 : Int32) * (fa0_town ((106 : Int32)).toNatClampNeg))) + (4 : Int32))).toNatClampNeg p5) ((106 : Int32)).toNatClampNeg) + (1 : Int32))))] := hD
              refine lv_aload_n hx hb dX8_mark_142 rfl (lv_at hl 1 rfl) (W.pc 143 rfl ?_)
              refine va_get (D := E.1) (ci := 5) (v := .ref a0_town) (C := RX8) (T := TX8) (N := 16) hx hb hts inT_X8 hown hK hP 0 rfl rfl 2 (by decide) (hts _ w_4_70) (fun _ h9 => h9) rfl dX8_mark_143 (W.pc 146 rfl ?_)
              refine lv_bipush (v := (106 : Int32)) hx hb dX8_mark_146 (by decide) (W.pc 148 rfl ?_)
              refine va_iald hx hb hK hP 2 0 rfl rfl (vp_in_nI (n := 106) (N := 682) (by decide) (by decide)) dX8_mark_148 (W.pc 149 rfl ?_)
              cases hsp
              exact rWi hX hP hS rfl rfl dX8_mark_149
            · have hsp := ip hsp c10
              refine lv_aload_n hx hb dX8_mark_62 rfl (lv_at hl 0 rfl) (W.pc 63 rfl ?_)
              obtain ⟨z16, hr_z16, hsp⟩ := ltb_s hsp
              refine kVW (st1 := [.int z16.1]) (ws' := [(a0, .inr (5, [.ref a0_text, .int a0_letters, .ref a0_town, .ref a0_draft, .ref a0_tried, .ref a0_images, .ref a0_kept, .ref a0_refused, .long a0_above, .long a0_below, .ref a0_line, .ref a0_best, .int a0_at, .int a0_start, .int a0_isWell, .int a0_faultAt])), (a0_refused, aI E 3 z16.2), (a0_town, aI E 682 fa0_town)]) [0, 1] hX (c_X8_full l E a0 a0_text a0_town a0_draft a0_tried a0_images a0_kept a0_refused a0_line a0_best a0_letters a0_above a0_below a0_at a0_start a0_isWell a0_faultAt fa0_refused z16.1 z16.2 hr_z16) B_X8_full w_4_156 hK hP hD hS hA (by decide) rfl rfl rfl (q0 := 0) (ci := 5) rfl rfl rfl rfl hl.1 rfl (Nat.le_of_ble_eq_true rfl) ⟨Nat.le_of_ble_eq_true rfl, Nat.le_of_ble_eq_true rfl⟩ dX8_mark_63 rfl (fun H locs hP hD hS => W.pc 66 rfl ?_)
              cases hsp
              exact rWi hX hP hS rfl rfl dX8_mark_66
          · have hsp := ip hsp c9
            refine lv_aload_n hx hb dX8_mark_45 rfl (lv_at hl 0 rfl) (W.pc 46 rfl ?_)
            obtain ⟨z17, hr_z17, hsp⟩ := ltb_s hsp
            refine kVW (st1 := [.int z17.1]) (ws' := [(a0, .inr (5, [.ref a0_text, .int a0_letters, .ref a0_town, .ref a0_draft, .ref a0_tried, .ref a0_images, .ref a0_kept, .ref a0_refused, .long a0_above, .long a0_below, .ref a0_line, .ref a0_best, .int a0_at, .int a0_start, .int a0_isWell, .int a0_faultAt])), (a0_refused, aI E 3 z17.2), (a0_town, aI E 682 fa0_town)]) [0, 1] hX (c_X8_bad l E a0 a0_text a0_town a0_draft a0_tried a0_images a0_kept a0_refused a0_line a0_best a0_letters a0_above a0_below a0_at a0_start a0_isWell a0_faultAt fa0_refused z17.1 z17.2 hr_z17) B_X8_bad w_4_128 hK hP hD hS hA (by decide) rfl rfl rfl (q0 := 0) (ci := 5) rfl rfl rfl rfl hl.1 rfl (Nat.le_of_ble_eq_true rfl) ⟨Nat.le_of_ble_eq_true rfl, Nat.le_of_ble_eq_true rfl⟩ dX8_mark_46 rfl (fun H locs hP hD hS => W.pc 49 rfl ?_)
            cases hsp
            exact rWi hX hP hS rfl rfl dX8_mark_49
noncomputable def sp_X8_forget (p1 : Int32) (fa0_town : Nat → Int32) (fa0_refused : Nat → Int32) : Option (Int32 × (Nat → Int32) × (Nat → Int32)) := if (sp_X8_in p1 (0 : Int32) (1 : Int32)) = 0 then (lt_ (sp_X8_bad fa0_refused) fun z6 => some (z6.1, fa0_town, z6.2)) else (lt_ (if p1 = 0 then ((81 : Int32)) else ((106 : Int32))) fun z2 => gi z2 682 (some ((fa0_town (z2).toNatClampNeg), (upd fa0_town (z2).toNatClampNeg (0 : Int32)), fa0_refused)))
set_option maxHeartbeats 4000000 in
set_option maxRecDepth 100000 in
theorem c_X8_forget (l : Launch) (E : wE) (a0 a0_text a0_town a0_draft a0_tried a0_images a0_kept a0_refused a0_line a0_best : Nat) (p1 : Int32) (a0_letters : Int32) (a0_above : Int64) (a0_below : Int64) (a0_at : Int32) (a0_start : Int32) (a0_isWell : Int32) (a0_faultAt : Int32) (fa0_town : Nat → Int32) (fa0_refused : Nat → Int32) (z_0 : Int32) (z_1 : (Nat → Int32)) (z_2 : (Nat → Int32)) (hsp : sp_X8_forget p1 fa0_town fa0_refused = some (z_0, z_1, z_2)) : MW l yX8_forget cX8_forget 4 (some .int) 1 E [.ref a0, .int p1] [(a0, .inr (5, [.ref a0_text, .int a0_letters, .ref a0_town, .ref a0_draft, .ref a0_tried, .ref a0_images, .ref a0_kept, .ref a0_refused, .long a0_above, .long a0_below, .ref a0_line, .ref a0_best, .int a0_at, .int a0_start, .int a0_isWell, .int a0_faultAt])), (a0_town, aI E 682 fa0_town), (a0_refused, aI E 3 fa0_refused)] (some (.int z_0)) [(a0, .inr (5, [.ref a0_text, .int a0_letters, .ref a0_town, .ref a0_draft, .ref a0_tried, .ref a0_images, .ref a0_kept, .ref a0_refused, .long a0_above, .long a0_below, .ref a0_line, .ref a0_best, .int a0_at, .int a0_start, .int a0_isWell, .int a0_faultAt])), (a0_town, aI E 682 z_1), (a0_refused, aI E 3 z_2)] := by
  refine MW.of (by decide +kernel) (Nat.le_of_ble_eq_true rfl) ?_
  intro p e s m below meth c ls A hX hK hP hD hS hA hl
  have hX : CX p s m [.ref a0, .int p1].toArray meth c cX8_forget 4 (some .int) RX8 := hX
  have hx := hX.1; have hb := hX.2.1; have hts := hX.2.2.2.2.1; have hown := hX.2.2.2.2.2.1
  have hl : lv_has ls 4 [(0, .ref a0), (1, .int p1)] := hl
  have hP : wP E [(a0, .inr (5, [.ref a0_text, .int a0_letters, .ref a0_town, .ref a0_draft, .ref a0_tried, .ref a0_images, .ref a0_kept, .ref a0_refused, .long a0_above, .long a0_below, .ref a0_line, .ref a0_best, .int a0_at, .int a0_start, .int a0_isWell, .int a0_faultAt])), (a0_town, aI E 682 fa0_town), (a0_refused, aI E 3 fa0_refused)] s.heap := hP
  have hsp : (if (sp_X8_in p1 (0 : Int32) (1 : Int32)) = 0 then (lt_ (sp_X8_bad fa0_refused) fun z6 => some (z6.1, fa0_town, z6.2)) else (lt_ (if p1 = 0 then ((81 : Int32)) else ((106 : Int32))) fun z2 => gi z2 682 (some ((fa0_town (z2).toNatClampNeg), (upd fa0_town (z2).toNatClampNeg (0 : Int32)), fa0_refused)))) = some (z_0, z_1, z_2) := hsp
  refine lv_iload_n hx hb dX8_forget_0 rfl (lv_at hl 1 rfl) (W.pc 1 rfl ?_)
  refine lv_iconst (v := (0 : Int32)) hx hb dX8_forget_1 (by decide) (W.pc 2 rfl ?_)
  refine lv_iconst (v := (1 : Int32)) hx hb dX8_forget_2 (by decide) (W.pc 3 rfl ?_)
  refine kSR (st1 := [.int (sp_X8_in p1 (0 : Int32) (1 : Int32))]) hX (c_X8_in l E p1 (0 : Int32) (1 : Int32) _ rfl) B_X8_in w_4_125 hK (hP.pick [] rfl) rfl hl.1 rfl (Nat.le_of_ble_eq_true rfl) ⟨Nat.le_of_ble_eq_true rfl, Nat.le_of_ble_eq_true rfl⟩ dX8_forget_3 rfl (W.pc 6 rfl ?_)
  refine lv_if_ne (tgt := 14) hx hb dX8_forget_6 (by decide) (fun c1 => ?_) (fun c1 => W.pc 9 rfl ?_)
  · have hsp := iq hsp c1
    refine lv_iload_n hx hb dX8_forget_14 rfl (lv_at hl 1 rfl) (W.pc 15 rfl ?_)
    obtain ⟨z2, hr_z2, hsp⟩ := ltb_s hsp
    have J3 : ∀ (H : Heap) (locs : List Loc) (ls : Array Slot), wP E [(a0, .inr (5, [.ref a0_text, .int a0_letters, .ref a0_town, .ref a0_draft, .ref a0_tried, .ref a0_images, .ref a0_kept, .ref a0_refused, .long a0_above, .long a0_below, .ref a0_line, .ref a0_best, .int a0_at, .int a0_start, .int a0_isWell, .int a0_faultAt])), (a0_town, aI E 682 fa0_town), (a0_refused, aI E 3 fa0_refused)] H → va_D A [(a0, .inr (5, [.ref a0_text, .int a0_letters, .ref a0_town, .ref a0_draft, .ref a0_tried, .ref a0_images, .ref a0_kept, .ref a0_refused, .long a0_above, .long a0_below, .ref a0_line, .ref a0_best, .int a0_at, .int a0_start, .int a0_isWell, .int a0_faultAt])), (a0_town, aI E 682 fa0_town), (a0_refused, aI E 3 fa0_refused)] → va_S A s.heap H locs → lv_has ls 4 [(0, .ref a0)] → W p l e (wR 1) s m [.ref a0, .int p1].toArray below meth c H locs 0 0 (MQ below (QWd E A (some (.int z_0)) [(a0, .inr (5, [.ref a0_text, .int a0_letters, .ref a0_town, .ref a0_draft, .ref a0_tried, .ref a0_images, .ref a0_kept, .ref a0_refused, .long a0_above, .long a0_below, .ref a0_line, .ref a0_best, .int a0_at, .int a0_start, .int a0_isWell, .int a0_faultAt])), (a0_town, aI E 682 z_1), (a0_refused, aI E 3 z_2)]) [.ref a0, .int p1].toArray s 0 0 A) (F0 m 25 ls [.int z2]) := by
      intro H locs ls hP hD hS hl
      refine lv_istore_n (lv' := [(2, .int z2), (0, .ref a0)]) hx hb dX8_forget_25 rfl hl (by decide) rfl (fun ls hl => W.pc 26 rfl ?_)
      refine lv_aload_n hx hb dX8_forget_26 rfl (lv_at hl 1 rfl) (W.pc 27 rfl ?_)
      refine va_get (D := E.1) (ci := 5) (v := .ref a0_town) (C := RX8) (T := TX8) (N := 16) hx hb hts inT_X8 hown hK hP 0 rfl rfl 2 (by decide) (hts _ w_4_70) (fun _ h9 => h9) rfl dX8_forget_27 (W.pc 30 rfl ?_)
      refine lv_iload_n hx hb dX8_forget_30 rfl (lv_at hl 0 rfl) (W.pc 31 rfl ?_)
      obtain ⟨h5, hsp⟩ := gi_s hsp
      refine va_iald hx hb hK hP 1 0 rfl rfl h5 dX8_forget_31 (W.pc 32 rfl ?_)
      refine lv_istore_n (lv' := [(3, .int (fa0_town (z2).toNatClampNeg)), (2, .int z2), (0, .ref a0)]) hx hb dX8_forget_32 rfl hl (by decide) rfl (fun ls hl => W.pc 33 rfl ?_)
      refine lv_aload_n hx hb dX8_forget_33 rfl (lv_at hl 2 rfl) (W.pc 34 rfl ?_)
      refine va_get (D := E.1) (ci := 5) (v := .ref a0_town) (C := RX8) (T := TX8) (N := 16) hx hb hts inT_X8 hown hK hP 0 rfl rfl 2 (by decide) (hts _ w_4_70) (fun _ h9 => h9) rfl dX8_forget_34 (W.pc 37 rfl ?_)
      refine lv_iload_n hx hb dX8_forget_37 rfl (lv_at hl 1 rfl) (W.pc 38 rfl ?_)
      refine lv_iconst (v := (0 : Int32)) hx hb dX8_forget_38 (by decide) (W.pc 39 rfl ?_)
      refine va_iast hx hb hK hP hD hS 1 0 rfl rfl h5 dX8_forget_39 (fun H locs hP hD hS => W.pc 40 rfl ?_)
      have hP : wP E [(a0, .inr (5, [.ref a0_text, .int a0_letters, .ref a0_town, .ref a0_draft, .ref a0_tried, .ref a0_images, .ref a0_kept, .ref a0_refused, .long a0_above, .long a0_below, .ref a0_line, .ref a0_best, .int a0_at, .int a0_start, .int a0_isWell, .int a0_faultAt])), (a0_town, aI E 682 (upd fa0_town (z2).toNatClampNeg (0 : Int32))), (a0_refused, aI E 3 fa0_refused)] _ := hP
      have hD : va_D A [(a0, .inr (5, [.ref a0_text, .int a0_letters, .ref a0_town, .ref a0_draft, .ref a0_tried, .ref a0_images, .ref a0_kept, .ref a0_refused, .long a0_above, .long a0_below, .ref a0_line, .ref a0_best, .int a0_at, .int a0_start, .int a0_isWell, .int a0_faultAt])), (a0_town, aI E 682 (upd fa0_town (z2).toNatClampNeg (0 : Int32))), (a0_refused, aI E 3 fa0_refused)] := hD
      refine lv_iload_n hx hb dX8_forget_40 rfl (lv_at hl 0 rfl) (W.pc 41 rfl ?_)
      cases hsp
      exact rWi hX hP hS rfl rfl dX8_forget_41
    replace hsp := hr_z2
    refine lv_if_ne (tgt := 23) hx hb dX8_forget_15 (by decide) (fun c4 => ?_) (fun c4 => W.pc 18 rfl ?_)
    · have hsp := iq hsp c4
      refine lv_bipush (v := (106 : Int32)) hx hb dX8_forget_23 (by decide) (W.pc 25 rfl ?_)
      subst hsp
      exact J3 _ _ _ hP hD hS (lv_sub hl [0] rfl)
    · have hsp := ip hsp c4
      refine lv_bipush (v := (81 : Int32)) hx hb dX8_forget_18 (by decide) (W.pc 20 rfl ?_)
      refine lv_goto (tgt := 25) hx hb dX8_forget_20 (by decide) ?_
      subst hsp
      exact J3 _ _ _ hP hD hS (lv_sub hl [0] rfl)
  · have hsp := ip hsp c1
    refine lv_aload_n hx hb dX8_forget_9 rfl (lv_at hl 0 rfl) (W.pc 10 rfl ?_)
    obtain ⟨z6, hr_z6, hsp⟩ := ltb_s hsp
    refine kVW (st1 := [.int z6.1]) (ws' := [(a0, .inr (5, [.ref a0_text, .int a0_letters, .ref a0_town, .ref a0_draft, .ref a0_tried, .ref a0_images, .ref a0_kept, .ref a0_refused, .long a0_above, .long a0_below, .ref a0_line, .ref a0_best, .int a0_at, .int a0_start, .int a0_isWell, .int a0_faultAt])), (a0_town, aI E 682 fa0_town), (a0_refused, aI E 3 z6.2)]) [0, 2] hX (c_X8_bad l E a0 a0_text a0_town a0_draft a0_tried a0_images a0_kept a0_refused a0_line a0_best a0_letters a0_above a0_below a0_at a0_start a0_isWell a0_faultAt fa0_refused z6.1 z6.2 hr_z6) B_X8_bad w_4_128 hK hP hD hS hA (by decide) rfl rfl rfl (q0 := 0) (ci := 5) rfl rfl rfl rfl hl.1 rfl (Nat.le_of_ble_eq_true rfl) ⟨Nat.le_of_ble_eq_true rfl, Nat.le_of_ble_eq_true rfl⟩ dX8_forget_10 rfl (fun H locs hP hD hS => W.pc 13 rfl ?_)
    cases hsp
    exact rWi hX hP hS rfl rfl dX8_forget_13
noncomputable def lp_X8_is_16 (fa0_town : Nat → Int32) (x2_4 : Int32) : Nat → Int32 → Int32 → Option (Int32 × Int32)
 | 0, _, _ => none
 | fu + 1, x3_16, x4_16 => if ((82 : Int32) + ((4 : Int32) * (fa0_town ((81 : Int32)).toNatClampNeg))) ≤ x4_16 then (some (x3_16, x4_16)) else (Option.bind (if x3_16 = 0 then (some (0 : Int32)) else (gi x4_16 682 (gi (x4_16 + (1 : Int32)) 682 (gi (x4_16 + (2 : Int32)) 682 (gi (x4_16 + (3 : Int32)) 682 (if (sp_X8_behind x2_4 (fa0_town (x4_16).toNatClampNeg) (fa0_town ((x4_16 + (1 : Int32))).toNatClampNeg) (fa0_town ((x4_16 + (2 : Int32))).toNatClampNeg)) = (fa0_town ((x4_16 + (3 : Int32))).toNatClampNeg) then (some (1 : Int32)) else (some (0 : Int32)))))))) fun z5 => lp_X8_is_16 fa0_town x2_4 fu z5 (x4_16 + (4 : Int32)))
noncomputable def lp_X8_is_4 (fa0_town : Nat → Int32) : Nat → Int32 → Int32 → Option (Int32 × Int32)
 | 0, _, _ => none
 | fu + 1, x1_4, x2_4 => if (6 : Int32) ≤ x2_4 then (some (x1_4, x2_4)) else (Option.bind (lp_X8_is_16 fa0_town x2_4 FU (1 : Int32) (82 : Int32)) fun z3 => lt_ (if z3.1 = 0 then ((0 : Int32)) else (((1 : Int32) <<< (x2_4 &&& 31)))) fun z13 => lp_X8_is_4 fa0_town fu (x1_4 ||| z13) (x2_4 + (1 : Int32)))
noncomputable def sp_X8_is (fa0_town : Nat → Int32) : Option (Int32) := Option.bind (lp_X8_is_4 fa0_town FU (0 : Int32) (0 : Int32)) fun z1 => some z1.1
set_option maxHeartbeats 4000000 in
set_option maxRecDepth 100000 in
theorem c_X8_is (l : Launch) (E : wE) (a0 a0_text a0_town a0_draft a0_tried a0_images a0_kept a0_refused a0_line a0_best : Nat) (a0_letters : Int32) (a0_above : Int64) (a0_below : Int64) (a0_at : Int32) (a0_start : Int32) (a0_isWell : Int32) (a0_faultAt : Int32) (fa0_town : Nat → Int32) (z : Int32) (hsp : sp_X8_is fa0_town = some z) : MR l yX8_is cX8_is 5 (some .int) 2 E [.ref a0] [(a0, .inr (5, [.ref a0_text, .int a0_letters, .ref a0_town, .ref a0_draft, .ref a0_tried, .ref a0_images, .ref a0_kept, .ref a0_refused, .long a0_above, .long a0_below, .ref a0_line, .ref a0_best, .int a0_at, .int a0_start, .int a0_isWell, .int a0_faultAt])), (a0_town, aI E 682 fa0_town)] (some (.int z)) := by
  refine MR.of (by decide +kernel) (Nat.le_of_ble_eq_true rfl) ?_
  intro p e s m below meth c ls hX hK hP hl
  have hX : CX p s m [.ref a0].toArray meth c cX8_is 5 (some .int) RX8 := hX
  have hx := hX.1; have hb := hX.2.1; have hts := hX.2.2.2.2.1; have hown := hX.2.2.2.2.2.1
  have hl : lv_has ls 5 [(0, .ref a0)] := hl
  have hsp : (Option.bind (lp_X8_is_4 fa0_town FU (0 : Int32) (0 : Int32)) fun z1 => some z1.1) = some z := hsp
  refine lv_iconst (v := (0 : Int32)) hx hb dX8_is_0 (by decide) (W.pc 1 rfl ?_)
  refine lv_istore_n (lv' := [(1, .int (0 : Int32)), (0, .ref a0)]) hx hb dX8_is_1 rfl hl (by decide) rfl (fun ls hl => W.pc 2 rfl ?_)
  refine lv_iconst (v := (0 : Int32)) hx hb dX8_is_2 (by decide) (W.pc 3 rfl ?_)
  refine lv_istore_n (lv' := [(2, .int (0 : Int32)), (1, .int (0 : Int32)), (0, .ref a0)]) hx hb dX8_is_3 rfl hl (by decide) rfl (fun ls hl => W.pc 4 rfl ?_)
  have L_4 : ∀ (z1 : Int32 × Int32), (∀ (ls : Array Slot), lv_has ls 5 [(1, .int z1.1)] → W p l e (wR 2) s m [.ref a0].toArray below meth c s.heap [] 0 0 (MQ below (QRd E (some (.int z))) [.ref a0].toArray s 0 0 (fun _ => False)) (F0 m 110 ls [])) → ∀ (fu : Nat) (x1_4 : Int32) (x2_4 : Int32), ∀ (ls : Array Slot), lv_has ls 5 [(0, .ref a0), (1, .int x1_4), (2, .int x2_4)] → lp_X8_is_4 fa0_town fu x1_4 x2_4 = some z1 → W p l e (wR 2) s m [.ref a0].toArray below meth c s.heap [] 0 0 (MQ below (QRd E (some (.int z))) [.ref a0].toArray s 0 0 (fun _ => False)) (F0 m 4 ls []) := by
    intro z1 hk_4 fu
    induction fu with
    | zero => intro x1_4 x2_4 ls hl hsp; exact absurd (show none = some _ from hsp) (by simp)
    | succ fu ih_4 =>
      intro x1_4 x2_4 ls hl hsp
      have hsp : (if (6 : Int32) ≤ x2_4 then (some (x1_4, x2_4)) else (Option.bind (lp_X8_is_16 fa0_town x2_4 FU (1 : Int32) (82 : Int32)) fun z3 => lt_ (if z3.1 = 0 then ((0 : Int32)) else (((1 : Int32) <<< (x2_4 &&& 31)))) fun z13 => lp_X8_is_4 fa0_town fu (x1_4 ||| z13) (x2_4 + (1 : Int32)))) = some z1 := hsp
      refine lv_iload_n hx hb dX8_is_4 rfl (lv_at hl 2 rfl) (W.pc 5 rfl ?_)
      refine lv_bipush (v := (6 : Int32)) hx hb dX8_is_5 (by decide) (W.pc 7 rfl ?_)
      refine lv_icmp_ge (tgt := 110) hx hb dX8_is_7 (by decide) (fun c2 => ?_) (fun c2 => W.pc 10 rfl ?_)
      · have hsp := ip hsp c2
        obtain rfl := Option.some.inj hsp
        exact hk_4 _ (lv_sub hl [1] rfl)
      · have hsp := iq hsp c2
        refine lv_iconst (v := (1 : Int32)) hx hb dX8_is_10 (by decide) (W.pc 11 rfl ?_)
        refine lv_istore_n (lv' := [(3, .int (1 : Int32)), (0, .ref a0), (1, .int x1_4), (2, .int x2_4)]) hx hb dX8_is_11 rfl hl (by decide) rfl (fun ls hl => W.pc 12 rfl ?_)
        refine lv_bipush (v := (82 : Int32)) hx hb dX8_is_12 (by decide) (W.pc 14 rfl ?_)
        refine lv_istore (lv' := [(4, .int (82 : Int32)), (3, .int (1 : Int32)), (0, .ref a0), (1, .int x1_4), (2, .int x2_4)]) hx hb dX8_is_14 hl (by decide) rfl (fun ls hl => W.pc 16 rfl ?_)
        have L_16 : ∀ (z3 : Int32 × Int32), (∀ (ls : Array Slot), lv_has ls 5 [(0, .ref a0), (1, .int x1_4), (2, .int x2_4), (3, .int z3.1)] → W p l e (wR 2) s m [.ref a0].toArray below meth c s.heap [] 0 0 (MQ below (QRd E (some (.int z))) [.ref a0].toArray s 0 0 (fun _ => False)) (F0 m 90 ls [])) → ∀ (fu : Nat) (x3_16 : Int32) (x4_16 : Int32), ∀ (ls : Array Slot), lv_has ls 5 [(0, .ref a0), (1, .int x1_4), (2, .int x2_4), (3, .int x3_16), (4, .int x4_16)] → lp_X8_is_16 fa0_town x2_4 fu x3_16 x4_16 = some z3 → W p l e (wR 2) s m [.ref a0].toArray below meth c s.heap [] 0 0 (MQ below (QRd E (some (.int z))) [.ref a0].toArray s 0 0 (fun _ => False)) (F0 m 16 ls []) := by
          intro z3 hk_16 fu
          induction fu with
          | zero => intro x3_16 x4_16 ls hl hsp; exact absurd (show none = some _ from hsp) (by simp)
          | succ fu ih_16 =>
            intro x3_16 x4_16 ls hl hsp
            have hsp : (if ((82 : Int32) + ((4 : Int32) * (fa0_town ((81 : Int32)).toNatClampNeg))) ≤ x4_16 then (some (x3_16, x4_16)) else (Option.bind (if x3_16 = 0 then (some (0 : Int32)) else (gi x4_16 682 (gi (x4_16 + (1 : Int32)) 682 (gi (x4_16 + (2 : Int32)) 682 (gi (x4_16 + (3 : Int32)) 682 (if (sp_X8_behind x2_4 (fa0_town (x4_16).toNatClampNeg) (fa0_town ((x4_16 + (1 : Int32))).toNatClampNeg) (fa0_town ((x4_16 + (2 : Int32))).toNatClampNeg)) = (fa0_town ((x4_16 + (3 : Int32))).toNatClampNeg) then (some (1 : Int32)) else (some (0 : Int32)))))))) fun z5 => lp_X8_is_16 fa0_town x2_4 fu z5 (x4_16 + (4 : Int32)))) = some z3 := hsp
            refine lv_iload hx hb dX8_is_16 (lv_at hl 4 rfl) (W.pc 18 rfl ?_)
            refine lv_bipush (v := (82 : Int32)) hx hb dX8_is_18 (by decide) (W.pc 20 rfl ?_)
            refine lv_iconst (v := (4 : Int32)) hx hb dX8_is_20 (by decide) (W.pc 21 rfl ?_)
            refine lv_aload_n hx hb dX8_is_21 rfl (lv_at hl 0 rfl) (W.pc 22 rfl ?_)
            refine va_get (D := E.1) (ci := 5) (v := .ref a0_town) (C := RX8) (T := TX8) (N := 16) hx hb hts inT_X8 hown hK hP 0 rfl rfl 2 (by decide) (hts _ w_4_70) (fun _ h9 => h9) rfl dX8_is_22 (W.pc 25 rfl ?_)
            refine lv_bipush (v := (81 : Int32)) hx hb dX8_is_25 (by decide) (W.pc 27 rfl ?_)
            refine va_iald hx hb hK hP 1 0 rfl rfl (vp_in_nI (n := 81) (N := 682) (by decide) (by decide)) dX8_is_27 (W.pc 28 rfl ?_)
            refine lv_imul hx hb dX8_is_28 (W.pc 29 rfl ?_)
            refine lv_iadd hx hb dX8_is_29 (W.pc 30 rfl ?_)
            refine lv_icmp_ge (tgt := 90) hx hb dX8_is_30 (by decide) (fun c4 => ?_) (fun c4 => W.pc 33 rfl ?_)
            · have hsp := ip hsp c4
              obtain rfl := Option.some.inj hsp
              exact hk_16 _ (lv_sub hl [0, 1, 2, 3] rfl)
            · have hsp := iq hsp c4
              refine lv_iload_n hx hb dX8_is_33 rfl (lv_at hl 3 rfl) (W.pc 34 rfl ?_)
              obtain ⟨z5, hr_z5, hsp⟩ := bd_s hsp
              have J6 : ∀ (ls : Array Slot), lv_has ls 5 [(0, .ref a0), (1, .int x1_4), (2, .int x2_4), (4, .int x4_16)] → W p l e (wR 2) s m [.ref a0].toArray below meth c s.heap [] 0 0 (MQ below (QRd E (some (.int z))) [.ref a0].toArray s 0 0 (fun _ => False)) (F0 m 83 ls [.int z5]) := by
                intro ls hl
                refine lv_istore_n (lv' := [(3, .int z5), (0, .ref a0), (1, .int x1_4), (2, .int x2_4), (4, .int x4_16)]) hx hb dX8_is_83 rfl hl (by decide) rfl (fun ls hl => W.pc 84 rfl ?_)
                refine lv_iinc (v := (x4_16 + (4 : Int32))) (lv' := [(4, .int (x4_16 + (4 : Int32))), (3, .int z5), (0, .ref a0), (1, .int x1_4), (2, .int x2_4)]) hx hb dX8_is_84 hl (k := 4) rfl rfl (by decide) rfl (fun ls hl => W.pc 87 rfl ?_)
                refine lv_goto (tgt := 16) hx hb dX8_is_87 (by decide) ?_
                exact ih_16 z5 (x4_16 + (4 : Int32)) _ (lv_sub hl [2, 3, 4, 1, 0] rfl) hsp
              replace hsp := hr_z5
              refine lv_if_eq (tgt := 82) hx hb dX8_is_34 (by decide) (fun c7 => ?_) (fun c7 => W.pc 37 rfl ?_)
              · have hsp := ip hsp c7
                refine lv_iconst (v := (0 : Int32)) hx hb dX8_is_82 (by decide) (W.pc 83 rfl ?_)
                obtain rfl := Option.some.inj hsp
                exact J6 _ (lv_sub hl [0, 1, 2, 4] rfl)
              · have hsp := iq hsp c7
                refine lv_iload_n hx hb dX8_is_37 rfl (lv_at hl 2 rfl) (W.pc 38 rfl ?_)
                refine lv_aload_n hx hb dX8_is_38 rfl (lv_at hl 0 rfl) (W.pc 39 rfl ?_)
                refine va_get (D := E.1) (ci := 5) (v := .ref a0_town) (C := RX8) (T := TX8) (N := 16) hx hb hts inT_X8 hown hK hP 0 rfl rfl 2 (by decide) (hts _ w_4_70) (fun _ h9 => h9) rfl dX8_is_39 (W.pc 42 rfl ?_)
                refine lv_iload hx hb dX8_is_42 (lv_at hl 4 rfl) (W.pc 44 rfl ?_)
                obtain ⟨h8, hsp⟩ := gi_s hsp
                refine va_iald hx hb hK hP 1 0 rfl rfl h8 dX8_is_44 (W.pc 45 rfl ?_)
                refine lv_aload_n hx hb dX8_is_45 rfl (lv_at hl 0 rfl) (W.pc 46 rfl ?_)
                refine va_get (D := E.1) (ci := 5) (v := .ref a0_town) (C := RX8) (T := TX8) (N := 16) hx hb hts inT_X8 hown hK hP 0 rfl rfl 2 (by decide) (hts _ w_4_70) (fun _ h9 => h9) rfl dX8_is_46 (W.pc 49 rfl ?_)
                refine lv_iload hx hb dX8_is_49 (lv_at hl 4 rfl) (W.pc 51 rfl ?_)
                refine lv_iconst (v := (1 : Int32)) hx hb dX8_is_51 (by decide) (W.pc 52 rfl ?_)
                refine lv_iadd hx hb dX8_is_52 (W.pc 53 rfl ?_)
                obtain ⟨h9, hsp⟩ := gi_s hsp
                refine va_iald hx hb hK hP 1 0 rfl rfl h9 dX8_is_53 (W.pc 54 rfl ?_)
                refine lv_aload_n hx hb dX8_is_54 rfl (lv_at hl 0 rfl) (W.pc 55 rfl ?_)
                refine va_get (D := E.1) (ci := 5) (v := .ref a0_town) (C := RX8) (T := TX8) (N := 16) hx hb hts inT_X8 hown hK hP 0 rfl rfl 2 (by decide) (hts _ w_4_70) (fun _ h9 => h9) rfl dX8_is_55 (W.pc 58 rfl ?_)
                refine lv_iload hx hb dX8_is_58 (lv_at hl 4 rfl) (W.pc 60 rfl ?_)
                refine lv_iconst (v := (2 : Int32)) hx hb dX8_is_60 (by decide) (W.pc 61 rfl ?_)
                refine lv_iadd hx hb dX8_is_61 (W.pc 62 rfl ?_)
                obtain ⟨h10, hsp⟩ := gi_s hsp
                refine va_iald hx hb hK hP 1 0 rfl rfl h10 dX8_is_62 (W.pc 63 rfl ?_)
                refine kSR (st1 := [.int (sp_X8_behind x2_4 (fa0_town (x4_16).toNatClampNeg) (fa0_town ((x4_16 + (1 : Int32))).toNatClampNeg) (fa0_town ((x4_16 + (2 : Int32))).toNatClampNeg))]) hX (c_X8_behind l E x2_4 (fa0_town (x4_16).toNatClampNeg) (fa0_town ((x4_16 + (1 : Int32))).toNatClampNeg) (fa0_town ((x4_16 + (2 : Int32))).toNatClampNeg) _ rfl) B_X8_behind w_4_221 hK (hP.pick [] rfl) rfl hl.1 rfl (Nat.le_of_ble_eq_true rfl) ⟨Nat.le_of_ble_eq_true rfl, Nat.le_of_ble_eq_true rfl⟩ dX8_is_63 rfl (W.pc 66 rfl ?_)
                refine lv_aload_n hx hb dX8_is_66 rfl (lv_at hl 0 rfl) (W.pc 67 rfl ?_)
                refine va_get (D := E.1) (ci := 5) (v := .ref a0_town) (C := RX8) (T := TX8) (N := 16) hx hb hts inT_X8 hown hK hP 0 rfl rfl 2 (by decide) (hts _ w_4_70) (fun _ h9 => h9) rfl dX8_is_67 (W.pc 70 rfl ?_)
                refine lv_iload hx hb dX8_is_70 (lv_at hl 4 rfl) (W.pc 72 rfl ?_)
                refine lv_iconst (v := (3 : Int32)) hx hb dX8_is_72 (by decide) (W.pc 73 rfl ?_)
                refine lv_iadd hx hb dX8_is_73 (W.pc 74 rfl ?_)
                obtain ⟨h11, hsp⟩ := gi_s hsp
                refine va_iald hx hb hK hP 1 0 rfl rfl h11 dX8_is_74 (W.pc 75 rfl ?_)
                refine lv_icmp_ne (tgt := 82) hx hb dX8_is_75 (by decide) (fun c12 => ?_) (fun c12 => W.pc 78 rfl ?_)
                · have hsp := iq hsp c12
                  refine lv_iconst (v := (0 : Int32)) hx hb dX8_is_82 (by decide) (W.pc 83 rfl ?_)
                  obtain rfl := Option.some.inj hsp
                  exact J6 _ (lv_sub hl [0, 1, 2, 4] rfl)
                · have hsp := ip hsp c12
                  refine lv_iconst (v := (1 : Int32)) hx hb dX8_is_78 (by decide) (W.pc 79 rfl ?_)
                  refine lv_goto (tgt := 83) hx hb dX8_is_79 (by decide) ?_
                  obtain rfl := Option.some.inj hsp
                  exact J6 _ (lv_sub hl [0, 1, 2, 4] rfl)
        obtain ⟨z3, hr_z3, hsp⟩ := bd_s hsp
        refine L_16 z3 (fun ls hl => ?_) FU (1 : Int32) (82 : Int32) _ (lv_sub hl [2, 3, 4, 1, 0] rfl) hr_z3
        refine lv_iload_n hx hb dX8_is_90 rfl (lv_at hl 1 rfl) (W.pc 91 rfl ?_)
        refine lv_iload_n hx hb dX8_is_91 rfl (lv_at hl 3 rfl) (W.pc 92 rfl ?_)
        obtain ⟨z13, hr_z13, hsp⟩ := ltb_s hsp
        have J14 : ∀ (ls : Array Slot), lv_has ls 5 [(0, .ref a0), (2, .int x2_4)] → W p l e (wR 2) s m [.ref a0].toArray below meth c s.heap [] 0 0 (MQ below (QRd E (some (.int z))) [.ref a0].toArray s 0 0 (fun _ => False)) (F0 m 102 ls [.int z13, .int x1_4]) := by
          intro ls hl
          refine lv_ior hx hb dX8_is_102 (W.pc 103 rfl ?_)
          refine lv_istore_n (lv' := [(1, .int (x1_4 ||| z13)), (0, .ref a0), (2, .int x2_4)]) hx hb dX8_is_103 rfl hl (by decide) rfl (fun ls hl => W.pc 104 rfl ?_)
          refine lv_iinc (v := (x2_4 + (1 : Int32))) (lv' := [(2, .int (x2_4 + (1 : Int32))), (1, .int (x1_4 ||| z13)), (0, .ref a0)]) hx hb dX8_is_104 hl (k := 2) rfl rfl (by decide) rfl (fun ls hl => W.pc 107 rfl ?_)
          refine lv_goto (tgt := 4) hx hb dX8_is_107 (by decide) ?_
          exact ih_4 (x1_4 ||| z13) (x2_4 + (1 : Int32)) _ (lv_sub hl [2, 1, 0] rfl) hsp
        replace hsp := hr_z13
        refine lv_if_eq (tgt := 101) hx hb dX8_is_92 (by decide) (fun c15 => ?_) (fun c15 => W.pc 95 rfl ?_)
        · have hsp := ip hsp c15
          refine lv_iconst (v := (0 : Int32)) hx hb dX8_is_101 (by decide) (W.pc 102 rfl ?_)
          subst hsp
          exact J14 _ (lv_sub hl [0, 2] rfl)
        · have hsp := iq hsp c15
          refine lv_iconst (v := (1 : Int32)) hx hb dX8_is_95 (by decide) (W.pc 96 rfl ?_)
          refine lv_iload_n hx hb dX8_is_96 rfl (lv_at hl 2 rfl) (W.pc 97 rfl ?_)
          refine lv_ishl hx hb dX8_is_97 (W.pc 98 rfl ?_)
          refine lv_goto (tgt := 102) hx hb dX8_is_98 (by decide) ?_
          subst hsp
          exact J14 _ (lv_sub hl [0, 2] rfl)
  obtain ⟨z1, hr_z1, hsp⟩ := bd_s hsp
  refine L_4 z1 (fun ls hl => ?_) FU (0 : Int32) (0 : Int32) _ (lv_sub hl [2, 1, 0] rfl) hr_z1
  refine lv_iload_n hx hb dX8_is_110 rfl (lv_at hl 0 rfl) (W.pc 111 rfl ?_)
  obtain rfl := Option.some.inj hsp
  exact rRi hX rfl dX8_is_111
noncomputable def lp_X8_alike_20 (p1 : Int32) (p2 : Int32) (p3 : Int32) (fa0_town : Nat → Int32) (x5_7 : Int32) : Nat → Int32 → Int32 → Option (Int32 × Int32)
 | 0, _, _ => none
 | fu + 1, x6_20, x7_20 => if (6 : Int32) ≤ x7_20 then (some (x6_20, x7_20)) else (lt_ (if (sp_X8_has p1 x7_20) = 0 then ((0 : Int32)) else (if (sp_X8_behind x7_20 (fa0_town ((1 : Int32)).toNatClampNeg) p2 p3) = x5_7 then ((1 : Int32)) else ((0 : Int32)))) fun z5 => lp_X8_alike_20 p1 p2 p3 fa0_town x5_7 fu (x6_20 + z5) (x7_20 + (1 : Int32)))
noncomputable def lp_X8_alike_7 (p1 : Int32) (p2 : Int32) (p3 : Int32) (fa0_town : Nat → Int32) : Nat → Int32 → Int32 → Option (Int32 × Int32)
 | 0, _, _ => none
 | fu + 1, x4_7, x5_7 => if (10 : Int32) ≤ x5_7 then (some (x4_7, x5_7)) else (Option.bind (lp_X8_alike_20 p1 p2 p3 fa0_town x5_7 FU (0 : Int32) (0 : Int32)) fun z3 => lt_ (if z3.1 ≤ x4_7 then (x4_7) else (z3.1)) fun z9 => lp_X8_alike_7 p1 p2 p3 fa0_town fu z9 (x5_7 + (1 : Int32)))
noncomputable def sp_X8_alike (p1 : Int32) (p2 : Int32) (p3 : Int32) (fa0_town : Nat → Int32) : Option (Int32) := Option.bind (lp_X8_alike_7 p1 p2 p3 fa0_town FU (0 : Int32) (-9 : Int32)) fun z1 => some z1.1
set_option maxHeartbeats 4000000 in
set_option maxRecDepth 100000 in
theorem c_X8_alike (l : Launch) (E : wE) (a0 a0_text a0_town a0_draft a0_tried a0_images a0_kept a0_refused a0_line a0_best : Nat) (p1 : Int32) (p2 : Int32) (p3 : Int32) (a0_letters : Int32) (a0_above : Int64) (a0_below : Int64) (a0_at : Int32) (a0_start : Int32) (a0_isWell : Int32) (a0_faultAt : Int32) (fa0_town : Nat → Int32) (z : Int32) (hsp : sp_X8_alike p1 p2 p3 fa0_town = some z) : MR l yX8_alike cX8_alike 8 (some .int) 2 E [.ref a0, .int p1, .int p2, .int p3] [(a0, .inr (5, [.ref a0_text, .int a0_letters, .ref a0_town, .ref a0_draft, .ref a0_tried, .ref a0_images, .ref a0_kept, .ref a0_refused, .long a0_above, .long a0_below, .ref a0_line, .ref a0_best, .int a0_at, .int a0_start, .int a0_isWell, .int a0_faultAt])), (a0_town, aI E 682 fa0_town)] (some (.int z)) := by
  refine MR.of (by decide +kernel) (Nat.le_of_ble_eq_true rfl) ?_
  intro p e s m below meth c ls hX hK hP hl
  have hX : CX p s m [.ref a0, .int p1, .int p2, .int p3].toArray meth c cX8_alike 8 (some .int) RX8 := hX
  have hx := hX.1; have hb := hX.2.1; have hts := hX.2.2.2.2.1; have hown := hX.2.2.2.2.2.1
  have hl : lv_has ls 8 [(0, .ref a0), (1, .int p1), (2, .int p2), (3, .int p3)] := hl
  have hsp : (Option.bind (lp_X8_alike_7 p1 p2 p3 fa0_town FU (0 : Int32) (-9 : Int32)) fun z1 => some z1.1) = some z := hsp
  refine lv_iconst (v := (0 : Int32)) hx hb dX8_alike_0 (by decide) (W.pc 1 rfl ?_)
  refine lv_istore (lv' := [(4, .int (0 : Int32)), (0, .ref a0), (1, .int p1), (2, .int p2), (3, .int p3)]) hx hb dX8_alike_1 hl (by decide) rfl (fun ls hl => W.pc 3 rfl ?_)
  refine lv_bipush (v := (-9 : Int32)) hx hb dX8_alike_3 (by decide) (W.pc 5 rfl ?_)
  refine lv_istore (lv' := [(5, .int (-9 : Int32)), (4, .int (0 : Int32)), (0, .ref a0), (1, .int p1), (2, .int p2), (3, .int p3)]) hx hb dX8_alike_5 hl (by decide) rfl (fun ls hl => W.pc 7 rfl ?_)
  have L_7 : ∀ (z1 : Int32 × Int32), (∀ (ls : Array Slot), lv_has ls 8 [(4, .int z1.1)] → W p l e (wR 2) s m [.ref a0, .int p1, .int p2, .int p3].toArray below meth c s.heap [] 0 0 (MQ below (QRd E (some (.int z))) [.ref a0, .int p1, .int p2, .int p3].toArray s 0 0 (fun _ => False)) (F0 m 92 ls [])) → ∀ (fu : Nat) (x4_7 : Int32) (x5_7 : Int32), ∀ (ls : Array Slot), lv_has ls 8 [(0, .ref a0), (1, .int p1), (2, .int p2), (3, .int p3), (4, .int x4_7), (5, .int x5_7)] → lp_X8_alike_7 p1 p2 p3 fa0_town fu x4_7 x5_7 = some z1 → W p l e (wR 2) s m [.ref a0, .int p1, .int p2, .int p3].toArray below meth c s.heap [] 0 0 (MQ below (QRd E (some (.int z))) [.ref a0, .int p1, .int p2, .int p3].toArray s 0 0 (fun _ => False)) (F0 m 7 ls []) := by
    intro z1 hk_7 fu
    induction fu with
    | zero => intro x4_7 x5_7 ls hl hsp; exact absurd (show none = some _ from hsp) (by simp)
    | succ fu ih_7 =>
      intro x4_7 x5_7 ls hl hsp
      have hsp : (if (10 : Int32) ≤ x5_7 then (some (x4_7, x5_7)) else (Option.bind (lp_X8_alike_20 p1 p2 p3 fa0_town x5_7 FU (0 : Int32) (0 : Int32)) fun z3 => lt_ (if z3.1 ≤ x4_7 then (x4_7) else (z3.1)) fun z9 => lp_X8_alike_7 p1 p2 p3 fa0_town fu z9 (x5_7 + (1 : Int32)))) = some z1 := hsp
      refine lv_iload hx hb dX8_alike_7 (lv_at hl 5 rfl) (W.pc 9 rfl ?_)
      refine lv_bipush (v := (10 : Int32)) hx hb dX8_alike_9 (by decide) (W.pc 11 rfl ?_)
      refine lv_icmp_ge (tgt := 92) hx hb dX8_alike_11 (by decide) (fun c2 => ?_) (fun c2 => W.pc 14 rfl ?_)
      · have hsp := ip hsp c2
        obtain rfl := Option.some.inj hsp
        exact hk_7 _ (lv_sub hl [4] rfl)
      · have hsp := iq hsp c2
        refine lv_iconst (v := (0 : Int32)) hx hb dX8_alike_14 (by decide) (W.pc 15 rfl ?_)
        refine lv_istore (lv' := [(6, .int (0 : Int32)), (0, .ref a0), (1, .int p1), (2, .int p2), (3, .int p3), (4, .int x4_7), (5, .int x5_7)]) hx hb dX8_alike_15 hl (by decide) rfl (fun ls hl => W.pc 17 rfl ?_)
        refine lv_iconst (v := (0 : Int32)) hx hb dX8_alike_17 (by decide) (W.pc 18 rfl ?_)
        refine lv_istore (lv' := [(7, .int (0 : Int32)), (6, .int (0 : Int32)), (0, .ref a0), (1, .int p1), (2, .int p2), (3, .int p3), (4, .int x4_7), (5, .int x5_7)]) hx hb dX8_alike_18 hl (by decide) rfl (fun ls hl => W.pc 20 rfl ?_)
        have L_20 : ∀ (z3 : Int32 × Int32), (∀ (ls : Array Slot), lv_has ls 8 [(0, .ref a0), (1, .int p1), (2, .int p2), (3, .int p3), (4, .int x4_7), (5, .int x5_7), (6, .int z3.1)] → W p l e (wR 2) s m [.ref a0, .int p1, .int p2, .int p3].toArray below meth c s.heap [] 0 0 (MQ below (QRd E (some (.int z))) [.ref a0, .int p1, .int p2, .int p3].toArray s 0 0 (fun _ => False)) (F0 m 70 ls [])) → ∀ (fu : Nat) (x6_20 : Int32) (x7_20 : Int32), ∀ (ls : Array Slot), lv_has ls 8 [(0, .ref a0), (1, .int p1), (2, .int p2), (3, .int p3), (4, .int x4_7), (5, .int x5_7), (6, .int x6_20), (7, .int x7_20)] → lp_X8_alike_20 p1 p2 p3 fa0_town x5_7 fu x6_20 x7_20 = some z3 → W p l e (wR 2) s m [.ref a0, .int p1, .int p2, .int p3].toArray below meth c s.heap [] 0 0 (MQ below (QRd E (some (.int z))) [.ref a0, .int p1, .int p2, .int p3].toArray s 0 0 (fun _ => False)) (F0 m 20 ls []) := by
          intro z3 hk_20 fu
          induction fu with
          | zero => intro x6_20 x7_20 ls hl hsp; exact absurd (show none = some _ from hsp) (by simp)
          | succ fu ih_20 =>
            intro x6_20 x7_20 ls hl hsp
            have hsp : (if (6 : Int32) ≤ x7_20 then (some (x6_20, x7_20)) else (lt_ (if (sp_X8_has p1 x7_20) = 0 then ((0 : Int32)) else (if (sp_X8_behind x7_20 (fa0_town ((1 : Int32)).toNatClampNeg) p2 p3) = x5_7 then ((1 : Int32)) else ((0 : Int32)))) fun z5 => lp_X8_alike_20 p1 p2 p3 fa0_town x5_7 fu (x6_20 + z5) (x7_20 + (1 : Int32)))) = some z3 := hsp
            refine lv_iload hx hb dX8_alike_20 (lv_at hl 7 rfl) (W.pc 22 rfl ?_)
            refine lv_bipush (v := (6 : Int32)) hx hb dX8_alike_22 (by decide) (W.pc 24 rfl ?_)
            refine lv_icmp_ge (tgt := 70) hx hb dX8_alike_24 (by decide) (fun c4 => ?_) (fun c4 => W.pc 27 rfl ?_)
            · have hsp := ip hsp c4
              obtain rfl := Option.some.inj hsp
              exact hk_20 _ (lv_sub hl [0, 1, 2, 3, 4, 5, 6] rfl)
            · have hsp := iq hsp c4
              refine lv_iload hx hb dX8_alike_27 (lv_at hl 6 rfl) (W.pc 29 rfl ?_)
              refine lv_iload_n hx hb dX8_alike_29 rfl (lv_at hl 1 rfl) (W.pc 30 rfl ?_)
              refine lv_iload hx hb dX8_alike_30 (lv_at hl 7 rfl) (W.pc 32 rfl ?_)
              refine kSR (st1 := [.int (sp_X8_has p1 x7_20), .int x6_20]) hX (c_X8_has l E p1 x7_20 _ rfl) B_X8_has w_5_151 hK (hP.pick [] rfl) rfl hl.1 rfl (Nat.le_of_ble_eq_true rfl) ⟨Nat.le_of_ble_eq_true rfl, Nat.le_of_ble_eq_true rfl⟩ dX8_alike_32 rfl (W.pc 35 rfl ?_)
              obtain ⟨z5, hr_z5, hsp⟩ := ltb_s hsp
              have J6 : ∀ (ls : Array Slot), lv_has ls 8 [(0, .ref a0), (1, .int p1), (2, .int p2), (3, .int p3), (4, .int x4_7), (5, .int x5_7), (7, .int x7_20)] → W p l e (wR 2) s m [.ref a0, .int p1, .int p2, .int p3].toArray below meth c s.heap [] 0 0 (MQ below (QRd E (some (.int z))) [.ref a0, .int p1, .int p2, .int p3].toArray s 0 0 (fun _ => False)) (F0 m 61 ls [.int z5, .int x6_20]) := by
                intro ls hl
                refine lv_iadd hx hb dX8_alike_61 (W.pc 62 rfl ?_)
                refine lv_istore (lv' := [(6, .int (x6_20 + z5)), (0, .ref a0), (1, .int p1), (2, .int p2), (3, .int p3), (4, .int x4_7), (5, .int x5_7), (7, .int x7_20)]) hx hb dX8_alike_62 hl (by decide) rfl (fun ls hl => W.pc 64 rfl ?_)
                refine lv_iinc (v := (x7_20 + (1 : Int32))) (lv' := [(7, .int (x7_20 + (1 : Int32))), (6, .int (x6_20 + z5)), (0, .ref a0), (1, .int p1), (2, .int p2), (3, .int p3), (4, .int x4_7), (5, .int x5_7)]) hx hb dX8_alike_64 hl (k := 7) rfl rfl (by decide) rfl (fun ls hl => W.pc 67 rfl ?_)
                refine lv_goto (tgt := 20) hx hb dX8_alike_67 (by decide) ?_
                exact ih_20 (x6_20 + z5) (x7_20 + (1 : Int32)) _ (lv_sub hl [2, 3, 4, 5, 6, 7, 1, 0] rfl) hsp
              replace hsp := hr_z5
              refine lv_if_eq (tgt := 60) hx hb dX8_alike_35 (by decide) (fun c7 => ?_) (fun c7 => W.pc 38 rfl ?_)
              · have hsp := ip hsp c7
                refine lv_iconst (v := (0 : Int32)) hx hb dX8_alike_60 (by decide) (W.pc 61 rfl ?_)
                subst hsp
                exact J6 _ (lv_sub hl [0, 1, 2, 3, 4, 5, 7] rfl)
              · have hsp := iq hsp c7
                refine lv_iload hx hb dX8_alike_38 (lv_at hl 7 rfl) (W.pc 40 rfl ?_)
                refine lv_aload_n hx hb dX8_alike_40 rfl (lv_at hl 0 rfl) (W.pc 41 rfl ?_)
                refine va_get (D := E.1) (ci := 5) (v := .ref a0_town) (C := RX8) (T := TX8) (N := 16) hx hb hts inT_X8 hown hK hP 0 rfl rfl 2 (by decide) (hts _ w_4_70) (fun _ h9 => h9) rfl dX8_alike_41 (W.pc 44 rfl ?_)
                refine lv_iconst (v := (1 : Int32)) hx hb dX8_alike_44 (by decide) (W.pc 45 rfl ?_)
                refine va_iald hx hb hK hP 1 0 rfl rfl (vp_in_nI (n := 1) (N := 682) (by decide) (by decide)) dX8_alike_45 (W.pc 46 rfl ?_)
                refine lv_iload_n hx hb dX8_alike_46 rfl (lv_at hl 2 rfl) (W.pc 47 rfl ?_)
                refine lv_iload_n hx hb dX8_alike_47 rfl (lv_at hl 3 rfl) (W.pc 48 rfl ?_)
                refine kSR (st1 := [.int (sp_X8_behind x7_20 (fa0_town ((1 : Int32)).toNatClampNeg) p2 p3), .int x6_20]) hX (c_X8_behind l E x7_20 (fa0_town ((1 : Int32)).toNatClampNeg) p2 p3 _ rfl) B_X8_behind w_4_221 hK (hP.pick [] rfl) rfl hl.1 rfl (Nat.le_of_ble_eq_true rfl) ⟨Nat.le_of_ble_eq_true rfl, Nat.le_of_ble_eq_true rfl⟩ dX8_alike_48 rfl (W.pc 51 rfl ?_)
                refine lv_iload hx hb dX8_alike_51 (lv_at hl 5 rfl) (W.pc 53 rfl ?_)
                refine lv_icmp_ne (tgt := 60) hx hb dX8_alike_53 (by decide) (fun c8 => ?_) (fun c8 => W.pc 56 rfl ?_)
                · have hsp := iq hsp c8
                  refine lv_iconst (v := (0 : Int32)) hx hb dX8_alike_60 (by decide) (W.pc 61 rfl ?_)
                  subst hsp
                  exact J6 _ (lv_sub hl [0, 1, 2, 3, 4, 5, 7] rfl)
                · have hsp := ip hsp c8
                  refine lv_iconst (v := (1 : Int32)) hx hb dX8_alike_56 (by decide) (W.pc 57 rfl ?_)
                  refine lv_goto (tgt := 61) hx hb dX8_alike_57 (by decide) ?_
                  subst hsp
                  exact J6 _ (lv_sub hl [0, 1, 2, 3, 4, 5, 7] rfl)
        obtain ⟨z3, hr_z3, hsp⟩ := bd_s hsp
        refine L_20 z3 (fun ls hl => ?_) FU (0 : Int32) (0 : Int32) _ (lv_sub hl [2, 3, 4, 5, 6, 7, 1, 0] rfl) hr_z3
        refine lv_iload hx hb dX8_alike_70 (lv_at hl 6 rfl) (W.pc 72 rfl ?_)
        refine lv_iload hx hb dX8_alike_72 (lv_at hl 4 rfl) (W.pc 74 rfl ?_)
        obtain ⟨z9, hr_z9, hsp⟩ := ltb_s hsp
        have J10 : ∀ (ls : Array Slot), lv_has ls 8 [(0, .ref a0), (1, .int p1), (2, .int p2), (3, .int p3), (5, .int x5_7)] → W p l e (wR 2) s m [.ref a0, .int p1, .int p2, .int p3].toArray below meth c s.heap [] 0 0 (MQ below (QRd E (some (.int z))) [.ref a0, .int p1, .int p2, .int p3].toArray s 0 0 (fun _ => False)) (F0 m 84 ls [.int z9]) := by
          intro ls hl
          refine lv_istore (lv' := [(4, .int z9), (0, .ref a0), (1, .int p1), (2, .int p2), (3, .int p3), (5, .int x5_7)]) hx hb dX8_alike_84 hl (by decide) rfl (fun ls hl => W.pc 86 rfl ?_)
          refine lv_iinc (v := (x5_7 + (1 : Int32))) (lv' := [(5, .int (x5_7 + (1 : Int32))), (4, .int z9), (0, .ref a0), (1, .int p1), (2, .int p2), (3, .int p3)]) hx hb dX8_alike_86 hl (k := 5) rfl rfl (by decide) rfl (fun ls hl => W.pc 89 rfl ?_)
          refine lv_goto (tgt := 7) hx hb dX8_alike_89 (by decide) ?_
          exact ih_7 z9 (x5_7 + (1 : Int32)) _ (lv_sub hl [2, 3, 4, 5, 1, 0] rfl) hsp
        replace hsp := hr_z9
        refine lv_icmp_le (tgt := 82) hx hb dX8_alike_74 (by decide) (fun c11 => ?_) (fun c11 => W.pc 77 rfl ?_)
        · have hsp := ip hsp c11
          refine lv_iload hx hb dX8_alike_82 (lv_at hl 4 rfl) (W.pc 84 rfl ?_)
          subst hsp
          exact J10 _ (lv_sub hl [0, 1, 2, 3, 5] rfl)
        · have hsp := iq hsp c11
          refine lv_iload hx hb dX8_alike_77 (lv_at hl 6 rfl) (W.pc 79 rfl ?_)
          refine lv_goto (tgt := 84) hx hb dX8_alike_79 (by decide) ?_
          subst hsp
          exact J10 _ (lv_sub hl [0, 1, 2, 3, 5] rfl)
  obtain ⟨z1, hr_z1, hsp⟩ := bd_s hsp
  refine L_7 z1 (fun ls hl => ?_) FU (0 : Int32) (-9 : Int32) _ (lv_sub hl [2, 3, 4, 5, 1, 0] rfl) hr_z1
  refine lv_iload hx hb dX8_alike_92 (lv_at hl 0 rfl) (W.pc 94 rfl ?_)
  obtain rfl := Option.some.inj hsp
  exact rRi hX rfl dX8_alike_94
noncomputable def lp_X8_watch_24 (fa0_town : Nat → Int32) (z1 : Int32) (x4_13 : Int32) : Nat → Int32 → Int32 → Int32 → Option (Int32 × Int32 × Int32)
 | 0, _, _, _ => none
 | fu + 1, x2_24, x3_24, x5_24 => if (10 : Int32) ≤ x5_24 then (some (x2_24, x3_24, x5_24)) else (Option.bind (sp_X8_alike z1 x5_24 x4_13 fa0_town) fun z6 => lt_ (if x3_24 ≤ z6 then (x2_24) else (((((100 : Int32) * x4_13) + x5_24) + (9 : Int32)))) fun z7 => lt_ (if x3_24 ≤ z6 then (x3_24) else (z6)) fun z10 => lp_X8_watch_24 fa0_town z1 x4_13 fu z7 z10 (x5_24 + (1 : Int32)))
noncomputable def lp_X8_watch_13 (fa0_town : Nat → Int32) (z1 : Int32) : Nat → Int32 → Int32 → Int32 → Option (Int32 × Int32 × Int32)
 | 0, _, _, _ => none
 | fu + 1, x2_13, x3_13, x4_13 => if (6 : Int32) ≤ x4_13 then (some (x2_13, x3_13, x4_13)) else (Option.bind (lp_X8_watch_24 fa0_town z1 x4_13 FU x2_13 x3_13 (-9 : Int32)) fun z4 => lp_X8_watch_13 fa0_town z1 fu z4.1 z4.2.1 (x4_13 + (1 : Int32)))
noncomputable def sp_X8_watch (fa0_town : Nat → Int32) : Option (Int32) := Option.bind (sp_X8_is fa0_town) fun z1 => Option.bind (lp_X8_watch_13 fa0_town z1 FU (-1 : Int32) (7 : Int32) (0 : Int32)) fun z2 => if z1 = 0 then (some (-1 : Int32)) else (some z2.1)
set_option maxHeartbeats 4000000 in
set_option maxRecDepth 100000 in
theorem c_X8_watch (l : Launch) (E : wE) (a0 a0_text a0_town a0_draft a0_tried a0_images a0_kept a0_refused a0_line a0_best : Nat) (a0_letters : Int32) (a0_above : Int64) (a0_below : Int64) (a0_at : Int32) (a0_start : Int32) (a0_isWell : Int32) (a0_faultAt : Int32) (fa0_town : Nat → Int32) (z : Int32) (hsp : sp_X8_watch fa0_town = some z) : MR l yX8_watch cX8_watch 7 (some .int) 3 E [.ref a0] [(a0, .inr (5, [.ref a0_text, .int a0_letters, .ref a0_town, .ref a0_draft, .ref a0_tried, .ref a0_images, .ref a0_kept, .ref a0_refused, .long a0_above, .long a0_below, .ref a0_line, .ref a0_best, .int a0_at, .int a0_start, .int a0_isWell, .int a0_faultAt])), (a0_town, aI E 682 fa0_town)] (some (.int z)) := by
  refine MR.of (by decide +kernel) (Nat.le_of_ble_eq_true rfl) ?_
  intro p e s m below meth c ls hX hK hP hl
  have hX : CX p s m [.ref a0].toArray meth c cX8_watch 7 (some .int) RX8 := hX
  have hx := hX.1; have hb := hX.2.1; have hts := hX.2.2.2.2.1; have hown := hX.2.2.2.2.2.1
  have hl : lv_has ls 7 [(0, .ref a0)] := hl
  have hsp : (Option.bind (sp_X8_is fa0_town) fun z1 => Option.bind (lp_X8_watch_13 fa0_town z1 FU (-1 : Int32) (7 : Int32) (0 : Int32)) fun z2 => if z1 = 0 then (some (-1 : Int32)) else (some z2.1)) = some z := hsp
  refine lv_aload_n hx hb dX8_watch_0 rfl (lv_at hl 0 rfl) (W.pc 1 rfl ?_)
  obtain ⟨z1, hr_z1, hsp⟩ := bd_s hsp
  refine kVR (st1 := [.int z1]) hX (c_X8_is l E a0 a0_text a0_town a0_draft a0_tried a0_images a0_kept a0_refused a0_line a0_best a0_letters a0_above a0_below a0_at a0_start a0_isWell a0_faultAt fa0_town z1 hr_z1) B_X8_is w_5_146 hK (hP.pick [0, 1] rfl) (q0 := 0) (ci := 5) rfl rfl rfl rfl hl.1 rfl (Nat.le_of_ble_eq_true rfl) ⟨Nat.le_of_ble_eq_true rfl, Nat.le_of_ble_eq_true rfl⟩ dX8_watch_1 rfl (W.pc 4 rfl ?_)
  refine lv_istore_n (lv' := [(1, .int z1), (0, .ref a0)]) hx hb dX8_watch_4 rfl hl (by decide) rfl (fun ls hl => W.pc 5 rfl ?_)
  refine lv_iconst (v := (-1 : Int32)) hx hb dX8_watch_5 (by decide) (W.pc 6 rfl ?_)
  refine lv_istore_n (lv' := [(2, .int (-1 : Int32)), (1, .int z1), (0, .ref a0)]) hx hb dX8_watch_6 rfl hl (by decide) rfl (fun ls hl => W.pc 7 rfl ?_)
  refine lv_bipush (v := (7 : Int32)) hx hb dX8_watch_7 (by decide) (W.pc 9 rfl ?_)
  refine lv_istore_n (lv' := [(3, .int (7 : Int32)), (2, .int (-1 : Int32)), (1, .int z1), (0, .ref a0)]) hx hb dX8_watch_9 rfl hl (by decide) rfl (fun ls hl => W.pc 10 rfl ?_)
  refine lv_iconst (v := (0 : Int32)) hx hb dX8_watch_10 (by decide) (W.pc 11 rfl ?_)
  refine lv_istore (lv' := [(4, .int (0 : Int32)), (3, .int (7 : Int32)), (2, .int (-1 : Int32)), (1, .int z1), (0, .ref a0)]) hx hb dX8_watch_11 hl (by decide) rfl (fun ls hl => W.pc 13 rfl ?_)
  have L_13 : ∀ (z2 : Int32 × Int32 × Int32), (∀ (ls : Array Slot), lv_has ls 7 [(1, .int z1), (2, .int z2.1)] → W p l e (wR 3) s m [.ref a0].toArray below meth c s.heap [] 0 0 (MQ below (QRd E (some (.int z))) [.ref a0].toArray s 0 0 (fun _ => False)) (F0 m 89 ls [])) → ∀ (fu : Nat) (x2_13 : Int32) (x3_13 : Int32) (x4_13 : Int32), ∀ (ls : Array Slot), lv_has ls 7 [(0, .ref a0), (1, .int z1), (2, .int x2_13), (3, .int x3_13), (4, .int x4_13)] → lp_X8_watch_13 fa0_town z1 fu x2_13 x3_13 x4_13 = some z2 → W p l e (wR 3) s m [.ref a0].toArray below meth c s.heap [] 0 0 (MQ below (QRd E (some (.int z))) [.ref a0].toArray s 0 0 (fun _ => False)) (F0 m 13 ls []) := by
    intro z2 hk_13 fu
    induction fu with
    | zero => intro x2_13 x3_13 x4_13 ls hl hsp; exact absurd (show none = some _ from hsp) (by simp)
    | succ fu ih_13 =>
      intro x2_13 x3_13 x4_13 ls hl hsp
      have hsp : (if (6 : Int32) ≤ x4_13 then (some (x2_13, x3_13, x4_13)) else (Option.bind (lp_X8_watch_24 fa0_town z1 x4_13 FU x2_13 x3_13 (-9 : Int32)) fun z4 => lp_X8_watch_13 fa0_town z1 fu z4.1 z4.2.1 (x4_13 + (1 : Int32)))) = some z2 := hsp
      refine lv_iload hx hb dX8_watch_13 (lv_at hl 4 rfl) (W.pc 15 rfl ?_)
      refine lv_bipush (v := (6 : Int32)) hx hb dX8_watch_15 (by decide) (W.pc 17 rfl ?_)
      refine lv_icmp_ge (tgt := 89) hx hb dX8_watch_17 (by decide) (fun c3 => ?_) (fun c3 => W.pc 20 rfl ?_)
      · have hsp := ip hsp c3
        obtain rfl := Option.some.inj hsp
        exact hk_13 _ (lv_sub hl [1, 2] rfl)
      · have hsp := iq hsp c3
        refine lv_bipush (v := (-9 : Int32)) hx hb dX8_watch_20 (by decide) (W.pc 22 rfl ?_)
        refine lv_istore (lv' := [(5, .int (-9 : Int32)), (0, .ref a0), (1, .int z1), (2, .int x2_13), (3, .int x3_13), (4, .int x4_13)]) hx hb dX8_watch_22 hl (by decide) rfl (fun ls hl => W.pc 24 rfl ?_)
        have L_24 : ∀ (z4 : Int32 × Int32 × Int32), (∀ (ls : Array Slot), lv_has ls 7 [(0, .ref a0), (1, .int z1), (2, .int z4.1), (3, .int z4.2.1), (4, .int x4_13)] → W p l e (wR 3) s m [.ref a0].toArray below meth c s.heap [] 0 0 (MQ below (QRd E (some (.int z))) [.ref a0].toArray s 0 0 (fun _ => False)) (F0 m 83 ls [])) → ∀ (fu : Nat) (x2_24 : Int32) (x3_24 : Int32) (x5_24 : Int32), ∀ (ls : Array Slot), lv_has ls 7 [(0, .ref a0), (1, .int z1), (2, .int x2_24), (3, .int x3_24), (4, .int x4_13), (5, .int x5_24)] → lp_X8_watch_24 fa0_town z1 x4_13 fu x2_24 x3_24 x5_24 = some z4 → W p l e (wR 3) s m [.ref a0].toArray below meth c s.heap [] 0 0 (MQ below (QRd E (some (.int z))) [.ref a0].toArray s 0 0 (fun _ => False)) (F0 m 24 ls []) := by
          intro z4 hk_24 fu
          induction fu with
          | zero => intro x2_24 x3_24 x5_24 ls hl hsp; exact absurd (show none = some _ from hsp) (by simp)
          | succ fu ih_24 =>
            intro x2_24 x3_24 x5_24 ls hl hsp
            have hsp : (if (10 : Int32) ≤ x5_24 then (some (x2_24, x3_24, x5_24)) else (Option.bind (sp_X8_alike z1 x5_24 x4_13 fa0_town) fun z6 => lt_ (if x3_24 ≤ z6 then (x2_24) else (((((100 : Int32) * x4_13) + x5_24) + (9 : Int32)))) fun z7 => lt_ (if x3_24 ≤ z6 then (x3_24) else (z6)) fun z10 => lp_X8_watch_24 fa0_town z1 x4_13 fu z7 z10 (x5_24 + (1 : Int32)))) = some z4 := hsp
            refine lv_iload hx hb dX8_watch_24 (lv_at hl 5 rfl) (W.pc 26 rfl ?_)
            refine lv_bipush (v := (10 : Int32)) hx hb dX8_watch_26 (by decide) (W.pc 28 rfl ?_)
            refine lv_icmp_ge (tgt := 83) hx hb dX8_watch_28 (by decide) (fun c5 => ?_) (fun c5 => W.pc 31 rfl ?_)
            · have hsp := ip hsp c5
              obtain rfl := Option.some.inj hsp
              exact hk_24 _ (lv_sub hl [0, 1, 2, 3, 4] rfl)
            · have hsp := iq hsp c5
              refine lv_aload_n hx hb dX8_watch_31 rfl (lv_at hl 0 rfl) (W.pc 32 rfl ?_)
              refine lv_iload_n hx hb dX8_watch_32 rfl (lv_at hl 1 rfl) (W.pc 33 rfl ?_)
              refine lv_iload hx hb dX8_watch_33 (lv_at hl 5 rfl) (W.pc 35 rfl ?_)
              refine lv_iload hx hb dX8_watch_35 (lv_at hl 4 rfl) (W.pc 37 rfl ?_)
              obtain ⟨z6, hr_z6, hsp⟩ := bd_s hsp
              refine kVR (st1 := [.int z6]) hX (c_X8_alike l E a0 a0_text a0_town a0_draft a0_tried a0_images a0_kept a0_refused a0_line a0_best z1 x5_24 x4_13 a0_letters a0_above a0_below a0_at a0_start a0_isWell a0_faultAt fa0_town z6 hr_z6) B_X8_alike w_5_147 hK (hP.pick [0, 1] rfl) (q0 := 0) (ci := 5) rfl rfl rfl rfl hl.1 rfl (Nat.le_of_ble_eq_true rfl) ⟨Nat.le_of_ble_eq_true rfl, Nat.le_of_ble_eq_true rfl⟩ dX8_watch_37 rfl (W.pc 40 rfl ?_)
              refine lv_istore (lv' := [(6, .int z6), (0, .ref a0), (1, .int z1), (2, .int x2_24), (3, .int x3_24), (4, .int x4_13), (5, .int x5_24)]) hx hb dX8_watch_40 hl (by decide) rfl (fun ls hl => W.pc 42 rfl ?_)
              refine lv_iload hx hb dX8_watch_42 (lv_at hl 0 rfl) (W.pc 44 rfl ?_)
              refine lv_iload_n hx hb dX8_watch_44 rfl (lv_at hl 4 rfl) (W.pc 45 rfl ?_)
              obtain ⟨z7, hr_z7, hsp⟩ := ltb_s hsp
              have J8 : ∀ (ls : Array Slot), lv_has ls 7 [(0, .ref a0), (1, .int z1), (3, .int x3_24), (4, .int x4_13), (5, .int x5_24), (6, .int z6)] → W p l e (wR 3) s m [.ref a0].toArray below meth c s.heap [] 0 0 (MQ below (QRd E (some (.int z))) [.ref a0].toArray s 0 0 (fun _ => False)) (F0 m 63 ls [.int z7]) := by
                intro ls hl
                refine lv_istore_n (lv' := [(2, .int z7), (0, .ref a0), (1, .int z1), (3, .int x3_24), (4, .int x4_13), (5, .int x5_24), (6, .int z6)]) hx hb dX8_watch_63 rfl hl (by decide) rfl (fun ls hl => W.pc 64 rfl ?_)
                refine lv_iload hx hb dX8_watch_64 (lv_at hl 6 rfl) (W.pc 66 rfl ?_)
                refine lv_iload_n hx hb dX8_watch_66 rfl (lv_at hl 3 rfl) (W.pc 67 rfl ?_)
                obtain ⟨z10, hr_z10, hsp⟩ := ltb_s hsp
                have J11 : ∀ (ls : Array Slot), lv_has ls 7 [(0, .ref a0), (1, .int z1), (2, .int z7), (4, .int x4_13), (5, .int x5_24)] → W p l e (wR 3) s m [.ref a0].toArray below meth c s.heap [] 0 0 (MQ below (QRd E (some (.int z))) [.ref a0].toArray s 0 0 (fun _ => False)) (F0 m 76 ls [.int z10]) := by
                  intro ls hl
                  refine lv_istore_n (lv' := [(3, .int z10), (0, .ref a0), (1, .int z1), (2, .int z7), (4, .int x4_13), (5, .int x5_24)]) hx hb dX8_watch_76 rfl hl (by decide) rfl (fun ls hl => W.pc 77 rfl ?_)
                  refine lv_iinc (v := (x5_24 + (1 : Int32))) (lv' := [(5, .int (x5_24 + (1 : Int32))), (3, .int z10), (0, .ref a0), (1, .int z1), (2, .int z7), (4, .int x4_13)]) hx hb dX8_watch_77 hl (k := 5) rfl rfl (by decide) rfl (fun ls hl => W.pc 80 rfl ?_)
                  refine lv_goto (tgt := 24) hx hb dX8_watch_80 (by decide) ?_
                  exact ih_24 z7 z10 (x5_24 + (1 : Int32)) _ (lv_sub hl [2, 3, 4, 1, 5, 0] rfl) hsp
                replace hsp := hr_z10
                refine lv_icmp_ge (tgt := 75) hx hb dX8_watch_67 (by decide) (fun c12 => ?_) (fun c12 => W.pc 70 rfl ?_)
                · have hsp := ip hsp c12
                  refine lv_iload_n hx hb dX8_watch_75 rfl (lv_at hl 3 rfl) (W.pc 76 rfl ?_)
                  subst hsp
                  exact J11 _ (lv_sub hl [1, 2, 0, 4, 5] rfl)
                · have hsp := iq hsp c12
                  refine lv_iload hx hb dX8_watch_70 (lv_at hl 6 rfl) (W.pc 72 rfl ?_)
                  refine lv_goto (tgt := 76) hx hb dX8_watch_72 (by decide) ?_
                  subst hsp
                  exact J11 _ (lv_sub hl [1, 2, 0, 4, 5] rfl)
              replace hsp := hr_z7
              refine lv_icmp_ge (tgt := 62) hx hb dX8_watch_45 (by decide) (fun c9 => ?_) (fun c9 => W.pc 48 rfl ?_)
              · have hsp := ip hsp c9
                refine lv_iload_n hx hb dX8_watch_62 rfl (lv_at hl 3 rfl) (W.pc 63 rfl ?_)
                subst hsp
                exact J8 _ (lv_sub hl [1, 2, 4, 5, 6, 0] rfl)
              · have hsp := iq hsp c9
                refine lv_bipush (v := (100 : Int32)) hx hb dX8_watch_48 (by decide) (W.pc 50 rfl ?_)
                refine lv_iload hx hb dX8_watch_50 (lv_at hl 5 rfl) (W.pc 52 rfl ?_)
                refine lv_imul hx hb dX8_watch_52 (W.pc 53 rfl ?_)
                refine lv_iload hx hb dX8_watch_53 (lv_at hl 6 rfl) (W.pc 55 rfl ?_)
                refine lv_iadd hx hb dX8_watch_55 (W.pc 56 rfl ?_)
                refine lv_bipush (v := (9 : Int32)) hx hb dX8_watch_56 (by decide) (W.pc 58 rfl ?_)
                refine lv_iadd hx hb dX8_watch_58 (W.pc 59 rfl ?_)
                refine lv_goto (tgt := 63) hx hb dX8_watch_59 (by decide) ?_
                subst hsp
                exact J8 _ (lv_sub hl [1, 2, 4, 5, 6, 0] rfl)
        obtain ⟨z4, hr_z4, hsp⟩ := bd_s hsp
        refine L_24 z4 (fun ls hl => ?_) FU x2_13 x3_13 (-9 : Int32) _ (lv_sub hl [1, 2, 3, 4, 5, 0] rfl) hr_z4
        refine lv_iinc (v := (x4_13 + (1 : Int32))) (lv' := [(4, .int (x4_13 + (1 : Int32))), (0, .ref a0), (1, .int z1), (2, .int z4.1), (3, .int z4.2.1)]) hx hb dX8_watch_83 hl (k := 4) rfl rfl (by decide) rfl (fun ls hl => W.pc 86 rfl ?_)
        refine lv_goto (tgt := 13) hx hb dX8_watch_86 (by decide) ?_
        exact ih_13 z4.1 z4.2.1 (x4_13 + (1 : Int32)) _ (lv_sub hl [1, 2, 3, 4, 0] rfl) hsp
  obtain ⟨z2, hr_z2, hsp⟩ := bd_s hsp
  refine L_13 z2 (fun ls hl => ?_) FU (-1 : Int32) (7 : Int32) (0 : Int32) _ (lv_sub hl [4, 3, 2, 1, 0] rfl) hr_z2
  refine lv_iload_n hx hb dX8_watch_89 rfl (lv_at hl 0 rfl) (W.pc 90 rfl ?_)
  refine lv_if_ne (tgt := 97) hx hb dX8_watch_90 (by decide) (fun c13 => ?_) (fun c13 => W.pc 93 rfl ?_)
  · have hsp := iq hsp c13
    refine lv_iload_n hx hb dX8_watch_97 rfl (lv_at hl 1 rfl) (W.pc 98 rfl ?_)
    obtain rfl := Option.some.inj hsp
    exact rRi hX rfl dX8_watch_98
  · have hsp := ip hsp c13
    refine lv_iconst (v := (-1 : Int32)) hx hb dX8_watch_93 (by decide) (W.pc 94 rfl ?_)
    refine lv_goto (tgt := 98) hx hb dX8_watch_94 (by decide) ?_
    obtain rfl := Option.some.inj hsp
    exact rRi hX rfl dX8_watch_98
noncomputable def lp_X8_kindsBy_17 (p1 : Int32) (fa0_town : Nat → Int32) (x3_4 : Int32) : Nat → Int32 → Int32 → Option (Int32 × Int32)
 | 0, _, _ => none
 | fu + 1, x4_17, x5_17 => if ((107 : Int32) + ((5 : Int32) * (fa0_town ((106 : Int32)).toNatClampNeg))) ≤ x5_17 then (some (x4_17, x5_17)) else (gi (x5_17 + (1 : Int32)) 682 (gi (x5_17 + (2 : Int32)) 682 (gi (x5_17 + (3 : Int32)) 682 (Option.bind (if x4_17 = 0 then (some (0 : Int32)) else (gi x5_17 682 (if (fa0_town (x5_17).toNatClampNeg) = p1 then (gi (x5_17 + (4 : Int32)) 682 (lt_ (if (fa0_town ((x5_17 + (4 : Int32))).toNatClampNeg) = (1 : Int32) then ((1 : Int32)) else ((0 : Int32))) fun z14 => if (sp_X8_stands x3_4 (fa0_town ((x5_17 + (1 : Int32))).toNatClampNeg) (fa0_town ((x5_17 + (2 : Int32))).toNatClampNeg) (fa0_town ((x5_17 + (3 : Int32))).toNatClampNeg)) = z14 then (some (1 : Int32)) else (some (0 : Int32)))) else (some (1 : Int32))))) fun z8 => lp_X8_kindsBy_17 p1 fa0_town x3_4 fu z8 (x5_17 + (5 : Int32))))))
noncomputable def lp_X8_kindsBy_4 (p1 : Int32) (fa0_town : Nat → Int32) : Nat → Int32 → Int32 → Option (Int32 × Int32)
 | 0, _, _ => none
 | fu + 1, x2_4, x3_4 => if (6 : Int32) ≤ x3_4 then (some (x2_4, x3_4)) else (Option.bind (lp_X8_kindsBy_17 p1 fa0_town x3_4 FU (1 : Int32) (107 : Int32)) fun z3 => lt_ (if z3.1 = 0 then ((0 : Int32)) else (((1 : Int32) <<< (x3_4 &&& 31)))) fun z18 => lp_X8_kindsBy_4 p1 fa0_town fu (x2_4 ||| z18) (x3_4 + (1 : Int32)))
noncomputable def sp_X8_kindsBy (p1 : Int32) (fa0_town : Nat → Int32) : Option (Int32) := Option.bind (lp_X8_kindsBy_4 p1 fa0_town FU (0 : Int32) (0 : Int32)) fun z1 => some z1.1
set_option maxHeartbeats 4000000 in
set_option maxRecDepth 100000 in
theorem c_X8_kindsBy (l : Launch) (E : wE) (a0 a0_text a0_town a0_draft a0_tried a0_images a0_kept a0_refused a0_line a0_best : Nat) (p1 : Int32) (a0_letters : Int32) (a0_above : Int64) (a0_below : Int64) (a0_at : Int32) (a0_start : Int32) (a0_isWell : Int32) (a0_faultAt : Int32) (fa0_town : Nat → Int32) (z : Int32) (hsp : sp_X8_kindsBy p1 fa0_town = some z) : MR l yX8_kindsBy cX8_kindsBy 7 (some .int) 2 E [.ref a0, .int p1] [(a0, .inr (5, [.ref a0_text, .int a0_letters, .ref a0_town, .ref a0_draft, .ref a0_tried, .ref a0_images, .ref a0_kept, .ref a0_refused, .long a0_above, .long a0_below, .ref a0_line, .ref a0_best, .int a0_at, .int a0_start, .int a0_isWell, .int a0_faultAt])), (a0_town, aI E 682 fa0_town)] (some (.int z)) := by
  refine MR.of (by decide +kernel) (Nat.le_of_ble_eq_true rfl) ?_
  intro p e s m below meth c ls hX hK hP hl
  have hX : CX p s m [.ref a0, .int p1].toArray meth c cX8_kindsBy 7 (some .int) RX8 := hX
  have hx := hX.1; have hb := hX.2.1; have hts := hX.2.2.2.2.1; have hown := hX.2.2.2.2.2.1
  have hl : lv_has ls 7 [(0, .ref a0), (1, .int p1)] := hl
  have hsp : (Option.bind (lp_X8_kindsBy_4 p1 fa0_town FU (0 : Int32) (0 : Int32)) fun z1 => some z1.1) = some z := hsp
  refine lv_iconst (v := (0 : Int32)) hx hb dX8_kindsBy_0 (by decide) (W.pc 1 rfl ?_)
  refine lv_istore_n (lv' := [(2, .int (0 : Int32)), (0, .ref a0), (1, .int p1)]) hx hb dX8_kindsBy_1 rfl hl (by decide) rfl (fun ls hl => W.pc 2 rfl ?_)
  refine lv_iconst (v := (0 : Int32)) hx hb dX8_kindsBy_2 (by decide) (W.pc 3 rfl ?_)
  refine lv_istore_n (lv' := [(3, .int (0 : Int32)), (2, .int (0 : Int32)), (0, .ref a0), (1, .int p1)]) hx hb dX8_kindsBy_3 rfl hl (by decide) rfl (fun ls hl => W.pc 4 rfl ?_)
  have L_4 : ∀ (z1 : Int32 × Int32), (∀ (ls : Array Slot), lv_has ls 7 [(2, .int z1.1)] → W p l e (wR 2) s m [.ref a0, .int p1].toArray below meth c s.heap [] 0 0 (MQ below (QRd E (some (.int z))) [.ref a0, .int p1].toArray s 0 0 (fun _ => False)) (F0 m 140 ls [])) → ∀ (fu : Nat) (x2_4 : Int32) (x3_4 : Int32), ∀ (ls : Array Slot), lv_has ls 7 [(0, .ref a0), (1, .int p1), (2, .int x2_4), (3, .int x3_4)] → lp_X8_kindsBy_4 p1 fa0_town fu x2_4 x3_4 = some z1 → W p l e (wR 2) s m [.ref a0, .int p1].toArray below meth c s.heap [] 0 0 (MQ below (QRd E (some (.int z))) [.ref a0, .int p1].toArray s 0 0 (fun _ => False)) (F0 m 4 ls []) := by
    intro z1 hk_4 fu
    induction fu with
    | zero => intro x2_4 x3_4 ls hl hsp; exact absurd (show none = some _ from hsp) (by simp)
    | succ fu ih_4 =>
      intro x2_4 x3_4 ls hl hsp
      have hsp : (if (6 : Int32) ≤ x3_4 then (some (x2_4, x3_4)) else (Option.bind (lp_X8_kindsBy_17 p1 fa0_town x3_4 FU (1 : Int32) (107 : Int32)) fun z3 => lt_ (if z3.1 = 0 then ((0 : Int32)) else (((1 : Int32) <<< (x3_4 &&& 31)))) fun z18 => lp_X8_kindsBy_4 p1 fa0_town fu (x2_4 ||| z18) (x3_4 + (1 : Int32)))) = some z1 := hsp
      refine lv_iload_n hx hb dX8_kindsBy_4 rfl (lv_at hl 3 rfl) (W.pc 5 rfl ?_)
      refine lv_bipush (v := (6 : Int32)) hx hb dX8_kindsBy_5 (by decide) (W.pc 7 rfl ?_)
      refine lv_icmp_ge (tgt := 140) hx hb dX8_kindsBy_7 (by decide) (fun c2 => ?_) (fun c2 => W.pc 10 rfl ?_)
      · have hsp := ip hsp c2
        obtain rfl := Option.some.inj hsp
        exact hk_4 _ (lv_sub hl [2] rfl)
      · have hsp := iq hsp c2
        refine lv_iconst (v := (1 : Int32)) hx hb dX8_kindsBy_10 (by decide) (W.pc 11 rfl ?_)
        refine lv_istore (lv' := [(4, .int (1 : Int32)), (0, .ref a0), (1, .int p1), (2, .int x2_4), (3, .int x3_4)]) hx hb dX8_kindsBy_11 hl (by decide) rfl (fun ls hl => W.pc 13 rfl ?_)
        refine lv_bipush (v := (107 : Int32)) hx hb dX8_kindsBy_13 (by decide) (W.pc 15 rfl ?_)
        refine lv_istore (lv' := [(5, .int (107 : Int32)), (4, .int (1 : Int32)), (0, .ref a0), (1, .int p1), (2, .int x2_4), (3, .int x3_4)]) hx hb dX8_kindsBy_15 hl (by decide) rfl (fun ls hl => W.pc 17 rfl ?_)
        have L_17 : ∀ (z3 : Int32 × Int32), (∀ (ls : Array Slot), lv_has ls 7 [(0, .ref a0), (1, .int p1), (2, .int x2_4), (3, .int x3_4), (4, .int z3.1)] → W p l e (wR 2) s m [.ref a0, .int p1].toArray below meth c s.heap [] 0 0 (MQ below (QRd E (some (.int z))) [.ref a0, .int p1].toArray s 0 0 (fun _ => False)) (F0 m 119 ls [])) → ∀ (fu : Nat) (x4_17 : Int32) (x5_17 : Int32), ∀ (ls : Array Slot), lv_has ls 7 [(0, .ref a0), (1, .int p1), (2, .int x2_4), (3, .int x3_4), (4, .int x4_17), (5, .int x5_17)] → lp_X8_kindsBy_17 p1 fa0_town x3_4 fu x4_17 x5_17 = some z3 → W p l e (wR 2) s m [.ref a0, .int p1].toArray below meth c s.heap [] 0 0 (MQ below (QRd E (some (.int z))) [.ref a0, .int p1].toArray s 0 0 (fun _ => False)) (F0 m 17 ls []) := by
          intro z3 hk_17 fu
          induction fu with
          | zero => intro x4_17 x5_17 ls hl hsp; exact absurd (show none = some _ from hsp) (by simp)
          | succ fu ih_17 =>
            intro x4_17 x5_17 ls hl hsp
            have hsp : (if ((107 : Int32) + ((5 : Int32) * (fa0_town ((106 : Int32)).toNatClampNeg))) ≤ x5_17 then (some (x4_17, x5_17)) else (gi (x5_17 + (1 : Int32)) 682 (gi (x5_17 + (2 : Int32)) 682 (gi (x5_17 + (3 : Int32)) 682 (Option.bind (if x4_17 = 0 then (some (0 : Int32)) else (gi x5_17 682 (if (fa0_town (x5_17).toNatClampNeg) = p1 then (gi (x5_17 + (4 : Int32)) 682 (lt_ (if (fa0_town ((x5_17 + (4 : Int32))).toNatClampNeg) = (1 : Int32) then ((1 : Int32)) else ((0 : Int32))) fun z14 => if (sp_X8_stands x3_4 (fa0_town ((x5_17 + (1 : Int32))).toNatClampNeg) (fa0_town ((x5_17 + (2 : Int32))).toNatClampNeg) (fa0_town ((x5_17 + (3 : Int32))).toNatClampNeg)) = z14 then (some (1 : Int32)) else (some (0 : Int32)))) else (some (1 : Int32))))) fun z8 => lp_X8_kindsBy_17 p1 fa0_town x3_4 fu z8 (x5_17 + (5 : Int32))))))) = some z3 := hsp
            refine lv_iload hx hb dX8_kindsBy_17 (lv_at hl 5 rfl) (W.pc 19 rfl ?_)
            refine lv_bipush (v := (107 : Int32)) hx hb dX8_kindsBy_19 (by decide) (W.pc 21 rfl ?_)
            refine lv_iconst (v := (5 : Int32)) hx hb dX8_kindsBy_21 (by decide) (W.pc 22 rfl ?_)
            refine lv_aload_n hx hb dX8_kindsBy_22 rfl (lv_at hl 0 rfl) (W.pc 23 rfl ?_)
            refine va_get (D := E.1) (ci := 5) (v := .ref a0_town) (C := RX8) (T := TX8) (N := 16) hx hb hts inT_X8 hown hK hP 0 rfl rfl 2 (by decide) (hts _ w_4_70) (fun _ h9 => h9) rfl dX8_kindsBy_23 (W.pc 26 rfl ?_)
            refine lv_bipush (v := (106 : Int32)) hx hb dX8_kindsBy_26 (by decide) (W.pc 28 rfl ?_)
            refine va_iald hx hb hK hP 1 0 rfl rfl (vp_in_nI (n := 106) (N := 682) (by decide) (by decide)) dX8_kindsBy_28 (W.pc 29 rfl ?_)
            refine lv_imul hx hb dX8_kindsBy_29 (W.pc 30 rfl ?_)
            refine lv_iadd hx hb dX8_kindsBy_30 (W.pc 31 rfl ?_)
            refine lv_icmp_ge (tgt := 119) hx hb dX8_kindsBy_31 (by decide) (fun c4 => ?_) (fun c4 => W.pc 34 rfl ?_)
            · have hsp := ip hsp c4
              obtain rfl := Option.some.inj hsp
              exact hk_17 _ (lv_sub hl [0, 1, 2, 3, 4] rfl)
            · have hsp := iq hsp c4
              refine lv_iload_n hx hb dX8_kindsBy_34 rfl (lv_at hl 3 rfl) (W.pc 35 rfl ?_)
              refine lv_aload_n hx hb dX8_kindsBy_35 rfl (lv_at hl 0 rfl) (W.pc 36 rfl ?_)
              refine va_get (D := E.1) (ci := 5) (v := .ref a0_town) (C := RX8) (T := TX8) (N := 16) hx hb hts inT_X8 hown hK hP 0 rfl rfl 2 (by decide) (hts _ w_4_70) (fun _ h9 => h9) rfl dX8_kindsBy_36 (W.pc 39 rfl ?_)
              refine lv_iload hx hb dX8_kindsBy_39 (lv_at hl 5 rfl) (W.pc 41 rfl ?_)
              refine lv_iconst (v := (1 : Int32)) hx hb dX8_kindsBy_41 (by decide) (W.pc 42 rfl ?_)
              refine lv_iadd hx hb dX8_kindsBy_42 (W.pc 43 rfl ?_)
              obtain ⟨h5, hsp⟩ := gi_s hsp
              refine va_iald hx hb hK hP 1 0 rfl rfl h5 dX8_kindsBy_43 (W.pc 44 rfl ?_)
              refine lv_aload_n hx hb dX8_kindsBy_44 rfl (lv_at hl 0 rfl) (W.pc 45 rfl ?_)
              refine va_get (D := E.1) (ci := 5) (v := .ref a0_town) (C := RX8) (T := TX8) (N := 16) hx hb hts inT_X8 hown hK hP 0 rfl rfl 2 (by decide) (hts _ w_4_70) (fun _ h9 => h9) rfl dX8_kindsBy_45 (W.pc 48 rfl ?_)
              refine lv_iload hx hb dX8_kindsBy_48 (lv_at hl 5 rfl) (W.pc 50 rfl ?_)
              refine lv_iconst (v := (2 : Int32)) hx hb dX8_kindsBy_50 (by decide) (W.pc 51 rfl ?_)
              refine lv_iadd hx hb dX8_kindsBy_51 (W.pc 52 rfl ?_)
              obtain ⟨h6, hsp⟩ := gi_s hsp
              refine va_iald hx hb hK hP 1 0 rfl rfl h6 dX8_kindsBy_52 (W.pc 53 rfl ?_)
              refine lv_aload_n hx hb dX8_kindsBy_53 rfl (lv_at hl 0 rfl) (W.pc 54 rfl ?_)
              refine va_get (D := E.1) (ci := 5) (v := .ref a0_town) (C := RX8) (T := TX8) (N := 16) hx hb hts inT_X8 hown hK hP 0 rfl rfl 2 (by decide) (hts _ w_4_70) (fun _ h9 => h9) rfl dX8_kindsBy_54 (W.pc 57 rfl ?_)
              refine lv_iload hx hb dX8_kindsBy_57 (lv_at hl 5 rfl) (W.pc 59 rfl ?_)
              refine lv_iconst (v := (3 : Int32)) hx hb dX8_kindsBy_59 (by decide) (W.pc 60 rfl ?_)
              refine lv_iadd hx hb dX8_kindsBy_60 (W.pc 61 rfl ?_)
              obtain ⟨h7, hsp⟩ := gi_s hsp
              refine va_iald hx hb hK hP 1 0 rfl rfl h7 dX8_kindsBy_61 (W.pc 62 rfl ?_)
              refine kSR (st1 := [.int (sp_X8_stands x3_4 (fa0_town ((x5_17 + (1 : Int32))).toNatClampNeg) (fa0_town ((x5_17 + (2 : Int32))).toNatClampNeg) (fa0_town ((x5_17 + (3 : Int32))).toNatClampNeg))]) hX (c_X8_stands l E x3_4 (fa0_town ((x5_17 + (1 : Int32))).toNatClampNeg) (fa0_town ((x5_17 + (2 : Int32))).toNatClampNeg) (fa0_town ((x5_17 + (3 : Int32))).toNatClampNeg) _ rfl) B_X8_stands w_5_9 hK (hP.pick [] rfl) rfl hl.1 rfl (Nat.le_of_ble_eq_true rfl) ⟨Nat.le_of_ble_eq_true rfl, Nat.le_of_ble_eq_true rfl⟩ dX8_kindsBy_62 rfl (W.pc 65 rfl ?_)
              refine lv_istore (lv' := [(6, .int (sp_X8_stands x3_4 (fa0_town ((x5_17 + (1 : Int32))).toNatClampNeg) (fa0_town ((x5_17 + (2 : Int32))).toNatClampNeg) (fa0_town ((x5_17 + (3 : Int32))).toNatClampNeg))), (0, .ref a0), (1, .int p1), (2, .int x2_4), (3, .int x3_4), (4, .int x4_17), (5, .int x5_17)]) hx hb dX8_kindsBy_65 hl (by decide) rfl (fun ls hl => W.pc 67 rfl ?_)
              refine lv_iload hx hb dX8_kindsBy_67 (lv_at hl 5 rfl) (W.pc 69 rfl ?_)
              obtain ⟨z8, hr_z8, hsp⟩ := bd_s hsp
              have J9 : ∀ (ls : Array Slot), lv_has ls 7 [(0, .ref a0), (1, .int p1), (2, .int x2_4), (3, .int x3_4), (5, .int x5_17)] → W p l e (wR 2) s m [.ref a0, .int p1].toArray below meth c s.heap [] 0 0 (MQ below (QRd E (some (.int z))) [.ref a0, .int p1].toArray s 0 0 (fun _ => False)) (F0 m 111 ls [.int z8]) := by
                intro ls hl
                refine lv_istore (lv' := [(4, .int z8), (0, .ref a0), (1, .int p1), (2, .int x2_4), (3, .int x3_4), (5, .int x5_17)]) hx hb dX8_kindsBy_111 hl (by decide) rfl (fun ls hl => W.pc 113 rfl ?_)
                refine lv_iinc (v := (x5_17 + (5 : Int32))) (lv' := [(5, .int (x5_17 + (5 : Int32))), (4, .int z8), (0, .ref a0), (1, .int p1), (2, .int x2_4), (3, .int x3_4)]) hx hb dX8_kindsBy_113 hl (k := 5) rfl rfl (by decide) rfl (fun ls hl => W.pc 116 rfl ?_)
                refine lv_goto (tgt := 17) hx hb dX8_kindsBy_116 (by decide) ?_
                exact ih_17 z8 (x5_17 + (5 : Int32)) _ (lv_sub hl [2, 3, 4, 5, 1, 0] rfl) hsp
              replace hsp := hr_z8
              refine lv_if_eq (tgt := 110) hx hb dX8_kindsBy_69 (by decide) (fun c10 => ?_) (fun c10 => W.pc 72 rfl ?_)
              · have hsp := ip hsp c10
                refine lv_iconst (v := (0 : Int32)) hx hb dX8_kindsBy_110 (by decide) (W.pc 111 rfl ?_)
                obtain rfl := Option.some.inj hsp
                exact J9 _ (lv_sub hl [1, 2, 3, 4, 6] rfl)
              · have hsp := iq hsp c10
                refine lv_aload_n hx hb dX8_kindsBy_72 rfl (lv_at hl 1 rfl) (W.pc 73 rfl ?_)
                refine va_get (D := E.1) (ci := 5) (v := .ref a0_town) (C := RX8) (T := TX8) (N := 16) hx hb hts inT_X8 hown hK hP 0 rfl rfl 2 (by decide) (hts _ w_4_70) (fun _ h9 => h9) rfl dX8_kindsBy_73 (W.pc 76 rfl ?_)
                refine lv_iload hx hb dX8_kindsBy_76 (lv_at hl 6 rfl) (W.pc 78 rfl ?_)
                obtain ⟨h11, hsp⟩ := gi_s hsp
                refine va_iald hx hb hK hP 1 0 rfl rfl h11 dX8_kindsBy_78 (W.pc 79 rfl ?_)
                refine lv_iload_n hx hb dX8_kindsBy_79 rfl (lv_at hl 2 rfl) (W.pc 80 rfl ?_)
                refine lv_icmp_ne (tgt := 106) hx hb dX8_kindsBy_80 (by decide) (fun c12 => ?_) (fun c12 => W.pc 83 rfl ?_)
                · have hsp := iq hsp c12
                  refine lv_iconst (v := (1 : Int32)) hx hb dX8_kindsBy_106 (by decide) (W.pc 107 rfl ?_)
                  refine lv_goto (tgt := 111) hx hb dX8_kindsBy_107 (by decide) ?_
                  obtain rfl := Option.some.inj hsp
                  exact J9 _ (lv_sub hl [1, 2, 3, 4, 6] rfl)
                · have hsp := ip hsp c12
                  refine lv_iload hx hb dX8_kindsBy_83 (lv_at hl 0 rfl) (W.pc 85 rfl ?_)
                  refine lv_aload_n hx hb dX8_kindsBy_85 rfl (lv_at hl 1 rfl) (W.pc 86 rfl ?_)
                  refine va_get (D := E.1) (ci := 5) (v := .ref a0_town) (C := RX8) (T := TX8) (N := 16) hx hb hts inT_X8 hown hK hP 0 rfl rfl 2 (by decide) (hts _ w_4_70) (fun _ h9 => h9) rfl dX8_kindsBy_86 (W.pc 89 rfl ?_)
                  refine lv_iload hx hb dX8_kindsBy_89 (lv_at hl 6 rfl) (W.pc 91 rfl ?_)
                  refine lv_iconst (v := (4 : Int32)) hx hb dX8_kindsBy_91 (by decide) (W.pc 92 rfl ?_)
                  refine lv_iadd hx hb dX8_kindsBy_92 (W.pc 93 rfl ?_)
                  obtain ⟨h13, hsp⟩ := gi_s hsp
                  refine va_iald hx hb hK hP 1 0 rfl rfl h13 dX8_kindsBy_93 (W.pc 94 rfl ?_)
                  refine lv_iconst (v := (1 : Int32)) hx hb dX8_kindsBy_94 (by decide) (W.pc 95 rfl ?_)
                  obtain ⟨z14, hr_z14, hsp⟩ := ltb_s hsp
                  have J15 : ∀ (ls : Array Slot), lv_has ls 7 [(0, .ref a0), (1, .int p1), (2, .int x2_4), (3, .int x3_4), (5, .int x5_17)] → W p l e (wR 2) s m [.ref a0, .int p1].toArray below meth c s.heap [] 0 0 (MQ below (QRd E (some (.int z))) [.ref a0, .int p1].toArray s 0 0 (fun _ => False)) (F0 m 103 ls [.int z14, .int (sp_X8_stands x3_4 (fa0_town ((x5_17 + (1 : Int32))).toNatClampNeg) (fa0_town ((x5_17 + (2 : Int32))).toNatClampNeg) (fa0_town ((x5_17 + (3 : Int32))).toNatClampNeg))]) := by
                    intro ls hl
                    refine lv_icmp_ne (tgt := 110) hx hb dX8_kindsBy_103 (by decide) (fun c17 => ?_) (fun c17 => W.pc 106 rfl ?_)
                    · have hsp := iq hsp c17
                      refine lv_iconst (v := (0 : Int32)) hx hb dX8_kindsBy_110 (by decide) (W.pc 111 rfl ?_)
                      obtain rfl := Option.some.inj hsp
                      exact J9 _ (lv_sub hl [0, 1, 2, 3, 4] rfl)
                    · have hsp := ip hsp c17
                      refine lv_iconst (v := (1 : Int32)) hx hb dX8_kindsBy_106 (by decide) (W.pc 107 rfl ?_)
                      refine lv_goto (tgt := 111) hx hb dX8_kindsBy_107 (by decide) ?_
                      obtain rfl := Option.some.inj hsp
                      exact J9 _ (lv_sub hl [0, 1, 2, 3, 4] rfl)
                  replace hsp := hr_z14
                  refine lv_icmp_ne (tgt := 102) hx hb dX8_kindsBy_95 (by decide) (fun c16 => ?_) (fun c16 => W.pc 98 rfl ?_)
                  · have hsp := iq hsp c16
                    refine lv_iconst (v := (0 : Int32)) hx hb dX8_kindsBy_102 (by decide) (W.pc 103 rfl ?_)
                    subst hsp
                    exact J15 _ (lv_sub hl [1, 2, 3, 4, 6] rfl)
                  · have hsp := ip hsp c16
                    refine lv_iconst (v := (1 : Int32)) hx hb dX8_kindsBy_98 (by decide) (W.pc 99 rfl ?_)
                    refine lv_goto (tgt := 103) hx hb dX8_kindsBy_99 (by decide) ?_
                    subst hsp
                    exact J15 _ (lv_sub hl [1, 2, 3, 4, 6] rfl)
        obtain ⟨z3, hr_z3, hsp⟩ := bd_s hsp
        refine L_17 z3 (fun ls hl => ?_) FU (1 : Int32) (107 : Int32) _ (lv_sub hl [2, 3, 4, 5, 1, 0] rfl) hr_z3
        refine lv_iload_n hx hb dX8_kindsBy_119 rfl (lv_at hl 2 rfl) (W.pc 120 rfl ?_)
        refine lv_iload hx hb dX8_kindsBy_120 (lv_at hl 4 rfl) (W.pc 122 rfl ?_)
        obtain ⟨z18, hr_z18, hsp⟩ := ltb_s hsp
        have J19 : ∀ (ls : Array Slot), lv_has ls 7 [(0, .ref a0), (1, .int p1), (3, .int x3_4)] → W p l e (wR 2) s m [.ref a0, .int p1].toArray below meth c s.heap [] 0 0 (MQ below (QRd E (some (.int z))) [.ref a0, .int p1].toArray s 0 0 (fun _ => False)) (F0 m 132 ls [.int z18, .int x2_4]) := by
          intro ls hl
          refine lv_ior hx hb dX8_kindsBy_132 (W.pc 133 rfl ?_)
          refine lv_istore_n (lv' := [(2, .int (x2_4 ||| z18)), (0, .ref a0), (1, .int p1), (3, .int x3_4)]) hx hb dX8_kindsBy_133 rfl hl (by decide) rfl (fun ls hl => W.pc 134 rfl ?_)
          refine lv_iinc (v := (x3_4 + (1 : Int32))) (lv' := [(3, .int (x3_4 + (1 : Int32))), (2, .int (x2_4 ||| z18)), (0, .ref a0), (1, .int p1)]) hx hb dX8_kindsBy_134 hl (k := 3) rfl rfl (by decide) rfl (fun ls hl => W.pc 137 rfl ?_)
          refine lv_goto (tgt := 4) hx hb dX8_kindsBy_137 (by decide) ?_
          exact ih_4 (x2_4 ||| z18) (x3_4 + (1 : Int32)) _ (lv_sub hl [2, 3, 1, 0] rfl) hsp
        replace hsp := hr_z18
        refine lv_if_eq (tgt := 131) hx hb dX8_kindsBy_122 (by decide) (fun c20 => ?_) (fun c20 => W.pc 125 rfl ?_)
        · have hsp := ip hsp c20
          refine lv_iconst (v := (0 : Int32)) hx hb dX8_kindsBy_131 (by decide) (W.pc 132 rfl ?_)
          subst hsp
          exact J19 _ (lv_sub hl [0, 1, 3] rfl)
        · have hsp := iq hsp c20
          refine lv_iconst (v := (1 : Int32)) hx hb dX8_kindsBy_125 (by decide) (W.pc 126 rfl ?_)
          refine lv_iload_n hx hb dX8_kindsBy_126 rfl (lv_at hl 3 rfl) (W.pc 127 rfl ?_)
          refine lv_ishl hx hb dX8_kindsBy_127 (W.pc 128 rfl ?_)
          refine lv_goto (tgt := 132) hx hb dX8_kindsBy_128 (by decide) ?_
          subst hsp
          exact J19 _ (lv_sub hl [0, 1, 3] rfl)
  obtain ⟨z1, hr_z1, hsp⟩ := bd_s hsp
  refine L_4 z1 (fun ls hl => ?_) FU (0 : Int32) (0 : Int32) _ (lv_sub hl [2, 3, 1, 0] rfl) hr_z1
  refine lv_iload_n hx hb dX8_kindsBy_140 rfl (lv_at hl 0 rfl) (W.pc 141 rfl ?_)
  obtain rfl := Option.some.inj hsp
  exact rRi hX rfl dX8_kindsBy_141
noncomputable def sp_X8_kinds (p1 : Int32) (fa0_refused : Nat → Int32) (fa0_town : Nat → Int32) : Option (Int32 × (Nat → Int32)) := if (sp_X8_in p1 (0 : Int32) (9 : Int32)) = 0 then (lt_ (sp_X8_bad fa0_refused) fun z2 => some (z2.1, z2.2)) else (Option.bind (sp_X8_kindsBy p1 fa0_town) fun z3 => some (z3, fa0_refused))
set_option maxHeartbeats 4000000 in
set_option maxRecDepth 100000 in
theorem c_X8_kinds (l : Launch) (E : wE) (a0 a0_text a0_town a0_draft a0_tried a0_images a0_kept a0_refused a0_line a0_best : Nat) (p1 : Int32) (a0_letters : Int32) (a0_above : Int64) (a0_below : Int64) (a0_at : Int32) (a0_start : Int32) (a0_isWell : Int32) (a0_faultAt : Int32) (fa0_refused : Nat → Int32) (fa0_town : Nat → Int32) (z_0 : Int32) (z_1 : (Nat → Int32)) (hsp : sp_X8_kinds p1 fa0_refused fa0_town = some (z_0, z_1)) : MW l yX8_kinds cX8_kinds 2 (some .int) 3 E [.ref a0, .int p1] [(a0, .inr (5, [.ref a0_text, .int a0_letters, .ref a0_town, .ref a0_draft, .ref a0_tried, .ref a0_images, .ref a0_kept, .ref a0_refused, .long a0_above, .long a0_below, .ref a0_line, .ref a0_best, .int a0_at, .int a0_start, .int a0_isWell, .int a0_faultAt])), (a0_refused, aI E 3 fa0_refused), (a0_town, aI E 682 fa0_town)] (some (.int z_0)) [(a0, .inr (5, [.ref a0_text, .int a0_letters, .ref a0_town, .ref a0_draft, .ref a0_tried, .ref a0_images, .ref a0_kept, .ref a0_refused, .long a0_above, .long a0_below, .ref a0_line, .ref a0_best, .int a0_at, .int a0_start, .int a0_isWell, .int a0_faultAt])), (a0_refused, aI E 3 z_1), (a0_town, aI E 682 fa0_town)] := by
  refine MW.of (by decide +kernel) (Nat.le_of_ble_eq_true rfl) ?_
  intro p e s m below meth c ls A hX hK hP hD hS hA hl
  have hX : CX p s m [.ref a0, .int p1].toArray meth c cX8_kinds 2 (some .int) RX8 := hX
  have hx := hX.1; have hb := hX.2.1; have hts := hX.2.2.2.2.1; have hown := hX.2.2.2.2.2.1
  have hl : lv_has ls 2 [(0, .ref a0), (1, .int p1)] := hl
  have hP : wP E [(a0, .inr (5, [.ref a0_text, .int a0_letters, .ref a0_town, .ref a0_draft, .ref a0_tried, .ref a0_images, .ref a0_kept, .ref a0_refused, .long a0_above, .long a0_below, .ref a0_line, .ref a0_best, .int a0_at, .int a0_start, .int a0_isWell, .int a0_faultAt])), (a0_refused, aI E 3 fa0_refused), (a0_town, aI E 682 fa0_town)] s.heap := hP
  have hsp : (if (sp_X8_in p1 (0 : Int32) (9 : Int32)) = 0 then (lt_ (sp_X8_bad fa0_refused) fun z2 => some (z2.1, z2.2)) else (Option.bind (sp_X8_kindsBy p1 fa0_town) fun z3 => some (z3, fa0_refused))) = some (z_0, z_1) := hsp
  refine lv_iload_n hx hb dX8_kinds_0 rfl (lv_at hl 1 rfl) (W.pc 1 rfl ?_)
  refine lv_iconst (v := (0 : Int32)) hx hb dX8_kinds_1 (by decide) (W.pc 2 rfl ?_)
  refine lv_bipush (v := (9 : Int32)) hx hb dX8_kinds_2 (by decide) (W.pc 4 rfl ?_)
  refine kSR (st1 := [.int (sp_X8_in p1 (0 : Int32) (9 : Int32))]) hX (c_X8_in l E p1 (0 : Int32) (9 : Int32) _ rfl) B_X8_in w_4_125 hK (hP.pick [] rfl) rfl hl.1 rfl (Nat.le_of_ble_eq_true rfl) ⟨Nat.le_of_ble_eq_true rfl, Nat.le_of_ble_eq_true rfl⟩ dX8_kinds_4 rfl (W.pc 7 rfl ?_)
  refine lv_if_eq (tgt := 18) hx hb dX8_kinds_7 (by decide) (fun c1 => ?_) (fun c1 => W.pc 10 rfl ?_)
  · have hsp := ip hsp c1
    refine lv_aload_n hx hb dX8_kinds_18 rfl (lv_at hl 0 rfl) (W.pc 19 rfl ?_)
    obtain ⟨z2, hr_z2, hsp⟩ := ltb_s hsp
    refine kVW (st1 := [.int z2.1]) (ws' := [(a0, .inr (5, [.ref a0_text, .int a0_letters, .ref a0_town, .ref a0_draft, .ref a0_tried, .ref a0_images, .ref a0_kept, .ref a0_refused, .long a0_above, .long a0_below, .ref a0_line, .ref a0_best, .int a0_at, .int a0_start, .int a0_isWell, .int a0_faultAt])), (a0_refused, aI E 3 z2.2), (a0_town, aI E 682 fa0_town)]) [0, 1] hX (c_X8_bad l E a0 a0_text a0_town a0_draft a0_tried a0_images a0_kept a0_refused a0_line a0_best a0_letters a0_above a0_below a0_at a0_start a0_isWell a0_faultAt fa0_refused z2.1 z2.2 hr_z2) B_X8_bad w_4_128 hK hP hD hS hA (by decide) rfl rfl rfl (q0 := 0) (ci := 5) rfl rfl rfl rfl hl.1 rfl (Nat.le_of_ble_eq_true rfl) ⟨Nat.le_of_ble_eq_true rfl, Nat.le_of_ble_eq_true rfl⟩ dX8_kinds_19 rfl (fun H locs hP hD hS => W.pc 22 rfl ?_)
    cases hsp
    exact rWi hX hP hS rfl rfl dX8_kinds_22
  · have hsp := iq hsp c1
    refine lv_aload_n hx hb dX8_kinds_10 rfl (lv_at hl 0 rfl) (W.pc 11 rfl ?_)
    refine lv_iload_n hx hb dX8_kinds_11 rfl (lv_at hl 1 rfl) (W.pc 12 rfl ?_)
    obtain ⟨z3, hr_z3, hsp⟩ := bd_s hsp
    refine kVR (st1 := [.int z3]) hX (c_X8_kindsBy l E a0 a0_text a0_town a0_draft a0_tried a0_images a0_kept a0_refused a0_line a0_best p1 a0_letters a0_above a0_below a0_at a0_start a0_isWell a0_faultAt fa0_town z3 hr_z3) B_X8_kindsBy w_5_158 hK (hP.pick [0, 2] rfl) (q0 := 0) (ci := 5) rfl rfl rfl rfl hl.1 rfl (Nat.le_of_ble_eq_true rfl) ⟨Nat.le_of_ble_eq_true rfl, Nat.le_of_ble_eq_true rfl⟩ dX8_kinds_12 rfl (W.pc 15 rfl ?_)
    refine lv_goto (tgt := 22) hx hb dX8_kinds_15 (by decide) ?_
    cases hsp
    exact rWi hX hP hS rfl rfl dX8_kinds_22
noncomputable def lp_X8_tries_53 (z2 : Int32) (x5_30 : Int32) (x6_40 : Int32) : Nat → Int32 → Int32 → Option (Int32 × Int32)
 | 0, _, _ => none
 | fu + 1, x7_53, x8_53 => if (6 : Int32) ≤ x8_53 then (some (x7_53, x8_53)) else (lt_ (if (sp_X8_has z2 x8_53) = 0 then ((0 : Int32)) else (if (sp_X8_stands x8_53 x5_30 (0 : Int32) x6_40) = 0 then ((0 : Int32)) else ((1 : Int32)))) fun z9 => lp_X8_tries_53 z2 x5_30 x6_40 fu (x7_53 + z9) (x8_53 + (1 : Int32)))
noncomputable def lp_X8_tries_40 (z2 : Int32) (x5_30 : Int32) : Nat → Int32 → Int32 → Int32 → Option (Int32 × Int32 × Int32)
 | 0, _, _, _ => none
 | fu + 1, x3_40, x4_40, x6_40 => if (10 : Int32) ≤ x6_40 then (some (x3_40, x4_40, x6_40)) else (Option.bind (lp_X8_tries_53 z2 x5_30 x6_40 FU (0 : Int32) (0 : Int32)) fun z7 => Option.bind (sp_X8_ones z2) fun z13 => Option.bind (if ((2 : Int32) * z7.1) ≤ z13 then (Option.bind (sp_X8_ones z2) fun z17 => some (z17 - z7.1)) else (some z7.1)) fun z14 => lt_ (if x4_40 ≤ z14 then (x3_40) else ((((100 : Int32) * x5_30) + x6_40))) fun z18 => lt_ (if x4_40 ≤ z14 then (x4_40) else (z14)) fun z21 => lp_X8_tries_40 z2 x5_30 fu z18 z21 (x6_40 + (1 : Int32)))
noncomputable def lp_X8_tries_30 (z2 : Int32) : Nat → Int32 → Int32 → Int32 → Option (Int32 × Int32 × Int32)
 | 0, _, _, _ => none
 | fu + 1, x3_30, x4_30, x5_30 => if (10 : Int32) ≤ x5_30 then (some (x3_30, x4_30, x5_30)) else (Option.bind (lp_X8_tries_40 z2 x5_30 FU x3_30 x4_30 (0 : Int32)) fun z5 => lp_X8_tries_30 z2 fu z5.1 z5.2.1 (x5_30 + (1 : Int32)))
noncomputable def sp_X8_tries (p1 : Int32) (fa0_town : Nat → Int32) (fa0_refused : Nat → Int32) : Option (Int32 × (Nat → Int32)) := if (sp_X8_in p1 (0 : Int32) (9 : Int32)) = 0 then (lt_ (sp_X8_bad fa0_refused) fun z25 => some (z25.1, z25.2)) else (Option.bind (sp_X8_kindsBy p1 fa0_town) fun z2 => Option.bind (lp_X8_tries_30 z2 FU (-1 : Int32) (7 : Int32) (0 : Int32)) fun z3 => if z2 = 0 then (some ((-1 : Int32), fa0_refused)) else (some (z3.1, fa0_refused)))
set_option maxHeartbeats 4000000 in
set_option maxRecDepth 100000 in
theorem c_X8_tries (l : Launch) (E : wE) (a0 a0_text a0_town a0_draft a0_tried a0_images a0_kept a0_refused a0_line a0_best : Nat) (p1 : Int32) (a0_letters : Int32) (a0_above : Int64) (a0_below : Int64) (a0_at : Int32) (a0_start : Int32) (a0_isWell : Int32) (a0_faultAt : Int32) (fa0_town : Nat → Int32) (fa0_refused : Nat → Int32) (z_0 : Int32) (z_1 : (Nat → Int32)) (hsp : sp_X8_tries p1 fa0_town fa0_refused = some (z_0, z_1)) : MW l yX8_tries cX8_tries 9 (some .int) 3 E [.ref a0, .int p1] [(a0, .inr (5, [.ref a0_text, .int a0_letters, .ref a0_town, .ref a0_draft, .ref a0_tried, .ref a0_images, .ref a0_kept, .ref a0_refused, .long a0_above, .long a0_below, .ref a0_line, .ref a0_best, .int a0_at, .int a0_start, .int a0_isWell, .int a0_faultAt])), (a0_town, aI E 682 fa0_town), (a0_refused, aI E 3 fa0_refused)] (some (.int z_0)) [(a0, .inr (5, [.ref a0_text, .int a0_letters, .ref a0_town, .ref a0_draft, .ref a0_tried, .ref a0_images, .ref a0_kept, .ref a0_refused, .long a0_above, .long a0_below, .ref a0_line, .ref a0_best, .int a0_at, .int a0_start, .int a0_isWell, .int a0_faultAt])), (a0_town, aI E 682 fa0_town), (a0_refused, aI E 3 z_1)] := by
  refine MW.of (by decide +kernel) (Nat.le_of_ble_eq_true rfl) ?_
  intro p e s m below meth c ls A hX hK hP hD hS hA hl
  have hX : CX p s m [.ref a0, .int p1].toArray meth c cX8_tries 9 (some .int) RX8 := hX
  have hx := hX.1; have hb := hX.2.1; have hts := hX.2.2.2.2.1; have hown := hX.2.2.2.2.2.1
  have hl : lv_has ls 9 [(0, .ref a0), (1, .int p1)] := hl
  have hP : wP E [(a0, .inr (5, [.ref a0_text, .int a0_letters, .ref a0_town, .ref a0_draft, .ref a0_tried, .ref a0_images, .ref a0_kept, .ref a0_refused, .long a0_above, .long a0_below, .ref a0_line, .ref a0_best, .int a0_at, .int a0_start, .int a0_isWell, .int a0_faultAt])), (a0_town, aI E 682 fa0_town), (a0_refused, aI E 3 fa0_refused)] s.heap := hP
  have hsp : (if (sp_X8_in p1 (0 : Int32) (9 : Int32)) = 0 then (lt_ (sp_X8_bad fa0_refused) fun z25 => some (z25.1, z25.2)) else (Option.bind (sp_X8_kindsBy p1 fa0_town) fun z2 => Option.bind (lp_X8_tries_30 z2 FU (-1 : Int32) (7 : Int32) (0 : Int32)) fun z3 => if z2 = 0 then (some ((-1 : Int32), fa0_refused)) else (some (z3.1, fa0_refused)))) = some (z_0, z_1) := hsp
  refine lv_iload_n hx hb dX8_tries_0 rfl (lv_at hl 1 rfl) (W.pc 1 rfl ?_)
  refine lv_iconst (v := (0 : Int32)) hx hb dX8_tries_1 (by decide) (W.pc 2 rfl ?_)
  refine lv_bipush (v := (9 : Int32)) hx hb dX8_tries_2 (by decide) (W.pc 4 rfl ?_)
  refine kSR (st1 := [.int (sp_X8_in p1 (0 : Int32) (9 : Int32))]) hX (c_X8_in l E p1 (0 : Int32) (9 : Int32) _ rfl) B_X8_in w_4_125 hK (hP.pick [] rfl) rfl hl.1 rfl (Nat.le_of_ble_eq_true rfl) ⟨Nat.le_of_ble_eq_true rfl, Nat.le_of_ble_eq_true rfl⟩ dX8_tries_4 rfl (W.pc 7 rfl ?_)
  refine lv_if_ne (tgt := 15) hx hb dX8_tries_7 (by decide) (fun c1 => ?_) (fun c1 => W.pc 10 rfl ?_)
  · have hsp := iq hsp c1
    refine lv_aload_n hx hb dX8_tries_15 rfl (lv_at hl 0 rfl) (W.pc 16 rfl ?_)
    refine lv_iload_n hx hb dX8_tries_16 rfl (lv_at hl 1 rfl) (W.pc 17 rfl ?_)
    obtain ⟨z2, hr_z2, hsp⟩ := bd_s hsp
    refine kVR (st1 := [.int z2]) hX (c_X8_kindsBy l E a0 a0_text a0_town a0_draft a0_tried a0_images a0_kept a0_refused a0_line a0_best p1 a0_letters a0_above a0_below a0_at a0_start a0_isWell a0_faultAt fa0_town z2 hr_z2) B_X8_kindsBy w_5_158 hK (hP.pick [0, 1] rfl) (q0 := 0) (ci := 5) rfl rfl rfl rfl hl.1 rfl (Nat.le_of_ble_eq_true rfl) ⟨Nat.le_of_ble_eq_true rfl, Nat.le_of_ble_eq_true rfl⟩ dX8_tries_17 rfl (W.pc 20 rfl ?_)
    refine lv_istore_n (lv' := [(2, .int z2), (0, .ref a0), (1, .int p1)]) hx hb dX8_tries_20 rfl hl (by decide) rfl (fun ls hl => W.pc 21 rfl ?_)
    refine lv_iconst (v := (-1 : Int32)) hx hb dX8_tries_21 (by decide) (W.pc 22 rfl ?_)
    refine lv_istore_n (lv' := [(3, .int (-1 : Int32)), (2, .int z2), (0, .ref a0), (1, .int p1)]) hx hb dX8_tries_22 rfl hl (by decide) rfl (fun ls hl => W.pc 23 rfl ?_)
    refine lv_bipush (v := (7 : Int32)) hx hb dX8_tries_23 (by decide) (W.pc 25 rfl ?_)
    refine lv_istore (lv' := [(4, .int (7 : Int32)), (3, .int (-1 : Int32)), (2, .int z2), (0, .ref a0), (1, .int p1)]) hx hb dX8_tries_25 hl (by decide) rfl (fun ls hl => W.pc 27 rfl ?_)
    refine lv_iconst (v := (0 : Int32)) hx hb dX8_tries_27 (by decide) (W.pc 28 rfl ?_)
    refine lv_istore (lv' := [(5, .int (0 : Int32)), (4, .int (7 : Int32)), (3, .int (-1 : Int32)), (2, .int z2), (0, .ref a0), (1, .int p1)]) hx hb dX8_tries_28 hl (by decide) rfl (fun ls hl => W.pc 30 rfl ?_)
    have L_30 : ∀ (z3 : Int32 × Int32 × Int32), (∀ (H : Heap) (locs : List Loc) (ls : Array Slot), wP E [(a0, .inr (5, [.ref a0_text, .int a0_letters, .ref a0_town, .ref a0_draft, .ref a0_tried, .ref a0_images, .ref a0_kept, .ref a0_refused, .long a0_above, .long a0_below, .ref a0_line, .ref a0_best, .int a0_at, .int a0_start, .int a0_isWell, .int a0_faultAt])), (a0_town, aI E 682 fa0_town), (a0_refused, aI E 3 fa0_refused)] H → va_D A [(a0, .inr (5, [.ref a0_text, .int a0_letters, .ref a0_town, .ref a0_draft, .ref a0_tried, .ref a0_images, .ref a0_kept, .ref a0_refused, .long a0_above, .long a0_below, .ref a0_line, .ref a0_best, .int a0_at, .int a0_start, .int a0_isWell, .int a0_faultAt])), (a0_town, aI E 682 fa0_town), (a0_refused, aI E 3 fa0_refused)] → va_S A s.heap H locs → lv_has ls 9 [(2, .int z2), (3, .int z3.1)] → W p l e (wR 3) s m [.ref a0, .int p1].toArray below meth c H locs 0 0 (MQ below (QWd E A (some (.int z_0)) [(a0, .inr (5, [.ref a0_text, .int a0_letters, .ref a0_town, .ref a0_draft, .ref a0_tried, .ref a0_images, .ref a0_kept, .ref a0_refused, .long a0_above, .long a0_below, .ref a0_line, .ref a0_best, .int a0_at, .int a0_start, .int a0_isWell, .int a0_faultAt])), (a0_town, aI E 682 fa0_town), (a0_refused, aI E 3 z_1)]) [.ref a0, .int p1].toArray s 0 0 A) (F0 m 171 ls [])) → ∀ (fu : Nat) (x3_30 : Int32) (x4_30 : Int32) (x5_30 : Int32), ∀ (H : Heap) (locs : List Loc) (ls : Array Slot), wP E [(a0, .inr (5, [.ref a0_text, .int a0_letters, .ref a0_town, .ref a0_draft, .ref a0_tried, .ref a0_images, .ref a0_kept, .ref a0_refused, .long a0_above, .long a0_below, .ref a0_line, .ref a0_best, .int a0_at, .int a0_start, .int a0_isWell, .int a0_faultAt])), (a0_town, aI E 682 fa0_town), (a0_refused, aI E 3 fa0_refused)] H → va_D A [(a0, .inr (5, [.ref a0_text, .int a0_letters, .ref a0_town, .ref a0_draft, .ref a0_tried, .ref a0_images, .ref a0_kept, .ref a0_refused, .long a0_above, .long a0_below, .ref a0_line, .ref a0_best, .int a0_at, .int a0_start, .int a0_isWell, .int a0_faultAt])), (a0_town, aI E 682 fa0_town), (a0_refused, aI E 3 fa0_refused)] → va_S A s.heap H locs → lv_has ls 9 [(2, .int z2), (3, .int x3_30), (4, .int x4_30), (5, .int x5_30)] → lp_X8_tries_30 z2 fu x3_30 x4_30 x5_30 = some z3 → W p l e (wR 3) s m [.ref a0, .int p1].toArray below meth c H locs 0 0 (MQ below (QWd E A (some (.int z_0)) [(a0, .inr (5, [.ref a0_text, .int a0_letters, .ref a0_town, .ref a0_draft, .ref a0_tried, .ref a0_images, .ref a0_kept, .ref a0_refused, .long a0_above, .long a0_below, .ref a0_line, .ref a0_best, .int a0_at, .int a0_start, .int a0_isWell, .int a0_faultAt])), (a0_town, aI E 682 fa0_town), (a0_refused, aI E 3 z_1)]) [.ref a0, .int p1].toArray s 0 0 A) (F0 m 30 ls []) := by
      intro z3 hk_30 fu
      induction fu with
      | zero => intro x3_30 x4_30 x5_30 H locs ls hP hD hS hl hsp; exact absurd (show none = some _ from hsp) (by simp)
      | succ fu ih_30 =>
        intro x3_30 x4_30 x5_30 H locs ls hP hD hS hl hsp
        have hsp : (if (10 : Int32) ≤ x5_30 then (some (x3_30, x4_30, x5_30)) else (Option.bind (lp_X8_tries_40 z2 x5_30 FU x3_30 x4_30 (0 : Int32)) fun z5 => lp_X8_tries_30 z2 fu z5.1 z5.2.1 (x5_30 + (1 : Int32)))) = some z3 := hsp
        refine lv_iload hx hb dX8_tries_30 (lv_at hl 3 rfl) (W.pc 32 rfl ?_)
        refine lv_bipush (v := (10 : Int32)) hx hb dX8_tries_32 (by decide) (W.pc 34 rfl ?_)
        refine lv_icmp_ge (tgt := 171) hx hb dX8_tries_34 (by decide) (fun c4 => ?_) (fun c4 => W.pc 37 rfl ?_)
        · have hsp := ip hsp c4
          obtain rfl := Option.some.inj hsp
          exact hk_30 _ _ _ hP hD hS (lv_sub hl [0, 1] rfl)
        · have hsp := iq hsp c4
          refine lv_iconst (v := (0 : Int32)) hx hb dX8_tries_37 (by decide) (W.pc 38 rfl ?_)
          refine lv_istore (lv' := [(6, .int (0 : Int32)), (2, .int z2), (3, .int x3_30), (4, .int x4_30), (5, .int x5_30)]) hx hb dX8_tries_38 hl (by decide) rfl (fun ls hl => W.pc 40 rfl ?_)
          have L_40 : ∀ (z5 : Int32 × Int32 × Int32), (∀ (H : Heap) (locs : List Loc) (ls : Array Slot), wP E [(a0, .inr (5, [.ref a0_text, .int a0_letters, .ref a0_town, .ref a0_draft, .ref a0_tried, .ref a0_images, .ref a0_kept, .ref a0_refused, .long a0_above, .long a0_below, .ref a0_line, .ref a0_best, .int a0_at, .int a0_start, .int a0_isWell, .int a0_faultAt])), (a0_town, aI E 682 fa0_town), (a0_refused, aI E 3 fa0_refused)] H → va_D A [(a0, .inr (5, [.ref a0_text, .int a0_letters, .ref a0_town, .ref a0_draft, .ref a0_tried, .ref a0_images, .ref a0_kept, .ref a0_refused, .long a0_above, .long a0_below, .ref a0_line, .ref a0_best, .int a0_at, .int a0_start, .int a0_isWell, .int a0_faultAt])), (a0_town, aI E 682 fa0_town), (a0_refused, aI E 3 fa0_refused)] → va_S A s.heap H locs → lv_has ls 9 [(2, .int z2), (3, .int z5.1), (4, .int z5.2.1), (5, .int x5_30)] → W p l e (wR 3) s m [.ref a0, .int p1].toArray below meth c H locs 0 0 (MQ below (QWd E A (some (.int z_0)) [(a0, .inr (5, [.ref a0_text, .int a0_letters, .ref a0_town, .ref a0_draft, .ref a0_tried, .ref a0_images, .ref a0_kept, .ref a0_refused, .long a0_above, .long a0_below, .ref a0_line, .ref a0_best, .int a0_at, .int a0_start, .int a0_isWell, .int a0_faultAt])), (a0_town, aI E 682 fa0_town), (a0_refused, aI E 3 z_1)]) [.ref a0, .int p1].toArray s 0 0 A) (F0 m 165 ls [])) → ∀ (fu : Nat) (x3_40 : Int32) (x4_40 : Int32) (x6_40 : Int32), ∀ (H : Heap) (locs : List Loc) (ls : Array Slot), wP E [(a0, .inr (5, [.ref a0_text, .int a0_letters, .ref a0_town, .ref a0_draft, .ref a0_tried, .ref a0_images, .ref a0_kept, .ref a0_refused, .long a0_above, .long a0_below, .ref a0_line, .ref a0_best, .int a0_at, .int a0_start, .int a0_isWell, .int a0_faultAt])), (a0_town, aI E 682 fa0_town), (a0_refused, aI E 3 fa0_refused)] H → va_D A [(a0, .inr (5, [.ref a0_text, .int a0_letters, .ref a0_town, .ref a0_draft, .ref a0_tried, .ref a0_images, .ref a0_kept, .ref a0_refused, .long a0_above, .long a0_below, .ref a0_line, .ref a0_best, .int a0_at, .int a0_start, .int a0_isWell, .int a0_faultAt])), (a0_town, aI E 682 fa0_town), (a0_refused, aI E 3 fa0_refused)] → va_S A s.heap H locs → lv_has ls 9 [(2, .int z2), (3, .int x3_40), (4, .int x4_40), (5, .int x5_30), (6, .int x6_40)] → lp_X8_tries_40 z2 x5_30 fu x3_40 x4_40 x6_40 = some z5 → W p l e (wR 3) s m [.ref a0, .int p1].toArray below meth c H locs 0 0 (MQ below (QWd E A (some (.int z_0)) [(a0, .inr (5, [.ref a0_text, .int a0_letters, .ref a0_town, .ref a0_draft, .ref a0_tried, .ref a0_images, .ref a0_kept, .ref a0_refused, .long a0_above, .long a0_below, .ref a0_line, .ref a0_best, .int a0_at, .int a0_start, .int a0_isWell, .int a0_faultAt])), (a0_town, aI E 682 fa0_town), (a0_refused, aI E 3 z_1)]) [.ref a0, .int p1].toArray s 0 0 A) (F0 m 40 ls []) := by
            intro z5 hk_40 fu
            induction fu with
            | zero => intro x3_40 x4_40 x6_40 H locs ls hP hD hS hl hsp; exact absurd (show none = some _ from hsp) (by simp)
            | succ fu ih_40 =>
              intro x3_40 x4_40 x6_40 H locs ls hP hD hS hl hsp
              have hsp : (if (10 : Int32) ≤ x6_40 then (some (x3_40, x4_40, x6_40)) else (Option.bind (lp_X8_tries_53 z2 x5_30 x6_40 FU (0 : Int32) (0 : Int32)) fun z7 => Option.bind (sp_X8_ones z2) fun z13 => Option.bind (if ((2 : Int32) * z7.1) ≤ z13 then (Option.bind (sp_X8_ones z2) fun z17 => some (z17 - z7.1)) else (some z7.1)) fun z14 => lt_ (if x4_40 ≤ z14 then (x3_40) else ((((100 : Int32) * x5_30) + x6_40))) fun z18 => lt_ (if x4_40 ≤ z14 then (x4_40) else (z14)) fun z21 => lp_X8_tries_40 z2 x5_30 fu z18 z21 (x6_40 + (1 : Int32)))) = some z5 := hsp
              refine lv_iload hx hb dX8_tries_40 (lv_at hl 4 rfl) (W.pc 42 rfl ?_)
              refine lv_bipush (v := (10 : Int32)) hx hb dX8_tries_42 (by decide) (W.pc 44 rfl ?_)
              refine lv_icmp_ge (tgt := 165) hx hb dX8_tries_44 (by decide) (fun c6 => ?_) (fun c6 => W.pc 47 rfl ?_)
              · have hsp := ip hsp c6
                obtain rfl := Option.some.inj hsp
                exact hk_40 _ _ _ hP hD hS (lv_sub hl [0, 1, 2, 3] rfl)
              · have hsp := iq hsp c6
                refine lv_iconst (v := (0 : Int32)) hx hb dX8_tries_47 (by decide) (W.pc 48 rfl ?_)
                refine lv_istore (lv' := [(7, .int (0 : Int32)), (2, .int z2), (3, .int x3_40), (4, .int x4_40), (5, .int x5_30), (6, .int x6_40)]) hx hb dX8_tries_48 hl (by decide) rfl (fun ls hl => W.pc 50 rfl ?_)
                refine lv_iconst (v := (0 : Int32)) hx hb dX8_tries_50 (by decide) (W.pc 51 rfl ?_)
                refine lv_istore (lv' := [(8, .int (0 : Int32)), (7, .int (0 : Int32)), (2, .int z2), (3, .int x3_40), (4, .int x4_40), (5, .int x5_30), (6, .int x6_40)]) hx hb dX8_tries_51 hl (by decide) rfl (fun ls hl => W.pc 53 rfl ?_)
                have L_53 : ∀ (z7 : Int32 × Int32), (∀ (H : Heap) (locs : List Loc) (ls : Array Slot), wP E [(a0, .inr (5, [.ref a0_text, .int a0_letters, .ref a0_town, .ref a0_draft, .ref a0_tried, .ref a0_images, .ref a0_kept, .ref a0_refused, .long a0_above, .long a0_below, .ref a0_line, .ref a0_best, .int a0_at, .int a0_start, .int a0_isWell, .int a0_faultAt])), (a0_town, aI E 682 fa0_town), (a0_refused, aI E 3 fa0_refused)] H → va_D A [(a0, .inr (5, [.ref a0_text, .int a0_letters, .ref a0_town, .ref a0_draft, .ref a0_tried, .ref a0_images, .ref a0_kept, .ref a0_refused, .long a0_above, .long a0_below, .ref a0_line, .ref a0_best, .int a0_at, .int a0_start, .int a0_isWell, .int a0_faultAt])), (a0_town, aI E 682 fa0_town), (a0_refused, aI E 3 fa0_refused)] → va_S A s.heap H locs → lv_has ls 9 [(2, .int z2), (3, .int x3_40), (4, .int x4_40), (5, .int x5_30), (6, .int x6_40), (7, .int z7.1)] → W p l e (wR 3) s m [.ref a0, .int p1].toArray below meth c H locs 0 0 (MQ below (QWd E A (some (.int z_0)) [(a0, .inr (5, [.ref a0_text, .int a0_letters, .ref a0_town, .ref a0_draft, .ref a0_tried, .ref a0_images, .ref a0_kept, .ref a0_refused, .long a0_above, .long a0_below, .ref a0_line, .ref a0_best, .int a0_at, .int a0_start, .int a0_isWell, .int a0_faultAt])), (a0_town, aI E 682 fa0_town), (a0_refused, aI E 3 z_1)]) [.ref a0, .int p1].toArray s 0 0 A) (F0 m 98 ls [])) → ∀ (fu : Nat) (x7_53 : Int32) (x8_53 : Int32), ∀ (H : Heap) (locs : List Loc) (ls : Array Slot), wP E [(a0, .inr (5, [.ref a0_text, .int a0_letters, .ref a0_town, .ref a0_draft, .ref a0_tried, .ref a0_images, .ref a0_kept, .ref a0_refused, .long a0_above, .long a0_below, .ref a0_line, .ref a0_best, .int a0_at, .int a0_start, .int a0_isWell, .int a0_faultAt])), (a0_town, aI E 682 fa0_town), (a0_refused, aI E 3 fa0_refused)] H → va_D A [(a0, .inr (5, [.ref a0_text, .int a0_letters, .ref a0_town, .ref a0_draft, .ref a0_tried, .ref a0_images, .ref a0_kept, .ref a0_refused, .long a0_above, .long a0_below, .ref a0_line, .ref a0_best, .int a0_at, .int a0_start, .int a0_isWell, .int a0_faultAt])), (a0_town, aI E 682 fa0_town), (a0_refused, aI E 3 fa0_refused)] → va_S A s.heap H locs → lv_has ls 9 [(2, .int z2), (3, .int x3_40), (4, .int x4_40), (5, .int x5_30), (6, .int x6_40), (7, .int x7_53), (8, .int x8_53)] → lp_X8_tries_53 z2 x5_30 x6_40 fu x7_53 x8_53 = some z7 → W p l e (wR 3) s m [.ref a0, .int p1].toArray below meth c H locs 0 0 (MQ below (QWd E A (some (.int z_0)) [(a0, .inr (5, [.ref a0_text, .int a0_letters, .ref a0_town, .ref a0_draft, .ref a0_tried, .ref a0_images, .ref a0_kept, .ref a0_refused, .long a0_above, .long a0_below, .ref a0_line, .ref a0_best, .int a0_at, .int a0_start, .int a0_isWell, .int a0_faultAt])), (a0_town, aI E 682 fa0_town), (a0_refused, aI E 3 z_1)]) [.ref a0, .int p1].toArray s 0 0 A) (F0 m 53 ls []) := by
                  intro z7 hk_53 fu
                  induction fu with
                  | zero => intro x7_53 x8_53 H locs ls hP hD hS hl hsp; exact absurd (show none = some _ from hsp) (by simp)
                  | succ fu ih_53 =>
                    intro x7_53 x8_53 H locs ls hP hD hS hl hsp
                    have hsp : (if (6 : Int32) ≤ x8_53 then (some (x7_53, x8_53)) else (lt_ (if (sp_X8_has z2 x8_53) = 0 then ((0 : Int32)) else (if (sp_X8_stands x8_53 x5_30 (0 : Int32) x6_40) = 0 then ((0 : Int32)) else ((1 : Int32)))) fun z9 => lp_X8_tries_53 z2 x5_30 x6_40 fu (x7_53 + z9) (x8_53 + (1 : Int32)))) = some z7 := hsp
                    refine lv_iload hx hb dX8_tries_53 (lv_at hl 6 rfl) (W.pc 55 rfl ?_)
                    refine lv_bipush (v := (6 : Int32)) hx hb dX8_tries_55 (by decide) (W.pc 57 rfl ?_)
                    refine lv_icmp_ge (tgt := 98) hx hb dX8_tries_57 (by decide) (fun c8 => ?_) (fun c8 => W.pc 60 rfl ?_)
                    · have hsp := ip hsp c8
                      obtain rfl := Option.some.inj hsp
                      exact hk_53 _ _ _ hP hD hS (lv_sub hl [0, 1, 2, 3, 4, 5] rfl)
                    · have hsp := iq hsp c8
                      refine lv_iload hx hb dX8_tries_60 (lv_at hl 5 rfl) (W.pc 62 rfl ?_)
                      refine lv_iload_n hx hb dX8_tries_62 rfl (lv_at hl 0 rfl) (W.pc 63 rfl ?_)
                      refine lv_iload hx hb dX8_tries_63 (lv_at hl 6 rfl) (W.pc 65 rfl ?_)
                      refine kSR (st1 := [.int (sp_X8_has z2 x8_53), .int x7_53]) hX (c_X8_has l E z2 x8_53 _ rfl) B_X8_has w_5_151 hK (hP.pick [] rfl) rfl hl.1 rfl (Nat.le_of_ble_eq_true rfl) ⟨Nat.le_of_ble_eq_true rfl, Nat.le_of_ble_eq_true rfl⟩ dX8_tries_65 rfl (W.pc 68 rfl ?_)
                      obtain ⟨z9, hr_z9, hsp⟩ := ltb_s hsp
                      have J10 : ∀ (H : Heap) (locs : List Loc) (ls : Array Slot), wP E [(a0, .inr (5, [.ref a0_text, .int a0_letters, .ref a0_town, .ref a0_draft, .ref a0_tried, .ref a0_images, .ref a0_kept, .ref a0_refused, .long a0_above, .long a0_below, .ref a0_line, .ref a0_best, .int a0_at, .int a0_start, .int a0_isWell, .int a0_faultAt])), (a0_town, aI E 682 fa0_town), (a0_refused, aI E 3 fa0_refused)] H → va_D A [(a0, .inr (5, [.ref a0_text, .int a0_letters, .ref a0_town, .ref a0_draft, .ref a0_tried, .ref a0_images, .ref a0_kept, .ref a0_refused, .long a0_above, .long a0_below, .ref a0_line, .ref a0_best, .int a0_at, .int a0_start, .int a0_isWell, .int a0_faultAt])), (a0_town, aI E 682 fa0_town), (a0_refused, aI E 3 fa0_refused)] → va_S A s.heap H locs → lv_has ls 9 [(2, .int z2), (3, .int x3_40), (4, .int x4_40), (5, .int x5_30), (6, .int x6_40), (8, .int x8_53)] → W p l e (wR 3) s m [.ref a0, .int p1].toArray below meth c H locs 0 0 (MQ below (QWd E A (some (.int z_0)) [(a0, .inr (5, [.ref a0_text, .int a0_letters, .ref a0_town, .ref a0_draft, .ref a0_tried, .ref a0_images, .ref a0_kept, .ref a0_refused, .long a0_above, .long a0_below, .ref a0_line, .ref a0_best, .int a0_at, .int a0_start, .int a0_isWell, .int a0_faultAt])), (a0_town, aI E 682 fa0_town), (a0_refused, aI E 3 z_1)]) [.ref a0, .int p1].toArray s 0 0 A) (F0 m 89 ls [.int z9, .int x7_53]) := by
                        intro H locs ls hP hD hS hl
                        refine lv_iadd hx hb dX8_tries_89 (W.pc 90 rfl ?_)
                        refine lv_istore (lv' := [(7, .int (x7_53 + z9)), (2, .int z2), (3, .int x3_40), (4, .int x4_40), (5, .int x5_30), (6, .int x6_40), (8, .int x8_53)]) hx hb dX8_tries_90 hl (by decide) rfl (fun ls hl => W.pc 92 rfl ?_)
                        refine lv_iinc (v := (x8_53 + (1 : Int32))) (lv' := [(8, .int (x8_53 + (1 : Int32))), (7, .int (x7_53 + z9)), (2, .int z2), (3, .int x3_40), (4, .int x4_40), (5, .int x5_30), (6, .int x6_40)]) hx hb dX8_tries_92 hl (k := 6) rfl rfl (by decide) rfl (fun ls hl => W.pc 95 rfl ?_)
                        refine lv_goto (tgt := 53) hx hb dX8_tries_95 (by decide) ?_
                        exact ih_53 (x7_53 + z9) (x8_53 + (1 : Int32)) _ _ _ hP hD hS (lv_sub hl [2, 3, 4, 5, 6, 1, 0] rfl) hsp
                      replace hsp := hr_z9
                      refine lv_if_eq (tgt := 88) hx hb dX8_tries_68 (by decide) (fun c11 => ?_) (fun c11 => W.pc 71 rfl ?_)
                      · have hsp := ip hsp c11
                        refine lv_iconst (v := (0 : Int32)) hx hb dX8_tries_88 (by decide) (W.pc 89 rfl ?_)
                        subst hsp
                        exact J10 _ _ _ hP hD hS (lv_sub hl [0, 1, 2, 3, 4, 6] rfl)
                      · have hsp := iq hsp c11
                        refine lv_iload hx hb dX8_tries_71 (lv_at hl 6 rfl) (W.pc 73 rfl ?_)
                        refine lv_iload hx hb dX8_tries_73 (lv_at hl 3 rfl) (W.pc 75 rfl ?_)
                        refine lv_iconst (v := (0 : Int32)) hx hb dX8_tries_75 (by decide) (W.pc 76 rfl ?_)
                        refine lv_iload hx hb dX8_tries_76 (lv_at hl 4 rfl) (W.pc 78 rfl ?_)
                        refine kSR (st1 := [.int (sp_X8_stands x8_53 x5_30 (0 : Int32) x6_40), .int x7_53]) hX (c_X8_stands l E x8_53 x5_30 (0 : Int32) x6_40 _ rfl) B_X8_stands w_5_9 hK (hP.pick [] rfl) rfl hl.1 rfl (Nat.le_of_ble_eq_true rfl) ⟨Nat.le_of_ble_eq_true rfl, Nat.le_of_ble_eq_true rfl⟩ dX8_tries_78 rfl (W.pc 81 rfl ?_)
                        refine lv_if_eq (tgt := 88) hx hb dX8_tries_81 (by decide) (fun c12 => ?_) (fun c12 => W.pc 84 rfl ?_)
                        · have hsp := ip hsp c12
                          refine lv_iconst (v := (0 : Int32)) hx hb dX8_tries_88 (by decide) (W.pc 89 rfl ?_)
                          subst hsp
                          exact J10 _ _ _ hP hD hS (lv_sub hl [0, 1, 2, 3, 4, 6] rfl)
                        · have hsp := iq hsp c12
                          refine lv_iconst (v := (1 : Int32)) hx hb dX8_tries_84 (by decide) (W.pc 85 rfl ?_)
                          refine lv_goto (tgt := 89) hx hb dX8_tries_85 (by decide) ?_
                          subst hsp
                          exact J10 _ _ _ hP hD hS (lv_sub hl [0, 1, 2, 3, 4, 6] rfl)
                obtain ⟨z7, hr_z7, hsp⟩ := bd_s hsp
                refine L_53 z7 (fun H locs ls hP hD hS hl => ?_) FU (0 : Int32) (0 : Int32) _ _ _ hP hD hS (lv_sub hl [2, 3, 4, 5, 6, 1, 0] rfl) hr_z7
                refine lv_iconst (v := (2 : Int32)) hx hb dX8_tries_98 (by decide) (W.pc 99 rfl ?_)
                refine lv_iload hx hb dX8_tries_99 (lv_at hl 5 rfl) (W.pc 101 rfl ?_)
                refine lv_imul hx hb dX8_tries_101 (W.pc 102 rfl ?_)
                refine lv_iload_n hx hb dX8_tries_102 rfl (lv_at hl 0 rfl) (W.pc 103 rfl ?_)
                obtain ⟨z13, hr_z13, hsp⟩ := bd_s hsp
                refine kSR (st1 := [.int z13, .int ((2 : Int32) * z7.1)]) hX (c_X8_ones l E z2 z13 hr_z13) B_X8_ones w_5_115 hK (hP.pick [] rfl) rfl hl.1 rfl (Nat.le_of_ble_eq_true rfl) ⟨Nat.le_of_ble_eq_true rfl, Nat.le_of_ble_eq_true rfl⟩ dX8_tries_103 rfl (W.pc 106 rfl ?_)
                obtain ⟨z14, hr_z14, hsp⟩ := bd_s hsp
                have J15 : ∀ (H : Heap) (locs : List Loc) (ls : Array Slot), wP E [(a0, .inr (5, [.ref a0_text, .int a0_letters, .ref a0_town, .ref a0_draft, .ref a0_tried, .ref a0_images, .ref a0_kept, .ref a0_refused, .long a0_above, .long a0_below, .ref a0_line, .ref a0_best, .int a0_at, .int a0_start, .int a0_isWell, .int a0_faultAt])), (a0_town, aI E 682 fa0_town), (a0_refused, aI E 3 fa0_refused)] H → va_D A [(a0, .inr (5, [.ref a0_text, .int a0_letters, .ref a0_town, .ref a0_draft, .ref a0_tried, .ref a0_images, .ref a0_kept, .ref a0_refused, .long a0_above, .long a0_below, .ref a0_line, .ref a0_best, .int a0_at, .int a0_start, .int a0_isWell, .int a0_faultAt])), (a0_town, aI E 682 fa0_town), (a0_refused, aI E 3 fa0_refused)] → va_S A s.heap H locs → lv_has ls 9 [(2, .int z2), (3, .int x3_40), (4, .int x4_40), (5, .int x5_30), (6, .int x6_40)] → W p l e (wR 3) s m [.ref a0, .int p1].toArray below meth c H locs 0 0 (MQ below (QWd E A (some (.int z_0)) [(a0, .inr (5, [.ref a0_text, .int a0_letters, .ref a0_town, .ref a0_draft, .ref a0_tried, .ref a0_images, .ref a0_kept, .ref a0_refused, .long a0_above, .long a0_below, .ref a0_line, .ref a0_best, .int a0_at, .int a0_start, .int a0_isWell, .int a0_faultAt])), (a0_town, aI E 682 fa0_town), (a0_refused, aI E 3 z_1)]) [.ref a0, .int p1].toArray s 0 0 A) (F0 m 121 ls [.int z14]) := by
                  intro H locs ls hP hD hS hl
                  refine lv_istore (lv' := [(8, .int z14), (2, .int z2), (3, .int x3_40), (4, .int x4_40), (5, .int x5_30), (6, .int x6_40)]) hx hb dX8_tries_121 hl (by decide) rfl (fun ls hl => W.pc 123 rfl ?_)
                  refine lv_iload hx hb dX8_tries_123 (lv_at hl 0 rfl) (W.pc 125 rfl ?_)
                  refine lv_iload hx hb dX8_tries_125 (lv_at hl 3 rfl) (W.pc 127 rfl ?_)
                  obtain ⟨z18, hr_z18, hsp⟩ := ltb_s hsp
                  have J19 : ∀ (H : Heap) (locs : List Loc) (ls : Array Slot), wP E [(a0, .inr (5, [.ref a0_text, .int a0_letters, .ref a0_town, .ref a0_draft, .ref a0_tried, .ref a0_images, .ref a0_kept, .ref a0_refused, .long a0_above, .long a0_below, .ref a0_line, .ref a0_best, .int a0_at, .int a0_start, .int a0_isWell, .int a0_faultAt])), (a0_town, aI E 682 fa0_town), (a0_refused, aI E 3 fa0_refused)] H → va_D A [(a0, .inr (5, [.ref a0_text, .int a0_letters, .ref a0_town, .ref a0_draft, .ref a0_tried, .ref a0_images, .ref a0_kept, .ref a0_refused, .long a0_above, .long a0_below, .ref a0_line, .ref a0_best, .int a0_at, .int a0_start, .int a0_isWell, .int a0_faultAt])), (a0_town, aI E 682 fa0_town), (a0_refused, aI E 3 fa0_refused)] → va_S A s.heap H locs → lv_has ls 9 [(2, .int z2), (4, .int x4_40), (5, .int x5_30), (6, .int x6_40), (8, .int z14)] → W p l e (wR 3) s m [.ref a0, .int p1].toArray below meth c H locs 0 0 (MQ below (QWd E A (some (.int z_0)) [(a0, .inr (5, [.ref a0_text, .int a0_letters, .ref a0_town, .ref a0_draft, .ref a0_tried, .ref a0_images, .ref a0_kept, .ref a0_refused, .long a0_above, .long a0_below, .ref a0_line, .ref a0_best, .int a0_at, .int a0_start, .int a0_isWell, .int a0_faultAt])), (a0_town, aI E 682 fa0_town), (a0_refused, aI E 3 z_1)]) [.ref a0, .int p1].toArray s 0 0 A) (F0 m 142 ls [.int z18]) := by
                    intro H locs ls hP hD hS hl
                    refine lv_istore_n (lv' := [(3, .int z18), (2, .int z2), (4, .int x4_40), (5, .int x5_30), (6, .int x6_40), (8, .int z14)]) hx hb dX8_tries_142 rfl hl (by decide) rfl (fun ls hl => W.pc 143 rfl ?_)
                    refine lv_iload hx hb dX8_tries_143 (lv_at hl 5 rfl) (W.pc 145 rfl ?_)
                    refine lv_iload hx hb dX8_tries_145 (lv_at hl 2 rfl) (W.pc 147 rfl ?_)
                    obtain ⟨z21, hr_z21, hsp⟩ := ltb_s hsp
                    have J22 : ∀ (H : Heap) (locs : List Loc) (ls : Array Slot), wP E [(a0, .inr (5, [.ref a0_text, .int a0_letters, .ref a0_town, .ref a0_draft, .ref a0_tried, .ref a0_images, .ref a0_kept, .ref a0_refused, .long a0_above, .long a0_below, .ref a0_line, .ref a0_best, .int a0_at, .int a0_start, .int a0_isWell, .int a0_faultAt])), (a0_town, aI E 682 fa0_town), (a0_refused, aI E 3 fa0_refused)] H → va_D A [(a0, .inr (5, [.ref a0_text, .int a0_letters, .ref a0_town, .ref a0_draft, .ref a0_tried, .ref a0_images, .ref a0_kept, .ref a0_refused, .long a0_above, .long a0_below, .ref a0_line, .ref a0_best, .int a0_at, .int a0_start, .int a0_isWell, .int a0_faultAt])), (a0_town, aI E 682 fa0_town), (a0_refused, aI E 3 fa0_refused)] → va_S A s.heap H locs → lv_has ls 9 [(2, .int z2), (3, .int z18), (5, .int x5_30), (6, .int x6_40)] → W p l e (wR 3) s m [.ref a0, .int p1].toArray below meth c H locs 0 0 (MQ below (QWd E A (some (.int z_0)) [(a0, .inr (5, [.ref a0_text, .int a0_letters, .ref a0_town, .ref a0_draft, .ref a0_tried, .ref a0_images, .ref a0_kept, .ref a0_refused, .long a0_above, .long a0_below, .ref a0_line, .ref a0_best, .int a0_at, .int a0_start, .int a0_isWell, .int a0_faultAt])), (a0_town, aI E 682 fa0_town), (a0_refused, aI E 3 z_1)]) [.ref a0, .int p1].toArray s 0 0 A) (F0 m 157 ls [.int z21]) := by
                      intro H locs ls hP hD hS hl
                      refine lv_istore (lv' := [(4, .int z21), (2, .int z2), (3, .int z18), (5, .int x5_30), (6, .int x6_40)]) hx hb dX8_tries_157 hl (by decide) rfl (fun ls hl => W.pc 159 rfl ?_)
                      refine lv_iinc (v := (x6_40 + (1 : Int32))) (lv' := [(6, .int (x6_40 + (1 : Int32))), (4, .int z21), (2, .int z2), (3, .int z18), (5, .int x5_30)]) hx hb dX8_tries_159 hl (k := 4) rfl rfl (by decide) rfl (fun ls hl => W.pc 162 rfl ?_)
                      refine lv_goto (tgt := 40) hx hb dX8_tries_162 (by decide) ?_
                      exact ih_40 z18 z21 (x6_40 + (1 : Int32)) _ _ _ hP hD hS (lv_sub hl [2, 3, 1, 4, 0] rfl) hsp
                    replace hsp := hr_z21
                    refine lv_icmp_ge (tgt := 155) hx hb dX8_tries_147 (by decide) (fun c23 => ?_) (fun c23 => W.pc 150 rfl ?_)
                    · have hsp := ip hsp c23
                      refine lv_iload hx hb dX8_tries_155 (lv_at hl 2 rfl) (W.pc 157 rfl ?_)
                      subst hsp
                      exact J22 _ _ _ hP hD hS (lv_sub hl [1, 0, 3, 4] rfl)
                    · have hsp := iq hsp c23
                      refine lv_iload hx hb dX8_tries_150 (lv_at hl 5 rfl) (W.pc 152 rfl ?_)
                      refine lv_goto (tgt := 157) hx hb dX8_tries_152 (by decide) ?_
                      subst hsp
                      exact J22 _ _ _ hP hD hS (lv_sub hl [1, 0, 3, 4] rfl)
                  replace hsp := hr_z18
                  refine lv_icmp_ge (tgt := 141) hx hb dX8_tries_127 (by decide) (fun c20 => ?_) (fun c20 => W.pc 130 rfl ?_)
                  · have hsp := ip hsp c20
                    refine lv_iload_n hx hb dX8_tries_141 rfl (lv_at hl 2 rfl) (W.pc 142 rfl ?_)
                    subst hsp
                    exact J19 _ _ _ hP hD hS (lv_sub hl [1, 3, 4, 5, 0] rfl)
                  · have hsp := iq hsp c20
                    refine lv_bipush (v := (100 : Int32)) hx hb dX8_tries_130 (by decide) (W.pc 132 rfl ?_)
                    refine lv_iload hx hb dX8_tries_132 (lv_at hl 4 rfl) (W.pc 134 rfl ?_)
                    refine lv_imul hx hb dX8_tries_134 (W.pc 135 rfl ?_)
                    refine lv_iload hx hb dX8_tries_135 (lv_at hl 5 rfl) (W.pc 137 rfl ?_)
                    refine lv_iadd hx hb dX8_tries_137 (W.pc 138 rfl ?_)
                    refine lv_goto (tgt := 142) hx hb dX8_tries_138 (by decide) ?_
                    subst hsp
                    exact J19 _ _ _ hP hD hS (lv_sub hl [1, 3, 4, 5, 0] rfl)
                replace hsp := hr_z14
                refine lv_icmp_le (tgt := 114) hx hb dX8_tries_106 (by decide) (fun c16 => ?_) (fun c16 => W.pc 109 rfl ?_)
                · have hsp := ip hsp c16
                  refine lv_iload_n hx hb dX8_tries_114 rfl (lv_at hl 0 rfl) (W.pc 115 rfl ?_)
                  obtain ⟨z17, hr_z17, hsp⟩ := bd_s hsp
                  refine kSR (st1 := [.int z17]) hX (c_X8_ones l E z2 z17 hr_z17) B_X8_ones w_5_115 hK (hP.pick [] rfl) rfl hl.1 rfl (Nat.le_of_ble_eq_true rfl) ⟨Nat.le_of_ble_eq_true rfl, Nat.le_of_ble_eq_true rfl⟩ dX8_tries_115 rfl (W.pc 118 rfl ?_)
                  refine lv_iload hx hb dX8_tries_118 (lv_at hl 5 rfl) (W.pc 120 rfl ?_)
                  refine lv_isub hx hb dX8_tries_120 (W.pc 121 rfl ?_)
                  obtain rfl := Option.some.inj hsp
                  exact J15 _ _ _ hP hD hS (lv_sub hl [0, 1, 2, 3, 4] rfl)
                · have hsp := iq hsp c16
                  refine lv_iload hx hb dX8_tries_109 (lv_at hl 5 rfl) (W.pc 111 rfl ?_)
                  refine lv_goto (tgt := 121) hx hb dX8_tries_111 (by decide) ?_
                  obtain rfl := Option.some.inj hsp
                  exact J15 _ _ _ hP hD hS (lv_sub hl [0, 1, 2, 3, 4] rfl)
          obtain ⟨z5, hr_z5, hsp⟩ := bd_s hsp
          refine L_40 z5 (fun H locs ls hP hD hS hl => ?_) FU x3_30 x4_30 (0 : Int32) _ _ _ hP hD hS (lv_sub hl [1, 2, 3, 4, 0] rfl) hr_z5
          refine lv_iinc (v := (x5_30 + (1 : Int32))) (lv' := [(5, .int (x5_30 + (1 : Int32))), (2, .int z2), (3, .int z5.1), (4, .int z5.2.1)]) hx hb dX8_tries_165 hl (k := 3) rfl rfl (by decide) rfl (fun ls hl => W.pc 168 rfl ?_)
          refine lv_goto (tgt := 30) hx hb dX8_tries_168 (by decide) ?_
          exact ih_30 z5.1 z5.2.1 (x5_30 + (1 : Int32)) _ _ _ hP hD hS (lv_sub hl [1, 2, 3, 0] rfl) hsp
    obtain ⟨z3, hr_z3, hsp⟩ := bd_s hsp
    refine L_30 z3 (fun H locs ls hP hD hS hl => ?_) FU (-1 : Int32) (7 : Int32) (0 : Int32) _ _ _ hP hD hS (lv_sub hl [3, 2, 1, 0] rfl) hr_z3
    refine lv_iload_n hx hb dX8_tries_171 rfl (lv_at hl 0 rfl) (W.pc 172 rfl ?_)
    refine lv_if_ne (tgt := 179) hx hb dX8_tries_172 (by decide) (fun c24 => ?_) (fun c24 => W.pc 175 rfl ?_)
    · have hsp := iq hsp c24
      refine lv_iload_n hx hb dX8_tries_179 rfl (lv_at hl 1 rfl) (W.pc 180 rfl ?_)
      cases hsp
      exact rWi hX hP hS rfl rfl dX8_tries_180
    · have hsp := ip hsp c24
      refine lv_iconst (v := (-1 : Int32)) hx hb dX8_tries_175 (by decide) (W.pc 176 rfl ?_)
      refine lv_goto (tgt := 180) hx hb dX8_tries_176 (by decide) ?_
      cases hsp
      exact rWi hX hP hS rfl rfl dX8_tries_180
  · have hsp := ip hsp c1
    refine lv_aload_n hx hb dX8_tries_10 rfl (lv_at hl 0 rfl) (W.pc 11 rfl ?_)
    obtain ⟨z25, hr_z25, hsp⟩ := ltb_s hsp
    refine kVW (st1 := [.int z25.1]) (ws' := [(a0, .inr (5, [.ref a0_text, .int a0_letters, .ref a0_town, .ref a0_draft, .ref a0_tried, .ref a0_images, .ref a0_kept, .ref a0_refused, .long a0_above, .long a0_below, .ref a0_line, .ref a0_best, .int a0_at, .int a0_start, .int a0_isWell, .int a0_faultAt])), (a0_town, aI E 682 fa0_town), (a0_refused, aI E 3 z25.2)]) [0, 2] hX (c_X8_bad l E a0 a0_text a0_town a0_draft a0_tried a0_images a0_kept a0_refused a0_line a0_best a0_letters a0_above a0_below a0_at a0_start a0_isWell a0_faultAt fa0_refused z25.1 z25.2 hr_z25) B_X8_bad w_4_128 hK hP hD hS hA (by decide) rfl rfl rfl (q0 := 0) (ci := 5) rfl rfl rfl rfl hl.1 rfl (Nat.le_of_ble_eq_true rfl) ⟨Nat.le_of_ble_eq_true rfl, Nat.le_of_ble_eq_true rfl⟩ dX8_tries_11 rfl (fun H locs hP hD hS => W.pc 14 rfl ?_)
    cases hsp
    exact rWi hX hP hS rfl rfl dX8_tries_14
noncomputable def sp_X8_offBy (p1 : Int32) (p2 : Int32) (fa0_town : Nat → Int32) : Option (Int32) := Option.bind (if p1 = 0 then (some (0 : Int32)) else (Option.bind (sp_X8_pullIn (fa0_town ((2 : Int32)).toNatClampNeg) fa0_town) fun z4 => some z4)) fun z1 => lt_ (if p2 = 0 then ((sp_X8_behind (fa0_town ((0 : Int32)).toNatClampNeg) (fa0_town ((1 : Int32)).toNatClampNeg) z1 (fa0_town ((2 : Int32)).toNatClampNeg))) else ((fa0_town ((1 : Int32)).toNatClampNeg))) fun z5 => some (sp_X8_size z5)
set_option maxHeartbeats 4000000 in
set_option maxRecDepth 100000 in
theorem c_X8_offBy (l : Launch) (E : wE) (a0 a0_text a0_town a0_draft a0_tried a0_images a0_kept a0_refused a0_line a0_best : Nat) (p1 : Int32) (p2 : Int32) (a0_letters : Int32) (a0_above : Int64) (a0_below : Int64) (a0_at : Int32) (a0_start : Int32) (a0_isWell : Int32) (a0_faultAt : Int32) (fa0_town : Nat → Int32) (z : Int32) (hsp : sp_X8_offBy p1 p2 fa0_town = some z) : MR l yX8_offBy cX8_offBy 4 (some .int) 2 E [.ref a0, .int p1, .int p2] [(a0, .inr (5, [.ref a0_text, .int a0_letters, .ref a0_town, .ref a0_draft, .ref a0_tried, .ref a0_images, .ref a0_kept, .ref a0_refused, .long a0_above, .long a0_below, .ref a0_line, .ref a0_best, .int a0_at, .int a0_start, .int a0_isWell, .int a0_faultAt])), (a0_town, aI E 682 fa0_town)] (some (.int z)) := by
  refine MR.of (by decide +kernel) (Nat.le_of_ble_eq_true rfl) ?_
  intro p e s m below meth c ls hX hK hP hl
  have hX : CX p s m [.ref a0, .int p1, .int p2].toArray meth c cX8_offBy 4 (some .int) RX8 := hX
  have hx := hX.1; have hb := hX.2.1; have hts := hX.2.2.2.2.1; have hown := hX.2.2.2.2.2.1
  have hl : lv_has ls 4 [(0, .ref a0), (1, .int p1), (2, .int p2)] := hl
  have hsp : (Option.bind (if p1 = 0 then (some (0 : Int32)) else (Option.bind (sp_X8_pullIn (fa0_town ((2 : Int32)).toNatClampNeg) fa0_town) fun z4 => some z4)) fun z1 => lt_ (if p2 = 0 then ((sp_X8_behind (fa0_town ((0 : Int32)).toNatClampNeg) (fa0_town ((1 : Int32)).toNatClampNeg) z1 (fa0_town ((2 : Int32)).toNatClampNeg))) else ((fa0_town ((1 : Int32)).toNatClampNeg))) fun z5 => some (sp_X8_size z5)) = some z := hsp
  refine lv_iload_n hx hb dX8_offBy_0 rfl (lv_at hl 1 rfl) (W.pc 1 rfl ?_)
  obtain ⟨z1, hr_z1, hsp⟩ := bd_s hsp
  have J2 : ∀ (ls : Array Slot), lv_has ls 4 [(0, .ref a0), (2, .int p2)] → W p l e (wR 2) s m [.ref a0, .int p1, .int p2].toArray below meth c s.heap [] 0 0 (MQ below (QRd E (some (.int z))) [.ref a0, .int p1, .int p2].toArray s 0 0 (fun _ => False)) (F0 m 21 ls [.int z1]) := by
    intro ls hl
    refine lv_istore_n (lv' := [(3, .int z1), (0, .ref a0), (2, .int p2)]) hx hb dX8_offBy_21 rfl hl (by decide) rfl (fun ls hl => W.pc 22 rfl ?_)
    refine lv_iload_n hx hb dX8_offBy_22 rfl (lv_at hl 2 rfl) (W.pc 23 rfl ?_)
    obtain ⟨z5, hr_z5, hsp⟩ := ltb_s hsp
    have J6 : ∀ (ls : Array Slot), lv_has ls 4 [] → W p l e (wR 2) s m [.ref a0, .int p1, .int p2].toArray below meth c s.heap [] 0 0 (MQ below (QRd E (some (.int z))) [.ref a0, .int p1, .int p2].toArray s 0 0 (fun _ => False)) (F0 m 57 ls [.int z5]) := by
      intro ls hl
      refine kSR (st1 := [.int (sp_X8_size z5)]) hX (c_X8_size l E z5 _ rfl) B_X8_size w_5_12 hK (hP.pick [] rfl) rfl hl.1 rfl (Nat.le_of_ble_eq_true rfl) ⟨Nat.le_of_ble_eq_true rfl, Nat.le_of_ble_eq_true rfl⟩ dX8_offBy_57 rfl (W.pc 60 rfl ?_)
      obtain rfl := Option.some.inj hsp
      exact rRi hX rfl dX8_offBy_60
    replace hsp := hr_z5
    refine lv_if_eq (tgt := 35) hx hb dX8_offBy_23 (by decide) (fun c7 => ?_) (fun c7 => W.pc 26 rfl ?_)
    · have hsp := ip hsp c7
      refine lv_aload_n hx hb dX8_offBy_35 rfl (lv_at hl 1 rfl) (W.pc 36 rfl ?_)
      refine va_get (D := E.1) (ci := 5) (v := .ref a0_town) (C := RX8) (T := TX8) (N := 16) hx hb hts inT_X8 hown hK hP 0 rfl rfl 2 (by decide) (hts _ w_4_70) (fun _ h9 => h9) rfl dX8_offBy_36 (W.pc 39 rfl ?_)
      refine lv_iconst (v := (0 : Int32)) hx hb dX8_offBy_39 (by decide) (W.pc 40 rfl ?_)
      refine va_iald hx hb hK hP 1 0 rfl rfl (vp_in_nI (n := 0) (N := 682) (by decide) (by decide)) dX8_offBy_40 (W.pc 41 rfl ?_)
      refine lv_aload_n hx hb dX8_offBy_41 rfl (lv_at hl 1 rfl) (W.pc 42 rfl ?_)
      refine va_get (D := E.1) (ci := 5) (v := .ref a0_town) (C := RX8) (T := TX8) (N := 16) hx hb hts inT_X8 hown hK hP 0 rfl rfl 2 (by decide) (hts _ w_4_70) (fun _ h9 => h9) rfl dX8_offBy_42 (W.pc 45 rfl ?_)
      refine lv_iconst (v := (1 : Int32)) hx hb dX8_offBy_45 (by decide) (W.pc 46 rfl ?_)
      refine va_iald hx hb hK hP 1 0 rfl rfl (vp_in_nI (n := 1) (N := 682) (by decide) (by decide)) dX8_offBy_46 (W.pc 47 rfl ?_)
      refine lv_iload_n hx hb dX8_offBy_47 rfl (lv_at hl 0 rfl) (W.pc 48 rfl ?_)
      refine lv_aload_n hx hb dX8_offBy_48 rfl (lv_at hl 1 rfl) (W.pc 49 rfl ?_)
      refine va_get (D := E.1) (ci := 5) (v := .ref a0_town) (C := RX8) (T := TX8) (N := 16) hx hb hts inT_X8 hown hK hP 0 rfl rfl 2 (by decide) (hts _ w_4_70) (fun _ h9 => h9) rfl dX8_offBy_49 (W.pc 52 rfl ?_)
      refine lv_iconst (v := (2 : Int32)) hx hb dX8_offBy_52 (by decide) (W.pc 53 rfl ?_)
      refine va_iald hx hb hK hP 1 0 rfl rfl (vp_in_nI (n := 2) (N := 682) (by decide) (by decide)) dX8_offBy_53 (W.pc 54 rfl ?_)
      refine kSR (st1 := [.int (sp_X8_behind (fa0_town ((0 : Int32)).toNatClampNeg) (fa0_town ((1 : Int32)).toNatClampNeg) z1 (fa0_town ((2 : Int32)).toNatClampNeg))]) hX (c_X8_behind l E (fa0_town ((0 : Int32)).toNatClampNeg) (fa0_town ((1 : Int32)).toNatClampNeg) z1 (fa0_town ((2 : Int32)).toNatClampNeg) _ rfl) B_X8_behind w_4_221 hK (hP.pick [] rfl) rfl hl.1 rfl (Nat.le_of_ble_eq_true rfl) ⟨Nat.le_of_ble_eq_true rfl, Nat.le_of_ble_eq_true rfl⟩ dX8_offBy_54 rfl (W.pc 57 rfl ?_)
      subst hsp
      exact J6 _ (lv_sub hl [] rfl)
    · have hsp := iq hsp c7
      refine lv_aload_n hx hb dX8_offBy_26 rfl (lv_at hl 1 rfl) (W.pc 27 rfl ?_)
      refine va_get (D := E.1) (ci := 5) (v := .ref a0_town) (C := RX8) (T := TX8) (N := 16) hx hb hts inT_X8 hown hK hP 0 rfl rfl 2 (by decide) (hts _ w_4_70) (fun _ h9 => h9) rfl dX8_offBy_27 (W.pc 30 rfl ?_)
      refine lv_iconst (v := (1 : Int32)) hx hb dX8_offBy_30 (by decide) (W.pc 31 rfl ?_)
      refine va_iald hx hb hK hP 1 0 rfl rfl (vp_in_nI (n := 1) (N := 682) (by decide) (by decide)) dX8_offBy_31 (W.pc 32 rfl ?_)
      refine lv_goto (tgt := 57) hx hb dX8_offBy_32 (by decide) ?_
      subst hsp
      exact J6 _ (lv_sub hl [] rfl)
  replace hsp := hr_z1
  refine lv_if_eq (tgt := 20) hx hb dX8_offBy_1 (by decide) (fun c3 => ?_) (fun c3 => W.pc 4 rfl ?_)
  · have hsp := ip hsp c3
    refine lv_iconst (v := (0 : Int32)) hx hb dX8_offBy_20 (by decide) (W.pc 21 rfl ?_)
    obtain rfl := Option.some.inj hsp
    exact J2 _ (lv_sub hl [0, 2] rfl)
  · have hsp := iq hsp c3
    refine lv_aload_n hx hb dX8_offBy_4 rfl (lv_at hl 0 rfl) (W.pc 5 rfl ?_)
    refine va_get (D := E.1) (ci := 5) (v := .ref a0_town) (C := RX8) (T := TX8) (N := 16) hx hb hts inT_X8 hown hK hP 0 rfl rfl 2 (by decide) (hts _ w_4_70) (fun _ h9 => h9) rfl dX8_offBy_5 (W.pc 8 rfl ?_)
    refine lv_aload_n hx hb dX8_offBy_8 rfl (lv_at hl 0 rfl) (W.pc 9 rfl ?_)
    refine va_get (D := E.1) (ci := 5) (v := .ref a0_town) (C := RX8) (T := TX8) (N := 16) hx hb hts inT_X8 hown hK hP 0 rfl rfl 2 (by decide) (hts _ w_4_70) (fun _ h9 => h9) rfl dX8_offBy_9 (W.pc 12 rfl ?_)
    refine lv_iconst (v := (2 : Int32)) hx hb dX8_offBy_12 (by decide) (W.pc 13 rfl ?_)
    refine va_iald hx hb hK hP 1 0 rfl rfl (vp_in_nI (n := 2) (N := 682) (by decide) (by decide)) dX8_offBy_13 (W.pc 14 rfl ?_)
    obtain ⟨z4, hr_z4, hsp⟩ := bd_s hsp
    refine kSR (st1 := [.int z4]) hX (c_X8_pullIn l E a0_town (fa0_town ((2 : Int32)).toNatClampNeg) fa0_town z4 hr_z4) B_X8_pullIn w_4_218 hK (hP.pick [1] rfl) rfl hl.1 rfl (Nat.le_of_ble_eq_true rfl) ⟨Nat.le_of_ble_eq_true rfl, Nat.le_of_ble_eq_true rfl⟩ dX8_offBy_14 rfl (W.pc 17 rfl ?_)
    refine lv_goto (tgt := 21) hx hb dX8_offBy_17 (by decide) ?_
    obtain rfl := Option.some.inj hsp
    exact J2 _ (lv_sub hl [0, 2] rfl)
noncomputable def lp_X8_game_4 (fa0_town : Nat → Int32) : Nat → Int32 → Int32 → Option (Int32 × Int32)
 | 0, _, _ => none
 | fu + 1, x1_4, x2_4 => if (4 : Int32) ≤ x2_4 then (some (x1_4, x2_4)) else (lt_ (if (x2_4 - x2_4 / (2 : Int32) * (2 : Int32)) = (1 : Int32) then ((1 : Int32)) else ((0 : Int32))) fun z3 => lt_ (if x2_4 ≤ (1 : Int32) then ((0 : Int32)) else ((1 : Int32))) fun z6 => Option.bind (sp_X8_offBy z3 z6 fa0_town) fun z9 => lt_ (if z3 = 0 then ((1 : Int32)) else ((0 : Int32))) fun z10 => Option.bind (sp_X8_offBy z10 z6 fa0_town) fun z13 => lt_ (if z3 = 0 then ((1 : Int32)) else ((0 : Int32))) fun z14 => lt_ (if z3 = 0 then ((0 : Int32)) else ((1 : Int32))) fun z17 => Option.bind (if (z9 - z17) < (z13 - z14) then (some (0 : Int32)) else (lt_ (if z6 = 0 then ((1 : Int32)) else ((0 : Int32))) fun z23 => Option.bind (sp_X8_offBy z3 z23 fa0_town) fun z26 => lt_ (if z6 = 0 then ((2 : Int32)) else ((0 : Int32))) fun z27 => lt_ (if z6 = 0 then ((0 : Int32)) else ((2 : Int32))) fun z30 => if ((-z9) - z30) < ((-z26) - z27) then (some (0 : Int32)) else (some (1 : Int32)))) fun z20 => lt_ (if z20 = 0 then ((0 : Int32)) else (((1 : Int32) <<< (x2_4 &&& 31)))) fun z34 => lp_X8_game_4 fa0_town fu (x1_4 ||| z34) (x2_4 + (1 : Int32)))
noncomputable def sp_X8_game (fa0_town : Nat → Int32) : Option (Int32) := Option.bind (lp_X8_game_4 fa0_town FU (0 : Int32) (0 : Int32)) fun z1 => some z1.1
set_option maxHeartbeats 4000000 in
set_option maxRecDepth 100000 in
theorem c_X8_game (l : Launch) (E : wE) (a0 a0_text a0_town a0_draft a0_tried a0_images a0_kept a0_refused a0_line a0_best : Nat) (a0_letters : Int32) (a0_above : Int64) (a0_below : Int64) (a0_at : Int32) (a0_start : Int32) (a0_isWell : Int32) (a0_faultAt : Int32) (fa0_town : Nat → Int32) (z : Int32) (hsp : sp_X8_game fa0_town = some z) : MR l yX8_game cX8_game 7 (some .int) 3 E [.ref a0] [(a0, .inr (5, [.ref a0_text, .int a0_letters, .ref a0_town, .ref a0_draft, .ref a0_tried, .ref a0_images, .ref a0_kept, .ref a0_refused, .long a0_above, .long a0_below, .ref a0_line, .ref a0_best, .int a0_at, .int a0_start, .int a0_isWell, .int a0_faultAt])), (a0_town, aI E 682 fa0_town)] (some (.int z)) := by
  refine MR.of (by decide +kernel) (Nat.le_of_ble_eq_true rfl) ?_
  intro p e s m below meth c ls hX hK hP hl
  have hX : CX p s m [.ref a0].toArray meth c cX8_game 7 (some .int) RX8 := hX
  have hx := hX.1; have hb := hX.2.1; have hts := hX.2.2.2.2.1; have hown := hX.2.2.2.2.2.1
  have hl : lv_has ls 7 [(0, .ref a0)] := hl
  have hsp : (Option.bind (lp_X8_game_4 fa0_town FU (0 : Int32) (0 : Int32)) fun z1 => some z1.1) = some z := hsp
  refine lv_iconst (v := (0 : Int32)) hx hb dX8_game_0 (by decide) (W.pc 1 rfl ?_)
  refine lv_istore_n (lv' := [(1, .int (0 : Int32)), (0, .ref a0)]) hx hb dX8_game_1 rfl hl (by decide) rfl (fun ls hl => W.pc 2 rfl ?_)
  refine lv_iconst (v := (0 : Int32)) hx hb dX8_game_2 (by decide) (W.pc 3 rfl ?_)
  refine lv_istore_n (lv' := [(2, .int (0 : Int32)), (1, .int (0 : Int32)), (0, .ref a0)]) hx hb dX8_game_3 rfl hl (by decide) rfl (fun ls hl => W.pc 4 rfl ?_)
  have L_4 : ∀ (z1 : Int32 × Int32), (∀ (ls : Array Slot), lv_has ls 7 [(1, .int z1.1)] → W p l e (wR 3) s m [.ref a0].toArray below meth c s.heap [] 0 0 (MQ below (QRd E (some (.int z))) [.ref a0].toArray s 0 0 (fun _ => False)) (F0 m 155 ls [])) → ∀ (fu : Nat) (x1_4 : Int32) (x2_4 : Int32), ∀ (ls : Array Slot), lv_has ls 7 [(0, .ref a0), (1, .int x1_4), (2, .int x2_4)] → lp_X8_game_4 fa0_town fu x1_4 x2_4 = some z1 → W p l e (wR 3) s m [.ref a0].toArray below meth c s.heap [] 0 0 (MQ below (QRd E (some (.int z))) [.ref a0].toArray s 0 0 (fun _ => False)) (F0 m 4 ls []) := by
    intro z1 hk_4 fu
    induction fu with
    | zero => intro x1_4 x2_4 ls hl hsp; exact absurd (show none = some _ from hsp) (by simp)
    | succ fu ih_4 =>
      intro x1_4 x2_4 ls hl hsp
      have hsp : (if (4 : Int32) ≤ x2_4 then (some (x1_4, x2_4)) else (lt_ (if (x2_4 - x2_4 / (2 : Int32) * (2 : Int32)) = (1 : Int32) then ((1 : Int32)) else ((0 : Int32))) fun z3 => lt_ (if x2_4 ≤ (1 : Int32) then ((0 : Int32)) else ((1 : Int32))) fun z6 => Option.bind (sp_X8_offBy z3 z6 fa0_town) fun z9 => lt_ (if z3 = 0 then ((1 : Int32)) else ((0 : Int32))) fun z10 => Option.bind (sp_X8_offBy z10 z6 fa0_town) fun z13 => lt_ (if z3 = 0 then ((1 : Int32)) else ((0 : Int32))) fun z14 => lt_ (if z3 = 0 then ((0 : Int32)) else ((1 : Int32))) fun z17 => Option.bind (if (z9 - z17) < (z13 - z14) then (some (0 : Int32)) else (lt_ (if z6 = 0 then ((1 : Int32)) else ((0 : Int32))) fun z23 => Option.bind (sp_X8_offBy z3 z23 fa0_town) fun z26 => lt_ (if z6 = 0 then ((2 : Int32)) else ((0 : Int32))) fun z27 => lt_ (if z6 = 0 then ((0 : Int32)) else ((2 : Int32))) fun z30 => if ((-z9) - z30) < ((-z26) - z27) then (some (0 : Int32)) else (some (1 : Int32)))) fun z20 => lt_ (if z20 = 0 then ((0 : Int32)) else (((1 : Int32) <<< (x2_4 &&& 31)))) fun z34 => lp_X8_game_4 fa0_town fu (x1_4 ||| z34) (x2_4 + (1 : Int32)))) = some z1 := hsp
      refine lv_iload_n hx hb dX8_game_4 rfl (lv_at hl 2 rfl) (W.pc 5 rfl ?_)
      refine lv_iconst (v := (4 : Int32)) hx hb dX8_game_5 (by decide) (W.pc 6 rfl ?_)
      refine lv_icmp_ge (tgt := 155) hx hb dX8_game_6 (by decide) (fun c2 => ?_) (fun c2 => W.pc 9 rfl ?_)
      · have hsp := ip hsp c2
        obtain rfl := Option.some.inj hsp
        exact hk_4 _ (lv_sub hl [1] rfl)
      · have hsp := iq hsp c2
        refine lv_iload_n hx hb dX8_game_9 rfl (lv_at hl 2 rfl) (W.pc 10 rfl ?_)
        refine lv_iconst (v := (2 : Int32)) hx hb dX8_game_10 (by decide) (W.pc 11 rfl ?_)
        refine lv_irem hx hb dX8_game_11 (by decide) (W.pc 12 rfl ?_)
        refine lv_iconst (v := (1 : Int32)) hx hb dX8_game_12 (by decide) (W.pc 13 rfl ?_)
        obtain ⟨z3, hr_z3, hsp⟩ := ltb_s hsp
        have J4 : ∀ (ls : Array Slot), lv_has ls 7 [(0, .ref a0), (1, .int x1_4), (2, .int x2_4)] → W p l e (wR 3) s m [.ref a0].toArray below meth c s.heap [] 0 0 (MQ below (QRd E (some (.int z))) [.ref a0].toArray s 0 0 (fun _ => False)) (F0 m 21 ls [.int z3]) := by
          intro ls hl
          refine lv_istore_n (lv' := [(3, .int z3), (0, .ref a0), (1, .int x1_4), (2, .int x2_4)]) hx hb dX8_game_21 rfl hl (by decide) rfl (fun ls hl => W.pc 22 rfl ?_)
          refine lv_iload_n hx hb dX8_game_22 rfl (lv_at hl 3 rfl) (W.pc 23 rfl ?_)
          refine lv_iconst (v := (1 : Int32)) hx hb dX8_game_23 (by decide) (W.pc 24 rfl ?_)
          obtain ⟨z6, hr_z6, hsp⟩ := ltb_s hsp
          have J7 : ∀ (ls : Array Slot), lv_has ls 7 [(0, .ref a0), (1, .int x1_4), (2, .int x2_4), (3, .int z3)] → W p l e (wR 3) s m [.ref a0].toArray below meth c s.heap [] 0 0 (MQ below (QRd E (some (.int z))) [.ref a0].toArray s 0 0 (fun _ => False)) (F0 m 32 ls [.int z6]) := by
            intro ls hl
            refine lv_istore (lv' := [(4, .int z6), (0, .ref a0), (1, .int x1_4), (2, .int x2_4), (3, .int z3)]) hx hb dX8_game_32 hl (by decide) rfl (fun ls hl => W.pc 34 rfl ?_)
            refine lv_aload_n hx hb dX8_game_34 rfl (lv_at hl 1 rfl) (W.pc 35 rfl ?_)
            refine lv_iload_n hx hb dX8_game_35 rfl (lv_at hl 4 rfl) (W.pc 36 rfl ?_)
            refine lv_iload hx hb dX8_game_36 (lv_at hl 0 rfl) (W.pc 38 rfl ?_)
            obtain ⟨z9, hr_z9, hsp⟩ := bd_s hsp
            refine kVR (st1 := [.int z9]) hX (c_X8_offBy l E a0 a0_text a0_town a0_draft a0_tried a0_images a0_kept a0_refused a0_line a0_best z3 z6 a0_letters a0_above a0_below a0_at a0_start a0_isWell a0_faultAt fa0_town z9 hr_z9) B_X8_offBy w_5_170 hK (hP.pick [0, 1] rfl) (q0 := 0) (ci := 5) rfl rfl rfl rfl hl.1 rfl (Nat.le_of_ble_eq_true rfl) ⟨Nat.le_of_ble_eq_true rfl, Nat.le_of_ble_eq_true rfl⟩ dX8_game_38 rfl (W.pc 41 rfl ?_)
            refine lv_istore (lv' := [(5, .int z9), (4, .int z6), (0, .ref a0), (1, .int x1_4), (2, .int x2_4), (3, .int z3)]) hx hb dX8_game_41 hl (by decide) rfl (fun ls hl => W.pc 43 rfl ?_)
            refine lv_aload_n hx hb dX8_game_43 rfl (lv_at hl 2 rfl) (W.pc 44 rfl ?_)
            refine lv_iload_n hx hb dX8_game_44 rfl (lv_at hl 5 rfl) (W.pc 45 rfl ?_)
            obtain ⟨z10, hr_z10, hsp⟩ := ltb_s hsp
            have J11 : ∀ (ls : Array Slot), lv_has ls 7 [(0, .ref a0), (1, .int x1_4), (2, .int x2_4), (3, .int z3), (4, .int z6), (5, .int z9)] → W p l e (wR 3) s m [.ref a0].toArray below meth c s.heap [] 0 0 (MQ below (QRd E (some (.int z))) [.ref a0].toArray s 0 0 (fun _ => False)) (F0 m 53 ls [.int z10, .ref a0]) := by
              intro ls hl
              refine lv_iload hx hb dX8_game_53 (lv_at hl 4 rfl) (W.pc 55 rfl ?_)
              obtain ⟨z13, hr_z13, hsp⟩ := bd_s hsp
              refine kVR (st1 := [.int z13]) hX (c_X8_offBy l E a0 a0_text a0_town a0_draft a0_tried a0_images a0_kept a0_refused a0_line a0_best z10 z6 a0_letters a0_above a0_below a0_at a0_start a0_isWell a0_faultAt fa0_town z13 hr_z13) B_X8_offBy w_5_170 hK (hP.pick [0, 1] rfl) (q0 := 0) (ci := 5) rfl rfl rfl rfl hl.1 rfl (Nat.le_of_ble_eq_true rfl) ⟨Nat.le_of_ble_eq_true rfl, Nat.le_of_ble_eq_true rfl⟩ dX8_game_55 rfl (W.pc 58 rfl ?_)
              refine lv_iload_n hx hb dX8_game_58 rfl (lv_at hl 3 rfl) (W.pc 59 rfl ?_)
              obtain ⟨z14, hr_z14, hsp⟩ := ltb_s hsp
              have J15 : ∀ (ls : Array Slot), lv_has ls 7 [(0, .ref a0), (1, .int x1_4), (2, .int x2_4), (3, .int z3), (4, .int z6), (5, .int z9)] → W p l e (wR 3) s m [.ref a0].toArray below meth c s.heap [] 0 0 (MQ below (QRd E (some (.int z))) [.ref a0].toArray s 0 0 (fun _ => False)) (F0 m 67 ls [.int z14, .int z13]) := by
                intro ls hl
                refine lv_isub hx hb dX8_game_67 (W.pc 68 rfl ?_)
                refine lv_iload hx hb dX8_game_68 (lv_at hl 5 rfl) (W.pc 70 rfl ?_)
                refine lv_iload_n hx hb dX8_game_70 rfl (lv_at hl 3 rfl) (W.pc 71 rfl ?_)
                obtain ⟨z17, hr_z17, hsp⟩ := ltb_s hsp
                have J18 : ∀ (ls : Array Slot), lv_has ls 7 [(0, .ref a0), (1, .int x1_4), (2, .int x2_4), (3, .int z3), (4, .int z6), (5, .int z9)] → W p l e (wR 3) s m [.ref a0].toArray below meth c s.heap [] 0 0 (MQ below (QRd E (some (.int z))) [.ref a0].toArray s 0 0 (fun _ => False)) (F0 m 79 ls [.int z17, .int z9, .int (z13 - z14)]) := by
                  intro ls hl
                  refine lv_isub hx hb dX8_game_79 (W.pc 80 rfl ?_)
                  obtain ⟨z20, hr_z20, hsp⟩ := bd_s hsp
                  have J21 : ∀ (ls : Array Slot), lv_has ls 7 [(0, .ref a0), (1, .int x1_4), (2, .int x2_4)] → W p l e (wR 3) s m [.ref a0].toArray below meth c s.heap [] 0 0 (MQ below (QRd E (some (.int z))) [.ref a0].toArray s 0 0 (fun _ => False)) (F0 m 132 ls [.int z20]) := by
                    intro ls hl
                    refine lv_istore (lv' := [(6, .int z20), (0, .ref a0), (1, .int x1_4), (2, .int x2_4)]) hx hb dX8_game_132 hl (by decide) rfl (fun ls hl => W.pc 134 rfl ?_)
                    refine lv_iload_n hx hb dX8_game_134 rfl (lv_at hl 2 rfl) (W.pc 135 rfl ?_)
                    refine lv_iload hx hb dX8_game_135 (lv_at hl 0 rfl) (W.pc 137 rfl ?_)
                    obtain ⟨z34, hr_z34, hsp⟩ := ltb_s hsp
                    have J35 : ∀ (ls : Array Slot), lv_has ls 7 [(0, .ref a0), (2, .int x2_4)] → W p l e (wR 3) s m [.ref a0].toArray below meth c s.heap [] 0 0 (MQ below (QRd E (some (.int z))) [.ref a0].toArray s 0 0 (fun _ => False)) (F0 m 147 ls [.int z34, .int x1_4]) := by
                      intro ls hl
                      refine lv_ior hx hb dX8_game_147 (W.pc 148 rfl ?_)
                      refine lv_istore_n (lv' := [(1, .int (x1_4 ||| z34)), (0, .ref a0), (2, .int x2_4)]) hx hb dX8_game_148 rfl hl (by decide) rfl (fun ls hl => W.pc 149 rfl ?_)
                      refine lv_iinc (v := (x2_4 + (1 : Int32))) (lv' := [(2, .int (x2_4 + (1 : Int32))), (1, .int (x1_4 ||| z34)), (0, .ref a0)]) hx hb dX8_game_149 hl (k := 2) rfl rfl (by decide) rfl (fun ls hl => W.pc 152 rfl ?_)
                      refine lv_goto (tgt := 4) hx hb dX8_game_152 (by decide) ?_
                      exact ih_4 (x1_4 ||| z34) (x2_4 + (1 : Int32)) _ (lv_sub hl [2, 1, 0] rfl) hsp
                    replace hsp := hr_z34
                    refine lv_if_eq (tgt := 146) hx hb dX8_game_137 (by decide) (fun c36 => ?_) (fun c36 => W.pc 140 rfl ?_)
                    · have hsp := ip hsp c36
                      refine lv_iconst (v := (0 : Int32)) hx hb dX8_game_146 (by decide) (W.pc 147 rfl ?_)
                      subst hsp
                      exact J35 _ (lv_sub hl [1, 3] rfl)
                    · have hsp := iq hsp c36
                      refine lv_iconst (v := (1 : Int32)) hx hb dX8_game_140 (by decide) (W.pc 141 rfl ?_)
                      refine lv_iload_n hx hb dX8_game_141 rfl (lv_at hl 3 rfl) (W.pc 142 rfl ?_)
                      refine lv_ishl hx hb dX8_game_142 (W.pc 143 rfl ?_)
                      refine lv_goto (tgt := 147) hx hb dX8_game_143 (by decide) ?_
                      subst hsp
                      exact J35 _ (lv_sub hl [1, 3] rfl)
                  replace hsp := hr_z20
                  refine lv_icmp_gt (tgt := 131) hx hb dX8_game_80 (by decide) (fun c22 => ?_) (fun c22 => W.pc 83 rfl ?_)
                  · have hsp := ip hsp c22
                    refine lv_iconst (v := (0 : Int32)) hx hb dX8_game_131 (by decide) (W.pc 132 rfl ?_)
                    obtain rfl := Option.some.inj hsp
                    exact J21 _ (lv_sub hl [0, 1, 2] rfl)
                  · have hsp := iq hsp c22
                    refine lv_aload_n hx hb dX8_game_83 rfl (lv_at hl 0 rfl) (W.pc 84 rfl ?_)
                    refine lv_iload_n hx hb dX8_game_84 rfl (lv_at hl 3 rfl) (W.pc 85 rfl ?_)
                    refine lv_iload hx hb dX8_game_85 (lv_at hl 4 rfl) (W.pc 87 rfl ?_)
                    obtain ⟨z23, hr_z23, hsp⟩ := ltb_s hsp
                    have J24 : ∀ (ls : Array Slot), lv_has ls 7 [(0, .ref a0), (1, .int x1_4), (2, .int x2_4), (4, .int z6), (5, .int z9)] → W p l e (wR 3) s m [.ref a0].toArray below meth c s.heap [] 0 0 (MQ below (QRd E (some (.int z))) [.ref a0].toArray s 0 0 (fun _ => False)) (F0 m 95 ls [.int z23, .int z3, .ref a0]) := by
                      intro ls hl
                      obtain ⟨z26, hr_z26, hsp⟩ := bd_s hsp
                      refine kVR (st1 := [.int z26]) hX (c_X8_offBy l E a0 a0_text a0_town a0_draft a0_tried a0_images a0_kept a0_refused a0_line a0_best z3 z23 a0_letters a0_above a0_below a0_at a0_start a0_isWell a0_faultAt fa0_town z26 hr_z26) B_X8_offBy w_5_170 hK (hP.pick [0, 1] rfl) (q0 := 0) (ci := 5) rfl rfl rfl rfl hl.1 rfl (Nat.le_of_ble_eq_true rfl) ⟨Nat.le_of_ble_eq_true rfl, Nat.le_of_ble_eq_true rfl⟩ dX8_game_95 rfl (W.pc 98 rfl ?_)
                      refine lv_ineg hx hb dX8_game_98 (W.pc 99 rfl ?_)
                      refine lv_iload hx hb dX8_game_99 (lv_at hl 3 rfl) (W.pc 101 rfl ?_)
                      obtain ⟨z27, hr_z27, hsp⟩ := ltb_s hsp
                      have J28 : ∀ (ls : Array Slot), lv_has ls 7 [(0, .ref a0), (1, .int x1_4), (2, .int x2_4), (4, .int z6), (5, .int z9)] → W p l e (wR 3) s m [.ref a0].toArray below meth c s.heap [] 0 0 (MQ below (QRd E (some (.int z))) [.ref a0].toArray s 0 0 (fun _ => False)) (F0 m 109 ls [.int z27, .int (-z26)]) := by
                        intro ls hl
                        refine lv_isub hx hb dX8_game_109 (W.pc 110 rfl ?_)
                        refine lv_iload hx hb dX8_game_110 (lv_at hl 4 rfl) (W.pc 112 rfl ?_)
                        refine lv_ineg hx hb dX8_game_112 (W.pc 113 rfl ?_)
                        refine lv_iload hx hb dX8_game_113 (lv_at hl 3 rfl) (W.pc 115 rfl ?_)
                        obtain ⟨z30, hr_z30, hsp⟩ := ltb_s hsp
                        have J31 : ∀ (ls : Array Slot), lv_has ls 7 [(0, .ref a0), (1, .int x1_4), (2, .int x2_4)] → W p l e (wR 3) s m [.ref a0].toArray below meth c s.heap [] 0 0 (MQ below (QRd E (some (.int z))) [.ref a0].toArray s 0 0 (fun _ => False)) (F0 m 123 ls [.int z30, .int (-z9), .int ((-z26) - z27)]) := by
                          intro ls hl
                          refine lv_isub hx hb dX8_game_123 (W.pc 124 rfl ?_)
                          refine lv_icmp_gt (tgt := 131) hx hb dX8_game_124 (by decide) (fun c33 => ?_) (fun c33 => W.pc 127 rfl ?_)
                          · have hsp := ip hsp c33
                            refine lv_iconst (v := (0 : Int32)) hx hb dX8_game_131 (by decide) (W.pc 132 rfl ?_)
                            obtain rfl := Option.some.inj hsp
                            exact J21 _ (lv_sub hl [0, 1, 2] rfl)
                          · have hsp := iq hsp c33
                            refine lv_iconst (v := (1 : Int32)) hx hb dX8_game_127 (by decide) (W.pc 128 rfl ?_)
                            refine lv_goto (tgt := 132) hx hb dX8_game_128 (by decide) ?_
                            obtain rfl := Option.some.inj hsp
                            exact J21 _ (lv_sub hl [0, 1, 2] rfl)
                        replace hsp := hr_z30
                        refine lv_if_eq (tgt := 122) hx hb dX8_game_115 (by decide) (fun c32 => ?_) (fun c32 => W.pc 118 rfl ?_)
                        · have hsp := ip hsp c32
                          refine lv_iconst (v := (0 : Int32)) hx hb dX8_game_122 (by decide) (W.pc 123 rfl ?_)
                          subst hsp
                          exact J31 _ (lv_sub hl [0, 1, 2] rfl)
                        · have hsp := iq hsp c32
                          refine lv_iconst (v := (2 : Int32)) hx hb dX8_game_118 (by decide) (W.pc 119 rfl ?_)
                          refine lv_goto (tgt := 123) hx hb dX8_game_119 (by decide) ?_
                          subst hsp
                          exact J31 _ (lv_sub hl [0, 1, 2] rfl)
                      replace hsp := hr_z27
                      refine lv_if_eq (tgt := 108) hx hb dX8_game_101 (by decide) (fun c29 => ?_) (fun c29 => W.pc 104 rfl ?_)
                      · have hsp := ip hsp c29
                        refine lv_iconst (v := (2 : Int32)) hx hb dX8_game_108 (by decide) (W.pc 109 rfl ?_)
                        subst hsp
                        exact J28 _ (lv_sub hl [0, 1, 2, 3, 4] rfl)
                      · have hsp := iq hsp c29
                        refine lv_iconst (v := (0 : Int32)) hx hb dX8_game_104 (by decide) (W.pc 105 rfl ?_)
                        refine lv_goto (tgt := 109) hx hb dX8_game_105 (by decide) ?_
                        subst hsp
                        exact J28 _ (lv_sub hl [0, 1, 2, 3, 4] rfl)
                    replace hsp := hr_z23
                    refine lv_if_ne (tgt := 94) hx hb dX8_game_87 (by decide) (fun c25 => ?_) (fun c25 => W.pc 90 rfl ?_)
                    · have hsp := iq hsp c25
                      refine lv_iconst (v := (0 : Int32)) hx hb dX8_game_94 (by decide) (W.pc 95 rfl ?_)
                      subst hsp
                      exact J24 _ (lv_sub hl [0, 1, 2, 4, 5] rfl)
                    · have hsp := ip hsp c25
                      refine lv_iconst (v := (1 : Int32)) hx hb dX8_game_90 (by decide) (W.pc 91 rfl ?_)
                      refine lv_goto (tgt := 95) hx hb dX8_game_91 (by decide) ?_
                      subst hsp
                      exact J24 _ (lv_sub hl [0, 1, 2, 4, 5] rfl)
                replace hsp := hr_z17
                refine lv_if_eq (tgt := 78) hx hb dX8_game_71 (by decide) (fun c19 => ?_) (fun c19 => W.pc 74 rfl ?_)
                · have hsp := ip hsp c19
                  refine lv_iconst (v := (0 : Int32)) hx hb dX8_game_78 (by decide) (W.pc 79 rfl ?_)
                  subst hsp
                  exact J18 _ (lv_sub hl [0, 1, 2, 3, 4, 5] rfl)
                · have hsp := iq hsp c19
                  refine lv_iconst (v := (1 : Int32)) hx hb dX8_game_74 (by decide) (W.pc 75 rfl ?_)
                  refine lv_goto (tgt := 79) hx hb dX8_game_75 (by decide) ?_
                  subst hsp
                  exact J18 _ (lv_sub hl [0, 1, 2, 3, 4, 5] rfl)
              replace hsp := hr_z14
              refine lv_if_eq (tgt := 66) hx hb dX8_game_59 (by decide) (fun c16 => ?_) (fun c16 => W.pc 62 rfl ?_)
              · have hsp := ip hsp c16
                refine lv_iconst (v := (1 : Int32)) hx hb dX8_game_66 (by decide) (W.pc 67 rfl ?_)
                subst hsp
                exact J15 _ (lv_sub hl [0, 1, 2, 3, 4, 5] rfl)
              · have hsp := iq hsp c16
                refine lv_iconst (v := (0 : Int32)) hx hb dX8_game_62 (by decide) (W.pc 63 rfl ?_)
                refine lv_goto (tgt := 67) hx hb dX8_game_63 (by decide) ?_
                subst hsp
                exact J15 _ (lv_sub hl [0, 1, 2, 3, 4, 5] rfl)
            replace hsp := hr_z10
            refine lv_if_ne (tgt := 52) hx hb dX8_game_45 (by decide) (fun c12 => ?_) (fun c12 => W.pc 48 rfl ?_)
            · have hsp := iq hsp c12
              refine lv_iconst (v := (0 : Int32)) hx hb dX8_game_52 (by decide) (W.pc 53 rfl ?_)
              subst hsp
              exact J11 _ (lv_sub hl [2, 3, 4, 5, 1, 0] rfl)
            · have hsp := ip hsp c12
              refine lv_iconst (v := (1 : Int32)) hx hb dX8_game_48 (by decide) (W.pc 49 rfl ?_)
              refine lv_goto (tgt := 53) hx hb dX8_game_49 (by decide) ?_
              subst hsp
              exact J11 _ (lv_sub hl [2, 3, 4, 5, 1, 0] rfl)
          replace hsp := hr_z6
          refine lv_icmp_le (tgt := 31) hx hb dX8_game_24 (by decide) (fun c8 => ?_) (fun c8 => W.pc 27 rfl ?_)
          · have hsp := ip hsp c8
            refine lv_iconst (v := (0 : Int32)) hx hb dX8_game_31 (by decide) (W.pc 32 rfl ?_)
            subst hsp
            exact J7 _ (lv_sub hl [1, 2, 3, 0] rfl)
          · have hsp := iq hsp c8
            refine lv_iconst (v := (1 : Int32)) hx hb dX8_game_27 (by decide) (W.pc 28 rfl ?_)
            refine lv_goto (tgt := 32) hx hb dX8_game_28 (by decide) ?_
            subst hsp
            exact J7 _ (lv_sub hl [1, 2, 3, 0] rfl)
        replace hsp := hr_z3
        refine lv_icmp_ne (tgt := 20) hx hb dX8_game_13 (by decide) (fun c5 => ?_) (fun c5 => W.pc 16 rfl ?_)
        · have hsp := iq hsp c5
          refine lv_iconst (v := (0 : Int32)) hx hb dX8_game_20 (by decide) (W.pc 21 rfl ?_)
          subst hsp
          exact J4 _ (lv_sub hl [0, 1, 2] rfl)
        · have hsp := ip hsp c5
          refine lv_iconst (v := (1 : Int32)) hx hb dX8_game_16 (by decide) (W.pc 17 rfl ?_)
          refine lv_goto (tgt := 21) hx hb dX8_game_17 (by decide) ?_
          subst hsp
          exact J4 _ (lv_sub hl [0, 1, 2] rfl)
  obtain ⟨z1, hr_z1, hsp⟩ := bd_s hsp
  refine L_4 z1 (fun ls hl => ?_) FU (0 : Int32) (0 : Int32) _ (lv_sub hl [2, 1, 0] rfl) hr_z1
  refine lv_iload_n hx hb dX8_game_155 rfl (lv_at hl 0 rfl) (W.pc 156 rfl ?_)
  obtain rfl := Option.some.inj hsp
  exact rRi hX rfl dX8_game_156
