theorem w_3_66 : Cond.methodLink RX7 180 yX6_offBehind ∈ TBL := TBL_t (tin3 (List.mem_of_getElem? (i := 66) (by decide +kernel))) (by decide +kernel)
theorem w_3_84 : Cond.methodLink RX7 191 yJ6_compare_7cf53 ∈ TBL := TBL_t (tin3 (List.mem_of_getElem? (i := 84) (by decide +kernel))) (by decide +kernel)
theorem w_3_91 : Cond.methodLink RX7 196 yX7_levelPlots ∈ TBL := TBL_t (tin3 (List.mem_of_getElem? (i := 91) (by decide +kernel))) (by decide +kernel)
theorem w_3_95 : Cond.methodLink RX7 199 yX7_steps ∈ TBL := TBL_t (tin3 (List.mem_of_getElem? (i := 95) (by decide +kernel))) (by decide +kernel)
theorem w_3_103 : Cond.methodLink RX7 202 yJ9_min_7cf53 ∈ TBL := TBL_t (tin3 (List.mem_of_getElem? (i := 103) (by decide +kernel))) (by decide +kernel)
theorem w_3_142 : Cond.methodLink RX7 227 yX7_yesVotes ∈ TBL := TBL_t (tin3 (List.mem_of_getElem? (i := 142) (by decide +kernel))) (by decide +kernel)
theorem w_3_146 : Cond.methodLink RX7 230 yX7_carries ∈ TBL := TBL_t (tin3 (List.mem_of_getElem? (i := 146) (by decide +kernel))) (by decide +kernel)
theorem w_3_68 : Cond.selects yX6_offBehind.cls yX6_offBehind yX6_offBehind ∈ TBL := TBL_t (tin3 (List.mem_of_getElem? (i := 68) (by decide +kernel))) (by decide +kernel)
theorem w_3_69 : Cond.code yX6_offBehind cX6_offBehind 3 (some .int) ∈ TBL := TBL_t (tin3 (List.mem_of_getElem? (i := 69) (by decide +kernel))) (by decide +kernel)
theorem w_3_67 : Cond.instanceMethod yX6_offBehind ∈ TBL := TBL_t (tin3 (List.mem_of_getElem? (i := 67) (by decide +kernel))) (by decide +kernel)
theorem w_3_86 : Cond.code yJ6_compare_7cf53 cJ6_compare_7cf53 2 (some .int) ∈ TBL := TBL_t (tin3 (List.mem_of_getElem? (i := 86) (by decide +kernel))) (by decide +kernel)
theorem w_3_85 : Cond.static yJ6_compare_7cf53 ∈ TBL := TBL_t (tin3 (List.mem_of_getElem? (i := 85) (by decide +kernel))) (by decide +kernel)
theorem w_3_94 : Cond.code yX7_levelPlots cX7_levelPlots 3 (some .int) ∈ TBL := TBL_t (tin3 (List.mem_of_getElem? (i := 94) (by decide +kernel))) (by decide +kernel)
theorem w_3_93 : Cond.instanceMethod yX7_levelPlots ∈ TBL := TBL_t (tin3 (List.mem_of_getElem? (i := 93) (by decide +kernel))) (by decide +kernel)
theorem w_3_98 : Cond.code yX7_steps cX7_steps 3 (some .int) ∈ TBL := TBL_t (tin3 (List.mem_of_getElem? (i := 98) (by decide +kernel))) (by decide +kernel)
theorem w_3_97 : Cond.instanceMethod yX7_steps ∈ TBL := TBL_t (tin3 (List.mem_of_getElem? (i := 97) (by decide +kernel))) (by decide +kernel)
theorem w_3_145 : Cond.code yX7_yesVotes cX7_yesVotes 4 (some .int) ∈ TBL := TBL_t (tin3 (List.mem_of_getElem? (i := 145) (by decide +kernel))) (by decide +kernel)
theorem w_3_144 : Cond.instanceMethod yX7_yesVotes ∈ TBL := TBL_t (tin3 (List.mem_of_getElem? (i := 144) (by decide +kernel))) (by decide +kernel)
theorem w_3_149 : Cond.code yX7_carries cX7_carries 2 (some .boolean) ∈ TBL := TBL_t (tin3 (List.mem_of_getElem? (i := 149) (by decide +kernel))) (by decide +kernel)
theorem w_3_148 : Cond.instanceMethod yX7_carries ∈ TBL := TBL_t (tin3 (List.mem_of_getElem? (i := 148) (by decide +kernel))) (by decide +kernel)
theorem ws_16 : Cond.selects yX7_levelPlots.cls yX7_levelPlots yX7_levelPlots ∈ TBL := TBL_s (List.mem_of_getElem? (i := 16) (by decide +kernel)) (by decide +kernel)
theorem ws_17 : Cond.selects yX7_steps.cls yX7_steps yX7_steps ∈ TBL := TBL_s (List.mem_of_getElem? (i := 17) (by decide +kernel)) (by decide +kernel)
theorem ws_19 : Cond.selects yX7_yesVotes.cls yX7_yesVotes yX7_yesVotes ∈ TBL := TBL_s (List.mem_of_getElem? (i := 19) (by decide +kernel)) (by decide +kernel)
theorem ws_20 : Cond.selects yX7_carries.cls yX7_carries yX7_carries ∈ TBL := TBL_s (List.mem_of_getElem? (i := 20) (by decide +kernel)) (by decide +kernel)
theorem B_X6_offBehind : cV yX6_offBehind cX6_offBehind 3 (some .int) 2 := ⟨w_3_69, w_3_67, w_3_68, w_1_2, by decide +kernel⟩
theorem B_J6_compare_7cf53 : cS yJ6_compare_7cf53 cJ6_compare_7cf53 2 (some .int) 2 := ⟨w_3_86, w_3_85, w_1_16, by decide +kernel⟩
theorem B_X7_levelPlots : cV yX7_levelPlots cX7_levelPlots 3 (some .int) 0 := ⟨w_3_94, w_3_93, (ws_16), w_1_1, by decide +kernel⟩
theorem B_X7_steps : cV yX7_steps cX7_steps 3 (some .int) 0 := ⟨w_3_98, w_3_97, (ws_17), w_1_1, by decide +kernel⟩
theorem B_X7_yesVotes : cV yX7_yesVotes cX7_yesVotes 4 (some .int) 1 := ⟨w_3_145, w_3_144, (ws_19), w_1_1, by decide +kernel⟩
theorem B_X7_carries : cV yX7_carries cX7_carries 2 (some .boolean) 1 := ⟨w_3_149, w_3_148, (ws_20), w_1_1, by decide +kernel⟩
theorem dX7_then_0 : decode cX7_then 0 = .ok (.iload_n 1, 1) := by decide +kernel
theorem dX7_then_1 : decode cX7_then 1 = .ok (.iconst 0, 1) := by decide +kernel
theorem dX7_then_2 : decode cX7_then 2 = .ok (.bipush 99, 2) := by decide +kernel
theorem dX7_then_4 : decode cX7_then 4 = .ok (.invokestatic 77, 3) := by decide +kernel
theorem dX7_then_7 : decode cX7_then 7 = .ok (.ifCond .ne 10, 3) := by decide +kernel
theorem dX7_then_10 : decode cX7_then 10 = .ok (.aload_n 0, 1) := by decide +kernel
theorem dX7_then_11 : decode cX7_then 11 = .ok (.bipush (-100), 2) := by decide +kernel
theorem dX7_then_13 : decode cX7_then 13 = .ok (.invokevirtual 62, 3) := by decide +kernel
theorem dX7_then_16 : decode cX7_then 16 = .ok (.ireturn, 1) := by decide +kernel
theorem dX7_then_17 : decode cX7_then 17 = .ok (.aload_n 0, 1) := by decide +kernel
theorem dX7_then_18 : decode cX7_then 18 = .ok (.getfield 10, 3) := by decide +kernel
theorem dX7_then_21 : decode cX7_then 21 = .ok (.getfield 66, 3) := by decide +kernel
theorem dX7_then_24 : decode cX7_then 24 = .ok (.getfield 143, 3) := by decide +kernel
theorem dX7_then_27 : decode cX7_then 27 = .ok (.istore_n 2, 1) := by decide +kernel
theorem dX7_then_28 : decode cX7_then 28 = .ok (.iconst 0, 1) := by decide +kernel
theorem dX7_then_29 : decode cX7_then 29 = .ok (.istore_n 3, 1) := by decide +kernel
theorem dX7_then_30 : decode cX7_then 30 = .ok (.iload_n 3, 1) := by decide +kernel
theorem dX7_then_31 : decode cX7_then 31 = .ok (.iload_n 1, 1) := by decide +kernel
theorem dX7_then_32 : decode cX7_then 32 = .ok (.if_icmp .ge 30, 3) := by decide +kernel
theorem dX7_then_35 : decode cX7_then 35 = .ok (.aload_n 0, 1) := by decide +kernel
theorem dX7_then_36 : decode cX7_then 36 = .ok (.getfield 10, 3) := by decide +kernel
theorem dX7_then_39 : decode cX7_then 39 = .ok (.aload_n 0, 1) := by decide +kernel
theorem dX7_then_40 : decode cX7_then 40 = .ok (.getfield 10, 3) := by decide +kernel
theorem dX7_then_43 : decode cX7_then 43 = .ok (.getfield 66, 3) := by decide +kernel
theorem dX7_then_46 : decode cX7_then 46 = .ok (.getfield 152, 3) := by decide +kernel
theorem dX7_then_49 : decode cX7_then 49 = .ok (.iload_n 3, 1) := by decide +kernel
theorem dX7_then_50 : decode cX7_then 50 = .ok (.iadd, 1) := by decide +kernel
theorem dX7_then_51 : decode cX7_then 51 = .ok (.iload_n 2, 1) := by decide +kernel
theorem dX7_then_52 : decode cX7_then 52 = .ok (.invokevirtual 180, 3) := by decide +kernel
theorem dX7_then_55 : decode cX7_then 55 = .ok (.istore_n 2, 1) := by decide +kernel
theorem dX7_then_56 : decode cX7_then 56 = .ok (.iinc 3 1, 3) := by decide +kernel
theorem dX7_then_59 : decode cX7_then 59 = .ok (.goto (-29), 3) := by decide +kernel
theorem dX7_then_62 : decode cX7_then 62 = .ok (.iload_n 2, 1) := by decide +kernel
theorem dX7_then_63 : decode cX7_then 63 = .ok (.ireturn, 1) := by decide +kernel
theorem dX7_when_0 : decode cX7_when 0 = .ok (.iload_n 1, 1) := by decide +kernel
theorem dX7_when_1 : decode cX7_when 1 = .ok (.iconst 1, 1) := by decide +kernel
theorem dX7_when_2 : decode cX7_when 2 = .ok (.bipush 9, 2) := by decide +kernel
theorem dX7_when_4 : decode cX7_when 4 = .ok (.invokestatic 77, 3) := by decide +kernel
theorem dX7_when_7 : decode cX7_when 7 = .ok (.ifCond .ne 10, 3) := by decide +kernel
theorem dX7_when_10 : decode cX7_when 10 = .ok (.aload_n 0, 1) := by decide +kernel
theorem dX7_when_11 : decode cX7_when 11 = .ok (.bipush (-2), 2) := by decide +kernel
theorem dX7_when_13 : decode cX7_when 13 = .ok (.invokevirtual 62, 3) := by decide +kernel
theorem dX7_when_16 : decode cX7_when 16 = .ok (.ireturn, 1) := by decide +kernel
theorem dX7_when_17 : decode cX7_when 17 = .ok (.aload_n 0, 1) := by decide +kernel
theorem dX7_when_18 : decode cX7_when 18 = .ok (.getfield 10, 3) := by decide +kernel
theorem dX7_when_21 : decode cX7_when 21 = .ok (.getfield 66, 3) := by decide +kernel
theorem dX7_when_24 : decode cX7_when 24 = .ok (.getfield 143, 3) := by decide +kernel
theorem dX7_when_27 : decode cX7_when 27 = .ok (.istore_n 2, 1) := by decide +kernel
theorem dX7_when_28 : decode cX7_when 28 = .ok (.iconst 0, 1) := by decide +kernel
theorem dX7_when_29 : decode cX7_when 29 = .ok (.istore_n 3, 1) := by decide +kernel
theorem dX7_when_30 : decode cX7_when 30 = .ok (.iload_n 3, 1) := by decide +kernel
theorem dX7_when_31 : decode cX7_when 31 = .ok (.bipush 99, 2) := by decide +kernel
theorem dX7_when_33 : decode cX7_when 33 = .ok (.if_icmp .gt 40, 3) := by decide +kernel
theorem dX7_when_36 : decode cX7_when 36 = .ok (.iload_n 2, 1) := by decide +kernel
theorem dX7_when_37 : decode cX7_when 37 = .ok (.invokestatic 183, 3) := by decide +kernel
theorem dX7_when_40 : decode cX7_when 40 = .ok (.iload_n 1, 1) := by decide +kernel
theorem dX7_when_41 : decode cX7_when 41 = .ok (.if_icmp .lt 5, 3) := by decide +kernel
theorem dX7_when_44 : decode cX7_when 44 = .ok (.iload_n 3, 1) := by decide +kernel
theorem dX7_when_45 : decode cX7_when 45 = .ok (.ireturn, 1) := by decide +kernel
theorem dX7_when_46 : decode cX7_when 46 = .ok (.aload_n 0, 1) := by decide +kernel
theorem dX7_when_47 : decode cX7_when 47 = .ok (.getfield 10, 3) := by decide +kernel
theorem dX7_when_50 : decode cX7_when 50 = .ok (.aload_n 0, 1) := by decide +kernel
theorem dX7_when_51 : decode cX7_when 51 = .ok (.getfield 10, 3) := by decide +kernel
theorem dX7_when_54 : decode cX7_when 54 = .ok (.getfield 66, 3) := by decide +kernel
theorem dX7_when_57 : decode cX7_when 57 = .ok (.getfield 152, 3) := by decide +kernel
theorem dX7_when_60 : decode cX7_when 60 = .ok (.iload_n 3, 1) := by decide +kernel
theorem dX7_when_61 : decode cX7_when 61 = .ok (.iadd, 1) := by decide +kernel
theorem dX7_when_62 : decode cX7_when 62 = .ok (.iload_n 2, 1) := by decide +kernel
theorem dX7_when_63 : decode cX7_when 63 = .ok (.invokevirtual 180, 3) := by decide +kernel
theorem dX7_when_66 : decode cX7_when 66 = .ok (.istore_n 2, 1) := by decide +kernel
theorem dX7_when_67 : decode cX7_when 67 = .ok (.iinc 3 1, 3) := by decide +kernel
theorem dX7_when_70 : decode cX7_when 70 = .ok (.goto (-40), 3) := by decide +kernel
theorem dX7_when_73 : decode cX7_when 73 = .ok (.iconst (-1), 1) := by decide +kernel
theorem dX7_when_74 : decode cX7_when 74 = .ok (.ireturn, 1) := by decide +kernel
theorem dX7_rolls_0 : decode cX7_rolls 0 = .ok (.iload_n 1, 1) := by decide +kernel
theorem dX7_rolls_1 : decode cX7_rolls 1 = .ok (.invokestatic 161, 3) := by decide +kernel
theorem dX7_rolls_4 : decode cX7_rolls 4 = .ok (.ifCond .ne 10, 3) := by decide +kernel
theorem dX7_rolls_7 : decode cX7_rolls 7 = .ok (.aload_n 0, 1) := by decide +kernel
theorem dX7_rolls_8 : decode cX7_rolls 8 = .ok (.bipush (-2), 2) := by decide +kernel
theorem dX7_rolls_10 : decode cX7_rolls 10 = .ok (.invokevirtual 62, 3) := by decide +kernel
theorem dX7_rolls_13 : decode cX7_rolls 13 = .ok (.ireturn, 1) := by decide +kernel
theorem dX7_rolls_14 : decode cX7_rolls 14 = .ok (.iconst (-1), 1) := by decide +kernel
theorem dX7_rolls_15 : decode cX7_rolls 15 = .ok (.istore_n 2, 1) := by decide +kernel
theorem dX7_rolls_16 : decode cX7_rolls 16 = .ok (.iload_n 1, 1) := by decide +kernel
theorem dX7_rolls_17 : decode cX7_rolls 17 = .ok (.istore_n 3, 1) := by decide +kernel
theorem dX7_rolls_18 : decode cX7_rolls 18 = .ok (.iconst 0, 1) := by decide +kernel
theorem dX7_rolls_19 : decode cX7_rolls 19 = .ok (.istore 4, 2) := by decide +kernel
theorem dX7_rolls_21 : decode cX7_rolls 21 = .ok (.iload 4, 2) := by decide +kernel
theorem dX7_rolls_23 : decode cX7_rolls 23 = .ok (.bipush 6, 2) := by decide +kernel
theorem dX7_rolls_25 : decode cX7_rolls 25 = .ok (.if_icmp .ge 55, 3) := by decide +kernel
theorem dX7_rolls_28 : decode cX7_rolls 28 = .ok (.iload_n 3, 1) := by decide +kernel
theorem dX7_rolls_29 : decode cX7_rolls 29 = .ok (.aload_n 0, 1) := by decide +kernel
theorem dX7_rolls_30 : decode cX7_rolls 30 = .ok (.getfield 10, 3) := by decide +kernel
theorem dX7_rolls_33 : decode cX7_rolls 33 = .ok (.getfield 66, 3) := by decide +kernel
theorem dX7_rolls_36 : decode cX7_rolls 36 = .ok (.iload_n 3, 1) := by decide +kernel
theorem dX7_rolls_37 : decode cX7_rolls 37 = .ok (.invokevirtual 174, 3) := by decide +kernel
theorem dX7_rolls_40 : decode cX7_rolls 40 = .ok (.iconst 0, 1) := by decide +kernel
theorem dX7_rolls_41 : decode cX7_rolls 41 = .ok (.invokestatic 191, 3) := by decide +kernel
theorem dX7_rolls_44 : decode cX7_rolls 44 = .ok (.iadd, 1) := by decide +kernel
theorem dX7_rolls_45 : decode cX7_rolls 45 = .ok (.istore 5, 2) := by decide +kernel
theorem dX7_rolls_47 : decode cX7_rolls 47 = .ok (.iload 5, 2) := by decide +kernel
theorem dX7_rolls_49 : decode cX7_rolls 49 = .ok (.iload_n 3, 1) := by decide +kernel
theorem dX7_rolls_50 : decode cX7_rolls 50 = .ok (.if_icmp .eq 17, 3) := by decide +kernel
theorem dX7_rolls_53 : decode cX7_rolls 53 = .ok (.iload 5, 2) := by decide +kernel
theorem dX7_rolls_55 : decode cX7_rolls 55 = .ok (.iload_n 2, 1) := by decide +kernel
theorem dX7_rolls_56 : decode cX7_rolls 56 = .ok (.if_icmp .eq 11, 3) := by decide +kernel
theorem dX7_rolls_59 : decode cX7_rolls 59 = .ok (.iload 5, 2) := by decide +kernel
theorem dX7_rolls_61 : decode cX7_rolls 61 = .ok (.invokestatic 161, 3) := by decide +kernel
theorem dX7_rolls_64 : decode cX7_rolls 64 = .ok (.ifCond .ne 5, 3) := by decide +kernel
theorem dX7_rolls_67 : decode cX7_rolls 67 = .ok (.iload_n 3, 1) := by decide +kernel
theorem dX7_rolls_68 : decode cX7_rolls 68 = .ok (.ireturn, 1) := by decide +kernel
theorem dX7_rolls_69 : decode cX7_rolls 69 = .ok (.iload_n 3, 1) := by decide +kernel
theorem dX7_rolls_70 : decode cX7_rolls 70 = .ok (.istore_n 2, 1) := by decide +kernel
theorem dX7_rolls_71 : decode cX7_rolls 71 = .ok (.iload 5, 2) := by decide +kernel
theorem dX7_rolls_73 : decode cX7_rolls 73 = .ok (.istore_n 3, 1) := by decide +kernel
theorem dX7_rolls_74 : decode cX7_rolls 74 = .ok (.iinc 4 1, 3) := by decide +kernel
theorem dX7_rolls_77 : decode cX7_rolls 77 = .ok (.goto (-56), 3) := by decide +kernel
theorem dX7_rolls_80 : decode cX7_rolls 80 = .ok (.iload_n 3, 1) := by decide +kernel
theorem dX7_rolls_81 : decode cX7_rolls 81 = .ok (.ireturn, 1) := by decide +kernel
theorem dX7_lies_0 : decode cX7_lies 0 = .ok (.iload_n 1, 1) := by decide +kernel
theorem dX7_lies_1 : decode cX7_lies 1 = .ok (.lookupswitch 37 #[(0, 27), (1, 32)], 27) := by decide +kernel
theorem dX7_lies_28 : decode cX7_lies 28 = .ok (.aload_n 0, 1) := by decide +kernel
theorem dX7_lies_29 : decode cX7_lies 29 = .ok (.invokevirtual 196, 3) := by decide +kernel
theorem dX7_lies_32 : decode cX7_lies 32 = .ok (.ireturn, 1) := by decide +kernel
theorem dX7_lies_33 : decode cX7_lies 33 = .ok (.aload_n 0, 1) := by decide +kernel
theorem dX7_lies_34 : decode cX7_lies 34 = .ok (.invokevirtual 199, 3) := by decide +kernel
theorem dX7_lies_37 : decode cX7_lies 37 = .ok (.ireturn, 1) := by decide +kernel
theorem dX7_lies_38 : decode cX7_lies 38 = .ok (.aload_n 0, 1) := by decide +kernel
theorem dX7_lies_39 : decode cX7_lies 39 = .ok (.bipush (-2), 2) := by decide +kernel
theorem dX7_lies_41 : decode cX7_lies 41 = .ok (.invokevirtual 62, 3) := by decide +kernel
theorem dX7_lies_44 : decode cX7_lies 44 = .ok (.ireturn, 1) := by decide +kernel
theorem dX7_pass_0 : decode cX7_pass 0 = .ok (.iload_n 1, 1) := by decide +kernel
theorem dX7_pass_1 : decode cX7_pass 1 = .ok (.invokestatic 161, 3) := by decide +kernel
theorem dX7_pass_4 : decode cX7_pass 4 = .ok (.ifCond .eq 10, 3) := by decide +kernel
theorem dX7_pass_7 : decode cX7_pass 7 = .ok (.iload_n 2, 1) := by decide +kernel
theorem dX7_pass_8 : decode cX7_pass 8 = .ok (.invokestatic 161, 3) := by decide +kernel
theorem dX7_pass_11 : decode cX7_pass 11 = .ok (.ifCond .ne 10, 3) := by decide +kernel
theorem dX7_pass_14 : decode cX7_pass 14 = .ok (.aload_n 0, 1) := by decide +kernel
theorem dX7_pass_15 : decode cX7_pass 15 = .ok (.bipush (-2), 2) := by decide +kernel
theorem dX7_pass_17 : decode cX7_pass 17 = .ok (.invokevirtual 62, 3) := by decide +kernel
theorem dX7_pass_20 : decode cX7_pass 20 = .ok (.ireturn, 1) := by decide +kernel
theorem dX7_pass_21 : decode cX7_pass 21 = .ok (.aload_n 0, 1) := by decide +kernel
theorem dX7_pass_22 : decode cX7_pass 22 = .ok (.invokevirtual 199, 3) := by decide +kernel
theorem dX7_pass_25 : decode cX7_pass 25 = .ok (.istore_n 3, 1) := by decide +kernel
theorem dX7_pass_26 : decode cX7_pass 26 = .ok (.iload_n 1, 1) := by decide +kernel
theorem dX7_pass_27 : decode cX7_pass 27 = .ok (.iload_n 2, 1) := by decide +kernel
theorem dX7_pass_28 : decode cX7_pass 28 = .ok (.invokestatic 202, 3) := by decide +kernel
theorem dX7_pass_31 : decode cX7_pass 31 = .ok (.istore 4, 2) := by decide +kernel
theorem dX7_pass_33 : decode cX7_pass 33 = .ok (.iload 4, 2) := by decide +kernel
theorem dX7_pass_35 : decode cX7_pass 35 = .ok (.iload_n 1, 1) := by decide +kernel
theorem dX7_pass_36 : decode cX7_pass 36 = .ok (.iload_n 2, 1) := by decide +kernel
theorem dX7_pass_37 : decode cX7_pass 37 = .ok (.invokestatic 205, 3) := by decide +kernel
theorem dX7_pass_40 : decode cX7_pass 40 = .ok (.if_icmp .ge 20, 3) := by decide +kernel
theorem dX7_pass_43 : decode cX7_pass 43 = .ok (.iload_n 3, 1) := by decide +kernel
theorem dX7_pass_44 : decode cX7_pass 44 = .ok (.iload 4, 2) := by decide +kernel
theorem dX7_pass_46 : decode cX7_pass 46 = .ok (.invokestatic 208, 3) := by decide +kernel
theorem dX7_pass_49 : decode cX7_pass 49 = .ok (.ifCond .eq 5, 3) := by decide +kernel
theorem dX7_pass_52 : decode cX7_pass 52 = .ok (.iconst 0, 1) := by decide +kernel
theorem dX7_pass_53 : decode cX7_pass 53 = .ok (.ireturn, 1) := by decide +kernel
theorem dX7_pass_54 : decode cX7_pass 54 = .ok (.iinc 4 1, 3) := by decide +kernel
theorem dX7_pass_57 : decode cX7_pass 57 = .ok (.goto (-24), 3) := by decide +kernel
theorem dX7_pass_60 : decode cX7_pass 60 = .ok (.iconst 1, 1) := by decide +kernel
theorem dX7_pass_61 : decode cX7_pass 61 = .ok (.ireturn, 1) := by decide +kernel
theorem dX7_council_0 : decode cX7_council 0 = .ok (.aload_n 0, 1) := by decide +kernel
theorem dX7_council_1 : decode cX7_council 1 = .ok (.aload_n 0, 1) := by decide +kernel
theorem dX7_council_2 : decode cX7_council 2 = .ok (.getfield 10, 3) := by decide +kernel
theorem dX7_council_5 : decode cX7_council 5 = .ok (.getfield 66, 3) := by decide +kernel
theorem dX7_council_8 : decode cX7_council 8 = .ok (.getfield 143, 3) := by decide +kernel
theorem dX7_council_11 : decode cX7_council 11 = .ok (.invokevirtual 227, 3) := by decide +kernel
theorem dX7_council_14 : decode cX7_council 14 = .ok (.istore_n 2, 1) := by decide +kernel
theorem dX7_council_15 : decode cX7_council 15 = .ok (.iload_n 1, 1) := by decide +kernel
theorem dX7_council_16 : decode cX7_council 16 = .ok (.tableswitch 52 0 2 #[28, 30, 44], 28) := by decide +kernel
theorem dX7_council_44 : decode cX7_council 44 = .ok (.iload_n 2, 1) := by decide +kernel
theorem dX7_council_45 : decode cX7_council 45 = .ok (.ireturn, 1) := by decide +kernel
theorem dX7_council_46 : decode cX7_council 46 = .ok (.aload_n 0, 1) := by decide +kernel
theorem dX7_council_47 : decode cX7_council 47 = .ok (.iload_n 2, 1) := by decide +kernel
theorem dX7_council_48 : decode cX7_council 48 = .ok (.invokevirtual 230, 3) := by decide +kernel
theorem dX7_council_51 : decode cX7_council 51 = .ok (.ifCond .eq 7, 3) := by decide +kernel
theorem dX7_council_54 : decode cX7_council 54 = .ok (.iconst 1, 1) := by decide +kernel
theorem dX7_council_55 : decode cX7_council 55 = .ok (.goto 4, 3) := by decide +kernel
theorem dX7_council_58 : decode cX7_council 58 = .ok (.iconst 0, 1) := by decide +kernel
theorem dX7_council_59 : decode cX7_council 59 = .ok (.ireturn, 1) := by decide +kernel
theorem dX7_council_60 : decode cX7_council 60 = .ok (.iload_n 2, 1) := by decide +kernel
theorem dX7_council_61 : decode cX7_council 61 = .ok (.aload_n 0, 1) := by decide +kernel
theorem dX7_council_62 : decode cX7_council 62 = .ok (.iconst 0, 1) := by decide +kernel
theorem dX7_council_63 : decode cX7_council 63 = .ok (.invokevirtual 227, 3) := by decide +kernel
theorem dX7_council_66 : decode cX7_council 66 = .ok (.ixor, 1) := by decide +kernel
theorem dX7_council_67 : decode cX7_council 67 = .ok (.ireturn, 1) := by decide +kernel
theorem dX7_council_68 : decode cX7_council 68 = .ok (.aload_n 0, 1) := by decide +kernel
theorem dX7_council_69 : decode cX7_council 69 = .ok (.bipush (-2), 2) := by decide +kernel
theorem dX7_council_71 : decode cX7_council 71 = .ok (.invokevirtual 62, 3) := by decide +kernel
theorem dX7_council_74 : decode cX7_council 74 = .ok (.ireturn, 1) := by decide +kernel
theorem dX7_power_0 : decode cX7_power 0 = .ok (.iload_n 1, 1) := by decide +kernel
theorem dX7_power_1 : decode cX7_power 1 = .ok (.iconst 0, 1) := by decide +kernel
theorem dX7_power_2 : decode cX7_power 2 = .ok (.aload_n 0, 1) := by decide +kernel
theorem dX7_power_3 : decode cX7_power 3 = .ok (.getfield 10, 3) := by decide +kernel
theorem dX7_power_6 : decode cX7_power 6 = .ok (.getfield 101, 3) := by decide +kernel
theorem dX7_power_9 : decode cX7_power 9 = .ok (.iconst 1, 1) := by decide +kernel
theorem dX7_power_10 : decode cX7_power 10 = .ok (.isub, 1) := by decide +kernel
theorem dX7_power_11 : decode cX7_power 11 = .ok (.invokestatic 77, 3) := by decide +kernel
theorem dX7_power_14 : decode cX7_power 14 = .ok (.ifCond .ne 10, 3) := by decide +kernel
theorem dX7_power_17 : decode cX7_power 17 = .ok (.aload_n 0, 1) := by decide +kernel
theorem dX7_power_18 : decode cX7_power 18 = .ok (.bipush (-2), 2) := by decide +kernel
theorem dX7_power_20 : decode cX7_power 20 = .ok (.invokevirtual 62, 3) := by decide +kernel
theorem dX7_power_23 : decode cX7_power 23 = .ok (.ireturn, 1) := by decide +kernel
theorem dX7_power_24 : decode cX7_power 24 = .ok (.iconst 0, 1) := by decide +kernel
theorem dX7_power_25 : decode cX7_power 25 = .ok (.istore_n 2, 1) := by decide +kernel
theorem dX7_power_26 : decode cX7_power 26 = .ok (.bipush (-9), 2) := by decide +kernel
theorem dX7_power_28 : decode cX7_power 28 = .ok (.istore_n 3, 1) := by decide +kernel
theorem dX7_power_29 : decode cX7_power 29 = .ok (.iload_n 3, 1) := by decide +kernel
theorem dX7_power_30 : decode cX7_power 30 = .ok (.bipush 9, 2) := by decide +kernel
theorem dX7_power_32 : decode cX7_power 32 = .ok (.if_icmp .gt 38, 3) := by decide +kernel
theorem dX7_power_35 : decode cX7_power 35 = .ok (.aload_n 0, 1) := by decide +kernel
theorem dX7_power_36 : decode cX7_power 36 = .ok (.iload_n 3, 1) := by decide +kernel
theorem dX7_power_37 : decode cX7_power 37 = .ok (.invokevirtual 227, 3) := by decide +kernel
theorem dX7_power_40 : decode cX7_power 40 = .ok (.istore 4, 2) := by decide +kernel
theorem dX7_power_42 : decode cX7_power 42 = .ok (.aload_n 0, 1) := by decide +kernel
theorem dX7_power_43 : decode cX7_power 43 = .ok (.iload 4, 2) := by decide +kernel
theorem dX7_power_45 : decode cX7_power 45 = .ok (.invokevirtual 230, 3) := by decide +kernel
theorem dX7_power_48 : decode cX7_power 48 = .ok (.aload_n 0, 1) := by decide +kernel
theorem dX7_power_49 : decode cX7_power 49 = .ok (.iload 4, 2) := by decide +kernel
theorem dX7_power_51 : decode cX7_power 51 = .ok (.iconst 1, 1) := by decide +kernel
theorem dX7_power_52 : decode cX7_power 52 = .ok (.iload_n 1, 1) := by decide +kernel
theorem dX7_power_53 : decode cX7_power 53 = .ok (.ishl, 1) := by decide +kernel
theorem dX7_power_54 : decode cX7_power 54 = .ok (.ixor, 1) := by decide +kernel
theorem dX7_power_55 : decode cX7_power 55 = .ok (.invokevirtual 230, 3) := by decide +kernel
theorem dX7_power_58 : decode cX7_power 58 = .ok (.if_icmp .eq 6, 3) := by decide +kernel
theorem dX7_power_61 : decode cX7_power 61 = .ok (.iinc 2 1, 3) := by decide +kernel
theorem dX7_power_64 : decode cX7_power 64 = .ok (.iinc 3 1, 3) := by decide +kernel
theorem dX7_power_67 : decode cX7_power 67 = .ok (.goto (-38), 3) := by decide +kernel
theorem dX7_power_70 : decode cX7_power 70 = .ok (.iload_n 2, 1) := by decide +kernel
theorem dX7_power_71 : decode cX7_power 71 = .ok (.ireturn, 1) := by decide +kernel
noncomputable def lp_X7_then_30 (p1 : Int32) (a0_town_kind : Int32) (a0_town_site_year : Int32) (fa0_town_pulls : Nat → Int32) : Nat → Int32 → Int32 → Option (Int32 × Int32)
 | 0, _, _ => none
 | fu + 1, x2_30, x3_30 => if p1 ≤ x3_30 then (some (x2_30, x3_30)) else (lp_X7_then_30 p1 a0_town_kind a0_town_site_year fa0_town_pulls fu (sp_X6_offBehind (a0_town_site_year + x3_30) x2_30 a0_town_kind fa0_town_pulls) (x3_30 + (1 : Int32)))
noncomputable def sp_X7_then (p1 : Int32) (a0_refusedAsBad : Int32) (a0_town_kind : Int32) (a0_town_site_off : Int32) (a0_town_site_year : Int32) (fa0_town_pulls : Nat → Int32) : Option (Int32 × Int32) := if (sp_X2_within p1 (0 : Int32) (99 : Int32)) = 0 then (lt_ (sp_X7_bad (-100 : Int32) a0_refusedAsBad) fun z4 => some (z4.1, z4.2)) else (Option.bind (lp_X7_then_30 p1 a0_town_kind a0_town_site_year fa0_town_pulls FU a0_town_site_off (0 : Int32)) fun z2 => some (z2.1, a0_refusedAsBad))
set_option maxHeartbeats 4000000 in
set_option maxRecDepth 100000 in
theorem c_X7_then (l : Launch) (E : wE) (a0 a0_town a0_draft a0_images a0_text a0_planner a0_trial a0_spread a0_spreadBehind a0_tally a0_town_pulls a0_town_site a0_town_past a0_town_views a0_town_notes a0_town_marks a0_town_site_heights a0_town_site_storeyKinds a0_town_site_storeyTilts : Nat) (p1 : Int32) (a0_imagesKept : Int32) (a0_above : Int64) (a0_below : Int64) (a0_refusedAsBad : Int32) (a0_refusedAsNo : Int32) (a0_refusedAsFull : Int32) (a0_town_kind : Int32) (a0_town_pasts : Int32) (a0_town_members : Int32) (a0_town_noteCount : Int32) (a0_town_markCount : Int32) (a0_town_site_off : Int32) (a0_town_site_year : Int32) (fa0_town_pulls : Nat → Int32) (z_0 : Int32) (z_1 : Int32) (hsp : sp_X7_then p1 a0_refusedAsBad a0_town_kind a0_town_site_off a0_town_site_year fa0_town_pulls = some (z_0, z_1)) : MW l yX7_then cX7_then 4 (some .int) 4 E [.ref a0, .int p1] [(a0, .inr (4, [.ref a0_town, .ref a0_draft, .ref a0_images, .int a0_imagesKept, .ref a0_text, .ref a0_planner, .ref a0_trial, .ref a0_spread, .ref a0_spreadBehind, .ref a0_tally, .long a0_above, .long a0_below, .int a0_refusedAsBad, .int a0_refusedAsNo, .int a0_refusedAsFull])), (a0_town, .inr (3, [.int a0_town_kind, .ref a0_town_pulls, .ref a0_town_site, .ref a0_town_past, .int a0_town_pasts, .ref a0_town_views, .int a0_town_members, .ref a0_town_notes, .int a0_town_noteCount, .ref a0_town_marks, .int a0_town_markCount])), (a0_town_site, .inr (1, [.int a0_town_site_off, .int a0_town_site_year, .ref a0_town_site_heights, .ref a0_town_site_storeyKinds, .ref a0_town_site_storeyTilts])), (a0_town_pulls, aI E 6 fa0_town_pulls)] (some (.int z_0)) [(a0, .inr (4, [.ref a0_town, .ref a0_draft, .ref a0_images, .int a0_imagesKept, .ref a0_text, .ref a0_planner, .ref a0_trial, .ref a0_spread, .ref a0_spreadBehind, .ref a0_tally, .long a0_above, .long a0_below, .int z_1, .int a0_refusedAsNo, .int a0_refusedAsFull])), (a0_town, .inr (3, [.int a0_town_kind, .ref a0_town_pulls, .ref a0_town_site, .ref a0_town_past, .int a0_town_pasts, .ref a0_town_views, .int a0_town_members, .ref a0_town_notes, .int a0_town_noteCount, .ref a0_town_marks, .int a0_town_markCount])), (a0_town_site, .inr (1, [.int a0_town_site_off, .int a0_town_site_year, .ref a0_town_site_heights, .ref a0_town_site_storeyKinds, .ref a0_town_site_storeyTilts])), (a0_town_pulls, aI E 6 fa0_town_pulls)] := by
  refine MW.of (by decide +kernel) (Nat.le_of_ble_eq_true rfl) ?_
  intro p e s m below meth c ls A hX hK hP hD hS hA hl
  have hX : CX p s m [.ref a0, .int p1].toArray meth c cX7_then 4 (some .int) RX7 := hX
  have hx := hX.1; have hb := hX.2.1; have hts := hX.2.2.2.2.1; have hown := hX.2.2.2.2.2.1
  have hl : lv_has ls 4 [(0, .ref a0), (1, .int p1)] := hl
  have hP : wP E [(a0, .inr (4, [.ref a0_town, .ref a0_draft, .ref a0_images, .int a0_imagesKept, .ref a0_text, .ref a0_planner, .ref a0_trial, .ref a0_spread, .ref a0_spreadBehind, .ref a0_tally, .long a0_above, .long a0_below, .int a0_refusedAsBad, .int a0_refusedAsNo, .int a0_refusedAsFull])), (a0_town, .inr (3, [.int a0_town_kind, .ref a0_town_pulls, .ref a0_town_site, .ref a0_town_past, .int a0_town_pasts, .ref a0_town_views, .int a0_town_members, .ref a0_town_notes, .int a0_town_noteCount, .ref a0_town_marks, .int a0_town_markCount])), (a0_town_site, .inr (1, [.int a0_town_site_off, .int a0_town_site_year, .ref a0_town_site_heights, .ref a0_town_site_storeyKinds, .ref a0_town_site_storeyTilts])), (a0_town_pulls, aI E 6 fa0_town_pulls)] s.heap := hP
  have hsp : (if (sp_X2_within p1 (0 : Int32) (99 : Int32)) = 0 then (lt_ (sp_X7_bad (-100 : Int32) a0_refusedAsBad) fun z4 => some (z4.1, z4.2)) else (Option.bind (lp_X7_then_30 p1 a0_town_kind a0_town_site_year fa0_town_pulls FU a0_town_site_off (0 : Int32)) fun z2 => some (z2.1, a0_refusedAsBad))) = some (z_0, z_1) := hsp
  refine lv_iload_n hx hb dX7_then_0 rfl (lv_at hl 1 rfl) (W.pc 1 rfl ?_)
  refine lv_iconst (v := (0 : Int32)) hx hb dX7_then_1 (by decide) (W.pc 2 rfl ?_)
  refine lv_bipush (v := (99 : Int32)) hx hb dX7_then_2 (by decide) (W.pc 4 rfl ?_)
  refine kSR (st1 := [.int (sp_X2_within p1 (0 : Int32) (99 : Int32))]) hX (c_X2_within l E p1 (0 : Int32) (99 : Int32) _ rfl) B_X2_within w_1_231 hK (hP.pick [] rfl) rfl hl.1 rfl (Nat.le_of_ble_eq_true rfl) ⟨Nat.le_of_ble_eq_true rfl, Nat.le_of_ble_eq_true rfl⟩ dX7_then_4 rfl (W.pc 7 rfl ?_)
  refine lv_if_ne (tgt := 17) hx hb dX7_then_7 (by decide) (fun c1 => ?_) (fun c1 => W.pc 10 rfl ?_)
  · have hsp := iq hsp c1
    refine lv_aload_n hx hb dX7_then_17 rfl (lv_at hl 0 rfl) (W.pc 18 rfl ?_)
    refine va_get (D := E.1) (ci := 4) (v := .ref a0_town) (C := RX7) (T := TX7) (N := 15) hx hb hts inT_X7 hown hK hP 0 rfl rfl 0 (by decide) (hts _ w_1_178) (fun _ h9 => h9) rfl dX7_then_18 (W.pc 21 rfl ?_)
    refine va_get (D := E.1) (ci := 3) (v := .ref a0_town_site) (C := RX6) (T := TX6) (N := 11) hx hb hts inT_X6 hown hK hP 1 rfl rfl 2 (by decide) (hts _ w_1_68) (fun _ h9 => h9) rfl dX7_then_21 (W.pc 24 rfl ?_)
    refine va_get (D := E.1) (ci := 1) (v := .int a0_town_site_off) (C := RX3) (T := TX3) (N := 5) hx hb hts inT_X3 hown hK hP 2 rfl rfl 0 (by decide) (hts _ w_1_40) (fun _ h9 => h9) rfl dX7_then_24 (W.pc 27 rfl ?_)
    refine lv_istore_n (lv' := [(2, .int a0_town_site_off), (0, .ref a0), (1, .int p1)]) hx hb dX7_then_27 rfl hl (by decide) rfl (fun ls hl => W.pc 28 rfl ?_)
    refine lv_iconst (v := (0 : Int32)) hx hb dX7_then_28 (by decide) (W.pc 29 rfl ?_)
    refine lv_istore_n (lv' := [(3, .int (0 : Int32)), (2, .int a0_town_site_off), (0, .ref a0), (1, .int p1)]) hx hb dX7_then_29 rfl hl (by decide) rfl (fun ls hl => W.pc 30 rfl ?_)
    have L_30 : ∀ (z2 : Int32 × Int32), (∀ (H : Heap) (locs : List Loc) (ls : Array Slot), wP E [(a0, .inr (4, [.ref a0_town, .ref a0_draft, .ref a0_images, .int a0_imagesKept, .ref a0_text, .ref a0_planner, .ref a0_trial, .ref a0_spread, .ref a0_spreadBehind, .ref a0_tally, .long a0_above, .long a0_below, .int a0_refusedAsBad, .int a0_refusedAsNo, .int a0_refusedAsFull])), (a0_town, .inr (3, [.int a0_town_kind, .ref a0_town_pulls, .ref a0_town_site, .ref a0_town_past, .int a0_town_pasts, .ref a0_town_views, .int a0_town_members, .ref a0_town_notes, .int a0_town_noteCount, .ref a0_town_marks, .int a0_town_markCount])), (a0_town_site, .inr (1, [.int a0_town_site_off, .int a0_town_site_year, .ref a0_town_site_heights, .ref a0_town_site_storeyKinds, .ref a0_town_site_storeyTilts])), (a0_town_pulls, aI E 6 fa0_town_pulls)] H → va_D A [(a0, .inr (4, [.ref a0_town, .ref a0_draft, .ref a0_images, .int a0_imagesKept, .ref a0_text, .ref a0_planner, .ref a0_trial, .ref a0_spread, .ref a0_spreadBehind, .ref a0_tally, .long a0_above, .long a0_below, .int a0_refusedAsBad, .int a0_refusedAsNo, .int a0_refusedAsFull])), (a0_town, .inr (3, [.int a0_town_kind, .ref a0_town_pulls, .ref a0_town_site, .ref a0_town_past, .int a0_town_pasts, .ref a0_town_views, .int a0_town_members, .ref a0_town_notes, .int a0_town_noteCount, .ref a0_town_marks, .int a0_town_markCount])), (a0_town_site, .inr (1, [.int a0_town_site_off, .int a0_town_site_year, .ref a0_town_site_heights, .ref a0_town_site_storeyKinds, .ref a0_town_site_storeyTilts])), (a0_town_pulls, aI E 6 fa0_town_pulls)] → va_S A s.heap H locs → lv_has ls 4 [(2, .int z2.1)] → W p l e (wR 4) s m [.ref a0, .int p1].toArray below meth c H locs 0 0 (MQ below (QWd E A (some (.int z_0)) [(a0, .inr (4, [.ref a0_town, .ref a0_draft, .ref a0_images, .int a0_imagesKept, .ref a0_text, .ref a0_planner, .ref a0_trial, .ref a0_spread, .ref a0_spreadBehind, .ref a0_tally, .long a0_above, .long a0_below, .int z_1, .int a0_refusedAsNo, .int a0_refusedAsFull])), (a0_town, .inr (3, [.int a0_town_kind, .ref a0_town_pulls, .ref a0_town_site, .ref a0_town_past, .int a0_town_pasts, .ref a0_town_views, .int a0_town_members, .ref a0_town_notes, .int a0_town_noteCount, .ref a0_town_marks, .int a0_town_markCount])), (a0_town_site, .inr (1, [.int a0_town_site_off, .int a0_town_site_year, .ref a0_town_site_heights, .ref a0_town_site_storeyKinds, .ref a0_town_site_storeyTilts])), (a0_town_pulls, aI E 6 fa0_town_pulls)]) [.ref a0, .int p1].toArray s 0 0 A) (F0 m 62 ls [])) → ∀ (fu : Nat) (x2_30 : Int32) (x3_30 : Int32), ∀ (H : Heap) (locs : List Loc) (ls : Array Slot), wP E [(a0, .inr (4, [.ref a0_town, .ref a0_draft, .ref a0_images, .int a0_imagesKept, .ref a0_text, .ref a0_planner, .ref a0_trial, .ref a0_spread, .ref a0_spreadBehind, .ref a0_tally, .long a0_above, .long a0_below, .int a0_refusedAsBad, .int a0_refusedAsNo, .int a0_refusedAsFull])), (a0_town, .inr (3, [.int a0_town_kind, .ref a0_town_pulls, .ref a0_town_site, .ref a0_town_past, .int a0_town_pasts, .ref a0_town_views, .int a0_town_members, .ref a0_town_notes, .int a0_town_noteCount, .ref a0_town_marks, .int a0_town_markCount])), (a0_town_site, .inr (1, [.int a0_town_site_off, .int a0_town_site_year, .ref a0_town_site_heights, .ref a0_town_site_storeyKinds, .ref a0_town_site_storeyTilts])), (a0_town_pulls, aI E 6 fa0_town_pulls)] H → va_D A [(a0, .inr (4, [.ref a0_town, .ref a0_draft, .ref a0_images, .int a0_imagesKept, .ref a0_text, .ref a0_planner, .ref a0_trial, .ref a0_spread, .ref a0_spreadBehind, .ref a0_tally, .long a0_above, .long a0_below, .int a0_refusedAsBad, .int a0_refusedAsNo, .int a0_refusedAsFull])), (a0_town, .inr (3, [.int a0_town_kind, .ref a0_town_pulls, .ref a0_town_site, .ref a0_town_past, .int a0_town_pasts, .ref a0_town_views, .int a0_town_members, .ref a0_town_notes, .int a0_town_noteCount, .ref a0_town_marks, .int a0_town_markCount])), (a0_town_site, .inr (1, [.int a0_town_site_off, .int a0_town_site_year, .ref a0_town_site_heights, .ref a0_town_site_storeyKinds, .ref a0_town_site_storeyTilts])), (a0_town_pulls, aI E 6 fa0_town_pulls)] → va_S A s.heap H locs → lv_has ls 4 [(0, .ref a0), (1, .int p1), (2, .int x2_30), (3, .int x3_30)] → lp_X7_then_30 p1 a0_town_kind a0_town_site_year fa0_town_pulls fu x2_30 x3_30 = some z2 → W p l e (wR 4) s m [.ref a0, .int p1].toArray below meth c H locs 0 0 (MQ below (QWd E A (some (.int z_0)) [(a0, .inr (4, [.ref a0_town, .ref a0_draft, .ref a0_images, .int a0_imagesKept, .ref a0_text, .ref a0_planner, .ref a0_trial, .ref a0_spread, .ref a0_spreadBehind, .ref a0_tally, .long a0_above, .long a0_below, .int z_1, .int a0_refusedAsNo, .int a0_refusedAsFull])), (a0_town, .inr (3, [.int a0_town_kind, .ref a0_town_pulls, .ref a0_town_site, .ref a0_town_past, .int a0_town_pasts, .ref a0_town_views, .int a0_town_members, .ref a0_town_notes, .int a0_town_noteCount, .ref a0_town_marks, .int a0_town_markCount])), (a0_town_site, .inr (1, [.int a0_town_site_off, .int a0_town_site_year, .ref a0_town_site_heights, .ref a0_town_site_storeyKinds, .ref a0_town_site_storeyTilts])), (a0_town_pulls, aI E 6 fa0_town_pulls)]) [.ref a0, .int p1].toArray s 0 0 A) (F0 m 30 ls []) := by
      intro z2 hk_30 fu
      induction fu with
      | zero => intro x2_30 x3_30 H locs ls hP hD hS hl hsp; exact absurd (show none = some _ from hsp) (by simp)
      | succ fu ih_30 =>
        intro x2_30 x3_30 H locs ls hP hD hS hl hsp
        have hsp : (if p1 ≤ x3_30 then (some (x2_30, x3_30)) else (lp_X7_then_30 p1 a0_town_kind a0_town_site_year fa0_town_pulls fu (sp_X6_offBehind (a0_town_site_year + x3_30) x2_30 a0_town_kind fa0_town_pulls) (x3_30 + (1 : Int32)))) = some z2 := hsp
        refine lv_iload_n hx hb dX7_then_30 rfl (lv_at hl 3 rfl) (W.pc 31 rfl ?_)
        refine lv_iload_n hx hb dX7_then_31 rfl (lv_at hl 1 rfl) (W.pc 32 rfl ?_)
        refine lv_icmp_ge (tgt := 62) hx hb dX7_then_32 (by decide) (fun c3 => ?_) (fun c3 => W.pc 35 rfl ?_)
        · have hsp := ip hsp c3
          obtain rfl := Option.some.inj hsp
          exact hk_30 _ _ _ hP hD hS (lv_sub hl [2] rfl)
        · have hsp := iq hsp c3
          refine lv_aload_n hx hb dX7_then_35 rfl (lv_at hl 0 rfl) (W.pc 36 rfl ?_)
          refine va_get (D := E.1) (ci := 4) (v := .ref a0_town) (C := RX7) (T := TX7) (N := 15) hx hb hts inT_X7 hown hK hP 0 rfl rfl 0 (by decide) (hts _ w_1_178) (fun _ h9 => h9) rfl dX7_then_36 (W.pc 39 rfl ?_)
          refine lv_aload_n hx hb dX7_then_39 rfl (lv_at hl 0 rfl) (W.pc 40 rfl ?_)
          refine va_get (D := E.1) (ci := 4) (v := .ref a0_town) (C := RX7) (T := TX7) (N := 15) hx hb hts inT_X7 hown hK hP 0 rfl rfl 0 (by decide) (hts _ w_1_178) (fun _ h9 => h9) rfl dX7_then_40 (W.pc 43 rfl ?_)
          refine va_get (D := E.1) (ci := 3) (v := .ref a0_town_site) (C := RX6) (T := TX6) (N := 11) hx hb hts inT_X6 hown hK hP 1 rfl rfl 2 (by decide) (hts _ w_1_68) (fun _ h9 => h9) rfl dX7_then_43 (W.pc 46 rfl ?_)
          refine va_get (D := E.1) (ci := 1) (v := .int a0_town_site_year) (C := RX3) (T := TX3) (N := 5) hx hb hts inT_X3 hown hK hP 2 rfl rfl 1 (by decide) (hts _ w_1_45) (fun _ h9 => h9) rfl dX7_then_46 (W.pc 49 rfl ?_)
          refine lv_iload_n hx hb dX7_then_49 rfl (lv_at hl 3 rfl) (W.pc 50 rfl ?_)
          refine lv_iadd hx hb dX7_then_50 (W.pc 51 rfl ?_)
          refine lv_iload_n hx hb dX7_then_51 rfl (lv_at hl 2 rfl) (W.pc 52 rfl ?_)
          refine kVR (st1 := [.int (sp_X6_offBehind (a0_town_site_year + x3_30) x2_30 a0_town_kind fa0_town_pulls)]) hX (c_X6_offBehind l E a0_town a0_town_pulls a0_town_site a0_town_past a0_town_views a0_town_notes a0_town_marks (a0_town_site_year + x3_30) x2_30 a0_town_kind a0_town_pasts a0_town_members a0_town_noteCount a0_town_markCount fa0_town_pulls _ rfl) B_X6_offBehind w_3_66 hK (hP.pick [1, 3] rfl) (q0 := 0) (ci := 3) rfl rfl rfl rfl hl.1 rfl (Nat.le_of_ble_eq_true rfl) ⟨Nat.le_of_ble_eq_true rfl, Nat.le_of_ble_eq_true rfl⟩ dX7_then_52 rfl (W.pc 55 rfl ?_)
          refine lv_istore_n (lv' := [(2, .int (sp_X6_offBehind (a0_town_site_year + x3_30) x2_30 a0_town_kind fa0_town_pulls)), (0, .ref a0), (1, .int p1), (3, .int x3_30)]) hx hb dX7_then_55 rfl hl (by decide) rfl (fun ls hl => W.pc 56 rfl ?_)
          refine lv_iinc (v := (x3_30 + (1 : Int32))) (lv' := [(3, .int (x3_30 + (1 : Int32))), (2, .int (sp_X6_offBehind (a0_town_site_year + x3_30) x2_30 a0_town_kind fa0_town_pulls)), (0, .ref a0), (1, .int p1)]) hx hb dX7_then_56 hl (k := 3) rfl rfl (by decide) rfl (fun ls hl => W.pc 59 rfl ?_)
          refine lv_goto (tgt := 30) hx hb dX7_then_59 (by decide) ?_
          exact ih_30 (sp_X6_offBehind (a0_town_site_year + x3_30) x2_30 a0_town_kind fa0_town_pulls) (x3_30 + (1 : Int32)) _ _ _ hP hD hS (lv_sub hl [2, 3, 1, 0] rfl) hsp
    obtain ⟨z2, hr_z2, hsp⟩ := bd_s hsp
    refine L_30 z2 (fun H locs ls hP hD hS hl => ?_) FU a0_town_site_off (0 : Int32) _ _ _ hP hD hS (lv_sub hl [2, 3, 1, 0] rfl) hr_z2
    refine lv_iload_n hx hb dX7_then_62 rfl (lv_at hl 0 rfl) (W.pc 63 rfl ?_)
    cases hsp
    exact rWi hX hP hS rfl rfl dX7_then_63
  · have hsp := ip hsp c1
    refine lv_aload_n hx hb dX7_then_10 rfl (lv_at hl 0 rfl) (W.pc 11 rfl ?_)
    refine lv_bipush (v := (-100 : Int32)) hx hb dX7_then_11 (by decide) (W.pc 13 rfl ?_)
    obtain ⟨z4, hr_z4, hsp⟩ := ltb_s hsp
    refine kVW (st1 := [.int z4.1]) (ws' := [(a0, .inr (4, [.ref a0_town, .ref a0_draft, .ref a0_images, .int a0_imagesKept, .ref a0_text, .ref a0_planner, .ref a0_trial, .ref a0_spread, .ref a0_spreadBehind, .ref a0_tally, .long a0_above, .long a0_below, .int z4.2, .int a0_refusedAsNo, .int a0_refusedAsFull])), (a0_town, .inr (3, [.int a0_town_kind, .ref a0_town_pulls, .ref a0_town_site, .ref a0_town_past, .int a0_town_pasts, .ref a0_town_views, .int a0_town_members, .ref a0_town_notes, .int a0_town_noteCount, .ref a0_town_marks, .int a0_town_markCount])), (a0_town_site, .inr (1, [.int a0_town_site_off, .int a0_town_site_year, .ref a0_town_site_heights, .ref a0_town_site_storeyKinds, .ref a0_town_site_storeyTilts])), (a0_town_pulls, aI E 6 fa0_town_pulls)]) [0] hX (c_X7_bad l E a0 a0_town a0_draft a0_images a0_text a0_planner a0_trial a0_spread a0_spreadBehind a0_tally (-100 : Int32) a0_imagesKept a0_above a0_below a0_refusedAsBad a0_refusedAsNo a0_refusedAsFull z4.1 z4.2 hr_z4) B_X7_bad w_1_234 hK hP hD hS hA (by decide) rfl rfl rfl (q0 := 0) (ci := 4) rfl rfl rfl rfl hl.1 rfl (Nat.le_of_ble_eq_true rfl) ⟨Nat.le_of_ble_eq_true rfl, Nat.le_of_ble_eq_true rfl⟩ dX7_then_13 rfl (fun H locs hP hD hS => W.pc 16 rfl ?_)
    cases hsp
    exact rWi hX hP hS rfl rfl dX7_then_16
noncomputable def lp_X7_when_30 (p1 : Int32) (a0_refusedAsBad : Int32) (a0_town_kind : Int32) (a0_town_site_year : Int32) (fa0_town_pulls : Nat → Int32) : Nat → Int32 → Int32 → Option (Int32 × Int32)
 | 0, _, _ => none
 | fu + 1, x2_30, x3_30 => if (99 : Int32) < x3_30 then (some ((-1 : Int32), a0_refusedAsBad)) else (if (j_abs x2_30) < p1 then (lp_X7_when_30 p1 a0_refusedAsBad a0_town_kind a0_town_site_year fa0_town_pulls fu (sp_X6_offBehind (a0_town_site_year + x3_30) x2_30 a0_town_kind fa0_town_pulls) (x3_30 + (1 : Int32))) else (some (x3_30, a0_refusedAsBad)))
noncomputable def sp_X7_when (p1 : Int32) (a0_refusedAsBad : Int32) (a0_town_kind : Int32) (a0_town_site_off : Int32) (a0_town_site_year : Int32) (fa0_town_pulls : Nat → Int32) : Option (Int32 × Int32) := if (sp_X2_within p1 (1 : Int32) (9 : Int32)) = 0 then (lt_ (sp_X7_bad (-2 : Int32) a0_refusedAsBad) fun z4 => some (z4.1, z4.2)) else (lp_X7_when_30 p1 a0_refusedAsBad a0_town_kind a0_town_site_year fa0_town_pulls FU a0_town_site_off (0 : Int32))
set_option maxHeartbeats 4000000 in
set_option maxRecDepth 100000 in
theorem c_X7_when (l : Launch) (E : wE) (a0 a0_town a0_draft a0_images a0_text a0_planner a0_trial a0_spread a0_spreadBehind a0_tally a0_town_pulls a0_town_site a0_town_past a0_town_views a0_town_notes a0_town_marks a0_town_site_heights a0_town_site_storeyKinds a0_town_site_storeyTilts : Nat) (p1 : Int32) (a0_imagesKept : Int32) (a0_above : Int64) (a0_below : Int64) (a0_refusedAsBad : Int32) (a0_refusedAsNo : Int32) (a0_refusedAsFull : Int32) (a0_town_kind : Int32) (a0_town_pasts : Int32) (a0_town_members : Int32) (a0_town_noteCount : Int32) (a0_town_markCount : Int32) (a0_town_site_off : Int32) (a0_town_site_year : Int32) (fa0_town_pulls : Nat → Int32) (z_0 : Int32) (z_1 : Int32) (hsp : sp_X7_when p1 a0_refusedAsBad a0_town_kind a0_town_site_off a0_town_site_year fa0_town_pulls = some (z_0, z_1)) : MW l yX7_when cX7_when 4 (some .int) 4 E [.ref a0, .int p1] [(a0, .inr (4, [.ref a0_town, .ref a0_draft, .ref a0_images, .int a0_imagesKept, .ref a0_text, .ref a0_planner, .ref a0_trial, .ref a0_spread, .ref a0_spreadBehind, .ref a0_tally, .long a0_above, .long a0_below, .int a0_refusedAsBad, .int a0_refusedAsNo, .int a0_refusedAsFull])), (a0_town, .inr (3, [.int a0_town_kind, .ref a0_town_pulls, .ref a0_town_site, .ref a0_town_past, .int a0_town_pasts, .ref a0_town_views, .int a0_town_members, .ref a0_town_notes, .int a0_town_noteCount, .ref a0_town_marks, .int a0_town_markCount])), (a0_town_site, .inr (1, [.int a0_town_site_off, .int a0_town_site_year, .ref a0_town_site_heights, .ref a0_town_site_storeyKinds, .ref a0_town_site_storeyTilts])), (a0_town_pulls, aI E 6 fa0_town_pulls)] (some (.int z_0)) [(a0, .inr (4, [.ref a0_town, .ref a0_draft, .ref a0_images, .int a0_imagesKept, .ref a0_text, .ref a0_planner, .ref a0_trial, .ref a0_spread, .ref a0_spreadBehind, .ref a0_tally, .long a0_above, .long a0_below, .int z_1, .int a0_refusedAsNo, .int a0_refusedAsFull])), (a0_town, .inr (3, [.int a0_town_kind, .ref a0_town_pulls, .ref a0_town_site, .ref a0_town_past, .int a0_town_pasts, .ref a0_town_views, .int a0_town_members, .ref a0_town_notes, .int a0_town_noteCount, .ref a0_town_marks, .int a0_town_markCount])), (a0_town_site, .inr (1, [.int a0_town_site_off, .int a0_town_site_year, .ref a0_town_site_heights, .ref a0_town_site_storeyKinds, .ref a0_town_site_storeyTilts])), (a0_town_pulls, aI E 6 fa0_town_pulls)] := by
  refine MW.of (by decide +kernel) (Nat.le_of_ble_eq_true rfl) ?_
  intro p e s m below meth c ls A hX hK hP hD hS hA hl
  have hX : CX p s m [.ref a0, .int p1].toArray meth c cX7_when 4 (some .int) RX7 := hX
  have hx := hX.1; have hb := hX.2.1; have hts := hX.2.2.2.2.1; have hown := hX.2.2.2.2.2.1
  have hl : lv_has ls 4 [(0, .ref a0), (1, .int p1)] := hl
  have hP : wP E [(a0, .inr (4, [.ref a0_town, .ref a0_draft, .ref a0_images, .int a0_imagesKept, .ref a0_text, .ref a0_planner, .ref a0_trial, .ref a0_spread, .ref a0_spreadBehind, .ref a0_tally, .long a0_above, .long a0_below, .int a0_refusedAsBad, .int a0_refusedAsNo, .int a0_refusedAsFull])), (a0_town, .inr (3, [.int a0_town_kind, .ref a0_town_pulls, .ref a0_town_site, .ref a0_town_past, .int a0_town_pasts, .ref a0_town_views, .int a0_town_members, .ref a0_town_notes, .int a0_town_noteCount, .ref a0_town_marks, .int a0_town_markCount])), (a0_town_site, .inr (1, [.int a0_town_site_off, .int a0_town_site_year, .ref a0_town_site_heights, .ref a0_town_site_storeyKinds, .ref a0_town_site_storeyTilts])), (a0_town_pulls, aI E 6 fa0_town_pulls)] s.heap := hP
  have hsp : (if (sp_X2_within p1 (1 : Int32) (9 : Int32)) = 0 then (lt_ (sp_X7_bad (-2 : Int32) a0_refusedAsBad) fun z4 => some (z4.1, z4.2)) else (lp_X7_when_30 p1 a0_refusedAsBad a0_town_kind a0_town_site_year fa0_town_pulls FU a0_town_site_off (0 : Int32))) = some (z_0, z_1) := hsp
  refine lv_iload_n hx hb dX7_when_0 rfl (lv_at hl 1 rfl) (W.pc 1 rfl ?_)
  refine lv_iconst (v := (1 : Int32)) hx hb dX7_when_1 (by decide) (W.pc 2 rfl ?_)
  refine lv_bipush (v := (9 : Int32)) hx hb dX7_when_2 (by decide) (W.pc 4 rfl ?_)
  refine kSR (st1 := [.int (sp_X2_within p1 (1 : Int32) (9 : Int32))]) hX (c_X2_within l E p1 (1 : Int32) (9 : Int32) _ rfl) B_X2_within w_1_231 hK (hP.pick [] rfl) rfl hl.1 rfl (Nat.le_of_ble_eq_true rfl) ⟨Nat.le_of_ble_eq_true rfl, Nat.le_of_ble_eq_true rfl⟩ dX7_when_4 rfl (W.pc 7 rfl ?_)
  refine lv_if_ne (tgt := 17) hx hb dX7_when_7 (by decide) (fun c1 => ?_) (fun c1 => W.pc 10 rfl ?_)
  · have hsp := iq hsp c1
    refine lv_aload_n hx hb dX7_when_17 rfl (lv_at hl 0 rfl) (W.pc 18 rfl ?_)
    refine va_get (D := E.1) (ci := 4) (v := .ref a0_town) (C := RX7) (T := TX7) (N := 15) hx hb hts inT_X7 hown hK hP 0 rfl rfl 0 (by decide) (hts _ w_1_178) (fun _ h9 => h9) rfl dX7_when_18 (W.pc 21 rfl ?_)
    refine va_get (D := E.1) (ci := 3) (v := .ref a0_town_site) (C := RX6) (T := TX6) (N := 11) hx hb hts inT_X6 hown hK hP 1 rfl rfl 2 (by decide) (hts _ w_1_68) (fun _ h9 => h9) rfl dX7_when_21 (W.pc 24 rfl ?_)
    refine va_get (D := E.1) (ci := 1) (v := .int a0_town_site_off) (C := RX3) (T := TX3) (N := 5) hx hb hts inT_X3 hown hK hP 2 rfl rfl 0 (by decide) (hts _ w_1_40) (fun _ h9 => h9) rfl dX7_when_24 (W.pc 27 rfl ?_)
    refine lv_istore_n (lv' := [(2, .int a0_town_site_off), (0, .ref a0), (1, .int p1)]) hx hb dX7_when_27 rfl hl (by decide) rfl (fun ls hl => W.pc 28 rfl ?_)
    refine lv_iconst (v := (0 : Int32)) hx hb dX7_when_28 (by decide) (W.pc 29 rfl ?_)
    refine lv_istore_n (lv' := [(3, .int (0 : Int32)), (2, .int a0_town_site_off), (0, .ref a0), (1, .int p1)]) hx hb dX7_when_29 rfl hl (by decide) rfl (fun ls hl => W.pc 30 rfl ?_)
    have L_30 : ∀ (fu : Nat) (x2_30 : Int32) (x3_30 : Int32), ∀ (H : Heap) (locs : List Loc) (ls : Array Slot), wP E [(a0, .inr (4, [.ref a0_town, .ref a0_draft, .ref a0_images, .int a0_imagesKept, .ref a0_text, .ref a0_planner, .ref a0_trial, .ref a0_spread, .ref a0_spreadBehind, .ref a0_tally, .long a0_above, .long a0_below, .int a0_refusedAsBad, .int a0_refusedAsNo, .int a0_refusedAsFull])), (a0_town, .inr (3, [.int a0_town_kind, .ref a0_town_pulls, .ref a0_town_site, .ref a0_town_past, .int a0_town_pasts, .ref a0_town_views, .int a0_town_members, .ref a0_town_notes, .int a0_town_noteCount, .ref a0_town_marks, .int a0_town_markCount])), (a0_town_site, .inr (1, [.int a0_town_site_off, .int a0_town_site_year, .ref a0_town_site_heights, .ref a0_town_site_storeyKinds, .ref a0_town_site_storeyTilts])), (a0_town_pulls, aI E 6 fa0_town_pulls)] H → va_D A [(a0, .inr (4, [.ref a0_town, .ref a0_draft, .ref a0_images, .int a0_imagesKept, .ref a0_text, .ref a0_planner, .ref a0_trial, .ref a0_spread, .ref a0_spreadBehind, .ref a0_tally, .long a0_above, .long a0_below, .int a0_refusedAsBad, .int a0_refusedAsNo, .int a0_refusedAsFull])), (a0_town, .inr (3, [.int a0_town_kind, .ref a0_town_pulls, .ref a0_town_site, .ref a0_town_past, .int a0_town_pasts, .ref a0_town_views, .int a0_town_members, .ref a0_town_notes, .int a0_town_noteCount, .ref a0_town_marks, .int a0_town_markCount])), (a0_town_site, .inr (1, [.int a0_town_site_off, .int a0_town_site_year, .ref a0_town_site_heights, .ref a0_town_site_storeyKinds, .ref a0_town_site_storeyTilts])), (a0_town_pulls, aI E 6 fa0_town_pulls)] → va_S A s.heap H locs → lv_has ls 4 [(0, .ref a0), (1, .int p1), (2, .int x2_30), (3, .int x3_30)] → lp_X7_when_30 p1 a0_refusedAsBad a0_town_kind a0_town_site_year fa0_town_pulls fu x2_30 x3_30 = some (z_0, z_1) → W p l e (wR 4) s m [.ref a0, .int p1].toArray below meth c H locs 0 0 (MQ below (QWd E A (some (.int z_0)) [(a0, .inr (4, [.ref a0_town, .ref a0_draft, .ref a0_images, .int a0_imagesKept, .ref a0_text, .ref a0_planner, .ref a0_trial, .ref a0_spread, .ref a0_spreadBehind, .ref a0_tally, .long a0_above, .long a0_below, .int z_1, .int a0_refusedAsNo, .int a0_refusedAsFull])), (a0_town, .inr (3, [.int a0_town_kind, .ref a0_town_pulls, .ref a0_town_site, .ref a0_town_past, .int a0_town_pasts, .ref a0_town_views, .int a0_town_members, .ref a0_town_notes, .int a0_town_noteCount, .ref a0_town_marks, .int a0_town_markCount])), (a0_town_site, .inr (1, [.int a0_town_site_off, .int a0_town_site_year, .ref a0_town_site_heights, .ref a0_town_site_storeyKinds, .ref a0_town_site_storeyTilts])), (a0_town_pulls, aI E 6 fa0_town_pulls)]) [.ref a0, .int p1].toArray s 0 0 A) (F0 m 30 ls []) := by
      intro fu
      induction fu with
      | zero => intro x2_30 x3_30 H locs ls hP hD hS hl hsp; exact absurd (show none = some _ from hsp) (by simp)
      | succ fu ih_30 =>
        intro x2_30 x3_30 H locs ls hP hD hS hl hsp
        have hsp : (if (99 : Int32) < x3_30 then (some ((-1 : Int32), a0_refusedAsBad)) else (if (j_abs x2_30) < p1 then (lp_X7_when_30 p1 a0_refusedAsBad a0_town_kind a0_town_site_year fa0_town_pulls fu (sp_X6_offBehind (a0_town_site_year + x3_30) x2_30 a0_town_kind fa0_town_pulls) (x3_30 + (1 : Int32))) else (some (x3_30, a0_refusedAsBad)))) = some (z_0, z_1) := hsp
        refine lv_iload_n hx hb dX7_when_30 rfl (lv_at hl 3 rfl) (W.pc 31 rfl ?_)
        refine lv_bipush (v := (99 : Int32)) hx hb dX7_when_31 (by decide) (W.pc 33 rfl ?_)
        refine lv_icmp_gt (tgt := 73) hx hb dX7_when_33 (by decide) (fun c2 => ?_) (fun c2 => W.pc 36 rfl ?_)
        · have hsp := ip hsp c2
          refine lv_iconst (v := (-1 : Int32)) hx hb dX7_when_73 (by decide) (W.pc 74 rfl ?_)
          cases hsp
          exact rWi hX hP hS rfl rfl dX7_when_74
        · have hsp := iq hsp c2
          refine lv_iload_n hx hb dX7_when_36 rfl (lv_at hl 2 rfl) (W.pc 37 rfl ?_)
          refine kAbs hX hl.1 w_3_74 w_2_180 w_1_13 w_2_181 ⟨Nat.le_of_ble_eq_true rfl, Nat.le_of_ble_eq_true rfl⟩ dX7_when_37 (W.pc 40 rfl ?_)
          refine lv_iload_n hx hb dX7_when_40 rfl (lv_at hl 1 rfl) (W.pc 41 rfl ?_)
          refine lv_icmp_lt (tgt := 46) hx hb dX7_when_41 (by decide) (fun c3 => ?_) (fun c3 => W.pc 44 rfl ?_)
          · have hsp := ip hsp c3
            refine lv_aload_n hx hb dX7_when_46 rfl (lv_at hl 0 rfl) (W.pc 47 rfl ?_)
            refine va_get (D := E.1) (ci := 4) (v := .ref a0_town) (C := RX7) (T := TX7) (N := 15) hx hb hts inT_X7 hown hK hP 0 rfl rfl 0 (by decide) (hts _ w_1_178) (fun _ h9 => h9) rfl dX7_when_47 (W.pc 50 rfl ?_)
            refine lv_aload_n hx hb dX7_when_50 rfl (lv_at hl 0 rfl) (W.pc 51 rfl ?_)
            refine va_get (D := E.1) (ci := 4) (v := .ref a0_town) (C := RX7) (T := TX7) (N := 15) hx hb hts inT_X7 hown hK hP 0 rfl rfl 0 (by decide) (hts _ w_1_178) (fun _ h9 => h9) rfl dX7_when_51 (W.pc 54 rfl ?_)
            refine va_get (D := E.1) (ci := 3) (v := .ref a0_town_site) (C := RX6) (T := TX6) (N := 11) hx hb hts inT_X6 hown hK hP 1 rfl rfl 2 (by decide) (hts _ w_1_68) (fun _ h9 => h9) rfl dX7_when_54 (W.pc 57 rfl ?_)
            refine va_get (D := E.1) (ci := 1) (v := .int a0_town_site_year) (C := RX3) (T := TX3) (N := 5) hx hb hts inT_X3 hown hK hP 2 rfl rfl 1 (by decide) (hts _ w_1_45) (fun _ h9 => h9) rfl dX7_when_57 (W.pc 60 rfl ?_)
            refine lv_iload_n hx hb dX7_when_60 rfl (lv_at hl 3 rfl) (W.pc 61 rfl ?_)
            refine lv_iadd hx hb dX7_when_61 (W.pc 62 rfl ?_)
            refine lv_iload_n hx hb dX7_when_62 rfl (lv_at hl 2 rfl) (W.pc 63 rfl ?_)
            refine kVR (st1 := [.int (sp_X6_offBehind (a0_town_site_year + x3_30) x2_30 a0_town_kind fa0_town_pulls)]) hX (c_X6_offBehind l E a0_town a0_town_pulls a0_town_site a0_town_past a0_town_views a0_town_notes a0_town_marks (a0_town_site_year + x3_30) x2_30 a0_town_kind a0_town_pasts a0_town_members a0_town_noteCount a0_town_markCount fa0_town_pulls _ rfl) B_X6_offBehind w_3_66 hK (hP.pick [1, 3] rfl) (q0 := 0) (ci := 3) rfl rfl rfl rfl hl.1 rfl (Nat.le_of_ble_eq_true rfl) ⟨Nat.le_of_ble_eq_true rfl, Nat.le_of_ble_eq_true rfl⟩ dX7_when_63 rfl (W.pc 66 rfl ?_)
            refine lv_istore_n (lv' := [(2, .int (sp_X6_offBehind (a0_town_site_year + x3_30) x2_30 a0_town_kind fa0_town_pulls)), (0, .ref a0), (1, .int p1), (3, .int x3_30)]) hx hb dX7_when_66 rfl hl (by decide) rfl (fun ls hl => W.pc 67 rfl ?_)
            refine lv_iinc (v := (x3_30 + (1 : Int32))) (lv' := [(3, .int (x3_30 + (1 : Int32))), (2, .int (sp_X6_offBehind (a0_town_site_year + x3_30) x2_30 a0_town_kind fa0_town_pulls)), (0, .ref a0), (1, .int p1)]) hx hb dX7_when_67 hl (k := 3) rfl rfl (by decide) rfl (fun ls hl => W.pc 70 rfl ?_)
            refine lv_goto (tgt := 30) hx hb dX7_when_70 (by decide) ?_
            exact ih_30 (sp_X6_offBehind (a0_town_site_year + x3_30) x2_30 a0_town_kind fa0_town_pulls) (x3_30 + (1 : Int32)) _ _ _ hP hD hS (lv_sub hl [2, 3, 1, 0] rfl) hsp
          · have hsp := iq hsp c3
            refine lv_iload_n hx hb dX7_when_44 rfl (lv_at hl 3 rfl) (W.pc 45 rfl ?_)
            cases hsp
            exact rWi hX hP hS rfl rfl dX7_when_45
    exact L_30 FU a0_town_site_off (0 : Int32) _ _ _ hP hD hS (lv_sub hl [2, 3, 1, 0] rfl) hsp
  · have hsp := ip hsp c1
    refine lv_aload_n hx hb dX7_when_10 rfl (lv_at hl 0 rfl) (W.pc 11 rfl ?_)
    refine lv_bipush (v := (-2 : Int32)) hx hb dX7_when_11 (by decide) (W.pc 13 rfl ?_)
    obtain ⟨z4, hr_z4, hsp⟩ := ltb_s hsp
    refine kVW (st1 := [.int z4.1]) (ws' := [(a0, .inr (4, [.ref a0_town, .ref a0_draft, .ref a0_images, .int a0_imagesKept, .ref a0_text, .ref a0_planner, .ref a0_trial, .ref a0_spread, .ref a0_spreadBehind, .ref a0_tally, .long a0_above, .long a0_below, .int z4.2, .int a0_refusedAsNo, .int a0_refusedAsFull])), (a0_town, .inr (3, [.int a0_town_kind, .ref a0_town_pulls, .ref a0_town_site, .ref a0_town_past, .int a0_town_pasts, .ref a0_town_views, .int a0_town_members, .ref a0_town_notes, .int a0_town_noteCount, .ref a0_town_marks, .int a0_town_markCount])), (a0_town_site, .inr (1, [.int a0_town_site_off, .int a0_town_site_year, .ref a0_town_site_heights, .ref a0_town_site_storeyKinds, .ref a0_town_site_storeyTilts])), (a0_town_pulls, aI E 6 fa0_town_pulls)]) [0] hX (c_X7_bad l E a0 a0_town a0_draft a0_images a0_text a0_planner a0_trial a0_spread a0_spreadBehind a0_tally (-2 : Int32) a0_imagesKept a0_above a0_below a0_refusedAsBad a0_refusedAsNo a0_refusedAsFull z4.1 z4.2 hr_z4) B_X7_bad w_1_234 hK hP hD hS hA (by decide) rfl rfl rfl (q0 := 0) (ci := 4) rfl rfl rfl rfl hl.1 rfl (Nat.le_of_ble_eq_true rfl) ⟨Nat.le_of_ble_eq_true rfl, Nat.le_of_ble_eq_true rfl⟩ dX7_when_13 rfl (fun H locs hP hD hS => W.pc 16 rfl ?_)
    cases hsp
    exact rWi hX hP hS rfl rfl dX7_when_16
noncomputable def lp_X7_rolls_21 (a0_refusedAsBad : Int32) (fa0_town_site_heights : Nat → Int32) (fa0_town_site_storeyTilts : Nat → Int32) : Nat → Int32 → Int32 → Int32 → Option (Int32 × Int32)
 | 0, _, _, _ => none
 | fu + 1, x2_21, x3_21, x4_21 => if (6 : Int32) ≤ x4_21 then (some (x3_21, a0_refusedAsBad)) else (if (x3_21 + (sp_J6_compare_7cf53 (sp_X3_top x3_21 fa0_town_site_heights fa0_town_site_storeyTilts) (0 : Int32))) = x3_21 then (some (x3_21, a0_refusedAsBad)) else (if (x3_21 + (sp_J6_compare_7cf53 (sp_X3_top x3_21 fa0_town_site_heights fa0_town_site_storeyTilts) (0 : Int32))) = x2_21 then (some (x3_21, a0_refusedAsBad)) else (if (sp_X7_isPlot (x3_21 + (sp_J6_compare_7cf53 (sp_X3_top x3_21 fa0_town_site_heights fa0_town_site_storeyTilts) (0 : Int32)))) = 0 then (some (x3_21, a0_refusedAsBad)) else (lp_X7_rolls_21 a0_refusedAsBad fa0_town_site_heights fa0_town_site_storeyTilts fu x3_21 (x3_21 + (sp_J6_compare_7cf53 (sp_X3_top x3_21 fa0_town_site_heights fa0_town_site_storeyTilts) (0 : Int32))) (x4_21 + (1 : Int32))))))
noncomputable def sp_X7_rolls (p1 : Int32) (a0_refusedAsBad : Int32) (fa0_town_site_heights : Nat → Int32) (fa0_town_site_storeyTilts : Nat → Int32) : Option (Int32 × Int32) := if (sp_X7_isPlot p1) = 0 then (lt_ (sp_X7_bad (-2 : Int32) a0_refusedAsBad) fun z6 => some (z6.1, z6.2)) else (lp_X7_rolls_21 a0_refusedAsBad fa0_town_site_heights fa0_town_site_storeyTilts FU (-1 : Int32) p1 (0 : Int32))
set_option maxHeartbeats 4000000 in
set_option maxRecDepth 100000 in
theorem c_X7_rolls (l : Launch) (E : wE) (a0 a0_town a0_draft a0_images a0_text a0_planner a0_trial a0_spread a0_spreadBehind a0_tally a0_town_pulls a0_town_site a0_town_past a0_town_views a0_town_notes a0_town_marks a0_town_site_heights a0_town_site_storeyKinds a0_town_site_storeyTilts : Nat) (p1 : Int32) (a0_imagesKept : Int32) (a0_above : Int64) (a0_below : Int64) (a0_refusedAsBad : Int32) (a0_refusedAsNo : Int32) (a0_refusedAsFull : Int32) (a0_town_kind : Int32) (a0_town_pasts : Int32) (a0_town_members : Int32) (a0_town_noteCount : Int32) (a0_town_markCount : Int32) (a0_town_site_off : Int32) (a0_town_site_year : Int32) (fa0_town_site_heights : Nat → Int32) (fa0_town_site_storeyTilts : Nat → Int32) (z_0 : Int32) (z_1 : Int32) (hsp : sp_X7_rolls p1 a0_refusedAsBad fa0_town_site_heights fa0_town_site_storeyTilts = some (z_0, z_1)) : MW l yX7_rolls cX7_rolls 6 (some .int) 3 E [.ref a0, .int p1] [(a0, .inr (4, [.ref a0_town, .ref a0_draft, .ref a0_images, .int a0_imagesKept, .ref a0_text, .ref a0_planner, .ref a0_trial, .ref a0_spread, .ref a0_spreadBehind, .ref a0_tally, .long a0_above, .long a0_below, .int a0_refusedAsBad, .int a0_refusedAsNo, .int a0_refusedAsFull])), (a0_town, .inr (3, [.int a0_town_kind, .ref a0_town_pulls, .ref a0_town_site, .ref a0_town_past, .int a0_town_pasts, .ref a0_town_views, .int a0_town_members, .ref a0_town_notes, .int a0_town_noteCount, .ref a0_town_marks, .int a0_town_markCount])), (a0_town_site, .inr (1, [.int a0_town_site_off, .int a0_town_site_year, .ref a0_town_site_heights, .ref a0_town_site_storeyKinds, .ref a0_town_site_storeyTilts])), (a0_town_site_heights, aI E 6 fa0_town_site_heights), (a0_town_site_storeyTilts, aI E 30 fa0_town_site_storeyTilts)] (some (.int z_0)) [(a0, .inr (4, [.ref a0_town, .ref a0_draft, .ref a0_images, .int a0_imagesKept, .ref a0_text, .ref a0_planner, .ref a0_trial, .ref a0_spread, .ref a0_spreadBehind, .ref a0_tally, .long a0_above, .long a0_below, .int z_1, .int a0_refusedAsNo, .int a0_refusedAsFull])), (a0_town, .inr (3, [.int a0_town_kind, .ref a0_town_pulls, .ref a0_town_site, .ref a0_town_past, .int a0_town_pasts, .ref a0_town_views, .int a0_town_members, .ref a0_town_notes, .int a0_town_noteCount, .ref a0_town_marks, .int a0_town_markCount])), (a0_town_site, .inr (1, [.int a0_town_site_off, .int a0_town_site_year, .ref a0_town_site_heights, .ref a0_town_site_storeyKinds, .ref a0_town_site_storeyTilts])), (a0_town_site_heights, aI E 6 fa0_town_site_heights), (a0_town_site_storeyTilts, aI E 30 fa0_town_site_storeyTilts)] := by
  refine MW.of (by decide +kernel) (Nat.le_of_ble_eq_true rfl) ?_
  intro p e s m below meth c ls A hX hK hP hD hS hA hl
  have hX : CX p s m [.ref a0, .int p1].toArray meth c cX7_rolls 6 (some .int) RX7 := hX
  have hx := hX.1; have hb := hX.2.1; have hts := hX.2.2.2.2.1; have hown := hX.2.2.2.2.2.1
  have hl : lv_has ls 6 [(0, .ref a0), (1, .int p1)] := hl
  have hP : wP E [(a0, .inr (4, [.ref a0_town, .ref a0_draft, .ref a0_images, .int a0_imagesKept, .ref a0_text, .ref a0_planner, .ref a0_trial, .ref a0_spread, .ref a0_spreadBehind, .ref a0_tally, .long a0_above, .long a0_below, .int a0_refusedAsBad, .int a0_refusedAsNo, .int a0_refusedAsFull])), (a0_town, .inr (3, [.int a0_town_kind, .ref a0_town_pulls, .ref a0_town_site, .ref a0_town_past, .int a0_town_pasts, .ref a0_town_views, .int a0_town_members, .ref a0_town_notes, .int a0_town_noteCount, .ref a0_town_marks, .int a0_town_markCount])), (a0_town_site, .inr (1, [.int a0_town_site_off, .int a0_town_site_year, .ref a0_town_site_heights, .ref a0_town_site_storeyKinds, .ref a0_town_site_storeyTilts])), (a0_town_site_heights, aI E 6 fa0_town_site_heights), (a0_town_site_storeyTilts, aI E 30 fa0_town_site_storeyTilts)] s.heap := hP
  have hsp : (if (sp_X7_isPlot p1) = 0 then (lt_ (sp_X7_bad (-2 : Int32) a0_refusedAsBad) fun z6 => some (z6.1, z6.2)) else (lp_X7_rolls_21 a0_refusedAsBad fa0_town_site_heights fa0_town_site_storeyTilts FU (-1 : Int32) p1 (0 : Int32))) = some (z_0, z_1) := hsp
  refine lv_iload_n hx hb dX7_rolls_0 rfl (lv_at hl 1 rfl) (W.pc 1 rfl ?_)
  refine kSR (st1 := [.int (sp_X7_isPlot p1)]) hX (c_X7_isPlot l E p1 _ rfl) B_X7_isPlot w_3_0 hK (hP.pick [] rfl) rfl hl.1 rfl (Nat.le_of_ble_eq_true rfl) ⟨Nat.le_of_ble_eq_true rfl, Nat.le_of_ble_eq_true rfl⟩ dX7_rolls_1 rfl (W.pc 4 rfl ?_)
  refine lv_if_ne (tgt := 14) hx hb dX7_rolls_4 (by decide) (fun c1 => ?_) (fun c1 => W.pc 7 rfl ?_)
  · have hsp := iq hsp c1
    refine lv_iconst (v := (-1 : Int32)) hx hb dX7_rolls_14 (by decide) (W.pc 15 rfl ?_)
    refine lv_istore_n (lv' := [(2, .int (-1 : Int32)), (0, .ref a0), (1, .int p1)]) hx hb dX7_rolls_15 rfl hl (by decide) rfl (fun ls hl => W.pc 16 rfl ?_)
    refine lv_iload_n hx hb dX7_rolls_16 rfl (lv_at hl 2 rfl) (W.pc 17 rfl ?_)
    refine lv_istore_n (lv' := [(3, .int p1), (2, .int (-1 : Int32)), (0, .ref a0), (1, .int p1)]) hx hb dX7_rolls_17 rfl hl (by decide) rfl (fun ls hl => W.pc 18 rfl ?_)
    refine lv_iconst (v := (0 : Int32)) hx hb dX7_rolls_18 (by decide) (W.pc 19 rfl ?_)
    refine lv_istore (lv' := [(4, .int (0 : Int32)), (3, .int p1), (2, .int (-1 : Int32)), (0, .ref a0), (1, .int p1)]) hx hb dX7_rolls_19 hl (by decide) rfl (fun ls hl => W.pc 21 rfl ?_)
    have L_21 : ∀ (fu : Nat) (x2_21 : Int32) (x3_21 : Int32) (x4_21 : Int32), ∀ (H : Heap) (locs : List Loc) (ls : Array Slot), wP E [(a0, .inr (4, [.ref a0_town, .ref a0_draft, .ref a0_images, .int a0_imagesKept, .ref a0_text, .ref a0_planner, .ref a0_trial, .ref a0_spread, .ref a0_spreadBehind, .ref a0_tally, .long a0_above, .long a0_below, .int a0_refusedAsBad, .int a0_refusedAsNo, .int a0_refusedAsFull])), (a0_town, .inr (3, [.int a0_town_kind, .ref a0_town_pulls, .ref a0_town_site, .ref a0_town_past, .int a0_town_pasts, .ref a0_town_views, .int a0_town_members, .ref a0_town_notes, .int a0_town_noteCount, .ref a0_town_marks, .int a0_town_markCount])), (a0_town_site, .inr (1, [.int a0_town_site_off, .int a0_town_site_year, .ref a0_town_site_heights, .ref a0_town_site_storeyKinds, .ref a0_town_site_storeyTilts])), (a0_town_site_heights, aI E 6 fa0_town_site_heights), (a0_town_site_storeyTilts, aI E 30 fa0_town_site_storeyTilts)] H → va_D A [(a0, .inr (4, [.ref a0_town, .ref a0_draft, .ref a0_images, .int a0_imagesKept, .ref a0_text, .ref a0_planner, .ref a0_trial, .ref a0_spread, .ref a0_spreadBehind, .ref a0_tally, .long a0_above, .long a0_below, .int a0_refusedAsBad, .int a0_refusedAsNo, .int a0_refusedAsFull])), (a0_town, .inr (3, [.int a0_town_kind, .ref a0_town_pulls, .ref a0_town_site, .ref a0_town_past, .int a0_town_pasts, .ref a0_town_views, .int a0_town_members, .ref a0_town_notes, .int a0_town_noteCount, .ref a0_town_marks, .int a0_town_markCount])), (a0_town_site, .inr (1, [.int a0_town_site_off, .int a0_town_site_year, .ref a0_town_site_heights, .ref a0_town_site_storeyKinds, .ref a0_town_site_storeyTilts])), (a0_town_site_heights, aI E 6 fa0_town_site_heights), (a0_town_site_storeyTilts, aI E 30 fa0_town_site_storeyTilts)] → va_S A s.heap H locs → lv_has ls 6 [(0, .ref a0), (2, .int x2_21), (3, .int x3_21), (4, .int x4_21)] → lp_X7_rolls_21 a0_refusedAsBad fa0_town_site_heights fa0_town_site_storeyTilts fu x2_21 x3_21 x4_21 = some (z_0, z_1) → W p l e (wR 3) s m [.ref a0, .int p1].toArray below meth c H locs 0 0 (MQ below (QWd E A (some (.int z_0)) [(a0, .inr (4, [.ref a0_town, .ref a0_draft, .ref a0_images, .int a0_imagesKept, .ref a0_text, .ref a0_planner, .ref a0_trial, .ref a0_spread, .ref a0_spreadBehind, .ref a0_tally, .long a0_above, .long a0_below, .int z_1, .int a0_refusedAsNo, .int a0_refusedAsFull])), (a0_town, .inr (3, [.int a0_town_kind, .ref a0_town_pulls, .ref a0_town_site, .ref a0_town_past, .int a0_town_pasts, .ref a0_town_views, .int a0_town_members, .ref a0_town_notes, .int a0_town_noteCount, .ref a0_town_marks, .int a0_town_markCount])), (a0_town_site, .inr (1, [.int a0_town_site_off, .int a0_town_site_year, .ref a0_town_site_heights, .ref a0_town_site_storeyKinds, .ref a0_town_site_storeyTilts])), (a0_town_site_heights, aI E 6 fa0_town_site_heights), (a0_town_site_storeyTilts, aI E 30 fa0_town_site_storeyTilts)]) [.ref a0, .int p1].toArray s 0 0 A) (F0 m 21 ls []) := by
      intro fu
      induction fu with
      | zero => intro x2_21 x3_21 x4_21 H locs ls hP hD hS hl hsp; exact absurd (show none = some _ from hsp) (by simp)
      | succ fu ih_21 =>
        intro x2_21 x3_21 x4_21 H locs ls hP hD hS hl hsp
        have hsp : (if (6 : Int32) ≤ x4_21 then (some (x3_21, a0_refusedAsBad)) else (if (x3_21 + (sp_J6_compare_7cf53 (sp_X3_top x3_21 fa0_town_site_heights fa0_town_site_storeyTilts) (0 : Int32))) = x3_21 then (some (x3_21, a0_refusedAsBad)) else (if (x3_21 + (sp_J6_compare_7cf53 (sp_X3_top x3_21 fa0_town_site_heights fa0_town_site_storeyTilts) (0 : Int32))) = x2_21 then (some (x3_21, a0_refusedAsBad)) else (if (sp_X7_isPlot (x3_21 + (sp_J6_compare_7cf53 (sp_X3_top x3_21 fa0_town_site_heights fa0_town_site_storeyTilts) (0 : Int32)))) = 0 then (some (x3_21, a0_refusedAsBad)) else (lp_X7_rolls_21 a0_refusedAsBad fa0_town_site_heights fa0_town_site_storeyTilts fu x3_21 (x3_21 + (sp_J6_compare_7cf53 (sp_X3_top x3_21 fa0_town_site_heights fa0_town_site_storeyTilts) (0 : Int32))) (x4_21 + (1 : Int32))))))) = some (z_0, z_1) := hsp
        refine lv_iload hx hb dX7_rolls_21 (lv_at hl 3 rfl) (W.pc 23 rfl ?_)
        refine lv_bipush (v := (6 : Int32)) hx hb dX7_rolls_23 (by decide) (W.pc 25 rfl ?_)
        refine lv_icmp_ge (tgt := 80) hx hb dX7_rolls_25 (by decide) (fun c2 => ?_) (fun c2 => W.pc 28 rfl ?_)
        · have hsp := ip hsp c2
          refine lv_iload_n hx hb dX7_rolls_80 rfl (lv_at hl 2 rfl) (W.pc 81 rfl ?_)
          cases hsp
          exact rWi hX hP hS rfl rfl dX7_rolls_81
        · have hsp := iq hsp c2
          refine lv_iload_n hx hb dX7_rolls_28 rfl (lv_at hl 2 rfl) (W.pc 29 rfl ?_)
          refine lv_aload_n hx hb dX7_rolls_29 rfl (lv_at hl 0 rfl) (W.pc 30 rfl ?_)
          refine va_get (D := E.1) (ci := 4) (v := .ref a0_town) (C := RX7) (T := TX7) (N := 15) hx hb hts inT_X7 hown hK hP 0 rfl rfl 0 (by decide) (hts _ w_1_178) (fun _ h9 => h9) rfl dX7_rolls_30 (W.pc 33 rfl ?_)
          refine va_get (D := E.1) (ci := 3) (v := .ref a0_town_site) (C := RX6) (T := TX6) (N := 11) hx hb hts inT_X6 hown hK hP 1 rfl rfl 2 (by decide) (hts _ w_1_68) (fun _ h9 => h9) rfl dX7_rolls_33 (W.pc 36 rfl ?_)
          refine lv_iload_n hx hb dX7_rolls_36 rfl (lv_at hl 2 rfl) (W.pc 37 rfl ?_)
          refine kVR (st1 := [.int (sp_X3_top x3_21 fa0_town_site_heights fa0_town_site_storeyTilts), .int x3_21]) hX (c_X3_top l E a0_town_site a0_town_site_heights a0_town_site_storeyKinds a0_town_site_storeyTilts x3_21 a0_town_site_off a0_town_site_year fa0_town_site_heights fa0_town_site_storeyTilts _ rfl) B_X3_top w_3_53 hK (hP.pick [2, 3, 4] rfl) (q0 := 0) (ci := 1) rfl rfl rfl rfl hl.1 rfl (Nat.le_of_ble_eq_true rfl) ⟨Nat.le_of_ble_eq_true rfl, Nat.le_of_ble_eq_true rfl⟩ dX7_rolls_37 rfl (W.pc 40 rfl ?_)
          refine lv_iconst (v := (0 : Int32)) hx hb dX7_rolls_40 (by decide) (W.pc 41 rfl ?_)
          refine kSR (st1 := [.int (sp_J6_compare_7cf53 (sp_X3_top x3_21 fa0_town_site_heights fa0_town_site_storeyTilts) (0 : Int32)), .int x3_21]) hX (c_J6_compare_7cf53 l E (sp_X3_top x3_21 fa0_town_site_heights fa0_town_site_storeyTilts) (0 : Int32) _ rfl) B_J6_compare_7cf53 w_3_84 hK (hP.pick [] rfl) rfl hl.1 rfl (Nat.le_of_ble_eq_true rfl) ⟨Nat.le_of_ble_eq_true rfl, Nat.le_of_ble_eq_true rfl⟩ dX7_rolls_41 rfl (W.pc 44 rfl ?_)
          refine lv_iadd hx hb dX7_rolls_44 (W.pc 45 rfl ?_)
          refine lv_istore (lv' := [(5, .int (x3_21 + (sp_J6_compare_7cf53 (sp_X3_top x3_21 fa0_town_site_heights fa0_town_site_storeyTilts) (0 : Int32)))), (0, .ref a0), (2, .int x2_21), (3, .int x3_21), (4, .int x4_21)]) hx hb dX7_rolls_45 hl (by decide) rfl (fun ls hl => W.pc 47 rfl ?_)
          refine lv_iload hx hb dX7_rolls_47 (lv_at hl 0 rfl) (W.pc 49 rfl ?_)
          refine lv_iload_n hx hb dX7_rolls_49 rfl (lv_at hl 3 rfl) (W.pc 50 rfl ?_)
          refine lv_icmp_eq (tgt := 67) hx hb dX7_rolls_50 (by decide) (fun c3 => ?_) (fun c3 => W.pc 53 rfl ?_)
          · have hsp := ip hsp c3
            refine lv_iload_n hx hb dX7_rolls_67 rfl (lv_at hl 3 rfl) (W.pc 68 rfl ?_)
            cases hsp
            exact rWi hX hP hS rfl rfl dX7_rolls_68
          · have hsp := iq hsp c3
            refine lv_iload hx hb dX7_rolls_53 (lv_at hl 0 rfl) (W.pc 55 rfl ?_)
            refine lv_iload_n hx hb dX7_rolls_55 rfl (lv_at hl 2 rfl) (W.pc 56 rfl ?_)
            refine lv_icmp_eq (tgt := 67) hx hb dX7_rolls_56 (by decide) (fun c4 => ?_) (fun c4 => W.pc 59 rfl ?_)
            · have hsp := ip hsp c4
              refine lv_iload_n hx hb dX7_rolls_67 rfl (lv_at hl 3 rfl) (W.pc 68 rfl ?_)
              cases hsp
              exact rWi hX hP hS rfl rfl dX7_rolls_68
            · have hsp := iq hsp c4
              refine lv_iload hx hb dX7_rolls_59 (lv_at hl 0 rfl) (W.pc 61 rfl ?_)
              refine kSR (st1 := [.int (sp_X7_isPlot (x3_21 + (sp_J6_compare_7cf53 (sp_X3_top x3_21 fa0_town_site_heights fa0_town_site_storeyTilts) (0 : Int32))))]) hX (c_X7_isPlot l E (x3_21 + (sp_J6_compare_7cf53 (sp_X3_top x3_21 fa0_town_site_heights fa0_town_site_storeyTilts) (0 : Int32))) _ rfl) B_X7_isPlot w_3_0 hK (hP.pick [] rfl) rfl hl.1 rfl (Nat.le_of_ble_eq_true rfl) ⟨Nat.le_of_ble_eq_true rfl, Nat.le_of_ble_eq_true rfl⟩ dX7_rolls_61 rfl (W.pc 64 rfl ?_)
              refine lv_if_ne (tgt := 69) hx hb dX7_rolls_64 (by decide) (fun c5 => ?_) (fun c5 => W.pc 67 rfl ?_)
              · have hsp := iq hsp c5
                refine lv_iload_n hx hb dX7_rolls_69 rfl (lv_at hl 3 rfl) (W.pc 70 rfl ?_)
                refine lv_istore_n (lv' := [(2, .int x3_21), (5, .int (x3_21 + (sp_J6_compare_7cf53 (sp_X3_top x3_21 fa0_town_site_heights fa0_town_site_storeyTilts) (0 : Int32)))), (0, .ref a0), (3, .int x3_21), (4, .int x4_21)]) hx hb dX7_rolls_70 rfl hl (by decide) rfl (fun ls hl => W.pc 71 rfl ?_)
                refine lv_iload hx hb dX7_rolls_71 (lv_at hl 1 rfl) (W.pc 73 rfl ?_)
                refine lv_istore_n (lv' := [(3, .int (x3_21 + (sp_J6_compare_7cf53 (sp_X3_top x3_21 fa0_town_site_heights fa0_town_site_storeyTilts) (0 : Int32)))), (2, .int x3_21), (5, .int (x3_21 + (sp_J6_compare_7cf53 (sp_X3_top x3_21 fa0_town_site_heights fa0_town_site_storeyTilts) (0 : Int32)))), (0, .ref a0), (4, .int x4_21)]) hx hb dX7_rolls_73 rfl hl (by decide) rfl (fun ls hl => W.pc 74 rfl ?_)
                refine lv_iinc (v := (x4_21 + (1 : Int32))) (lv' := [(4, .int (x4_21 + (1 : Int32))), (3, .int (x3_21 + (sp_J6_compare_7cf53 (sp_X3_top x3_21 fa0_town_site_heights fa0_town_site_storeyTilts) (0 : Int32)))), (2, .int x3_21), (5, .int (x3_21 + (sp_J6_compare_7cf53 (sp_X3_top x3_21 fa0_town_site_heights fa0_town_site_storeyTilts) (0 : Int32)))), (0, .ref a0)]) hx hb dX7_rolls_74 hl (k := 4) rfl rfl (by decide) rfl (fun ls hl => W.pc 77 rfl ?_)
                refine lv_goto (tgt := 21) hx hb dX7_rolls_77 (by decide) ?_
                exact ih_21 x3_21 (x3_21 + (sp_J6_compare_7cf53 (sp_X3_top x3_21 fa0_town_site_heights fa0_town_site_storeyTilts) (0 : Int32))) (x4_21 + (1 : Int32)) _ _ _ hP hD hS (lv_sub hl [4, 2, 1, 0] rfl) hsp
              · have hsp := ip hsp c5
                refine lv_iload_n hx hb dX7_rolls_67 rfl (lv_at hl 3 rfl) (W.pc 68 rfl ?_)
                cases hsp
                exact rWi hX hP hS rfl rfl dX7_rolls_68
    exact L_21 FU (-1 : Int32) p1 (0 : Int32) _ _ _ hP hD hS (lv_sub hl [3, 2, 1, 0] rfl) hsp
  · have hsp := ip hsp c1
    refine lv_aload_n hx hb dX7_rolls_7 rfl (lv_at hl 0 rfl) (W.pc 8 rfl ?_)
    refine lv_bipush (v := (-2 : Int32)) hx hb dX7_rolls_8 (by decide) (W.pc 10 rfl ?_)
    obtain ⟨z6, hr_z6, hsp⟩ := ltb_s hsp
    refine kVW (st1 := [.int z6.1]) (ws' := [(a0, .inr (4, [.ref a0_town, .ref a0_draft, .ref a0_images, .int a0_imagesKept, .ref a0_text, .ref a0_planner, .ref a0_trial, .ref a0_spread, .ref a0_spreadBehind, .ref a0_tally, .long a0_above, .long a0_below, .int z6.2, .int a0_refusedAsNo, .int a0_refusedAsFull])), (a0_town, .inr (3, [.int a0_town_kind, .ref a0_town_pulls, .ref a0_town_site, .ref a0_town_past, .int a0_town_pasts, .ref a0_town_views, .int a0_town_members, .ref a0_town_notes, .int a0_town_noteCount, .ref a0_town_marks, .int a0_town_markCount])), (a0_town_site, .inr (1, [.int a0_town_site_off, .int a0_town_site_year, .ref a0_town_site_heights, .ref a0_town_site_storeyKinds, .ref a0_town_site_storeyTilts])), (a0_town_site_heights, aI E 6 fa0_town_site_heights), (a0_town_site_storeyTilts, aI E 30 fa0_town_site_storeyTilts)]) [0] hX (c_X7_bad l E a0 a0_town a0_draft a0_images a0_text a0_planner a0_trial a0_spread a0_spreadBehind a0_tally (-2 : Int32) a0_imagesKept a0_above a0_below a0_refusedAsBad a0_refusedAsNo a0_refusedAsFull z6.1 z6.2 hr_z6) B_X7_bad w_1_234 hK hP hD hS hA (by decide) rfl rfl rfl (q0 := 0) (ci := 4) rfl rfl rfl rfl hl.1 rfl (Nat.le_of_ble_eq_true rfl) ⟨Nat.le_of_ble_eq_true rfl, Nat.le_of_ble_eq_true rfl⟩ dX7_rolls_10 rfl (fun H locs hP hD hS => W.pc 13 rfl ?_)
    cases hsp
    exact rWi hX hP hS rfl rfl dX7_rolls_13
noncomputable def sp_X7_lies (p1 : Int32) (a0_refusedAsBad : Int32) (fa0_town_site_heights : Nat → Int32) (fa0_town_site_storeyTilts : Nat → Int32) : Option (Int32 × Int32) := if p1 = (0 : Int32) then (Option.bind (sp_X7_levelPlots fa0_town_site_heights fa0_town_site_storeyTilts) fun z2 => some (z2, a0_refusedAsBad)) else (if p1 = (1 : Int32) then (Option.bind (sp_X7_steps fa0_town_site_heights fa0_town_site_storeyTilts) fun z4 => some (z4, a0_refusedAsBad)) else ((lt_ (sp_X7_bad (-2 : Int32) a0_refusedAsBad) fun z5 => some (z5.1, z5.2))))
set_option maxHeartbeats 4000000 in
set_option maxRecDepth 100000 in
theorem c_X7_lies (l : Launch) (E : wE) (a0 a0_town a0_draft a0_images a0_text a0_planner a0_trial a0_spread a0_spreadBehind a0_tally a0_town_pulls a0_town_site a0_town_past a0_town_views a0_town_notes a0_town_marks a0_town_site_heights a0_town_site_storeyKinds a0_town_site_storeyTilts : Nat) (p1 : Int32) (a0_imagesKept : Int32) (a0_above : Int64) (a0_below : Int64) (a0_refusedAsBad : Int32) (a0_refusedAsNo : Int32) (a0_refusedAsFull : Int32) (a0_town_kind : Int32) (a0_town_pasts : Int32) (a0_town_members : Int32) (a0_town_noteCount : Int32) (a0_town_markCount : Int32) (a0_town_site_off : Int32) (a0_town_site_year : Int32) (fa0_town_site_heights : Nat → Int32) (fa0_town_site_storeyTilts : Nat → Int32) (z_0 : Int32) (z_1 : Int32) (hsp : sp_X7_lies p1 a0_refusedAsBad fa0_town_site_heights fa0_town_site_storeyTilts = some (z_0, z_1)) : MW l yX7_lies cX7_lies 2 (some .int) 4 E [.ref a0, .int p1] [(a0, .inr (4, [.ref a0_town, .ref a0_draft, .ref a0_images, .int a0_imagesKept, .ref a0_text, .ref a0_planner, .ref a0_trial, .ref a0_spread, .ref a0_spreadBehind, .ref a0_tally, .long a0_above, .long a0_below, .int a0_refusedAsBad, .int a0_refusedAsNo, .int a0_refusedAsFull])), (a0_town, .inr (3, [.int a0_town_kind, .ref a0_town_pulls, .ref a0_town_site, .ref a0_town_past, .int a0_town_pasts, .ref a0_town_views, .int a0_town_members, .ref a0_town_notes, .int a0_town_noteCount, .ref a0_town_marks, .int a0_town_markCount])), (a0_town_site, .inr (1, [.int a0_town_site_off, .int a0_town_site_year, .ref a0_town_site_heights, .ref a0_town_site_storeyKinds, .ref a0_town_site_storeyTilts])), (a0_town_site_heights, aI E 6 fa0_town_site_heights), (a0_town_site_storeyTilts, aI E 30 fa0_town_site_storeyTilts)] (some (.int z_0)) [(a0, .inr (4, [.ref a0_town, .ref a0_draft, .ref a0_images, .int a0_imagesKept, .ref a0_text, .ref a0_planner, .ref a0_trial, .ref a0_spread, .ref a0_spreadBehind, .ref a0_tally, .long a0_above, .long a0_below, .int z_1, .int a0_refusedAsNo, .int a0_refusedAsFull])), (a0_town, .inr (3, [.int a0_town_kind, .ref a0_town_pulls, .ref a0_town_site, .ref a0_town_past, .int a0_town_pasts, .ref a0_town_views, .int a0_town_members, .ref a0_town_notes, .int a0_town_noteCount, .ref a0_town_marks, .int a0_town_markCount])), (a0_town_site, .inr (1, [.int a0_town_site_off, .int a0_town_site_year, .ref a0_town_site_heights, .ref a0_town_site_storeyKinds, .ref a0_town_site_storeyTilts])), (a0_town_site_heights, aI E 6 fa0_town_site_heights), (a0_town_site_storeyTilts, aI E 30 fa0_town_site_storeyTilts)] := by
  refine MW.of (by decide +kernel) (Nat.le_of_ble_eq_true rfl) ?_
  intro p e s m below meth c ls A hX hK hP hD hS hA hl
  have hX : CX p s m [.ref a0, .int p1].toArray meth c cX7_lies 2 (some .int) RX7 := hX
  have hx := hX.1; have hb := hX.2.1; have hts := hX.2.2.2.2.1; have hown := hX.2.2.2.2.2.1
  have hl : lv_has ls 2 [(0, .ref a0), (1, .int p1)] := hl
  have hP : wP E [(a0, .inr (4, [.ref a0_town, .ref a0_draft, .ref a0_images, .int a0_imagesKept, .ref a0_text, .ref a0_planner, .ref a0_trial, .ref a0_spread, .ref a0_spreadBehind, .ref a0_tally, .long a0_above, .long a0_below, .int a0_refusedAsBad, .int a0_refusedAsNo, .int a0_refusedAsFull])), (a0_town, .inr (3, [.int a0_town_kind, .ref a0_town_pulls, .ref a0_town_site, .ref a0_town_past, .int a0_town_pasts, .ref a0_town_views, .int a0_town_members, .ref a0_town_notes, .int a0_town_noteCount, .ref a0_town_marks, .int a0_town_markCount])), (a0_town_site, .inr (1, [.int a0_town_site_off, .int a0_town_site_year, .ref a0_town_site_heights, .ref a0_town_site_storeyKinds, .ref a0_town_site_storeyTilts])), (a0_town_site_heights, aI E 6 fa0_town_site_heights), (a0_town_site_storeyTilts, aI E 30 fa0_town_site_storeyTilts)] s.heap := hP
  have hsp : (if p1 = (0 : Int32) then (Option.bind (sp_X7_levelPlots fa0_town_site_heights fa0_town_site_storeyTilts) fun z2 => some (z2, a0_refusedAsBad)) else (if p1 = (1 : Int32) then (Option.bind (sp_X7_steps fa0_town_site_heights fa0_town_site_storeyTilts) fun z4 => some (z4, a0_refusedAsBad)) else ((lt_ (sp_X7_bad (-2 : Int32) a0_refusedAsBad) fun z5 => some (z5.1, z5.2))))) = some (z_0, z_1) := hsp
  refine lv_iload_n hx hb dX7_lies_0 rfl (lv_at hl 1 rfl) (W.pc 1 rfl ?_)
  by_cases c1 : p1 = (0 : Int32)
  · have hsp := ip hsp c1
    refine lv_lookup (off := 27) (tgt := 28) hx hb dX7_lies_1 (by decide) (by rw [c1]; rfl) (by decide) ?_
    refine lv_aload_n hx hb dX7_lies_28 rfl (lv_at hl 0 rfl) (W.pc 29 rfl ?_)
    obtain ⟨z2, hr_z2, hsp⟩ := bd_s hsp
    refine kVR (st1 := [.int z2]) hX (c_X7_levelPlots l E a0 a0_town a0_draft a0_images a0_text a0_planner a0_trial a0_spread a0_spreadBehind a0_tally a0_town_pulls a0_town_site a0_town_past a0_town_views a0_town_notes a0_town_marks a0_town_site_heights a0_town_site_storeyKinds a0_town_site_storeyTilts a0_imagesKept a0_above a0_below a0_refusedAsBad a0_refusedAsNo a0_refusedAsFull a0_town_kind a0_town_pasts a0_town_members a0_town_noteCount a0_town_markCount a0_town_site_off a0_town_site_year fa0_town_site_heights fa0_town_site_storeyTilts z2 hr_z2) B_X7_levelPlots w_3_91 hK (hP.pick [0, 1, 2, 3, 4] rfl) (q0 := 0) (ci := 4) rfl rfl rfl rfl hl.1 rfl (Nat.le_of_ble_eq_true rfl) ⟨Nat.le_of_ble_eq_true rfl, Nat.le_of_ble_eq_true rfl⟩ dX7_lies_29 rfl (W.pc 32 rfl ?_)
    cases hsp
    exact rWi hX hP hS rfl rfl dX7_lies_32
  · have hsp := iq hsp c1
    by_cases c3 : p1 = (1 : Int32)
    · have hsp := ip hsp c3
      refine lv_lookup (off := 32) (tgt := 33) hx hb dX7_lies_1 (by decide) (by rw [c3]; rfl) (by decide) ?_
      refine lv_aload_n hx hb dX7_lies_33 rfl (lv_at hl 0 rfl) (W.pc 34 rfl ?_)
      obtain ⟨z4, hr_z4, hsp⟩ := bd_s hsp
      refine kVR (st1 := [.int z4]) hX (c_X7_steps l E a0 a0_town a0_draft a0_images a0_text a0_planner a0_trial a0_spread a0_spreadBehind a0_tally a0_town_pulls a0_town_site a0_town_past a0_town_views a0_town_notes a0_town_marks a0_town_site_heights a0_town_site_storeyKinds a0_town_site_storeyTilts a0_imagesKept a0_above a0_below a0_refusedAsBad a0_refusedAsNo a0_refusedAsFull a0_town_kind a0_town_pasts a0_town_members a0_town_noteCount a0_town_markCount a0_town_site_off a0_town_site_year fa0_town_site_heights fa0_town_site_storeyTilts z4 hr_z4) B_X7_steps w_3_95 hK (hP.pick [0, 1, 2, 3, 4] rfl) (q0 := 0) (ci := 4) rfl rfl rfl rfl hl.1 rfl (Nat.le_of_ble_eq_true rfl) ⟨Nat.le_of_ble_eq_true rfl, Nat.le_of_ble_eq_true rfl⟩ dX7_lies_34 rfl (W.pc 37 rfl ?_)
      cases hsp
      exact rWi hX hP hS rfl rfl dX7_lies_37
    · have hsp := iq hsp c3
      refine lv_lookup (off := 37) (tgt := 38) hx hb dX7_lies_1 (by decide) (by show Jvm.Op.lookupswitch.offset [(0, 27), (1, 32)] 37 (p1).toInt = 37; rw [lv_osw (a := 0) c1 rfl]; rw [lv_osw (a := 1) c3 rfl]; rfl) (by decide) ?_
      refine lv_aload_n hx hb dX7_lies_38 rfl (lv_at hl 0 rfl) (W.pc 39 rfl ?_)
      refine lv_bipush (v := (-2 : Int32)) hx hb dX7_lies_39 (by decide) (W.pc 41 rfl ?_)
      obtain ⟨z5, hr_z5, hsp⟩ := ltb_s hsp
      refine kVW (st1 := [.int z5.1]) (ws' := [(a0, .inr (4, [.ref a0_town, .ref a0_draft, .ref a0_images, .int a0_imagesKept, .ref a0_text, .ref a0_planner, .ref a0_trial, .ref a0_spread, .ref a0_spreadBehind, .ref a0_tally, .long a0_above, .long a0_below, .int z5.2, .int a0_refusedAsNo, .int a0_refusedAsFull])), (a0_town, .inr (3, [.int a0_town_kind, .ref a0_town_pulls, .ref a0_town_site, .ref a0_town_past, .int a0_town_pasts, .ref a0_town_views, .int a0_town_members, .ref a0_town_notes, .int a0_town_noteCount, .ref a0_town_marks, .int a0_town_markCount])), (a0_town_site, .inr (1, [.int a0_town_site_off, .int a0_town_site_year, .ref a0_town_site_heights, .ref a0_town_site_storeyKinds, .ref a0_town_site_storeyTilts])), (a0_town_site_heights, aI E 6 fa0_town_site_heights), (a0_town_site_storeyTilts, aI E 30 fa0_town_site_storeyTilts)]) [0] hX (c_X7_bad l E a0 a0_town a0_draft a0_images a0_text a0_planner a0_trial a0_spread a0_spreadBehind a0_tally (-2 : Int32) a0_imagesKept a0_above a0_below a0_refusedAsBad a0_refusedAsNo a0_refusedAsFull z5.1 z5.2 hr_z5) B_X7_bad w_1_234 hK hP hD hS hA (by decide) rfl rfl rfl (q0 := 0) (ci := 4) rfl rfl rfl rfl hl.1 rfl (Nat.le_of_ble_eq_true rfl) ⟨Nat.le_of_ble_eq_true rfl, Nat.le_of_ble_eq_true rfl⟩ dX7_lies_41 rfl (fun H locs hP hD hS => W.pc 44 rfl ?_)
      cases hsp
      exact rWi hX hP hS rfl rfl dX7_lies_44
noncomputable def lp_X7_pass_33 (p1 : Int32) (p2 : Int32) (a0_refusedAsBad : Int32) (z4 : Int32) : Nat → Int32 → Option (Int32 × Int32)
 | 0, _ => none
 | fu + 1, x4_33 => if (j_max p1 p2) ≤ x4_33 then (some ((1 : Int32), a0_refusedAsBad)) else (if (sp_X7_has z4 x4_33) = 0 then (lp_X7_pass_33 p1 p2 a0_refusedAsBad z4 fu (x4_33 + (1 : Int32))) else (some ((0 : Int32), a0_refusedAsBad)))
noncomputable def sp_X7_pass (p1 : Int32) (p2 : Int32) (a0_refusedAsBad : Int32) (fa0_town_site_heights : Nat → Int32) (fa0_town_site_storeyTilts : Nat → Int32) : Option (Int32 × Int32) := if (sp_X7_isPlot p1) = 0 then (lt_ (sp_X7_bad (-2 : Int32) a0_refusedAsBad) fun z2 => some (z2.1, z2.2)) else (if (sp_X7_isPlot p2) = 0 then (lt_ (sp_X7_bad (-2 : Int32) a0_refusedAsBad) fun z7 => some (z7.1, z7.2)) else (Option.bind (sp_X7_steps fa0_town_site_heights fa0_town_site_storeyTilts) fun z4 => lp_X7_pass_33 p1 p2 a0_refusedAsBad z4 FU (j_min p1 p2)))
set_option maxHeartbeats 4000000 in
set_option maxRecDepth 100000 in
theorem c_X7_pass (l : Launch) (E : wE) (a0 a0_town a0_draft a0_images a0_text a0_planner a0_trial a0_spread a0_spreadBehind a0_tally a0_town_pulls a0_town_site a0_town_past a0_town_views a0_town_notes a0_town_marks a0_town_site_heights a0_town_site_storeyKinds a0_town_site_storeyTilts : Nat) (p1 : Int32) (p2 : Int32) (a0_imagesKept : Int32) (a0_above : Int64) (a0_below : Int64) (a0_refusedAsBad : Int32) (a0_refusedAsNo : Int32) (a0_refusedAsFull : Int32) (a0_town_kind : Int32) (a0_town_pasts : Int32) (a0_town_members : Int32) (a0_town_noteCount : Int32) (a0_town_markCount : Int32) (a0_town_site_off : Int32) (a0_town_site_year : Int32) (fa0_town_site_heights : Nat → Int32) (fa0_town_site_storeyTilts : Nat → Int32) (z_0 : Int32) (z_1 : Int32) (hsp : sp_X7_pass p1 p2 a0_refusedAsBad fa0_town_site_heights fa0_town_site_storeyTilts = some (z_0, z_1)) : MW l yX7_pass cX7_pass 5 (some .int) 4 E [.ref a0, .int p1, .int p2] [(a0, .inr (4, [.ref a0_town, .ref a0_draft, .ref a0_images, .int a0_imagesKept, .ref a0_text, .ref a0_planner, .ref a0_trial, .ref a0_spread, .ref a0_spreadBehind, .ref a0_tally, .long a0_above, .long a0_below, .int a0_refusedAsBad, .int a0_refusedAsNo, .int a0_refusedAsFull])), (a0_town, .inr (3, [.int a0_town_kind, .ref a0_town_pulls, .ref a0_town_site, .ref a0_town_past, .int a0_town_pasts, .ref a0_town_views, .int a0_town_members, .ref a0_town_notes, .int a0_town_noteCount, .ref a0_town_marks, .int a0_town_markCount])), (a0_town_site, .inr (1, [.int a0_town_site_off, .int a0_town_site_year, .ref a0_town_site_heights, .ref a0_town_site_storeyKinds, .ref a0_town_site_storeyTilts])), (a0_town_site_heights, aI E 6 fa0_town_site_heights), (a0_town_site_storeyTilts, aI E 30 fa0_town_site_storeyTilts)] (some (.int z_0)) [(a0, .inr (4, [.ref a0_town, .ref a0_draft, .ref a0_images, .int a0_imagesKept, .ref a0_text, .ref a0_planner, .ref a0_trial, .ref a0_spread, .ref a0_spreadBehind, .ref a0_tally, .long a0_above, .long a0_below, .int z_1, .int a0_refusedAsNo, .int a0_refusedAsFull])), (a0_town, .inr (3, [.int a0_town_kind, .ref a0_town_pulls, .ref a0_town_site, .ref a0_town_past, .int a0_town_pasts, .ref a0_town_views, .int a0_town_members, .ref a0_town_notes, .int a0_town_noteCount, .ref a0_town_marks, .int a0_town_markCount])), (a0_town_site, .inr (1, [.int a0_town_site_off, .int a0_town_site_year, .ref a0_town_site_heights, .ref a0_town_site_storeyKinds, .ref a0_town_site_storeyTilts])), (a0_town_site_heights, aI E 6 fa0_town_site_heights), (a0_town_site_storeyTilts, aI E 30 fa0_town_site_storeyTilts)] := by
  refine MW.of (by decide +kernel) (Nat.le_of_ble_eq_true rfl) ?_
  intro p e s m below meth c ls A hX hK hP hD hS hA hl
  have hX : CX p s m [.ref a0, .int p1, .int p2].toArray meth c cX7_pass 5 (some .int) RX7 := hX
  have hx := hX.1; have hb := hX.2.1; have hts := hX.2.2.2.2.1; have hown := hX.2.2.2.2.2.1
  have hl : lv_has ls 5 [(0, .ref a0), (1, .int p1), (2, .int p2)] := hl
  have hP : wP E [(a0, .inr (4, [.ref a0_town, .ref a0_draft, .ref a0_images, .int a0_imagesKept, .ref a0_text, .ref a0_planner, .ref a0_trial, .ref a0_spread, .ref a0_spreadBehind, .ref a0_tally, .long a0_above, .long a0_below, .int a0_refusedAsBad, .int a0_refusedAsNo, .int a0_refusedAsFull])), (a0_town, .inr (3, [.int a0_town_kind, .ref a0_town_pulls, .ref a0_town_site, .ref a0_town_past, .int a0_town_pasts, .ref a0_town_views, .int a0_town_members, .ref a0_town_notes, .int a0_town_noteCount, .ref a0_town_marks, .int a0_town_markCount])), (a0_town_site, .inr (1, [.int a0_town_site_off, .int a0_town_site_year, .ref a0_town_site_heights, .ref a0_town_site_storeyKinds, .ref a0_town_site_storeyTilts])), (a0_town_site_heights, aI E 6 fa0_town_site_heights), (a0_town_site_storeyTilts, aI E 30 fa0_town_site_storeyTilts)] s.heap := hP
  have hsp : (if (sp_X7_isPlot p1) = 0 then (lt_ (sp_X7_bad (-2 : Int32) a0_refusedAsBad) fun z2 => some (z2.1, z2.2)) else (if (sp_X7_isPlot p2) = 0 then (lt_ (sp_X7_bad (-2 : Int32) a0_refusedAsBad) fun z7 => some (z7.1, z7.2)) else (Option.bind (sp_X7_steps fa0_town_site_heights fa0_town_site_storeyTilts) fun z4 => lp_X7_pass_33 p1 p2 a0_refusedAsBad z4 FU (j_min p1 p2)))) = some (z_0, z_1) := hsp
  refine lv_iload_n hx hb dX7_pass_0 rfl (lv_at hl 1 rfl) (W.pc 1 rfl ?_)
  refine kSR (st1 := [.int (sp_X7_isPlot p1)]) hX (c_X7_isPlot l E p1 _ rfl) B_X7_isPlot w_3_0 hK (hP.pick [] rfl) rfl hl.1 rfl (Nat.le_of_ble_eq_true rfl) ⟨Nat.le_of_ble_eq_true rfl, Nat.le_of_ble_eq_true rfl⟩ dX7_pass_1 rfl (W.pc 4 rfl ?_)
  refine lv_if_eq (tgt := 14) hx hb dX7_pass_4 (by decide) (fun c1 => ?_) (fun c1 => W.pc 7 rfl ?_)
  · have hsp := ip hsp c1
    refine lv_aload_n hx hb dX7_pass_14 rfl (lv_at hl 0 rfl) (W.pc 15 rfl ?_)
    refine lv_bipush (v := (-2 : Int32)) hx hb dX7_pass_15 (by decide) (W.pc 17 rfl ?_)
    obtain ⟨z2, hr_z2, hsp⟩ := ltb_s hsp
    refine kVW (st1 := [.int z2.1]) (ws' := [(a0, .inr (4, [.ref a0_town, .ref a0_draft, .ref a0_images, .int a0_imagesKept, .ref a0_text, .ref a0_planner, .ref a0_trial, .ref a0_spread, .ref a0_spreadBehind, .ref a0_tally, .long a0_above, .long a0_below, .int z2.2, .int a0_refusedAsNo, .int a0_refusedAsFull])), (a0_town, .inr (3, [.int a0_town_kind, .ref a0_town_pulls, .ref a0_town_site, .ref a0_town_past, .int a0_town_pasts, .ref a0_town_views, .int a0_town_members, .ref a0_town_notes, .int a0_town_noteCount, .ref a0_town_marks, .int a0_town_markCount])), (a0_town_site, .inr (1, [.int a0_town_site_off, .int a0_town_site_year, .ref a0_town_site_heights, .ref a0_town_site_storeyKinds, .ref a0_town_site_storeyTilts])), (a0_town_site_heights, aI E 6 fa0_town_site_heights), (a0_town_site_storeyTilts, aI E 30 fa0_town_site_storeyTilts)]) [0] hX (c_X7_bad l E a0 a0_town a0_draft a0_images a0_text a0_planner a0_trial a0_spread a0_spreadBehind a0_tally (-2 : Int32) a0_imagesKept a0_above a0_below a0_refusedAsBad a0_refusedAsNo a0_refusedAsFull z2.1 z2.2 hr_z2) B_X7_bad w_1_234 hK hP hD hS hA (by decide) rfl rfl rfl (q0 := 0) (ci := 4) rfl rfl rfl rfl hl.1 rfl (Nat.le_of_ble_eq_true rfl) ⟨Nat.le_of_ble_eq_true rfl, Nat.le_of_ble_eq_true rfl⟩ dX7_pass_17 rfl (fun H locs hP hD hS => W.pc 20 rfl ?_)
    cases hsp
    exact rWi hX hP hS rfl rfl dX7_pass_20
  · have hsp := iq hsp c1
    refine lv_iload_n hx hb dX7_pass_7 rfl (lv_at hl 2 rfl) (W.pc 8 rfl ?_)
    refine kSR (st1 := [.int (sp_X7_isPlot p2)]) hX (c_X7_isPlot l E p2 _ rfl) B_X7_isPlot w_3_0 hK (hP.pick [] rfl) rfl hl.1 rfl (Nat.le_of_ble_eq_true rfl) ⟨Nat.le_of_ble_eq_true rfl, Nat.le_of_ble_eq_true rfl⟩ dX7_pass_8 rfl (W.pc 11 rfl ?_)
    refine lv_if_ne (tgt := 21) hx hb dX7_pass_11 (by decide) (fun c3 => ?_) (fun c3 => W.pc 14 rfl ?_)
    · have hsp := iq hsp c3
      refine lv_aload_n hx hb dX7_pass_21 rfl (lv_at hl 0 rfl) (W.pc 22 rfl ?_)
      obtain ⟨z4, hr_z4, hsp⟩ := bd_s hsp
      refine kVR (st1 := [.int z4]) hX (c_X7_steps l E a0 a0_town a0_draft a0_images a0_text a0_planner a0_trial a0_spread a0_spreadBehind a0_tally a0_town_pulls a0_town_site a0_town_past a0_town_views a0_town_notes a0_town_marks a0_town_site_heights a0_town_site_storeyKinds a0_town_site_storeyTilts a0_imagesKept a0_above a0_below a0_refusedAsBad a0_refusedAsNo a0_refusedAsFull a0_town_kind a0_town_pasts a0_town_members a0_town_noteCount a0_town_markCount a0_town_site_off a0_town_site_year fa0_town_site_heights fa0_town_site_storeyTilts z4 hr_z4) B_X7_steps w_3_95 hK (hP.pick [0, 1, 2, 3, 4] rfl) (q0 := 0) (ci := 4) rfl rfl rfl rfl hl.1 rfl (Nat.le_of_ble_eq_true rfl) ⟨Nat.le_of_ble_eq_true rfl, Nat.le_of_ble_eq_true rfl⟩ dX7_pass_22 rfl (W.pc 25 rfl ?_)
      refine lv_istore_n (lv' := [(3, .int z4), (0, .ref a0), (1, .int p1), (2, .int p2)]) hx hb dX7_pass_25 rfl hl (by decide) rfl (fun ls hl => W.pc 26 rfl ?_)
      refine lv_iload_n hx hb dX7_pass_26 rfl (lv_at hl 2 rfl) (W.pc 27 rfl ?_)
      refine lv_iload_n hx hb dX7_pass_27 rfl (lv_at hl 3 rfl) (W.pc 28 rfl ?_)
      refine kMin hX hl.1 w_3_103 w_2_204 w_1_13 w_2_205 ⟨Nat.le_of_ble_eq_true rfl, Nat.le_of_ble_eq_true rfl⟩ dX7_pass_28 (W.pc 31 rfl ?_)
      refine lv_istore (lv' := [(4, .int (j_min p1 p2)), (3, .int z4), (0, .ref a0), (1, .int p1), (2, .int p2)]) hx hb dX7_pass_31 hl (by decide) rfl (fun ls hl => W.pc 33 rfl ?_)
      have L_33 : ∀ (fu : Nat) (x4_33 : Int32), ∀ (H : Heap) (locs : List Loc) (ls : Array Slot), wP E [(a0, .inr (4, [.ref a0_town, .ref a0_draft, .ref a0_images, .int a0_imagesKept, .ref a0_text, .ref a0_planner, .ref a0_trial, .ref a0_spread, .ref a0_spreadBehind, .ref a0_tally, .long a0_above, .long a0_below, .int a0_refusedAsBad, .int a0_refusedAsNo, .int a0_refusedAsFull])), (a0_town, .inr (3, [.int a0_town_kind, .ref a0_town_pulls, .ref a0_town_site, .ref a0_town_past, .int a0_town_pasts, .ref a0_town_views, .int a0_town_members, .ref a0_town_notes, .int a0_town_noteCount, .ref a0_town_marks, .int a0_town_markCount])), (a0_town_site, .inr (1, [.int a0_town_site_off, .int a0_town_site_year, .ref a0_town_site_heights, .ref a0_town_site_storeyKinds, .ref a0_town_site_storeyTilts])), (a0_town_site_heights, aI E 6 fa0_town_site_heights), (a0_town_site_storeyTilts, aI E 30 fa0_town_site_storeyTilts)] H → va_D A [(a0, .inr (4, [.ref a0_town, .ref a0_draft, .ref a0_images, .int a0_imagesKept, .ref a0_text, .ref a0_planner, .ref a0_trial, .ref a0_spread, .ref a0_spreadBehind, .ref a0_tally, .long a0_above, .long a0_below, .int a0_refusedAsBad, .int a0_refusedAsNo, .int a0_refusedAsFull])), (a0_town, .inr (3, [.int a0_town_kind, .ref a0_town_pulls, .ref a0_town_site, .ref a0_town_past, .int a0_town_pasts, .ref a0_town_views, .int a0_town_members, .ref a0_town_notes, .int a0_town_noteCount, .ref a0_town_marks, .int a0_town_markCount])), (a0_town_site, .inr (1, [.int a0_town_site_off, .int a0_town_site_year, .ref a0_town_site_heights, .ref a0_town_site_storeyKinds, .ref a0_town_site_storeyTilts])), (a0_town_site_heights, aI E 6 fa0_town_site_heights), (a0_town_site_storeyTilts, aI E 30 fa0_town_site_storeyTilts)] → va_S A s.heap H locs → lv_has ls 5 [(1, .int p1), (2, .int p2), (3, .int z4), (4, .int x4_33)] → lp_X7_pass_33 p1 p2 a0_refusedAsBad z4 fu x4_33 = some (z_0, z_1) → W p l e (wR 4) s m [.ref a0, .int p1, .int p2].toArray below meth c H locs 0 0 (MQ below (QWd E A (some (.int z_0)) [(a0, .inr (4, [.ref a0_town, .ref a0_draft, .ref a0_images, .int a0_imagesKept, .ref a0_text, .ref a0_planner, .ref a0_trial, .ref a0_spread, .ref a0_spreadBehind, .ref a0_tally, .long a0_above, .long a0_below, .int z_1, .int a0_refusedAsNo, .int a0_refusedAsFull])), (a0_town, .inr (3, [.int a0_town_kind, .ref a0_town_pulls, .ref a0_town_site, .ref a0_town_past, .int a0_town_pasts, .ref a0_town_views, .int a0_town_members, .ref a0_town_notes, .int a0_town_noteCount, .ref a0_town_marks, .int a0_town_markCount])), (a0_town_site, .inr (1, [.int a0_town_site_off, .int a0_town_site_year, .ref a0_town_site_heights, .ref a0_town_site_storeyKinds, .ref a0_town_site_storeyTilts])), (a0_town_site_heights, aI E 6 fa0_town_site_heights), (a0_town_site_storeyTilts, aI E 30 fa0_town_site_storeyTilts)]) [.ref a0, .int p1, .int p2].toArray s 0 0 A) (F0 m 33 ls []) := by
        intro fu
        induction fu with
        | zero => intro x4_33 H locs ls hP hD hS hl hsp; exact absurd (show none = some _ from hsp) (by simp)
        | succ fu ih_33 =>
          intro x4_33 H locs ls hP hD hS hl hsp
          have hsp : (if (j_max p1 p2) ≤ x4_33 then (some ((1 : Int32), a0_refusedAsBad)) else (if (sp_X7_has z4 x4_33) = 0 then (lp_X7_pass_33 p1 p2 a0_refusedAsBad z4 fu (x4_33 + (1 : Int32))) else (some ((0 : Int32), a0_refusedAsBad)))) = some (z_0, z_1) := hsp
          refine lv_iload hx hb dX7_pass_33 (lv_at hl 3 rfl) (W.pc 35 rfl ?_)
          refine lv_iload_n hx hb dX7_pass_35 rfl (lv_at hl 0 rfl) (W.pc 36 rfl ?_)
          refine lv_iload_n hx hb dX7_pass_36 rfl (lv_at hl 1 rfl) (W.pc 37 rfl ?_)
          refine kMax hX hl.1 w_3_104 w_2_207 w_1_13 w_2_208 ⟨Nat.le_of_ble_eq_true rfl, Nat.le_of_ble_eq_true rfl⟩ dX7_pass_37 (W.pc 40 rfl ?_)
          refine lv_icmp_ge (tgt := 60) hx hb dX7_pass_40 (by decide) (fun c5 => ?_) (fun c5 => W.pc 43 rfl ?_)
          · have hsp := ip hsp c5
            refine lv_iconst (v := (1 : Int32)) hx hb dX7_pass_60 (by decide) (W.pc 61 rfl ?_)
            cases hsp
            exact rWi hX hP hS rfl rfl dX7_pass_61
          · have hsp := iq hsp c5
            refine lv_iload_n hx hb dX7_pass_43 rfl (lv_at hl 2 rfl) (W.pc 44 rfl ?_)
            refine lv_iload hx hb dX7_pass_44 (lv_at hl 3 rfl) (W.pc 46 rfl ?_)
            refine kSR (st1 := [.int (sp_X7_has z4 x4_33)]) hX (c_X7_has l E z4 x4_33 _ rfl) B_X7_has w_3_105 hK (hP.pick [] rfl) rfl hl.1 rfl (Nat.le_of_ble_eq_true rfl) ⟨Nat.le_of_ble_eq_true rfl, Nat.le_of_ble_eq_true rfl⟩ dX7_pass_46 rfl (W.pc 49 rfl ?_)
            refine lv_if_eq (tgt := 54) hx hb dX7_pass_49 (by decide) (fun c6 => ?_) (fun c6 => W.pc 52 rfl ?_)
            · have hsp := ip hsp c6
              refine lv_iinc (v := (x4_33 + (1 : Int32))) (lv' := [(4, .int (x4_33 + (1 : Int32))), (1, .int p1), (2, .int p2), (3, .int z4)]) hx hb dX7_pass_54 hl (k := 3) rfl rfl (by decide) rfl (fun ls hl => W.pc 57 rfl ?_)
              refine lv_goto (tgt := 33) hx hb dX7_pass_57 (by decide) ?_
              exact ih_33 (x4_33 + (1 : Int32)) _ _ _ hP hD hS (lv_sub hl [1, 2, 3, 0] rfl) hsp
            · have hsp := iq hsp c6
              refine lv_iconst (v := (0 : Int32)) hx hb dX7_pass_52 (by decide) (W.pc 53 rfl ?_)
              cases hsp
              exact rWi hX hP hS rfl rfl dX7_pass_53
      exact L_33 FU (j_min p1 p2) _ _ _ hP hD hS (lv_sub hl [3, 4, 1, 0] rfl) hsp
    · have hsp := ip hsp c3
      refine lv_aload_n hx hb dX7_pass_14 rfl (lv_at hl 0 rfl) (W.pc 15 rfl ?_)
      refine lv_bipush (v := (-2 : Int32)) hx hb dX7_pass_15 (by decide) (W.pc 17 rfl ?_)
      obtain ⟨z7, hr_z7, hsp⟩ := ltb_s hsp
      refine kVW (st1 := [.int z7.1]) (ws' := [(a0, .inr (4, [.ref a0_town, .ref a0_draft, .ref a0_images, .int a0_imagesKept, .ref a0_text, .ref a0_planner, .ref a0_trial, .ref a0_spread, .ref a0_spreadBehind, .ref a0_tally, .long a0_above, .long a0_below, .int z7.2, .int a0_refusedAsNo, .int a0_refusedAsFull])), (a0_town, .inr (3, [.int a0_town_kind, .ref a0_town_pulls, .ref a0_town_site, .ref a0_town_past, .int a0_town_pasts, .ref a0_town_views, .int a0_town_members, .ref a0_town_notes, .int a0_town_noteCount, .ref a0_town_marks, .int a0_town_markCount])), (a0_town_site, .inr (1, [.int a0_town_site_off, .int a0_town_site_year, .ref a0_town_site_heights, .ref a0_town_site_storeyKinds, .ref a0_town_site_storeyTilts])), (a0_town_site_heights, aI E 6 fa0_town_site_heights), (a0_town_site_storeyTilts, aI E 30 fa0_town_site_storeyTilts)]) [0] hX (c_X7_bad l E a0 a0_town a0_draft a0_images a0_text a0_planner a0_trial a0_spread a0_spreadBehind a0_tally (-2 : Int32) a0_imagesKept a0_above a0_below a0_refusedAsBad a0_refusedAsNo a0_refusedAsFull z7.1 z7.2 hr_z7) B_X7_bad w_1_234 hK hP hD hS hA (by decide) rfl rfl rfl (q0 := 0) (ci := 4) rfl rfl rfl rfl hl.1 rfl (Nat.le_of_ble_eq_true rfl) ⟨Nat.le_of_ble_eq_true rfl, Nat.le_of_ble_eq_true rfl⟩ dX7_pass_17 rfl (fun H locs hP hD hS => W.pc 20 rfl ?_)
      cases hsp
      exact rWi hX hP hS rfl rfl dX7_pass_20
noncomputable def sp_X7_council (p1 : Int32) (a0_refusedAsBad : Int32) (a0_town_members : Int32) (a0_town_site_off : Int32) (fa0_town_views : Nat → Int32) : Option (Int32 × Int32) := Option.bind (sp_X7_yesVotes a0_town_site_off a0_town_members fa0_town_views) fun z1 => if p1 = (0 : Int32) then (some (z1, a0_refusedAsBad)) else (if p1 = (1 : Int32) then (if (sp_X7_carries z1 a0_town_members) = 0 then (some ((0 : Int32), a0_refusedAsBad)) else (some ((1 : Int32), a0_refusedAsBad))) else (if p1 = (2 : Int32) then (Option.bind (sp_X7_yesVotes (0 : Int32) a0_town_members fa0_town_views) fun z6 => some ((z1 ^^^ z6), a0_refusedAsBad)) else ((lt_ (sp_X7_bad (-2 : Int32) a0_refusedAsBad) fun z7 => some (z7.1, z7.2)))))
set_option maxHeartbeats 4000000 in
set_option maxRecDepth 100000 in
theorem c_X7_council (l : Launch) (E : wE) (a0 a0_town a0_draft a0_images a0_text a0_planner a0_trial a0_spread a0_spreadBehind a0_tally a0_town_pulls a0_town_site a0_town_past a0_town_views a0_town_notes a0_town_marks a0_town_site_heights a0_town_site_storeyKinds a0_town_site_storeyTilts : Nat) (p1 : Int32) (a0_imagesKept : Int32) (a0_above : Int64) (a0_below : Int64) (a0_refusedAsBad : Int32) (a0_refusedAsNo : Int32) (a0_refusedAsFull : Int32) (a0_town_kind : Int32) (a0_town_pasts : Int32) (a0_town_members : Int32) (a0_town_noteCount : Int32) (a0_town_markCount : Int32) (a0_town_site_off : Int32) (a0_town_site_year : Int32) (fa0_town_views : Nat → Int32) (z_0 : Int32) (z_1 : Int32) (hsp : sp_X7_council p1 a0_refusedAsBad a0_town_members a0_town_site_off fa0_town_views = some (z_0, z_1)) : MW l yX7_council cX7_council 3 (some .int) 2 E [.ref a0, .int p1] [(a0, .inr (4, [.ref a0_town, .ref a0_draft, .ref a0_images, .int a0_imagesKept, .ref a0_text, .ref a0_planner, .ref a0_trial, .ref a0_spread, .ref a0_spreadBehind, .ref a0_tally, .long a0_above, .long a0_below, .int a0_refusedAsBad, .int a0_refusedAsNo, .int a0_refusedAsFull])), (a0_town, .inr (3, [.int a0_town_kind, .ref a0_town_pulls, .ref a0_town_site, .ref a0_town_past, .int a0_town_pasts, .ref a0_town_views, .int a0_town_members, .ref a0_town_notes, .int a0_town_noteCount, .ref a0_town_marks, .int a0_town_markCount])), (a0_town_site, .inr (1, [.int a0_town_site_off, .int a0_town_site_year, .ref a0_town_site_heights, .ref a0_town_site_storeyKinds, .ref a0_town_site_storeyTilts])), (a0_town_views, aI E 5 fa0_town_views)] (some (.int z_0)) [(a0, .inr (4, [.ref a0_town, .ref a0_draft, .ref a0_images, .int a0_imagesKept, .ref a0_text, .ref a0_planner, .ref a0_trial, .ref a0_spread, .ref a0_spreadBehind, .ref a0_tally, .long a0_above, .long a0_below, .int z_1, .int a0_refusedAsNo, .int a0_refusedAsFull])), (a0_town, .inr (3, [.int a0_town_kind, .ref a0_town_pulls, .ref a0_town_site, .ref a0_town_past, .int a0_town_pasts, .ref a0_town_views, .int a0_town_members, .ref a0_town_notes, .int a0_town_noteCount, .ref a0_town_marks, .int a0_town_markCount])), (a0_town_site, .inr (1, [.int a0_town_site_off, .int a0_town_site_year, .ref a0_town_site_heights, .ref a0_town_site_storeyKinds, .ref a0_town_site_storeyTilts])), (a0_town_views, aI E 5 fa0_town_views)] := by
  refine MW.of (by decide +kernel) (Nat.le_of_ble_eq_true rfl) ?_
  intro p e s m below meth c ls A hX hK hP hD hS hA hl
  have hX : CX p s m [.ref a0, .int p1].toArray meth c cX7_council 3 (some .int) RX7 := hX
  have hx := hX.1; have hb := hX.2.1; have hts := hX.2.2.2.2.1; have hown := hX.2.2.2.2.2.1
  have hl : lv_has ls 3 [(0, .ref a0), (1, .int p1)] := hl
  have hP : wP E [(a0, .inr (4, [.ref a0_town, .ref a0_draft, .ref a0_images, .int a0_imagesKept, .ref a0_text, .ref a0_planner, .ref a0_trial, .ref a0_spread, .ref a0_spreadBehind, .ref a0_tally, .long a0_above, .long a0_below, .int a0_refusedAsBad, .int a0_refusedAsNo, .int a0_refusedAsFull])), (a0_town, .inr (3, [.int a0_town_kind, .ref a0_town_pulls, .ref a0_town_site, .ref a0_town_past, .int a0_town_pasts, .ref a0_town_views, .int a0_town_members, .ref a0_town_notes, .int a0_town_noteCount, .ref a0_town_marks, .int a0_town_markCount])), (a0_town_site, .inr (1, [.int a0_town_site_off, .int a0_town_site_year, .ref a0_town_site_heights, .ref a0_town_site_storeyKinds, .ref a0_town_site_storeyTilts])), (a0_town_views, aI E 5 fa0_town_views)] s.heap := hP
  have hsp : (Option.bind (sp_X7_yesVotes a0_town_site_off a0_town_members fa0_town_views) fun z1 => if p1 = (0 : Int32) then (some (z1, a0_refusedAsBad)) else (if p1 = (1 : Int32) then (if (sp_X7_carries z1 a0_town_members) = 0 then (some ((0 : Int32), a0_refusedAsBad)) else (some ((1 : Int32), a0_refusedAsBad))) else (if p1 = (2 : Int32) then (Option.bind (sp_X7_yesVotes (0 : Int32) a0_town_members fa0_town_views) fun z6 => some ((z1 ^^^ z6), a0_refusedAsBad)) else ((lt_ (sp_X7_bad (-2 : Int32) a0_refusedAsBad) fun z7 => some (z7.1, z7.2)))))) = some (z_0, z_1) := hsp
  refine lv_aload_n hx hb dX7_council_0 rfl (lv_at hl 0 rfl) (W.pc 1 rfl ?_)
  refine lv_aload_n hx hb dX7_council_1 rfl (lv_at hl 0 rfl) (W.pc 2 rfl ?_)
  refine va_get (D := E.1) (ci := 4) (v := .ref a0_town) (C := RX7) (T := TX7) (N := 15) hx hb hts inT_X7 hown hK hP 0 rfl rfl 0 (by decide) (hts _ w_1_178) (fun _ h9 => h9) rfl dX7_council_2 (W.pc 5 rfl ?_)
  refine va_get (D := E.1) (ci := 3) (v := .ref a0_town_site) (C := RX6) (T := TX6) (N := 11) hx hb hts inT_X6 hown hK hP 1 rfl rfl 2 (by decide) (hts _ w_1_68) (fun _ h9 => h9) rfl dX7_council_5 (W.pc 8 rfl ?_)
  refine va_get (D := E.1) (ci := 1) (v := .int a0_town_site_off) (C := RX3) (T := TX3) (N := 5) hx hb hts inT_X3 hown hK hP 2 rfl rfl 0 (by decide) (hts _ w_1_40) (fun _ h9 => h9) rfl dX7_council_8 (W.pc 11 rfl ?_)
  obtain ⟨z1, hr_z1, hsp⟩ := bd_s hsp
  refine kVR (st1 := [.int z1]) hX (c_X7_yesVotes l E a0 a0_town a0_draft a0_images a0_text a0_planner a0_trial a0_spread a0_spreadBehind a0_tally a0_town_pulls a0_town_site a0_town_past a0_town_views a0_town_notes a0_town_marks a0_town_site_off a0_imagesKept a0_above a0_below a0_refusedAsBad a0_refusedAsNo a0_refusedAsFull a0_town_kind a0_town_pasts a0_town_members a0_town_noteCount a0_town_markCount fa0_town_views z1 hr_z1) B_X7_yesVotes w_3_142 hK (hP.pick [0, 1, 3] rfl) (q0 := 0) (ci := 4) rfl rfl rfl rfl hl.1 rfl (Nat.le_of_ble_eq_true rfl) ⟨Nat.le_of_ble_eq_true rfl, Nat.le_of_ble_eq_true rfl⟩ dX7_council_11 rfl (W.pc 14 rfl ?_)
  refine lv_istore_n (lv' := [(2, .int z1), (0, .ref a0), (1, .int p1)]) hx hb dX7_council_14 rfl hl (by decide) rfl (fun ls hl => W.pc 15 rfl ?_)
  refine lv_iload_n hx hb dX7_council_15 rfl (lv_at hl 2 rfl) (W.pc 16 rfl ?_)
  by_cases c2 : p1 = (0 : Int32)
  · have hsp := ip hsp c2
    refine lv_tableIn (off := 28) (tgt := 44) hx hb dX7_council_16 (by rw [c2]; decide) (by rw [c2]; decide) (by rw [c2]; rfl) (by decide) ?_
    refine lv_iload_n hx hb dX7_council_44 rfl (lv_at hl 0 rfl) (W.pc 45 rfl ?_)
    cases hsp
    exact rWi hX hP hS rfl rfl dX7_council_45
  · have hsp := iq hsp c2
    by_cases c3 : p1 = (1 : Int32)
    · have hsp := ip hsp c3
      refine lv_tableIn (off := 30) (tgt := 46) hx hb dX7_council_16 (by rw [c3]; decide) (by rw [c3]; decide) (by rw [c3]; rfl) (by decide) ?_
      refine lv_aload_n hx hb dX7_council_46 rfl (lv_at hl 1 rfl) (W.pc 47 rfl ?_)
      refine lv_iload_n hx hb dX7_council_47 rfl (lv_at hl 0 rfl) (W.pc 48 rfl ?_)
      refine kVR (st1 := [.int (sp_X7_carries z1 a0_town_members)]) hX (c_X7_carries l E a0 a0_town a0_draft a0_images a0_text a0_planner a0_trial a0_spread a0_spreadBehind a0_tally a0_town_pulls a0_town_site a0_town_past a0_town_views a0_town_notes a0_town_marks z1 a0_imagesKept a0_above a0_below a0_refusedAsBad a0_refusedAsNo a0_refusedAsFull a0_town_kind a0_town_pasts a0_town_members a0_town_noteCount a0_town_markCount _ rfl) B_X7_carries w_3_146 hK (hP.pick [0, 1] rfl) (q0 := 0) (ci := 4) rfl rfl rfl rfl hl.1 rfl (Nat.le_of_ble_eq_true rfl) ⟨Nat.le_of_ble_eq_true rfl, Nat.le_of_ble_eq_true rfl⟩ dX7_council_48 rfl (W.pc 51 rfl ?_)
      refine lv_if_eq (tgt := 58) hx hb dX7_council_51 (by decide) (fun c4 => ?_) (fun c4 => W.pc 54 rfl ?_)
      · have hsp := ip hsp c4
        refine lv_iconst (v := (0 : Int32)) hx hb dX7_council_58 (by decide) (W.pc 59 rfl ?_)
        cases hsp
        exact rWi hX hP hS rfl rfl dX7_council_59
      · have hsp := iq hsp c4
        refine lv_iconst (v := (1 : Int32)) hx hb dX7_council_54 (by decide) (W.pc 55 rfl ?_)
        refine lv_goto (tgt := 59) hx hb dX7_council_55 (by decide) ?_
        cases hsp
        exact rWi hX hP hS rfl rfl dX7_council_59
    · have hsp := iq hsp c3
      by_cases c5 : p1 = (2 : Int32)
      · have hsp := ip hsp c5
        refine lv_tableIn (off := 44) (tgt := 60) hx hb dX7_council_16 (by rw [c5]; decide) (by rw [c5]; decide) (by rw [c5]; rfl) (by decide) ?_
        refine lv_iload_n hx hb dX7_council_60 rfl (lv_at hl 0 rfl) (W.pc 61 rfl ?_)
        refine lv_aload_n hx hb dX7_council_61 rfl (lv_at hl 1 rfl) (W.pc 62 rfl ?_)
        refine lv_iconst (v := (0 : Int32)) hx hb dX7_council_62 (by decide) (W.pc 63 rfl ?_)
        obtain ⟨z6, hr_z6, hsp⟩ := bd_s hsp
        refine kVR (st1 := [.int z6, .int z1]) hX (c_X7_yesVotes l E a0 a0_town a0_draft a0_images a0_text a0_planner a0_trial a0_spread a0_spreadBehind a0_tally a0_town_pulls a0_town_site a0_town_past a0_town_views a0_town_notes a0_town_marks (0 : Int32) a0_imagesKept a0_above a0_below a0_refusedAsBad a0_refusedAsNo a0_refusedAsFull a0_town_kind a0_town_pasts a0_town_members a0_town_noteCount a0_town_markCount fa0_town_views z6 hr_z6) B_X7_yesVotes w_3_142 hK (hP.pick [0, 1, 3] rfl) (q0 := 0) (ci := 4) rfl rfl rfl rfl hl.1 rfl (Nat.le_of_ble_eq_true rfl) ⟨Nat.le_of_ble_eq_true rfl, Nat.le_of_ble_eq_true rfl⟩ dX7_council_63 rfl (W.pc 66 rfl ?_)
        refine lv_ixor hx hb dX7_council_66 (W.pc 67 rfl ?_)
        cases hsp
        exact rWi hX hP hS rfl rfl dX7_council_67
      · have hsp := iq hsp c5
        refine lv_tableOut (tgt := 68) hx hb dX7_council_16 (by have := lv_neT c2 (a := 0) rfl; have := lv_neT c3 (a := 1) rfl; have := lv_neT c5 (a := 2) rfl;  omega) (by decide) ?_
        refine lv_aload_n hx hb dX7_council_68 rfl (lv_at hl 1 rfl) (W.pc 69 rfl ?_)
        refine lv_bipush (v := (-2 : Int32)) hx hb dX7_council_69 (by decide) (W.pc 71 rfl ?_)
        obtain ⟨z7, hr_z7, hsp⟩ := ltb_s hsp
        refine kVW (st1 := [.int z7.1]) (ws' := [(a0, .inr (4, [.ref a0_town, .ref a0_draft, .ref a0_images, .int a0_imagesKept, .ref a0_text, .ref a0_planner, .ref a0_trial, .ref a0_spread, .ref a0_spreadBehind, .ref a0_tally, .long a0_above, .long a0_below, .int z7.2, .int a0_refusedAsNo, .int a0_refusedAsFull])), (a0_town, .inr (3, [.int a0_town_kind, .ref a0_town_pulls, .ref a0_town_site, .ref a0_town_past, .int a0_town_pasts, .ref a0_town_views, .int a0_town_members, .ref a0_town_notes, .int a0_town_noteCount, .ref a0_town_marks, .int a0_town_markCount])), (a0_town_site, .inr (1, [.int a0_town_site_off, .int a0_town_site_year, .ref a0_town_site_heights, .ref a0_town_site_storeyKinds, .ref a0_town_site_storeyTilts])), (a0_town_views, aI E 5 fa0_town_views)]) [0] hX (c_X7_bad l E a0 a0_town a0_draft a0_images a0_text a0_planner a0_trial a0_spread a0_spreadBehind a0_tally (-2 : Int32) a0_imagesKept a0_above a0_below a0_refusedAsBad a0_refusedAsNo a0_refusedAsFull z7.1 z7.2 hr_z7) B_X7_bad w_1_234 hK hP hD hS hA (by decide) rfl rfl rfl (q0 := 0) (ci := 4) rfl rfl rfl rfl hl.1 rfl (Nat.le_of_ble_eq_true rfl) ⟨Nat.le_of_ble_eq_true rfl, Nat.le_of_ble_eq_true rfl⟩ dX7_council_71 rfl (fun H locs hP hD hS => W.pc 74 rfl ?_)
        cases hsp
        exact rWi hX hP hS rfl rfl dX7_council_74
noncomputable def lp_X7_power_29 (p1 : Int32) (a0_town_members : Int32) (fa0_town_views : Nat → Int32) : Nat → Int32 → Int32 → Option (Int32 × Int32)
 | 0, _, _ => none
 | fu + 1, x2_29, x3_29 => if (9 : Int32) < x3_29 then (some (x2_29, x3_29)) else (Option.bind (sp_X7_yesVotes x3_29 a0_town_members fa0_town_views) fun z4 => lt_ (if (sp_X7_carries z4 a0_town_members) = (sp_X7_carries (z4 ^^^ ((1 : Int32) <<< (p1 &&& 31))) a0_town_members) then (x2_29) else ((x2_29 + (1 : Int32)))) fun z5 => lp_X7_power_29 p1 a0_town_members fa0_town_views fu z5 (x3_29 + (1 : Int32)))
noncomputable def sp_X7_power (p1 : Int32) (a0_refusedAsBad : Int32) (a0_town_members : Int32) (fa0_town_views : Nat → Int32) : Option (Int32 × Int32) := if (sp_X2_within p1 (0 : Int32) (a0_town_members - (1 : Int32))) = 0 then (lt_ (sp_X7_bad (-2 : Int32) a0_refusedAsBad) fun z8 => some (z8.1, z8.2)) else (Option.bind (lp_X7_power_29 p1 a0_town_members fa0_town_views FU (0 : Int32) (-9 : Int32)) fun z2 => some (z2.1, a0_refusedAsBad))
set_option maxHeartbeats 4000000 in
set_option maxRecDepth 100000 in
theorem c_X7_power (l : Launch) (E : wE) (a0 a0_town a0_draft a0_images a0_text a0_planner a0_trial a0_spread a0_spreadBehind a0_tally a0_town_pulls a0_town_site a0_town_past a0_town_views a0_town_notes a0_town_marks : Nat) (p1 : Int32) (a0_imagesKept : Int32) (a0_above : Int64) (a0_below : Int64) (a0_refusedAsBad : Int32) (a0_refusedAsNo : Int32) (a0_refusedAsFull : Int32) (a0_town_kind : Int32) (a0_town_pasts : Int32) (a0_town_members : Int32) (a0_town_noteCount : Int32) (a0_town_markCount : Int32) (fa0_town_views : Nat → Int32) (z_0 : Int32) (z_1 : Int32) (hsp : sp_X7_power p1 a0_refusedAsBad a0_town_members fa0_town_views = some (z_0, z_1)) : MW l yX7_power cX7_power 5 (some .int) 2 E [.ref a0, .int p1] [(a0, .inr (4, [.ref a0_town, .ref a0_draft, .ref a0_images, .int a0_imagesKept, .ref a0_text, .ref a0_planner, .ref a0_trial, .ref a0_spread, .ref a0_spreadBehind, .ref a0_tally, .long a0_above, .long a0_below, .int a0_refusedAsBad, .int a0_refusedAsNo, .int a0_refusedAsFull])), (a0_town, .inr (3, [.int a0_town_kind, .ref a0_town_pulls, .ref a0_town_site, .ref a0_town_past, .int a0_town_pasts, .ref a0_town_views, .int a0_town_members, .ref a0_town_notes, .int a0_town_noteCount, .ref a0_town_marks, .int a0_town_markCount])), (a0_town_views, aI E 5 fa0_town_views)] (some (.int z_0)) [(a0, .inr (4, [.ref a0_town, .ref a0_draft, .ref a0_images, .int a0_imagesKept, .ref a0_text, .ref a0_planner, .ref a0_trial, .ref a0_spread, .ref a0_spreadBehind, .ref a0_tally, .long a0_above, .long a0_below, .int z_1, .int a0_refusedAsNo, .int a0_refusedAsFull])), (a0_town, .inr (3, [.int a0_town_kind, .ref a0_town_pulls, .ref a0_town_site, .ref a0_town_past, .int a0_town_pasts, .ref a0_town_views, .int a0_town_members, .ref a0_town_notes, .int a0_town_noteCount, .ref a0_town_marks, .int a0_town_markCount])), (a0_town_views, aI E 5 fa0_town_views)] := by
  refine MW.of (by decide +kernel) (Nat.le_of_ble_eq_true rfl) ?_
  intro p e s m below meth c ls A hX hK hP hD hS hA hl
  have hX : CX p s m [.ref a0, .int p1].toArray meth c cX7_power 5 (some .int) RX7 := hX
  have hx := hX.1; have hb := hX.2.1; have hts := hX.2.2.2.2.1; have hown := hX.2.2.2.2.2.1
  have hl : lv_has ls 5 [(0, .ref a0), (1, .int p1)] := hl
  have hP : wP E [(a0, .inr (4, [.ref a0_town, .ref a0_draft, .ref a0_images, .int a0_imagesKept, .ref a0_text, .ref a0_planner, .ref a0_trial, .ref a0_spread, .ref a0_spreadBehind, .ref a0_tally, .long a0_above, .long a0_below, .int a0_refusedAsBad, .int a0_refusedAsNo, .int a0_refusedAsFull])), (a0_town, .inr (3, [.int a0_town_kind, .ref a0_town_pulls, .ref a0_town_site, .ref a0_town_past, .int a0_town_pasts, .ref a0_town_views, .int a0_town_members, .ref a0_town_notes, .int a0_town_noteCount, .ref a0_town_marks, .int a0_town_markCount])), (a0_town_views, aI E 5 fa0_town_views)] s.heap := hP
  have hsp : (if (sp_X2_within p1 (0 : Int32) (a0_town_members - (1 : Int32))) = 0 then (lt_ (sp_X7_bad (-2 : Int32) a0_refusedAsBad) fun z8 => some (z8.1, z8.2)) else (Option.bind (lp_X7_power_29 p1 a0_town_members fa0_town_views FU (0 : Int32) (-9 : Int32)) fun z2 => some (z2.1, a0_refusedAsBad))) = some (z_0, z_1) := hsp
  refine lv_iload_n hx hb dX7_power_0 rfl (lv_at hl 1 rfl) (W.pc 1 rfl ?_)
  refine lv_iconst (v := (0 : Int32)) hx hb dX7_power_1 (by decide) (W.pc 2 rfl ?_)
  refine lv_aload_n hx hb dX7_power_2 rfl (lv_at hl 0 rfl) (W.pc 3 rfl ?_)
  refine va_get (D := E.1) (ci := 4) (v := .ref a0_town) (C := RX7) (T := TX7) (N := 15) hx hb hts inT_X7 hown hK hP 0 rfl rfl 0 (by decide) (hts _ w_1_178) (fun _ h9 => h9) rfl dX7_power_3 (W.pc 6 rfl ?_)
  refine va_get (D := E.1) (ci := 3) (v := .int a0_town_members) (C := RX6) (T := TX6) (N := 11) hx hb hts inT_X6 hown hK hP 1 rfl rfl 6 (by decide) (hts _ w_1_77) (fun _ h9 => h9) rfl dX7_power_6 (W.pc 9 rfl ?_)
  refine lv_iconst (v := (1 : Int32)) hx hb dX7_power_9 (by decide) (W.pc 10 rfl ?_)
  refine lv_isub hx hb dX7_power_10 (W.pc 11 rfl ?_)
  refine kSR (st1 := [.int (sp_X2_within p1 (0 : Int32) (a0_town_members - (1 : Int32)))]) hX (c_X2_within l E p1 (0 : Int32) (a0_town_members - (1 : Int32)) _ rfl) B_X2_within w_1_231 hK (hP.pick [] rfl) rfl hl.1 rfl (Nat.le_of_ble_eq_true rfl) ⟨Nat.le_of_ble_eq_true rfl, Nat.le_of_ble_eq_true rfl⟩ dX7_power_11 rfl (W.pc 14 rfl ?_)
  refine lv_if_ne (tgt := 24) hx hb dX7_power_14 (by decide) (fun c1 => ?_) (fun c1 => W.pc 17 rfl ?_)
  · have hsp := iq hsp c1
    refine lv_iconst (v := (0 : Int32)) hx hb dX7_power_24 (by decide) (W.pc 25 rfl ?_)
    refine lv_istore_n (lv' := [(2, .int (0 : Int32)), (0, .ref a0), (1, .int p1)]) hx hb dX7_power_25 rfl hl (by decide) rfl (fun ls hl => W.pc 26 rfl ?_)
    refine lv_bipush (v := (-9 : Int32)) hx hb dX7_power_26 (by decide) (W.pc 28 rfl ?_)
    refine lv_istore_n (lv' := [(3, .int (-9 : Int32)), (2, .int (0 : Int32)), (0, .ref a0), (1, .int p1)]) hx hb dX7_power_28 rfl hl (by decide) rfl (fun ls hl => W.pc 29 rfl ?_)
    have L_29 : ∀ (z2 : Int32 × Int32), (∀ (H : Heap) (locs : List Loc) (ls : Array Slot), wP E [(a0, .inr (4, [.ref a0_town, .ref a0_draft, .ref a0_images, .int a0_imagesKept, .ref a0_text, .ref a0_planner, .ref a0_trial, .ref a0_spread, .ref a0_spreadBehind, .ref a0_tally, .long a0_above, .long a0_below, .int a0_refusedAsBad, .int a0_refusedAsNo, .int a0_refusedAsFull])), (a0_town, .inr (3, [.int a0_town_kind, .ref a0_town_pulls, .ref a0_town_site, .ref a0_town_past, .int a0_town_pasts, .ref a0_town_views, .int a0_town_members, .ref a0_town_notes, .int a0_town_noteCount, .ref a0_town_marks, .int a0_town_markCount])), (a0_town_views, aI E 5 fa0_town_views)] H → va_D A [(a0, .inr (4, [.ref a0_town, .ref a0_draft, .ref a0_images, .int a0_imagesKept, .ref a0_text, .ref a0_planner, .ref a0_trial, .ref a0_spread, .ref a0_spreadBehind, .ref a0_tally, .long a0_above, .long a0_below, .int a0_refusedAsBad, .int a0_refusedAsNo, .int a0_refusedAsFull])), (a0_town, .inr (3, [.int a0_town_kind, .ref a0_town_pulls, .ref a0_town_site, .ref a0_town_past, .int a0_town_pasts, .ref a0_town_views, .int a0_town_members, .ref a0_town_notes, .int a0_town_noteCount, .ref a0_town_marks, .int a0_town_markCount])), (a0_town_views, aI E 5 fa0_town_views)] → va_S A s.heap H locs → lv_has ls 5 [(2, .int z2.1)] → W p l e (wR 2) s m [.ref a0, .int p1].toArray below meth c H locs 0 0 (MQ below (QWd E A (some (.int z_0)) [(a0, .inr (4, [.ref a0_town, .ref a0_draft, .ref a0_images, .int a0_imagesKept, .ref a0_text, .ref a0_planner, .ref a0_trial, .ref a0_spread, .ref a0_spreadBehind, .ref a0_tally, .long a0_above, .long a0_below, .int z_1, .int a0_refusedAsNo, .int a0_refusedAsFull])), (a0_town, .inr (3, [.int a0_town_kind, .ref a0_town_pulls, .ref a0_town_site, .ref a0_town_past, .int a0_town_pasts, .ref a0_town_views, .int a0_town_members, .ref a0_town_notes, .int a0_town_noteCount, .ref a0_town_marks, .int a0_town_markCount])), (a0_town_views, aI E 5 fa0_town_views)]) [.ref a0, .int p1].toArray s 0 0 A) (F0 m 70 ls [])) → ∀ (fu : Nat) (x2_29 : Int32) (x3_29 : Int32), ∀ (H : Heap) (locs : List Loc) (ls : Array Slot), wP E [(a0, .inr (4, [.ref a0_town, .ref a0_draft, .ref a0_images, .int a0_imagesKept, .ref a0_text, .ref a0_planner, .ref a0_trial, .ref a0_spread, .ref a0_spreadBehind, .ref a0_tally, .long a0_above, .long a0_below, .int a0_refusedAsBad, .int a0_refusedAsNo, .int a0_refusedAsFull])), (a0_town, .inr (3, [.int a0_town_kind, .ref a0_town_pulls, .ref a0_town_site, .ref a0_town_past, .int a0_town_pasts, .ref a0_town_views, .int a0_town_members, .ref a0_town_notes, .int a0_town_noteCount, .ref a0_town_marks, .int a0_town_markCount])), (a0_town_views, aI E 5 fa0_town_views)] H → va_D A [(a0, .inr (4, [.ref a0_town, .ref a0_draft, .ref a0_images, .int a0_imagesKept, .ref a0_text, .ref a0_planner, .ref a0_trial, .ref a0_spread, .ref a0_spreadBehind, .ref a0_tally, .long a0_above, .long a0_below, .int a0_refusedAsBad, .int a0_refusedAsNo, .int a0_refusedAsFull])), (a0_town, .inr (3, [.int a0_town_kind, .ref a0_town_pulls, .ref a0_town_site, .ref a0_town_past, .int a0_town_pasts, .ref a0_town_views, .int a0_town_members, .ref a0_town_notes, .int a0_town_noteCount, .ref a0_town_marks, .int a0_town_markCount])), (a0_town_views, aI E 5 fa0_town_views)] → va_S A s.heap H locs → lv_has ls 5 [(0, .ref a0), (1, .int p1), (2, .int x2_29), (3, .int x3_29)] → lp_X7_power_29 p1 a0_town_members fa0_town_views fu x2_29 x3_29 = some z2 → W p l e (wR 2) s m [.ref a0, .int p1].toArray below meth c H locs 0 0 (MQ below (QWd E A (some (.int z_0)) [(a0, .inr (4, [.ref a0_town, .ref a0_draft, .ref a0_images, .int a0_imagesKept, .ref a0_text, .ref a0_planner, .ref a0_trial, .ref a0_spread, .ref a0_spreadBehind, .ref a0_tally, .long a0_above, .long a0_below, .int z_1, .int a0_refusedAsNo, .int a0_refusedAsFull])), (a0_town, .inr (3, [.int a0_town_kind, .ref a0_town_pulls, .ref a0_town_site, .ref a0_town_past, .int a0_town_pasts, .ref a0_town_views, .int a0_town_members, .ref a0_town_notes, .int a0_town_noteCount, .ref a0_town_marks, .int a0_town_markCount])), (a0_town_views, aI E 5 fa0_town_views)]) [.ref a0, .int p1].toArray s 0 0 A) (F0 m 29 ls []) := by
      intro z2 hk_29 fu
      induction fu with
      | zero => intro x2_29 x3_29 H locs ls hP hD hS hl hsp; exact absurd (show none = some _ from hsp) (by simp)
      | succ fu ih_29 =>
        intro x2_29 x3_29 H locs ls hP hD hS hl hsp
        have hsp : (if (9 : Int32) < x3_29 then (some (x2_29, x3_29)) else (Option.bind (sp_X7_yesVotes x3_29 a0_town_members fa0_town_views) fun z4 => lt_ (if (sp_X7_carries z4 a0_town_members) = (sp_X7_carries (z4 ^^^ ((1 : Int32) <<< (p1 &&& 31))) a0_town_members) then (x2_29) else ((x2_29 + (1 : Int32)))) fun z5 => lp_X7_power_29 p1 a0_town_members fa0_town_views fu z5 (x3_29 + (1 : Int32)))) = some z2 := hsp
        refine lv_iload_n hx hb dX7_power_29 rfl (lv_at hl 3 rfl) (W.pc 30 rfl ?_)
        refine lv_bipush (v := (9 : Int32)) hx hb dX7_power_30 (by decide) (W.pc 32 rfl ?_)
        refine lv_icmp_gt (tgt := 70) hx hb dX7_power_32 (by decide) (fun c3 => ?_) (fun c3 => W.pc 35 rfl ?_)
        · have hsp := ip hsp c3
          obtain rfl := Option.some.inj hsp
          exact hk_29 _ _ _ hP hD hS (lv_sub hl [2] rfl)
        · have hsp := iq hsp c3
          refine lv_aload_n hx hb dX7_power_35 rfl (lv_at hl 0 rfl) (W.pc 36 rfl ?_)
          refine lv_iload_n hx hb dX7_power_36 rfl (lv_at hl 3 rfl) (W.pc 37 rfl ?_)
          obtain ⟨z4, hr_z4, hsp⟩ := bd_s hsp
          refine kVR (st1 := [.int z4]) hX (c_X7_yesVotes l E a0 a0_town a0_draft a0_images a0_text a0_planner a0_trial a0_spread a0_spreadBehind a0_tally a0_town_pulls a0_town_site a0_town_past a0_town_views a0_town_notes a0_town_marks x3_29 a0_imagesKept a0_above a0_below a0_refusedAsBad a0_refusedAsNo a0_refusedAsFull a0_town_kind a0_town_pasts a0_town_members a0_town_noteCount a0_town_markCount fa0_town_views z4 hr_z4) B_X7_yesVotes w_3_142 hK (hP.pick [0, 1, 2] rfl) (q0 := 0) (ci := 4) rfl rfl rfl rfl hl.1 rfl (Nat.le_of_ble_eq_true rfl) ⟨Nat.le_of_ble_eq_true rfl, Nat.le_of_ble_eq_true rfl⟩ dX7_power_37 rfl (W.pc 40 rfl ?_)
          refine lv_istore (lv' := [(4, .int z4), (0, .ref a0), (1, .int p1), (2, .int x2_29), (3, .int x3_29)]) hx hb dX7_power_40 hl (by decide) rfl (fun ls hl => W.pc 42 rfl ?_)
          refine lv_aload_n hx hb dX7_power_42 rfl (lv_at hl 1 rfl) (W.pc 43 rfl ?_)
          refine lv_iload hx hb dX7_power_43 (lv_at hl 0 rfl) (W.pc 45 rfl ?_)
          refine kVR (st1 := [.int (sp_X7_carries z4 a0_town_members)]) hX (c_X7_carries l E a0 a0_town a0_draft a0_images a0_text a0_planner a0_trial a0_spread a0_spreadBehind a0_tally a0_town_pulls a0_town_site a0_town_past a0_town_views a0_town_notes a0_town_marks z4 a0_imagesKept a0_above a0_below a0_refusedAsBad a0_refusedAsNo a0_refusedAsFull a0_town_kind a0_town_pasts a0_town_members a0_town_noteCount a0_town_markCount _ rfl) B_X7_carries w_3_146 hK (hP.pick [0, 1] rfl) (q0 := 0) (ci := 4) rfl rfl rfl rfl hl.1 rfl (Nat.le_of_ble_eq_true rfl) ⟨Nat.le_of_ble_eq_true rfl, Nat.le_of_ble_eq_true rfl⟩ dX7_power_45 rfl (W.pc 48 rfl ?_)
          refine lv_aload_n hx hb dX7_power_48 rfl (lv_at hl 1 rfl) (W.pc 49 rfl ?_)
          refine lv_iload hx hb dX7_power_49 (lv_at hl 0 rfl) (W.pc 51 rfl ?_)
          refine lv_iconst (v := (1 : Int32)) hx hb dX7_power_51 (by decide) (W.pc 52 rfl ?_)
          refine lv_iload_n hx hb dX7_power_52 rfl (lv_at hl 2 rfl) (W.pc 53 rfl ?_)
          refine lv_ishl hx hb dX7_power_53 (W.pc 54 rfl ?_)
          refine lv_ixor hx hb dX7_power_54 (W.pc 55 rfl ?_)
          refine kVR (st1 := [.int (sp_X7_carries (z4 ^^^ ((1 : Int32) <<< (p1 &&& 31))) a0_town_members), .int (sp_X7_carries z4 a0_town_members)]) hX (c_X7_carries l E a0 a0_town a0_draft a0_images a0_text a0_planner a0_trial a0_spread a0_spreadBehind a0_tally a0_town_pulls a0_town_site a0_town_past a0_town_views a0_town_notes a0_town_marks (z4 ^^^ ((1 : Int32) <<< (p1 &&& 31))) a0_imagesKept a0_above a0_below a0_refusedAsBad a0_refusedAsNo a0_refusedAsFull a0_town_kind a0_town_pasts a0_town_members a0_town_noteCount a0_town_markCount _ rfl) B_X7_carries w_3_146 hK (hP.pick [0, 1] rfl) (q0 := 0) (ci := 4) rfl rfl rfl rfl hl.1 rfl (Nat.le_of_ble_eq_true rfl) ⟨Nat.le_of_ble_eq_true rfl, Nat.le_of_ble_eq_true rfl⟩ dX7_power_55 rfl (W.pc 58 rfl ?_)
          obtain ⟨z5, hr_z5, hsp⟩ := ltb_s hsp
          have J6 : ∀ (H : Heap) (locs : List Loc) (ls : Array Slot), wP E [(a0, .inr (4, [.ref a0_town, .ref a0_draft, .ref a0_images, .int a0_imagesKept, .ref a0_text, .ref a0_planner, .ref a0_trial, .ref a0_spread, .ref a0_spreadBehind, .ref a0_tally, .long a0_above, .long a0_below, .int a0_refusedAsBad, .int a0_refusedAsNo, .int a0_refusedAsFull])), (a0_town, .inr (3, [.int a0_town_kind, .ref a0_town_pulls, .ref a0_town_site, .ref a0_town_past, .int a0_town_pasts, .ref a0_town_views, .int a0_town_members, .ref a0_town_notes, .int a0_town_noteCount, .ref a0_town_marks, .int a0_town_markCount])), (a0_town_views, aI E 5 fa0_town_views)] H → va_D A [(a0, .inr (4, [.ref a0_town, .ref a0_draft, .ref a0_images, .int a0_imagesKept, .ref a0_text, .ref a0_planner, .ref a0_trial, .ref a0_spread, .ref a0_spreadBehind, .ref a0_tally, .long a0_above, .long a0_below, .int a0_refusedAsBad, .int a0_refusedAsNo, .int a0_refusedAsFull])), (a0_town, .inr (3, [.int a0_town_kind, .ref a0_town_pulls, .ref a0_town_site, .ref a0_town_past, .int a0_town_pasts, .ref a0_town_views, .int a0_town_members, .ref a0_town_notes, .int a0_town_noteCount, .ref a0_town_marks, .int a0_town_markCount])), (a0_town_views, aI E 5 fa0_town_views)] → va_S A s.heap H locs → lv_has ls 5 [(0, .ref a0), (1, .int p1), (2, .int z5), (3, .int x3_29)] → W p l e (wR 2) s m [.ref a0, .int p1].toArray below meth c H locs 0 0 (MQ below (QWd E A (some (.int z_0)) [(a0, .inr (4, [.ref a0_town, .ref a0_draft, .ref a0_images, .int a0_imagesKept, .ref a0_text, .ref a0_planner, .ref a0_trial, .ref a0_spread, .ref a0_spreadBehind, .ref a0_tally, .long a0_above, .long a0_below, .int z_1, .int a0_refusedAsNo, .int a0_refusedAsFull])), (a0_town, .inr (3, [.int a0_town_kind, .ref a0_town_pulls, .ref a0_town_site, .ref a0_town_past, .int a0_town_pasts, .ref a0_town_views, .int a0_town_members, .ref a0_town_notes, .int a0_town_noteCount, .ref a0_town_marks, .int a0_town_markCount])), (a0_town_views, aI E 5 fa0_town_views)]) [.ref a0, .int p1].toArray s 0 0 A) (F0 m 64 ls []) := by
            intro H locs ls hP hD hS hl
            refine lv_iinc (v := (x3_29 + (1 : Int32))) (lv' := [(3, .int (x3_29 + (1 : Int32))), (0, .ref a0), (1, .int p1), (2, .int z5)]) hx hb dX7_power_64 hl (k := 3) rfl rfl (by decide) rfl (fun ls hl => W.pc 67 rfl ?_)
            refine lv_goto (tgt := 29) hx hb dX7_power_67 (by decide) ?_
            exact ih_29 z5 (x3_29 + (1 : Int32)) _ _ _ hP hD hS (lv_sub hl [1, 2, 3, 0] rfl) hsp
          replace hsp := hr_z5
          refine lv_icmp_eq (tgt := 64) hx hb dX7_power_58 (by decide) (fun c7 => ?_) (fun c7 => W.pc 61 rfl ?_)
          · have hsp := ip hsp c7
            subst hsp
            exact J6 _ _ _ hP hD hS (lv_sub hl [1, 2, 3, 4] rfl)
          · have hsp := iq hsp c7
            refine lv_iinc (v := (x2_29 + (1 : Int32))) (lv' := [(2, .int (x2_29 + (1 : Int32))), (4, .int z4), (0, .ref a0), (1, .int p1), (3, .int x3_29)]) hx hb dX7_power_61 hl (k := 3) rfl rfl (by decide) rfl (fun ls hl => W.pc 64 rfl ?_)
            subst hsp
            exact J6 _ _ _ hP hD hS (lv_sub hl [2, 3, 0, 4] rfl)
    obtain ⟨z2, hr_z2, hsp⟩ := bd_s hsp
    refine L_29 z2 (fun H locs ls hP hD hS hl => ?_) FU (0 : Int32) (-9 : Int32) _ _ _ hP hD hS (lv_sub hl [2, 3, 1, 0] rfl) hr_z2
    refine lv_iload_n hx hb dX7_power_70 rfl (lv_at hl 0 rfl) (W.pc 71 rfl ?_)
    cases hsp
    exact rWi hX hP hS rfl rfl dX7_power_71
  · have hsp := ip hsp c1
    refine lv_aload_n hx hb dX7_power_17 rfl (lv_at hl 0 rfl) (W.pc 18 rfl ?_)
    refine lv_bipush (v := (-2 : Int32)) hx hb dX7_power_18 (by decide) (W.pc 20 rfl ?_)
    obtain ⟨z8, hr_z8, hsp⟩ := ltb_s hsp
    refine kVW (st1 := [.int z8.1]) (ws' := [(a0, .inr (4, [.ref a0_town, .ref a0_draft, .ref a0_images, .int a0_imagesKept, .ref a0_text, .ref a0_planner, .ref a0_trial, .ref a0_spread, .ref a0_spreadBehind, .ref a0_tally, .long a0_above, .long a0_below, .int z8.2, .int a0_refusedAsNo, .int a0_refusedAsFull])), (a0_town, .inr (3, [.int a0_town_kind, .ref a0_town_pulls, .ref a0_town_site, .ref a0_town_past, .int a0_town_pasts, .ref a0_town_views, .int a0_town_members, .ref a0_town_notes, .int a0_town_noteCount, .ref a0_town_marks, .int a0_town_markCount])), (a0_town_views, aI E 5 fa0_town_views)]) [0] hX (c_X7_bad l E a0 a0_town a0_draft a0_images a0_text a0_planner a0_trial a0_spread a0_spreadBehind a0_tally (-2 : Int32) a0_imagesKept a0_above a0_below a0_refusedAsBad a0_refusedAsNo a0_refusedAsFull z8.1 z8.2 hr_z8) B_X7_bad w_1_234 hK hP hD hS hA (by decide) rfl rfl rfl (q0 := 0) (ci := 4) rfl rfl rfl rfl hl.1 rfl (Nat.le_of_ble_eq_true rfl) ⟨Nat.le_of_ble_eq_true rfl, Nat.le_of_ble_eq_true rfl⟩ dX7_power_20 rfl (fun H locs hP hD hS => W.pc 23 rfl ?_)
    cases hsp
    exact rWi hX hP hS rfl rfl dX7_power_23
