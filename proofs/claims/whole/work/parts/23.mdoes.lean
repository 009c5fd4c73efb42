theorem w_5_57 : Cond.methodLink RX8 185 yX8_triesOn ∈ TBL := TBL_t (tin5 (List.mem_of_getElem? (i := 57) (by decide +kernel))) (by decide +kernel)
theorem w_5_77 : Cond.methodLink RX8 188 yX8_isStep ∈ TBL := TBL_t (tin5 (List.mem_of_getElem? (i := 77) (by decide +kernel))) (by decide +kernel)
theorem w_5_96 : Cond.methodLink RX8 191 yX8_figure ∈ TBL := TBL_t (tin5 (List.mem_of_getElem? (i := 96) (by decide +kernel))) (by decide +kernel)
theorem w_5_89 : Cond.methodLink RX8 195 yX8_figures ∈ TBL := TBL_t (tin5 (List.mem_of_getElem? (i := 89) (by decide +kernel))) (by decide +kernel)
theorem w_5_92 : Cond.methodLink RX8 198 yX8_buildsAll ∈ TBL := TBL_t (tin5 (List.mem_of_getElem? (i := 92) (by decide +kernel))) (by decide +kernel)
theorem w_5_99 : Cond.methodLink RX8 202 yX8_counts ∈ TBL := TBL_t (tin5 (List.mem_of_getElem? (i := 99) (by decide +kernel))) (by decide +kernel)
theorem w_5_60 : Cond.code yX8_triesOn cX8_triesOn 1 none ∈ TBL := TBL_t (tin5 (List.mem_of_getElem? (i := 60) (by decide +kernel))) (by decide +kernel)
theorem w_5_59 : Cond.instanceMethod yX8_triesOn ∈ TBL := TBL_t (tin5 (List.mem_of_getElem? (i := 59) (by decide +kernel))) (by decide +kernel)
theorem w_5_80 : Cond.code yX8_isStep cX8_isStep 2 (some .boolean) ∈ TBL := TBL_t (tin5 (List.mem_of_getElem? (i := 80) (by decide +kernel))) (by decide +kernel)
theorem w_5_79 : Cond.instanceMethod yX8_isStep ∈ TBL := TBL_t (tin5 (List.mem_of_getElem? (i := 79) (by decide +kernel))) (by decide +kernel)
theorem w_5_98 : Cond.code yX8_figure cX8_figure 5 (some .int) ∈ TBL := TBL_t (tin5 (List.mem_of_getElem? (i := 98) (by decide +kernel))) (by decide +kernel)
theorem w_5_97 : Cond.static yX8_figure ∈ TBL := TBL_t (tin5 (List.mem_of_getElem? (i := 97) (by decide +kernel))) (by decide +kernel)
theorem w_5_91 : Cond.code yX8_figures cX8_figures 4 (some .int) ∈ TBL := TBL_t (tin5 (List.mem_of_getElem? (i := 91) (by decide +kernel))) (by decide +kernel)
theorem w_5_90 : Cond.static yX8_figures ∈ TBL := TBL_t (tin5 (List.mem_of_getElem? (i := 90) (by decide +kernel))) (by decide +kernel)
theorem w_5_95 : Cond.code yX8_buildsAll cX8_buildsAll 5 (some .boolean) ∈ TBL := TBL_t (tin5 (List.mem_of_getElem? (i := 95) (by decide +kernel))) (by decide +kernel)
theorem w_5_94 : Cond.instanceMethod yX8_buildsAll ∈ TBL := TBL_t (tin5 (List.mem_of_getElem? (i := 94) (by decide +kernel))) (by decide +kernel)
theorem w_5_102 : Cond.code yX8_counts cX8_counts 3 (some .boolean) ∈ TBL := TBL_t (tin5 (List.mem_of_getElem? (i := 102) (by decide +kernel))) (by decide +kernel)
theorem w_5_101 : Cond.instanceMethod yX8_counts ∈ TBL := TBL_t (tin5 (List.mem_of_getElem? (i := 101) (by decide +kernel))) (by decide +kernel)
theorem ws_44 : Cond.selects yX8_triesOn.cls yX8_triesOn yX8_triesOn ∈ TBL := TBL_s (List.mem_of_getElem? (i := 44) (by decide +kernel)) (by decide +kernel)
theorem ws_45 : Cond.selects yX8_isStep.cls yX8_isStep yX8_isStep ∈ TBL := TBL_s (List.mem_of_getElem? (i := 45) (by decide +kernel)) (by decide +kernel)
theorem ws_46 : Cond.selects yX8_buildsAll.cls yX8_buildsAll yX8_buildsAll ∈ TBL := TBL_s (List.mem_of_getElem? (i := 46) (by decide +kernel)) (by decide +kernel)
theorem ws_47 : Cond.selects yX8_counts.cls yX8_counts yX8_counts ∈ TBL := TBL_s (List.mem_of_getElem? (i := 47) (by decide +kernel)) (by decide +kernel)
theorem B_X8_triesOn : cV yX8_triesOn cX8_triesOn 1 none 0 := ⟨w_5_60, w_5_59, (ws_44), w_1_6, by decide +kernel⟩
theorem B_X8_isStep : cV yX8_isStep cX8_isStep 2 (some .boolean) 1 := ⟨w_5_80, w_5_79, (ws_45), w_1_6, by decide +kernel⟩
theorem B_X8_figure : cS yX8_figure cX8_figure 5 (some .int) 3 := ⟨w_5_98, w_5_97, w_1_6, by decide +kernel⟩
theorem B_X8_figures : cS yX8_figures cX8_figures 4 (some .int) 1 := ⟨w_5_91, w_5_90, w_1_6, by decide +kernel⟩
theorem B_X8_buildsAll : cV yX8_buildsAll cX8_buildsAll 5 (some .boolean) 2 := ⟨w_5_95, w_5_94, (ws_46), w_1_6, by decide +kernel⟩
theorem B_X8_counts : cV yX8_counts cX8_counts 3 (some .boolean) 1 := ⟨w_5_102, w_5_101, (ws_47), w_1_6, by decide +kernel⟩
theorem dX8_then_0 : decode cX8_then 0 = .ok (.iload_n 1, 1) := by decide +kernel
theorem dX8_then_1 : decode cX8_then 1 = .ok (.iconst 0, 1) := by decide +kernel
theorem dX8_then_2 : decode cX8_then 2 = .ok (.bipush 99, 2) := by decide +kernel
theorem dX8_then_4 : decode cX8_then 4 = .ok (.invokestatic 42, 3) := by decide +kernel
theorem dX8_then_7 : decode cX8_then 7 = .ok (.ifCond .ne 10, 3) := by decide +kernel
theorem dX8_then_10 : decode cX8_then 10 = .ok (.aload_n 0, 1) := by decide +kernel
theorem dX8_then_11 : decode cX8_then 11 = .ok (.bipush (-100), 2) := by decide +kernel
theorem dX8_then_13 : decode cX8_then 13 = .ok (.invokevirtual 104, 3) := by decide +kernel
theorem dX8_then_16 : decode cX8_then 16 = .ok (.ireturn, 1) := by decide +kernel
theorem dX8_then_17 : decode cX8_then 17 = .ok (.aload_n 0, 1) := by decide +kernel
theorem dX8_then_18 : decode cX8_then 18 = .ok (.invokevirtual 185, 3) := by decide +kernel
theorem dX8_then_21 : decode cX8_then 21 = .ok (.iconst 0, 1) := by decide +kernel
theorem dX8_then_22 : decode cX8_then 22 = .ok (.istore_n 2, 1) := by decide +kernel
theorem dX8_then_23 : decode cX8_then 23 = .ok (.iload_n 2, 1) := by decide +kernel
theorem dX8_then_24 : decode cX8_then 24 = .ok (.iload_n 1, 1) := by decide +kernel
theorem dX8_then_25 : decode cX8_then 25 = .ok (.if_icmp .ge 16, 3) := by decide +kernel
theorem dX8_then_28 : decode cX8_then 28 = .ok (.aload_n 0, 1) := by decide +kernel
theorem dX8_then_29 : decode cX8_then 29 = .ok (.getfield 19, 3) := by decide +kernel
theorem dX8_then_32 : decode cX8_then 32 = .ok (.invokestatic 150, 3) := by decide +kernel
theorem dX8_then_35 : decode cX8_then 35 = .ok (.iinc 2 1, 3) := by decide +kernel
theorem dX8_then_38 : decode cX8_then 38 = .ok (.goto (-15), 3) := by decide +kernel
theorem dX8_then_41 : decode cX8_then 41 = .ok (.aload_n 0, 1) := by decide +kernel
theorem dX8_then_42 : decode cX8_then 42 = .ok (.getfield 19, 3) := by decide +kernel
theorem dX8_then_45 : decode cX8_then 45 = .ok (.iconst 1, 1) := by decide +kernel
theorem dX8_then_46 : decode cX8_then 46 = .ok (.iaload, 1) := by decide +kernel
theorem dX8_then_47 : decode cX8_then 47 = .ok (.ireturn, 1) := by decide +kernel
theorem dX8_when_0 : decode cX8_when 0 = .ok (.iload_n 1, 1) := by decide +kernel
theorem dX8_when_1 : decode cX8_when 1 = .ok (.iconst 1, 1) := by decide +kernel
theorem dX8_when_2 : decode cX8_when 2 = .ok (.bipush 9, 2) := by decide +kernel
theorem dX8_when_4 : decode cX8_when 4 = .ok (.invokestatic 42, 3) := by decide +kernel
theorem dX8_when_7 : decode cX8_when 7 = .ok (.ifCond .ne 8, 3) := by decide +kernel
theorem dX8_when_10 : decode cX8_when 10 = .ok (.aload_n 0, 1) := by decide +kernel
theorem dX8_when_11 : decode cX8_when 11 = .ok (.invokevirtual 86, 3) := by decide +kernel
theorem dX8_when_14 : decode cX8_when 14 = .ok (.ireturn, 1) := by decide +kernel
theorem dX8_when_15 : decode cX8_when 15 = .ok (.aload_n 0, 1) := by decide +kernel
theorem dX8_when_16 : decode cX8_when 16 = .ok (.invokevirtual 185, 3) := by decide +kernel
theorem dX8_when_19 : decode cX8_when 19 = .ok (.iconst 0, 1) := by decide +kernel
theorem dX8_when_20 : decode cX8_when 20 = .ok (.istore_n 2, 1) := by decide +kernel
theorem dX8_when_21 : decode cX8_when 21 = .ok (.iload_n 2, 1) := by decide +kernel
theorem dX8_when_22 : decode cX8_when 22 = .ok (.bipush 100, 2) := by decide +kernel
theorem dX8_when_24 : decode cX8_when 24 = .ok (.if_icmp .ge 31, 3) := by decide +kernel
theorem dX8_when_27 : decode cX8_when 27 = .ok (.aload_n 0, 1) := by decide +kernel
theorem dX8_when_28 : decode cX8_when 28 = .ok (.getfield 19, 3) := by decide +kernel
theorem dX8_when_31 : decode cX8_when 31 = .ok (.iconst 1, 1) := by decide +kernel
theorem dX8_when_32 : decode cX8_when 32 = .ok (.iaload, 1) := by decide +kernel
theorem dX8_when_33 : decode cX8_when 33 = .ok (.invokestatic 53, 3) := by decide +kernel
theorem dX8_when_36 : decode cX8_when 36 = .ok (.iload_n 1, 1) := by decide +kernel
theorem dX8_when_37 : decode cX8_when 37 = .ok (.if_icmp .lt 5, 3) := by decide +kernel
theorem dX8_when_40 : decode cX8_when 40 = .ok (.iload_n 2, 1) := by decide +kernel
theorem dX8_when_41 : decode cX8_when 41 = .ok (.ireturn, 1) := by decide +kernel
theorem dX8_when_42 : decode cX8_when 42 = .ok (.aload_n 0, 1) := by decide +kernel
theorem dX8_when_43 : decode cX8_when 43 = .ok (.getfield 19, 3) := by decide +kernel
theorem dX8_when_46 : decode cX8_when 46 = .ok (.invokestatic 150, 3) := by decide +kernel
theorem dX8_when_49 : decode cX8_when 49 = .ok (.iinc 2 1, 3) := by decide +kernel
theorem dX8_when_52 : decode cX8_when 52 = .ok (.goto (-31), 3) := by decide +kernel
theorem dX8_when_55 : decode cX8_when 55 = .ok (.iconst (-1), 1) := by decide +kernel
theorem dX8_when_56 : decode cX8_when 56 = .ok (.ireturn, 1) := by decide +kernel
theorem dX8_fits_0 : decode cX8_fits 0 = .ok (.iload_n 1, 1) := by decide +kernel
theorem dX8_fits_1 : decode cX8_fits 1 = .ok (.invokestatic 98, 3) := by decide +kernel
theorem dX8_fits_4 : decode cX8_fits 4 = .ok (.ifCond .eq 19, 3) := by decide +kernel
theorem dX8_fits_7 : decode cX8_fits 7 = .ok (.iload_n 2, 1) := by decide +kernel
theorem dX8_fits_8 : decode cX8_fits 8 = .ok (.invokestatic 82, 3) := by decide +kernel
theorem dX8_fits_11 : decode cX8_fits 11 = .ok (.ifCond .eq 12, 3) := by decide +kernel
theorem dX8_fits_14 : decode cX8_fits 14 = .ok (.iload_n 3, 1) := by decide +kernel
theorem dX8_fits_15 : decode cX8_fits 15 = .ok (.iconst 0, 1) := by decide +kernel
theorem dX8_fits_16 : decode cX8_fits 16 = .ok (.iconst 1, 1) := by decide +kernel
theorem dX8_fits_17 : decode cX8_fits 17 = .ok (.invokestatic 42, 3) := by decide +kernel
theorem dX8_fits_20 : decode cX8_fits 20 = .ok (.ifCond .ne 8, 3) := by decide +kernel
theorem dX8_fits_23 : decode cX8_fits 23 = .ok (.aload_n 0, 1) := by decide +kernel
theorem dX8_fits_24 : decode cX8_fits 24 = .ok (.invokevirtual 86, 3) := by decide +kernel
theorem dX8_fits_27 : decode cX8_fits 27 = .ok (.ireturn, 1) := by decide +kernel
theorem dX8_fits_28 : decode cX8_fits 28 = .ok (.aload_n 0, 1) := by decide +kernel
theorem dX8_fits_29 : decode cX8_fits 29 = .ok (.getfield 13, 3) := by decide +kernel
theorem dX8_fits_32 : decode cX8_fits 32 = .ok (.iconst 3, 1) := by decide +kernel
theorem dX8_fits_33 : decode cX8_fits 33 = .ok (.iload_n 1, 1) := by decide +kernel
theorem dX8_fits_34 : decode cX8_fits 34 = .ok (.iadd, 1) := by decide +kernel
theorem dX8_fits_35 : decode cX8_fits 35 = .ok (.iaload, 1) := by decide +kernel
theorem dX8_fits_36 : decode cX8_fits 36 = .ok (.iconst 5, 1) := by decide +kernel
theorem dX8_fits_37 : decode cX8_fits 37 = .ok (.if_icmp .ne 5, 3) := by decide +kernel
theorem dX8_fits_40 : decode cX8_fits 40 = .ok (.iconst (-1), 1) := by decide +kernel
theorem dX8_fits_41 : decode cX8_fits 41 = .ok (.ireturn, 1) := by decide +kernel
theorem dX8_fits_42 : decode cX8_fits 42 = .ok (.aload_n 0, 1) := by decide +kernel
theorem dX8_fits_43 : decode cX8_fits 43 = .ok (.invokevirtual 185, 3) := by decide +kernel
theorem dX8_fits_46 : decode cX8_fits 46 = .ok (.aload_n 0, 1) := by decide +kernel
theorem dX8_fits_47 : decode cX8_fits 47 = .ok (.getfield 19, 3) := by decide +kernel
theorem dX8_fits_50 : decode cX8_fits 50 = .ok (.iload_n 1, 1) := by decide +kernel
theorem dX8_fits_51 : decode cX8_fits 51 = .ok (.iload_n 2, 1) := by decide +kernel
theorem dX8_fits_52 : decode cX8_fits 52 = .ok (.iload_n 3, 1) := by decide +kernel
theorem dX8_fits_53 : decode cX8_fits 53 = .ok (.iconst 1, 1) := by decide +kernel
theorem dX8_fits_54 : decode cX8_fits 54 = .ok (.if_icmp .ne 7, 3) := by decide +kernel
theorem dX8_fits_57 : decode cX8_fits 57 = .ok (.iconst 0, 1) := by decide +kernel
theorem dX8_fits_58 : decode cX8_fits 58 = .ok (.goto 9, 3) := by decide +kernel
theorem dX8_fits_61 : decode cX8_fits 61 = .ok (.aload_n 0, 1) := by decide +kernel
theorem dX8_fits_62 : decode cX8_fits 62 = .ok (.getfield 13, 3) := by decide +kernel
theorem dX8_fits_65 : decode cX8_fits 65 = .ok (.iconst 1, 1) := by decide +kernel
theorem dX8_fits_66 : decode cX8_fits 66 = .ok (.iaload, 1) := by decide +kernel
theorem dX8_fits_67 : decode cX8_fits 67 = .ok (.invokestatic 146, 3) := by decide +kernel
theorem dX8_fits_70 : decode cX8_fits 70 = .ok (.aload_n 0, 1) := by decide +kernel
theorem dX8_fits_71 : decode cX8_fits 71 = .ok (.getfield 19, 3) := by decide +kernel
theorem dX8_fits_74 : decode cX8_fits 74 = .ok (.iconst 3, 1) := by decide +kernel
theorem dX8_fits_75 : decode cX8_fits 75 = .ok (.iload_n 1, 1) := by decide +kernel
theorem dX8_fits_76 : decode cX8_fits 76 = .ok (.iadd, 1) := by decide +kernel
theorem dX8_fits_77 : decode cX8_fits 77 = .ok (.iaload, 1) := by decide +kernel
theorem dX8_fits_78 : decode cX8_fits 78 = .ok (.ireturn, 1) := by decide +kernel
theorem dX8_rolls_0 : decode cX8_rolls 0 = .ok (.iload_n 1, 1) := by decide +kernel
theorem dX8_rolls_1 : decode cX8_rolls 1 = .ok (.invokestatic 98, 3) := by decide +kernel
theorem dX8_rolls_4 : decode cX8_rolls 4 = .ok (.ifCond .ne 8, 3) := by decide +kernel
theorem dX8_rolls_7 : decode cX8_rolls 7 = .ok (.aload_n 0, 1) := by decide +kernel
theorem dX8_rolls_8 : decode cX8_rolls 8 = .ok (.invokevirtual 86, 3) := by decide +kernel
theorem dX8_rolls_11 : decode cX8_rolls 11 = .ok (.ireturn, 1) := by decide +kernel
theorem dX8_rolls_12 : decode cX8_rolls 12 = .ok (.iconst (-1), 1) := by decide +kernel
theorem dX8_rolls_13 : decode cX8_rolls 13 = .ok (.istore_n 2, 1) := by decide +kernel
theorem dX8_rolls_14 : decode cX8_rolls 14 = .ok (.iload_n 1, 1) := by decide +kernel
theorem dX8_rolls_15 : decode cX8_rolls 15 = .ok (.istore_n 3, 1) := by decide +kernel
theorem dX8_rolls_16 : decode cX8_rolls 16 = .ok (.aload_n 0, 1) := by decide +kernel
theorem dX8_rolls_17 : decode cX8_rolls 17 = .ok (.getfield 13, 3) := by decide +kernel
theorem dX8_rolls_20 : decode cX8_rolls 20 = .ok (.iload_n 3, 1) := by decide +kernel
theorem dX8_rolls_21 : decode cX8_rolls 21 = .ok (.invokestatic 182, 3) := by decide +kernel
theorem dX8_rolls_24 : decode cX8_rolls 24 = .ok (.istore 4, 2) := by decide +kernel
theorem dX8_rolls_26 : decode cX8_rolls 26 = .ok (.iload 4, 2) := by decide +kernel
theorem dX8_rolls_28 : decode cX8_rolls 28 = .ok (.ifCond .le 9, 3) := by decide +kernel
theorem dX8_rolls_31 : decode cX8_rolls 31 = .ok (.iload_n 3, 1) := by decide +kernel
theorem dX8_rolls_32 : decode cX8_rolls 32 = .ok (.iconst 1, 1) := by decide +kernel
theorem dX8_rolls_33 : decode cX8_rolls 33 = .ok (.iadd, 1) := by decide +kernel
theorem dX8_rolls_34 : decode cX8_rolls 34 = .ok (.goto 15, 3) := by decide +kernel
theorem dX8_rolls_37 : decode cX8_rolls 37 = .ok (.iload 4, 2) := by decide +kernel
theorem dX8_rolls_39 : decode cX8_rolls 39 = .ok (.ifCond .ge 9, 3) := by decide +kernel
theorem dX8_rolls_42 : decode cX8_rolls 42 = .ok (.iload_n 3, 1) := by decide +kernel
theorem dX8_rolls_43 : decode cX8_rolls 43 = .ok (.iconst 1, 1) := by decide +kernel
theorem dX8_rolls_44 : decode cX8_rolls 44 = .ok (.isub, 1) := by decide +kernel
theorem dX8_rolls_45 : decode cX8_rolls 45 = .ok (.goto 4, 3) := by decide +kernel
theorem dX8_rolls_48 : decode cX8_rolls 48 = .ok (.iload_n 3, 1) := by decide +kernel
theorem dX8_rolls_49 : decode cX8_rolls 49 = .ok (.istore 5, 2) := by decide +kernel
theorem dX8_rolls_51 : decode cX8_rolls 51 = .ok (.iload 5, 2) := by decide +kernel
theorem dX8_rolls_53 : decode cX8_rolls 53 = .ok (.iload_n 3, 1) := by decide +kernel
theorem dX8_rolls_54 : decode cX8_rolls 54 = .ok (.if_icmp .eq 17, 3) := by decide +kernel
theorem dX8_rolls_57 : decode cX8_rolls 57 = .ok (.iload 5, 2) := by decide +kernel
theorem dX8_rolls_59 : decode cX8_rolls 59 = .ok (.invokestatic 98, 3) := by decide +kernel
theorem dX8_rolls_62 : decode cX8_rolls 62 = .ok (.ifCond .eq 9, 3) := by decide +kernel
theorem dX8_rolls_65 : decode cX8_rolls 65 = .ok (.iload 5, 2) := by decide +kernel
theorem dX8_rolls_67 : decode cX8_rolls 67 = .ok (.iload_n 2, 1) := by decide +kernel
theorem dX8_rolls_68 : decode cX8_rolls 68 = .ok (.if_icmp .ne 5, 3) := by decide +kernel
theorem dX8_rolls_71 : decode cX8_rolls 71 = .ok (.iload_n 3, 1) := by decide +kernel
theorem dX8_rolls_72 : decode cX8_rolls 72 = .ok (.ireturn, 1) := by decide +kernel
theorem dX8_rolls_73 : decode cX8_rolls 73 = .ok (.iload_n 3, 1) := by decide +kernel
theorem dX8_rolls_74 : decode cX8_rolls 74 = .ok (.istore_n 2, 1) := by decide +kernel
theorem dX8_rolls_75 : decode cX8_rolls 75 = .ok (.iload 5, 2) := by decide +kernel
theorem dX8_rolls_77 : decode cX8_rolls 77 = .ok (.istore_n 3, 1) := by decide +kernel
theorem dX8_rolls_78 : decode cX8_rolls 78 = .ok (.goto (-62), 3) := by decide +kernel
theorem dX8_isStep_0 : decode cX8_isStep 0 = .ok (.aload_n 0, 1) := by decide +kernel
theorem dX8_isStep_1 : decode cX8_isStep 1 = .ok (.getfield 13, 3) := by decide +kernel
theorem dX8_isStep_4 : decode cX8_isStep 4 = .ok (.iload_n 1, 1) := by decide +kernel
theorem dX8_isStep_5 : decode cX8_isStep 5 = .ok (.invokestatic 182, 3) := by decide +kernel
theorem dX8_isStep_8 : decode cX8_isStep 8 = .ok (.aload_n 0, 1) := by decide +kernel
theorem dX8_isStep_9 : decode cX8_isStep 9 = .ok (.getfield 13, 3) := by decide +kernel
theorem dX8_isStep_12 : decode cX8_isStep 12 = .ok (.iload_n 1, 1) := by decide +kernel
theorem dX8_isStep_13 : decode cX8_isStep 13 = .ok (.iconst 1, 1) := by decide +kernel
theorem dX8_isStep_14 : decode cX8_isStep 14 = .ok (.iadd, 1) := by decide +kernel
theorem dX8_isStep_15 : decode cX8_isStep 15 = .ok (.invokestatic 182, 3) := by decide +kernel
theorem dX8_isStep_18 : decode cX8_isStep 18 = .ok (.isub, 1) := by decide +kernel
theorem dX8_isStep_19 : decode cX8_isStep 19 = .ok (.invokestatic 53, 3) := by decide +kernel
theorem dX8_isStep_22 : decode cX8_isStep 22 = .ok (.iconst 2, 1) := by decide +kernel
theorem dX8_isStep_23 : decode cX8_isStep 23 = .ok (.if_icmp .le 7, 3) := by decide +kernel
theorem dX8_isStep_26 : decode cX8_isStep 26 = .ok (.iconst 1, 1) := by decide +kernel
theorem dX8_isStep_27 : decode cX8_isStep 27 = .ok (.goto 4, 3) := by decide +kernel
theorem dX8_isStep_30 : decode cX8_isStep 30 = .ok (.iconst 0, 1) := by decide +kernel
theorem dX8_isStep_31 : decode cX8_isStep 31 = .ok (.ireturn, 1) := by decide +kernel
theorem dX8_lies_0 : decode cX8_lies 0 = .ok (.iload_n 1, 1) := by decide +kernel
theorem dX8_lies_1 : decode cX8_lies 1 = .ok (.iconst 0, 1) := by decide +kernel
theorem dX8_lies_2 : decode cX8_lies 2 = .ok (.iconst 1, 1) := by decide +kernel
theorem dX8_lies_3 : decode cX8_lies 3 = .ok (.invokestatic 42, 3) := by decide +kernel
theorem dX8_lies_6 : decode cX8_lies 6 = .ok (.ifCond .ne 8, 3) := by decide +kernel
theorem dX8_lies_9 : decode cX8_lies 9 = .ok (.aload_n 0, 1) := by decide +kernel
theorem dX8_lies_10 : decode cX8_lies 10 = .ok (.invokevirtual 86, 3) := by decide +kernel
theorem dX8_lies_13 : decode cX8_lies 13 = .ok (.ireturn, 1) := by decide +kernel
theorem dX8_lies_14 : decode cX8_lies 14 = .ok (.iconst 0, 1) := by decide +kernel
theorem dX8_lies_15 : decode cX8_lies 15 = .ok (.istore_n 2, 1) := by decide +kernel
theorem dX8_lies_16 : decode cX8_lies 16 = .ok (.iconst 0, 1) := by decide +kernel
theorem dX8_lies_17 : decode cX8_lies 17 = .ok (.istore_n 3, 1) := by decide +kernel
theorem dX8_lies_18 : decode cX8_lies 18 = .ok (.iload_n 3, 1) := by decide +kernel
theorem dX8_lies_19 : decode cX8_lies 19 = .ok (.bipush 6, 2) := by decide +kernel
theorem dX8_lies_21 : decode cX8_lies 21 = .ok (.iload_n 1, 1) := by decide +kernel
theorem dX8_lies_22 : decode cX8_lies 22 = .ok (.isub, 1) := by decide +kernel
theorem dX8_lies_23 : decode cX8_lies 23 = .ok (.if_icmp .ge 54, 3) := by decide +kernel
theorem dX8_lies_26 : decode cX8_lies 26 = .ok (.iload_n 1, 1) := by decide +kernel
theorem dX8_lies_27 : decode cX8_lies 27 = .ok (.ifCond .ne 22, 3) := by decide +kernel
theorem dX8_lies_30 : decode cX8_lies 30 = .ok (.aload_n 0, 1) := by decide +kernel
theorem dX8_lies_31 : decode cX8_lies 31 = .ok (.getfield 13, 3) := by decide +kernel
theorem dX8_lies_34 : decode cX8_lies 34 = .ok (.iload_n 3, 1) := by decide +kernel
theorem dX8_lies_35 : decode cX8_lies 35 = .ok (.invokestatic 182, 3) := by decide +kernel
theorem dX8_lies_38 : decode cX8_lies 38 = .ok (.ifCond .ne 7, 3) := by decide +kernel
theorem dX8_lies_41 : decode cX8_lies 41 = .ok (.iconst 1, 1) := by decide +kernel
theorem dX8_lies_42 : decode cX8_lies 42 = .ok (.goto 12, 3) := by decide +kernel
theorem dX8_lies_45 : decode cX8_lies 45 = .ok (.iconst 0, 1) := by decide +kernel
theorem dX8_lies_46 : decode cX8_lies 46 = .ok (.goto 8, 3) := by decide +kernel
theorem dX8_lies_49 : decode cX8_lies 49 = .ok (.aload_n 0, 1) := by decide +kernel
theorem dX8_lies_50 : decode cX8_lies 50 = .ok (.iload_n 3, 1) := by decide +kernel
theorem dX8_lies_51 : decode cX8_lies 51 = .ok (.invokevirtual 188, 3) := by decide +kernel
theorem dX8_lies_54 : decode cX8_lies 54 = .ok (.istore 4, 2) := by decide +kernel
theorem dX8_lies_56 : decode cX8_lies 56 = .ok (.iload_n 2, 1) := by decide +kernel
theorem dX8_lies_57 : decode cX8_lies 57 = .ok (.iload 4, 2) := by decide +kernel
theorem dX8_lies_59 : decode cX8_lies 59 = .ok (.ifCond .eq 9, 3) := by decide +kernel
theorem dX8_lies_62 : decode cX8_lies 62 = .ok (.iconst 1, 1) := by decide +kernel
theorem dX8_lies_63 : decode cX8_lies 63 = .ok (.iload_n 3, 1) := by decide +kernel
theorem dX8_lies_64 : decode cX8_lies 64 = .ok (.ishl, 1) := by decide +kernel
theorem dX8_lies_65 : decode cX8_lies 65 = .ok (.goto 4, 3) := by decide +kernel
theorem dX8_lies_68 : decode cX8_lies 68 = .ok (.iconst 0, 1) := by decide +kernel
theorem dX8_lies_69 : decode cX8_lies 69 = .ok (.ior, 1) := by decide +kernel
theorem dX8_lies_70 : decode cX8_lies 70 = .ok (.istore_n 2, 1) := by decide +kernel
theorem dX8_lies_71 : decode cX8_lies 71 = .ok (.iinc 3 1, 3) := by decide +kernel
theorem dX8_lies_74 : decode cX8_lies 74 = .ok (.goto (-56), 3) := by decide +kernel
theorem dX8_lies_77 : decode cX8_lies 77 = .ok (.iload_n 2, 1) := by decide +kernel
theorem dX8_lies_78 : decode cX8_lies 78 = .ok (.ireturn, 1) := by decide +kernel
theorem dX8_pass_0 : decode cX8_pass 0 = .ok (.iload_n 1, 1) := by decide +kernel
theorem dX8_pass_1 : decode cX8_pass 1 = .ok (.invokestatic 98, 3) := by decide +kernel
theorem dX8_pass_4 : decode cX8_pass 4 = .ok (.ifCond .eq 10, 3) := by decide +kernel
theorem dX8_pass_7 : decode cX8_pass 7 = .ok (.iload_n 2, 1) := by decide +kernel
theorem dX8_pass_8 : decode cX8_pass 8 = .ok (.invokestatic 98, 3) := by decide +kernel
theorem dX8_pass_11 : decode cX8_pass 11 = .ok (.ifCond .ne 8, 3) := by decide +kernel
theorem dX8_pass_14 : decode cX8_pass 14 = .ok (.aload_n 0, 1) := by decide +kernel
theorem dX8_pass_15 : decode cX8_pass 15 = .ok (.invokevirtual 86, 3) := by decide +kernel
theorem dX8_pass_18 : decode cX8_pass 18 = .ok (.ireturn, 1) := by decide +kernel
theorem dX8_pass_19 : decode cX8_pass 19 = .ok (.iconst 1, 1) := by decide +kernel
theorem dX8_pass_20 : decode cX8_pass 20 = .ok (.istore_n 3, 1) := by decide +kernel
theorem dX8_pass_21 : decode cX8_pass 21 = .ok (.iload_n 1, 1) := by decide +kernel
theorem dX8_pass_22 : decode cX8_pass 22 = .ok (.iload_n 2, 1) := by decide +kernel
theorem dX8_pass_23 : decode cX8_pass 23 = .ok (.if_icmp .ge 7, 3) := by decide +kernel
theorem dX8_pass_26 : decode cX8_pass 26 = .ok (.iload_n 1, 1) := by decide +kernel
theorem dX8_pass_27 : decode cX8_pass 27 = .ok (.goto 4, 3) := by decide +kernel
theorem dX8_pass_30 : decode cX8_pass 30 = .ok (.iload_n 2, 1) := by decide +kernel
theorem dX8_pass_31 : decode cX8_pass 31 = .ok (.istore 4, 2) := by decide +kernel
theorem dX8_pass_33 : decode cX8_pass 33 = .ok (.iload 4, 2) := by decide +kernel
theorem dX8_pass_35 : decode cX8_pass 35 = .ok (.iload_n 1, 1) := by decide +kernel
theorem dX8_pass_36 : decode cX8_pass 36 = .ok (.iload_n 2, 1) := by decide +kernel
theorem dX8_pass_37 : decode cX8_pass 37 = .ok (.if_icmp .ge 7, 3) := by decide +kernel
theorem dX8_pass_40 : decode cX8_pass 40 = .ok (.iload_n 2, 1) := by decide +kernel
theorem dX8_pass_41 : decode cX8_pass 41 = .ok (.goto 4, 3) := by decide +kernel
theorem dX8_pass_44 : decode cX8_pass 44 = .ok (.iload_n 1, 1) := by decide +kernel
theorem dX8_pass_45 : decode cX8_pass 45 = .ok (.if_icmp .ge 28, 3) := by decide +kernel
theorem dX8_pass_48 : decode cX8_pass 48 = .ok (.iload_n 3, 1) := by decide +kernel
theorem dX8_pass_49 : decode cX8_pass 49 = .ok (.ifCond .eq 16, 3) := by decide +kernel
theorem dX8_pass_52 : decode cX8_pass 52 = .ok (.aload_n 0, 1) := by decide +kernel
theorem dX8_pass_53 : decode cX8_pass 53 = .ok (.iload 4, 2) := by decide +kernel
theorem dX8_pass_55 : decode cX8_pass 55 = .ok (.invokevirtual 188, 3) := by decide +kernel
theorem dX8_pass_58 : decode cX8_pass 58 = .ok (.ifCond .ne 7, 3) := by decide +kernel
theorem dX8_pass_61 : decode cX8_pass 61 = .ok (.iconst 1, 1) := by decide +kernel
theorem dX8_pass_62 : decode cX8_pass 62 = .ok (.goto 4, 3) := by decide +kernel
theorem dX8_pass_65 : decode cX8_pass 65 = .ok (.iconst 0, 1) := by decide +kernel
theorem dX8_pass_66 : decode cX8_pass 66 = .ok (.istore_n 3, 1) := by decide +kernel
theorem dX8_pass_67 : decode cX8_pass 67 = .ok (.iinc 4 1, 3) := by decide +kernel
theorem dX8_pass_70 : decode cX8_pass 70 = .ok (.goto (-37), 3) := by decide +kernel
theorem dX8_pass_73 : decode cX8_pass 73 = .ok (.iload_n 3, 1) := by decide +kernel
theorem dX8_pass_74 : decode cX8_pass 74 = .ok (.ifCond .eq 7, 3) := by decide +kernel
theorem dX8_pass_77 : decode cX8_pass 77 = .ok (.iconst 1, 1) := by decide +kernel
theorem dX8_pass_78 : decode cX8_pass 78 = .ok (.goto 4, 3) := by decide +kernel
theorem dX8_pass_81 : decode cX8_pass 81 = .ok (.iconst 0, 1) := by decide +kernel
theorem dX8_pass_82 : decode cX8_pass 82 = .ok (.ireturn, 1) := by decide +kernel
theorem dX8_figures_0 : decode cX8_figures 0 = .ok (.iconst 0, 1) := by decide +kernel
theorem dX8_figures_1 : decode cX8_figures 1 = .ok (.istore_n 1, 1) := by decide +kernel
theorem dX8_figures_2 : decode cX8_figures 2 = .ok (.iload_n 0, 1) := by decide +kernel
theorem dX8_figures_3 : decode cX8_figures 3 = .ok (.istore_n 2, 1) := by decide +kernel
theorem dX8_figures_4 : decode cX8_figures 4 = .ok (.iload_n 0, 1) := by decide +kernel
theorem dX8_figures_5 : decode cX8_figures 5 = .ok (.iconst 1, 1) := by decide +kernel
theorem dX8_figures_6 : decode cX8_figures 6 = .ok (.sipush 6666, 3) := by decide +kernel
theorem dX8_figures_9 : decode cX8_figures 9 = .ok (.invokestatic 42, 3) := by decide +kernel
theorem dX8_figures_12 : decode cX8_figures 12 = .ok (.istore_n 3, 1) := by decide +kernel
theorem dX8_figures_13 : decode cX8_figures 13 = .ok (.iload_n 2, 1) := by decide +kernel
theorem dX8_figures_14 : decode cX8_figures 14 = .ok (.ifCond .le 29, 3) := by decide +kernel
theorem dX8_figures_17 : decode cX8_figures 17 = .ok (.iload_n 3, 1) := by decide +kernel
theorem dX8_figures_18 : decode cX8_figures 18 = .ok (.ifCond .eq 25, 3) := by decide +kernel
theorem dX8_figures_21 : decode cX8_figures 21 = .ok (.iload_n 2, 1) := by decide +kernel
theorem dX8_figures_22 : decode cX8_figures 22 = .ok (.bipush 10, 2) := by decide +kernel
theorem dX8_figures_24 : decode cX8_figures 24 = .ok (.irem, 1) := by decide +kernel
theorem dX8_figures_25 : decode cX8_figures 25 = .ok (.iconst 1, 1) := by decide +kernel
theorem dX8_figures_26 : decode cX8_figures 26 = .ok (.bipush 6, 2) := by decide +kernel
theorem dX8_figures_28 : decode cX8_figures 28 = .ok (.invokestatic 42, 3) := by decide +kernel
theorem dX8_figures_31 : decode cX8_figures 31 = .ok (.istore_n 3, 1) := by decide +kernel
theorem dX8_figures_32 : decode cX8_figures 32 = .ok (.iload_n 2, 1) := by decide +kernel
theorem dX8_figures_33 : decode cX8_figures 33 = .ok (.bipush 10, 2) := by decide +kernel
theorem dX8_figures_35 : decode cX8_figures 35 = .ok (.idiv, 1) := by decide +kernel
theorem dX8_figures_36 : decode cX8_figures 36 = .ok (.istore_n 2, 1) := by decide +kernel
theorem dX8_figures_37 : decode cX8_figures 37 = .ok (.iinc 1 1, 3) := by decide +kernel
theorem dX8_figures_40 : decode cX8_figures 40 = .ok (.goto (-27), 3) := by decide +kernel
theorem dX8_figures_43 : decode cX8_figures 43 = .ok (.iload_n 3, 1) := by decide +kernel
theorem dX8_figures_44 : decode cX8_figures 44 = .ok (.ifCond .eq 7, 3) := by decide +kernel
theorem dX8_figures_47 : decode cX8_figures 47 = .ok (.iload_n 1, 1) := by decide +kernel
theorem dX8_figures_48 : decode cX8_figures 48 = .ok (.goto 4, 3) := by decide +kernel
theorem dX8_figures_51 : decode cX8_figures 51 = .ok (.iconst 0, 1) := by decide +kernel
theorem dX8_figures_52 : decode cX8_figures 52 = .ok (.ireturn, 1) := by decide +kernel
theorem dX8_figure_0 : decode cX8_figure 0 = .ok (.iload_n 0, 1) := by decide +kernel
theorem dX8_figure_1 : decode cX8_figure 1 = .ok (.istore_n 3, 1) := by decide +kernel
theorem dX8_figure_2 : decode cX8_figure 2 = .ok (.iload_n 1, 1) := by decide +kernel
theorem dX8_figure_3 : decode cX8_figure 3 = .ok (.iconst 1, 1) := by decide +kernel
theorem dX8_figure_4 : decode cX8_figure 4 = .ok (.isub, 1) := by decide +kernel
theorem dX8_figure_5 : decode cX8_figure 5 = .ok (.istore 4, 2) := by decide +kernel
theorem dX8_figure_7 : decode cX8_figure 7 = .ok (.iload 4, 2) := by decide +kernel
theorem dX8_figure_9 : decode cX8_figure 9 = .ok (.iload_n 2, 1) := by decide +kernel
theorem dX8_figure_10 : decode cX8_figure 10 = .ok (.if_icmp .le 14, 3) := by decide +kernel
theorem dX8_figure_13 : decode cX8_figure 13 = .ok (.iload_n 3, 1) := by decide +kernel
theorem dX8_figure_14 : decode cX8_figure 14 = .ok (.bipush 10, 2) := by decide +kernel
theorem dX8_figure_16 : decode cX8_figure 16 = .ok (.idiv, 1) := by decide +kernel
theorem dX8_figure_17 : decode cX8_figure 17 = .ok (.istore_n 3, 1) := by decide +kernel
theorem dX8_figure_18 : decode cX8_figure 18 = .ok (.iinc 4 (-1), 3) := by decide +kernel
theorem dX8_figure_21 : decode cX8_figure 21 = .ok (.goto (-14), 3) := by decide +kernel
theorem dX8_figure_24 : decode cX8_figure 24 = .ok (.iload_n 3, 1) := by decide +kernel
theorem dX8_figure_25 : decode cX8_figure 25 = .ok (.bipush 10, 2) := by decide +kernel
theorem dX8_figure_27 : decode cX8_figure 27 = .ok (.irem, 1) := by decide +kernel
theorem dX8_figure_28 : decode cX8_figure 28 = .ok (.ireturn, 1) := by decide +kernel
theorem dX8_buildsAll_0 : decode cX8_buildsAll 0 = .ok (.aload_n 0, 1) := by decide +kernel
theorem dX8_buildsAll_1 : decode cX8_buildsAll 1 = .ok (.invokevirtual 185, 3) := by decide +kernel
theorem dX8_buildsAll_4 : decode cX8_buildsAll 4 = .ok (.iconst 1, 1) := by decide +kernel
theorem dX8_buildsAll_5 : decode cX8_buildsAll 5 = .ok (.istore_n 3, 1) := by decide +kernel
theorem dX8_buildsAll_6 : decode cX8_buildsAll 6 = .ok (.iconst 0, 1) := by decide +kernel
theorem dX8_buildsAll_7 : decode cX8_buildsAll 7 = .ok (.istore 4, 2) := by decide +kernel
theorem dX8_buildsAll_9 : decode cX8_buildsAll 9 = .ok (.iload 4, 2) := by decide +kernel
theorem dX8_buildsAll_11 : decode cX8_buildsAll 11 = .ok (.iload_n 2, 1) := by decide +kernel
theorem dX8_buildsAll_12 : decode cX8_buildsAll 12 = .ok (.if_icmp .ge 77, 3) := by decide +kernel
theorem dX8_buildsAll_15 : decode cX8_buildsAll 15 = .ok (.iload_n 3, 1) := by decide +kernel
theorem dX8_buildsAll_16 : decode cX8_buildsAll 16 = .ok (.ifCond .eq 73, 3) := by decide +kernel
theorem dX8_buildsAll_19 : decode cX8_buildsAll 19 = .ok (.aload_n 0, 1) := by decide +kernel
theorem dX8_buildsAll_20 : decode cX8_buildsAll 20 = .ok (.getfield 19, 3) := by decide +kernel
theorem dX8_buildsAll_23 : decode cX8_buildsAll 23 = .ok (.iconst 3, 1) := by decide +kernel
theorem dX8_buildsAll_24 : decode cX8_buildsAll 24 = .ok (.aload_n 0, 1) := by decide +kernel
theorem dX8_buildsAll_25 : decode cX8_buildsAll 25 = .ok (.getfield 36, 3) := by decide +kernel
theorem dX8_buildsAll_28 : decode cX8_buildsAll 28 = .ok (.iload 4, 2) := by decide +kernel
theorem dX8_buildsAll_30 : decode cX8_buildsAll 30 = .ok (.iaload, 1) := by decide +kernel
theorem dX8_buildsAll_31 : decode cX8_buildsAll 31 = .ok (.iadd, 1) := by decide +kernel
theorem dX8_buildsAll_32 : decode cX8_buildsAll 32 = .ok (.iaload, 1) := by decide +kernel
theorem dX8_buildsAll_33 : decode cX8_buildsAll 33 = .ok (.iconst 5, 1) := by decide +kernel
theorem dX8_buildsAll_34 : decode cX8_buildsAll 34 = .ok (.if_icmp .ge 7, 3) := by decide +kernel
theorem dX8_buildsAll_37 : decode cX8_buildsAll 37 = .ok (.iconst 1, 1) := by decide +kernel
theorem dX8_buildsAll_38 : decode cX8_buildsAll 38 = .ok (.goto 4, 3) := by decide +kernel
theorem dX8_buildsAll_41 : decode cX8_buildsAll 41 = .ok (.iconst 0, 1) := by decide +kernel
theorem dX8_buildsAll_42 : decode cX8_buildsAll 42 = .ok (.istore_n 3, 1) := by decide +kernel
theorem dX8_buildsAll_43 : decode cX8_buildsAll 43 = .ok (.iload_n 3, 1) := by decide +kernel
theorem dX8_buildsAll_44 : decode cX8_buildsAll 44 = .ok (.ifCond .eq 39, 3) := by decide +kernel
theorem dX8_buildsAll_47 : decode cX8_buildsAll 47 = .ok (.aload_n 0, 1) := by decide +kernel
theorem dX8_buildsAll_48 : decode cX8_buildsAll 48 = .ok (.getfield 19, 3) := by decide +kernel
theorem dX8_buildsAll_51 : decode cX8_buildsAll 51 = .ok (.aload_n 0, 1) := by decide +kernel
theorem dX8_buildsAll_52 : decode cX8_buildsAll 52 = .ok (.getfield 36, 3) := by decide +kernel
theorem dX8_buildsAll_55 : decode cX8_buildsAll 55 = .ok (.iload 4, 2) := by decide +kernel
theorem dX8_buildsAll_57 : decode cX8_buildsAll 57 = .ok (.iaload, 1) := by decide +kernel
theorem dX8_buildsAll_58 : decode cX8_buildsAll 58 = .ok (.iload_n 1, 1) := by decide +kernel
theorem dX8_buildsAll_59 : decode cX8_buildsAll 59 = .ok (.iload_n 2, 1) := by decide +kernel
theorem dX8_buildsAll_60 : decode cX8_buildsAll 60 = .ok (.iload 4, 2) := by decide +kernel
theorem dX8_buildsAll_62 : decode cX8_buildsAll 62 = .ok (.invokestatic 191, 3) := by decide +kernel
theorem dX8_buildsAll_65 : decode cX8_buildsAll 65 = .ok (.iconst 1, 1) := by decide +kernel
theorem dX8_buildsAll_66 : decode cX8_buildsAll 66 = .ok (.isub, 1) := by decide +kernel
theorem dX8_buildsAll_67 : decode cX8_buildsAll 67 = .ok (.aload_n 0, 1) := by decide +kernel
theorem dX8_buildsAll_68 : decode cX8_buildsAll 68 = .ok (.getfield 19, 3) := by decide +kernel
theorem dX8_buildsAll_71 : decode cX8_buildsAll 71 = .ok (.iconst 1, 1) := by decide +kernel
theorem dX8_buildsAll_72 : decode cX8_buildsAll 72 = .ok (.iaload, 1) := by decide +kernel
theorem dX8_buildsAll_73 : decode cX8_buildsAll 73 = .ok (.invokestatic 146, 3) := by decide +kernel
theorem dX8_buildsAll_76 : decode cX8_buildsAll 76 = .ok (.aload_n 0, 1) := by decide +kernel
theorem dX8_buildsAll_77 : decode cX8_buildsAll 77 = .ok (.getfield 19, 3) := by decide +kernel
theorem dX8_buildsAll_80 : decode cX8_buildsAll 80 = .ok (.invokestatic 150, 3) := by decide +kernel
theorem dX8_buildsAll_83 : decode cX8_buildsAll 83 = .ok (.iinc 4 1, 3) := by decide +kernel
theorem dX8_buildsAll_86 : decode cX8_buildsAll 86 = .ok (.goto (-77), 3) := by decide +kernel
theorem dX8_buildsAll_89 : decode cX8_buildsAll 89 = .ok (.iload_n 3, 1) := by decide +kernel
theorem dX8_buildsAll_90 : decode cX8_buildsAll 90 = .ok (.ireturn, 1) := by decide +kernel
theorem dX8_counts_0 : decode cX8_counts 0 = .ok (.iload_n 1, 1) := by decide +kernel
theorem dX8_counts_1 : decode cX8_counts 1 = .ok (.iconst 1, 1) := by decide +kernel
theorem dX8_counts_2 : decode cX8_counts 2 = .ok (.isub, 1) := by decide +kernel
theorem dX8_counts_3 : decode cX8_counts 3 = .ok (.istore_n 2, 1) := by decide +kernel
theorem dX8_counts_4 : decode cX8_counts 4 = .ok (.iload_n 2, 1) := by decide +kernel
theorem dX8_counts_5 : decode cX8_counts 5 = .ok (.ifCond .lt 39, 3) := by decide +kernel
theorem dX8_counts_8 : decode cX8_counts 8 = .ok (.aload_n 0, 1) := by decide +kernel
theorem dX8_counts_9 : decode cX8_counts 9 = .ok (.getfield 36, 3) := by decide +kernel
theorem dX8_counts_12 : decode cX8_counts 12 = .ok (.iload_n 2, 1) := by decide +kernel
theorem dX8_counts_13 : decode cX8_counts 13 = .ok (.dup2, 1) := by decide +kernel
theorem dX8_counts_14 : decode cX8_counts 14 = .ok (.iaload, 1) := by decide +kernel
theorem dX8_counts_15 : decode cX8_counts 15 = .ok (.iconst 1, 1) := by decide +kernel
theorem dX8_counts_16 : decode cX8_counts 16 = .ok (.iadd, 1) := by decide +kernel
theorem dX8_counts_17 : decode cX8_counts 17 = .ok (.iastore, 1) := by decide +kernel
theorem dX8_counts_18 : decode cX8_counts 18 = .ok (.aload_n 0, 1) := by decide +kernel
theorem dX8_counts_19 : decode cX8_counts 19 = .ok (.getfield 36, 3) := by decide +kernel
theorem dX8_counts_22 : decode cX8_counts 22 = .ok (.iload_n 2, 1) := by decide +kernel
theorem dX8_counts_23 : decode cX8_counts 23 = .ok (.iaload, 1) := by decide +kernel
theorem dX8_counts_24 : decode cX8_counts 24 = .ok (.bipush 6, 2) := by decide +kernel
theorem dX8_counts_26 : decode cX8_counts 26 = .ok (.if_icmp .ge 5, 3) := by decide +kernel
theorem dX8_counts_29 : decode cX8_counts 29 = .ok (.iconst 1, 1) := by decide +kernel
theorem dX8_counts_30 : decode cX8_counts 30 = .ok (.ireturn, 1) := by decide +kernel
theorem dX8_counts_31 : decode cX8_counts 31 = .ok (.aload_n 0, 1) := by decide +kernel
theorem dX8_counts_32 : decode cX8_counts 32 = .ok (.getfield 36, 3) := by decide +kernel
theorem dX8_counts_35 : decode cX8_counts 35 = .ok (.iload_n 2, 1) := by decide +kernel
theorem dX8_counts_36 : decode cX8_counts 36 = .ok (.iconst 0, 1) := by decide +kernel
theorem dX8_counts_37 : decode cX8_counts 37 = .ok (.iastore, 1) := by decide +kernel
theorem dX8_counts_38 : decode cX8_counts 38 = .ok (.iinc 2 (-1), 3) := by decide +kernel
theorem dX8_counts_41 : decode cX8_counts 41 = .ok (.goto (-37), 3) := by decide +kernel
theorem dX8_counts_44 : decode cX8_counts 44 = .ok (.iconst 0, 1) := by decide +kernel
theorem dX8_counts_45 : decode cX8_counts 45 = .ok (.ireturn, 1) := by decide +kernel
theorem dX8_order_0 : decode cX8_order 0 = .ok (.iload_n 1, 1) := by decide +kernel
theorem dX8_order_1 : decode cX8_order 1 = .ok (.invokestatic 195, 3) := by decide +kernel
theorem dX8_order_4 : decode cX8_order 4 = .ok (.istore_n 3, 1) := by decide +kernel
theorem dX8_order_5 : decode cX8_order 5 = .ok (.iload_n 3, 1) := by decide +kernel
theorem dX8_order_6 : decode cX8_order 6 = .ok (.ifCond .eq 8, 3) := by decide +kernel
theorem dX8_order_9 : decode cX8_order 9 = .ok (.iload_n 2, 1) := by decide +kernel
theorem dX8_order_10 : decode cX8_order 10 = .ok (.iconst (-1), 1) := by decide +kernel
theorem dX8_order_11 : decode cX8_order 11 = .ok (.if_icmp .ge 10, 3) := by decide +kernel
theorem dX8_order_14 : decode cX8_order 14 = .ok (.aload_n 0, 1) := by decide +kernel
theorem dX8_order_15 : decode cX8_order 15 = .ok (.bipush (-10), 2) := by decide +kernel
theorem dX8_order_17 : decode cX8_order 17 = .ok (.invokevirtual 104, 3) := by decide +kernel
theorem dX8_order_20 : decode cX8_order 20 = .ok (.ireturn, 1) := by decide +kernel
theorem dX8_order_21 : decode cX8_order 21 = .ok (.iconst 0, 1) := by decide +kernel
theorem dX8_order_22 : decode cX8_order 22 = .ok (.istore 4, 2) := by decide +kernel
theorem dX8_order_24 : decode cX8_order 24 = .ok (.iload 4, 2) := by decide +kernel
theorem dX8_order_26 : decode cX8_order 26 = .ok (.iconst 4, 1) := by decide +kernel
theorem dX8_order_27 : decode cX8_order 27 = .ok (.if_icmp .ge 17, 3) := by decide +kernel
theorem dX8_order_30 : decode cX8_order 30 = .ok (.aload_n 0, 1) := by decide +kernel
theorem dX8_order_31 : decode cX8_order 31 = .ok (.getfield 36, 3) := by decide +kernel
theorem dX8_order_34 : decode cX8_order 34 = .ok (.iload 4, 2) := by decide +kernel
theorem dX8_order_36 : decode cX8_order 36 = .ok (.iconst 0, 1) := by decide +kernel
theorem dX8_order_37 : decode cX8_order 37 = .ok (.iastore, 1) := by decide +kernel
theorem dX8_order_38 : decode cX8_order 38 = .ok (.iinc 4 1, 3) := by decide +kernel
theorem dX8_order_41 : decode cX8_order 41 = .ok (.goto (-17), 3) := by decide +kernel
theorem dX8_order_44 : decode cX8_order 44 = .ok (.iconst (-1), 1) := by decide +kernel
theorem dX8_order_45 : decode cX8_order 45 = .ok (.istore 4, 2) := by decide +kernel
theorem dX8_order_47 : decode cX8_order 47 = .ok (.iconst 1, 1) := by decide +kernel
theorem dX8_order_48 : decode cX8_order 48 = .ok (.istore 5, 2) := by decide +kernel
theorem dX8_order_50 : decode cX8_order 50 = .ok (.iload 5, 2) := by decide +kernel
theorem dX8_order_52 : decode cX8_order 52 = .ok (.ifCond .eq 72, 3) := by decide +kernel
theorem dX8_order_55 : decode cX8_order 55 = .ok (.aload_n 0, 1) := by decide +kernel
theorem dX8_order_56 : decode cX8_order 56 = .ok (.iload_n 1, 1) := by decide +kernel
theorem dX8_order_57 : decode cX8_order 57 = .ok (.iload_n 3, 1) := by decide +kernel
theorem dX8_order_58 : decode cX8_order 58 = .ok (.invokevirtual 198, 3) := by decide +kernel
theorem dX8_order_61 : decode cX8_order 61 = .ok (.ifCond .eq 53, 3) := by decide +kernel
theorem dX8_order_64 : decode cX8_order 64 = .ok (.aload_n 0, 1) := by decide +kernel
theorem dX8_order_65 : decode cX8_order 65 = .ok (.getfield 19, 3) := by decide +kernel
theorem dX8_order_68 : decode cX8_order 68 = .ok (.invokestatic 90, 3) := by decide +kernel
theorem dX8_order_71 : decode cX8_order 71 = .ok (.iload 4, 2) := by decide +kernel
theorem dX8_order_73 : decode cX8_order 73 = .ok (.if_icmp .le 41, 3) := by decide +kernel
theorem dX8_order_76 : decode cX8_order 76 = .ok (.aload_n 0, 1) := by decide +kernel
theorem dX8_order_77 : decode cX8_order 77 = .ok (.getfield 19, 3) := by decide +kernel
theorem dX8_order_80 : decode cX8_order 80 = .ok (.invokestatic 90, 3) := by decide +kernel
theorem dX8_order_83 : decode cX8_order 83 = .ok (.istore 4, 2) := by decide +kernel
theorem dX8_order_85 : decode cX8_order 85 = .ok (.iconst 0, 1) := by decide +kernel
theorem dX8_order_86 : decode cX8_order 86 = .ok (.istore 6, 2) := by decide +kernel
theorem dX8_order_88 : decode cX8_order 88 = .ok (.iload 6, 2) := by decide +kernel
theorem dX8_order_90 : decode cX8_order 90 = .ok (.iload_n 3, 1) := by decide +kernel
theorem dX8_order_91 : decode cX8_order 91 = .ok (.if_icmp .ge 23, 3) := by decide +kernel
theorem dX8_order_94 : decode cX8_order 94 = .ok (.aload_n 0, 1) := by decide +kernel
theorem dX8_order_95 : decode cX8_order 95 = .ok (.getfield 39, 3) := by decide +kernel
theorem dX8_order_98 : decode cX8_order 98 = .ok (.iload 6, 2) := by decide +kernel
theorem dX8_order_100 : decode cX8_order 100 = .ok (.aload_n 0, 1) := by decide +kernel
theorem dX8_order_101 : decode cX8_order 101 = .ok (.getfield 36, 3) := by decide +kernel
theorem dX8_order_104 : decode cX8_order 104 = .ok (.iload 6, 2) := by decide +kernel
theorem dX8_order_106 : decode cX8_order 106 = .ok (.iaload, 1) := by decide +kernel
theorem dX8_order_107 : decode cX8_order 107 = .ok (.iastore, 1) := by decide +kernel
theorem dX8_order_108 : decode cX8_order 108 = .ok (.iinc 6 1, 3) := by decide +kernel
theorem dX8_order_111 : decode cX8_order 111 = .ok (.goto (-23), 3) := by decide +kernel
theorem dX8_order_114 : decode cX8_order 114 = .ok (.aload_n 0, 1) := by decide +kernel
theorem dX8_order_115 : decode cX8_order 115 = .ok (.iload_n 3, 1) := by decide +kernel
theorem dX8_order_116 : decode cX8_order 116 = .ok (.invokevirtual 202, 3) := by decide +kernel
theorem dX8_order_119 : decode cX8_order 119 = .ok (.istore 5, 2) := by decide +kernel
theorem dX8_order_121 : decode cX8_order 121 = .ok (.goto (-71), 3) := by decide +kernel
theorem dX8_order_124 : decode cX8_order 124 = .ok (.iload 4, 2) := by decide +kernel
theorem dX8_order_126 : decode cX8_order 126 = .ok (.iconst (-1), 1) := by decide +kernel
theorem dX8_order_127 : decode cX8_order 127 = .ok (.if_icmp .eq 8, 3) := by decide +kernel
theorem dX8_order_130 : decode cX8_order 130 = .ok (.iload_n 2, 1) := by decide +kernel
theorem dX8_order_131 : decode cX8_order 131 = .ok (.iconst (-1), 1) := by decide +kernel
theorem dX8_order_132 : decode cX8_order 132 = .ok (.if_icmp .ne 8, 3) := by decide +kernel
theorem dX8_order_135 : decode cX8_order 135 = .ok (.iload 4, 2) := by decide +kernel
theorem dX8_order_137 : decode cX8_order 137 = .ok (.goto 19, 3) := by decide +kernel
theorem dX8_order_140 : decode cX8_order 140 = .ok (.iload_n 2, 1) := by decide +kernel
theorem dX8_order_141 : decode cX8_order 141 = .ok (.iload_n 3, 1) := by decide +kernel
theorem dX8_order_142 : decode cX8_order 142 = .ok (.if_icmp .ge 12, 3) := by decide +kernel
theorem dX8_order_145 : decode cX8_order 145 = .ok (.aload_n 0, 1) := by decide +kernel
theorem dX8_order_146 : decode cX8_order 146 = .ok (.getfield 39, 3) := by decide +kernel
theorem dX8_order_149 : decode cX8_order 149 = .ok (.iload_n 2, 1) := by decide +kernel
theorem dX8_order_150 : decode cX8_order 150 = .ok (.iaload, 1) := by decide +kernel
theorem dX8_order_151 : decode cX8_order 151 = .ok (.goto 5, 3) := by decide +kernel
theorem dX8_order_154 : decode cX8_order 154 = .ok (.bipush (-5), 2) := by decide +kernel
theorem dX8_order_156 : decode cX8_order 156 = .ok (.ireturn, 1) := by decide +kernel
noncomputable def lp_X8_then_23 (p1 : Int32) : Nat → Int32 → ((Nat → Int32)) → Option (Int32 × (Nat → Int32))
 | 0, _, _ => none
 | fu + 1, x2_23, ya0_tried_f_23 => if p1 ≤ x2_23 then (some (x2_23, ya0_tried_f_23)) else (Option.bind (sp_X8_passes ya0_tried_f_23) fun z5 => lp_X8_then_23 p1 fu (x2_23 + (1 : Int32)) z5)
noncomputable def sp_X8_then (p1 : Int32) (fa0_town : Nat → Int32) (fa0_tried : Nat → Int32) (fa0_refused : Nat → Int32) : Option (Int32 × (Nat → Int32) × (Nat → Int32)) := if (sp_X8_in p1 (0 : Int32) (99 : Int32)) = 0 then (lt_ (sp_X8_badly (-100 : Int32) fa0_refused) fun z6 => some (z6.1, fa0_tried, z6.2)) else (Option.bind (sp_X8_triesOn fa0_town fa0_tried) fun z2 => Option.bind (lp_X8_then_23 p1 FU (0 : Int32) z2) fun z3 => some ((z3.2 ((1 : Int32)).toNatClampNeg), z3.2, fa0_refused))
set_option maxHeartbeats 4000000 in
set_option maxRecDepth 100000 in
theorem c_X8_then (l : Launch) (E : wE) (a0 a0_text a0_town a0_draft a0_tried a0_images a0_kept a0_refused a0_line a0_best : Nat) (p1 : Int32) (a0_letters : Int32) (a0_above : Int64) (a0_below : Int64) (a0_at : Int32) (a0_start : Int32) (a0_isWell : Int32) (a0_faultAt : Int32) (fa0_town : Nat → Int32) (fa0_tried : Nat → Int32) (fa0_refused : Nat → Int32) (z_0 : Int32) (z_1 : (Nat → Int32)) (z_2 : (Nat → Int32)) (hsp : sp_X8_then p1 fa0_town fa0_tried fa0_refused = some (z_0, z_1, z_2)) : MW l yX8_then cX8_then 3 (some .int) 3 E [.ref a0, .int p1] [(a0, .inr (5, [.ref a0_text, .int a0_letters, .ref a0_town, .ref a0_draft, .ref a0_tried, .ref a0_images, .ref a0_kept, .ref a0_refused, .long a0_above, .long a0_below, .ref a0_line, .ref a0_best, .int a0_at, .int a0_start, .int a0_isWell, .int a0_faultAt])), (a0_town, aI E 682 fa0_town), (a0_tried, aI E 682 fa0_tried), (a0_refused, aI E 3 fa0_refused)] (some (.int z_0)) [(a0, .inr (5, [.ref a0_text, .int a0_letters, .ref a0_town, .ref a0_draft, .ref a0_tried, .ref a0_images, .ref a0_kept, .ref a0_refused, .long a0_above, .long a0_below, .ref a0_line, .ref a0_best, .int a0_at, .int a0_start, .int a0_isWell, .int a0_faultAt])), (a0_town, aI E 682 fa0_town), (a0_tried, aI E 682 z_1), (a0_refused, aI E 3 z_2)] := by
  refine MW.of (by decide +kernel) (Nat.le_of_ble_eq_true rfl) ?_
  intro p e s m below meth c ls A hX hK hP hD hS hA hl
  have hX : CX p s m [.ref a0, .int p1].toArray meth c cX8_then 3 (some .int) RX8 := hX
  have hx := hX.1; have hb := hX.2.1; have hts := hX.2.2.2.2.1; have hown := hX.2.2.2.2.2.1
  have hl : lv_has ls 3 [(0, .ref a0), (1, .int p1)] := hl
  have hP : wP E [(a0, .inr (5, [.ref a0_text, .int a0_letters, .ref a0_town, .ref a0_draft, .ref a0_tried, .ref a0_images, .ref a0_kept, .ref a0_refused, .long a0_above, .long a0_below, .ref a0_line, .ref a0_best, .int a0_at, .int a0_start, .int a0_isWell, .int a0_faultAt])), (a0_town, aI E 682 fa0_town), (a0_tried, aI E 682 fa0_tried), (a0_refused, aI E 3 fa0_refused)] s.heap := hP
  have hsp : (if (sp_X8_in p1 (0 : Int32) (99 : Int32)) = 0 then (lt_ (sp_X8_badly (-100 : Int32) fa0_refused) fun z6 => some (z6.1, fa0_tried, z6.2)) else (Option.bind (sp_X8_triesOn fa0_town fa0_tried) fun z2 => Option.bind (lp_X8_then_23 p1 FU (0 : Int32) z2) fun z3 => some ((z3.2 ((1 : Int32)).toNatClampNeg), z3.2, fa0_refused))) = some (z_0, z_1, z_2) := hsp
  refine lv_iload_n hx hb dX8_then_0 rfl (lv_at hl 1 rfl) (W.pc 1 rfl ?_)
  refine lv_iconst (v := (0 : Int32)) hx hb dX8_then_1 (by decide) (W.pc 2 rfl ?_)
  refine lv_bipush (v := (99 : Int32)) hx hb dX8_then_2 (by decide) (W.pc 4 rfl ?_)
  refine kSR (st1 := [.int (sp_X8_in p1 (0 : Int32) (99 : Int32))]) hX (c_X8_in l E p1 (0 : Int32) (99 : Int32) _ rfl) B_X8_in w_4_125 hK (hP.pick [] rfl) rfl hl.1 rfl (Nat.le_of_ble_eq_true rfl) ⟨Nat.le_of_ble_eq_true rfl, Nat.le_of_ble_eq_true rfl⟩ dX8_then_4 rfl (W.pc 7 rfl ?_)
  refine lv_if_ne (tgt := 17) hx hb dX8_then_7 (by decide) (fun c1 => ?_) (fun c1 => W.pc 10 rfl ?_)
  · have hsp := iq hsp c1
    refine lv_aload_n hx hb dX8_then_17 rfl (lv_at hl 0 rfl) (W.pc 18 rfl ?_)
    obtain ⟨z2, hr_z2, hsp⟩ := bd_s hsp
    refine kVW (st1 := []) (ws' := [(a0, .inr (5, [.ref a0_text, .int a0_letters, .ref a0_town, .ref a0_draft, .ref a0_tried, .ref a0_images, .ref a0_kept, .ref a0_refused, .long a0_above, .long a0_below, .ref a0_line, .ref a0_best, .int a0_at, .int a0_start, .int a0_isWell, .int a0_faultAt])), (a0_town, aI E 682 fa0_town), (a0_tried, aI E 682 z2), (a0_refused, aI E 3 fa0_refused)]) [0, 1, 2] hX (c_X8_triesOn l E a0 a0_text a0_town a0_draft a0_tried a0_images a0_kept a0_refused a0_line a0_best a0_letters a0_above a0_below a0_at a0_start a0_isWell a0_faultAt fa0_town fa0_tried z2 hr_z2) B_X8_triesOn w_5_57 hK hP hD hS hA (by decide) rfl rfl rfl (q0 := 0) (ci := 5) rfl rfl rfl rfl hl.1 rfl (Nat.le_of_ble_eq_true rfl) ⟨Nat.le_of_ble_eq_true rfl, Nat.le_of_ble_eq_true rfl⟩ dX8_then_18 rfl (fun H locs hP hD hS => W.pc 21 rfl ?_)
    refine lv_iconst (v := (0 : Int32)) hx hb dX8_then_21 (by decide) (W.pc 22 rfl ?_)
    refine lv_istore_n (lv' := [(2, .int (0 : Int32)), (0, .ref a0), (1, .int p1)]) hx hb dX8_then_22 rfl hl (by decide) rfl (fun ls hl => W.pc 23 rfl ?_)
    have L_23 : ∀ (z3 : Int32 × (Nat → Int32)), (∀ (H : Heap) (locs : List Loc) (ls : Array Slot), wP E [(a0, .inr (5, [.ref a0_text, .int a0_letters, .ref a0_town, .ref a0_draft, .ref a0_tried, .ref a0_images, .ref a0_kept, .ref a0_refused, .long a0_above, .long a0_below, .ref a0_line, .ref a0_best, .int a0_at, .int a0_start, .int a0_isWell, .int a0_faultAt])), (a0_town, aI E 682 fa0_town), (a0_tried, aI E 682 z3.2), (a0_refused, aI E 3 fa0_refused)] H → va_D A [(a0, .inr (5, [.ref a0_text, .int a0_letters, .ref a0_town, .ref a0_draft, .ref a0_tried, .ref a0_images, .ref a0_kept, .ref a0_refused, .long a0_above, .long a0_below, .ref a0_line, .ref a0_best, .int a0_at, .int a0_start, .int a0_isWell, .int a0_faultAt])), (a0_town, aI E 682 fa0_town), (a0_tried, aI E 682 z3.2), (a0_refused, aI E 3 fa0_refused)] → va_S A s.heap H locs → lv_has ls 3 [(0, .ref a0)] → W p l e (wR 3) s m [.ref a0, .int p1].toArray below meth c H locs 0 0 (MQ below (QWd E A (some (.int z_0)) [(a0, .inr (5, [.ref a0_text, .int a0_letters, .ref a0_town, .ref a0_draft, .ref a0_tried, .ref a0_images, .ref a0_kept, .ref a0_refused, .long a0_above, .long a0_below, .ref a0_line, .ref a0_best, .int a0_at, .int a0_start, .int a0_isWell, .int a0_faultAt])), (a0_town, aI E 682 fa0_town), (a0_tried, aI E 682 z_1), (a0_refused, aI E 3 z_2)]) [.ref a0, .int p1].toArray s 0 0 A) (F0 m 41 ls [])) → ∀ (fu : Nat) (x2_23 : Int32) (ya0_tried_f_23 : (Nat → Int32)), ∀ (H : Heap) (locs : List Loc) (ls : Array Slot), wP E [(a0, .inr (5, [.ref a0_text, .int a0_letters, .ref a0_town, .ref a0_draft, .ref a0_tried, .ref a0_images, .ref a0_kept, .ref a0_refused, .long a0_above, .long a0_below, .ref a0_line, .ref a0_best, .int a0_at, .int a0_start, .int a0_isWell, .int a0_faultAt])), (a0_town, aI E 682 fa0_town), (a0_tried, aI E 682 ya0_tried_f_23), (a0_refused, aI E 3 fa0_refused)] H → va_D A [(a0, .inr (5, [.ref a0_text, .int a0_letters, .ref a0_town, .ref a0_draft, .ref a0_tried, .ref a0_images, .ref a0_kept, .ref a0_refused, .long a0_above, .long a0_below, .ref a0_line, .ref a0_best, .int a0_at, .int a0_start, .int a0_isWell, .int a0_faultAt])), (a0_town, aI E 682 fa0_town), (a0_tried, aI E 682 ya0_tried_f_23), (a0_refused, aI E 3 fa0_refused)] → va_S A s.heap H locs → lv_has ls 3 [(0, .ref a0), (1, .int p1), (2, .int x2_23)] → lp_X8_then_23 p1 fu x2_23 ya0_tried_f_23 = some z3 → W p l e (wR 3) s m [.ref a0, .int p1].toArray below meth c H locs 0 0 (MQ below (QWd E A (some (.int z_0)) [(a0, .inr (5, [.ref a0_text, .int a0_letters, .ref a0_town, .ref a0_draft, .ref a0_tried, .ref a0_images, .ref a0_kept, .ref a0_refused, .long a0_above, .long a0_below, .ref a0_line, .ref a0_best, .int a0_at, .int a0_start, .int a0_isWell, .int a0_faultAt])), (a0_town, aI E 682 fa0_town), (a0_tried, aI E 682 z_1), (a0_refused, aI E 3 z_2)]) [.ref a0, .int p1].toArray s 0 0 A) (F0 m 23 ls []) := by
      intro z3 hk_23 fu
      induction fu with
      | zero => intro x2_23 ya0_tried_f_23 H locs ls hP hD hS hl hsp; exact absurd (show none = some _ from hsp) (by simp)
      | succ fu ih_23 =>
        intro x2_23 ya0_tried_f_23 H locs ls hP hD hS hl hsp
        have hsp : (if p1 ≤ x2_23 then (some (x2_23, ya0_tried_f_23)) else (Option.bind (sp_X8_passes ya0_tried_f_23) fun z5 => lp_X8_then_23 p1 fu (x2_23 + (1 : Int32)) z5)) = some z3 := hsp
        refine lv_iload_n hx hb dX8_then_23 rfl (lv_at hl 2 rfl) (W.pc 24 rfl ?_)
        refine lv_iload_n hx hb dX8_then_24 rfl (lv_at hl 1 rfl) (W.pc 25 rfl ?_)
        refine lv_icmp_ge (tgt := 41) hx hb dX8_then_25 (by decide) (fun c4 => ?_) (fun c4 => W.pc 28 rfl ?_)
        · have hsp := ip hsp c4
          obtain rfl := Option.some.inj hsp
          exact hk_23 _ _ _ hP hD hS (lv_sub hl [0] rfl)
        · have hsp := iq hsp c4
          refine lv_aload_n hx hb dX8_then_28 rfl (lv_at hl 0 rfl) (W.pc 29 rfl ?_)
          refine va_get (D := E.1) (ci := 5) (v := .ref a0_tried) (C := RX8) (T := TX8) (N := 16) hx hb hts inT_X8 hown hK hP 0 rfl rfl 4 (by decide) (hts _ w_4_72) (fun _ h9 => h9) rfl dX8_then_29 (W.pc 32 rfl ?_)
          obtain ⟨z5, hr_z5, hsp⟩ := bd_s hsp
          refine kSW (st1 := []) (ws' := [(a0, .inr (5, [.ref a0_text, .int a0_letters, .ref a0_town, .ref a0_draft, .ref a0_tried, .ref a0_images, .ref a0_kept, .ref a0_refused, .long a0_above, .long a0_below, .ref a0_line, .ref a0_best, .int a0_at, .int a0_start, .int a0_isWell, .int a0_faultAt])), (a0_town, aI E 682 fa0_town), (a0_tried, aI E 682 z5), (a0_refused, aI E 3 fa0_refused)]) [2] hX (c_X8_passes l E a0_tried ya0_tried_f_23 z5 hr_z5) B_X8_passes w_4_215 hK hP hD hS hA (by decide) rfl rfl rfl rfl hl.1 rfl (Nat.le_of_ble_eq_true rfl) ⟨Nat.le_of_ble_eq_true rfl, Nat.le_of_ble_eq_true rfl⟩ dX8_then_32 rfl (fun H locs hP hD hS => W.pc 35 rfl ?_)
          refine lv_iinc (v := (x2_23 + (1 : Int32))) (lv' := [(2, .int (x2_23 + (1 : Int32))), (0, .ref a0), (1, .int p1)]) hx hb dX8_then_35 hl (k := 2) rfl rfl (by decide) rfl (fun ls hl => W.pc 38 rfl ?_)
          refine lv_goto (tgt := 23) hx hb dX8_then_38 (by decide) ?_
          exact ih_23 (x2_23 + (1 : Int32)) z5 _ _ _ hP hD hS (lv_sub hl [1, 2, 0] rfl) hsp
    obtain ⟨z3, hr_z3, hsp⟩ := bd_s hsp
    refine L_23 z3 (fun H locs ls hP hD hS hl => ?_) FU (0 : Int32) z2 _ _ _ hP hD hS (lv_sub hl [1, 2, 0] rfl) hr_z3
    refine lv_aload_n hx hb dX8_then_41 rfl (lv_at hl 0 rfl) (W.pc 42 rfl ?_)
    refine va_get (D := E.1) (ci := 5) (v := .ref a0_tried) (C := RX8) (T := TX8) (N := 16) hx hb hts inT_X8 hown hK hP 0 rfl rfl 4 (by decide) (hts _ w_4_72) (fun _ h9 => h9) rfl dX8_then_42 (W.pc 45 rfl ?_)
    refine lv_iconst (v := (1 : Int32)) hx hb dX8_then_45 (by decide) (W.pc 46 rfl ?_)
    refine va_iald hx hb hK hP 2 0 rfl rfl (vp_in_nI (n := 1) (N := 682) (by decide) (by decide)) dX8_then_46 (W.pc 47 rfl ?_)
    cases hsp
    exact rWi hX hP hS rfl rfl dX8_then_47
  · have hsp := ip hsp c1
    refine lv_aload_n hx hb dX8_then_10 rfl (lv_at hl 0 rfl) (W.pc 11 rfl ?_)
    refine lv_bipush (v := (-100 : Int32)) hx hb dX8_then_11 (by decide) (W.pc 13 rfl ?_)
    obtain ⟨z6, hr_z6, hsp⟩ := ltb_s hsp
    refine kVW (st1 := [.int z6.1]) (ws' := [(a0, .inr (5, [.ref a0_text, .int a0_letters, .ref a0_town, .ref a0_draft, .ref a0_tried, .ref a0_images, .ref a0_kept, .ref a0_refused, .long a0_above, .long a0_below, .ref a0_line, .ref a0_best, .int a0_at, .int a0_start, .int a0_isWell, .int a0_faultAt])), (a0_town, aI E 682 fa0_town), (a0_tried, aI E 682 fa0_tried), (a0_refused, aI E 3 z6.2)]) [0, 3] hX (c_X8_badly l E a0 a0_text a0_town a0_draft a0_tried a0_images a0_kept a0_refused a0_line a0_best (-100 : Int32) a0_letters a0_above a0_below a0_at a0_start a0_isWell a0_faultAt fa0_refused z6.1 z6.2 hr_z6) B_X8_badly w_4_148 hK hP hD hS hA (by decide) rfl rfl rfl (q0 := 0) (ci := 5) rfl rfl rfl rfl hl.1 rfl (Nat.le_of_ble_eq_true rfl) ⟨Nat.le_of_ble_eq_true rfl, Nat.le_of_ble_eq_true rfl⟩ dX8_then_13 rfl (fun H locs hP hD hS => W.pc 16 rfl ?_)
    cases hsp
    exact rWi hX hP hS rfl rfl dX8_then_16
noncomputable def lp_X8_when_21 (p1 : Int32) (fa0_refused : Nat → Int32) : Nat → Int32 → ((Nat → Int32)) → Option (Int32 × (Nat → Int32) × (Nat → Int32))
 | 0, _, _ => none
 | fu + 1, x2_21, ya0_tried_f_21 => if (100 : Int32) ≤ x2_21 then (some ((-1 : Int32), ya0_tried_f_21, fa0_refused)) else (if (sp_X8_size (ya0_tried_f_21 ((1 : Int32)).toNatClampNeg)) < p1 then (Option.bind (sp_X8_passes ya0_tried_f_21) fun z5 => lp_X8_when_21 p1 fa0_refused fu (x2_21 + (1 : Int32)) z5) else (some (x2_21, ya0_tried_f_21, fa0_refused)))
noncomputable def sp_X8_when (p1 : Int32) (fa0_town : Nat → Int32) (fa0_tried : Nat → Int32) (fa0_refused : Nat → Int32) : Option (Int32 × (Nat → Int32) × (Nat → Int32)) := if (sp_X8_in p1 (1 : Int32) (9 : Int32)) = 0 then (lt_ (sp_X8_bad fa0_refused) fun z6 => some (z6.1, fa0_tried, z6.2)) else (Option.bind (sp_X8_triesOn fa0_town fa0_tried) fun z2 => lp_X8_when_21 p1 fa0_refused FU (0 : Int32) z2)
set_option maxHeartbeats 4000000 in
set_option maxRecDepth 100000 in
theorem c_X8_when (l : Launch) (E : wE) (a0 a0_text a0_town a0_draft a0_tried a0_images a0_kept a0_refused a0_line a0_best : Nat) (p1 : Int32) (a0_letters : Int32) (a0_above : Int64) (a0_below : Int64) (a0_at : Int32) (a0_start : Int32) (a0_isWell : Int32) (a0_faultAt : Int32) (fa0_town : Nat → Int32) (fa0_tried : Nat → Int32) (fa0_refused : Nat → Int32) (z_0 : Int32) (z_1 : (Nat → Int32)) (z_2 : (Nat → Int32)) (hsp : sp_X8_when p1 fa0_town fa0_tried fa0_refused = some (z_0, z_1, z_2)) : MW l yX8_when cX8_when 3 (some .int) 3 E [.ref a0, .int p1] [(a0, .inr (5, [.ref a0_text, .int a0_letters, .ref a0_town, .ref a0_draft, .ref a0_tried, .ref a0_images, .ref a0_kept, .ref a0_refused, .long a0_above, .long a0_below, .ref a0_line, .ref a0_best, .int a0_at, .int a0_start, .int a0_isWell, .int a0_faultAt])), (a0_town, aI E 682 fa0_town), (a0_tried, aI E 682 fa0_tried), (a0_refused, aI E 3 fa0_refused)] (some (.int z_0)) [(a0, .inr (5, [.ref a0_text, .int a0_letters, .ref a0_town, .ref a0_draft, .ref a0_tried, .ref a0_images, .ref a0_kept, .ref a0_refused, .long a0_above, .long a0_below, .ref a0_line, .ref a0_best, .int a0_at, .int a0_start, .int a0_isWell, .int a0_faultAt])), (a0_town, aI E 682 fa0_town), (a0_tried, aI E 682 z_1), (a0_refused, aI E 3 z_2)] := by
  refine MW.of (by decide +kernel) (Nat.le_of_ble_eq_true rfl) ?_
  intro p e s m below meth c ls A hX hK hP hD hS hA hl
  have hX : CX p s m [.ref a0, .int p1].toArray meth c cX8_when 3 (some .int) RX8 := hX
  have hx := hX.1; have hb := hX.2.1; have hts := hX.2.2.2.2.1; have hown := hX.2.2.2.2.2.1
  have hl : lv_has ls 3 [(0, .ref a0), (1, .int p1)] := hl
  have hP : wP E [(a0, .inr (5, [.ref a0_text, .int a0_letters, .ref a0_town, .ref a0_draft, .ref a0_tried, .ref a0_images, .ref a0_kept, .ref a0_refused, .long a0_above, .long a0_below, .ref a0_line, .ref a0_best, .int a0_at, .int a0_start, .int a0_isWell, .int a0_faultAt])), (a0_town, aI E 682 fa0_town), (a0_tried, aI E 682 fa0_tried), (a0_refused, aI E 3 fa0_refused)] s.heap := hP
  have hsp : (if (sp_X8_in p1 (1 : Int32) (9 : Int32)) = 0 then (lt_ (sp_X8_bad fa0_refused) fun z6 => some (z6.1, fa0_tried, z6.2)) else (Option.bind (sp_X8_triesOn fa0_town fa0_tried) fun z2 => lp_X8_when_21 p1 fa0_refused FU (0 : Int32) z2)) = some (z_0, z_1, z_2) := hsp
  refine lv_iload_n hx hb dX8_when_0 rfl (lv_at hl 1 rfl) (W.pc 1 rfl ?_)
  refine lv_iconst (v := (1 : Int32)) hx hb dX8_when_1 (by decide) (W.pc 2 rfl ?_)
  refine lv_bipush (v := (9 : Int32)) hx hb dX8_when_2 (by decide) (W.pc 4 rfl ?_)
  refine kSR (st1 := [.int (sp_X8_in p1 (1 : Int32) (9 : Int32))]) hX (c_X8_in l E p1 (1 : Int32) (9 : Int32) _ rfl) B_X8_in w_4_125 hK (hP.pick [] rfl) rfl hl.1 rfl (Nat.le_of_ble_eq_true rfl) ⟨Nat.le_of_ble_eq_true rfl, Nat.le_of_ble_eq_true rfl⟩ dX8_when_4 rfl (W.pc 7 rfl ?_)
  refine lv_if_ne (tgt := 15) hx hb dX8_when_7 (by decide) (fun c1 => ?_) (fun c1 => W.pc 10 rfl ?_)
  · have hsp := iq hsp c1
    refine lv_aload_n hx hb dX8_when_15 rfl (lv_at hl 0 rfl) (W.pc 16 rfl ?_)
    obtain ⟨z2, hr_z2, hsp⟩ := bd_s hsp
    refine kVW (st1 := []) (ws' := [(a0, .inr (5, [.ref a0_text, .int a0_letters, .ref a0_town, .ref a0_draft, .ref a0_tried, .ref a0_images, .ref a0_kept, .ref a0_refused, .long a0_above, .long a0_below, .ref a0_line, .ref a0_best, .int a0_at, .int a0_start, .int a0_isWell, .int a0_faultAt])), (a0_town, aI E 682 fa0_town), (a0_tried, aI E 682 z2), (a0_refused, aI E 3 fa0_refused)]) [0, 1, 2] hX (c_X8_triesOn l E a0 a0_text a0_town a0_draft a0_tried a0_images a0_kept a0_refused a0_line a0_best a0_letters a0_above a0_below a0_at a0_start a0_isWell a0_faultAt fa0_town fa0_tried z2 hr_z2) B_X8_triesOn w_5_57 hK hP hD hS hA (by decide) rfl rfl rfl (q0 := 0) (ci := 5) rfl rfl rfl rfl hl.1 rfl (Nat.le_of_ble_eq_true rfl) ⟨Nat.le_of_ble_eq_true rfl, Nat.le_of_ble_eq_true rfl⟩ dX8_when_16 rfl (fun H locs hP hD hS => W.pc 19 rfl ?_)
    refine lv_iconst (v := (0 : Int32)) hx hb dX8_when_19 (by decide) (W.pc 20 rfl ?_)
    refine lv_istore_n (lv' := [(2, .int (0 : Int32)), (0, .ref a0), (1, .int p1)]) hx hb dX8_when_20 rfl hl (by decide) rfl (fun ls hl => W.pc 21 rfl ?_)
    have L_21 : ∀ (fu : Nat) (x2_21 : Int32) (ya0_tried_f_21 : (Nat → Int32)), ∀ (H : Heap) (locs : List Loc) (ls : Array Slot), wP E [(a0, .inr (5, [.ref a0_text, .int a0_letters, .ref a0_town, .ref a0_draft, .ref a0_tried, .ref a0_images, .ref a0_kept, .ref a0_refused, .long a0_above, .long a0_below, .ref a0_line, .ref a0_best, .int a0_at, .int a0_start, .int a0_isWell, .int a0_faultAt])), (a0_town, aI E 682 fa0_town), (a0_tried, aI E 682 ya0_tried_f_21), (a0_refused, aI E 3 fa0_refused)] H → va_D A [(a0, .inr (5, [.ref a0_text, .int a0_letters, .ref a0_town, .ref a0_draft, .ref a0_tried, .ref a0_images, .ref a0_kept, .ref a0_refused, .long a0_above, .long a0_below, .ref a0_line, .ref a0_best, .int a0_at, .int a0_start, .int a0_isWell, .int a0_faultAt])), (a0_town, aI E 682 fa0_town), (a0_tried, aI E 682 ya0_tried_f_21), (a0_refused, aI E 3 fa0_refused)] → va_S A s.heap H locs → lv_has ls 3 [(0, .ref a0), (1, .int p1), (2, .int x2_21)] → lp_X8_when_21 p1 fa0_refused fu x2_21 ya0_tried_f_21 = some (z_0, z_1, z_2) → W p l e (wR 3) s m [.ref a0, .int p1].toArray below meth c H locs 0 0 (MQ below (QWd E A (some (.int z_0)) [(a0, .inr (5, [.ref a0_text, .int a0_letters, .ref a0_town, .ref a0_draft, .ref a0_tried, .ref a0_images, .ref a0_kept, .ref a0_refused, .long a0_above, .long a0_below, .ref a0_line, .ref a0_best, .int a0_at, .int a0_start, .int a0_isWell, .int a0_faultAt])), (a0_town, aI E 682 fa0_town), (a0_tried, aI E 682 z_1), (a0_refused, aI E 3 z_2)]) [.ref a0, .int p1].toArray s 0 0 A) (F0 m 21 ls []) := by
      intro fu
      induction fu with
      | zero => intro x2_21 ya0_tried_f_21 H locs ls hP hD hS hl hsp; exact absurd (show none = some _ from hsp) (by simp)
      | succ fu ih_21 =>
        intro x2_21 ya0_tried_f_21 H locs ls hP hD hS hl hsp
        have hsp : (if (100 : Int32) ≤ x2_21 then (some ((-1 : Int32), ya0_tried_f_21, fa0_refused)) else (if (sp_X8_size (ya0_tried_f_21 ((1 : Int32)).toNatClampNeg)) < p1 then (Option.bind (sp_X8_passes ya0_tried_f_21) fun z5 => lp_X8_when_21 p1 fa0_refused fu (x2_21 + (1 : Int32)) z5) else (some (x2_21, ya0_tried_f_21, fa0_refused)))) = some (z_0, z_1, z_2) := hsp
        refine lv_iload_n hx hb dX8_when_21 rfl (lv_at hl 2 rfl) (W.pc 22 rfl ?_)
        refine lv_bipush (v := (100 : Int32)) hx hb dX8_when_22 (by decide) (W.pc 24 rfl ?_)
        refine lv_icmp_ge (tgt := 55) hx hb dX8_when_24 (by decide) (fun c3 => ?_) (fun c3 => W.pc 27 rfl ?_)
        · have hsp := ip hsp c3
          refine lv_iconst (v := (-1 : Int32)) hx hb dX8_when_55 (by decide) (W.pc 56 rfl ?_)
          cases hsp
          exact rWi hX hP hS rfl rfl dX8_when_56
        · have hsp := iq hsp c3
          refine lv_aload_n hx hb dX8_when_27 rfl (lv_at hl 0 rfl) (W.pc 28 rfl ?_)
          refine va_get (D := E.1) (ci := 5) (v := .ref a0_tried) (C := RX8) (T := TX8) (N := 16) hx hb hts inT_X8 hown hK hP 0 rfl rfl 4 (by decide) (hts _ w_4_72) (fun _ h9 => h9) rfl dX8_when_28 (W.pc 31 rfl ?_)
          refine lv_iconst (v := (1 : Int32)) hx hb dX8_when_31 (by decide) (W.pc 32 rfl ?_)
          refine va_iald hx hb hK hP 2 0 rfl rfl (vp_in_nI (n := 1) (N := 682) (by decide) (by decide)) dX8_when_32 (W.pc 33 rfl ?_)
          refine kSR (st1 := [.int (sp_X8_size (ya0_tried_f_21 ((1 : Int32)).toNatClampNeg))]) hX (c_X8_size l E (ya0_tried_f_21 ((1 : Int32)).toNatClampNeg) _ rfl) B_X8_size w_5_12 hK (hP.pick [] rfl) rfl hl.1 rfl (Nat.le_of_ble_eq_true rfl) ⟨Nat.le_of_ble_eq_true rfl, Nat.le_of_ble_eq_true rfl⟩ dX8_when_33 rfl (W.pc 36 rfl ?_)
          refine lv_iload_n hx hb dX8_when_36 rfl (lv_at hl 1 rfl) (W.pc 37 rfl ?_)
          refine lv_icmp_lt (tgt := 42) hx hb dX8_when_37 (by decide) (fun c4 => ?_) (fun c4 => W.pc 40 rfl ?_)
          · have hsp := ip hsp c4
            refine lv_aload_n hx hb dX8_when_42 rfl (lv_at hl 0 rfl) (W.pc 43 rfl ?_)
            refine va_get (D := E.1) (ci := 5) (v := .ref a0_tried) (C := RX8) (T := TX8) (N := 16) hx hb hts inT_X8 hown hK hP 0 rfl rfl 4 (by decide) (hts _ w_4_72) (fun _ h9 => h9) rfl dX8_when_43 (W.pc 46 rfl ?_)
            obtain ⟨z5, hr_z5, hsp⟩ := bd_s hsp
            refine kSW (st1 := []) (ws' := [(a0, .inr (5, [.ref a0_text, .int a0_letters, .ref a0_town, .ref a0_draft, .ref a0_tried, .ref a0_images, .ref a0_kept, .ref a0_refused, .long a0_above, .long a0_below, .ref a0_line, .ref a0_best, .int a0_at, .int a0_start, .int a0_isWell, .int a0_faultAt])), (a0_town, aI E 682 fa0_town), (a0_tried, aI E 682 z5), (a0_refused, aI E 3 fa0_refused)]) [2] hX (c_X8_passes l E a0_tried ya0_tried_f_21 z5 hr_z5) B_X8_passes w_4_215 hK hP hD hS hA (by decide) rfl rfl rfl rfl hl.1 rfl (Nat.le_of_ble_eq_true rfl) ⟨Nat.le_of_ble_eq_true rfl, Nat.le_of_ble_eq_true rfl⟩ dX8_when_46 rfl (fun H locs hP hD hS => W.pc 49 rfl ?_)
            refine lv_iinc (v := (x2_21 + (1 : Int32))) (lv' := [(2, .int (x2_21 + (1 : Int32))), (0, .ref a0), (1, .int p1)]) hx hb dX8_when_49 hl (k := 2) rfl rfl (by decide) rfl (fun ls hl => W.pc 52 rfl ?_)
            refine lv_goto (tgt := 21) hx hb dX8_when_52 (by decide) ?_
            exact ih_21 (x2_21 + (1 : Int32)) z5 _ _ _ hP hD hS (lv_sub hl [1, 2, 0] rfl) hsp
          · have hsp := iq hsp c4
            refine lv_iload_n hx hb dX8_when_40 rfl (lv_at hl 2 rfl) (W.pc 41 rfl ?_)
            cases hsp
            exact rWi hX hP hS rfl rfl dX8_when_41
    exact L_21 FU (0 : Int32) z2 _ _ _ hP hD hS (lv_sub hl [1, 2, 0] rfl) hsp
  · have hsp := ip hsp c1
    refine lv_aload_n hx hb dX8_when_10 rfl (lv_at hl 0 rfl) (W.pc 11 rfl ?_)
    obtain ⟨z6, hr_z6, hsp⟩ := ltb_s hsp
    refine kVW (st1 := [.int z6.1]) (ws' := [(a0, .inr (5, [.ref a0_text, .int a0_letters, .ref a0_town, .ref a0_draft, .ref a0_tried, .ref a0_images, .ref a0_kept, .ref a0_refused, .long a0_above, .long a0_below, .ref a0_line, .ref a0_best, .int a0_at, .int a0_start, .int a0_isWell, .int a0_faultAt])), (a0_town, aI E 682 fa0_town), (a0_tried, aI E 682 fa0_tried), (a0_refused, aI E 3 z6.2)]) [0, 3] hX (c_X8_bad l E a0 a0_text a0_town a0_draft a0_tried a0_images a0_kept a0_refused a0_line a0_best a0_letters a0_above a0_below a0_at a0_start a0_isWell a0_faultAt fa0_refused z6.1 z6.2 hr_z6) B_X8_bad w_4_128 hK hP hD hS hA (by decide) rfl rfl rfl (q0 := 0) (ci := 5) rfl rfl rfl rfl hl.1 rfl (Nat.le_of_ble_eq_true rfl) ⟨Nat.le_of_ble_eq_true rfl, Nat.le_of_ble_eq_true rfl⟩ dX8_when_11 rfl (fun H locs hP hD hS => W.pc 14 rfl ?_)
    cases hsp
    exact rWi hX hP hS rfl rfl dX8_when_14
noncomputable def sp_X8_fits (p1 : Int32) (p2 : Int32) (p3 : Int32) (fa0_refused : Nat → Int32) (fa0_town : Nat → Int32) (fa0_tried : Nat → Int32) : Option (Int32 × (Nat → Int32) × (Nat → Int32)) := if (sp_X8_isPlot p1) = 0 then (lt_ (sp_X8_bad fa0_refused) fun z2 => some (z2.1, z2.2, fa0_tried)) else (if (sp_X8_isKind p2) = 0 then (lt_ (sp_X8_bad fa0_refused) fun z4 => some (z4.1, z4.2, fa0_tried)) else (if (sp_X8_in p3 (0 : Int32) (1 : Int32)) = 0 then (lt_ (sp_X8_bad fa0_refused) fun z13 => some (z13.1, z13.2, fa0_tried)) else (gi ((3 : Int32) + p1) 682 (if (fa0_town (((3 : Int32) + p1)).toNatClampNeg) = (5 : Int32) then (some ((-1 : Int32), fa0_refused, fa0_tried)) else (Option.bind (sp_X8_triesOn fa0_town fa0_tried) fun z8 => lt_ (if p3 = (1 : Int32) then ((0 : Int32)) else ((fa0_town ((1 : Int32)).toNatClampNeg))) fun z9 => Option.bind (sp_X8_builds p1 p2 z9 z8) fun z12 => some ((z12 (((3 : Int32) + p1)).toNatClampNeg), fa0_refused, z12))))))
set_option maxHeartbeats 4000000 in
set_option maxRecDepth 100000 in
theorem c_X8_fits (l : Launch) (E : wE) (a0 a0_text a0_town a0_draft a0_tried a0_images a0_kept a0_refused a0_line a0_best : Nat) (p1 : Int32) (p2 : Int32) (p3 : Int32) (a0_letters : Int32) (a0_above : Int64) (a0_below : Int64) (a0_at : Int32) (a0_start : Int32) (a0_isWell : Int32) (a0_faultAt : Int32) (fa0_refused : Nat → Int32) (fa0_town : Nat → Int32) (fa0_tried : Nat → Int32) (z_0 : Int32) (z_1 : (Nat → Int32)) (z_2 : (Nat → Int32)) (hsp : sp_X8_fits p1 p2 p3 fa0_refused fa0_town fa0_tried = some (z_0, z_1, z_2)) : MW l yX8_fits cX8_fits 4 (some .int) 4 E [.ref a0, .int p1, .int p2, .int p3] [(a0, .inr (5, [.ref a0_text, .int a0_letters, .ref a0_town, .ref a0_draft, .ref a0_tried, .ref a0_images, .ref a0_kept, .ref a0_refused, .long a0_above, .long a0_below, .ref a0_line, .ref a0_best, .int a0_at, .int a0_start, .int a0_isWell, .int a0_faultAt])), (a0_refused, aI E 3 fa0_refused), (a0_town, aI E 682 fa0_town), (a0_tried, aI E 682 fa0_tried)] (some (.int z_0)) [(a0, .inr (5, [.ref a0_text, .int a0_letters, .ref a0_town, .ref a0_draft, .ref a0_tried, .ref a0_images, .ref a0_kept, .ref a0_refused, .long a0_above, .long a0_below, .ref a0_line, .ref a0_best, .int a0_at, .int a0_start, .int a0_isWell, .int a0_faultAt])), (a0_refused, aI E 3 z_1), (a0_town, aI E 682 fa0_town), (a0_tried, aI E 682 z_2)] := by
  refine MW.of (by decide +kernel) (Nat.le_of_ble_eq_true rfl) ?_
  intro p e s m below meth c ls A hX hK hP hD hS hA hl
  have hX : CX p s m [.ref a0, .int p1, .int p2, .int p3].toArray meth c cX8_fits 4 (some .int) RX8 := hX
  have hx := hX.1; have hb := hX.2.1; have hts := hX.2.2.2.2.1; have hown := hX.2.2.2.2.2.1
  have hl : lv_has ls 4 [(0, .ref a0), (1, .int p1), (2, .int p2), (3, .int p3)] := hl
  have hP : wP E [(a0, .inr (5, [.ref a0_text, .int a0_letters, .ref a0_town, .ref a0_draft, .ref a0_tried, .ref a0_images, .ref a0_kept, .ref a0_refused, .long a0_above, .long a0_below, .ref a0_line, .ref a0_best, .int a0_at, .int a0_start, .int a0_isWell, .int a0_faultAt])), (a0_refused, aI E 3 fa0_refused), (a0_town, aI E 682 fa0_town), (a0_tried, aI E 682 fa0_tried)] s.heap := hP
  have hsp : (if (sp_X8_isPlot p1) = 0 then (lt_ (sp_X8_bad fa0_refused) fun z2 => some (z2.1, z2.2, fa0_tried)) else (if (sp_X8_isKind p2) = 0 then (lt_ (sp_X8_bad fa0_refused) fun z4 => some (z4.1, z4.2, fa0_tried)) else (if (sp_X8_in p3 (0 : Int32) (1 : Int32)) = 0 then (lt_ (sp_X8_bad fa0_refused) fun z13 => some (z13.1, z13.2, fa0_tried)) else (gi ((3 : Int32) + p1) 682 (if (fa0_town (((3 : Int32) + p1)).toNatClampNeg) = (5 : Int32) then (some ((-1 : Int32), fa0_refused, fa0_tried)) else (Option.bind (sp_X8_triesOn fa0_town fa0_tried) fun z8 => lt_ (if p3 = (1 : Int32) then ((0 : Int32)) else ((fa0_town ((1 : Int32)).toNatClampNeg))) fun z9 => Option.bind (sp_X8_builds p1 p2 z9 z8) fun z12 => some ((z12 (((3 : Int32) + p1)).toNatClampNeg), fa0_refused, z12))))))) = some (z_0, z_1, z_2) := hsp
  refine lv_iload_n hx hb dX8_fits_0 rfl (lv_at hl 1 rfl) (W.pc 1 rfl ?_)
  refine kSR (st1 := [.int (sp_X8_isPlot p1)]) hX (c_X8_isPlot l E p1 _ rfl) B_X8_isPlot w_4_142 hK (hP.pick [] rfl) rfl hl.1 rfl (Nat.le_of_ble_eq_true rfl) ⟨Nat.le_of_ble_eq_true rfl, Nat.le_of_ble_eq_true rfl⟩ dX8_fits_1 rfl (W.pc 4 rfl ?_)
  refine lv_if_eq (tgt := 23) hx hb dX8_fits_4 (by decide) (fun c1 => ?_) (fun c1 => W.pc 7 rfl ?_)
  · have hsp := ip hsp c1
    refine lv_aload_n hx hb dX8_fits_23 rfl (lv_at hl 0 rfl) (W.pc 24 rfl ?_)
    obtain ⟨z2, hr_z2, hsp⟩ := ltb_s hsp
    refine kVW (st1 := [.int z2.1]) (ws' := [(a0, .inr (5, [.ref a0_text, .int a0_letters, .ref a0_town, .ref a0_draft, .ref a0_tried, .ref a0_images, .ref a0_kept, .ref a0_refused, .long a0_above, .long a0_below, .ref a0_line, .ref a0_best, .int a0_at, .int a0_start, .int a0_isWell, .int a0_faultAt])), (a0_refused, aI E 3 z2.2), (a0_town, aI E 682 fa0_town), (a0_tried, aI E 682 fa0_tried)]) [0, 1] hX (c_X8_bad l E a0 a0_text a0_town a0_draft a0_tried a0_images a0_kept a0_refused a0_line a0_best a0_letters a0_above a0_below a0_at a0_start a0_isWell a0_faultAt fa0_refused z2.1 z2.2 hr_z2) B_X8_bad w_4_128 hK hP hD hS hA (by decide) rfl rfl rfl (q0 := 0) (ci := 5) rfl rfl rfl rfl hl.1 rfl (Nat.le_of_ble_eq_true rfl) ⟨Nat.le_of_ble_eq_true rfl, Nat.le_of_ble_eq_true rfl⟩ dX8_fits_24 rfl (fun H locs hP hD hS => W.pc 27 rfl ?_)
    cases hsp
    exact rWi hX hP hS rfl rfl dX8_fits_27
  · have hsp := iq hsp c1
    refine lv_iload_n hx hb dX8_fits_7 rfl (lv_at hl 2 rfl) (W.pc 8 rfl ?_)
    refine kSR (st1 := [.int (sp_X8_isKind p2)]) hX (c_X8_isKind l E p2 _ rfl) B_X8_isKind w_4_122 hK (hP.pick [] rfl) rfl hl.1 rfl (Nat.le_of_ble_eq_true rfl) ⟨Nat.le_of_ble_eq_true rfl, Nat.le_of_ble_eq_true rfl⟩ dX8_fits_8 rfl (W.pc 11 rfl ?_)
    refine lv_if_eq (tgt := 23) hx hb dX8_fits_11 (by decide) (fun c3 => ?_) (fun c3 => W.pc 14 rfl ?_)
    · have hsp := ip hsp c3
      refine lv_aload_n hx hb dX8_fits_23 rfl (lv_at hl 0 rfl) (W.pc 24 rfl ?_)
      obtain ⟨z4, hr_z4, hsp⟩ := ltb_s hsp
      refine kVW (st1 := [.int z4.1]) (ws' := [(a0, .inr (5, [.ref a0_text, .int a0_letters, .ref a0_town, .ref a0_draft, .ref a0_tried, .ref a0_images, .ref a0_kept, .ref a0_refused, .long a0_above, .long a0_below, .ref a0_line, .ref a0_best, .int a0_at, .int a0_start, .int a0_isWell, .int a0_faultAt])), (a0_refused, aI E 3 z4.2), (a0_town, aI E 682 fa0_town), (a0_tried, aI E 682 fa0_tried)]) [0, 1] hX (c_X8_bad l E a0 a0_text a0_town a0_draft a0_tried a0_images a0_kept a0_refused a0_line a0_best a0_letters a0_above a0_below a0_at a0_start a0_isWell a0_faultAt fa0_refused z4.1 z4.2 hr_z4) B_X8_bad w_4_128 hK hP hD hS hA (by decide) rfl rfl rfl (q0 := 0) (ci := 5) rfl rfl rfl rfl hl.1 rfl (Nat.le_of_ble_eq_true rfl) ⟨Nat.le_of_ble_eq_true rfl, Nat.le_of_ble_eq_true rfl⟩ dX8_fits_24 rfl (fun H locs hP hD hS => W.pc 27 rfl ?_)
      cases hsp
      exact rWi hX hP hS rfl rfl dX8_fits_27
    · have hsp := iq hsp c3
      refine lv_iload_n hx hb dX8_fits_14 rfl (lv_at hl 3 rfl) (W.pc 15 rfl ?_)
      refine lv_iconst (v := (0 : Int32)) hx hb dX8_fits_15 (by decide) (W.pc 16 rfl ?_)
      refine lv_iconst (v := (1 : Int32)) hx hb dX8_fits_16 (by decide) (W.pc 17 rfl ?_)
      refine kSR (st1 := [.int (sp_X8_in p3 (0 : Int32) (1 : Int32))]) hX (c_X8_in l E p3 (0 : Int32) (1 : Int32) _ rfl) B_X8_in w_4_125 hK (hP.pick [] rfl) rfl hl.1 rfl (Nat.le_of_ble_eq_true rfl) ⟨Nat.le_of_ble_eq_true rfl, Nat.le_of_ble_eq_true rfl⟩ dX8_fits_17 rfl (W.pc 20 rfl ?_)
      refine lv_if_ne (tgt := 28) hx hb dX8_fits_20 (by decide) (fun c5 => ?_) (fun c5 => W.pc 23 rfl ?_)
      · have hsp := iq hsp c5
        refine lv_aload_n hx hb dX8_fits_28 rfl (lv_at hl 0 rfl) (W.pc 29 rfl ?_)
        refine va_get (D := E.1) (ci := 5) (v := .ref a0_town) (C := RX8) (T := TX8) (N := 16) hx hb hts inT_X8 hown hK hP 0 rfl rfl 2 (by decide) (hts _ w_4_70) (fun _ h9 => h9) rfl dX8_fits_29 (W.pc 32 rfl ?_)
        refine lv_iconst (v := (3 : Int32)) hx hb dX8_fits_32 (by decide) (W.pc 33 rfl ?_)
        refine lv_iload_n hx hb dX8_fits_33 rfl (lv_at hl 1 rfl) (W.pc 34 rfl ?_)
        refine lv_iadd hx hb dX8_fits_34 (W.pc 35 rfl ?_)
        obtain ⟨h6, hsp⟩ := gi_s hsp
        refine va_iald hx hb hK hP 2 0 rfl rfl h6 dX8_fits_35 (W.pc 36 rfl ?_)
        refine lv_iconst (v := (5 : Int32)) hx hb dX8_fits_36 (by decide) (W.pc 37 rfl ?_)
        refine lv_icmp_ne (tgt := 42) hx hb dX8_fits_37 (by decide) (fun c7 => ?_) (fun c7 => W.pc 40 rfl ?_)
        · have hsp := iq hsp c7
          refine lv_aload_n hx hb dX8_fits_42 rfl (lv_at hl 0 rfl) (W.pc 43 rfl ?_)
          obtain ⟨z8, hr_z8, hsp⟩ := bd_s hsp
          refine kVW (st1 := []) (ws' := [(a0, .inr (5, [.ref a0_text, .int a0_letters, .ref a0_town, .ref a0_draft, .ref a0_tried, .ref a0_images, .ref a0_kept, .ref a0_refused, .long a0_above, .long a0_below, .ref a0_line, .ref a0_best, .int a0_at, .int a0_start, .int a0_isWell, .int a0_faultAt])), (a0_refused, aI E 3 fa0_refused), (a0_town, aI E 682 fa0_town), (a0_tried, aI E 682 z8)]) [0, 2, 3] hX (c_X8_triesOn l E a0 a0_text a0_town a0_draft a0_tried a0_images a0_kept a0_refused a0_line a0_best a0_letters a0_above a0_below a0_at a0_start a0_isWell a0_faultAt fa0_town fa0_tried z8 hr_z8) B_X8_triesOn w_5_57 hK hP hD hS hA (by decide) rfl rfl rfl (q0 := 0) (ci := 5) rfl rfl rfl rfl hl.1 rfl (Nat.le_of_ble_eq_true rfl) ⟨Nat.le_of_ble_eq_true rfl, Nat.le_of_ble_eq_true rfl⟩ dX8_fits_43 rfl (fun H locs hP hD hS => W.pc 46 rfl ?_)
          refine lv_aload_n hx hb dX8_fits_46 rfl (lv_at hl 0 rfl) (W.pc 47 rfl ?_)
          refine va_get (D := E.1) (ci := 5) (v := .ref a0_tried) (C := RX8) (T := TX8) (N := 16) hx hb hts inT_X8 hown hK hP 0 rfl rfl 4 (by decide) (hts _ w_4_72) (fun _ h9 => h9) rfl dX8_fits_47 (W.pc 50 rfl ?_)
          refine lv_iload_n hx hb dX8_fits_50 rfl (lv_at hl 1 rfl) (W.pc 51 rfl ?_)
          refine lv_iload_n hx hb dX8_fits_51 rfl (lv_at hl 2 rfl) (W.pc 52 rfl ?_)
          refine lv_iload_n hx hb dX8_fits_52 rfl (lv_at hl 3 rfl) (W.pc 53 rfl ?_)
          refine lv_iconst (v := (1 : Int32)) hx hb dX8_fits_53 (by decide) (W.pc 54 rfl ?_)
          obtain ⟨z9, hr_z9, hsp⟩ := ltb_s hsp
          have J10 : ∀ (H : Heap) (locs : List Loc) (ls : Array Slot), wP E [(a0, .inr (5, [.ref a0_text, .int a0_letters, .ref a0_town, .ref a0_draft, .ref a0_tried, .ref a0_images, .ref a0_kept, .ref a0_refused, .long a0_above, .long a0_below, .ref a0_line, .ref a0_best, .int a0_at, .int a0_start, .int a0_isWell, .int a0_faultAt])), (a0_refused, aI E 3 fa0_refused), (a0_town, aI E 682 fa0_town), (a0_tried, aI E 682 z8)] H → va_D A [(a0, .inr (5, [.ref a0_text, .int a0_letters, .ref a0_town, .ref a0_draft, .ref a0_tried, .ref a0_images, .ref a0_kept, .ref a0_refused, .long a0_above, .long a0_below, .ref a0_line, .ref a0_best, .int a0_at, .int a0_start, .int a0_isWell, .int a0_faultAt])), (a0_refused, aI E 3 fa0_refused), (a0_town, aI E 682 fa0_town), (a0_tried, aI E 682 z8)] → va_S A s.heap H locs → lv_has ls 4 [(0, .ref a0), (1, .int p1)] → W p l e (wR 4) s m [.ref a0, .int p1, .int p2, .int p3].toArray below meth c H locs 0 0 (MQ below (QWd E A (some (.int z_0)) [(a0, .inr (5, [.ref a0_text, .int a0_letters, .ref a0_town, .ref a0_draft, .ref a0_tried, .ref a0_images, .ref a0_kept, .ref a0_refused, .long a0_above, .long a0_below, .ref a0_line, .ref a0_best, .int a0_at, .int a0_start, .int a0_isWell, .int a0_faultAt])), (a0_refused, aI E 3 z_1), (a0_town, aI E 682 fa0_town), (a0_tried, aI E 682 z_2)]) [.ref a0, .int p1, .int p2, .int p3].toArray s 0 0 A) (F0 m 67 ls [.int z9, .int p2, .int p1, .ref a0_tried]) := by
            intro H locs ls hP hD hS hl
            obtain ⟨z12, hr_z12, hsp⟩ := bd_s hsp
            refine kSW (st1 := []) (ws' := [(a0, .inr (5, [.ref a0_text, .int a0_letters, .ref a0_town, .ref a0_draft, .ref a0_tried, .ref a0_images, .ref a0_kept, .ref a0_refused, .long a0_above, .long a0_below, .ref a0_line, .ref a0_best, .int a0_at, .int a0_start, .int a0_isWell, .int a0_faultAt])), (a0_refused, aI E 3 fa0_refused), (a0_town, aI E 682 fa0_town), (a0_tried, aI E 682 z12)]) [3] hX (c_X8_builds l E a0_tried p1 p2 z9 z8 z12 hr_z12) B_X8_builds w_4_234 hK hP hD hS hA (by decide) rfl rfl rfl rfl hl.1 rfl (Nat.le_of_ble_eq_true rfl) ⟨Nat.le_of_ble_eq_true rfl, Nat.le_of_ble_eq_true rfl⟩ dX8_fits_67 rfl (fun H locs hP hD hS => W.pc 70 rfl ?_)
            refine lv_aload_n hx hb dX8_fits_70 rfl (lv_at hl 0 rfl) (W.pc 71 rfl ?_)
            refine va_get (D := E.1) (ci := 5) (v := .ref a0_tried) (C := RX8) (T := TX8) (N := 16) hx hb hts inT_X8 hown hK hP 0 rfl rfl 4 (by decide) (hts _ w_4_72) (fun _ h9 => h9) rfl dX8_fits_71 (W.pc 74 rfl ?_)
            refine lv_iconst (v := (3 : Int32)) hx hb dX8_fits_74 (by decide) (W.pc 75 rfl ?_)
            refine lv_iload_n hx hb dX8_fits_75 rfl (lv_at hl 1 rfl) (W.pc 76 rfl ?_)
            refine lv_iadd hx hb dX8_fits_76 (W.pc 77 rfl ?_)
            refine va_iald hx hb hK hP 3 0 rfl rfl h6 dX8_fits_77 (W.pc 78 rfl ?_)
            cases hsp
            exact rWi hX hP hS rfl rfl dX8_fits_78
          replace hsp := hr_z9
          refine lv_icmp_ne (tgt := 61) hx hb dX8_fits_54 (by decide) (fun c11 => ?_) (fun c11 => W.pc 57 rfl ?_)
          · have hsp := iq hsp c11
            refine lv_aload_n hx hb dX8_fits_61 rfl (lv_at hl 0 rfl) (W.pc 62 rfl ?_)
            refine va_get (D := E.1) (ci := 5) (v := .ref a0_town) (C := RX8) (T := TX8) (N := 16) hx hb hts inT_X8 hown hK hP 0 rfl rfl 2 (by decide) (hts _ w_4_70) (fun _ h9 => h9) rfl dX8_fits_62 (W.pc 65 rfl ?_)
            refine lv_iconst (v := (1 : Int32)) hx hb dX8_fits_65 (by decide) (W.pc 66 rfl ?_)
            refine va_iald hx hb hK hP 2 0 rfl rfl (vp_in_nI (n := 1) (N := 682) (by decide) (by decide)) dX8_fits_66 (W.pc 67 rfl ?_)
            subst hsp
            exact J10 _ _ _ hP hD hS (lv_sub hl [0, 1] rfl)
          · have hsp := ip hsp c11
            refine lv_iconst (v := (0 : Int32)) hx hb dX8_fits_57 (by decide) (W.pc 58 rfl ?_)
            refine lv_goto (tgt := 67) hx hb dX8_fits_58 (by decide) ?_
            subst hsp
            exact J10 _ _ _ hP hD hS (lv_sub hl [0, 1] rfl)
        · have hsp := ip hsp c7
          refine lv_iconst (v := (-1 : Int32)) hx hb dX8_fits_40 (by decide) (W.pc 41 rfl ?_)
          cases hsp
          exact rWi hX hP hS rfl rfl dX8_fits_41
      · have hsp := ip hsp c5
        refine lv_aload_n hx hb dX8_fits_23 rfl (lv_at hl 0 rfl) (W.pc 24 rfl ?_)
        obtain ⟨z13, hr_z13, hsp⟩ := ltb_s hsp
        refine kVW (st1 := [.int z13.1]) (ws' := [(a0, .inr (5, [.ref a0_text, .int a0_letters, .ref a0_town, .ref a0_draft, .ref a0_tried, .ref a0_images, .ref a0_kept, .ref a0_refused, .long a0_above, .long a0_below, .ref a0_line, .ref a0_best, .int a0_at, .int a0_start, .int a0_isWell, .int a0_faultAt])), (a0_refused, aI E 3 z13.2), (a0_town, aI E 682 fa0_town), (a0_tried, aI E 682 fa0_tried)]) [0, 1] hX (c_X8_bad l E a0 a0_text a0_town a0_draft a0_tried a0_images a0_kept a0_refused a0_line a0_best a0_letters a0_above a0_below a0_at a0_start a0_isWell a0_faultAt fa0_refused z13.1 z13.2 hr_z13) B_X8_bad w_4_128 hK hP hD hS hA (by decide) rfl rfl rfl (q0 := 0) (ci := 5) rfl rfl rfl rfl hl.1 rfl (Nat.le_of_ble_eq_true rfl) ⟨Nat.le_of_ble_eq_true rfl, Nat.le_of_ble_eq_true rfl⟩ dX8_fits_24 rfl (fun H locs hP hD hS => W.pc 27 rfl ?_)
        cases hsp
        exact rWi hX hP hS rfl rfl dX8_fits_27
noncomputable def lp_X8_rolls_16 (fa0_town : Nat → Int32) : Nat → Int32 → Int32 → Option (Int32 × Int32)
 | 0, _, _ => none
 | fu + 1, x2_16, x3_16 => Option.bind (sp_X8_top x3_16 fa0_town) fun z3 => lt_ (if z3 ≤ 0 then (if 0 ≤ z3 then (x3_16) else ((x3_16 - (1 : Int32)))) else ((x3_16 + (1 : Int32)))) fun z4 => if z4 = x3_16 then (some (x2_16, x3_16)) else (if (sp_X8_isPlot z4) = 0 then (some (x2_16, x3_16)) else (if z4 = x2_16 then (some (x2_16, x3_16)) else (lp_X8_rolls_16 fa0_town fu x3_16 z4)))
noncomputable def sp_X8_rolls (p1 : Int32) (fa0_town : Nat → Int32) (fa0_refused : Nat → Int32) : Option (Int32 × (Nat → Int32)) := if (sp_X8_isPlot p1) = 0 then (lt_ (sp_X8_bad fa0_refused) fun z11 => some (z11.1, z11.2)) else (Option.bind (lp_X8_rolls_16 fa0_town FU (-1 : Int32) p1) fun z2 => some (z2.2, fa0_refused))
set_option maxHeartbeats 4000000 in
set_option maxRecDepth 100000 in
theorem c_X8_rolls (l : Launch) (E : wE) (a0 a0_text a0_town a0_draft a0_tried a0_images a0_kept a0_refused a0_line a0_best : Nat) (p1 : Int32) (a0_letters : Int32) (a0_above : Int64) (a0_below : Int64) (a0_at : Int32) (a0_start : Int32) (a0_isWell : Int32) (a0_faultAt : Int32) (fa0_town : Nat → Int32) (fa0_refused : Nat → Int32) (z_0 : Int32) (z_1 : (Nat → Int32)) (hsp : sp_X8_rolls p1 fa0_town fa0_refused = some (z_0, z_1)) : MW l yX8_rolls cX8_rolls 6 (some .int) 2 E [.ref a0, .int p1] [(a0, .inr (5, [.ref a0_text, .int a0_letters, .ref a0_town, .ref a0_draft, .ref a0_tried, .ref a0_images, .ref a0_kept, .ref a0_refused, .long a0_above, .long a0_below, .ref a0_line, .ref a0_best, .int a0_at, .int a0_start, .int a0_isWell, .int a0_faultAt])), (a0_town, aI E 682 fa0_town), (a0_refused, aI E 3 fa0_refused)] (some (.int z_0)) [(a0, .inr (5, [.ref a0_text, .int a0_letters, .ref a0_town, .ref a0_draft, .ref a0_tried, .ref a0_images, .ref a0_kept, .ref a0_refused, .long a0_above, .long a0_below, .ref a0_line, .ref a0_best, .int a0_at, .int a0_start, .int a0_isWell, .int a0_faultAt])), (a0_town, aI E 682 fa0_town), (a0_refused, aI E 3 z_1)] := by
  refine MW.of (by decide +kernel) (Nat.le_of_ble_eq_true rfl) ?_
  intro p e s m below meth c ls A hX hK hP hD hS hA hl
  have hX : CX p s m [.ref a0, .int p1].toArray meth c cX8_rolls 6 (some .int) RX8 := hX
  have hx := hX.1; have hb := hX.2.1; have hts := hX.2.2.2.2.1; have hown := hX.2.2.2.2.2.1
  have hl : lv_has ls 6 [(0, .ref a0), (1, .int p1)] := hl
  have hP : wP E [(a0, .inr (5, [.ref a0_text, .int a0_letters, .ref a0_town, .ref a0_draft, .ref a0_tried, .ref a0_images, .ref a0_kept, .ref a0_refused, .long a0_above, .long a0_below, .ref a0_line, .ref a0_best, .int a0_at, .int a0_start, .int a0_isWell, .int a0_faultAt])), (a0_town, aI E 682 fa0_town), (a0_refused, aI E 3 fa0_refused)] s.heap := hP
  have hsp : (if (sp_X8_isPlot p1) = 0 then (lt_ (sp_X8_bad fa0_refused) fun z11 => some (z11.1, z11.2)) else (Option.bind (lp_X8_rolls_16 fa0_town FU (-1 : Int32) p1) fun z2 => some (z2.2, fa0_refused))) = some (z_0, z_1) := hsp
  refine lv_iload_n hx hb dX8_rolls_0 rfl (lv_at hl 1 rfl) (W.pc 1 rfl ?_)
  refine kSR (st1 := [.int (sp_X8_isPlot p1)]) hX (c_X8_isPlot l E p1 _ rfl) B_X8_isPlot w_4_142 hK (hP.pick [] rfl) rfl hl.1 rfl (Nat.le_of_ble_eq_true rfl) ⟨Nat.le_of_ble_eq_true rfl, Nat.le_of_ble_eq_true rfl⟩ dX8_rolls_1 rfl (W.pc 4 rfl ?_)
  refine lv_if_ne (tgt := 12) hx hb dX8_rolls_4 (by decide) (fun c1 => ?_) (fun c1 => W.pc 7 rfl ?_)
  · have hsp := iq hsp c1
    refine lv_iconst (v := (-1 : Int32)) hx hb dX8_rolls_12 (by decide) (W.pc 13 rfl ?_)
    refine lv_istore_n (lv' := [(2, .int (-1 : Int32)), (0, .ref a0), (1, .int p1)]) hx hb dX8_rolls_13 rfl hl (by decide) rfl (fun ls hl => W.pc 14 rfl ?_)
    refine lv_iload_n hx hb dX8_rolls_14 rfl (lv_at hl 2 rfl) (W.pc 15 rfl ?_)
    refine lv_istore_n (lv' := [(3, .int p1), (2, .int (-1 : Int32)), (0, .ref a0), (1, .int p1)]) hx hb dX8_rolls_15 rfl hl (by decide) rfl (fun ls hl => W.pc 16 rfl ?_)
    have L_16 : ∀ (z2 : Int32 × Int32), (∀ (H : Heap) (locs : List Loc) (ls : Array Slot), wP E [(a0, .inr (5, [.ref a0_text, .int a0_letters, .ref a0_town, .ref a0_draft, .ref a0_tried, .ref a0_images, .ref a0_kept, .ref a0_refused, .long a0_above, .long a0_below, .ref a0_line, .ref a0_best, .int a0_at, .int a0_start, .int a0_isWell, .int a0_faultAt])), (a0_town, aI E 682 fa0_town), (a0_refused, aI E 3 fa0_refused)] H → va_D A [(a0, .inr (5, [.ref a0_text, .int a0_letters, .ref a0_town, .ref a0_draft, .ref a0_tried, .ref a0_images, .ref a0_kept, .ref a0_refused, .long a0_above, .long a0_below, .ref a0_line, .ref a0_best, .int a0_at, .int a0_start, .int a0_isWell, .int a0_faultAt])), (a0_town, aI E 682 fa0_town), (a0_refused, aI E 3 fa0_refused)] → va_S A s.heap H locs → lv_has ls 6 [(3, .int z2.2)] → W p l e (wR 2) s m [.ref a0, .int p1].toArray below meth c H locs 0 0 (MQ below (QWd E A (some (.int z_0)) [(a0, .inr (5, [.ref a0_text, .int a0_letters, .ref a0_town, .ref a0_draft, .ref a0_tried, .ref a0_images, .ref a0_kept, .ref a0_refused, .long a0_above, .long a0_below, .ref a0_line, .ref a0_best, .int a0_at, .int a0_start, .int a0_isWell, .int a0_faultAt])), (a0_town, aI E 682 fa0_town), (a0_refused, aI E 3 z_1)]) [.ref a0, .int p1].toArray s 0 0 A) (F0 m 71 ls [])) → ∀ (fu : Nat) (x2_16 : Int32) (x3_16 : Int32), ∀ (H : Heap) (locs : List Loc) (ls : Array Slot), wP E [(a0, .inr (5, [.ref a0_text, .int a0_letters, .ref a0_town, .ref a0_draft, .ref a0_tried, .ref a0_images, .ref a0_kept, .ref a0_refused, .long a0_above, .long a0_below, .ref a0_line, .ref a0_best, .int a0_at, .int a0_start, .int a0_isWell, .int a0_faultAt])), (a0_town, aI E 682 fa0_town), (a0_refused, aI E 3 fa0_refused)] H → va_D A [(a0, .inr (5, [.ref a0_text, .int a0_letters, .ref a0_town, .ref a0_draft, .ref a0_tried, .ref a0_images, .ref a0_kept, .ref a0_refused, .long a0_above, .long a0_below, .ref a0_line, .ref a0_best, .int a0_at, .int a0_start, .int a0_isWell, .int a0_faultAt])), (a0_town, aI E 682 fa0_town), (a0_refused, aI E 3 fa0_refused)] → va_S A s.heap H locs → lv_has ls 6 [(0, .ref a0), (2, .int x2_16), (3, .int x3_16)] → lp_X8_rolls_16 fa0_town fu x2_16 x3_16 = some z2 → W p l e (wR 2) s m [.ref a0, .int p1].toArray below meth c H locs 0 0 (MQ below (QWd E A (some (.int z_0)) [(a0, .inr (5, [.ref a0_text, .int a0_letters, .ref a0_town, .ref a0_draft, .ref a0_tried, .ref a0_images, .ref a0_kept, .ref a0_refused, .long a0_above, .long a0_below, .ref a0_line, .ref a0_best, .int a0_at, .int a0_start, .int a0_isWell, .int a0_faultAt])), (a0_town, aI E 682 fa0_town), (a0_refused, aI E 3 z_1)]) [.ref a0, .int p1].toArray s 0 0 A) (F0 m 16 ls []) := by
      intro z2 hk_16 fu
      induction fu with
      | zero => intro x2_16 x3_16 H locs ls hP hD hS hl hsp; exact absurd (show none = some _ from hsp) (by simp)
      | succ fu ih_16 =>
        intro x2_16 x3_16 H locs ls hP hD hS hl hsp
        have hsp : (Option.bind (sp_X8_top x3_16 fa0_town) fun z3 => lt_ (if z3 ≤ 0 then (if 0 ≤ z3 then (x3_16) else ((x3_16 - (1 : Int32)))) else ((x3_16 + (1 : Int32)))) fun z4 => if z4 = x3_16 then (some (x2_16, x3_16)) else (if (sp_X8_isPlot z4) = 0 then (some (x2_16, x3_16)) else (if z4 = x2_16 then (some (x2_16, x3_16)) else (lp_X8_rolls_16 fa0_town fu x3_16 z4)))) = some z2 := hsp
        refine lv_aload_n hx hb dX8_rolls_16 rfl (lv_at hl 0 rfl) (W.pc 17 rfl ?_)
        refine va_get (D := E.1) (ci := 5) (v := .ref a0_town) (C := RX8) (T := TX8) (N := 16) hx hb hts inT_X8 hown hK hP 0 rfl rfl 2 (by decide) (hts _ w_4_70) (fun _ h9 => h9) rfl dX8_rolls_17 (W.pc 20 rfl ?_)
        refine lv_iload_n hx hb dX8_rolls_20 rfl (lv_at hl 2 rfl) (W.pc 21 rfl ?_)
        obtain ⟨z3, hr_z3, hsp⟩ := bd_s hsp
        refine kSR (st1 := [.int z3]) hX (c_X8_top l E a0_town x3_16 fa0_town z3 hr_z3) B_X8_top w_5_50 hK (hP.pick [1] rfl) rfl hl.1 rfl (Nat.le_of_ble_eq_true rfl) ⟨Nat.le_of_ble_eq_true rfl, Nat.le_of_ble_eq_true rfl⟩ dX8_rolls_21 rfl (W.pc 24 rfl ?_)
        refine lv_istore (lv' := [(4, .int z3), (0, .ref a0), (2, .int x2_16), (3, .int x3_16)]) hx hb dX8_rolls_24 hl (by decide) rfl (fun ls hl => W.pc 26 rfl ?_)
        refine lv_iload hx hb dX8_rolls_26 (lv_at hl 0 rfl) (W.pc 28 rfl ?_)
        obtain ⟨z4, hr_z4, hsp⟩ := ltb_s hsp
        have J5 : ∀ (H : Heap) (locs : List Loc) (ls : Array Slot), wP E [(a0, .inr (5, [.ref a0_text, .int a0_letters, .ref a0_town, .ref a0_draft, .ref a0_tried, .ref a0_images, .ref a0_kept, .ref a0_refused, .long a0_above, .long a0_below, .ref a0_line, .ref a0_best, .int a0_at, .int a0_start, .int a0_isWell, .int a0_faultAt])), (a0_town, aI E 682 fa0_town), (a0_refused, aI E 3 fa0_refused)] H → va_D A [(a0, .inr (5, [.ref a0_text, .int a0_letters, .ref a0_town, .ref a0_draft, .ref a0_tried, .ref a0_images, .ref a0_kept, .ref a0_refused, .long a0_above, .long a0_below, .ref a0_line, .ref a0_best, .int a0_at, .int a0_start, .int a0_isWell, .int a0_faultAt])), (a0_town, aI E 682 fa0_town), (a0_refused, aI E 3 fa0_refused)] → va_S A s.heap H locs → lv_has ls 6 [(0, .ref a0), (2, .int x2_16), (3, .int x3_16)] → W p l e (wR 2) s m [.ref a0, .int p1].toArray below meth c H locs 0 0 (MQ below (QWd E A (some (.int z_0)) [(a0, .inr (5, [.ref a0_text, .int a0_letters, .ref a0_town, .ref a0_draft, .ref a0_tried, .ref a0_images, .ref a0_kept, .ref a0_refused, .long a0_above, .long a0_below, .ref a0_line, .ref a0_best, .int a0_at, .int a0_start, .int a0_isWell, .int a0_faultAt])), (a0_town, aI E 682 fa0_town), (a0_refused, aI E 3 z_1)]) [.ref a0, .int p1].toArray s 0 0 A) (F0 m 49 ls [.int z4]) := by
          intro H locs ls hP hD hS hl
          refine lv_istore (lv' := [(5, .int z4), (0, .ref a0), (2, .int x2_16), (3, .int x3_16)]) hx hb dX8_rolls_49 hl (by decide) rfl (fun ls hl => W.pc 51 rfl ?_)
          refine lv_iload hx hb dX8_rolls_51 (lv_at hl 0 rfl) (W.pc 53 rfl ?_)
          refine lv_iload_n hx hb dX8_rolls_53 rfl (lv_at hl 3 rfl) (W.pc 54 rfl ?_)
          refine lv_icmp_eq (tgt := 71) hx hb dX8_rolls_54 (by decide) (fun c8 => ?_) (fun c8 => W.pc 57 rfl ?_)
          · have hsp := ip hsp c8
            obtain rfl := Option.some.inj hsp
            exact hk_16 _ _ _ hP hD hS (lv_sub hl [3] rfl)
          · have hsp := iq hsp c8
            refine lv_iload hx hb dX8_rolls_57 (lv_at hl 0 rfl) (W.pc 59 rfl ?_)
            refine kSR (st1 := [.int (sp_X8_isPlot z4)]) hX (c_X8_isPlot l E z4 _ rfl) B_X8_isPlot w_4_142 hK (hP.pick [] rfl) rfl hl.1 rfl (Nat.le_of_ble_eq_true rfl) ⟨Nat.le_of_ble_eq_true rfl, Nat.le_of_ble_eq_true rfl⟩ dX8_rolls_59 rfl (W.pc 62 rfl ?_)
            refine lv_if_eq (tgt := 71) hx hb dX8_rolls_62 (by decide) (fun c9 => ?_) (fun c9 => W.pc 65 rfl ?_)
            · have hsp := ip hsp c9
              obtain rfl := Option.some.inj hsp
              exact hk_16 _ _ _ hP hD hS (lv_sub hl [3] rfl)
            · have hsp := iq hsp c9
              refine lv_iload hx hb dX8_rolls_65 (lv_at hl 0 rfl) (W.pc 67 rfl ?_)
              refine lv_iload_n hx hb dX8_rolls_67 rfl (lv_at hl 2 rfl) (W.pc 68 rfl ?_)
              refine lv_icmp_ne (tgt := 73) hx hb dX8_rolls_68 (by decide) (fun c10 => ?_) (fun c10 => W.pc 71 rfl ?_)
              · have hsp := iq hsp c10
                refine lv_iload_n hx hb dX8_rolls_73 rfl (lv_at hl 3 rfl) (W.pc 74 rfl ?_)
                refine lv_istore_n (lv' := [(2, .int x3_16), (5, .int z4), (0, .ref a0), (3, .int x3_16)]) hx hb dX8_rolls_74 rfl hl (by decide) rfl (fun ls hl => W.pc 75 rfl ?_)
                refine lv_iload hx hb dX8_rolls_75 (lv_at hl 1 rfl) (W.pc 77 rfl ?_)
                refine lv_istore_n (lv' := [(3, .int z4), (2, .int x3_16), (5, .int z4), (0, .ref a0)]) hx hb dX8_rolls_77 rfl hl (by decide) rfl (fun ls hl => W.pc 78 rfl ?_)
                refine lv_goto (tgt := 16) hx hb dX8_rolls_78 (by decide) ?_
                exact ih_16 x3_16 z4 _ _ _ hP hD hS (lv_sub hl [3, 1, 0] rfl) hsp
              · have hsp := ip hsp c10
                obtain rfl := Option.some.inj hsp
                exact hk_16 _ _ _ hP hD hS (lv_sub hl [3] rfl)
        replace hsp := hr_z4
        refine lv_if_le (tgt := 37) hx hb dX8_rolls_28 (by decide) (fun c6 => ?_) (fun c6 => W.pc 31 rfl ?_)
        · have hsp := ip hsp c6
          refine lv_iload hx hb dX8_rolls_37 (lv_at hl 0 rfl) (W.pc 39 rfl ?_)
          refine lv_if_ge (tgt := 48) hx hb dX8_rolls_39 (by decide) (fun c7 => ?_) (fun c7 => W.pc 42 rfl ?_)
          · have hsp := ip hsp c7
            refine lv_iload_n hx hb dX8_rolls_48 rfl (lv_at hl 3 rfl) (W.pc 49 rfl ?_)
            subst hsp
            exact J5 _ _ _ hP hD hS (lv_sub hl [1, 2, 3] rfl)
          · have hsp := iq hsp c7
            refine lv_iload_n hx hb dX8_rolls_42 rfl (lv_at hl 3 rfl) (W.pc 43 rfl ?_)
            refine lv_iconst (v := (1 : Int32)) hx hb dX8_rolls_43 (by decide) (W.pc 44 rfl ?_)
            refine lv_isub hx hb dX8_rolls_44 (W.pc 45 rfl ?_)
            refine lv_goto (tgt := 49) hx hb dX8_rolls_45 (by decide) ?_
            subst hsp
            exact J5 _ _ _ hP hD hS (lv_sub hl [1, 2, 3] rfl)
        · have hsp := iq hsp c6
          refine lv_iload_n hx hb dX8_rolls_31 rfl (lv_at hl 3 rfl) (W.pc 32 rfl ?_)
          refine lv_iconst (v := (1 : Int32)) hx hb dX8_rolls_32 (by decide) (W.pc 33 rfl ?_)
          refine lv_iadd hx hb dX8_rolls_33 (W.pc 34 rfl ?_)
          refine lv_goto (tgt := 49) hx hb dX8_rolls_34 (by decide) ?_
          subst hsp
          exact J5 _ _ _ hP hD hS (lv_sub hl [1, 2, 3] rfl)
    obtain ⟨z2, hr_z2, hsp⟩ := bd_s hsp
    refine L_16 z2 (fun H locs ls hP hD hS hl => ?_) FU (-1 : Int32) p1 _ _ _ hP hD hS (lv_sub hl [2, 1, 0] rfl) hr_z2
    refine lv_iload_n hx hb dX8_rolls_71 rfl (lv_at hl 0 rfl) (W.pc 72 rfl ?_)
    cases hsp
    exact rWi hX hP hS rfl rfl dX8_rolls_72
  · have hsp := ip hsp c1
    refine lv_aload_n hx hb dX8_rolls_7 rfl (lv_at hl 0 rfl) (W.pc 8 rfl ?_)
    obtain ⟨z11, hr_z11, hsp⟩ := ltb_s hsp
    refine kVW (st1 := [.int z11.1]) (ws' := [(a0, .inr (5, [.ref a0_text, .int a0_letters, .ref a0_town, .ref a0_draft, .ref a0_tried, .ref a0_images, .ref a0_kept, .ref a0_refused, .long a0_above, .long a0_below, .ref a0_line, .ref a0_best, .int a0_at, .int a0_start, .int a0_isWell, .int a0_faultAt])), (a0_town, aI E 682 fa0_town), (a0_refused, aI E 3 z11.2)]) [0, 2] hX (c_X8_bad l E a0 a0_text a0_town a0_draft a0_tried a0_images a0_kept a0_refused a0_line a0_best a0_letters a0_above a0_below a0_at a0_start a0_isWell a0_faultAt fa0_refused z11.1 z11.2 hr_z11) B_X8_bad w_4_128 hK hP hD hS hA (by decide) rfl rfl rfl (q0 := 0) (ci := 5) rfl rfl rfl rfl hl.1 rfl (Nat.le_of_ble_eq_true rfl) ⟨Nat.le_of_ble_eq_true rfl, Nat.le_of_ble_eq_true rfl⟩ dX8_rolls_8 rfl (fun H locs hP hD hS => W.pc 11 rfl ?_)
    cases hsp
    exact rWi hX hP hS rfl rfl dX8_rolls_11
noncomputable def sp_X8_isStep (p1 : Int32) (fa0_town : Nat → Int32) : Option (Int32) := Option.bind (sp_X8_top p1 fa0_town) fun z1 => Option.bind (sp_X8_top (p1 + (1 : Int32)) fa0_town) fun z2 => if (sp_X8_size (z1 - z2)) ≤ (2 : Int32) then (some (0 : Int32)) else (some (1 : Int32))
set_option maxHeartbeats 4000000 in
set_option maxRecDepth 100000 in
theorem c_X8_isStep (l : Launch) (E : wE) (a0 a0_text a0_town a0_draft a0_tried a0_images a0_kept a0_refused a0_line a0_best : Nat) (p1 : Int32) (a0_letters : Int32) (a0_above : Int64) (a0_below : Int64) (a0_at : Int32) (a0_start : Int32) (a0_isWell : Int32) (a0_faultAt : Int32) (fa0_town : Nat → Int32) (z : Int32) (hsp : sp_X8_isStep p1 fa0_town = some z) : MR l yX8_isStep cX8_isStep 2 (some .boolean) 2 E [.ref a0, .int p1] [(a0, .inr (5, [.ref a0_text, .int a0_letters, .ref a0_town, .ref a0_draft, .ref a0_tried, .ref a0_images, .ref a0_kept, .ref a0_refused, .long a0_above, .long a0_below, .ref a0_line, .ref a0_best, .int a0_at, .int a0_start, .int a0_isWell, .int a0_faultAt])), (a0_town, aI E 682 fa0_town)] (some (.int z)) := by
  refine MR.of (by decide +kernel) (Nat.le_of_ble_eq_true rfl) ?_
  intro p e s m below meth c ls hX hK hP hl
  have hX : CX p s m [.ref a0, .int p1].toArray meth c cX8_isStep 2 (some .boolean) RX8 := hX
  have hx := hX.1; have hb := hX.2.1; have hts := hX.2.2.2.2.1; have hown := hX.2.2.2.2.2.1
  have hl : lv_has ls 2 [(0, .ref a0), (1, .int p1)] := hl
  have hsp : (Option.bind (sp_X8_top p1 fa0_town) fun z1 => Option.bind (sp_X8_top (p1 + (1 : Int32)) fa0_town) fun z2 => if (sp_X8_size (z1 - z2)) ≤ (2 : Int32) then (some (0 : Int32)) else (some (1 : Int32))) = some z := hsp
  refine lv_aload_n hx hb dX8_isStep_0 rfl (lv_at hl 0 rfl) (W.pc 1 rfl ?_)
  refine va_get (D := E.1) (ci := 5) (v := .ref a0_town) (C := RX8) (T := TX8) (N := 16) hx hb hts inT_X8 hown hK hP 0 rfl rfl 2 (by decide) (hts _ w_4_70) (fun _ h9 => h9) rfl dX8_isStep_1 (W.pc 4 rfl ?_)
  refine lv_iload_n hx hb dX8_isStep_4 rfl (lv_at hl 1 rfl) (W.pc 5 rfl ?_)
  obtain ⟨z1, hr_z1, hsp⟩ := bd_s hsp
  refine kSR (st1 := [.int z1]) hX (c_X8_top l E a0_town p1 fa0_town z1 hr_z1) B_X8_top w_5_50 hK (hP.pick [1] rfl) rfl hl.1 rfl (Nat.le_of_ble_eq_true rfl) ⟨Nat.le_of_ble_eq_true rfl, Nat.le_of_ble_eq_true rfl⟩ dX8_isStep_5 rfl (W.pc 8 rfl ?_)
  refine lv_aload_n hx hb dX8_isStep_8 rfl (lv_at hl 0 rfl) (W.pc 9 rfl ?_)
  refine va_get (D := E.1) (ci := 5) (v := .ref a0_town) (C := RX8) (T := TX8) (N := 16) hx hb hts inT_X8 hown hK hP 0 rfl rfl 2 (by decide) (hts _ w_4_70) (fun _ h9 => h9) rfl dX8_isStep_9 (W.pc 12 rfl ?_)
  refine lv_iload_n hx hb dX8_isStep_12 rfl (lv_at hl 1 rfl) (W.pc 13 rfl ?_)
  refine lv_iconst (v := (1 : Int32)) hx hb dX8_isStep_13 (by decide) (W.pc 14 rfl ?_)
  refine lv_iadd hx hb dX8_isStep_14 (W.pc 15 rfl ?_)
  obtain ⟨z2, hr_z2, hsp⟩ := bd_s hsp
  refine kSR (st1 := [.int z2, .int z1]) hX (c_X8_top l E a0_town (p1 + (1 : Int32)) fa0_town z2 hr_z2) B_X8_top w_5_50 hK (hP.pick [1] rfl) rfl hl.1 rfl (Nat.le_of_ble_eq_true rfl) ⟨Nat.le_of_ble_eq_true rfl, Nat.le_of_ble_eq_true rfl⟩ dX8_isStep_15 rfl (W.pc 18 rfl ?_)
  refine lv_isub hx hb dX8_isStep_18 (W.pc 19 rfl ?_)
  refine kSR (st1 := [.int (sp_X8_size (z1 - z2))]) hX (c_X8_size l E (z1 - z2) _ rfl) B_X8_size w_5_12 hK (hP.pick [] rfl) rfl hl.1 rfl (Nat.le_of_ble_eq_true rfl) ⟨Nat.le_of_ble_eq_true rfl, Nat.le_of_ble_eq_true rfl⟩ dX8_isStep_19 rfl (W.pc 22 rfl ?_)
  refine lv_iconst (v := (2 : Int32)) hx hb dX8_isStep_22 (by decide) (W.pc 23 rfl ?_)
  refine lv_icmp_le (tgt := 30) hx hb dX8_isStep_23 (by decide) (fun c3 => ?_) (fun c3 => W.pc 26 rfl ?_)
  · have hsp := ip hsp c3
    refine lv_iconst (v := (0 : Int32)) hx hb dX8_isStep_30 (by decide) (W.pc 31 rfl ?_)
    obtain rfl := Option.some.inj hsp
    exact rRz hX rfl rfl dX8_isStep_31
  · have hsp := iq hsp c3
    refine lv_iconst (v := (1 : Int32)) hx hb dX8_isStep_26 (by decide) (W.pc 27 rfl ?_)
    refine lv_goto (tgt := 31) hx hb dX8_isStep_27 (by decide) ?_
    obtain rfl := Option.some.inj hsp
    exact rRz hX rfl rfl dX8_isStep_31
noncomputable def lp_X8_lies_18 (p1 : Int32) (fa0_town : Nat → Int32) : Nat → Int32 → Int32 → Option (Int32 × Int32)
 | 0, _, _ => none
 | fu + 1, x2_18, x3_18 => if ((6 : Int32) - p1) ≤ x3_18 then (some (x2_18, x3_18)) else (Option.bind (if p1 = 0 then (Option.bind (sp_X8_top x3_18 fa0_town) fun z8 => if z8 = 0 then (some (1 : Int32)) else (some (0 : Int32))) else (Option.bind (sp_X8_isStep x3_18 fa0_town) fun z7 => some z7)) fun z4 => lt_ (if z4 = 0 then ((0 : Int32)) else (((1 : Int32) <<< (x3_18 &&& 31)))) fun z10 => lp_X8_lies_18 p1 fa0_town fu (x2_18 ||| z10) (x3_18 + (1 : Int32)))
noncomputable def sp_X8_lies (p1 : Int32) (fa0_town : Nat → Int32) (fa0_refused : Nat → Int32) : Option (Int32 × (Nat → Int32)) := if (sp_X8_in p1 (0 : Int32) (1 : Int32)) = 0 then (lt_ (sp_X8_bad fa0_refused) fun z13 => some (z13.1, z13.2)) else (Option.bind (lp_X8_lies_18 p1 fa0_town FU (0 : Int32) (0 : Int32)) fun z2 => some (z2.1, fa0_refused))
set_option maxHeartbeats 4000000 in
set_option maxRecDepth 100000 in
theorem c_X8_lies (l : Launch) (E : wE) (a0 a0_text a0_town a0_draft a0_tried a0_images a0_kept a0_refused a0_line a0_best : Nat) (p1 : Int32) (a0_letters : Int32) (a0_above : Int64) (a0_below : Int64) (a0_at : Int32) (a0_start : Int32) (a0_isWell : Int32) (a0_faultAt : Int32) (fa0_town : Nat → Int32) (fa0_refused : Nat → Int32) (z_0 : Int32) (z_1 : (Nat → Int32)) (hsp : sp_X8_lies p1 fa0_town fa0_refused = some (z_0, z_1)) : MW l yX8_lies cX8_lies 5 (some .int) 3 E [.ref a0, .int p1] [(a0, .inr (5, [.ref a0_text, .int a0_letters, .ref a0_town, .ref a0_draft, .ref a0_tried, .ref a0_images, .ref a0_kept, .ref a0_refused, .long a0_above, .long a0_below, .ref a0_line, .ref a0_best, .int a0_at, .int a0_start, .int a0_isWell, .int a0_faultAt])), (a0_town, aI E 682 fa0_town), (a0_refused, aI E 3 fa0_refused)] (some (.int z_0)) [(a0, .inr (5, [.ref a0_text, .int a0_letters, .ref a0_town, .ref a0_draft, .ref a0_tried, .ref a0_images, .ref a0_kept, .ref a0_refused, .long a0_above, .long a0_below, .ref a0_line, .ref a0_best, .int a0_at, .int a0_start, .int a0_isWell, .int a0_faultAt])), (a0_town, aI E 682 fa0_town), (a0_refused, aI E 3 z_1)] := by
  refine MW.of (by decide +kernel) (Nat.le_of_ble_eq_true rfl) ?_
  intro p e s m below meth c ls A hX hK hP hD hS hA hl
  have hX : CX p s m [.ref a0, .int p1].toArray meth c cX8_lies 5 (some .int) RX8 := hX
  have hx := hX.1; have hb := hX.2.1; have hts := hX.2.2.2.2.1; have hown := hX.2.2.2.2.2.1
  have hl : lv_has ls 5 [(0, .ref a0), (1, .int p1)] := hl
  have hP : wP E [(a0, .inr (5, [.ref a0_text, .int a0_letters, .ref a0_town, .ref a0_draft, .ref a0_tried, .ref a0_images, .ref a0_kept, .ref a0_refused, .long a0_above, .long a0_below, .ref a0_line, .ref a0_best, .int a0_at, .int a0_start, .int a0_isWell, .int a0_faultAt])), (a0_town, aI E 682 fa0_town), (a0_refused, aI E 3 fa0_refused)] s.heap := hP
  have hsp : (if (sp_X8_in p1 (0 : Int32) (1 : Int32)) = 0 then (lt_ (sp_X8_bad fa0_refused) fun z13 => some (z13.1, z13.2)) else (Option.bind (lp_X8_lies_18 p1 fa0_town FU (0 : Int32) (0 : Int32)) fun z2 => some (z2.1, fa0_refused))) = some (z_0, z_1) := hsp
  refine lv_iload_n hx hb dX8_lies_0 rfl (lv_at hl 1 rfl) (W.pc 1 rfl ?_)
  refine lv_iconst (v := (0 : Int32)) hx hb dX8_lies_1 (by decide) (W.pc 2 rfl ?_)
  refine lv_iconst (v := (1 : Int32)) hx hb dX8_lies_2 (by decide) (W.pc 3 rfl ?_)
  refine kSR (st1 := [.int (sp_X8_in p1 (0 : Int32) (1 : Int32))]) hX (c_X8_in l E p1 (0 : Int32) (1 : Int32) _ rfl) B_X8_in w_4_125 hK (hP.pick [] rfl) rfl hl.1 rfl (Nat.le_of_ble_eq_true rfl) ⟨Nat.le_of_ble_eq_true rfl, Nat.le_of_ble_eq_true rfl⟩ dX8_lies_3 rfl (W.pc 6 rfl ?_)
  refine lv_if_ne (tgt := 14) hx hb dX8_lies_6 (by decide) (fun c1 => ?_) (fun c1 => W.pc 9 rfl ?_)
  · have hsp := iq hsp c1
    refine lv_iconst (v := (0 : Int32)) hx hb dX8_lies_14 (by decide) (W.pc 15 rfl ?_)
    refine lv_istore_n (lv' := [(2, .int (0 : Int32)), (0, .ref a0), (1, .int p1)]) hx hb dX8_lies_15 rfl hl (by decide) rfl (fun ls hl => W.pc 16 rfl ?_)
    refine lv_iconst (v := (0 : Int32)) hx hb dX8_lies_16 (by decide) (W.pc 17 rfl ?_)
    refine lv_istore_n (lv' := [(3, .int (0 : Int32)), (2, .int (0 : Int32)), (0, .ref a0), (1, .int p1)]) hx hb dX8_lies_17 rfl hl (by decide) rfl (fun ls hl => W.pc 18 rfl ?_)
    have L_18 : ∀ (z2 : Int32 × Int32), (∀ (H : Heap) (locs : List Loc) (ls : Array Slot), wP E [(a0, .inr (5, [.ref a0_text, .int a0_letters, .ref a0_town, .ref a0_draft, .ref a0_tried, .ref a0_images, .ref a0_kept, .ref a0_refused, .long a0_above, .long a0_below, .ref a0_line, .ref a0_best, .int a0_at, .int a0_start, .int a0_isWell, .int a0_faultAt])), (a0_town, aI E 682 fa0_town), (a0_refused, aI E 3 fa0_refused)] H → va_D A [(a0, .inr (5, [.ref a0_text, .int a0_letters, .ref a0_town, .ref a0_draft, .ref a0_tried, .ref a0_images, .ref a0_kept, .ref a0_refused, .long a0_above, .long a0_below, .ref a0_line, .ref a0_best, .int a0_at, .int a0_start, .int a0_isWell, .int a0_faultAt])), (a0_town, aI E 682 fa0_town), (a0_refused, aI E 3 fa0_refused)] → va_S A s.heap H locs → lv_has ls 5 [(2, .int z2.1)] → W p l e (wR 3) s m [.ref a0, .int p1].toArray below meth c H locs 0 0 (MQ below (QWd E A (some (.int z_0)) [(a0, .inr (5, [.ref a0_text, .int a0_letters, .ref a0_town, .ref a0_draft, .ref a0_tried, .ref a0_images, .ref a0_kept, .ref a0_refused, .long a0_above, .long a0_below, .ref a0_line, .ref a0_best, .int a0_at, .int a0_start, .int a0_isWell, .int a0_faultAt])), (a0_town, aI E 682 fa0_town), (a0_refused, aI E 3 z_1)]) [.ref a0, .int p1].toArray s 0 0 A) (F0 m 77 ls [])) → ∀ (fu : Nat) (x2_18 : Int32) (x3_18 : Int32), ∀ (H : Heap) (locs : List Loc) (ls : Array Slot), wP E [(a0, .inr (5, [.ref a0_text, .int a0_letters, .ref a0_town, .ref a0_draft, .ref a0_tried, .ref a0_images, .ref a0_kept, .ref a0_refused, .long a0_above, .long a0_below, .ref a0_line, .ref a0_best, .int a0_at, .int a0_start, .int a0_isWell, .int a0_faultAt])), (a0_town, aI E 682 fa0_town), (a0_refused, aI E 3 fa0_refused)] H → va_D A [(a0, .inr (5, [.ref a0_text, .int a0_letters, .ref a0_town, .ref a0_draft, .ref a0_tried, .ref a0_images, .ref a0_kept, .ref a0_refused, .long a0_above, .long a0_below, .ref a0_line, .ref a0_best, .int a0_at, .int a0_start, .int a0_isWell, .int a0_faultAt])), (a0_town, aI E 682 fa0_town), (a0_refused, aI E 3 fa0_refused)] → va_S A s.heap H locs → lv_has ls 5 [(0, .ref a0), (1, .int p1), (2, .int x2_18), (3, .int x3_18)] → lp_X8_lies_18 p1 fa0_town fu x2_18 x3_18 = some z2 → W p l e (wR 3) s m [.ref a0, .int p1].toArray below meth c H locs 0 0 (MQ below (QWd E A (some (.int z_0)) [(a0, .inr (5, [.ref a0_text, .int a0_letters, .ref a0_town, .ref a0_draft, .ref a0_tried, .ref a0_images, .ref a0_kept, .ref a0_refused, .long a0_above, .long a0_below, .ref a0_line, .ref a0_best, .int a0_at, .int a0_start, .int a0_isWell, .int a0_faultAt])), (a0_town, aI E 682 fa0_town), (a0_refused, aI E 3 z_1)]) [.ref a0, .int p1].toArray s 0 0 A) (F0 m 18 ls []) := by
      intro z2 hk_18 fu
      induction fu with
      | zero => intro x2_18 x3_18 H locs ls hP hD hS hl hsp; exact absurd (show none = some _ from hsp) (by simp)
      | succ fu ih_18 =>
        intro x2_18 x3_18 H locs ls hP hD hS hl hsp
        have hsp : (if ((6 : Int32) - p1) ≤ x3_18 then (some (x2_18, x3_18)) else (Option.bind (if p1 = 0 then (Option.bind (sp_X8_top x3_18 fa0_town) fun z8 => if z8 = 0 then (some (1 : Int32)) else (some (0 : Int32))) else (Option.bind (sp_X8_isStep x3_18 fa0_town) fun z7 => some z7)) fun z4 => lt_ (if z4 = 0 then ((0 : Int32)) else (((1 : Int32) <<< (x3_18 &&& 31)))) fun z10 => lp_X8_lies_18 p1 fa0_town fu (x2_18 ||| z10) (x3_18 + (1 : Int32)))) = some z2 := hsp
        refine lv_iload_n hx hb dX8_lies_18 rfl (lv_at hl 3 rfl) (W.pc 19 rfl ?_)
        refine lv_bipush (v := (6 : Int32)) hx hb dX8_lies_19 (by decide) (W.pc 21 rfl ?_)
        refine lv_iload_n hx hb dX8_lies_21 rfl (lv_at hl 1 rfl) (W.pc 22 rfl ?_)
        refine lv_isub hx hb dX8_lies_22 (W.pc 23 rfl ?_)
        refine lv_icmp_ge (tgt := 77) hx hb dX8_lies_23 (by decide) (fun c3 => ?_) (fun c3 => W.pc 26 rfl ?_)
        · have hsp := ip hsp c3
          obtain rfl := Option.some.inj hsp
          exact hk_18 _ _ _ hP hD hS (lv_sub hl [2] rfl)
        · have hsp := iq hsp c3
          refine lv_iload_n hx hb dX8_lies_26 rfl (lv_at hl 1 rfl) (W.pc 27 rfl ?_)
          obtain ⟨z4, hr_z4, hsp⟩ := bd_s hsp
          have J5 : ∀ (H : Heap) (locs : List Loc) (ls : Array Slot), wP E [(a0, .inr (5, [.ref a0_text, .int a0_letters, .ref a0_town, .ref a0_draft, .ref a0_tried, .ref a0_images, .ref a0_kept, .ref a0_refused, .long a0_above, .long a0_below, .ref a0_line, .ref a0_best, .int a0_at, .int a0_start, .int a0_isWell, .int a0_faultAt])), (a0_town, aI E 682 fa0_town), (a0_refused, aI E 3 fa0_refused)] H → va_D A [(a0, .inr (5, [.ref a0_text, .int a0_letters, .ref a0_town, .ref a0_draft, .ref a0_tried, .ref a0_images, .ref a0_kept, .ref a0_refused, .long a0_above, .long a0_below, .ref a0_line, .ref a0_best, .int a0_at, .int a0_start, .int a0_isWell, .int a0_faultAt])), (a0_town, aI E 682 fa0_town), (a0_refused, aI E 3 fa0_refused)] → va_S A s.heap H locs → lv_has ls 5 [(0, .ref a0), (1, .int p1), (2, .int x2_18), (3, .int x3_18)] → W p l e (wR 3) s m [.ref a0, .int p1].toArray below meth c H locs 0 0 (MQ below (QWd E A (some (.int z_0)) [(a0, .inr (5, [.ref a0_text, .int a0_letters, .ref a0_town, .ref a0_draft, .ref a0_tried, .ref a0_images, .ref a0_kept, .ref a0_refused, .long a0_above, .long a0_below, .ref a0_line, .ref a0_best, .int a0_at, .int a0_start, .int a0_isWell, .int a0_faultAt])), (a0_town, aI E 682 fa0_town), (a0_refused, aI E 3 z_1)]) [.ref a0, .int p1].toArray s 0 0 A) (F0 m 54 ls [.int z4]) := by
            intro H locs ls hP hD hS hl
            refine lv_istore (lv' := [(4, .int z4), (0, .ref a0), (1, .int p1), (2, .int x2_18), (3, .int x3_18)]) hx hb dX8_lies_54 hl (by decide) rfl (fun ls hl => W.pc 56 rfl ?_)
            refine lv_iload_n hx hb dX8_lies_56 rfl (lv_at hl 3 rfl) (W.pc 57 rfl ?_)
            refine lv_iload hx hb dX8_lies_57 (lv_at hl 0 rfl) (W.pc 59 rfl ?_)
            obtain ⟨z10, hr_z10, hsp⟩ := ltb_s hsp
            have J11 : ∀ (H : Heap) (locs : List Loc) (ls : Array Slot), wP E [(a0, .inr (5, [.ref a0_text, .int a0_letters, .ref a0_town, .ref a0_draft, .ref a0_tried, .ref a0_images, .ref a0_kept, .ref a0_refused, .long a0_above, .long a0_below, .ref a0_line, .ref a0_best, .int a0_at, .int a0_start, .int a0_isWell, .int a0_faultAt])), (a0_town, aI E 682 fa0_town), (a0_refused, aI E 3 fa0_refused)] H → va_D A [(a0, .inr (5, [.ref a0_text, .int a0_letters, .ref a0_town, .ref a0_draft, .ref a0_tried, .ref a0_images, .ref a0_kept, .ref a0_refused, .long a0_above, .long a0_below, .ref a0_line, .ref a0_best, .int a0_at, .int a0_start, .int a0_isWell, .int a0_faultAt])), (a0_town, aI E 682 fa0_town), (a0_refused, aI E 3 fa0_refused)] → va_S A s.heap H locs → lv_has ls 5 [(0, .ref a0), (1, .int p1), (3, .int x3_18)] → W p l e (wR 3) s m [.ref a0, .int p1].toArray below meth c H locs 0 0 (MQ below (QWd E A (some (.int z_0)) [(a0, .inr (5, [.ref a0_text, .int a0_letters, .ref a0_town, .ref a0_draft, .ref a0_tried, .ref a0_images, .ref a0_kept, .ref a0_refused, .long a0_above, .long a0_below, .ref a0_line, .ref a0_best, .int a0_at, .int a0_start, .int a0_isWell, .int a0_faultAt])), (a0_town, aI E 682 fa0_town), (a0_refused, aI E 3 z_1)]) [.ref a0, .int p1].toArray s 0 0 A) (F0 m 69 ls [.int z10, .int x2_18]) := by
              intro H locs ls hP hD hS hl
              refine lv_ior hx hb dX8_lies_69 (W.pc 70 rfl ?_)
              refine lv_istore_n (lv' := [(2, .int (x2_18 ||| z10)), (0, .ref a0), (1, .int p1), (3, .int x3_18)]) hx hb dX8_lies_70 rfl hl (by decide) rfl (fun ls hl => W.pc 71 rfl ?_)
              refine lv_iinc (v := (x3_18 + (1 : Int32))) (lv' := [(3, .int (x3_18 + (1 : Int32))), (2, .int (x2_18 ||| z10)), (0, .ref a0), (1, .int p1)]) hx hb dX8_lies_71 hl (k := 3) rfl rfl (by decide) rfl (fun ls hl => W.pc 74 rfl ?_)
              refine lv_goto (tgt := 18) hx hb dX8_lies_74 (by decide) ?_
              exact ih_18 (x2_18 ||| z10) (x3_18 + (1 : Int32)) _ _ _ hP hD hS (lv_sub hl [2, 3, 1, 0] rfl) hsp
            replace hsp := hr_z10
            refine lv_if_eq (tgt := 68) hx hb dX8_lies_59 (by decide) (fun c12 => ?_) (fun c12 => W.pc 62 rfl ?_)
            · have hsp := ip hsp c12
              refine lv_iconst (v := (0 : Int32)) hx hb dX8_lies_68 (by decide) (W.pc 69 rfl ?_)
              subst hsp
              exact J11 _ _ _ hP hD hS (lv_sub hl [1, 2, 4] rfl)
            · have hsp := iq hsp c12
              refine lv_iconst (v := (1 : Int32)) hx hb dX8_lies_62 (by decide) (W.pc 63 rfl ?_)
              refine lv_iload_n hx hb dX8_lies_63 rfl (lv_at hl 4 rfl) (W.pc 64 rfl ?_)
              refine lv_ishl hx hb dX8_lies_64 (W.pc 65 rfl ?_)
              refine lv_goto (tgt := 69) hx hb dX8_lies_65 (by decide) ?_
              subst hsp
              exact J11 _ _ _ hP hD hS (lv_sub hl [1, 2, 4] rfl)
          replace hsp := hr_z4
          refine lv_if_ne (tgt := 49) hx hb dX8_lies_27 (by decide) (fun c6 => ?_) (fun c6 => W.pc 30 rfl ?_)
          · have hsp := iq hsp c6
            refine lv_aload_n hx hb dX8_lies_49 rfl (lv_at hl 0 rfl) (W.pc 50 rfl ?_)
            refine lv_iload_n hx hb dX8_lies_50 rfl (lv_at hl 3 rfl) (W.pc 51 rfl ?_)
            obtain ⟨z7, hr_z7, hsp⟩ := bd_s hsp
            refine kVR (st1 := [.int z7]) hX (c_X8_isStep l E a0 a0_text a0_town a0_draft a0_tried a0_images a0_kept a0_refused a0_line a0_best x3_18 a0_letters a0_above a0_below a0_at a0_start a0_isWell a0_faultAt fa0_town z7 hr_z7) B_X8_isStep w_5_77 hK (hP.pick [0, 1] rfl) (q0 := 0) (ci := 5) rfl rfl rfl rfl hl.1 rfl (Nat.le_of_ble_eq_true rfl) ⟨Nat.le_of_ble_eq_true rfl, Nat.le_of_ble_eq_true rfl⟩ dX8_lies_51 rfl (W.pc 54 rfl ?_)
            obtain rfl := Option.some.inj hsp
            exact J5 _ _ _ hP hD hS (lv_sub hl [0, 1, 2, 3] rfl)
          · have hsp := ip hsp c6
            refine lv_aload_n hx hb dX8_lies_30 rfl (lv_at hl 0 rfl) (W.pc 31 rfl ?_)
            refine va_get (D := E.1) (ci := 5) (v := .ref a0_town) (C := RX8) (T := TX8) (N := 16) hx hb hts inT_X8 hown hK hP 0 rfl rfl 2 (by decide) (hts _ w_4_70) (fun _ h9 => h9) rfl dX8_lies_31 (W.pc 34 rfl ?_)
            refine lv_iload_n hx hb dX8_lies_34 rfl (lv_at hl 3 rfl) (W.pc 35 rfl ?_)
            obtain ⟨z8, hr_z8, hsp⟩ := bd_s hsp
            refine kSR (st1 := [.int z8]) hX (c_X8_top l E a0_town x3_18 fa0_town z8 hr_z8) B_X8_top w_5_50 hK (hP.pick [1] rfl) rfl hl.1 rfl (Nat.le_of_ble_eq_true rfl) ⟨Nat.le_of_ble_eq_true rfl, Nat.le_of_ble_eq_true rfl⟩ dX8_lies_35 rfl (W.pc 38 rfl ?_)
            refine lv_if_ne (tgt := 45) hx hb dX8_lies_38 (by decide) (fun c9 => ?_) (fun c9 => W.pc 41 rfl ?_)
            · have hsp := iq hsp c9
              refine lv_iconst (v := (0 : Int32)) hx hb dX8_lies_45 (by decide) (W.pc 46 rfl ?_)
              refine lv_goto (tgt := 54) hx hb dX8_lies_46 (by decide) ?_
              obtain rfl := Option.some.inj hsp
              exact J5 _ _ _ hP hD hS (lv_sub hl [0, 1, 2, 3] rfl)
            · have hsp := ip hsp c9
              refine lv_iconst (v := (1 : Int32)) hx hb dX8_lies_41 (by decide) (W.pc 42 rfl ?_)
              refine lv_goto (tgt := 54) hx hb dX8_lies_42 (by decide) ?_
              obtain rfl := Option.some.inj hsp
              exact J5 _ _ _ hP hD hS (lv_sub hl [0, 1, 2, 3] rfl)
    obtain ⟨z2, hr_z2, hsp⟩ := bd_s hsp
    refine L_18 z2 (fun H locs ls hP hD hS hl => ?_) FU (0 : Int32) (0 : Int32) _ _ _ hP hD hS (lv_sub hl [2, 3, 1, 0] rfl) hr_z2
    refine lv_iload_n hx hb dX8_lies_77 rfl (lv_at hl 0 rfl) (W.pc 78 rfl ?_)
    cases hsp
    exact rWi hX hP hS rfl rfl dX8_lies_78
  · have hsp := ip hsp c1
    refine lv_aload_n hx hb dX8_lies_9 rfl (lv_at hl 0 rfl) (W.pc 10 rfl ?_)
    obtain ⟨z13, hr_z13, hsp⟩ := ltb_s hsp
    refine kVW (st1 := [.int z13.1]) (ws' := [(a0, .inr (5, [.ref a0_text, .int a0_letters, .ref a0_town, .ref a0_draft, .ref a0_tried, .ref a0_images, .ref a0_kept, .ref a0_refused, .long a0_above, .long a0_below, .ref a0_line, .ref a0_best, .int a0_at, .int a0_start, .int a0_isWell, .int a0_faultAt])), (a0_town, aI E 682 fa0_town), (a0_refused, aI E 3 z13.2)]) [0, 2] hX (c_X8_bad l E a0 a0_text a0_town a0_draft a0_tried a0_images a0_kept a0_refused a0_line a0_best a0_letters a0_above a0_below a0_at a0_start a0_isWell a0_faultAt fa0_refused z13.1 z13.2 hr_z13) B_X8_bad w_4_128 hK hP hD hS hA (by decide) rfl rfl rfl (q0 := 0) (ci := 5) rfl rfl rfl rfl hl.1 rfl (Nat.le_of_ble_eq_true rfl) ⟨Nat.le_of_ble_eq_true rfl, Nat.le_of_ble_eq_true rfl⟩ dX8_lies_10 rfl (fun H locs hP hD hS => W.pc 13 rfl ?_)
    cases hsp
    exact rWi hX hP hS rfl rfl dX8_lies_13
noncomputable def lp_X8_pass_33 (p1 : Int32) (p2 : Int32) (fa0_town : Nat → Int32) : Nat → Int32 → Int32 → Option (Int32 × Int32)
 | 0, _, _ => none
 | fu + 1, x3_33, x4_33 => lt_ (if p2 ≤ p1 then (p1) else (p2)) fun z8 => if z8 ≤ x4_33 then (some (x3_33, x4_33)) else (Option.bind (if x3_33 = 0 then (some (0 : Int32)) else (Option.bind (sp_X8_isStep x4_33 fa0_town) fun z15 => if z15 = 0 then (some (1 : Int32)) else (some (0 : Int32)))) fun z12 => lp_X8_pass_33 p1 p2 fa0_town fu z12 (x4_33 + (1 : Int32)))
noncomputable def sp_X8_pass (p1 : Int32) (p2 : Int32) (fa0_refused : Nat → Int32) (fa0_town : Nat → Int32) : Option (Int32 × (Nat → Int32)) := if (sp_X8_isPlot p1) = 0 then (lt_ (sp_X8_bad fa0_refused) fun z2 => some (z2.1, z2.2)) else (if (sp_X8_isPlot p2) = 0 then (lt_ (sp_X8_bad fa0_refused) fun z18 => some (z18.1, z18.2)) else (lt_ (if p2 ≤ p1 then (p2) else (p1)) fun z4 => Option.bind (lp_X8_pass_33 p1 p2 fa0_town FU (1 : Int32) z4) fun z7 => if z7.1 = 0 then (some ((0 : Int32), fa0_refused)) else (some ((1 : Int32), fa0_refused))))
set_option maxHeartbeats 4000000 in
set_option maxRecDepth 100000 in
theorem c_X8_pass (l : Launch) (E : wE) (a0 a0_text a0_town a0_draft a0_tried a0_images a0_kept a0_refused a0_line a0_best : Nat) (p1 : Int32) (p2 : Int32) (a0_letters : Int32) (a0_above : Int64) (a0_below : Int64) (a0_at : Int32) (a0_start : Int32) (a0_isWell : Int32) (a0_faultAt : Int32) (fa0_refused : Nat → Int32) (fa0_town : Nat → Int32) (z_0 : Int32) (z_1 : (Nat → Int32)) (hsp : sp_X8_pass p1 p2 fa0_refused fa0_town = some (z_0, z_1)) : MW l yX8_pass cX8_pass 5 (some .int) 3 E [.ref a0, .int p1, .int p2] [(a0, .inr (5, [.ref a0_text, .int a0_letters, .ref a0_town, .ref a0_draft, .ref a0_tried, .ref a0_images, .ref a0_kept, .ref a0_refused, .long a0_above, .long a0_below, .ref a0_line, .ref a0_best, .int a0_at, .int a0_start, .int a0_isWell, .int a0_faultAt])), (a0_refused, aI E 3 fa0_refused), (a0_town, aI E 682 fa0_town)] (some (.int z_0)) [(a0, .inr (5, [.ref a0_text, .int a0_letters, .ref a0_town, .ref a0_draft, .ref a0_tried, .ref a0_images, .ref a0_kept, .ref a0_refused, .long a0_above, .long a0_below, .ref a0_line, .ref a0_best, .int a0_at, .int a0_start, .int a0_isWell, .int a0_faultAt])), (a0_refused, aI E 3 z_1), (a0_town, aI E 682 fa0_town)] := by
  refine MW.of (by decide +kernel) (Nat.le_of_ble_eq_true rfl) ?_
  intro p e s m below meth c ls A hX hK hP hD hS hA hl
  have hX : CX p s m [.ref a0, .int p1, .int p2].toArray meth c cX8_pass 5 (some .int) RX8 := hX
  have hx := hX.1; have hb := hX.2.1; have hts := hX.2.2.2.2.1; have hown := hX.2.2.2.2.2.1
  have hl : lv_has ls 5 [(0, .ref a0), (1, .int p1), (2, .int p2)] := hl
  have hP : wP E [(a0, .inr (5, [.ref a0_text, .int a0_letters, .ref a0_town, .ref a0_draft, .ref a0_tried, .ref a0_images, .ref a0_kept, .ref a0_refused, .long a0_above, .long a0_below, .ref a0_line, .ref a0_best, .int a0_at, .int a0_start, .int a0_isWell, .int a0_faultAt])), (a0_refused, aI E 3 fa0_refused), (a0_town, aI E 682 fa0_town)] s.heap := hP
  have hsp : (if (sp_X8_isPlot p1) = 0 then (lt_ (sp_X8_bad fa0_refused) fun z2 => some (z2.1, z2.2)) else (if (sp_X8_isPlot p2) = 0 then (lt_ (sp_X8_bad fa0_refused) fun z18 => some (z18.1, z18.2)) else (lt_ (if p2 ≤ p1 then (p2) else (p1)) fun z4 => Option.bind (lp_X8_pass_33 p1 p2 fa0_town FU (1 : Int32) z4) fun z7 => if z7.1 = 0 then (some ((0 : Int32), fa0_refused)) else (some ((1 : Int32), fa0_refused))))) = some (z_0, z_1) := hsp
  refine lv_iload_n hx hb dX8_pass_0 rfl (lv_at hl 1 rfl) (W.pc 1 rfl ?_)
  refine kSR (st1 := [.int (sp_X8_isPlot p1)]) hX (c_X8_isPlot l E p1 _ rfl) B_X8_isPlot w_4_142 hK (hP.pick [] rfl) rfl hl.1 rfl (Nat.le_of_ble_eq_true rfl) ⟨Nat.le_of_ble_eq_true rfl, Nat.le_of_ble_eq_true rfl⟩ dX8_pass_1 rfl (W.pc 4 rfl ?_)
  refine lv_if_eq (tgt := 14) hx hb dX8_pass_4 (by decide) (fun c1 => ?_) (fun c1 => W.pc 7 rfl ?_)
  · have hsp := ip hsp c1
    refine lv_aload_n hx hb dX8_pass_14 rfl (lv_at hl 0 rfl) (W.pc 15 rfl ?_)
    obtain ⟨z2, hr_z2, hsp⟩ := ltb_s hsp
    refine kVW (st1 := [.int z2.1]) (ws' := [(a0, .inr (5, [.ref a0_text, .int a0_letters, .ref a0_town, .ref a0_draft, .ref a0_tried, .ref a0_images, .ref a0_kept, .ref a0_refused, .long a0_above, .long a0_below, .ref a0_line, .ref a0_best, .int a0_at, .int a0_start, .int a0_isWell, .int a0_faultAt])), (a0_refused, aI E 3 z2.2), (a0_town, aI E 682 fa0_town)]) [0, 1] hX (c_X8_bad l E a0 a0_text a0_town a0_draft a0_tried a0_images a0_kept a0_refused a0_line a0_best a0_letters a0_above a0_below a0_at a0_start a0_isWell a0_faultAt fa0_refused z2.1 z2.2 hr_z2) B_X8_bad w_4_128 hK hP hD hS hA (by decide) rfl rfl rfl (q0 := 0) (ci := 5) rfl rfl rfl rfl hl.1 rfl (Nat.le_of_ble_eq_true rfl) ⟨Nat.le_of_ble_eq_true rfl, Nat.le_of_ble_eq_true rfl⟩ dX8_pass_15 rfl (fun H locs hP hD hS => W.pc 18 rfl ?_)
    cases hsp
    exact rWi hX hP hS rfl rfl dX8_pass_18
  · have hsp := iq hsp c1
    refine lv_iload_n hx hb dX8_pass_7 rfl (lv_at hl 2 rfl) (W.pc 8 rfl ?_)
    refine kSR (st1 := [.int (sp_X8_isPlot p2)]) hX (c_X8_isPlot l E p2 _ rfl) B_X8_isPlot w_4_142 hK (hP.pick [] rfl) rfl hl.1 rfl (Nat.le_of_ble_eq_true rfl) ⟨Nat.le_of_ble_eq_true rfl, Nat.le_of_ble_eq_true rfl⟩ dX8_pass_8 rfl (W.pc 11 rfl ?_)
    refine lv_if_ne (tgt := 19) hx hb dX8_pass_11 (by decide) (fun c3 => ?_) (fun c3 => W.pc 14 rfl ?_)
    · have hsp := iq hsp c3
      refine lv_iconst (v := (1 : Int32)) hx hb dX8_pass_19 (by decide) (W.pc 20 rfl ?_)
      refine lv_istore_n (lv' := [(3, .int (1 : Int32)), (0, .ref a0), (1, .int p1), (2, .int p2)]) hx hb dX8_pass_20 rfl hl (by decide) rfl (fun ls hl => W.pc 21 rfl ?_)
      refine lv_iload_n hx hb dX8_pass_21 rfl (lv_at hl 2 rfl) (W.pc 22 rfl ?_)
      refine lv_iload_n hx hb dX8_pass_22 rfl (lv_at hl 3 rfl) (W.pc 23 rfl ?_)
      obtain ⟨z4, hr_z4, hsp⟩ := ltb_s hsp
      have J5 : ∀ (H : Heap) (locs : List Loc) (ls : Array Slot), wP E [(a0, .inr (5, [.ref a0_text, .int a0_letters, .ref a0_town, .ref a0_draft, .ref a0_tried, .ref a0_images, .ref a0_kept, .ref a0_refused, .long a0_above, .long a0_below, .ref a0_line, .ref a0_best, .int a0_at, .int a0_start, .int a0_isWell, .int a0_faultAt])), (a0_refused, aI E 3 fa0_refused), (a0_town, aI E 682 fa0_town)] H → va_D A [(a0, .inr (5, [.ref a0_text, .int a0_letters, .ref a0_town, .ref a0_draft, .ref a0_tried, .ref a0_images, .ref a0_kept, .ref a0_refused, .long a0_above, .long a0_below, .ref a0_line, .ref a0_best, .int a0_at, .int a0_start, .int a0_isWell, .int a0_faultAt])), (a0_refused, aI E 3 fa0_refused), (a0_town, aI E 682 fa0_town)] → va_S A s.heap H locs → lv_has ls 5 [(0, .ref a0), (1, .int p1), (2, .int p2), (3, .int (1 : Int32))] → W p l e (wR 3) s m [.ref a0, .int p1, .int p2].toArray below meth c H locs 0 0 (MQ below (QWd E A (some (.int z_0)) [(a0, .inr (5, [.ref a0_text, .int a0_letters, .ref a0_town, .ref a0_draft, .ref a0_tried, .ref a0_images, .ref a0_kept, .ref a0_refused, .long a0_above, .long a0_below, .ref a0_line, .ref a0_best, .int a0_at, .int a0_start, .int a0_isWell, .int a0_faultAt])), (a0_refused, aI E 3 z_1), (a0_town, aI E 682 fa0_town)]) [.ref a0, .int p1, .int p2].toArray s 0 0 A) (F0 m 31 ls [.int z4]) := by
        intro H locs ls hP hD hS hl
        refine lv_istore (lv' := [(4, .int z4), (0, .ref a0), (1, .int p1), (2, .int p2), (3, .int (1 : Int32))]) hx hb dX8_pass_31 hl (by decide) rfl (fun ls hl => W.pc 33 rfl ?_)
        have L_33 : ∀ (z7 : Int32 × Int32), (∀ (H : Heap) (locs : List Loc) (ls : Array Slot), wP E [(a0, .inr (5, [.ref a0_text, .int a0_letters, .ref a0_town, .ref a0_draft, .ref a0_tried, .ref a0_images, .ref a0_kept, .ref a0_refused, .long a0_above, .long a0_below, .ref a0_line, .ref a0_best, .int a0_at, .int a0_start, .int a0_isWell, .int a0_faultAt])), (a0_refused, aI E 3 fa0_refused), (a0_town, aI E 682 fa0_town)] H → va_D A [(a0, .inr (5, [.ref a0_text, .int a0_letters, .ref a0_town, .ref a0_draft, .ref a0_tried, .ref a0_images, .ref a0_kept, .ref a0_refused, .long a0_above, .long a0_below, .ref a0_line, .ref a0_best, .int a0_at, .int a0_start, .int a0_isWell, .int a0_faultAt])), (a0_refused, aI E 3 fa0_refused), (a0_town, aI E 682 fa0_town)] → va_S A s.heap H locs → lv_has ls 5 [(3, .int z7.1)] → W p l e (wR 3) s m [.ref a0, .int p1, .int p2].toArray below meth c H locs 0 0 (MQ below (QWd E A (some (.int z_0)) [(a0, .inr (5, [.ref a0_text, .int a0_letters, .ref a0_town, .ref a0_draft, .ref a0_tried, .ref a0_images, .ref a0_kept, .ref a0_refused, .long a0_above, .long a0_below, .ref a0_line, .ref a0_best, .int a0_at, .int a0_start, .int a0_isWell, .int a0_faultAt])), (a0_refused, aI E 3 z_1), (a0_town, aI E 682 fa0_town)]) [.ref a0, .int p1, .int p2].toArray s 0 0 A) (F0 m 73 ls [])) → ∀ (fu : Nat) (x3_33 : Int32) (x4_33 : Int32), ∀ (H : Heap) (locs : List Loc) (ls : Array Slot), wP E [(a0, .inr (5, [.ref a0_text, .int a0_letters, .ref a0_town, .ref a0_draft, .ref a0_tried, .ref a0_images, .ref a0_kept, .ref a0_refused, .long a0_above, .long a0_below, .ref a0_line, .ref a0_best, .int a0_at, .int a0_start, .int a0_isWell, .int a0_faultAt])), (a0_refused, aI E 3 fa0_refused), (a0_town, aI E 682 fa0_town)] H → va_D A [(a0, .inr (5, [.ref a0_text, .int a0_letters, .ref a0_town, .ref a0_draft, .ref a0_tried, .ref a0_images, .ref a0_kept, .ref a0_refused, .long a0_above, .long a0_below, .ref a0_line, .ref a0_best, .int a0_at, .int a0_start, .int a0_isWell, .int a0_faultAt])), (a0_refused, aI E 3 fa0_refused), (a0_town, aI E 682 fa0_town)] → va_S A s.heap H locs → lv_has ls 5 [(0, .ref a0), (1, .int p1), (2, .int p2), (3, .int x3_33), (4, .int x4_33)] → lp_X8_pass_33 p1 p2 fa0_town fu x3_33 x4_33 = some z7 → W p l e (wR 3) s m [.ref a0, .int p1, .int p2].toArray below meth c H locs 0 0 (MQ below (QWd E A (some (.int z_0)) [(a0, .inr (5, [.ref a0_text, .int a0_letters, .ref a0_town, .ref a0_draft, .ref a0_tried, .ref a0_images, .ref a0_kept, .ref a0_refused, .long a0_above, .long a0_below, .ref a0_line, .ref a0_best, .int a0_at, .int a0_start, .int a0_isWell, .int a0_faultAt])), (a0_refused, aI E 3 z_1), (a0_town, aI E 682 fa0_town)]) [.ref a0, .int p1, .int p2].toArray s 0 0 A) (F0 m 33 ls []) := by
          intro z7 hk_33 fu
          induction fu with
          | zero => intro x3_33 x4_33 H locs ls hP hD hS hl hsp; exact absurd (show none = some _ from hsp) (by simp)
          | succ fu ih_33 =>
            intro x3_33 x4_33 H locs ls hP hD hS hl hsp
            have hsp : (lt_ (if p2 ≤ p1 then (p1) else (p2)) fun z8 => if z8 ≤ x4_33 then (some (x3_33, x4_33)) else (Option.bind (if x3_33 = 0 then (some (0 : Int32)) else (Option.bind (sp_X8_isStep x4_33 fa0_town) fun z15 => if z15 = 0 then (some (1 : Int32)) else (some (0 : Int32)))) fun z12 => lp_X8_pass_33 p1 p2 fa0_town fu z12 (x4_33 + (1 : Int32)))) = some z7 := hsp
            refine lv_iload hx hb dX8_pass_33 (lv_at hl 4 rfl) (W.pc 35 rfl ?_)
            refine lv_iload_n hx hb dX8_pass_35 rfl (lv_at hl 1 rfl) (W.pc 36 rfl ?_)
            refine lv_iload_n hx hb dX8_pass_36 rfl (lv_at hl 2 rfl) (W.pc 37 rfl ?_)
            obtain ⟨z8, hr_z8, hsp⟩ := ltb_s hsp
            have J9 : ∀ (H : Heap) (locs : List Loc) (ls : Array Slot), wP E [(a0, .inr (5, [.ref a0_text, .int a0_letters, .ref a0_town, .ref a0_draft, .ref a0_tried, .ref a0_images, .ref a0_kept, .ref a0_refused, .long a0_above, .long a0_below, .ref a0_line, .ref a0_best, .int a0_at, .int a0_start, .int a0_isWell, .int a0_faultAt])), (a0_refused, aI E 3 fa0_refused), (a0_town, aI E 682 fa0_town)] H → va_D A [(a0, .inr (5, [.ref a0_text, .int a0_letters, .ref a0_town, .ref a0_draft, .ref a0_tried, .ref a0_images, .ref a0_kept, .ref a0_refused, .long a0_above, .long a0_below, .ref a0_line, .ref a0_best, .int a0_at, .int a0_start, .int a0_isWell, .int a0_faultAt])), (a0_refused, aI E 3 fa0_refused), (a0_town, aI E 682 fa0_town)] → va_S A s.heap H locs → lv_has ls 5 [(0, .ref a0), (1, .int p1), (2, .int p2), (3, .int x3_33), (4, .int x4_33)] → W p l e (wR 3) s m [.ref a0, .int p1, .int p2].toArray below meth c H locs 0 0 (MQ below (QWd E A (some (.int z_0)) [(a0, .inr (5, [.ref a0_text, .int a0_letters, .ref a0_town, .ref a0_draft, .ref a0_tried, .ref a0_images, .ref a0_kept, .ref a0_refused, .long a0_above, .long a0_below, .ref a0_line, .ref a0_best, .int a0_at, .int a0_start, .int a0_isWell, .int a0_faultAt])), (a0_refused, aI E 3 z_1), (a0_town, aI E 682 fa0_town)]) [.ref a0, .int p1, .int p2].toArray s 0 0 A) (F0 m 45 ls [.int z8, .int x4_33]) := by
              intro H locs ls hP hD hS hl
              refine lv_icmp_ge (tgt := 73) hx hb dX8_pass_45 (by decide) (fun c11 => ?_) (fun c11 => W.pc 48 rfl ?_)
              · have hsp := ip hsp c11
                obtain rfl := Option.some.inj hsp
                exact hk_33 _ _ _ hP hD hS (lv_sub hl [3] rfl)
              · have hsp := iq hsp c11
                refine lv_iload_n hx hb dX8_pass_48 rfl (lv_at hl 3 rfl) (W.pc 49 rfl ?_)
                obtain ⟨z12, hr_z12, hsp⟩ := bd_s hsp
                have J13 : ∀ (H : Heap) (locs : List Loc) (ls : Array Slot), wP E [(a0, .inr (5, [.ref a0_text, .int a0_letters, .ref a0_town, .ref a0_draft, .ref a0_tried, .ref a0_images, .ref a0_kept, .ref a0_refused, .long a0_above, .long a0_below, .ref a0_line, .ref a0_best, .int a0_at, .int a0_start, .int a0_isWell, .int a0_faultAt])), (a0_refused, aI E 3 fa0_refused), (a0_town, aI E 682 fa0_town)] H → va_D A [(a0, .inr (5, [.ref a0_text, .int a0_letters, .ref a0_town, .ref a0_draft, .ref a0_tried, .ref a0_images, .ref a0_kept, .ref a0_refused, .long a0_above, .long a0_below, .ref a0_line, .ref a0_best, .int a0_at, .int a0_start, .int a0_isWell, .int a0_faultAt])), (a0_refused, aI E 3 fa0_refused), (a0_town, aI E 682 fa0_town)] → va_S A s.heap H locs → lv_has ls 5 [(0, .ref a0), (1, .int p1), (2, .int p2), (4, .int x4_33)] → W p l e (wR 3) s m [.ref a0, .int p1, .int p2].toArray below meth c H locs 0 0 (MQ below (QWd E A (some (.int z_0)) [(a0, .inr (5, [.ref a0_text, .int a0_letters, .ref a0_town, .ref a0_draft, .ref a0_tried, .ref a0_images, .ref a0_kept, .ref a0_refused, .long a0_above, .long a0_below, .ref a0_line, .ref a0_best, .int a0_at, .int a0_start, .int a0_isWell, .int a0_faultAt])), (a0_refused, aI E 3 z_1), (a0_town, aI E 682 fa0_town)]) [.ref a0, .int p1, .int p2].toArray s 0 0 A) (F0 m 66 ls [.int z12]) := by
                  intro H locs ls hP hD hS hl
                  refine lv_istore_n (lv' := [(3, .int z12), (0, .ref a0), (1, .int p1), (2, .int p2), (4, .int x4_33)]) hx hb dX8_pass_66 rfl hl (by decide) rfl (fun ls hl => W.pc 67 rfl ?_)
                  refine lv_iinc (v := (x4_33 + (1 : Int32))) (lv' := [(4, .int (x4_33 + (1 : Int32))), (3, .int z12), (0, .ref a0), (1, .int p1), (2, .int p2)]) hx hb dX8_pass_67 hl (k := 4) rfl rfl (by decide) rfl (fun ls hl => W.pc 70 rfl ?_)
                  refine lv_goto (tgt := 33) hx hb dX8_pass_70 (by decide) ?_
                  exact ih_33 z12 (x4_33 + (1 : Int32)) _ _ _ hP hD hS (lv_sub hl [2, 3, 4, 1, 0] rfl) hsp
                replace hsp := hr_z12
                refine lv_if_eq (tgt := 65) hx hb dX8_pass_49 (by decide) (fun c14 => ?_) (fun c14 => W.pc 52 rfl ?_)
                · have hsp := ip hsp c14
                  refine lv_iconst (v := (0 : Int32)) hx hb dX8_pass_65 (by decide) (W.pc 66 rfl ?_)
                  obtain rfl := Option.some.inj hsp
                  exact J13 _ _ _ hP hD hS (lv_sub hl [0, 1, 2, 4] rfl)
                · have hsp := iq hsp c14
                  refine lv_aload_n hx hb dX8_pass_52 rfl (lv_at hl 0 rfl) (W.pc 53 rfl ?_)
                  refine lv_iload hx hb dX8_pass_53 (lv_at hl 4 rfl) (W.pc 55 rfl ?_)
                  obtain ⟨z15, hr_z15, hsp⟩ := bd_s hsp
                  refine kVR (st1 := [.int z15]) hX (c_X8_isStep l E a0 a0_text a0_town a0_draft a0_tried a0_images a0_kept a0_refused a0_line a0_best x4_33 a0_letters a0_above a0_below a0_at a0_start a0_isWell a0_faultAt fa0_town z15 hr_z15) B_X8_isStep w_5_77 hK (hP.pick [0, 2] rfl) (q0 := 0) (ci := 5) rfl rfl rfl rfl hl.1 rfl (Nat.le_of_ble_eq_true rfl) ⟨Nat.le_of_ble_eq_true rfl, Nat.le_of_ble_eq_true rfl⟩ dX8_pass_55 rfl (W.pc 58 rfl ?_)
                  refine lv_if_ne (tgt := 65) hx hb dX8_pass_58 (by decide) (fun c16 => ?_) (fun c16 => W.pc 61 rfl ?_)
                  · have hsp := iq hsp c16
                    refine lv_iconst (v := (0 : Int32)) hx hb dX8_pass_65 (by decide) (W.pc 66 rfl ?_)
                    obtain rfl := Option.some.inj hsp
                    exact J13 _ _ _ hP hD hS (lv_sub hl [0, 1, 2, 4] rfl)
                  · have hsp := ip hsp c16
                    refine lv_iconst (v := (1 : Int32)) hx hb dX8_pass_61 (by decide) (W.pc 62 rfl ?_)
                    refine lv_goto (tgt := 66) hx hb dX8_pass_62 (by decide) ?_
                    obtain rfl := Option.some.inj hsp
                    exact J13 _ _ _ hP hD hS (lv_sub hl [0, 1, 2, 4] rfl)
            replace hsp := hr_z8
            refine lv_icmp_ge (tgt := 44) hx hb dX8_pass_37 (by decide) (fun c10 => ?_) (fun c10 => W.pc 40 rfl ?_)
            · have hsp := ip hsp c10
              refine lv_iload_n hx hb dX8_pass_44 rfl (lv_at hl 1 rfl) (W.pc 45 rfl ?_)
              subst hsp
              exact J9 _ _ _ hP hD hS (lv_sub hl [0, 1, 2, 3, 4] rfl)
            · have hsp := iq hsp c10
              refine lv_iload_n hx hb dX8_pass_40 rfl (lv_at hl 2 rfl) (W.pc 41 rfl ?_)
              refine lv_goto (tgt := 45) hx hb dX8_pass_41 (by decide) ?_
              subst hsp
              exact J9 _ _ _ hP hD hS (lv_sub hl [0, 1, 2, 3, 4] rfl)
        obtain ⟨z7, hr_z7, hsp⟩ := bd_s hsp
        refine L_33 z7 (fun H locs ls hP hD hS hl => ?_) FU (1 : Int32) z4 _ _ _ hP hD hS (lv_sub hl [1, 2, 3, 4, 0] rfl) hr_z7
        refine lv_iload_n hx hb dX8_pass_73 rfl (lv_at hl 0 rfl) (W.pc 74 rfl ?_)
        refine lv_if_eq (tgt := 81) hx hb dX8_pass_74 (by decide) (fun c17 => ?_) (fun c17 => W.pc 77 rfl ?_)
        · have hsp := ip hsp c17
          refine lv_iconst (v := (0 : Int32)) hx hb dX8_pass_81 (by decide) (W.pc 82 rfl ?_)
          cases hsp
          exact rWi hX hP hS rfl rfl dX8_pass_82
        · have hsp := iq hsp c17
          refine lv_iconst (v := (1 : Int32)) hx hb dX8_pass_77 (by decide) (W.pc 78 rfl ?_)
          refine lv_goto (tgt := 82) hx hb dX8_pass_78 (by decide) ?_
          cases hsp
          exact rWi hX hP hS rfl rfl dX8_pass_82
      replace hsp := hr_z4
      refine lv_icmp_ge (tgt := 30) hx hb dX8_pass_23 (by decide) (fun c6 => ?_) (fun c6 => W.pc 26 rfl ?_)
      · have hsp := ip hsp c6
        refine lv_iload_n hx hb dX8_pass_30 rfl (lv_at hl 3 rfl) (W.pc 31 rfl ?_)
        subst hsp
        exact J5 _ _ _ hP hD hS (lv_sub hl [1, 2, 3, 0] rfl)
      · have hsp := iq hsp c6
        refine lv_iload_n hx hb dX8_pass_26 rfl (lv_at hl 2 rfl) (W.pc 27 rfl ?_)
        refine lv_goto (tgt := 31) hx hb dX8_pass_27 (by decide) ?_
        subst hsp
        exact J5 _ _ _ hP hD hS (lv_sub hl [1, 2, 3, 0] rfl)
    · have hsp := ip hsp c3
      refine lv_aload_n hx hb dX8_pass_14 rfl (lv_at hl 0 rfl) (W.pc 15 rfl ?_)
      obtain ⟨z18, hr_z18, hsp⟩ := ltb_s hsp
      refine kVW (st1 := [.int z18.1]) (ws' := [(a0, .inr (5, [.ref a0_text, .int a0_letters, .ref a0_town, .ref a0_draft, .ref a0_tried, .ref a0_images, .ref a0_kept, .ref a0_refused, .long a0_above, .long a0_below, .ref a0_line, .ref a0_best, .int a0_at, .int a0_start, .int a0_isWell, .int a0_faultAt])), (a0_refused, aI E 3 z18.2), (a0_town, aI E 682 fa0_town)]) [0, 1] hX (c_X8_bad l E a0 a0_text a0_town a0_draft a0_tried a0_images a0_kept a0_refused a0_line a0_best a0_letters a0_above a0_below a0_at a0_start a0_isWell a0_faultAt fa0_refused z18.1 z18.2 hr_z18) B_X8_bad w_4_128 hK hP hD hS hA (by decide) rfl rfl rfl (q0 := 0) (ci := 5) rfl rfl rfl rfl hl.1 rfl (Nat.le_of_ble_eq_true rfl) ⟨Nat.le_of_ble_eq_true rfl, Nat.le_of_ble_eq_true rfl⟩ dX8_pass_15 rfl (fun H locs hP hD hS => W.pc 18 rfl ?_)
      cases hsp
      exact rWi hX hP hS rfl rfl dX8_pass_18
noncomputable def lp_X8_figures_13 : Nat → Int32 → Int32 → Int32 → Option (Int32 × Int32 × Int32)
 | 0, _, _, _ => none
 | fu + 1, x1_13, x2_13, x3_13 => if x2_13 ≤ 0 then (some (x1_13, x2_13, x3_13)) else (if x3_13 = 0 then (some (x1_13, x2_13, x3_13)) else (lp_X8_figures_13 fu (x1_13 + (1 : Int32)) (x2_13 / (10 : Int32)) (sp_X8_in (x2_13 - x2_13 / (10 : Int32) * (10 : Int32)) (1 : Int32) (6 : Int32))))
noncomputable def sp_X8_figures (p0 : Int32) : Option (Int32) := Option.bind (lp_X8_figures_13 FU (0 : Int32) p0 (sp_X8_in p0 (1 : Int32) (6666 : Int32))) fun z1 => if z1.2.2 = 0 then (some (0 : Int32)) else (some z1.1)
set_option maxHeartbeats 4000000 in
set_option maxRecDepth 100000 in
theorem c_X8_figures (l : Launch) (E : wE) (p0 : Int32) (z : Int32) (hsp : sp_X8_figures p0 = some z) : MR l yX8_figures cX8_figures 4 (some .int) 1 E [.int p0] [] (some (.int z)) := by
  refine MR.of (by decide +kernel) (Nat.le_of_ble_eq_true rfl) ?_
  intro p e s m below meth c ls hX hK hP hl
  have hX : CX p s m [.int p0].toArray meth c cX8_figures 4 (some .int) RX8 := hX
  have hx := hX.1; have hb := hX.2.1; have hts := hX.2.2.2.2.1; have hown := hX.2.2.2.2.2.1
  have hl : lv_has ls 4 [(0, .int p0)] := hl
  have hsp : (Option.bind (lp_X8_figures_13 FU (0 : Int32) p0 (sp_X8_in p0 (1 : Int32) (6666 : Int32))) fun z1 => if z1.2.2 = 0 then (some (0 : Int32)) else (some z1.1)) = some z := hsp
  refine lv_iconst (v := (0 : Int32)) hx hb dX8_figures_0 (by decide) (W.pc 1 rfl ?_)
  refine lv_istore_n (lv' := [(1, .int (0 : Int32)), (0, .int p0)]) hx hb dX8_figures_1 rfl hl (by decide) rfl (fun ls hl => W.pc 2 rfl ?_)
  refine lv_iload_n hx hb dX8_figures_2 rfl (lv_at hl 1 rfl) (W.pc 3 rfl ?_)
  refine lv_istore_n (lv' := [(2, .int p0), (1, .int (0 : Int32)), (0, .int p0)]) hx hb dX8_figures_3 rfl hl (by decide) rfl (fun ls hl => W.pc 4 rfl ?_)
  refine lv_iload_n hx hb dX8_figures_4 rfl (lv_at hl 2 rfl) (W.pc 5 rfl ?_)
  refine lv_iconst (v := (1 : Int32)) hx hb dX8_figures_5 (by decide) (W.pc 6 rfl ?_)
  refine lv_sipush (v := (6666 : Int32)) hx hb dX8_figures_6 (by decide) (W.pc 9 rfl ?_)
  refine kSR (st1 := [.int (sp_X8_in p0 (1 : Int32) (6666 : Int32))]) hX (c_X8_in l E p0 (1 : Int32) (6666 : Int32) _ rfl) B_X8_in w_4_125 hK (hP.pick [] rfl) rfl hl.1 rfl (Nat.le_of_ble_eq_true rfl) ⟨Nat.le_of_ble_eq_true rfl, Nat.le_of_ble_eq_true rfl⟩ dX8_figures_9 rfl (W.pc 12 rfl ?_)
  refine lv_istore_n (lv' := [(3, .int (sp_X8_in p0 (1 : Int32) (6666 : Int32))), (2, .int p0), (1, .int (0 : Int32)), (0, .int p0)]) hx hb dX8_figures_12 rfl hl (by decide) rfl (fun ls hl => W.pc 13 rfl ?_)
  have L_13 : ∀ (z1 : Int32 × Int32 × Int32), (∀ (ls : Array Slot), lv_has ls 4 [(1, .int z1.1), (3, .int z1.2.2)] → W p l e (wR 1) s m [.int p0].toArray below meth c s.heap [] 0 0 (MQ below (QRd E (some (.int z))) [.int p0].toArray s 0 0 (fun _ => False)) (F0 m 43 ls [])) → ∀ (fu : Nat) (x1_13 : Int32) (x2_13 : Int32) (x3_13 : Int32), ∀ (ls : Array Slot), lv_has ls 4 [(1, .int x1_13), (2, .int x2_13), (3, .int x3_13)] → lp_X8_figures_13 fu x1_13 x2_13 x3_13 = some z1 → W p l e (wR 1) s m [.int p0].toArray below meth c s.heap [] 0 0 (MQ below (QRd E (some (.int z))) [.int p0].toArray s 0 0 (fun _ => False)) (F0 m 13 ls []) := by
    intro z1 hk_13 fu
    induction fu with
    | zero => intro x1_13 x2_13 x3_13 ls hl hsp; exact absurd (show none = some _ from hsp) (by simp)
    | succ fu ih_13 =>
      intro x1_13 x2_13 x3_13 ls hl hsp
      have hsp : (if x2_13 ≤ 0 then (some (x1_13, x2_13, x3_13)) else (if x3_13 = 0 then (some (x1_13, x2_13, x3_13)) else (lp_X8_figures_13 fu (x1_13 + (1 : Int32)) (x2_13 / (10 : Int32)) (sp_X8_in (x2_13 - x2_13 / (10 : Int32) * (10 : Int32)) (1 : Int32) (6 : Int32))))) = some z1 := hsp
      refine lv_iload_n hx hb dX8_figures_13 rfl (lv_at hl 1 rfl) (W.pc 14 rfl ?_)
      refine lv_if_le (tgt := 43) hx hb dX8_figures_14 (by decide) (fun c2 => ?_) (fun c2 => W.pc 17 rfl ?_)
      · have hsp := ip hsp c2
        obtain rfl := Option.some.inj hsp
        exact hk_13 _ (lv_sub hl [0, 2] rfl)
      · have hsp := iq hsp c2
        refine lv_iload_n hx hb dX8_figures_17 rfl (lv_at hl 2 rfl) (W.pc 18 rfl ?_)
        refine lv_if_eq (tgt := 43) hx hb dX8_figures_18 (by decide) (fun c3 => ?_) (fun c3 => W.pc 21 rfl ?_)
        · have hsp := ip hsp c3
          obtain rfl := Option.some.inj hsp
          exact hk_13 _ (lv_sub hl [0, 2] rfl)
        · have hsp := iq hsp c3
          refine lv_iload_n hx hb dX8_figures_21 rfl (lv_at hl 1 rfl) (W.pc 22 rfl ?_)
          refine lv_bipush (v := (10 : Int32)) hx hb dX8_figures_22 (by decide) (W.pc 24 rfl ?_)
          refine lv_irem hx hb dX8_figures_24 (by decide) (W.pc 25 rfl ?_)
          refine lv_iconst (v := (1 : Int32)) hx hb dX8_figures_25 (by decide) (W.pc 26 rfl ?_)
          refine lv_bipush (v := (6 : Int32)) hx hb dX8_figures_26 (by decide) (W.pc 28 rfl ?_)
          refine kSR (st1 := [.int (sp_X8_in (x2_13 - x2_13 / (10 : Int32) * (10 : Int32)) (1 : Int32) (6 : Int32))]) hX (c_X8_in l E (x2_13 - x2_13 / (10 : Int32) * (10 : Int32)) (1 : Int32) (6 : Int32) _ rfl) B_X8_in w_4_125 hK (hP.pick [] rfl) rfl hl.1 rfl (Nat.le_of_ble_eq_true rfl) ⟨Nat.le_of_ble_eq_true rfl, Nat.le_of_ble_eq_true rfl⟩ dX8_figures_28 rfl (W.pc 31 rfl ?_)
          refine lv_istore_n (lv' := [(3, .int (sp_X8_in (x2_13 - x2_13 / (10 : Int32) * (10 : Int32)) (1 : Int32) (6 : Int32))), (1, .int x1_13), (2, .int x2_13)]) hx hb dX8_figures_31 rfl hl (by decide) rfl (fun ls hl => W.pc 32 rfl ?_)
          refine lv_iload_n hx hb dX8_figures_32 rfl (lv_at hl 2 rfl) (W.pc 33 rfl ?_)
          refine lv_bipush (v := (10 : Int32)) hx hb dX8_figures_33 (by decide) (W.pc 35 rfl ?_)
          refine lv_idiv hx hb dX8_figures_35 (by decide) (W.pc 36 rfl ?_)
          refine lv_istore_n (lv' := [(2, .int (x2_13 / (10 : Int32))), (3, .int (sp_X8_in (x2_13 - x2_13 / (10 : Int32) * (10 : Int32)) (1 : Int32) (6 : Int32))), (1, .int x1_13)]) hx hb dX8_figures_36 rfl hl (by decide) rfl (fun ls hl => W.pc 37 rfl ?_)
          refine lv_iinc (v := (x1_13 + (1 : Int32))) (lv' := [(1, .int (x1_13 + (1 : Int32))), (2, .int (x2_13 / (10 : Int32))), (3, .int (sp_X8_in (x2_13 - x2_13 / (10 : Int32) * (10 : Int32)) (1 : Int32) (6 : Int32)))]) hx hb dX8_figures_37 hl (k := 2) rfl rfl (by decide) rfl (fun ls hl => W.pc 40 rfl ?_)
          refine lv_goto (tgt := 13) hx hb dX8_figures_40 (by decide) ?_
          exact ih_13 (x1_13 + (1 : Int32)) (x2_13 / (10 : Int32)) (sp_X8_in (x2_13 - x2_13 / (10 : Int32) * (10 : Int32)) (1 : Int32) (6 : Int32)) _ (lv_sub hl [0, 1, 2] rfl) hsp
  obtain ⟨z1, hr_z1, hsp⟩ := bd_s hsp
  refine L_13 z1 (fun ls hl => ?_) FU (0 : Int32) p0 (sp_X8_in p0 (1 : Int32) (6666 : Int32)) _ (lv_sub hl [2, 1, 0] rfl) hr_z1
  refine lv_iload_n hx hb dX8_figures_43 rfl (lv_at hl 1 rfl) (W.pc 44 rfl ?_)
  refine lv_if_eq (tgt := 51) hx hb dX8_figures_44 (by decide) (fun c4 => ?_) (fun c4 => W.pc 47 rfl ?_)
  · have hsp := ip hsp c4
    refine lv_iconst (v := (0 : Int32)) hx hb dX8_figures_51 (by decide) (W.pc 52 rfl ?_)
    obtain rfl := Option.some.inj hsp
    exact rRi hX rfl dX8_figures_52
  · have hsp := iq hsp c4
    refine lv_iload_n hx hb dX8_figures_47 rfl (lv_at hl 0 rfl) (W.pc 48 rfl ?_)
    refine lv_goto (tgt := 52) hx hb dX8_figures_48 (by decide) ?_
    obtain rfl := Option.some.inj hsp
    exact rRi hX rfl dX8_figures_52
noncomputable def lp_X8_figure_7 (p2 : Int32) : Nat → Int32 → Int32 → Option (Int32 × Int32)
 | 0, _, _ => none
 | fu + 1, x3_7, x4_7 => if x4_7 ≤ p2 then (some (x3_7, x4_7)) else (lp_X8_figure_7 p2 fu (x3_7 / (10 : Int32)) (x4_7 + (-1 : Int32)))
noncomputable def sp_X8_figure (p0 : Int32) (p1 : Int32) (p2 : Int32) : Option (Int32) := Option.bind (lp_X8_figure_7 p2 FU p0 (p1 - (1 : Int32))) fun z1 => some (z1.1 - z1.1 / (10 : Int32) * (10 : Int32))
set_option maxHeartbeats 4000000 in
set_option maxRecDepth 100000 in
theorem c_X8_figure (l : Launch) (E : wE) (p0 : Int32) (p1 : Int32) (p2 : Int32) (z : Int32) (hsp : sp_X8_figure p0 p1 p2 = some z) : MR l yX8_figure cX8_figure 5 (some .int) 0 E [.int p0, .int p1, .int p2] [] (some (.int z)) := by
  refine MR.of (by decide +kernel) (Nat.le_of_ble_eq_true rfl) ?_
  intro p e s m below meth c ls hX hK hP hl
  have hX : CX p s m [.int p0, .int p1, .int p2].toArray meth c cX8_figure 5 (some .int) RX8 := hX
  have hx := hX.1; have hb := hX.2.1; have hts := hX.2.2.2.2.1; have hown := hX.2.2.2.2.2.1
  have hl : lv_has ls 5 [(0, .int p0), (1, .int p1), (2, .int p2)] := hl
  have hsp : (Option.bind (lp_X8_figure_7 p2 FU p0 (p1 - (1 : Int32))) fun z1 => some (z1.1 - z1.1 / (10 : Int32) * (10 : Int32))) = some z := hsp
  refine lv_iload_n hx hb dX8_figure_0 rfl (lv_at hl 0 rfl) (W.pc 1 rfl ?_)
  refine lv_istore_n (lv' := [(3, .int p0), (0, .int p0), (1, .int p1), (2, .int p2)]) hx hb dX8_figure_1 rfl hl (by decide) rfl (fun ls hl => W.pc 2 rfl ?_)
  refine lv_iload_n hx hb dX8_figure_2 rfl (lv_at hl 2 rfl) (W.pc 3 rfl ?_)
  refine lv_iconst (v := (1 : Int32)) hx hb dX8_figure_3 (by decide) (W.pc 4 rfl ?_)
  refine lv_isub hx hb dX8_figure_4 (W.pc 5 rfl ?_)
  refine lv_istore (lv' := [(4, .int (p1 - (1 : Int32))), (3, .int p0), (0, .int p0), (1, .int p1), (2, .int p2)]) hx hb dX8_figure_5 hl (by decide) rfl (fun ls hl => W.pc 7 rfl ?_)
  have L_7 : ∀ (z1 : Int32 × Int32), (∀ (ls : Array Slot), lv_has ls 5 [(3, .int z1.1)] → W p l e (wR 0) s m [.int p0, .int p1, .int p2].toArray below meth c s.heap [] 0 0 (MQ below (QRd E (some (.int z))) [.int p0, .int p1, .int p2].toArray s 0 0 (fun _ => False)) (F0 m 24 ls [])) → ∀ (fu : Nat) (x3_7 : Int32) (x4_7 : Int32), ∀ (ls : Array Slot), lv_has ls 5 [(2, .int p2), (3, .int x3_7), (4, .int x4_7)] → lp_X8_figure_7 p2 fu x3_7 x4_7 = some z1 → W p l e (wR 0) s m [.int p0, .int p1, .int p2].toArray below meth c s.heap [] 0 0 (MQ below (QRd E (some (.int z))) [.int p0, .int p1, .int p2].toArray s 0 0 (fun _ => False)) (F0 m 7 ls []) := by
    intro z1 hk_7 fu
    induction fu with
    | zero => intro x3_7 x4_7 ls hl hsp; exact absurd (show none = some _ from hsp) (by simp)
    | succ fu ih_7 =>
      intro x3_7 x4_7 ls hl hsp
      have hsp : (if x4_7 ≤ p2 then (some (x3_7, x4_7)) else (lp_X8_figure_7 p2 fu (x3_7 / (10 : Int32)) (x4_7 + (-1 : Int32)))) = some z1 := hsp
      refine lv_iload hx hb dX8_figure_7 (lv_at hl 2 rfl) (W.pc 9 rfl ?_)
      refine lv_iload_n hx hb dX8_figure_9 rfl (lv_at hl 0 rfl) (W.pc 10 rfl ?_)
      refine lv_icmp_le (tgt := 24) hx hb dX8_figure_10 (by decide) (fun c2 => ?_) (fun c2 => W.pc 13 rfl ?_)
      · have hsp := ip hsp c2
        obtain rfl := Option.some.inj hsp
        exact hk_7 _ (lv_sub hl [1] rfl)
      · have hsp := iq hsp c2
        refine lv_iload_n hx hb dX8_figure_13 rfl (lv_at hl 1 rfl) (W.pc 14 rfl ?_)
        refine lv_bipush (v := (10 : Int32)) hx hb dX8_figure_14 (by decide) (W.pc 16 rfl ?_)
        refine lv_idiv hx hb dX8_figure_16 (by decide) (W.pc 17 rfl ?_)
        refine lv_istore_n (lv' := [(3, .int (x3_7 / (10 : Int32))), (2, .int p2), (4, .int x4_7)]) hx hb dX8_figure_17 rfl hl (by decide) rfl (fun ls hl => W.pc 18 rfl ?_)
        refine lv_iinc (v := (x4_7 + (-1 : Int32))) (lv' := [(4, .int (x4_7 + (-1 : Int32))), (3, .int (x3_7 / (10 : Int32))), (2, .int p2)]) hx hb dX8_figure_18 hl (k := 2) rfl rfl (by decide) rfl (fun ls hl => W.pc 21 rfl ?_)
        refine lv_goto (tgt := 7) hx hb dX8_figure_21 (by decide) ?_
        exact ih_7 (x3_7 / (10 : Int32)) (x4_7 + (-1 : Int32)) _ (lv_sub hl [2, 1, 0] rfl) hsp
  obtain ⟨z1, hr_z1, hsp⟩ := bd_s hsp
  refine L_7 z1 (fun ls hl => ?_) FU p0 (p1 - (1 : Int32)) _ (lv_sub hl [4, 1, 0] rfl) hr_z1
  refine lv_iload_n hx hb dX8_figure_24 rfl (lv_at hl 0 rfl) (W.pc 25 rfl ?_)
  refine lv_bipush (v := (10 : Int32)) hx hb dX8_figure_25 (by decide) (W.pc 27 rfl ?_)
  refine lv_irem hx hb dX8_figure_27 (by decide) (W.pc 28 rfl ?_)
  obtain rfl := Option.some.inj hsp
  exact rRi hX rfl dX8_figure_28
noncomputable def lp_X8_buildsAll_9 (p1 : Int32) (p2 : Int32) (fa0_line : Nat → Int32) : Nat → Int32 → Int32 → ((Nat → Int32)) → Option (Int32 × Int32 × (Nat → Int32))
 | 0, _, _, _ => none
 | fu + 1, x3_9, x4_9, ya0_tried_f_9 => if p2 ≤ x4_9 then (some (x3_9, x4_9, ya0_tried_f_9)) else (if x3_9 = 0 then (some (x3_9, x4_9, ya0_tried_f_9)) else (gi x4_9 4 (gi ((3 : Int32) + (fa0_line (x4_9).toNatClampNeg)) 682 (lt_ (if (5 : Int32) ≤ (ya0_tried_f_9 (((3 : Int32) + (fa0_line (x4_9).toNatClampNeg))).toNatClampNeg) then ((0 : Int32)) else ((1 : Int32))) fun z7 => Option.bind (if z7 = 0 then (some ya0_tried_f_9) else (Option.bind (sp_X8_figure p1 p2 x4_9) fun z13 => Option.bind (sp_X8_builds (fa0_line (x4_9).toNatClampNeg) (z13 - (1 : Int32)) (ya0_tried_f_9 ((1 : Int32)).toNatClampNeg) ya0_tried_f_9) fun z14 => Option.bind (sp_X8_passes z14) fun z15 => some z15)) fun z10 => lp_X8_buildsAll_9 p1 p2 fa0_line fu z7 (x4_9 + (1 : Int32)) z10))))
noncomputable def sp_X8_buildsAll (p1 : Int32) (p2 : Int32) (fa0_town : Nat → Int32) (fa0_tried : Nat → Int32) (fa0_line : Nat → Int32) : Option (Int32 × (Nat → Int32)) := Option.bind (sp_X8_triesOn fa0_town fa0_tried) fun z1 => Option.bind (lp_X8_buildsAll_9 p1 p2 fa0_line FU (1 : Int32) (0 : Int32) z1) fun z2 => gd (z2.1 = 0 ∨ z2.1 = 1) (some (z2.1, z2.2.2))
set_option maxHeartbeats 4000000 in
set_option maxRecDepth 100000 in
theorem c_X8_buildsAll (l : Launch) (E : wE) (a0 a0_text a0_town a0_draft a0_tried a0_images a0_kept a0_refused a0_line a0_best : Nat) (p1 : Int32) (p2 : Int32) (a0_letters : Int32) (a0_above : Int64) (a0_below : Int64) (a0_at : Int32) (a0_start : Int32) (a0_isWell : Int32) (a0_faultAt : Int32) (fa0_town : Nat → Int32) (fa0_tried : Nat → Int32) (fa0_line : Nat → Int32) (z_0 : Int32) (z_1 : (Nat → Int32)) (hsp : sp_X8_buildsAll p1 p2 fa0_town fa0_tried fa0_line = some (z_0, z_1)) : MW l yX8_buildsAll cX8_buildsAll 5 (some .boolean) 4 E [.ref a0, .int p1, .int p2] [(a0, .inr (5, [.ref a0_text, .int a0_letters, .ref a0_town, .ref a0_draft, .ref a0_tried, .ref a0_images, .ref a0_kept, .ref a0_refused, .long a0_above, .long a0_below, .ref a0_line, .ref a0_best, .int a0_at, .int a0_start, .int a0_isWell, .int a0_faultAt])), (a0_town, aI E 682 fa0_town), (a0_tried, aI E 682 fa0_tried), (a0_line, aI E 4 fa0_line)] (some (.int z_0)) [(a0, .inr (5, [.ref a0_text, .int a0_letters, .ref a0_town, .ref a0_draft, .ref a0_tried, .ref a0_images, .ref a0_kept, .ref a0_refused, .long a0_above, .long a0_below, .ref a0_line, .ref a0_best, .int a0_at, .int a0_start, .int a0_isWell, .int a0_faultAt])), (a0_town, aI E 682 fa0_town), (a0_tried, aI E 682 z_1), (a0_line, aI E 4 fa0_line)] := by
  refine MW.of (by decide +kernel) (Nat.le_of_ble_eq_true rfl) ?_
  intro p e s m below meth c ls A hX hK hP hD hS hA hl
  have hX : CX p s m [.ref a0, .int p1, .int p2].toArray meth c cX8_buildsAll 5 (some .boolean) RX8 := hX
  have hx := hX.1; have hb := hX.2.1; have hts := hX.2.2.2.2.1; have hown := hX.2.2.2.2.2.1
  have hl : lv_has ls 5 [(0, .ref a0), (1, .int p1), (2, .int p2)] := hl
  have hP : wP E [(a0, .inr (5, [.ref a0_text, .int a0_letters, .ref a0_town, .ref a0_draft, .ref a0_tried, .ref a0_images, .ref a0_kept, .ref a0_refused, .long a0_above, .long a0_below, .ref a0_line, .ref a0_best, .int a0_at, .int a0_start, .int a0_isWell, .int a0_faultAt])), (a0_town, aI E 682 fa0_town), (a0_tried, aI E 682 fa0_tried), (a0_line, aI E 4 fa0_line)] s.heap := hP
  have hsp : (Option.bind (sp_X8_triesOn fa0_town fa0_tried) fun z1 => Option.bind (lp_X8_buildsAll_9 p1 p2 fa0_line FU (1 : Int32) (0 : Int32) z1) fun z2 => gd (z2.1 = 0 ∨ z2.1 = 1) (some (z2.1, z2.2.2))) = some (z_0, z_1) := hsp
  refine lv_aload_n hx hb dX8_buildsAll_0 rfl (lv_at hl 0 rfl) (W.pc 1 rfl ?_)
  obtain ⟨z1, hr_z1, hsp⟩ := bd_s hsp
  refine kVW (st1 := []) (ws' := [(a0, .inr (5, [.ref a0_text, .int a0_letters, .ref a0_town, .ref a0_draft, .ref a0_tried, .ref a0_images, .ref a0_kept, .ref a0_refused, .long a0_above, .long a0_below, .ref a0_line, .ref a0_best, .int a0_at, .int a0_start, .int a0_isWell, .int a0_faultAt])), (a0_town, aI E 682 fa0_town), (a0_tried, aI E 682 z1), (a0_line, aI E 4 fa0_line)]) [0, 1, 2] hX (c_X8_triesOn l E a0 a0_text a0_town a0_draft a0_tried a0_images a0_kept a0_refused a0_line a0_best a0_letters a0_above a0_below a0_at a0_start a0_isWell a0_faultAt fa0_town fa0_tried z1 hr_z1) B_X8_triesOn w_5_57 hK hP hD hS hA (by decide) rfl rfl rfl (q0 := 0) (ci := 5) rfl rfl rfl rfl hl.1 rfl (Nat.le_of_ble_eq_true rfl) ⟨Nat.le_of_ble_eq_true rfl, Nat.le_of_ble_eq_true rfl⟩ dX8_buildsAll_1 rfl (fun H locs hP hD hS => W.pc 4 rfl ?_)
  refine lv_iconst (v := (1 : Int32)) hx hb dX8_buildsAll_4 (by decide) (W.pc 5 rfl ?_)
  refine lv_istore_n (lv' := [(3, .int (1 : Int32)), (0, .ref a0), (1, .int p1), (2, .int p2)]) hx hb dX8_buildsAll_5 rfl hl (by decide) rfl (fun ls hl => W.pc 6 rfl ?_)
  refine lv_iconst (v := (0 : Int32)) hx hb dX8_buildsAll_6 (by decide) (W.pc 7 rfl ?_)
  refine lv_istore (lv' := [(4, .int (0 : Int32)), (3, .int (1 : Int32)), (0, .ref a0), (1, .int p1), (2, .int p2)]) hx hb dX8_buildsAll_7 hl (by decide) rfl (fun ls hl => W.pc 9 rfl ?_)
  have L_9 : ∀ (z2 : Int32 × Int32 × (Nat → Int32)), (∀ (H : Heap) (locs : List Loc) (ls : Array Slot), wP E [(a0, .inr (5, [.ref a0_text, .int a0_letters, .ref a0_town, .ref a0_draft, .ref a0_tried, .ref a0_images, .ref a0_kept, .ref a0_refused, .long a0_above, .long a0_below, .ref a0_line, .ref a0_best, .int a0_at, .int a0_start, .int a0_isWell, .int a0_faultAt])), (a0_town, aI E 682 fa0_town), (a0_tried, aI E 682 z2.2.2), (a0_line, aI E 4 fa0_line)] H → va_D A [(a0, .inr (5, [.ref a0_text, .int a0_letters, .ref a0_town, .ref a0_draft, .ref a0_tried, .ref a0_images, .ref a0_kept, .ref a0_refused, .long a0_above, .long a0_below, .ref a0_line, .ref a0_best, .int a0_at, .int a0_start, .int a0_isWell, .int a0_faultAt])), (a0_town, aI E 682 fa0_town), (a0_tried, aI E 682 z2.2.2), (a0_line, aI E 4 fa0_line)] → va_S A s.heap H locs → lv_has ls 5 [(3, .int z2.1)] → W p l e (wR 4) s m [.ref a0, .int p1, .int p2].toArray below meth c H locs 0 0 (MQ below (QWd E A (some (.int z_0)) [(a0, .inr (5, [.ref a0_text, .int a0_letters, .ref a0_town, .ref a0_draft, .ref a0_tried, .ref a0_images, .ref a0_kept, .ref a0_refused, .long a0_above, .long a0_below, .ref a0_line, .ref a0_best, .int a0_at, .int a0_start, .int a0_isWell, .int a0_faultAt])), (a0_town, aI E 682 fa0_town), (a0_tried, aI E 682 z_1), (a0_line, aI E 4 fa0_line)]) [.ref a0, .int p1, .int p2].toArray s 0 0 A) (F0 m 89 ls [])) → ∀ (fu : Nat) (x3_9 : Int32) (x4_9 : Int32) (ya0_tried_f_9 : (Nat → Int32)), ∀ (H : Heap) (locs : List Loc) (ls : Array Slot), wP E [(a0, .inr (5, [.ref a0_text, .int a0_letters, .ref a0_town, .ref a0_draft, .ref a0_tried, .ref a0_images, .ref a0_kept, .ref a0_refused, .long a0_above, .long a0_below, .ref a0_line, .ref a0_best, .int a0_at, .int a0_start, .int a0_isWell, .int a0_faultAt])), (a0_town, aI E 682 fa0_town), (a0_tried, aI E 682 ya0_tried_f_9), (a0_line, aI E 4 fa0_line)] H → va_D A [(a0, .inr (5, [.ref a0_text, .int a0_letters, .ref a0_town, .ref a0_draft, .ref a0_tried, .ref a0_images, .ref a0_kept, .ref a0_refused, .long a0_above, .long a0_below, .ref a0_line, .ref a0_best, .int a0_at, .int a0_start, .int a0_isWell, .int a0_faultAt])), (a0_town, aI E 682 fa0_town), (a0_tried, aI E 682 ya0_tried_f_9), (a0_line, aI E 4 fa0_line)] → va_S A s.heap H locs → lv_has ls 5 [(0, .ref a0), (1, .int p1), (2, .int p2), (3, .int x3_9), (4, .int x4_9)] → lp_X8_buildsAll_9 p1 p2 fa0_line fu x3_9 x4_9 ya0_tried_f_9 = some z2 → W p l e (wR 4) s m [.ref a0, .int p1, .int p2].toArray below meth c H locs 0 0 (MQ below (QWd E A (some (.int z_0)) [(a0, .inr (5, [.ref a0_text, .int a0_letters, .ref a0_town, .ref a0_draft, .ref a0_tried, .ref a0_images, .ref a0_kept, .ref a0_refused, .long a0_above, .long a0_below, .ref a0_line, .ref a0_best, .int a0_at, .int a0_start, .int a0_isWell, .int a0_faultAt])), (a0_town, aI E 682 fa0_town), (a0_tried, aI E 682 z_1), (a0_line, aI E 4 fa0_line)]) [.ref a0, .int p1, .int p2].toArray s 0 0 A) (F0 m 9 ls []) := by
    intro z2 hk_9 fu
    induction fu with
    | zero => intro x3_9 x4_9 ya0_tried_f_9 H locs ls hP hD hS hl hsp; exact absurd (show none = some _ from hsp) (by simp)
    | succ fu ih_9 =>
      intro x3_9 x4_9 ya0_tried_f_9 H locs ls hP hD hS hl hsp
      have hsp : (if p2 ≤ x4_9 then (some (x3_9, x4_9, ya0_tried_f_9)) else (if x3_9 = 0 then (some (x3_9, x4_9, ya0_tried_f_9)) else (gi x4_9 4 (gi ((3 : Int32) + (fa0_line (x4_9).toNatClampNeg)) 682 (lt_ (if (5 : Int32) ≤ (ya0_tried_f_9 (((3 : Int32) + (fa0_line (x4_9).toNatClampNeg))).toNatClampNeg) then ((0 : Int32)) else ((1 : Int32))) fun z7 => Option.bind (if z7 = 0 then (some ya0_tried_f_9) else (Option.bind (sp_X8_figure p1 p2 x4_9) fun z13 => Option.bind (sp_X8_builds (fa0_line (x4_9).toNatClampNeg) (z13 - (1 : Int32)) (ya0_tried_f_9 ((1 : Int32)).toNatClampNeg) ya0_tried_f_9) fun z14 => Option.bind (sp_X8_passes z14) fun z15 => some z15)) fun z10 => lp_X8_buildsAll_9 p1 p2 fa0_line fu z7 (x4_9 + (1 : Int32)) z10))))) = some z2 := hsp
      refine lv_iload hx hb dX8_buildsAll_9 (lv_at hl 4 rfl) (W.pc 11 rfl ?_)
      refine lv_iload_n hx hb dX8_buildsAll_11 rfl (lv_at hl 2 rfl) (W.pc 12 rfl ?_)
      refine lv_icmp_ge (tgt := 89) hx hb dX8_buildsAll_12 (by decide) (fun c3 => ?_) (fun c3 => W.pc 15 rfl ?_)
      · have hsp := ip hsp c3
        obtain rfl := Option.some.inj hsp
        exact hk_9 _ _ _ hP hD hS (lv_sub hl [3] rfl)
      · have hsp := iq hsp c3
        refine lv_iload_n hx hb dX8_buildsAll_15 rfl (lv_at hl 3 rfl) (W.pc 16 rfl ?_)
        refine lv_if_eq (tgt := 89) hx hb dX8_buildsAll_16 (by decide) (fun c4 => ?_) (fun c4 => W.pc 19 rfl ?_)
        · have hsp := ip hsp c4
          obtain rfl := Option.some.inj hsp
          exact hk_9 _ _ _ hP hD hS (lv_sub hl [3] rfl)
        · have hsp := iq hsp c4
          refine lv_aload_n hx hb dX8_buildsAll_19 rfl (lv_at hl 0 rfl) (W.pc 20 rfl ?_)
          refine va_get (D := E.1) (ci := 5) (v := .ref a0_tried) (C := RX8) (T := TX8) (N := 16) hx hb hts inT_X8 hown hK hP 0 rfl rfl 4 (by decide) (hts _ w_4_72) (fun _ h9 => h9) rfl dX8_buildsAll_20 (W.pc 23 rfl ?_)
          refine lv_iconst (v := (3 : Int32)) hx hb dX8_buildsAll_23 (by decide) (W.pc 24 rfl ?_)
          refine lv_aload_n hx hb dX8_buildsAll_24 rfl (lv_at hl 0 rfl) (W.pc 25 rfl ?_)
          refine va_get (D := E.1) (ci := 5) (v := .ref a0_line) (C := RX8) (T := TX8) (N := 16) hx hb hts inT_X8 hown hK hP 0 rfl rfl 10 (by decide) (hts _ w_4_78) (fun _ h9 => h9) rfl dX8_buildsAll_25 (W.pc 28 rfl ?_)
          refine lv_iload hx hb dX8_buildsAll_28 (lv_at hl 4 rfl) (W.pc 30 rfl ?_)
          obtain ⟨h5, hsp⟩ := gi_s hsp
          refine va_iald hx hb hK hP 3 0 rfl rfl h5 dX8_buildsAll_30 (W.pc 31 rfl ?_)
          refine lv_iadd hx hb dX8_buildsAll_31 (W.pc 32 rfl ?_)
          obtain ⟨h6, hsp⟩ := gi_s hsp
          refine va_iald hx hb hK hP 2 0 rfl rfl h6 dX8_buildsAll_32 (W.pc 33 rfl ?_)
          refine lv_iconst (v := (5 : Int32)) hx hb dX8_buildsAll_33 (by decide) (W.pc 34 rfl ?_)
          obtain ⟨z7, hr_z7, hsp⟩ := ltb_s hsp
          have J8 : ∀ (H : Heap) (locs : List Loc) (ls : Array Slot), wP E [(a0, .inr (5, [.ref a0_text, .int a0_letters, .ref a0_town, .ref a0_draft, .ref a0_tried, .ref a0_images, .ref a0_kept, .ref a0_refused, .long a0_above, .long a0_below, .ref a0_line, .ref a0_best, .int a0_at, .int a0_start, .int a0_isWell, .int a0_faultAt])), (a0_town, aI E 682 fa0_town), (a0_tried, aI E 682 ya0_tried_f_9), (a0_line, aI E 4 fa0_line)] H → va_D A [(a0, .inr (5, [.ref a0_text, .int a0_letters, .ref a0_town, .ref a0_draft, .ref a0_tried, .ref a0_images, .ref a0_kept, .ref a0_refused, .long a0_above, .long a0_below, .ref a0_line, .ref a0_best, .int a0_at, .int a0_start, .int a0_isWell, .int a0_faultAt])), (a0_town, aI E 682 fa0_town), (a0_tried, aI E 682 ya0_tried_f_9), (a0_line, aI E 4 fa0_line)] → va_S A s.heap H locs → lv_has ls 5 [(0, .ref a0), (1, .int p1), (2, .int p2), (4, .int x4_9)] → W p l e (wR 4) s m [.ref a0, .int p1, .int p2].toArray below meth c H locs 0 0 (MQ below (QWd E A (some (.int z_0)) [(a0, .inr (5, [.ref a0_text, .int a0_letters, .ref a0_town, .ref a0_draft, .ref a0_tried, .ref a0_images, .ref a0_kept, .ref a0_refused, .long a0_above, .long a0_below, .ref a0_line, .ref a0_best, .int a0_at, .int a0_start, .int a0_isWell, .int a0_faultAt])), (a0_town, aI E 682 fa0_town), (a0_tried, aI E 682 z_1), (a0_line, aI E 4 fa0_line)]) [.ref a0, .int p1, .int p2].toArray s 0 0 A) (F0 m 42 ls [.int z7]) := by
            intro H locs ls hP hD hS hl
            refine lv_istore_n (lv' := [(3, .int z7), (0, .ref a0), (1, .int p1), (2, .int p2), (4, .int x4_9)]) hx hb dX8_buildsAll_42 rfl hl (by decide) rfl (fun ls hl => W.pc 43 rfl ?_)
            refine lv_iload_n hx hb dX8_buildsAll_43 rfl (lv_at hl 0 rfl) (W.pc 44 rfl ?_)
            obtain ⟨z10, hr_z10, hsp⟩ := bd_s hsp
            have J11 : ∀ (H : Heap) (locs : List Loc) (ls : Array Slot), wP E [(a0, .inr (5, [.ref a0_text, .int a0_letters, .ref a0_town, .ref a0_draft, .ref a0_tried, .ref a0_images, .ref a0_kept, .ref a0_refused, .long a0_above, .long a0_below, .ref a0_line, .ref a0_best, .int a0_at, .int a0_start, .int a0_isWell, .int a0_faultAt])), (a0_town, aI E 682 fa0_town), (a0_tried, aI E 682 z10), (a0_line, aI E 4 fa0_line)] H → va_D A [(a0, .inr (5, [.ref a0_text, .int a0_letters, .ref a0_town, .ref a0_draft, .ref a0_tried, .ref a0_images, .ref a0_kept, .ref a0_refused, .long a0_above, .long a0_below, .ref a0_line, .ref a0_best, .int a0_at, .int a0_start, .int a0_isWell, .int a0_faultAt])), (a0_town, aI E 682 fa0_town), (a0_tried, aI E 682 z10), (a0_line, aI E 4 fa0_line)] → va_S A s.heap H locs → lv_has ls 5 [(0, .ref a0), (1, .int p1), (2, .int p2), (3, .int z7), (4, .int x4_9)] → W p l e (wR 4) s m [.ref a0, .int p1, .int p2].toArray below meth c H locs 0 0 (MQ below (QWd E A (some (.int z_0)) [(a0, .inr (5, [.ref a0_text, .int a0_letters, .ref a0_town, .ref a0_draft, .ref a0_tried, .ref a0_images, .ref a0_kept, .ref a0_refused, .long a0_above, .long a0_below, .ref a0_line, .ref a0_best, .int a0_at, .int a0_start, .int a0_isWell, .int a0_faultAt])), (a0_town, aI E 682 fa0_town), (a0_tried, aI E 682 z_1), (a0_line, aI E 4 fa0_line)]) [.ref a0, .int p1, .int p2].toArray s 0 0 A) (F0 m 83 ls []) := by
              intro H locs ls hP hD hS hl
              refine lv_iinc (v := (x4_9 + (1 : Int32))) (lv' := [(4, .int (x4_9 + (1 : Int32))), (0, .ref a0), (1, .int p1), (2, .int p2), (3, .int z7)]) hx hb dX8_buildsAll_83 hl (k := 4) rfl rfl (by decide) rfl (fun ls hl => W.pc 86 rfl ?_)
              refine lv_goto (tgt := 9) hx hb dX8_buildsAll_86 (by decide) ?_
              exact ih_9 z7 (x4_9 + (1 : Int32)) z10 _ _ _ hP hD hS (lv_sub hl [1, 2, 3, 4, 0] rfl) hsp
            replace hsp := hr_z10
            refine lv_if_eq (tgt := 83) hx hb dX8_buildsAll_44 (by decide) (fun c12 => ?_) (fun c12 => W.pc 47 rfl ?_)
            · have hsp := ip hsp c12
              obtain rfl := Option.some.inj hsp
              exact J11 _ _ _ hP hD hS (lv_sub hl [1, 2, 3, 0, 4] rfl)
            · have hsp := iq hsp c12
              refine lv_aload_n hx hb dX8_buildsAll_47 rfl (lv_at hl 1 rfl) (W.pc 48 rfl ?_)
              refine va_get (D := E.1) (ci := 5) (v := .ref a0_tried) (C := RX8) (T := TX8) (N := 16) hx hb hts inT_X8 hown hK hP 0 rfl rfl 4 (by decide) (hts _ w_4_72) (fun _ h9 => h9) rfl dX8_buildsAll_48 (W.pc 51 rfl ?_)
              refine lv_aload_n hx hb dX8_buildsAll_51 rfl (lv_at hl 1 rfl) (W.pc 52 rfl ?_)
              refine va_get (D := E.1) (ci := 5) (v := .ref a0_line) (C := RX8) (T := TX8) (N := 16) hx hb hts inT_X8 hown hK hP 0 rfl rfl 10 (by decide) (hts _ w_4_78) (fun _ h9 => h9) rfl dX8_buildsAll_52 (W.pc 55 rfl ?_)
              refine lv_iload hx hb dX8_buildsAll_55 (lv_at hl 4 rfl) (W.pc 57 rfl ?_)
              refine va_iald hx hb hK hP 3 0 rfl rfl h5 dX8_buildsAll_57 (W.pc 58 rfl ?_)
              refine lv_iload_n hx hb dX8_buildsAll_58 rfl (lv_at hl 2 rfl) (W.pc 59 rfl ?_)
              refine lv_iload_n hx hb dX8_buildsAll_59 rfl (lv_at hl 3 rfl) (W.pc 60 rfl ?_)
              refine lv_iload hx hb dX8_buildsAll_60 (lv_at hl 4 rfl) (W.pc 62 rfl ?_)
              obtain ⟨z13, hr_z13, hsp⟩ := bd_s hsp
              refine kSR (st1 := [.int z13, .int (fa0_line (x4_9).toNatClampNeg), .ref a0_tried]) hX (c_X8_figure l E p1 p2 x4_9 z13 hr_z13) B_X8_figure w_5_96 hK (hP.pick [] rfl) rfl hl.1 rfl (Nat.le_of_ble_eq_true rfl) ⟨Nat.le_of_ble_eq_true rfl, Nat.le_of_ble_eq_true rfl⟩ dX8_buildsAll_62 rfl (W.pc 65 rfl ?_)
              refine lv_iconst (v := (1 : Int32)) hx hb dX8_buildsAll_65 (by decide) (W.pc 66 rfl ?_)
              refine lv_isub hx hb dX8_buildsAll_66 (W.pc 67 rfl ?_)
              refine lv_aload_n hx hb dX8_buildsAll_67 rfl (lv_at hl 1 rfl) (W.pc 68 rfl ?_)
              refine va_get (D := E.1) (ci := 5) (v := .ref a0_tried) (C := RX8) (T := TX8) (N := 16) hx hb hts inT_X8 hown hK hP 0 rfl rfl 4 (by decide) (hts _ w_4_72) (fun _ h9 => h9) rfl dX8_buildsAll_68 (W.pc 71 rfl ?_)
              refine lv_iconst (v := (1 : Int32)) hx hb dX8_buildsAll_71 (by decide) (W.pc 72 rfl ?_)
              refine va_iald hx hb hK hP 2 0 rfl rfl (vp_in_nI (n := 1) (N := 682) (by decide) (by decide)) dX8_buildsAll_72 (W.pc 73 rfl ?_)
              obtain ⟨z14, hr_z14, hsp⟩ := bd_s hsp
              refine kSW (st1 := []) (ws' := [(a0, .inr (5, [.ref a0_text, .int a0_letters, .ref a0_town, .ref a0_draft, .ref a0_tried, .ref a0_images, .ref a0_kept, .ref a0_refused, .long a0_above, .long a0_below, .ref a0_line, .ref a0_best, .int a0_at, .int a0_start, .int a0_isWell, .int a0_faultAt])), (a0_town, aI E 682 fa0_town), (a0_tried, aI E 682 z14), (a0_line, aI E 4 fa0_line)]) [2] hX (c_X8_builds l E a0_tried (fa0_line (x4_9).toNatClampNeg) (z13 - (1 : Int32)) (ya0_tried_f_9 ((1 : Int32)).toNatClampNeg) ya0_tried_f_9 z14 hr_z14) B_X8_builds w_4_234 hK hP hD hS hA (by decide) rfl rfl rfl rfl hl.1 rfl (Nat.le_of_ble_eq_true rfl) ⟨Nat.le_of_ble_eq_true rfl, Nat.le_of_ble_eq_true rfl⟩ dX8_buildsAll_73 rfl (fun H locs hP hD hS => W.pc 76 rfl ?_)
              refine lv_aload_n hx hb dX8_buildsAll_76 rfl (lv_at hl 1 rfl) (W.pc 77 rfl ?_)
              refine va_get (D := E.1) (ci := 5) (v := .ref a0_tried) (C := RX8) (T := TX8) (N := 16) hx hb hts inT_X8 hown hK hP 0 rfl rfl 4 (by decide) (hts _ w_4_72) (fun _ h9 => h9) rfl dX8_buildsAll_77 (W.pc 80 rfl ?_)
              obtain ⟨z15, hr_z15, hsp⟩ := bd_s hsp
              refine kSW (st1 := []) (ws' := [(a0, .inr (5, [.ref a0_text, .int a0_letters, .ref a0_town, .ref a0_draft, .ref a0_tried, .ref a0_images, .ref a0_kept, .ref a0_refused, .long a0_above, .long a0_below, .ref a0_line, .ref a0_best, .int a0_at, .int a0_start, .int a0_isWell, .int a0_faultAt])), (a0_town, aI E 682 fa0_town), (a0_tried, aI E 682 z15), (a0_line, aI E 4 fa0_line)]) [2] hX (c_X8_passes l E a0_tried z14 z15 hr_z15) B_X8_passes w_4_215 hK hP hD hS hA (by decide) rfl rfl rfl rfl hl.1 rfl (Nat.le_of_ble_eq_true rfl) ⟨Nat.le_of_ble_eq_true rfl, Nat.le_of_ble_eq_true rfl⟩ dX8_buildsAll_80 rfl (fun H locs hP hD hS => W.pc 83 rfl ?_)
              obtain rfl := Option.some.inj hsp
              exact J11 _ _ _ hP hD hS (lv_sub hl [1, 2, 3, 0, 4] rfl)
          replace hsp := hr_z7
          refine lv_icmp_ge (tgt := 41) hx hb dX8_buildsAll_34 (by decide) (fun c9 => ?_) (fun c9 => W.pc 37 rfl ?_)
          · have hsp := ip hsp c9
            refine lv_iconst (v := (0 : Int32)) hx hb dX8_buildsAll_41 (by decide) (W.pc 42 rfl ?_)
            subst hsp
            exact J8 _ _ _ hP hD hS (lv_sub hl [0, 1, 2, 4] rfl)
          · have hsp := iq hsp c9
            refine lv_iconst (v := (1 : Int32)) hx hb dX8_buildsAll_37 (by decide) (W.pc 38 rfl ?_)
            refine lv_goto (tgt := 42) hx hb dX8_buildsAll_38 (by decide) ?_
            subst hsp
            exact J8 _ _ _ hP hD hS (lv_sub hl [0, 1, 2, 4] rfl)
  obtain ⟨z2, hr_z2, hsp⟩ := bd_s hsp
  refine L_9 z2 (fun H locs ls hP hD hS hl => ?_) FU (1 : Int32) (0 : Int32) z1 _ _ _ hP hD hS (lv_sub hl [2, 3, 4, 1, 0] rfl) hr_z2
  refine lv_iload_n hx hb dX8_buildsAll_89 rfl (lv_at hl 0 rfl) (W.pc 90 rfl ?_)
  obtain ⟨h16, hsp⟩ := gd_s hsp
  cases hsp
  exact rWz hX (nz01 h16) hP hS rfl rfl dX8_buildsAll_90
noncomputable def lp_X8_counts_4 : Nat → Int32 → ((Nat → Int32)) → Option (Int32 × (Nat → Int32))
 | 0, _, _ => none
 | fu + 1, x2_4, ya0_line_f_4 => if x2_4 < 0 then (some ((0 : Int32), ya0_line_f_4)) else (gi x2_4 4 (if (6 : Int32) ≤ ((upd ya0_line_f_4 (x2_4).toNatClampNeg ((ya0_line_f_4 (x2_4).toNatClampNeg) + (1 : Int32))) (x2_4).toNatClampNeg) then (lp_X8_counts_4 fu (x2_4 + (-1 : Int32)) (upd (upd ya0_line_f_4 (x2_4).toNatClampNeg ((ya0_line_f_4 (x2_4).toNatClampNeg) + (1 : Int32))) (x2_4).toNatClampNeg (0 : Int32))) else (some ((1 : Int32), (upd ya0_line_f_4 (x2_4).toNatClampNeg ((ya0_line_f_4 (x2_4).toNatClampNeg) + (1 : Int32)))))))
noncomputable def sp_X8_counts (p1 : Int32) (fa0_line : Nat → Int32) : Option (Int32 × (Nat → Int32)) := lp_X8_counts_4 FU (p1 - (1 : Int32)) fa0_line
set_option maxHeartbeats 4000000 in
set_option maxRecDepth 100000 in
theorem c_X8_counts (l : Launch) (E : wE) (a0 a0_text a0_town a0_draft a0_tried a0_images a0_kept a0_refused a0_line a0_best : Nat) (p1 : Int32) (a0_letters : Int32) (a0_above : Int64) (a0_below : Int64) (a0_at : Int32) (a0_start : Int32) (a0_isWell : Int32) (a0_faultAt : Int32) (fa0_line : Nat → Int32) (z_0 : Int32) (z_1 : (Nat → Int32)) (hsp : sp_X8_counts p1 fa0_line = some (z_0, z_1)) : MW l yX8_counts cX8_counts 3 (some .boolean) 0 E [.ref a0, .int p1] [(a0, .inr (5, [.ref a0_text, .int a0_letters, .ref a0_town, .ref a0_draft, .ref a0_tried, .ref a0_images, .ref a0_kept, .ref a0_refused, .long a0_above, .long a0_below, .ref a0_line, .ref a0_best, .int a0_at, .int a0_start, .int a0_isWell, .int a0_faultAt])), (a0_line, aI E 4 fa0_line)] (some (.int z_0)) [(a0, .inr (5, [.ref a0_text, .int a0_letters, .ref a0_town, .ref a0_draft, .ref a0_tried, .ref a0_images, .ref a0_kept, .ref a0_refused, .long a0_above, .long a0_below, .ref a0_line, .ref a0_best, .int a0_at, .int a0_start, .int a0_isWell, .int a0_faultAt])), (a0_line, aI E 4 z_1)] := by
  refine MW.of (by decide +kernel) (Nat.le_of_ble_eq_true rfl) ?_
  intro p e s m below meth c ls A hX hK hP hD hS hA hl
  have hX : CX p s m [.ref a0, .int p1].toArray meth c cX8_counts 3 (some .boolean) RX8 := hX
  have hx := hX.1; have hb := hX.2.1; have hts := hX.2.2.2.2.1; have hown := hX.2.2.2.2.2.1
  have hl : lv_has ls 3 [(0, .ref a0), (1, .int p1)] := hl
  have hP : wP E [(a0, .inr (5, [.ref a0_text, .int a0_letters, .ref a0_town, .ref a0_draft, .ref a0_tried, .ref a0_images, .ref a0_kept, .ref a0_refused, .long a0_above, .long a0_below, .ref a0_line, .ref a0_best, .int a0_at, .int a0_start, .int a0_isWell, .int a0_faultAt])), (a0_line, aI E 4 fa0_line)] s.heap := hP
  have hsp : (lp_X8_counts_4 FU (p1 - (1 : Int32)) fa0_line) = some (z_0, z_1) := hsp
  refine lv_iload_n hx hb dX8_counts_0 rfl (lv_at hl 1 rfl) (W.pc 1 rfl ?_)
  refine lv_iconst (v := (1 : Int32)) hx hb dX8_counts_1 (by decide) (W.pc 2 rfl ?_)
  refine lv_isub hx hb dX8_counts_2 (W.pc 3 rfl ?_)
  refine lv_istore_n (lv' := [(2, .int (p1 - (1 : Int32))), (0, .ref a0), (1, .int p1)]) hx hb dX8_counts_3 rfl hl (by decide) rfl (fun ls hl => W.pc 4 rfl ?_)
  have L_4 : ∀ (fu : Nat) (x2_4 : Int32) (ya0_line_f_4 : (Nat → Int32)), ∀ (H : Heap) (locs : List Loc) (ls : Array Slot), wP E [(a0, .inr (5, [.ref a0_text, .int a0_letters, .ref a0_town, .ref a0_draft, .ref a0_tried, .ref a0_images, .ref a0_kept, .ref a0_refused, .long a0_above, .long a0_below, .ref a0_line, .ref a0_best, .int a0_at, .int a0_start, .int a0_isWell, .int a0_faultAt])), (a0_line, aI E 4 ya0_line_f_4)] H → va_D A [(a0, .inr (5, [.ref a0_text, .int a0_letters, .ref a0_town, .ref a0_draft, .ref a0_tried, .ref a0_images, .ref a0_kept, .ref a0_refused, .long a0_above, .long a0_below, .ref a0_line, .ref a0_best, .int a0_at, .int a0_start, .int a0_isWell, .int a0_faultAt])), (a0_line, aI E 4 ya0_line_f_4)] → va_S A s.heap H locs → lv_has ls 3 [(0, .ref a0), (2, .int x2_4)] → lp_X8_counts_4 fu x2_4 ya0_line_f_4 = some (z_0, z_1) → W p l e (wR 0) s m [.ref a0, .int p1].toArray below meth c H locs 0 0 (MQ below (QWd E A (some (.int z_0)) [(a0, .inr (5, [.ref a0_text, .int a0_letters, .ref a0_town, .ref a0_draft, .ref a0_tried, .ref a0_images, .ref a0_kept, .ref a0_refused, .long a0_above, .long a0_below, .ref a0_line, .ref a0_best, .int a0_at, .int a0_start, .int a0_isWell, .int a0_faultAt])), (a0_line, aI E 4 z_1)]) [.ref a0, .int p1].toArray s 0 0 A) (F0 m 4 ls []) := by
    intro fu
    induction fu with
    | zero => intro x2_4 ya0_line_f_4 H locs ls hP hD hS hl hsp; exact absurd (show none = some _ from hsp) (by simp)
    | succ fu ih_4 =>
      intro x2_4 ya0_line_f_4 H locs ls hP hD hS hl hsp
      have hsp : (if x2_4 < 0 then (some ((0 : Int32), ya0_line_f_4)) else (gi x2_4 4 (if (6 : Int32) ≤ ((upd ya0_line_f_4 (x2_4).toNatClampNeg ((ya0_line_f_4 (x2_4).toNatClampNeg) + (1 : Int32))) (x2_4).toNatClampNeg) then (lp_X8_counts_4 fu (x2_4 + (-1 : Int32)) (upd (upd ya0_line_f_4 (x2_4).toNatClampNeg ((ya0_line_f_4 (x2_4).toNatClampNeg) + (1 : Int32))) (x2_4).toNatClampNeg (0 : Int32))) else (some ((1 : Int32), (upd ya0_line_f_4 (x2_4).toNatClampNeg ((ya0_line_f_4 (x2_4).toNatClampNeg) + (1 : Int32)))))))) = some (z_0, z_1) := hsp
      refine lv_iload_n hx hb dX8_counts_4 rfl (lv_at hl 1 rfl) (W.pc 5 rfl ?_)
      refine lv_if_lt (tgt := 44) hx hb dX8_counts_5 (by decide) (fun c1 => ?_) (fun c1 => W.pc 8 rfl ?_)
      · have hsp := ip hsp c1
        refine lv_iconst (v := (0 : Int32)) hx hb dX8_counts_44 (by decide) (W.pc 45 rfl ?_)
        cases hsp
        exact rWz hX rfl hP hS rfl rfl dX8_counts_45
      · have hsp := iq hsp c1
        refine lv_aload_n hx hb dX8_counts_8 rfl (lv_at hl 0 rfl) (W.pc 9 rfl ?_)
        refine va_get (D := E.1) (ci := 5) (v := .ref a0_line) (C := RX8) (T := TX8) (N := 16) hx hb hts inT_X8 hown hK hP 0 rfl rfl 10 (by decide) (hts _ w_4_78) (fun _ h9 => h9) rfl dX8_counts_9 (W.pc 12 rfl ?_)
        refine lv_iload_n hx hb dX8_counts_12 rfl (lv_at hl 1 rfl) (W.pc 13 rfl ?_)
        refine lv_dup2_11 hx hb dX8_counts_13 rfl rfl (W.pc 14 rfl ?_)
        obtain ⟨h2, hsp⟩ := gi_s hsp
        refine va_iald hx hb hK hP 1 0 rfl rfl h2 dX8_counts_14 (W.pc 15 rfl ?_)
        refine lv_iconst (v := (1 : Int32)) hx hb dX8_counts_15 (by decide) (W.pc 16 rfl ?_)
        refine lv_iadd hx hb dX8_counts_16 (W.pc 17 rfl ?_)
        refine va_iast hx hb hK hP hD hS 1 0 rfl rfl h2 dX8_counts_17 (fun H locs hP hD hS => W.pc 18 rfl ?_)
        have hP : wP E [(a0, .inr (5, [.ref a0_text, .int a0_letters, .ref a0_town, .ref a0_draft, .ref a0_tried, .ref a0_images, .ref a0_kept, .ref a0_refused, .long a0_above, .long a0_below, .ref a0_line, .ref a0_best, .int a0_at, .int a0_start, .int a0_isWell, .int a0_faultAt])), (a0_line, aI E 4 (upd ya0_line_f_4 (x2_4).toNatClampNeg ((ya0_line_f_4 (x2_4).toNatClampNeg) + (1 : Int32))))] _ := hP
        have hD : va_D A [(a0, .inr (5, [.ref a0_text, .int a0_letters, .ref a0_town, .ref a0_draft, .ref a0_tried, .ref a0_images, .ref a0_kept, .ref a0_refused, .long a0_above, .long a0_below, .ref a0_line, .ref a0_best, .int a0_at, .int a0_start, .int a0_isWell, .int a0_faultAt])), (a0_line, aI E 4 (upd ya0_line_f_4 (x2_4).toNatClampNeg ((ya0_line_f_4 (x2_4).toNatClampNeg) + (1 : Int32))))] := hD
        refine lv_aload_n hx hb dX8_counts_18 rfl (lv_at hl 0 rfl) (W.pc 19 rfl ?_)
        refine va_get (D := E.1) (ci := 5) (v := .ref a0_line) (C := RX8) (T := TX8) (N := 16) hx hb hts inT_X8 hown hK hP 0 rfl rfl 10 (by decide) (hts _ w_4_78) (fun _ h9 => h9) rfl dX8_counts_19 (W.pc 22 rfl ?_)
        refine lv_iload_n hx hb dX8_counts_22 rfl (lv_at hl 1 rfl) (W.pc 23 rfl ?_)
        refine va_iald hx hb hK hP 1 0 rfl rfl h2 dX8_counts_23 (W.pc 24 rfl ?_)
        refine lv_bipush (v := (6 : Int32)) hx hb dX8_counts_24 (by decide) (W.pc 26 rfl ?_)
        refine lv_icmp_ge (tgt := 31) hx hb dX8_counts_26 (by decide) (fun c3 => ?_) (fun c3 => W.pc 29 rfl ?_)
        · have hsp := ip hsp c3
          refine lv_aload_n hx hb dX8_counts_31 rfl (lv_at hl 0 rfl) (W.pc 32 rfl ?_)
          refine va_get (D := E.1) (ci := 5) (v := .ref a0_line) (C := RX8) (T := TX8) (N := 16) hx hb hts inT_X8 hown hK hP 0 rfl rfl 10 (by decide) (hts _ w_4_78) (fun _ h9 => h9) rfl dX8_counts_32 (W.pc 35 rfl ?_)
          refine lv_iload_n hx hb dX8_counts_35 rfl (lv_at hl 1 rfl) (W.pc 36 rfl ?_)
          refine lv_iconst (v := (0 : Int32)) hx hb dX8_counts_36 (by decide) (W.pc 37 rfl ?_)
          refine va_iast hx hb hK hP hD hS 1 0 rfl rfl h2 dX8_counts_37 (fun H locs hP hD hS => W.pc 38 rfl ?_)
          have hP : wP E [(a0, .inr (5, [.ref a0_text, .int a0_letters, .ref a0_town, .ref a0_draft, .ref a0_tried, .ref a0_images, .ref a0_kept, .ref a0_refused, .long a0_above, .long a0_below, .ref a0_line, .ref a0_best, .int a0_at, .int a0_start, .int a0_isWell, .int a0_faultAt])), (a0_line, aI E 4 (upd (upd ya0_line_f_4 (x2_4).toNatClampNeg ((ya0_line_f_4 (x2_4).toNatClampNeg) + (1 : Int32))) (x2_4).toNatClampNeg (0 : Int32)))] _ := hP
          have hD : va_D A [(a0, .inr (5, [.ref a0_text, .int a0_letters, .ref a0_town, .ref a0_draft, .ref a0_tried, .ref a0_images, .ref a0_kept, .ref a0_refused, .long a0_above, .long a0_below, .ref a0_line, .ref a0_best, .int a0_at, .int a0_start, .int a0_isWell, .int a0_faultAt])), (a0_line, aI E 4 (upd (upd ya0_line_f_4 (x2_4).toNatClampNeg ((ya0_line_f_4 (x2_4).toNatClampNeg) + (1 : Int32))) (x2_4).toNatClampNeg (0 : Int32)))] := hD
          refine lv_iinc (v := (x2_4 + (-1 : Int32))) (lv' := [(2, .int (x2_4 + (-1 : Int32))), (0, .ref a0)]) hx hb dX8_counts_38 hl (k := 1) rfl rfl (by decide) rfl (fun ls hl => W.pc 41 rfl ?_)
          refine lv_goto (tgt := 4) hx hb dX8_counts_41 (by decide) ?_
          exact ih_4 (x2_4 + (-1 : Int32)) (upd (upd ya0_line_f_4 (x2_4).toNatClampNeg ((ya0_line_f_4 (x2_4).toNatClampNeg) + (1 : Int32))) (x2_4).toNatClampNeg (0 : Int32)) _ _ _ hP hD hS (lv_sub hl [1, 0] rfl) hsp
        · have hsp := iq hsp c3
          refine lv_iconst (v := (1 : Int32)) hx hb dX8_counts_29 (by decide) (W.pc 30 rfl ?_)
          cases hsp
          exact rWz hX rfl hP hS rfl rfl dX8_counts_30
  exact L_4 FU (p1 - (1 : Int32)) fa0_line _ _ _ hP hD hS (lv_sub hl [1, 0] rfl) hsp
noncomputable def lp_X8_order_24 : Nat → Int32 → ((Nat → Int32)) → Option (Int32 × (Nat → Int32))
 | 0, _, _ => none
 | fu + 1, x4_24, ya0_line_f_24 => if (4 : Int32) ≤ x4_24 then (some (x4_24, ya0_line_f_24)) else (gi x4_24 4 (lp_X8_order_24 fu (x4_24 + (1 : Int32)) (upd ya0_line_f_24 (x4_24).toNatClampNeg (0 : Int32))))
noncomputable def lp_X8_order_88 (z1 : Int32) (ya0_line_f_50 : (Nat → Int32)) : Nat → Int32 → ((Nat → Int32)) → Option (Int32 × (Nat → Int32))
 | 0, _, _ => none
 | fu + 1, x6_88, ya0_best_f_88 => if z1 ≤ x6_88 then (some (x6_88, ya0_best_f_88)) else (gi x6_88 4 (lp_X8_order_88 z1 ya0_line_f_50 fu (x6_88 + (1 : Int32)) (upd ya0_best_f_88 (x6_88).toNatClampNeg (ya0_line_f_50 (x6_88).toNatClampNeg))))
noncomputable def lp_X8_order_50 (p1 : Int32) (fa0_town : Nat → Int32) (z1 : Int32) : Nat → Int32 → Int32 → ((Nat → Int32)) → ((Nat → Int32)) → ((Nat → Int32)) → Option (Int32 × Int32 × (Nat → Int32) × (Nat → Int32) × (Nat → Int32))
 | 0, _, _, _, _, _ => none
 | fu + 1, x4_50, x5_50, ya0_line_f_50, ya0_tried_f_50, ya0_best_f_50 => if x5_50 = 0 then (some (x4_50, x5_50, ya0_line_f_50, ya0_tried_f_50, ya0_best_f_50)) else (Option.bind (sp_X8_buildsAll p1 z1 fa0_town ya0_tried_f_50 ya0_line_f_50) fun z10 => Option.bind (if z10.1 = 0 then (some (x4_50, ya0_best_f_50)) else (Option.bind (sp_X8_storeys z10.2) fun z14 => if z14 ≤ x4_50 then (some (x4_50, ya0_best_f_50)) else (Option.bind (sp_X8_storeys z10.2) fun z16 => Option.bind (lp_X8_order_88 z1 ya0_line_f_50 FU (0 : Int32) ya0_best_f_50) fun z17 => some (z16, z17.2)))) fun z11 => Option.bind (sp_X8_counts z1 ya0_line_f_50) fun z20 => lp_X8_order_50 p1 fa0_town z1 fu z11.1 z20.1 z20.2 z10.2 z11.2)
noncomputable def sp_X8_order (p1 : Int32) (p2 : Int32) (fa0_refused : Nat → Int32) (fa0_line : Nat → Int32) (fa0_town : Nat → Int32) (fa0_tried : Nat → Int32) (fa0_best : Nat → Int32) : Option (Int32 × (Nat → Int32) × (Nat → Int32) × (Nat → Int32) × (Nat → Int32)) := Option.bind (sp_X8_figures p1) fun z1 => if z1 = 0 then (lt_ (sp_X8_badly (-10 : Int32) fa0_refused) fun z3 => some (z3.1, z3.2, fa0_line, fa0_tried, fa0_best)) else (if (-1 : Int32) ≤ p2 then (Option.bind (lp_X8_order_24 FU (0 : Int32) fa0_line) fun z5 => Option.bind (lp_X8_order_50 p1 fa0_town z1 FU (-1 : Int32) (1 : Int32) z5.2 fa0_tried fa0_best) fun z8 => if z8.1 = (-1 : Int32) then (some (z8.1, fa0_refused, z8.2.2.1, z8.2.2.2.1, z8.2.2.2.2)) else (if p2 = (-1 : Int32) then (some (z8.1, fa0_refused, z8.2.2.1, z8.2.2.2.1, z8.2.2.2.2)) else (if z1 ≤ p2 then (some ((-5 : Int32), fa0_refused, z8.2.2.1, z8.2.2.2.1, z8.2.2.2.2)) else (gi p2 4 (some ((z8.2.2.2.2 (p2).toNatClampNeg), fa0_refused, z8.2.2.1, z8.2.2.2.1, z8.2.2.2.2)))))) else (lt_ (sp_X8_badly (-10 : Int32) fa0_refused) fun z25 => some (z25.1, z25.2, fa0_line, fa0_tried, fa0_best)))
set_option maxHeartbeats 4000000 in
set_option maxRecDepth 100000 in
theorem c_X8_order (l : Launch) (E : wE) (a0 a0_text a0_town a0_draft a0_tried a0_images a0_kept a0_refused a0_line a0_best : Nat) (p1 : Int32) (p2 : Int32) (a0_letters : Int32) (a0_above : Int64) (a0_below : Int64) (a0_at : Int32) (a0_start : Int32) (a0_isWell : Int32) (a0_faultAt : Int32) (fa0_refused : Nat → Int32) (fa0_line : Nat → Int32) (fa0_town : Nat → Int32) (fa0_tried : Nat → Int32) (fa0_best : Nat → Int32) (z_0 : Int32) (z_1 : (Nat → Int32)) (z_2 : (Nat → Int32)) (z_3 : (Nat → Int32)) (z_4 : (Nat → Int32)) (hsp : sp_X8_order p1 p2 fa0_refused fa0_line fa0_town fa0_tried fa0_best = some (z_0, z_1, z_2, z_3, z_4)) : MW l yX8_order cX8_order 7 (some .int) 5 E [.ref a0, .int p1, .int p2] [(a0, .inr (5, [.ref a0_text, .int a0_letters, .ref a0_town, .ref a0_draft, .ref a0_tried, .ref a0_images, .ref a0_kept, .ref a0_refused, .long a0_above, .long a0_below, .ref a0_line, .ref a0_best, .int a0_at, .int a0_start, .int a0_isWell, .int a0_faultAt])), (a0_refused, aI E 3 fa0_refused), (a0_line, aI E 4 fa0_line), (a0_town, aI E 682 fa0_town), (a0_tried, aI E 682 fa0_tried), (a0_best, aI E 4 fa0_best)] (some (.int z_0)) [(a0, .inr (5, [.ref a0_text, .int a0_letters, .ref a0_town, .ref a0_draft, .ref a0_tried, .ref a0_images, .ref a0_kept, .ref a0_refused, .long a0_above, .long a0_below, .ref a0_line, .ref a0_best, .int a0_at, .int a0_start, .int a0_isWell, .int a0_faultAt])), (a0_refused, aI E 3 z_1), (a0_line, aI E 4 z_2), (a0_town, aI E 682 fa0_town), (a0_tried, aI E 682 z_3), (a0_best, aI E 4 z_4)] := by
  refine MW.of (by decide +kernel) (Nat.le_of_ble_eq_true rfl) ?_
  intro p e s m below meth c ls A hX hK hP hD hS hA hl
  have hX : CX p s m [.ref a0, .int p1, .int p2].toArray meth c cX8_order 7 (some .int) RX8 := hX
  have hx := hX.1; have hb := hX.2.1; have hts := hX.2.2.2.2.1; have hown := hX.2.2.2.2.2.1
  have hl : lv_has ls 7 [(0, .ref a0), (1, .int p1), (2, .int p2)] := hl
  have hP : wP E [(a0, .inr (5, [.ref a0_text, .int a0_letters, .ref a0_town, .ref a0_draft, .ref a0_tried, .ref a0_images, .ref a0_kept, .ref a0_refused, .long a0_above, .long a0_below, .ref a0_line, .ref a0_best, .int a0_at, .int a0_start, .int a0_isWell, .int a0_faultAt])), (a0_refused, aI E 3 fa0_refused), (a0_line, aI E 4 fa0_line), (a0_town, aI E 682 fa0_town), (a0_tried, aI E 682 fa0_tried), (a0_best, aI E 4 fa0_best)] s.heap := hP
  have hsp : (Option.bind (sp_X8_figures p1) fun z1 => if z1 = 0 then (lt_ (sp_X8_badly (-10 : Int32) fa0_refused) fun z3 => some (z3.1, z3.2, fa0_line, fa0_tried, fa0_best)) else (if (-1 : Int32) ≤ p2 then (Option.bind (lp_X8_order_24 FU (0 : Int32) fa0_line) fun z5 => Option.bind (lp_X8_order_50 p1 fa0_town z1 FU (-1 : Int32) (1 : Int32) z5.2 fa0_tried fa0_best) fun z8 => if z8.1 = (-1 : Int32) then (some (z8.1, fa0_refused, z8.2.2.1, z8.2.2.2.1, z8.2.2.2.2)) else (if p2 = (-1 : Int32) then (some (z8.1, fa0_refused, z8.2.2.1, z8.2.2.2.1, z8.2.2.2.2)) else (if z1 ≤ p2 then (some ((-5 : Int32), fa0_refused, z8.2.2.1, z8.2.2.2.1, z8.2.2.2.2)) else (gi p2 4 (some ((z8.2.2.2.2 (p2).toNatClampNeg), fa0_refused, z8.2.2.1, z8.2.2.2.1, z8.2.2.2.2)))))) else (lt_ (sp_X8_badly (-10 : Int32) fa0_refused) fun z25 => some (z25.1, z25.2, fa0_line, fa0_tried, fa0_best)))) = some (z_0, z_1, z_2, z_3, z_4) := hsp
  refine lv_iload_n hx hb dX8_order_0 rfl (lv_at hl 1 rfl) (W.pc 1 rfl ?_)
  obtain ⟨z1, hr_z1, hsp⟩ := bd_s hsp
  refine kSR (st1 := [.int z1]) hX (c_X8_figures l E p1 z1 hr_z1) B_X8_figures w_5_89 hK (hP.pick [] rfl) rfl hl.1 rfl (Nat.le_of_ble_eq_true rfl) ⟨Nat.le_of_ble_eq_true rfl, Nat.le_of_ble_eq_true rfl⟩ dX8_order_1 rfl (W.pc 4 rfl ?_)
  refine lv_istore_n (lv' := [(3, .int z1), (0, .ref a0), (1, .int p1), (2, .int p2)]) hx hb dX8_order_4 rfl hl (by decide) rfl (fun ls hl => W.pc 5 rfl ?_)
  refine lv_iload_n hx hb dX8_order_5 rfl (lv_at hl 0 rfl) (W.pc 6 rfl ?_)
  refine lv_if_eq (tgt := 14) hx hb dX8_order_6 (by decide) (fun c2 => ?_) (fun c2 => W.pc 9 rfl ?_)
  · have hsp := ip hsp c2
    refine lv_aload_n hx hb dX8_order_14 rfl (lv_at hl 1 rfl) (W.pc 15 rfl ?_)
    refine lv_bipush (v := (-10 : Int32)) hx hb dX8_order_15 (by decide) (W.pc 17 rfl ?_)
    obtain ⟨z3, hr_z3, hsp⟩ := ltb_s hsp
    refine kVW (st1 := [.int z3.1]) (ws' := [(a0, .inr (5, [.ref a0_text, .int a0_letters, .ref a0_town, .ref a0_draft, .ref a0_tried, .ref a0_images, .ref a0_kept, .ref a0_refused, .long a0_above, .long a0_below, .ref a0_line, .ref a0_best, .int a0_at, .int a0_start, .int a0_isWell, .int a0_faultAt])), (a0_refused, aI E 3 z3.2), (a0_line, aI E 4 fa0_line), (a0_town, aI E 682 fa0_town), (a0_tried, aI E 682 fa0_tried), (a0_best, aI E 4 fa0_best)]) [0, 1] hX (c_X8_badly l E a0 a0_text a0_town a0_draft a0_tried a0_images a0_kept a0_refused a0_line a0_best (-10 : Int32) a0_letters a0_above a0_below a0_at a0_start a0_isWell a0_faultAt fa0_refused z3.1 z3.2 hr_z3) B_X8_badly w_4_148 hK hP hD hS hA (by decide) rfl rfl rfl (q0 := 0) (ci := 5) rfl rfl rfl rfl hl.1 rfl (Nat.le_of_ble_eq_true rfl) ⟨Nat.le_of_ble_eq_true rfl, Nat.le_of_ble_eq_true rfl⟩ dX8_order_17 rfl (fun H locs hP hD hS => W.pc 20 rfl ?_)
    cases hsp
    exact rWi hX hP hS rfl rfl dX8_order_20
  · have hsp := iq hsp c2
    refine lv_iload_n hx hb dX8_order_9 rfl (lv_at hl 3 rfl) (W.pc 10 rfl ?_)
    refine lv_iconst (v := (-1 : Int32)) hx hb dX8_order_10 (by decide) (W.pc 11 rfl ?_)
    refine lv_icmp_ge (tgt := 21) hx hb dX8_order_11 (by decide) (fun c4 => ?_) (fun c4 => W.pc 14 rfl ?_)
    · have hsp := ip hsp c4
      refine lv_iconst (v := (0 : Int32)) hx hb dX8_order_21 (by decide) (W.pc 22 rfl ?_)
      refine lv_istore (lv' := [(4, .int (0 : Int32)), (3, .int z1), (0, .ref a0), (1, .int p1), (2, .int p2)]) hx hb dX8_order_22 hl (by decide) rfl (fun ls hl => W.pc 24 rfl ?_)
      have L_24 : ∀ (z5 : Int32 × (Nat → Int32)), (∀ (H : Heap) (locs : List Loc) (ls : Array Slot), wP E [(a0, .inr (5, [.ref a0_text, .int a0_letters, .ref a0_town, .ref a0_draft, .ref a0_tried, .ref a0_images, .ref a0_kept, .ref a0_refused, .long a0_above, .long a0_below, .ref a0_line, .ref a0_best, .int a0_at, .int a0_start, .int a0_isWell, .int a0_faultAt])), (a0_refused, aI E 3 fa0_refused), (a0_line, aI E 4 z5.2), (a0_town, aI E 682 fa0_town), (a0_tried, aI E 682 fa0_tried), (a0_best, aI E 4 fa0_best)] H → va_D A [(a0, .inr (5, [.ref a0_text, .int a0_letters, .ref a0_town, .ref a0_draft, .ref a0_tried, .ref a0_images, .ref a0_kept, .ref a0_refused, .long a0_above, .long a0_below, .ref a0_line, .ref a0_best, .int a0_at, .int a0_start, .int a0_isWell, .int a0_faultAt])), (a0_refused, aI E 3 fa0_refused), (a0_line, aI E 4 z5.2), (a0_town, aI E 682 fa0_town), (a0_tried, aI E 682 fa0_tried), (a0_best, aI E 4 fa0_best)] → va_S A s.heap H locs → lv_has ls 7 [(0, .ref a0), (1, .int p1), (2, .int p2), (3, .int z1)] → W p l e (wR 5) s m [.ref a0, .int p1, .int p2].toArray below meth c H locs 0 0 (MQ below (QWd E A (some (.int z_0)) [(a0, .inr (5, [.ref a0_text, .int a0_letters, .ref a0_town, .ref a0_draft, .ref a0_tried, .ref a0_images, .ref a0_kept, .ref a0_refused, .long a0_above, .long a0_below, .ref a0_line, .ref a0_best, .int a0_at, .int a0_start, .int a0_isWell, .int a0_faultAt])), (a0_refused, aI E 3 z_1), (a0_line, aI E 4 z_2), (a0_town, aI E 682 fa0_town), (a0_tried, aI E 682 z_3), (a0_best, aI E 4 z_4)]) [.ref a0, .int p1, .int p2].toArray s 0 0 A) (F0 m 44 ls [])) → ∀ (fu : Nat) (x4_24 : Int32) (ya0_line_f_24 : (Nat → Int32)), ∀ (H : Heap) (locs : List Loc) (ls : Array Slot), wP E [(a0, .inr (5, [.ref a0_text, .int a0_letters, .ref a0_town, .ref a0_draft, .ref a0_tried, .ref a0_images, .ref a0_kept, .ref a0_refused, .long a0_above, .long a0_below, .ref a0_line, .ref a0_best, .int a0_at, .int a0_start, .int a0_isWell, .int a0_faultAt])), (a0_refused, aI E 3 fa0_refused), (a0_line, aI E 4 ya0_line_f_24), (a0_town, aI E 682 fa0_town), (a0_tried, aI E 682 fa0_tried), (a0_best, aI E 4 fa0_best)] H → va_D A [(a0, .inr (5, [.ref a0_text, .int a0_letters, .ref a0_town, .ref a0_draft, .ref a0_tried, .ref a0_images, .ref a0_kept, .ref a0_refused, .long a0_above, .long a0_below, .ref a0_line, .ref a0_best, .int a0_at, .int a0_start, .int a0_isWell, .int a0_faultAt])), (a0_refused, aI E 3 fa0_refused), (a0_line, aI E 4 ya0_line_f_24), (a0_town, aI E 682 fa0_town), (a0_tried, aI E 682 fa0_tried), (a0_best, aI E 4 fa0_best)] → va_S A s.heap H locs → lv_has ls 7 [(0, .ref a0), (1, .int p1), (2, .int p2), (3, .int z1), (4, .int x4_24)] → lp_X8_order_24 fu x4_24 ya0_line_f_24 = some z5 → W p l e (wR 5) s m [.ref a0, .int p1, .int p2].toArray below meth c H locs 0 0 (MQ below (QWd E A (some (.int z_0)) [(a0, .inr (5, [.ref a0_text, .int a0_letters, .ref a0_town, .ref a0_draft, .ref a0_tried, .ref a0_images, .ref a0_kept, .ref a0_refused, .long a0_above, .long a0_below, .ref a0_line, .ref a0_best, .int a0_at, .int a0_start, .int a0_isWell, .int a0_faultAt])), (a0_refused, aI E 3 z_1), (a0_line, aI E 4 z_2), (a0_town, aI E 682 fa0_town), (a0_tried, aI E 682 z_3), (a0_best, aI E 4 z_4)]) [.ref a0, .int p1, .int p2].toArray s 0 0 A) (F0 m 24 ls []) := by
        intro z5 hk_24 fu
        induction fu with
        | zero => intro x4_24 ya0_line_f_24 H locs ls hP hD hS hl hsp; exact absurd (show none = some _ from hsp) (by simp)
        | succ fu ih_24 =>
          intro x4_24 ya0_line_f_24 H locs ls hP hD hS hl hsp
          have hsp : (if (4 : Int32) ≤ x4_24 then (some (x4_24, ya0_line_f_24)) else (gi x4_24 4 (lp_X8_order_24 fu (x4_24 + (1 : Int32)) (upd ya0_line_f_24 (x4_24).toNatClampNeg (0 : Int32))))) = some z5 := hsp
          refine lv_iload hx hb dX8_order_24 (lv_at hl 4 rfl) (W.pc 26 rfl ?_)
          refine lv_iconst (v := (4 : Int32)) hx hb dX8_order_26 (by decide) (W.pc 27 rfl ?_)
          refine lv_icmp_ge (tgt := 44) hx hb dX8_order_27 (by decide) (fun c6 => ?_) (fun c6 => W.pc 30 rfl ?_)
          · have hsp := ip hsp c6
            obtain rfl := Option.some.inj hsp
            exact hk_24 _ _ _ hP hD hS (lv_sub hl [0, 1, 2, 3] rfl)
          · have hsp := iq hsp c6
            refine lv_aload_n hx hb dX8_order_30 rfl (lv_at hl 0 rfl) (W.pc 31 rfl ?_)
            refine va_get (D := E.1) (ci := 5) (v := .ref a0_line) (C := RX8) (T := TX8) (N := 16) hx hb hts inT_X8 hown hK hP 0 rfl rfl 10 (by decide) (hts _ w_4_78) (fun _ h9 => h9) rfl dX8_order_31 (W.pc 34 rfl ?_)
            refine lv_iload hx hb dX8_order_34 (lv_at hl 4 rfl) (W.pc 36 rfl ?_)
            refine lv_iconst (v := (0 : Int32)) hx hb dX8_order_36 (by decide) (W.pc 37 rfl ?_)
            obtain ⟨h7, hsp⟩ := gi_s hsp
            refine va_iast hx hb hK hP hD hS 2 0 rfl rfl h7 dX8_order_37 (fun H locs hP hD hS => W.pc 38 rfl ?_)
            have hP : wP E [(a0, .inr (5, [.ref a0_text, .int a0_letters, .ref a0_town, .ref a0_draft, .ref a0_tried, .ref a0_images, .ref a0_kept, .ref a0_refused, .long a0_above, .long a0_below, .ref a0_line, .ref a0_best, .int a0_at, .int a0_start, .int a0_isWell, .int a0_faultAt])), (a0_refused, aI E 3 fa0_refused), (a0_line, aI E 4 (upd ya0_line_f_24 (x4_24).toNatClampNeg (0 : Int32))), (a0_town, aI E 682 fa0_town), (a0_tried, aI E 682 fa0_tried), (a0_best, aI E 4 fa0_best)] _ := hP
            have hD : va_D A [(a0, .inr (5, [.ref a0_text, .int a0_letters, .ref a0_town, .ref a0_draft, .ref a0_tried, .ref a0_images, .ref a0_kept, .ref a0_refused, .long a0_above, .long a0_below, .ref a0_line, .ref a0_best, .int a0_at, .int a0_start, .int a0_isWell, .int a0_faultAt])), (a0_refused, aI E 3 fa0_refused), (a0_line, aI E 4 (upd ya0_line_f_24 (x4_24).toNatClampNeg (0 : Int32))), (a0_town, aI E 682 fa0_town), (a0_tried, aI E 682 fa0_tried), (a0_best, aI E 4 fa0_best)] := hD
            refine lv_iinc (v := (x4_24 + (1 : Int32))) (lv' := [(4, .int (x4_24 + (1 : Int32))), (0, .ref a0), (1, .int p1), (2, .int p2), (3, .int z1)]) hx hb dX8_order_38 hl (k := 4) rfl rfl (by decide) rfl (fun ls hl => W.pc 41 rfl ?_)
            refine lv_goto (tgt := 24) hx hb dX8_order_41 (by decide) ?_
            exact ih_24 (x4_24 + (1 : Int32)) (upd ya0_line_f_24 (x4_24).toNatClampNeg (0 : Int32)) _ _ _ hP hD hS (lv_sub hl [1, 2, 3, 4, 0] rfl) hsp
      obtain ⟨z5, hr_z5, hsp⟩ := bd_s hsp
      refine L_24 z5 (fun H locs ls hP hD hS hl => ?_) FU (0 : Int32) fa0_line _ _ _ hP hD hS (lv_sub hl [2, 3, 4, 1, 0] rfl) hr_z5
      refine lv_iconst (v := (-1 : Int32)) hx hb dX8_order_44 (by decide) (W.pc 45 rfl ?_)
      refine lv_istore (lv' := [(4, .int (-1 : Int32)), (0, .ref a0), (1, .int p1), (2, .int p2), (3, .int z1)]) hx hb dX8_order_45 hl (by decide) rfl (fun ls hl => W.pc 47 rfl ?_)
      refine lv_iconst (v := (1 : Int32)) hx hb dX8_order_47 (by decide) (W.pc 48 rfl ?_)
      refine lv_istore (lv' := [(5, .int (1 : Int32)), (4, .int (-1 : Int32)), (0, .ref a0), (1, .int p1), (2, .int p2), (3, .int z1)]) hx hb dX8_order_48 hl (by decide) rfl (fun ls hl => W.pc 50 rfl ?_)
      have L_50 : ∀ (z8 : Int32 × Int32 × (Nat → Int32) × (Nat → Int32) × (Nat → Int32)), (∀ (H : Heap) (locs : List Loc) (ls : Array Slot), wP E [(a0, .inr (5, [.ref a0_text, .int a0_letters, .ref a0_town, .ref a0_draft, .ref a0_tried, .ref a0_images, .ref a0_kept, .ref a0_refused, .long a0_above, .long a0_below, .ref a0_line, .ref a0_best, .int a0_at, .int a0_start, .int a0_isWell, .int a0_faultAt])), (a0_refused, aI E 3 fa0_refused), (a0_line, aI E 4 z8.2.2.1), (a0_town, aI E 682 fa0_town), (a0_tried, aI E 682 z8.2.2.2.1), (a0_best, aI E 4 z8.2.2.2.2)] H → va_D A [(a0, .inr (5, [.ref a0_text, .int a0_letters, .ref a0_town, .ref a0_draft, .ref a0_tried, .ref a0_images, .ref a0_kept, .ref a0_refused, .long a0_above, .long a0_below, .ref a0_line, .ref a0_best, .int a0_at, .int a0_start, .int a0_isWell, .int a0_faultAt])), (a0_refused, aI E 3 fa0_refused), (a0_line, aI E 4 z8.2.2.1), (a0_town, aI E 682 fa0_town), (a0_tried, aI E 682 z8.2.2.2.1), (a0_best, aI E 4 z8.2.2.2.2)] → va_S A s.heap H locs → lv_has ls 7 [(0, .ref a0), (2, .int p2), (3, .int z1), (4, .int z8.1)] → W p l e (wR 5) s m [.ref a0, .int p1, .int p2].toArray below meth c H locs 0 0 (MQ below (QWd E A (some (.int z_0)) [(a0, .inr (5, [.ref a0_text, .int a0_letters, .ref a0_town, .ref a0_draft, .ref a0_tried, .ref a0_images, .ref a0_kept, .ref a0_refused, .long a0_above, .long a0_below, .ref a0_line, .ref a0_best, .int a0_at, .int a0_start, .int a0_isWell, .int a0_faultAt])), (a0_refused, aI E 3 z_1), (a0_line, aI E 4 z_2), (a0_town, aI E 682 fa0_town), (a0_tried, aI E 682 z_3), (a0_best, aI E 4 z_4)]) [.ref a0, .int p1, .int p2].toArray s 0 0 A) (F0 m 124 ls [])) → ∀ (fu : Nat) (x4_50 : Int32) (x5_50 : Int32) (ya0_line_f_50 : (Nat → Int32)) (ya0_tried_f_50 : (Nat → Int32)) (ya0_best_f_50 : (Nat → Int32)), ∀ (H : Heap) (locs : List Loc) (ls : Array Slot), wP E [(a0, .inr (5, [.ref a0_text, .int a0_letters, .ref a0_town, .ref a0_draft, .ref a0_tried, .ref a0_images, .ref a0_kept, .ref a0_refused, .long a0_above, .long a0_below, .ref a0_line, .ref a0_best, .int a0_at, .int a0_start, .int a0_isWell, .int a0_faultAt])), (a0_refused, aI E 3 fa0_refused), (a0_line, aI E 4 ya0_line_f_50), (a0_town, aI E 682 fa0_town), (a0_tried, aI E 682 ya0_tried_f_50), (a0_best, aI E 4 ya0_best_f_50)] H → va_D A [(a0, .inr (5, [.ref a0_text, .int a0_letters, .ref a0_town, .ref a0_draft, .ref a0_tried, .ref a0_images, .ref a0_kept, .ref a0_refused, .long a0_above, .long a0_below, .ref a0_line, .ref a0_best, .int a0_at, .int a0_start, .int a0_isWell, .int a0_faultAt])), (a0_refused, aI E 3 fa0_refused), (a0_line, aI E 4 ya0_line_f_50), (a0_town, aI E 682 fa0_town), (a0_tried, aI E 682 ya0_tried_f_50), (a0_best, aI E 4 ya0_best_f_50)] → va_S A s.heap H locs → lv_has ls 7 [(0, .ref a0), (1, .int p1), (2, .int p2), (3, .int z1), (4, .int x4_50), (5, .int x5_50)] → lp_X8_order_50 p1 fa0_town z1 fu x4_50 x5_50 ya0_line_f_50 ya0_tried_f_50 ya0_best_f_50 = some z8 → W p l e (wR 5) s m [.ref a0, .int p1, .int p2].toArray below meth c H locs 0 0 (MQ below (QWd E A (some (.int z_0)) [(a0, .inr (5, [.ref a0_text, .int a0_letters, .ref a0_town, .ref a0_draft, .ref a0_tried, .ref a0_images, .ref a0_kept, .ref a0_refused, .long a0_above, .long a0_below, .ref a0_line, .ref a0_best, .int a0_at, .int a0_start, .int a0_isWell, .int a0_faultAt])), (a0_refused, aI E 3 z_1), (a0_line, aI E 4 z_2), (a0_town, aI E 682 fa0_town), (a0_tried, aI E 682 z_3), (a0_best, aI E 4 z_4)]) [.ref a0, .int p1, .int p2].toArray s 0 0 A) (F0 m 50 ls []) := by
        intro z8 hk_50 fu
        induction fu with
        | zero => intro x4_50 x5_50 ya0_line_f_50 ya0_tried_f_50 ya0_best_f_50 H locs ls hP hD hS hl hsp; exact absurd (show none = some _ from hsp) (by simp)
        | succ fu ih_50 =>
          intro x4_50 x5_50 ya0_line_f_50 ya0_tried_f_50 ya0_best_f_50 H locs ls hP hD hS hl hsp
          have hsp : (if x5_50 = 0 then (some (x4_50, x5_50, ya0_line_f_50, ya0_tried_f_50, ya0_best_f_50)) else (Option.bind (sp_X8_buildsAll p1 z1 fa0_town ya0_tried_f_50 ya0_line_f_50) fun z10 => Option.bind (if z10.1 = 0 then (some (x4_50, ya0_best_f_50)) else (Option.bind (sp_X8_storeys z10.2) fun z14 => if z14 ≤ x4_50 then (some (x4_50, ya0_best_f_50)) else (Option.bind (sp_X8_storeys z10.2) fun z16 => Option.bind (lp_X8_order_88 z1 ya0_line_f_50 FU (0 : Int32) ya0_best_f_50) fun z17 => some (z16, z17.2)))) fun z11 => Option.bind (sp_X8_counts z1 ya0_line_f_50) fun z20 => lp_X8_order_50 p1 fa0_town z1 fu z11.1 z20.1 z20.2 z10.2 z11.2)) = some z8 := hsp
          refine lv_iload hx hb dX8_order_50 (lv_at hl 5 rfl) (W.pc 52 rfl ?_)
          refine lv_if_eq (tgt := 124) hx hb dX8_order_52 (by decide) (fun c9 => ?_) (fun c9 => W.pc 55 rfl ?_)
          · have hsp := ip hsp c9
            obtain rfl := Option.some.inj hsp
            exact hk_50 _ _ _ hP hD hS (lv_sub hl [0, 2, 3, 4] rfl)
          · have hsp := iq hsp c9
            refine lv_aload_n hx hb dX8_order_55 rfl (lv_at hl 0 rfl) (W.pc 56 rfl ?_)
            refine lv_iload_n hx hb dX8_order_56 rfl (lv_at hl 1 rfl) (W.pc 57 rfl ?_)
            refine lv_iload_n hx hb dX8_order_57 rfl (lv_at hl 3 rfl) (W.pc 58 rfl ?_)
            obtain ⟨z10, hr_z10, hsp⟩ := bd_s hsp
            refine kVW (st1 := [.int z10.1]) (ws' := [(a0, .inr (5, [.ref a0_text, .int a0_letters, .ref a0_town, .ref a0_draft, .ref a0_tried, .ref a0_images, .ref a0_kept, .ref a0_refused, .long a0_above, .long a0_below, .ref a0_line, .ref a0_best, .int a0_at, .int a0_start, .int a0_isWell, .int a0_faultAt])), (a0_refused, aI E 3 fa0_refused), (a0_line, aI E 4 ya0_line_f_50), (a0_town, aI E 682 fa0_town), (a0_tried, aI E 682 z10.2), (a0_best, aI E 4 ya0_best_f_50)]) [0, 3, 4, 2] hX (c_X8_buildsAll l E a0 a0_text a0_town a0_draft a0_tried a0_images a0_kept a0_refused a0_line a0_best p1 z1 a0_letters a0_above a0_below a0_at a0_start a0_isWell a0_faultAt fa0_town ya0_tried_f_50 ya0_line_f_50 z10.1 z10.2 hr_z10) B_X8_buildsAll w_5_92 hK hP hD hS hA (by decide) rfl rfl rfl (q0 := 0) (ci := 5) rfl rfl rfl rfl hl.1 rfl (Nat.le_of_ble_eq_true rfl) ⟨Nat.le_of_ble_eq_true rfl, Nat.le_of_ble_eq_true rfl⟩ dX8_order_58 rfl (fun H locs hP hD hS => W.pc 61 rfl ?_)
            obtain ⟨z11, hr_z11, hsp⟩ := bd_s hsp
            have J12 : ∀ (H : Heap) (locs : List Loc) (ls : Array Slot), wP E [(a0, .inr (5, [.ref a0_text, .int a0_letters, .ref a0_town, .ref a0_draft, .ref a0_tried, .ref a0_images, .ref a0_kept, .ref a0_refused, .long a0_above, .long a0_below, .ref a0_line, .ref a0_best, .int a0_at, .int a0_start, .int a0_isWell, .int a0_faultAt])), (a0_refused, aI E 3 fa0_refused), (a0_line, aI E 4 ya0_line_f_50), (a0_town, aI E 682 fa0_town), (a0_tried, aI E 682 z10.2), (a0_best, aI E 4 z11.2)] H → va_D A [(a0, .inr (5, [.ref a0_text, .int a0_letters, .ref a0_town, .ref a0_draft, .ref a0_tried, .ref a0_images, .ref a0_kept, .ref a0_refused, .long a0_above, .long a0_below, .ref a0_line, .ref a0_best, .int a0_at, .int a0_start, .int a0_isWell, .int a0_faultAt])), (a0_refused, aI E 3 fa0_refused), (a0_line, aI E 4 ya0_line_f_50), (a0_town, aI E 682 fa0_town), (a0_tried, aI E 682 z10.2), (a0_best, aI E 4 z11.2)] → va_S A s.heap H locs → lv_has ls 7 [(0, .ref a0), (1, .int p1), (2, .int p2), (3, .int z1), (4, .int z11.1)] → W p l e (wR 5) s m [.ref a0, .int p1, .int p2].toArray below meth c H locs 0 0 (MQ below (QWd E A (some (.int z_0)) [(a0, .inr (5, [.ref a0_text, .int a0_letters, .ref a0_town, .ref a0_draft, .ref a0_tried, .ref a0_images, .ref a0_kept, .ref a0_refused, .long a0_above, .long a0_below, .ref a0_line, .ref a0_best, .int a0_at, .int a0_start, .int a0_isWell, .int a0_faultAt])), (a0_refused, aI E 3 z_1), (a0_line, aI E 4 z_2), (a0_town, aI E 682 fa0_town), (a0_tried, aI E 682 z_3), (a0_best, aI E 4 z_4)]) [.ref a0, .int p1, .int p2].toArray s 0 0 A) (F0 m 114 ls []) := by
              intro H locs ls hP hD hS hl
              refine lv_aload_n hx hb dX8_order_114 rfl (lv_at hl 0 rfl) (W.pc 115 rfl ?_)
              refine lv_iload_n hx hb dX8_order_115 rfl (lv_at hl 3 rfl) (W.pc 116 rfl ?_)
              obtain ⟨z20, hr_z20, hsp⟩ := bd_s hsp
              refine kVW (st1 := [.int z20.1]) (ws' := [(a0, .inr (5, [.ref a0_text, .int a0_letters, .ref a0_town, .ref a0_draft, .ref a0_tried, .ref a0_images, .ref a0_kept, .ref a0_refused, .long a0_above, .long a0_below, .ref a0_line, .ref a0_best, .int a0_at, .int a0_start, .int a0_isWell, .int a0_faultAt])), (a0_refused, aI E 3 fa0_refused), (a0_line, aI E 4 z20.2), (a0_town, aI E 682 fa0_town), (a0_tried, aI E 682 z10.2), (a0_best, aI E 4 z11.2)]) [0, 2] hX (c_X8_counts l E a0 a0_text a0_town a0_draft a0_tried a0_images a0_kept a0_refused a0_line a0_best z1 a0_letters a0_above a0_below a0_at a0_start a0_isWell a0_faultAt ya0_line_f_50 z20.1 z20.2 hr_z20) B_X8_counts w_5_99 hK hP hD hS hA (by decide) rfl rfl rfl (q0 := 0) (ci := 5) rfl rfl rfl rfl hl.1 rfl (Nat.le_of_ble_eq_true rfl) ⟨Nat.le_of_ble_eq_true rfl, Nat.le_of_ble_eq_true rfl⟩ dX8_order_116 rfl (fun H locs hP hD hS => W.pc 119 rfl ?_)
              refine lv_istore (lv' := [(5, .int z20.1), (0, .ref a0), (1, .int p1), (2, .int p2), (3, .int z1), (4, .int z11.1)]) hx hb dX8_order_119 hl (by decide) rfl (fun ls hl => W.pc 121 rfl ?_)
              refine lv_goto (tgt := 50) hx hb dX8_order_121 (by decide) ?_
              exact ih_50 z11.1 z20.1 z20.2 z10.2 z11.2 _ _ _ hP hD hS (lv_sub hl [1, 2, 3, 4, 5, 0] rfl) hsp
            replace hsp := hr_z11
            refine lv_if_eq (tgt := 114) hx hb dX8_order_61 (by decide) (fun c13 => ?_) (fun c13 => W.pc 64 rfl ?_)
            · have hsp := ip hsp c13
              obtain rfl := Option.some.inj hsp
              exact J12 _ _ _ hP hD hS (lv_sub hl [0, 1, 2, 3, 4] rfl)
            · have hsp := iq hsp c13
              refine lv_aload_n hx hb dX8_order_64 rfl (lv_at hl 0 rfl) (W.pc 65 rfl ?_)
              refine va_get (D := E.1) (ci := 5) (v := .ref a0_tried) (C := RX8) (T := TX8) (N := 16) hx hb hts inT_X8 hown hK hP 0 rfl rfl 4 (by decide) (hts _ w_4_72) (fun _ h9 => h9) rfl dX8_order_65 (W.pc 68 rfl ?_)
              obtain ⟨z14, hr_z14, hsp⟩ := bd_s hsp
              refine kSR (st1 := [.int z14]) hX (c_X8_storeys l E a0_tried z10.2 z14 hr_z14) B_X8_storeys w_4_132 hK (hP.pick [4] rfl) rfl hl.1 rfl (Nat.le_of_ble_eq_true rfl) ⟨Nat.le_of_ble_eq_true rfl, Nat.le_of_ble_eq_true rfl⟩ dX8_order_68 rfl (W.pc 71 rfl ?_)
              refine lv_iload hx hb dX8_order_71 (lv_at hl 4 rfl) (W.pc 73 rfl ?_)
              refine lv_icmp_le (tgt := 114) hx hb dX8_order_73 (by decide) (fun c15 => ?_) (fun c15 => W.pc 76 rfl ?_)
              · have hsp := ip hsp c15
                obtain rfl := Option.some.inj hsp
                exact J12 _ _ _ hP hD hS (lv_sub hl [0, 1, 2, 3, 4] rfl)
              · have hsp := iq hsp c15
                refine lv_aload_n hx hb dX8_order_76 rfl (lv_at hl 0 rfl) (W.pc 77 rfl ?_)
                refine va_get (D := E.1) (ci := 5) (v := .ref a0_tried) (C := RX8) (T := TX8) (N := 16) hx hb hts inT_X8 hown hK hP 0 rfl rfl 4 (by decide) (hts _ w_4_72) (fun _ h9 => h9) rfl dX8_order_77 (W.pc 80 rfl ?_)
                obtain ⟨z16, hr_z16, hsp⟩ := bd_s hsp
                refine kSR (st1 := [.int z16]) hX (c_X8_storeys l E a0_tried z10.2 z16 hr_z16) B_X8_storeys w_4_132 hK (hP.pick [4] rfl) rfl hl.1 rfl (Nat.le_of_ble_eq_true rfl) ⟨Nat.le_of_ble_eq_true rfl, Nat.le_of_ble_eq_true rfl⟩ dX8_order_80 rfl (W.pc 83 rfl ?_)
                refine lv_istore (lv' := [(4, .int z16), (0, .ref a0), (1, .int p1), (2, .int p2), (3, .int z1), (5, .int x5_50)]) hx hb dX8_order_83 hl (by decide) rfl (fun ls hl => W.pc 85 rfl ?_)
                refine lv_iconst (v := (0 : Int32)) hx hb dX8_order_85 (by decide) (W.pc 86 rfl ?_)
                refine lv_istore (lv' := [(6, .int (0 : Int32)), (4, .int z16), (0, .ref a0), (1, .int p1), (2, .int p2), (3, .int z1), (5, .int x5_50)]) hx hb dX8_order_86 hl (by decide) rfl (fun ls hl => W.pc 88 rfl ?_)
                have L_88 : ∀ (z17 : Int32 × (Nat → Int32)), (∀ (H : Heap) (locs : List Loc) (ls : Array Slot), wP E [(a0, .inr (5, [.ref a0_text, .int a0_letters, .ref a0_town, .ref a0_draft, .ref a0_tried, .ref a0_images, .ref a0_kept, .ref a0_refused, .long a0_above, .long a0_below, .ref a0_line, .ref a0_best, .int a0_at, .int a0_start, .int a0_isWell, .int a0_faultAt])), (a0_refused, aI E 3 fa0_refused), (a0_line, aI E 4 ya0_line_f_50), (a0_town, aI E 682 fa0_town), (a0_tried, aI E 682 z10.2), (a0_best, aI E 4 z17.2)] H → va_D A [(a0, .inr (5, [.ref a0_text, .int a0_letters, .ref a0_town, .ref a0_draft, .ref a0_tried, .ref a0_images, .ref a0_kept, .ref a0_refused, .long a0_above, .long a0_below, .ref a0_line, .ref a0_best, .int a0_at, .int a0_start, .int a0_isWell, .int a0_faultAt])), (a0_refused, aI E 3 fa0_refused), (a0_line, aI E 4 ya0_line_f_50), (a0_town, aI E 682 fa0_town), (a0_tried, aI E 682 z10.2), (a0_best, aI E 4 z17.2)] → va_S A s.heap H locs → lv_has ls 7 [(0, .ref a0), (1, .int p1), (2, .int p2), (3, .int z1), (4, .int z16)] → W p l e (wR 5) s m [.ref a0, .int p1, .int p2].toArray below meth c H locs 0 0 (MQ below (QWd E A (some (.int z_0)) [(a0, .inr (5, [.ref a0_text, .int a0_letters, .ref a0_town, .ref a0_draft, .ref a0_tried, .ref a0_images, .ref a0_kept, .ref a0_refused, .long a0_above, .long a0_below, .ref a0_line, .ref a0_best, .int a0_at, .int a0_start, .int a0_isWell, .int a0_faultAt])), (a0_refused, aI E 3 z_1), (a0_line, aI E 4 z_2), (a0_town, aI E 682 fa0_town), (a0_tried, aI E 682 z_3), (a0_best, aI E 4 z_4)]) [.ref a0, .int p1, .int p2].toArray s 0 0 A) (F0 m 114 ls [])) → ∀ (fu : Nat) (x6_88 : Int32) (ya0_best_f_88 : (Nat → Int32)), ∀ (H : Heap) (locs : List Loc) (ls : Array Slot), wP E [(a0, .inr (5, [.ref a0_text, .int a0_letters, .ref a0_town, .ref a0_draft, .ref a0_tried, .ref a0_images, .ref a0_kept, .ref a0_refused, .long a0_above, .long a0_below, .ref a0_line, .ref a0_best, .int a0_at, .int a0_start, .int a0_isWell, .int a0_faultAt])), (a0_refused, aI E 3 fa0_refused), (a0_line, aI E 4 ya0_line_f_50), (a0_town, aI E 682 fa0_town), (a0_tried, aI E 682 z10.2), (a0_best, aI E 4 ya0_best_f_88)] H → va_D A [(a0, .inr (5, [.ref a0_text, .int a0_letters, .ref a0_town, .ref a0_draft, .ref a0_tried, .ref a0_images, .ref a0_kept, .ref a0_refused, .long a0_above, .long a0_below, .ref a0_line, .ref a0_best, .int a0_at, .int a0_start, .int a0_isWell, .int a0_faultAt])), (a0_refused, aI E 3 fa0_refused), (a0_line, aI E 4 ya0_line_f_50), (a0_town, aI E 682 fa0_town), (a0_tried, aI E 682 z10.2), (a0_best, aI E 4 ya0_best_f_88)] → va_S A s.heap H locs → lv_has ls 7 [(0, .ref a0), (1, .int p1), (2, .int p2), (3, .int z1), (4, .int z16), (6, .int x6_88)] → lp_X8_order_88 z1 ya0_line_f_50 fu x6_88 ya0_best_f_88 = some z17 → W p l e (wR 5) s m [.ref a0, .int p1, .int p2].toArray below meth c H locs 0 0 (MQ below (QWd E A (some (.int z_0)) [(a0, .inr (5, [.ref a0_text, .int a0_letters, .ref a0_town, .ref a0_draft, .ref a0_tried, .ref a0_images, .ref a0_kept, .ref a0_refused, .long a0_above, .long a0_below, .ref a0_line, .ref a0_best, .int a0_at, .int a0_start, .int a0_isWell, .int a0_faultAt])), (a0_refused, aI E 3 z_1), (a0_line, aI E 4 z_2), (a0_town, aI E 682 fa0_town), (a0_tried, aI E 682 z_3), (a0_best, aI E 4 z_4)]) [.ref a0, .int p1, .int p2].toArray s 0 0 A) (F0 m 88 ls []) := by
                  intro z17 hk_88 fu
                  induction fu with
                  | zero => intro x6_88 ya0_best_f_88 H locs ls hP hD hS hl hsp; exact absurd (show none = some _ from hsp) (by simp)
                  | succ fu ih_88 =>
                    intro x6_88 ya0_best_f_88 H locs ls hP hD hS hl hsp
                    have hsp : (if z1 ≤ x6_88 then (some (x6_88, ya0_best_f_88)) else (gi x6_88 4 (lp_X8_order_88 z1 ya0_line_f_50 fu (x6_88 + (1 : Int32)) (upd ya0_best_f_88 (x6_88).toNatClampNeg (ya0_line_f_50 (x6_88).toNatClampNeg))))) = some z17 := hsp
                    refine lv_iload hx hb dX8_order_88 (lv_at hl 5 rfl) (W.pc 90 rfl ?_)
                    refine lv_iload_n hx hb dX8_order_90 rfl (lv_at hl 3 rfl) (W.pc 91 rfl ?_)
                    refine lv_icmp_ge (tgt := 114) hx hb dX8_order_91 (by decide) (fun c18 => ?_) (fun c18 => W.pc 94 rfl ?_)
                    · have hsp := ip hsp c18
                      obtain rfl := Option.some.inj hsp
                      exact hk_88 _ _ _ hP hD hS (lv_sub hl [0, 1, 2, 3, 4] rfl)
                    · have hsp := iq hsp c18
                      refine lv_aload_n hx hb dX8_order_94 rfl (lv_at hl 0 rfl) (W.pc 95 rfl ?_)
                      refine va_get (D := E.1) (ci := 5) (v := .ref a0_best) (C := RX8) (T := TX8) (N := 16) hx hb hts inT_X8 hown hK hP 0 rfl rfl 11 (by decide) (hts _ w_4_79) (fun _ h9 => h9) rfl dX8_order_95 (W.pc 98 rfl ?_)
                      refine lv_iload hx hb dX8_order_98 (lv_at hl 5 rfl) (W.pc 100 rfl ?_)
                      refine lv_aload_n hx hb dX8_order_100 rfl (lv_at hl 0 rfl) (W.pc 101 rfl ?_)
                      refine va_get (D := E.1) (ci := 5) (v := .ref a0_line) (C := RX8) (T := TX8) (N := 16) hx hb hts inT_X8 hown hK hP 0 rfl rfl 10 (by decide) (hts _ w_4_78) (fun _ h9 => h9) rfl dX8_order_101 (W.pc 104 rfl ?_)
                      refine lv_iload hx hb dX8_order_104 (lv_at hl 5 rfl) (W.pc 106 rfl ?_)
                      obtain ⟨h19, hsp⟩ := gi_s hsp
                      refine va_iald hx hb hK hP 2 0 rfl rfl h19 dX8_order_106 (W.pc 107 rfl ?_)
                      refine va_iast hx hb hK hP hD hS 5 0 rfl rfl h19 dX8_order_107 (fun H locs hP hD hS => W.pc 108 rfl ?_)
                      have hP : wP E [(a0, .inr (5, [.ref a0_text, .int a0_letters, .ref a0_town, .ref a0_draft, .ref a0_tried, .ref a0_images, .ref a0_kept, .ref a0_refused, .long a0_above, .long a0_below, .ref a0_line, .ref a0_best, .int a0_at, .int a0_start, .int a0_isWell, .int a0_faultAt])), (a0_refused, aI E 3 fa0_refused), (a0_line, aI E 4 ya0_line_f_50), (a0_town, aI E 682 fa0_town), (a0_tried, aI E 682 z10.2), (a0_best, aI E 4 (upd ya0_best_f_88 (x6_88).toNatClampNeg (ya0_line_f_50 (x6_88).toNatClampNeg)))] _ := hP
                      have hD : va_D A [(a0, .inr (5, [.ref a0_text, .int a0_letters, .ref a0_town, .ref a0_draft, .ref a0_tried, .ref a0_images, .ref a0_kept, .ref a0_refused, .long a0_above, .long a0_below, .ref a0_line, .ref a0_best, .int a0_at, .int a0_start, .int a0_isWell, .int a0_faultAt])), (a0_refused, aI E 3 fa0_refused), (a0_line, aI E 4 ya0_line_f_50), (a0_town, aI E 682 fa0_town), (a0_tried, aI E 682 z10.2), (a0_best, aI E 4 (upd ya0_best_f_88 (x6_88).toNatClampNeg (ya0_line_f_50 (x6_88).toNatClampNeg)))] := hD
                      refine lv_iinc (v := (x6_88 + (1 : Int32))) (lv' := [(6, .int (x6_88 + (1 : Int32))), (0, .ref a0), (1, .int p1), (2, .int p2), (3, .int z1), (4, .int z16)]) hx hb dX8_order_108 hl (k := 5) rfl rfl (by decide) rfl (fun ls hl => W.pc 111 rfl ?_)
                      refine lv_goto (tgt := 88) hx hb dX8_order_111 (by decide) ?_
                      exact ih_88 (x6_88 + (1 : Int32)) (upd ya0_best_f_88 (x6_88).toNatClampNeg (ya0_line_f_50 (x6_88).toNatClampNeg)) _ _ _ hP hD hS (lv_sub hl [1, 2, 3, 4, 5, 0] rfl) hsp
                obtain ⟨z17, hr_z17, hsp⟩ := bd_s hsp
                refine L_88 z17 (fun H locs ls hP hD hS hl => ?_) FU (0 : Int32) ya0_best_f_50 _ _ _ hP hD hS (lv_sub hl [2, 3, 4, 5, 1, 0] rfl) hr_z17
                obtain rfl := Option.some.inj hsp
                exact J12 _ _ _ hP hD hS (lv_sub hl [0, 1, 2, 3, 4] rfl)
      obtain ⟨z8, hr_z8, hsp⟩ := bd_s hsp
      refine L_50 z8 (fun H locs ls hP hD hS hl => ?_) FU (-1 : Int32) (1 : Int32) z5.2 fa0_tried fa0_best _ _ _ hP hD hS (lv_sub hl [2, 3, 4, 5, 1, 0] rfl) hr_z8
      refine lv_iload hx hb dX8_order_124 (lv_at hl 3 rfl) (W.pc 126 rfl ?_)
      refine lv_iconst (v := (-1 : Int32)) hx hb dX8_order_126 (by decide) (W.pc 127 rfl ?_)
      refine lv_icmp_eq (tgt := 135) hx hb dX8_order_127 (by decide) (fun c21 => ?_) (fun c21 => W.pc 130 rfl ?_)
      · have hsp := ip hsp c21
        refine lv_iload hx hb dX8_order_135 (lv_at hl 3 rfl) (W.pc 137 rfl ?_)
        refine lv_goto (tgt := 156) hx hb dX8_order_137 (by decide) ?_
        cases hsp
        exact rWi hX hP hS rfl rfl dX8_order_156
      · have hsp := iq hsp c21
        refine lv_iload_n hx hb dX8_order_130 rfl (lv_at hl 1 rfl) (W.pc 131 rfl ?_)
        refine lv_iconst (v := (-1 : Int32)) hx hb dX8_order_131 (by decide) (W.pc 132 rfl ?_)
        refine lv_icmp_ne (tgt := 140) hx hb dX8_order_132 (by decide) (fun c22 => ?_) (fun c22 => W.pc 135 rfl ?_)
        · have hsp := iq hsp c22
          refine lv_iload_n hx hb dX8_order_140 rfl (lv_at hl 1 rfl) (W.pc 141 rfl ?_)
          refine lv_iload_n hx hb dX8_order_141 rfl (lv_at hl 2 rfl) (W.pc 142 rfl ?_)
          refine lv_icmp_ge (tgt := 154) hx hb dX8_order_142 (by decide) (fun c23 => ?_) (fun c23 => W.pc 145 rfl ?_)
          · have hsp := ip hsp c23
            refine lv_bipush (v := (-5 : Int32)) hx hb dX8_order_154 (by decide) (W.pc 156 rfl ?_)
            cases hsp
            exact rWi hX hP hS rfl rfl dX8_order_156
          · have hsp := iq hsp c23
            refine lv_aload_n hx hb dX8_order_145 rfl (lv_at hl 0 rfl) (W.pc 146 rfl ?_)
            refine va_get (D := E.1) (ci := 5) (v := .ref a0_best) (C := RX8) (T := TX8) (N := 16) hx hb hts inT_X8 hown hK hP 0 rfl rfl 11 (by decide) (hts _ w_4_79) (fun _ h9 => h9) rfl dX8_order_146 (W.pc 149 rfl ?_)
            refine lv_iload_n hx hb dX8_order_149 rfl (lv_at hl 1 rfl) (W.pc 150 rfl ?_)
            obtain ⟨h24, hsp⟩ := gi_s hsp
            refine va_iald hx hb hK hP 5 0 rfl rfl h24 dX8_order_150 (W.pc 151 rfl ?_)
            refine lv_goto (tgt := 156) hx hb dX8_order_151 (by decide) ?_
            cases hsp
            exact rWi hX hP hS rfl rfl dX8_order_156
        · have hsp := ip hsp c22
          refine lv_iload hx hb dX8_order_135 (lv_at hl 3 rfl) (W.pc 137 rfl ?_)
          refine lv_goto (tgt := 156) hx hb dX8_order_137 (by decide) ?_
          cases hsp
          exact rWi hX hP hS rfl rfl dX8_order_156
    · have hsp := iq hsp c4
      refine lv_aload_n hx hb dX8_order_14 rfl (lv_at hl 1 rfl) (W.pc 15 rfl ?_)
      refine lv_bipush (v := (-10 : Int32)) hx hb dX8_order_15 (by decide) (W.pc 17 rfl ?_)
      obtain ⟨z25, hr_z25, hsp⟩ := ltb_s hsp
      refine kVW (st1 := [.int z25.1]) (ws' := [(a0, .inr (5, [.ref a0_text, .int a0_letters, .ref a0_town, .ref a0_draft, .ref a0_tried, .ref a0_images, .ref a0_kept, .ref a0_refused, .long a0_above, .long a0_below, .ref a0_line, .ref a0_best, .int a0_at, .int a0_start, .int a0_isWell, .int a0_faultAt])), (a0_refused, aI E 3 z25.2), (a0_line, aI E 4 fa0_line), (a0_town, aI E 682 fa0_town), (a0_tried, aI E 682 fa0_tried), (a0_best, aI E 4 fa0_best)]) [0, 1] hX (c_X8_badly l E a0 a0_text a0_town a0_draft a0_tried a0_images a0_kept a0_refused a0_line a0_best (-10 : Int32) a0_letters a0_above a0_below a0_at a0_start a0_isWell a0_faultAt fa0_refused z25.1 z25.2 hr_z25) B_X8_badly w_4_148 hK hP hD hS hA (by decide) rfl rfl rfl (q0 := 0) (ci := 5) rfl rfl rfl rfl hl.1 rfl (Nat.le_of_ble_eq_true rfl) ⟨Nat.le_of_ble_eq_true rfl, Nat.le_of_ble_eq_true rfl⟩ dX8_order_17 rfl (fun H locs hP hD hS => W.pc 20 rfl ?_)
      cases hsp
      exact rWi hX hP hS rfl rfl dX8_order_20
