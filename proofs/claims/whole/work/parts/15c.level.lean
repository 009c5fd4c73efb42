theorem w_1_81 : Cond.fieldLink RX7 239 "LevelGone$Town" "noteCount" "I" ∈ TBL := TBL_t (tin1 (List.mem_of_getElem? (i := 81) (by decide +kernel))) (by decide +kernel)
theorem w_1_79 : Cond.fieldLink RX7 242 "LevelGone$Town" "notes" "[I" ∈ TBL := TBL_t (tin1 (List.mem_of_getElem? (i := 79) (by decide +kernel))) (by decide +kernel)
theorem w_3_173 : Cond.methodLink RX7 245 yX7_isName ∈ TBL := TBL_t (tin3 (List.mem_of_getElem? (i := 173) (by decide +kernel))) (by decide +kernel)
theorem w_1_85 : Cond.fieldLink RX7 248 "LevelGone$Town" "markCount" "I" ∈ TBL := TBL_t (tin1 (List.mem_of_getElem? (i := 85) (by decide +kernel))) (by decide +kernel)
theorem w_1_83 : Cond.fieldLink RX7 251 "LevelGone$Town" "marks" "[I" ∈ TBL := TBL_t (tin1 (List.mem_of_getElem? (i := 83) (by decide +kernel))) (by decide +kernel)
theorem w_3_184 : Cond.methodLink RX7 254 yX6_notesFit ∈ TBL := TBL_t (tin3 (List.mem_of_getElem? (i := 184) (by decide +kernel))) (by decide +kernel)
theorem w_3_192 : Cond.methodLink RX7 257 yX7_is ∈ TBL := TBL_t (tin3 (List.mem_of_getElem? (i := 192) (by decide +kernel))) (by decide +kernel)
theorem w_3_193 : Cond.methodLink RX7 260 yX7_mostAlike ∈ TBL := TBL_t (tin3 (List.mem_of_getElem? (i := 193) (by decide +kernel))) (by decide +kernel)
theorem w_3_175 : Cond.code yX7_isName cX7_isName 1 (some .boolean) ∈ TBL := TBL_t (tin3 (List.mem_of_getElem? (i := 175) (by decide +kernel))) (by decide +kernel)
theorem w_3_174 : Cond.static yX7_isName ∈ TBL := TBL_t (tin3 (List.mem_of_getElem? (i := 174) (by decide +kernel))) (by decide +kernel)
theorem w_3_186 : Cond.selects yX6_notesFit.cls yX6_notesFit yX6_notesFit ∈ TBL := TBL_t (tin3 (List.mem_of_getElem? (i := 186) (by decide +kernel))) (by decide +kernel)
theorem w_3_187 : Cond.code yX6_notesFit cX6_notesFit 7 (some .boolean) ∈ TBL := TBL_t (tin3 (List.mem_of_getElem? (i := 187) (by decide +kernel))) (by decide +kernel)
theorem w_3_185 : Cond.instanceMethod yX6_notesFit ∈ TBL := TBL_t (tin3 (List.mem_of_getElem? (i := 185) (by decide +kernel))) (by decide +kernel)
theorem w_3_182 : Cond.selects yX7_is.cls yX7_is yX7_is ∈ TBL := TBL_t (tin3 (List.mem_of_getElem? (i := 182) (by decide +kernel))) (by decide +kernel)
theorem w_3_183 : Cond.code yX7_is cX7_is 3 (some .int) ∈ TBL := TBL_t (tin3 (List.mem_of_getElem? (i := 183) (by decide +kernel))) (by decide +kernel)
theorem w_3_181 : Cond.instanceMethod yX7_is ∈ TBL := TBL_t (tin3 (List.mem_of_getElem? (i := 181) (by decide +kernel))) (by decide +kernel)
theorem w_3_196 : Cond.code yX7_mostAlike cX7_mostAlike 8 (some .int) ∈ TBL := TBL_t (tin3 (List.mem_of_getElem? (i := 196) (by decide +kernel))) (by decide +kernel)
theorem w_3_195 : Cond.instanceMethod yX7_mostAlike ∈ TBL := TBL_t (tin3 (List.mem_of_getElem? (i := 195) (by decide +kernel))) (by decide +kernel)
theorem ws_21 : Cond.selects yX7_mostAlike.cls yX7_mostAlike yX7_mostAlike ∈ TBL := TBL_s (List.mem_of_getElem? (i := 21) (by decide +kernel)) (by decide +kernel)
theorem B_X7_isName : cS yX7_isName cX7_isName 1 (some .boolean) 1 := ⟨w_3_175, w_3_174, w_1_1, by decide +kernel⟩
theorem B_X6_notesFit : cV yX6_notesFit cX6_notesFit 7 (some .boolean) 1 := ⟨w_3_187, w_3_185, w_3_186, w_1_2, by decide +kernel⟩
theorem B_X7_is : cV yX7_is cX7_is 3 (some .int) 0 := ⟨w_3_183, w_3_181, w_3_182, w_1_1, by decide +kernel⟩
theorem B_X7_mostAlike : cV yX7_mostAlike cX7_mostAlike 8 (some .int) 3 := ⟨w_3_196, w_3_195, (ws_21), w_1_1, by decide +kernel⟩
theorem dX7_built_0 : decode cX7_built 0 = .ok (.iload_n 1, 1) := by decide +kernel
theorem dX7_built_1 : decode cX7_built 1 = .ok (.invokestatic 58, 3) := by decide +kernel
theorem dX7_built_4 : decode cX7_built 4 = .ok (.ifCond .eq 10, 3) := by decide +kernel
theorem dX7_built_7 : decode cX7_built 7 = .ok (.iload_n 2, 1) := by decide +kernel
theorem dX7_built_8 : decode cX7_built 8 = .ok (.invokestatic 83, 3) := by decide +kernel
theorem dX7_built_11 : decode cX7_built 11 = .ok (.ifCond .ne 10, 3) := by decide +kernel
theorem dX7_built_14 : decode cX7_built 14 = .ok (.aload_n 0, 1) := by decide +kernel
theorem dX7_built_15 : decode cX7_built 15 = .ok (.bipush (-2), 2) := by decide +kernel
theorem dX7_built_17 : decode cX7_built 17 = .ok (.invokevirtual 62, 3) := by decide +kernel
theorem dX7_built_20 : decode cX7_built 20 = .ok (.ireturn, 1) := by decide +kernel
theorem dX7_built_21 : decode cX7_built 21 = .ok (.iconst 0, 1) := by decide +kernel
theorem dX7_built_22 : decode cX7_built 22 = .ok (.istore_n 3, 1) := by decide +kernel
theorem dX7_built_23 : decode cX7_built 23 = .ok (.iconst 0, 1) := by decide +kernel
theorem dX7_built_24 : decode cX7_built 24 = .ok (.istore 4, 2) := by decide +kernel
theorem dX7_built_26 : decode cX7_built 26 = .ok (.iconst 0, 1) := by decide +kernel
theorem dX7_built_27 : decode cX7_built 27 = .ok (.istore 5, 2) := by decide +kernel
theorem dX7_built_29 : decode cX7_built 29 = .ok (.iload 5, 2) := by decide +kernel
theorem dX7_built_31 : decode cX7_built 31 = .ok (.bipush 30, 2) := by decide +kernel
theorem dX7_built_33 : decode cX7_built 33 = .ok (.if_icmp .ge 41, 3) := by decide +kernel
theorem dX7_built_36 : decode cX7_built 36 = .ok (.iload 4, 2) := by decide +kernel
theorem dX7_built_38 : decode cX7_built 38 = .ok (.iload_n 2, 1) := by decide +kernel
theorem dX7_built_39 : decode cX7_built 39 = .ok (.if_icmp .ne 10, 3) := by decide +kernel
theorem dX7_built_42 : decode cX7_built 42 = .ok (.iload_n 3, 1) := by decide +kernel
theorem dX7_built_43 : decode cX7_built 43 = .ok (.iconst 1, 1) := by decide +kernel
theorem dX7_built_44 : decode cX7_built 44 = .ok (.iload 5, 2) := by decide +kernel
theorem dX7_built_46 : decode cX7_built 46 = .ok (.ishl, 1) := by decide +kernel
theorem dX7_built_47 : decode cX7_built 47 = .ok (.ior, 1) := by decide +kernel
theorem dX7_built_48 : decode cX7_built 48 = .ok (.istore_n 3, 1) := by decide +kernel
theorem dX7_built_49 : decode cX7_built 49 = .ok (.iload_n 1, 1) := by decide +kernel
theorem dX7_built_50 : decode cX7_built 50 = .ok (.iload 5, 2) := by decide +kernel
theorem dX7_built_52 : decode cX7_built 52 = .ok (.iload 4, 2) := by decide +kernel
theorem dX7_built_54 : decode cX7_built 54 = .ok (.aload_n 0, 1) := by decide +kernel
theorem dX7_built_55 : decode cX7_built 55 = .ok (.getfield 10, 3) := by decide +kernel
theorem dX7_built_58 : decode cX7_built 58 = .ok (.iload 5, 2) := by decide +kernel
theorem dX7_built_60 : decode cX7_built 60 = .ok (.invokevirtual 158, 3) := by decide +kernel
theorem dX7_built_63 : decode cX7_built 63 = .ok (.invokestatic 233, 3) := by decide +kernel
theorem dX7_built_66 : decode cX7_built 66 = .ok (.istore 4, 2) := by decide +kernel
theorem dX7_built_68 : decode cX7_built 68 = .ok (.iinc 5 1, 3) := by decide +kernel
theorem dX7_built_71 : decode cX7_built 71 = .ok (.goto (-42), 3) := by decide +kernel
theorem dX7_built_74 : decode cX7_built 74 = .ok (.iload_n 3, 1) := by decide +kernel
theorem dX7_built_75 : decode cX7_built 75 = .ok (.ireturn, 1) := by decide +kernel
theorem dX7_note_0 : decode cX7_note 0 = .ok (.iload_n 1, 1) := by decide +kernel
theorem dX7_note_1 : decode cX7_note 1 = .ok (.invokestatic 83, 3) := by decide +kernel
theorem dX7_note_4 : decode cX7_note 4 = .ok (.ifCond .eq 28, 3) := by decide +kernel
theorem dX7_note_7 : decode cX7_note 7 = .ok (.iload_n 2, 1) := by decide +kernel
theorem dX7_note_8 : decode cX7_note 8 = .ok (.invokestatic 83, 3) := by decide +kernel
theorem dX7_note_11 : decode cX7_note 11 = .ok (.ifCond .eq 21, 3) := by decide +kernel
theorem dX7_note_14 : decode cX7_note 14 = .ok (.iload_n 3, 1) := by decide +kernel
theorem dX7_note_15 : decode cX7_note 15 = .ok (.iconst 0, 1) := by decide +kernel
theorem dX7_note_16 : decode cX7_note 16 = .ok (.bipush 99, 2) := by decide +kernel
theorem dX7_note_18 : decode cX7_note 18 = .ok (.invokestatic 77, 3) := by decide +kernel
theorem dX7_note_21 : decode cX7_note 21 = .ok (.ifCond .eq 11, 3) := by decide +kernel
theorem dX7_note_24 : decode cX7_note 24 = .ok (.iload 4, 2) := by decide +kernel
theorem dX7_note_26 : decode cX7_note 26 = .ok (.invokestatic 83, 3) := by decide +kernel
theorem dX7_note_29 : decode cX7_note 29 = .ok (.ifCond .ne 10, 3) := by decide +kernel
theorem dX7_note_32 : decode cX7_note 32 = .ok (.aload_n 0, 1) := by decide +kernel
theorem dX7_note_33 : decode cX7_note 33 = .ok (.bipush (-2), 2) := by decide +kernel
theorem dX7_note_35 : decode cX7_note 35 = .ok (.invokevirtual 62, 3) := by decide +kernel
theorem dX7_note_38 : decode cX7_note 38 = .ok (.ireturn, 1) := by decide +kernel
theorem dX7_note_39 : decode cX7_note 39 = .ok (.aload_n 0, 1) := by decide +kernel
theorem dX7_note_40 : decode cX7_note 40 = .ok (.getfield 10, 3) := by decide +kernel
theorem dX7_note_43 : decode cX7_note 43 = .ok (.getfield 239, 3) := by decide +kernel
theorem dX7_note_46 : decode cX7_note 46 = .ok (.bipush 6, 2) := by decide +kernel
theorem dX7_note_48 : decode cX7_note 48 = .ok (.if_icmp .lt 8, 3) := by decide +kernel
theorem dX7_note_51 : decode cX7_note 51 = .ok (.aload_n 0, 1) := by decide +kernel
theorem dX7_note_52 : decode cX7_note 52 = .ok (.invokevirtual 104, 3) := by decide +kernel
theorem dX7_note_55 : decode cX7_note 55 = .ok (.ireturn, 1) := by decide +kernel
theorem dX7_note_56 : decode cX7_note 56 = .ok (.aload_n 0, 1) := by decide +kernel
theorem dX7_note_57 : decode cX7_note 57 = .ok (.getfield 10, 3) := by decide +kernel
theorem dX7_note_60 : decode cX7_note 60 = .ok (.getfield 239, 3) := by decide +kernel
theorem dX7_note_63 : decode cX7_note 63 = .ok (.iconst 4, 1) := by decide +kernel
theorem dX7_note_64 : decode cX7_note 64 = .ok (.imul, 1) := by decide +kernel
theorem dX7_note_65 : decode cX7_note 65 = .ok (.istore 5, 2) := by decide +kernel
theorem dX7_note_67 : decode cX7_note 67 = .ok (.aload_n 0, 1) := by decide +kernel
theorem dX7_note_68 : decode cX7_note 68 = .ok (.getfield 10, 3) := by decide +kernel
theorem dX7_note_71 : decode cX7_note 71 = .ok (.getfield 242, 3) := by decide +kernel
theorem dX7_note_74 : decode cX7_note 74 = .ok (.iload 5, 2) := by decide +kernel
theorem dX7_note_76 : decode cX7_note 76 = .ok (.iload_n 1, 1) := by decide +kernel
theorem dX7_note_77 : decode cX7_note 77 = .ok (.invokestatic 93, 3) := by decide +kernel
theorem dX7_note_80 : decode cX7_note 80 = .ok (.aload_n 0, 1) := by decide +kernel
theorem dX7_note_81 : decode cX7_note 81 = .ok (.getfield 10, 3) := by decide +kernel
theorem dX7_note_84 : decode cX7_note 84 = .ok (.getfield 242, 3) := by decide +kernel
theorem dX7_note_87 : decode cX7_note 87 = .ok (.iload 5, 2) := by decide +kernel
theorem dX7_note_89 : decode cX7_note 89 = .ok (.iconst 1, 1) := by decide +kernel
theorem dX7_note_90 : decode cX7_note 90 = .ok (.iadd, 1) := by decide +kernel
theorem dX7_note_91 : decode cX7_note 91 = .ok (.iload_n 2, 1) := by decide +kernel
theorem dX7_note_92 : decode cX7_note 92 = .ok (.invokestatic 93, 3) := by decide +kernel
theorem dX7_note_95 : decode cX7_note 95 = .ok (.aload_n 0, 1) := by decide +kernel
theorem dX7_note_96 : decode cX7_note 96 = .ok (.getfield 10, 3) := by decide +kernel
theorem dX7_note_99 : decode cX7_note 99 = .ok (.getfield 242, 3) := by decide +kernel
theorem dX7_note_102 : decode cX7_note 102 = .ok (.iload 5, 2) := by decide +kernel
theorem dX7_note_104 : decode cX7_note 104 = .ok (.iconst 2, 1) := by decide +kernel
theorem dX7_note_105 : decode cX7_note 105 = .ok (.iadd, 1) := by decide +kernel
theorem dX7_note_106 : decode cX7_note 106 = .ok (.iload_n 3, 1) := by decide +kernel
theorem dX7_note_107 : decode cX7_note 107 = .ok (.invokestatic 93, 3) := by decide +kernel
theorem dX7_note_110 : decode cX7_note 110 = .ok (.aload_n 0, 1) := by decide +kernel
theorem dX7_note_111 : decode cX7_note 111 = .ok (.getfield 10, 3) := by decide +kernel
theorem dX7_note_114 : decode cX7_note 114 = .ok (.getfield 242, 3) := by decide +kernel
theorem dX7_note_117 : decode cX7_note 117 = .ok (.iload 5, 2) := by decide +kernel
theorem dX7_note_119 : decode cX7_note 119 = .ok (.iconst 3, 1) := by decide +kernel
theorem dX7_note_120 : decode cX7_note 120 = .ok (.iadd, 1) := by decide +kernel
theorem dX7_note_121 : decode cX7_note 121 = .ok (.iload 4, 2) := by decide +kernel
theorem dX7_note_123 : decode cX7_note 123 = .ok (.invokestatic 93, 3) := by decide +kernel
theorem dX7_note_126 : decode cX7_note 126 = .ok (.aload_n 0, 1) := by decide +kernel
theorem dX7_note_127 : decode cX7_note 127 = .ok (.getfield 10, 3) := by decide +kernel
theorem dX7_note_130 : decode cX7_note 130 = .ok (.dup, 1) := by decide +kernel
theorem dX7_note_131 : decode cX7_note 131 = .ok (.getfield 239, 3) := by decide +kernel
theorem dX7_note_134 : decode cX7_note 134 = .ok (.iconst 1, 1) := by decide +kernel
theorem dX7_note_135 : decode cX7_note 135 = .ok (.iadd, 1) := by decide +kernel
theorem dX7_note_136 : decode cX7_note 136 = .ok (.putfield 239, 3) := by decide +kernel
theorem dX7_note_139 : decode cX7_note 139 = .ok (.aload_n 0, 1) := by decide +kernel
theorem dX7_note_140 : decode cX7_note 140 = .ok (.getfield 10, 3) := by decide +kernel
theorem dX7_note_143 : decode cX7_note 143 = .ok (.getfield 239, 3) := by decide +kernel
theorem dX7_note_146 : decode cX7_note 146 = .ok (.ireturn, 1) := by decide +kernel
theorem dX7_mark_0 : decode cX7_mark 0 = .ok (.iload_n 1, 1) := by decide +kernel
theorem dX7_mark_1 : decode cX7_mark 1 = .ok (.invokestatic 245, 3) := by decide +kernel
theorem dX7_mark_4 : decode cX7_mark 4 = .ok (.ifCond .eq 42, 3) := by decide +kernel
theorem dX7_mark_7 : decode cX7_mark 7 = .ok (.iload_n 2, 1) := by decide +kernel
theorem dX7_mark_8 : decode cX7_mark 8 = .ok (.invokestatic 83, 3) := by decide +kernel
theorem dX7_mark_11 : decode cX7_mark 11 = .ok (.ifCond .eq 35, 3) := by decide +kernel
theorem dX7_mark_14 : decode cX7_mark 14 = .ok (.iload_n 3, 1) := by decide +kernel
theorem dX7_mark_15 : decode cX7_mark 15 = .ok (.invokestatic 83, 3) := by decide +kernel
theorem dX7_mark_18 : decode cX7_mark 18 = .ok (.ifCond .eq 28, 3) := by decide +kernel
theorem dX7_mark_21 : decode cX7_mark 21 = .ok (.iload 4, 2) := by decide +kernel
theorem dX7_mark_23 : decode cX7_mark 23 = .ok (.iconst 0, 1) := by decide +kernel
theorem dX7_mark_24 : decode cX7_mark 24 = .ok (.bipush 30, 2) := by decide +kernel
theorem dX7_mark_26 : decode cX7_mark 26 = .ok (.invokestatic 77, 3) := by decide +kernel
theorem dX7_mark_29 : decode cX7_mark 29 = .ok (.ifCond .eq 17, 3) := by decide +kernel
theorem dX7_mark_32 : decode cX7_mark 32 = .ok (.iload 5, 2) := by decide +kernel
theorem dX7_mark_34 : decode cX7_mark 34 = .ok (.iconst 0, 1) := by decide +kernel
theorem dX7_mark_35 : decode cX7_mark 35 = .ok (.iconst 1, 1) := by decide +kernel
theorem dX7_mark_36 : decode cX7_mark 36 = .ok (.invokestatic 77, 3) := by decide +kernel
theorem dX7_mark_39 : decode cX7_mark 39 = .ok (.ifCond .eq 7, 3) := by decide +kernel
theorem dX7_mark_42 : decode cX7_mark 42 = .ok (.iconst 1, 1) := by decide +kernel
theorem dX7_mark_43 : decode cX7_mark 43 = .ok (.goto 4, 3) := by decide +kernel
theorem dX7_mark_46 : decode cX7_mark 46 = .ok (.iconst 0, 1) := by decide +kernel
theorem dX7_mark_47 : decode cX7_mark 47 = .ok (.istore 6, 2) := by decide +kernel
theorem dX7_mark_49 : decode cX7_mark 49 = .ok (.iload 6, 2) := by decide +kernel
theorem dX7_mark_51 : decode cX7_mark 51 = .ok (.ifCond .ne 10, 3) := by decide +kernel
theorem dX7_mark_54 : decode cX7_mark 54 = .ok (.aload_n 0, 1) := by decide +kernel
theorem dX7_mark_55 : decode cX7_mark 55 = .ok (.bipush (-2), 2) := by decide +kernel
theorem dX7_mark_57 : decode cX7_mark 57 = .ok (.invokevirtual 62, 3) := by decide +kernel
theorem dX7_mark_60 : decode cX7_mark 60 = .ok (.ireturn, 1) := by decide +kernel
theorem dX7_mark_61 : decode cX7_mark 61 = .ok (.aload_n 0, 1) := by decide +kernel
theorem dX7_mark_62 : decode cX7_mark 62 = .ok (.getfield 10, 3) := by decide +kernel
theorem dX7_mark_65 : decode cX7_mark 65 = .ok (.getfield 248, 3) := by decide +kernel
theorem dX7_mark_68 : decode cX7_mark 68 = .ok (.bipush 6, 2) := by decide +kernel
theorem dX7_mark_70 : decode cX7_mark 70 = .ok (.if_icmp .lt 8, 3) := by decide +kernel
theorem dX7_mark_73 : decode cX7_mark 73 = .ok (.aload_n 0, 1) := by decide +kernel
theorem dX7_mark_74 : decode cX7_mark 74 = .ok (.invokevirtual 104, 3) := by decide +kernel
theorem dX7_mark_77 : decode cX7_mark 77 = .ok (.ireturn, 1) := by decide +kernel
theorem dX7_mark_78 : decode cX7_mark 78 = .ok (.aload_n 0, 1) := by decide +kernel
theorem dX7_mark_79 : decode cX7_mark 79 = .ok (.getfield 10, 3) := by decide +kernel
theorem dX7_mark_82 : decode cX7_mark 82 = .ok (.getfield 248, 3) := by decide +kernel
theorem dX7_mark_85 : decode cX7_mark 85 = .ok (.iconst 5, 1) := by decide +kernel
theorem dX7_mark_86 : decode cX7_mark 86 = .ok (.imul, 1) := by decide +kernel
theorem dX7_mark_87 : decode cX7_mark 87 = .ok (.istore 7, 2) := by decide +kernel
theorem dX7_mark_89 : decode cX7_mark 89 = .ok (.aload_n 0, 1) := by decide +kernel
theorem dX7_mark_90 : decode cX7_mark 90 = .ok (.getfield 10, 3) := by decide +kernel
theorem dX7_mark_93 : decode cX7_mark 93 = .ok (.getfield 251, 3) := by decide +kernel
theorem dX7_mark_96 : decode cX7_mark 96 = .ok (.iload 7, 2) := by decide +kernel
theorem dX7_mark_98 : decode cX7_mark 98 = .ok (.iload_n 1, 1) := by decide +kernel
theorem dX7_mark_99 : decode cX7_mark 99 = .ok (.invokestatic 93, 3) := by decide +kernel
theorem dX7_mark_102 : decode cX7_mark 102 = .ok (.aload_n 0, 1) := by decide +kernel
theorem dX7_mark_103 : decode cX7_mark 103 = .ok (.getfield 10, 3) := by decide +kernel
theorem dX7_mark_106 : decode cX7_mark 106 = .ok (.getfield 251, 3) := by decide +kernel
theorem dX7_mark_109 : decode cX7_mark 109 = .ok (.iload 7, 2) := by decide +kernel
theorem dX7_mark_111 : decode cX7_mark 111 = .ok (.iconst 1, 1) := by decide +kernel
theorem dX7_mark_112 : decode cX7_mark 112 = .ok (.iadd, 1) := by decide +kernel
theorem dX7_mark_113 : decode cX7_mark 113 = .ok (.iload_n 2, 1) := by decide +kernel
theorem dX7_mark_114 : decode cX7_mark 114 = .ok (.invokestatic 93, 3) := by decide +kernel
theorem dX7_mark_117 : decode cX7_mark 117 = .ok (.aload_n 0, 1) := by decide +kernel
theorem dX7_mark_118 : decode cX7_mark 118 = .ok (.getfield 10, 3) := by decide +kernel
theorem dX7_mark_121 : decode cX7_mark 121 = .ok (.getfield 251, 3) := by decide +kernel
theorem dX7_mark_124 : decode cX7_mark 124 = .ok (.iload 7, 2) := by decide +kernel
theorem dX7_mark_126 : decode cX7_mark 126 = .ok (.iconst 2, 1) := by decide +kernel
theorem dX7_mark_127 : decode cX7_mark 127 = .ok (.iadd, 1) := by decide +kernel
theorem dX7_mark_128 : decode cX7_mark 128 = .ok (.iload_n 3, 1) := by decide +kernel
theorem dX7_mark_129 : decode cX7_mark 129 = .ok (.invokestatic 93, 3) := by decide +kernel
theorem dX7_mark_132 : decode cX7_mark 132 = .ok (.aload_n 0, 1) := by decide +kernel
theorem dX7_mark_133 : decode cX7_mark 133 = .ok (.getfield 10, 3) := by decide +kernel
theorem dX7_mark_136 : decode cX7_mark 136 = .ok (.getfield 251, 3) := by decide +kernel
theorem dX7_mark_139 : decode cX7_mark 139 = .ok (.iload 7, 2) := by decide +kernel
theorem dX7_mark_141 : decode cX7_mark 141 = .ok (.iconst 3, 1) := by decide +kernel
theorem dX7_mark_142 : decode cX7_mark 142 = .ok (.iadd, 1) := by decide +kernel
theorem dX7_mark_143 : decode cX7_mark 143 = .ok (.iload 4, 2) := by decide +kernel
theorem dX7_mark_145 : decode cX7_mark 145 = .ok (.invokestatic 93, 3) := by decide +kernel
theorem dX7_mark_148 : decode cX7_mark 148 = .ok (.aload_n 0, 1) := by decide +kernel
theorem dX7_mark_149 : decode cX7_mark 149 = .ok (.getfield 10, 3) := by decide +kernel
theorem dX7_mark_152 : decode cX7_mark 152 = .ok (.getfield 251, 3) := by decide +kernel
theorem dX7_mark_155 : decode cX7_mark 155 = .ok (.iload 7, 2) := by decide +kernel
theorem dX7_mark_157 : decode cX7_mark 157 = .ok (.iconst 4, 1) := by decide +kernel
theorem dX7_mark_158 : decode cX7_mark 158 = .ok (.iadd, 1) := by decide +kernel
theorem dX7_mark_159 : decode cX7_mark 159 = .ok (.iload 5, 2) := by decide +kernel
theorem dX7_mark_161 : decode cX7_mark 161 = .ok (.invokestatic 93, 3) := by decide +kernel
theorem dX7_mark_164 : decode cX7_mark 164 = .ok (.aload_n 0, 1) := by decide +kernel
theorem dX7_mark_165 : decode cX7_mark 165 = .ok (.getfield 10, 3) := by decide +kernel
theorem dX7_mark_168 : decode cX7_mark 168 = .ok (.dup, 1) := by decide +kernel
theorem dX7_mark_169 : decode cX7_mark 169 = .ok (.getfield 248, 3) := by decide +kernel
theorem dX7_mark_172 : decode cX7_mark 172 = .ok (.iconst 1, 1) := by decide +kernel
theorem dX7_mark_173 : decode cX7_mark 173 = .ok (.iadd, 1) := by decide +kernel
theorem dX7_mark_174 : decode cX7_mark 174 = .ok (.putfield 248, 3) := by decide +kernel
theorem dX7_mark_177 : decode cX7_mark 177 = .ok (.aload_n 0, 1) := by decide +kernel
theorem dX7_mark_178 : decode cX7_mark 178 = .ok (.getfield 10, 3) := by decide +kernel
theorem dX7_mark_181 : decode cX7_mark 181 = .ok (.getfield 248, 3) := by decide +kernel
theorem dX7_mark_184 : decode cX7_mark 184 = .ok (.ireturn, 1) := by decide +kernel
theorem dX7_forget_0 : decode cX7_forget 0 = .ok (.iload_n 1, 1) := by decide +kernel
theorem dX7_forget_1 : decode cX7_forget 1 = .ok (.lookupswitch 63 #[(0, 27), (1, 45)], 27) := by decide +kernel
theorem dX7_forget_28 : decode cX7_forget 28 = .ok (.aload_n 0, 1) := by decide +kernel
theorem dX7_forget_29 : decode cX7_forget 29 = .ok (.getfield 10, 3) := by decide +kernel
theorem dX7_forget_32 : decode cX7_forget 32 = .ok (.getfield 239, 3) := by decide +kernel
theorem dX7_forget_35 : decode cX7_forget 35 = .ok (.istore_n 2, 1) := by decide +kernel
theorem dX7_forget_36 : decode cX7_forget 36 = .ok (.aload_n 0, 1) := by decide +kernel
theorem dX7_forget_37 : decode cX7_forget 37 = .ok (.getfield 10, 3) := by decide +kernel
theorem dX7_forget_40 : decode cX7_forget 40 = .ok (.iconst 0, 1) := by decide +kernel
theorem dX7_forget_41 : decode cX7_forget 41 = .ok (.putfield 239, 3) := by decide +kernel
theorem dX7_forget_44 : decode cX7_forget 44 = .ok (.iload_n 2, 1) := by decide +kernel
theorem dX7_forget_45 : decode cX7_forget 45 = .ok (.ireturn, 1) := by decide +kernel
theorem dX7_forget_46 : decode cX7_forget 46 = .ok (.aload_n 0, 1) := by decide +kernel
theorem dX7_forget_47 : decode cX7_forget 47 = .ok (.getfield 10, 3) := by decide +kernel
theorem dX7_forget_50 : decode cX7_forget 50 = .ok (.getfield 248, 3) := by decide +kernel
theorem dX7_forget_53 : decode cX7_forget 53 = .ok (.istore_n 2, 1) := by decide +kernel
theorem dX7_forget_54 : decode cX7_forget 54 = .ok (.aload_n 0, 1) := by decide +kernel
theorem dX7_forget_55 : decode cX7_forget 55 = .ok (.getfield 10, 3) := by decide +kernel
theorem dX7_forget_58 : decode cX7_forget 58 = .ok (.iconst 0, 1) := by decide +kernel
theorem dX7_forget_59 : decode cX7_forget 59 = .ok (.putfield 248, 3) := by decide +kernel
theorem dX7_forget_62 : decode cX7_forget 62 = .ok (.iload_n 2, 1) := by decide +kernel
theorem dX7_forget_63 : decode cX7_forget 63 = .ok (.ireturn, 1) := by decide +kernel
theorem dX7_forget_64 : decode cX7_forget 64 = .ok (.aload_n 0, 1) := by decide +kernel
theorem dX7_forget_65 : decode cX7_forget 65 = .ok (.bipush (-2), 2) := by decide +kernel
theorem dX7_forget_67 : decode cX7_forget 67 = .ok (.invokevirtual 62, 3) := by decide +kernel
theorem dX7_forget_70 : decode cX7_forget 70 = .ok (.ireturn, 1) := by decide +kernel
theorem dX7_is_0 : decode cX7_is 0 = .ok (.iconst 0, 1) := by decide +kernel
theorem dX7_is_1 : decode cX7_is 1 = .ok (.istore_n 1, 1) := by decide +kernel
theorem dX7_is_2 : decode cX7_is 2 = .ok (.iconst 0, 1) := by decide +kernel
theorem dX7_is_3 : decode cX7_is 3 = .ok (.istore_n 2, 1) := by decide +kernel
theorem dX7_is_4 : decode cX7_is 4 = .ok (.iload_n 2, 1) := by decide +kernel
theorem dX7_is_5 : decode cX7_is 5 = .ok (.bipush 6, 2) := by decide +kernel
theorem dX7_is_7 : decode cX7_is 7 = .ok (.if_icmp .ge 26, 3) := by decide +kernel
theorem dX7_is_10 : decode cX7_is 10 = .ok (.aload_n 0, 1) := by decide +kernel
theorem dX7_is_11 : decode cX7_is 11 = .ok (.getfield 10, 3) := by decide +kernel
theorem dX7_is_14 : decode cX7_is 14 = .ok (.iload_n 2, 1) := by decide +kernel
theorem dX7_is_15 : decode cX7_is 15 = .ok (.invokevirtual 254, 3) := by decide +kernel
theorem dX7_is_18 : decode cX7_is 18 = .ok (.ifCond .eq 9, 3) := by decide +kernel
theorem dX7_is_21 : decode cX7_is 21 = .ok (.iload_n 1, 1) := by decide +kernel
theorem dX7_is_22 : decode cX7_is 22 = .ok (.iconst 1, 1) := by decide +kernel
theorem dX7_is_23 : decode cX7_is 23 = .ok (.iload_n 2, 1) := by decide +kernel
theorem dX7_is_24 : decode cX7_is 24 = .ok (.ishl, 1) := by decide +kernel
theorem dX7_is_25 : decode cX7_is 25 = .ok (.ior, 1) := by decide +kernel
theorem dX7_is_26 : decode cX7_is 26 = .ok (.istore_n 1, 1) := by decide +kernel
theorem dX7_is_27 : decode cX7_is 27 = .ok (.iinc 2 1, 3) := by decide +kernel
theorem dX7_is_30 : decode cX7_is 30 = .ok (.goto (-26), 3) := by decide +kernel
theorem dX7_is_33 : decode cX7_is 33 = .ok (.iload_n 1, 1) := by decide +kernel
theorem dX7_is_34 : decode cX7_is 34 = .ok (.ireturn, 1) := by decide +kernel
theorem dX7_watch_0 : decode cX7_watch 0 = .ok (.aload_n 0, 1) := by decide +kernel
theorem dX7_watch_1 : decode cX7_watch 1 = .ok (.invokevirtual 257, 3) := by decide +kernel
theorem dX7_watch_4 : decode cX7_watch 4 = .ok (.istore_n 1, 1) := by decide +kernel
theorem dX7_watch_5 : decode cX7_watch 5 = .ok (.iconst (-1), 1) := by decide +kernel
theorem dX7_watch_6 : decode cX7_watch 6 = .ok (.istore_n 2, 1) := by decide +kernel
theorem dX7_watch_7 : decode cX7_watch 7 = .ok (.bipush 7, 2) := by decide +kernel
theorem dX7_watch_9 : decode cX7_watch 9 = .ok (.istore_n 3, 1) := by decide +kernel
theorem dX7_watch_10 : decode cX7_watch 10 = .ok (.iload_n 1, 1) := by decide +kernel
theorem dX7_watch_11 : decode cX7_watch 11 = .ok (.ifCond .ne 5, 3) := by decide +kernel
theorem dX7_watch_14 : decode cX7_watch 14 = .ok (.iconst (-1), 1) := by decide +kernel
theorem dX7_watch_15 : decode cX7_watch 15 = .ok (.ireturn, 1) := by decide +kernel
theorem dX7_watch_16 : decode cX7_watch 16 = .ok (.iconst 0, 1) := by decide +kernel
theorem dX7_watch_17 : decode cX7_watch 17 = .ok (.istore 4, 2) := by decide +kernel
theorem dX7_watch_19 : decode cX7_watch 19 = .ok (.iload 4, 2) := by decide +kernel
theorem dX7_watch_21 : decode cX7_watch 21 = .ok (.bipush 6, 2) := by decide +kernel
theorem dX7_watch_23 : decode cX7_watch 23 = .ok (.if_icmp .ge 58, 3) := by decide +kernel
theorem dX7_watch_26 : decode cX7_watch 26 = .ok (.bipush (-9), 2) := by decide +kernel
theorem dX7_watch_28 : decode cX7_watch 28 = .ok (.istore 5, 2) := by decide +kernel
theorem dX7_watch_30 : decode cX7_watch 30 = .ok (.iload 5, 2) := by decide +kernel
theorem dX7_watch_32 : decode cX7_watch 32 = .ok (.bipush 9, 2) := by decide +kernel
theorem dX7_watch_34 : decode cX7_watch 34 = .ok (.if_icmp .gt 41, 3) := by decide +kernel
theorem dX7_watch_37 : decode cX7_watch 37 = .ok (.aload_n 0, 1) := by decide +kernel
theorem dX7_watch_38 : decode cX7_watch 38 = .ok (.iload_n 1, 1) := by decide +kernel
theorem dX7_watch_39 : decode cX7_watch 39 = .ok (.iload 4, 2) := by decide +kernel
theorem dX7_watch_41 : decode cX7_watch 41 = .ok (.iload 5, 2) := by decide +kernel
theorem dX7_watch_43 : decode cX7_watch 43 = .ok (.invokevirtual 260, 3) := by decide +kernel
theorem dX7_watch_46 : decode cX7_watch 46 = .ok (.istore 6, 2) := by decide +kernel
theorem dX7_watch_48 : decode cX7_watch 48 = .ok (.iload 6, 2) := by decide +kernel
theorem dX7_watch_50 : decode cX7_watch 50 = .ok (.iload_n 3, 1) := by decide +kernel
theorem dX7_watch_51 : decode cX7_watch 51 = .ok (.if_icmp .ge 18, 3) := by decide +kernel
theorem dX7_watch_54 : decode cX7_watch 54 = .ok (.iload 6, 2) := by decide +kernel
theorem dX7_watch_56 : decode cX7_watch 56 = .ok (.istore_n 3, 1) := by decide +kernel
theorem dX7_watch_57 : decode cX7_watch 57 = .ok (.bipush 100, 2) := by decide +kernel
theorem dX7_watch_59 : decode cX7_watch 59 = .ok (.iload 4, 2) := by decide +kernel
theorem dX7_watch_61 : decode cX7_watch 61 = .ok (.imul, 1) := by decide +kernel
theorem dX7_watch_62 : decode cX7_watch 62 = .ok (.bipush 9, 2) := by decide +kernel
theorem dX7_watch_64 : decode cX7_watch 64 = .ok (.iadd, 1) := by decide +kernel
theorem dX7_watch_65 : decode cX7_watch 65 = .ok (.iload 5, 2) := by decide +kernel
theorem dX7_watch_67 : decode cX7_watch 67 = .ok (.iadd, 1) := by decide +kernel
theorem dX7_watch_68 : decode cX7_watch 68 = .ok (.istore_n 2, 1) := by decide +kernel
theorem dX7_watch_69 : decode cX7_watch 69 = .ok (.iinc 5 1, 3) := by decide +kernel
theorem dX7_watch_72 : decode cX7_watch 72 = .ok (.goto (-42), 3) := by decide +kernel
theorem dX7_watch_75 : decode cX7_watch 75 = .ok (.iinc 4 1, 3) := by decide +kernel
theorem dX7_watch_78 : decode cX7_watch 78 = .ok (.goto (-59), 3) := by decide +kernel
theorem dX7_watch_81 : decode cX7_watch 81 = .ok (.iload_n 2, 1) := by decide +kernel
theorem dX7_watch_82 : decode cX7_watch 82 = .ok (.ireturn, 1) := by decide +kernel
noncomputable def lp_X7_built_29 (p1 : Int32) (p2 : Int32) (fa0_town_pulls : Nat → Int32) : Nat → Int32 → Int32 → Int32 → Option (Int32 × Int32 × Int32)
 | 0, _, _, _ => none
 | fu + 1, x3_29, x4_29, x5_29 => if (30 : Int32) ≤ x5_29 then (some (x3_29, x4_29, x5_29)) else (lt_ (if x4_29 = p2 then ((x3_29 ||| ((1 : Int32) <<< (x5_29 &&& 31)))) else (x3_29)) fun z6 => lp_X7_built_29 p1 p2 fa0_town_pulls fu z6 (sp_X0_behind p1 x5_29 x4_29 (sp_X6_pullOf x5_29 fa0_town_pulls)) (x5_29 + (1 : Int32)))
noncomputable def sp_X7_built (p1 : Int32) (p2 : Int32) (a0_refusedAsBad : Int32) (fa0_town_pulls : Nat → Int32) : Option (Int32 × Int32) := if (sp_X7_isLevelKind p1) = 0 then (lt_ (sp_X7_bad (-2 : Int32) a0_refusedAsBad) fun z2 => some (z2.1, z2.2)) else (if (sp_X7_isTilt p2) = 0 then (lt_ (sp_X7_bad (-2 : Int32) a0_refusedAsBad) fun z9 => some (z9.1, z9.2)) else (Option.bind (lp_X7_built_29 p1 p2 fa0_town_pulls FU (0 : Int32) (0 : Int32) (0 : Int32)) fun z4 => some (z4.1, a0_refusedAsBad)))
set_option maxHeartbeats 4000000 in
set_option maxRecDepth 100000 in
theorem c_X7_built (l : Launch) (E : wE) (a0 a0_town a0_draft a0_images a0_text a0_planner a0_trial a0_spread a0_spreadBehind a0_tally a0_town_pulls a0_town_site a0_town_past a0_town_views a0_town_notes a0_town_marks : Nat) (p1 : Int32) (p2 : Int32) (a0_imagesKept : Int32) (a0_above : Int64) (a0_below : Int64) (a0_refusedAsBad : Int32) (a0_refusedAsNo : Int32) (a0_refusedAsFull : Int32) (a0_town_kind : Int32) (a0_town_pasts : Int32) (a0_town_members : Int32) (a0_town_noteCount : Int32) (a0_town_markCount : Int32) (fa0_town_pulls : Nat → Int32) (z_0 : Int32) (z_1 : Int32) (hsp : sp_X7_built p1 p2 a0_refusedAsBad fa0_town_pulls = some (z_0, z_1)) : MW l yX7_built cX7_built 6 (some .int) 3 E [.ref a0, .int p1, .int p2] [(a0, .inr (4, [.ref a0_town, .ref a0_draft, .ref a0_images, .int a0_imagesKept, .ref a0_text, .ref a0_planner, .ref a0_trial, .ref a0_spread, .ref a0_spreadBehind, .ref a0_tally, .long a0_above, .long a0_below, .int a0_refusedAsBad, .int a0_refusedAsNo, .int a0_refusedAsFull])), (a0_town, .inr (3, [.int a0_town_kind, .ref a0_town_pulls, .ref a0_town_site, .ref a0_town_past, .int a0_town_pasts, .ref a0_town_views, .int a0_town_members, .ref a0_town_notes, .int a0_town_noteCount, .ref a0_town_marks, .int a0_town_markCount])), (a0_town_pulls, aI E 6 fa0_town_pulls)] (some (.int z_0)) [(a0, .inr (4, [.ref a0_town, .ref a0_draft, .ref a0_images, .int a0_imagesKept, .ref a0_text, .ref a0_planner, .ref a0_trial, .ref a0_spread, .ref a0_spreadBehind, .ref a0_tally, .long a0_above, .long a0_below, .int z_1, .int a0_refusedAsNo, .int a0_refusedAsFull])), (a0_town, .inr (3, [.int a0_town_kind, .ref a0_town_pulls, .ref a0_town_site, .ref a0_town_past, .int a0_town_pasts, .ref a0_town_views, .int a0_town_members, .ref a0_town_notes, .int a0_town_noteCount, .ref a0_town_marks, .int a0_town_markCount])), (a0_town_pulls, aI E 6 fa0_town_pulls)] := by
  refine MW.of (by decide +kernel) (Nat.le_of_ble_eq_true rfl) ?_
  intro p e s m below meth c ls A hX hK hP hD hS hA hl
  have hX : CX p s m [.ref a0, .int p1, .int p2].toArray meth c cX7_built 6 (some .int) RX7 := hX
  have hx := hX.1; have hb := hX.2.1; have hts := hX.2.2.2.2.1; have hown := hX.2.2.2.2.2.1
  have hl : lv_has ls 6 [(0, .ref a0), (1, .int p1), (2, .int p2)] := hl
  have hP : wP E [(a0, .inr (4, [.ref a0_town, .ref a0_draft, .ref a0_images, .int a0_imagesKept, .ref a0_text, .ref a0_planner, .ref a0_trial, .ref a0_spread, .ref a0_spreadBehind, .ref a0_tally, .long a0_above, .long a0_below, .int a0_refusedAsBad, .int a0_refusedAsNo, .int a0_refusedAsFull])), (a0_town, .inr (3, [.int a0_town_kind, .ref a0_town_pulls, .ref a0_town_site, .ref a0_town_past, .int a0_town_pasts, .ref a0_town_views, .int a0_town_members, .ref a0_town_notes, .int a0_town_noteCount, .ref a0_town_marks, .int a0_town_markCount])), (a0_town_pulls, aI E 6 fa0_town_pulls)] s.heap := hP
  have hsp : (if (sp_X7_isLevelKind p1) = 0 then (lt_ (sp_X7_bad (-2 : Int32) a0_refusedAsBad) fun z2 => some (z2.1, z2.2)) else (if (sp_X7_isTilt p2) = 0 then (lt_ (sp_X7_bad (-2 : Int32) a0_refusedAsBad) fun z9 => some (z9.1, z9.2)) else (Option.bind (lp_X7_built_29 p1 p2 fa0_town_pulls FU (0 : Int32) (0 : Int32) (0 : Int32)) fun z4 => some (z4.1, a0_refusedAsBad)))) = some (z_0, z_1) := hsp
  refine lv_iload_n hx hb dX7_built_0 rfl (lv_at hl 1 rfl) (W.pc 1 rfl ?_)
  refine kSR (st1 := [.int (sp_X7_isLevelKind p1)]) hX (c_X7_isLevelKind l E p1 _ rfl) B_X7_isLevelKind w_1_228 hK (hP.pick [] rfl) rfl hl.1 rfl (Nat.le_of_ble_eq_true rfl) ⟨Nat.le_of_ble_eq_true rfl, Nat.le_of_ble_eq_true rfl⟩ dX7_built_1 rfl (W.pc 4 rfl ?_)
  refine lv_if_eq (tgt := 14) hx hb dX7_built_4 (by decide) (fun c1 => ?_) (fun c1 => W.pc 7 rfl ?_)
  · have hsp := ip hsp c1
    refine lv_aload_n hx hb dX7_built_14 rfl (lv_at hl 0 rfl) (W.pc 15 rfl ?_)
    refine lv_bipush (v := (-2 : Int32)) hx hb dX7_built_15 (by decide) (W.pc 17 rfl ?_)
    obtain ⟨z2, hr_z2, hsp⟩ := ltb_s hsp
    refine kVW (st1 := [.int z2.1]) (ws' := [(a0, .inr (4, [.ref a0_town, .ref a0_draft, .ref a0_images, .int a0_imagesKept, .ref a0_text, .ref a0_planner, .ref a0_trial, .ref a0_spread, .ref a0_spreadBehind, .ref a0_tally, .long a0_above, .long a0_below, .int z2.2, .int a0_refusedAsNo, .int a0_refusedAsFull])), (a0_town, .inr (3, [.int a0_town_kind, .ref a0_town_pulls, .ref a0_town_site, .ref a0_town_past, .int a0_town_pasts, .ref a0_town_views, .int a0_town_members, .ref a0_town_notes, .int a0_town_noteCount, .ref a0_town_marks, .int a0_town_markCount])), (a0_town_pulls, aI E 6 fa0_town_pulls)]) [0] hX (c_X7_bad l E a0 a0_town a0_draft a0_images a0_text a0_planner a0_trial a0_spread a0_spreadBehind a0_tally (-2 : Int32) a0_imagesKept a0_above a0_below a0_refusedAsBad a0_refusedAsNo a0_refusedAsFull z2.1 z2.2 hr_z2) B_X7_bad w_1_234 hK hP hD hS hA (by decide) rfl rfl rfl (q0 := 0) (ci := 4) rfl rfl rfl rfl hl.1 rfl (Nat.le_of_ble_eq_true rfl) ⟨Nat.le_of_ble_eq_true rfl, Nat.le_of_ble_eq_true rfl⟩ dX7_built_17 rfl (fun H locs hP hD hS => W.pc 20 rfl ?_)
    cases hsp
    exact rWi hX hP hS rfl rfl dX7_built_20
  · have hsp := iq hsp c1
    refine lv_iload_n hx hb dX7_built_7 rfl (lv_at hl 2 rfl) (W.pc 8 rfl ?_)
    refine kSR (st1 := [.int (sp_X7_isTilt p2)]) hX (c_X7_isTilt l E p2 _ rfl) B_X7_isTilt w_2_25 hK (hP.pick [] rfl) rfl hl.1 rfl (Nat.le_of_ble_eq_true rfl) ⟨Nat.le_of_ble_eq_true rfl, Nat.le_of_ble_eq_true rfl⟩ dX7_built_8 rfl (W.pc 11 rfl ?_)
    refine lv_if_ne (tgt := 21) hx hb dX7_built_11 (by decide) (fun c3 => ?_) (fun c3 => W.pc 14 rfl ?_)
    · have hsp := iq hsp c3
      refine lv_iconst (v := (0 : Int32)) hx hb dX7_built_21 (by decide) (W.pc 22 rfl ?_)
      refine lv_istore_n (lv' := [(3, .int (0 : Int32)), (0, .ref a0), (1, .int p1), (2, .int p2)]) hx hb dX7_built_22 rfl hl (by decide) rfl (fun ls hl => W.pc 23 rfl ?_)
      refine lv_iconst (v := (0 : Int32)) hx hb dX7_built_23 (by decide) (W.pc 24 rfl ?_)
      refine lv_istore (lv' := [(4, .int (0 : Int32)), (3, .int (0 : Int32)), (0, .ref a0), (1, .int p1), (2, .int p2)]) hx hb dX7_built_24 hl (by decide) rfl (fun ls hl => W.pc 26 rfl ?_)
      refine lv_iconst (v := (0 : Int32)) hx hb dX7_built_26 (by decide) (W.pc 27 rfl ?_)
      refine lv_istore (lv' := [(5, .int (0 : Int32)), (4, .int (0 : Int32)), (3, .int (0 : Int32)), (0, .ref a0), (1, .int p1), (2, .int p2)]) hx hb dX7_built_27 hl (by decide) rfl (fun ls hl => W.pc 29 rfl ?_)
      have L_29 : ∀ (z4 : Int32 × Int32 × Int32), (∀ (H : Heap) (locs : List Loc) (ls : Array Slot), wP E [(a0, .inr (4, [.ref a0_town, .ref a0_draft, .ref a0_images, .int a0_imagesKept, .ref a0_text, .ref a0_planner, .ref a0_trial, .ref a0_spread, .ref a0_spreadBehind, .ref a0_tally, .long a0_above, .long a0_below, .int a0_refusedAsBad, .int a0_refusedAsNo, .int a0_refusedAsFull])), (a0_town, .inr (3, [.int a0_town_kind, .ref a0_town_pulls, .ref a0_town_site, .ref a0_town_past, .int a0_town_pasts, .ref a0_town_views, .int a0_town_members, .ref a0_town_notes, .int a0_town_noteCount, .ref a0_town_marks, .int a0_town_markCount])), (a0_town_pulls, aI E 6 fa0_town_pulls)] H → va_D A [(a0, .inr (4, [.ref a0_town, .ref a0_draft, .ref a0_images, .int a0_imagesKept, .ref a0_text, .ref a0_planner, .ref a0_trial, .ref a0_spread, .ref a0_spreadBehind, .ref a0_tally, .long a0_above, .long a0_below, .int a0_refusedAsBad, .int a0_refusedAsNo, .int a0_refusedAsFull])), (a0_town, .inr (3, [.int a0_town_kind, .ref a0_town_pulls, .ref a0_town_site, .ref a0_town_past, .int a0_town_pasts, .ref a0_town_views, .int a0_town_members, .ref a0_town_notes, .int a0_town_noteCount, .ref a0_town_marks, .int a0_town_markCount])), (a0_town_pulls, aI E 6 fa0_town_pulls)] → va_S A s.heap H locs → lv_has ls 6 [(3, .int z4.1)] → W p l e (wR 3) s m [.ref a0, .int p1, .int p2].toArray below meth c H locs 0 0 (MQ below (QWd E A (some (.int z_0)) [(a0, .inr (4, [.ref a0_town, .ref a0_draft, .ref a0_images, .int a0_imagesKept, .ref a0_text, .ref a0_planner, .ref a0_trial, .ref a0_spread, .ref a0_spreadBehind, .ref a0_tally, .long a0_above, .long a0_below, .int z_1, .int a0_refusedAsNo, .int a0_refusedAsFull])), (a0_town, .inr (3, [.int a0_town_kind, .ref a0_town_pulls, .ref a0_town_site, .ref a0_town_past, .int a0_town_pasts, .ref a0_town_views, .int a0_town_members, .ref a0_town_notes, .int a0_town_noteCount, .ref a0_town_marks, .int a0_town_markCount])), (a0_town_pulls, aI E 6 fa0_town_pulls)]) [.ref a0, .int p1, .int p2].toArray s 0 0 A) (F0 m 74 ls [])) → ∀ (fu : Nat) (x3_29 : Int32) (x4_29 : Int32) (x5_29 : Int32), ∀ (H : Heap) (locs : List Loc) (ls : Array Slot), wP E [(a0, .inr (4, [.ref a0_town, .ref a0_draft, .ref a0_images, .int a0_imagesKept, .ref a0_text, .ref a0_planner, .ref a0_trial, .ref a0_spread, .ref a0_spreadBehind, .ref a0_tally, .long a0_above, .long a0_below, .int a0_refusedAsBad, .int a0_refusedAsNo, .int a0_refusedAsFull])), (a0_town, .inr (3, [.int a0_town_kind, .ref a0_town_pulls, .ref a0_town_site, .ref a0_town_past, .int a0_town_pasts, .ref a0_town_views, .int a0_town_members, .ref a0_town_notes, .int a0_town_noteCount, .ref a0_town_marks, .int a0_town_markCount])), (a0_town_pulls, aI E 6 fa0_town_pulls)] H → va_D A [(a0, .inr (4, [.ref a0_town, .ref a0_draft, .ref a0_images, .int a0_imagesKept, .ref a0_text, .ref a0_planner, .ref a0_trial, .ref a0_spread, .ref a0_spreadBehind, .ref a0_tally, .long a0_above, .long a0_below, .int a0_refusedAsBad, .int a0_refusedAsNo, .int a0_refusedAsFull])), (a0_town, .inr (3, [.int a0_town_kind, .ref a0_town_pulls, .ref a0_town_site, .ref a0_town_past, .int a0_town_pasts, .ref a0_town_views, .int a0_town_members, .ref a0_town_notes, .int a0_town_noteCount, .ref a0_town_marks, .int a0_town_markCount])), (a0_town_pulls, aI E 6 fa0_town_pulls)] → va_S A s.heap H locs → lv_has ls 6 [(0, .ref a0), (1, .int p1), (2, .int p2), (3, .int x3_29), (4, .int x4_29), (5, .int x5_29)] → lp_X7_built_29 p1 p2 fa0_town_pulls fu x3_29 x4_29 x5_29 = some z4 → W p l e (wR 3) s m [.ref a0, .int p1, .int p2].toArray below meth c H locs 0 0 (MQ below (QWd E A (some (.int z_0)) [(a0, .inr (4, [.ref a0_town, .ref a0_draft, .ref a0_images, .int a0_imagesKept, .ref a0_text, .ref a0_planner, .ref a0_trial, .ref a0_spread, .ref a0_spreadBehind, .ref a0_tally, .long a0_above, .long a0_below, .int z_1, .int a0_refusedAsNo, .int a0_refusedAsFull])), (a0_town, .inr (3, [.int a0_town_kind, .ref a0_town_pulls, .ref a0_town_site, .ref a0_town_past, .int a0_town_pasts, .ref a0_town_views, .int a0_town_members, .ref a0_town_notes, .int a0_town_noteCount, .ref a0_town_marks, .int a0_town_markCount])), (a0_town_pulls, aI E 6 fa0_town_pulls)]) [.ref a0, .int p1, .int p2].toArray s 0 0 A) (F0 m 29 ls []) := by
        intro z4 hk_29 fu
        induction fu with
        | zero => intro x3_29 x4_29 x5_29 H locs ls hP hD hS hl hsp; exact absurd (show none = some _ from hsp) (by simp)
        | succ fu ih_29 =>
          intro x3_29 x4_29 x5_29 H locs ls hP hD hS hl hsp
          have hsp : (if (30 : Int32) ≤ x5_29 then (some (x3_29, x4_29, x5_29)) else (lt_ (if x4_29 = p2 then ((x3_29 ||| ((1 : Int32) <<< (x5_29 &&& 31)))) else (x3_29)) fun z6 => lp_X7_built_29 p1 p2 fa0_town_pulls fu z6 (sp_X0_behind p1 x5_29 x4_29 (sp_X6_pullOf x5_29 fa0_town_pulls)) (x5_29 + (1 : Int32)))) = some z4 := hsp
          refine lv_iload hx hb dX7_built_29 (lv_at hl 5 rfl) (W.pc 31 rfl ?_)
          refine lv_bipush (v := (30 : Int32)) hx hb dX7_built_31 (by decide) (W.pc 33 rfl ?_)
          refine lv_icmp_ge (tgt := 74) hx hb dX7_built_33 (by decide) (fun c5 => ?_) (fun c5 => W.pc 36 rfl ?_)
          · have hsp := ip hsp c5
            obtain rfl := Option.some.inj hsp
            exact hk_29 _ _ _ hP hD hS (lv_sub hl [3] rfl)
          · have hsp := iq hsp c5
            refine lv_iload hx hb dX7_built_36 (lv_at hl 4 rfl) (W.pc 38 rfl ?_)
            refine lv_iload_n hx hb dX7_built_38 rfl (lv_at hl 2 rfl) (W.pc 39 rfl ?_)
            obtain ⟨z6, hr_z6, hsp⟩ := ltb_s hsp
            have J7 : ∀ (H : Heap) (locs : List Loc) (ls : Array Slot), wP E [(a0, .inr (4, [.ref a0_town, .ref a0_draft, .ref a0_images, .int a0_imagesKept, .ref a0_text, .ref a0_planner, .ref a0_trial, .ref a0_spread, .ref a0_spreadBehind, .ref a0_tally, .long a0_above, .long a0_below, .int a0_refusedAsBad, .int a0_refusedAsNo, .int a0_refusedAsFull])), (a0_town, .inr (3, [.int a0_town_kind, .ref a0_town_pulls, .ref a0_town_site, .ref a0_town_past, .int a0_town_pasts, .ref a0_town_views, .int a0_town_members, .ref a0_town_notes, .int a0_town_noteCount, .ref a0_town_marks, .int a0_town_markCount])), (a0_town_pulls, aI E 6 fa0_town_pulls)] H → va_D A [(a0, .inr (4, [.ref a0_town, .ref a0_draft, .ref a0_images, .int a0_imagesKept, .ref a0_text, .ref a0_planner, .ref a0_trial, .ref a0_spread, .ref a0_spreadBehind, .ref a0_tally, .long a0_above, .long a0_below, .int a0_refusedAsBad, .int a0_refusedAsNo, .int a0_refusedAsFull])), (a0_town, .inr (3, [.int a0_town_kind, .ref a0_town_pulls, .ref a0_town_site, .ref a0_town_past, .int a0_town_pasts, .ref a0_town_views, .int a0_town_members, .ref a0_town_notes, .int a0_town_noteCount, .ref a0_town_marks, .int a0_town_markCount])), (a0_town_pulls, aI E 6 fa0_town_pulls)] → va_S A s.heap H locs → lv_has ls 6 [(0, .ref a0), (1, .int p1), (2, .int p2), (3, .int z6), (4, .int x4_29), (5, .int x5_29)] → W p l e (wR 3) s m [.ref a0, .int p1, .int p2].toArray below meth c H locs 0 0 (MQ below (QWd E A (some (.int z_0)) [(a0, .inr (4, [.ref a0_town, .ref a0_draft, .ref a0_images, .int a0_imagesKept, .ref a0_text, .ref a0_planner, .ref a0_trial, .ref a0_spread, .ref a0_spreadBehind, .ref a0_tally, .long a0_above, .long a0_below, .int z_1, .int a0_refusedAsNo, .int a0_refusedAsFull])), (a0_town, .inr (3, [.int a0_town_kind, .ref a0_town_pulls, .ref a0_town_site, .ref a0_town_past, .int a0_town_pasts, .ref a0_town_views, .int a0_town_members, .ref a0_town_notes, .int a0_town_noteCount, .ref a0_town_marks, .int a0_town_markCount])), (a0_town_pulls, aI E 6 fa0_town_pulls)]) [.ref a0, .int p1, .int p2].toArray s 0 0 A) (F0 m 49 ls []) := by
              intro H locs ls hP hD hS hl
              refine lv_iload_n hx hb dX7_built_49 rfl (lv_at hl 1 rfl) (W.pc 50 rfl ?_)
              refine lv_iload hx hb dX7_built_50 (lv_at hl 5 rfl) (W.pc 52 rfl ?_)
              refine lv_iload hx hb dX7_built_52 (lv_at hl 4 rfl) (W.pc 54 rfl ?_)
              refine lv_aload_n hx hb dX7_built_54 rfl (lv_at hl 0 rfl) (W.pc 55 rfl ?_)
              refine va_get (D := E.1) (ci := 4) (v := .ref a0_town) (C := RX7) (T := TX7) (N := 15) hx hb hts inT_X7 hown hK hP 0 rfl rfl 0 (by decide) (hts _ w_1_178) (fun _ h9 => h9) rfl dX7_built_55 (W.pc 58 rfl ?_)
              refine lv_iload hx hb dX7_built_58 (lv_at hl 5 rfl) (W.pc 60 rfl ?_)
              refine kVR (st1 := [.int (sp_X6_pullOf x5_29 fa0_town_pulls), .int x4_29, .int x5_29, .int p1]) hX (c_X6_pullOf l E a0_town a0_town_pulls a0_town_site a0_town_past a0_town_views a0_town_notes a0_town_marks x5_29 a0_town_kind a0_town_pasts a0_town_members a0_town_noteCount a0_town_markCount fa0_town_pulls _ rfl) B_X6_pullOf w_3_38 hK (hP.pick [1, 2] rfl) (q0 := 0) (ci := 3) rfl rfl rfl rfl hl.1 rfl (Nat.le_of_ble_eq_true rfl) ⟨Nat.le_of_ble_eq_true rfl, Nat.le_of_ble_eq_true rfl⟩ dX7_built_60 rfl (W.pc 63 rfl ?_)
              refine kSR (st1 := [.int (sp_X0_behind p1 x5_29 x4_29 (sp_X6_pullOf x5_29 fa0_town_pulls))]) hX (c_X0_behind l E p1 x5_29 x4_29 (sp_X6_pullOf x5_29 fa0_town_pulls) _ rfl) B_X0_behind w_3_164 hK (hP.pick [] rfl) rfl hl.1 rfl (Nat.le_of_ble_eq_true rfl) ⟨Nat.le_of_ble_eq_true rfl, Nat.le_of_ble_eq_true rfl⟩ dX7_built_63 rfl (W.pc 66 rfl ?_)
              refine lv_istore (lv' := [(4, .int (sp_X0_behind p1 x5_29 x4_29 (sp_X6_pullOf x5_29 fa0_town_pulls))), (0, .ref a0), (1, .int p1), (2, .int p2), (3, .int z6), (5, .int x5_29)]) hx hb dX7_built_66 hl (by decide) rfl (fun ls hl => W.pc 68 rfl ?_)
              refine lv_iinc (v := (x5_29 + (1 : Int32))) (lv' := [(5, .int (x5_29 + (1 : Int32))), (4, .int (sp_X0_behind p1 x5_29 x4_29 (sp_X6_pullOf x5_29 fa0_town_pulls))), (0, .ref a0), (1, .int p1), (2, .int p2), (3, .int z6)]) hx hb dX7_built_68 hl (k := 5) rfl rfl (by decide) rfl (fun ls hl => W.pc 71 rfl ?_)
              refine lv_goto (tgt := 29) hx hb dX7_built_71 (by decide) ?_
              exact ih_29 z6 (sp_X0_behind p1 x5_29 x4_29 (sp_X6_pullOf x5_29 fa0_town_pulls)) (x5_29 + (1 : Int32)) _ _ _ hP hD hS (lv_sub hl [2, 3, 4, 5, 1, 0] rfl) hsp
            replace hsp := hr_z6
            refine lv_icmp_ne (tgt := 49) hx hb dX7_built_39 (by decide) (fun c8 => ?_) (fun c8 => W.pc 42 rfl ?_)
            · have hsp := iq hsp c8
              subst hsp
              exact J7 _ _ _ hP hD hS (lv_sub hl [0, 1, 2, 3, 4, 5] rfl)
            · have hsp := ip hsp c8
              refine lv_iload_n hx hb dX7_built_42 rfl (lv_at hl 3 rfl) (W.pc 43 rfl ?_)
              refine lv_iconst (v := (1 : Int32)) hx hb dX7_built_43 (by decide) (W.pc 44 rfl ?_)
              refine lv_iload hx hb dX7_built_44 (lv_at hl 5 rfl) (W.pc 46 rfl ?_)
              refine lv_ishl hx hb dX7_built_46 (W.pc 47 rfl ?_)
              refine lv_ior hx hb dX7_built_47 (W.pc 48 rfl ?_)
              refine lv_istore_n (lv' := [(3, .int (x3_29 ||| ((1 : Int32) <<< (x5_29 &&& 31)))), (0, .ref a0), (1, .int p1), (2, .int p2), (4, .int x4_29), (5, .int x5_29)]) hx hb dX7_built_48 rfl hl (by decide) rfl (fun ls hl => W.pc 49 rfl ?_)
              subst hsp
              exact J7 _ _ _ hP hD hS (lv_sub hl [1, 2, 3, 0, 4, 5] rfl)
      obtain ⟨z4, hr_z4, hsp⟩ := bd_s hsp
      refine L_29 z4 (fun H locs ls hP hD hS hl => ?_) FU (0 : Int32) (0 : Int32) (0 : Int32) _ _ _ hP hD hS (lv_sub hl [3, 4, 5, 2, 1, 0] rfl) hr_z4
      refine lv_iload_n hx hb dX7_built_74 rfl (lv_at hl 0 rfl) (W.pc 75 rfl ?_)
      cases hsp
      exact rWi hX hP hS rfl rfl dX7_built_75
    · have hsp := ip hsp c3
      refine lv_aload_n hx hb dX7_built_14 rfl (lv_at hl 0 rfl) (W.pc 15 rfl ?_)
      refine lv_bipush (v := (-2 : Int32)) hx hb dX7_built_15 (by decide) (W.pc 17 rfl ?_)
      obtain ⟨z9, hr_z9, hsp⟩ := ltb_s hsp
      refine kVW (st1 := [.int z9.1]) (ws' := [(a0, .inr (4, [.ref a0_town, .ref a0_draft, .ref a0_images, .int a0_imagesKept, .ref a0_text, .ref a0_planner, .ref a0_trial, .ref a0_spread, .ref a0_spreadBehind, .ref a0_tally, .long a0_above, .long a0_below, .int z9.2, .int a0_refusedAsNo, .int a0_refusedAsFull])), (a0_town, .inr (3, [.int a0_town_kind, .ref a0_town_pulls, .ref a0_town_site, .ref a0_town_past, .int a0_town_pasts, .ref a0_town_views, .int a0_town_members, .ref a0_town_notes, .int a0_town_noteCount, .ref a0_town_marks, .int a0_town_markCount])), (a0_town_pulls, aI E 6 fa0_town_pulls)]) [0] hX (c_X7_bad l E a0 a0_town a0_draft a0_images a0_text a0_planner a0_trial a0_spread a0_spreadBehind a0_tally (-2 : Int32) a0_imagesKept a0_above a0_below a0_refusedAsBad a0_refusedAsNo a0_refusedAsFull z9.1 z9.2 hr_z9) B_X7_bad w_1_234 hK hP hD hS hA (by decide) rfl rfl rfl (q0 := 0) (ci := 4) rfl rfl rfl rfl hl.1 rfl (Nat.le_of_ble_eq_true rfl) ⟨Nat.le_of_ble_eq_true rfl, Nat.le_of_ble_eq_true rfl⟩ dX7_built_17 rfl (fun H locs hP hD hS => W.pc 20 rfl ?_)
      cases hsp
      exact rWi hX hP hS rfl rfl dX7_built_20
def sp_X7_note (p1 : Int32) (p2 : Int32) (p3 : Int32) (p4 : Int32) (a0_refusedAsBad : Int32) (a0_refusedAsFull : Int32) (a0_town_noteCount : Int32) (fa0_town_notes : Nat → Int32) : Int32 × Int32 × Int32 × (Nat → Int32) × Int32 := if (sp_X7_isTilt p1) = 0 then (lt_ (sp_X7_bad (-2 : Int32) a0_refusedAsBad) fun z2 => (z2.1, z2.2, a0_town_noteCount, fa0_town_notes, a0_refusedAsFull)) else (if (sp_X7_isTilt p2) = 0 then (lt_ (sp_X7_bad (-2 : Int32) a0_refusedAsBad) fun z4 => (z4.1, z4.2, a0_town_noteCount, fa0_town_notes, a0_refusedAsFull)) else (if (sp_X2_within p3 (0 : Int32) (99 : Int32)) = 0 then (lt_ (sp_X7_bad (-2 : Int32) a0_refusedAsBad) fun z6 => (z6.1, z6.2, a0_town_noteCount, fa0_town_notes, a0_refusedAsFull)) else (if (sp_X7_isTilt p4) = 0 then (lt_ (sp_X7_bad (-2 : Int32) a0_refusedAsBad) fun z14 => (z14.1, z14.2, a0_town_noteCount, fa0_town_notes, a0_refusedAsFull)) else (if a0_town_noteCount < (6 : Int32) then (lt_ (sp_X2_put 24 (a0_town_noteCount * (4 : Int32)) p1 fa0_town_notes) fun z9 => lt_ (sp_X2_put 24 ((a0_town_noteCount * (4 : Int32)) + (1 : Int32)) p2 z9) fun z10 => lt_ (sp_X2_put 24 ((a0_town_noteCount * (4 : Int32)) + (2 : Int32)) p3 z10) fun z11 => lt_ (sp_X2_put 24 ((a0_town_noteCount * (4 : Int32)) + (3 : Int32)) p4 z11) fun z12 => ((a0_town_noteCount + (1 : Int32)), a0_refusedAsBad, (a0_town_noteCount + (1 : Int32)), z12, a0_refusedAsFull)) else (lt_ (sp_X7_full a0_refusedAsFull) fun z13 => (z13.1, a0_refusedAsBad, a0_town_noteCount, fa0_town_notes, z13.2))))))
set_option maxHeartbeats 4000000 in
set_option maxRecDepth 100000 in
theorem c_X7_note (l : Launch) (E : wE) (a0 a0_town a0_draft a0_images a0_text a0_planner a0_trial a0_spread a0_spreadBehind a0_tally a0_town_pulls a0_town_site a0_town_past a0_town_views a0_town_notes a0_town_marks : Nat) (p1 : Int32) (p2 : Int32) (p3 : Int32) (p4 : Int32) (a0_imagesKept : Int32) (a0_above : Int64) (a0_below : Int64) (a0_refusedAsBad : Int32) (a0_refusedAsNo : Int32) (a0_refusedAsFull : Int32) (a0_town_kind : Int32) (a0_town_pasts : Int32) (a0_town_members : Int32) (a0_town_noteCount : Int32) (a0_town_markCount : Int32) (fa0_town_notes : Nat → Int32) (z_0 : Int32) (z_1 : Int32) (z_2 : Int32) (z_3 : (Nat → Int32)) (z_4 : Int32) (hsp : sp_X7_note p1 p2 p3 p4 a0_refusedAsBad a0_refusedAsFull a0_town_noteCount fa0_town_notes = (z_0, z_1, z_2, z_3, z_4)) : MW l yX7_note cX7_note 6 (some .int) 2 E [.ref a0, .int p1, .int p2, .int p3, .int p4] [(a0, .inr (4, [.ref a0_town, .ref a0_draft, .ref a0_images, .int a0_imagesKept, .ref a0_text, .ref a0_planner, .ref a0_trial, .ref a0_spread, .ref a0_spreadBehind, .ref a0_tally, .long a0_above, .long a0_below, .int a0_refusedAsBad, .int a0_refusedAsNo, .int a0_refusedAsFull])), (a0_town, .inr (3, [.int a0_town_kind, .ref a0_town_pulls, .ref a0_town_site, .ref a0_town_past, .int a0_town_pasts, .ref a0_town_views, .int a0_town_members, .ref a0_town_notes, .int a0_town_noteCount, .ref a0_town_marks, .int a0_town_markCount])), (a0_town_notes, aI E 24 fa0_town_notes)] (some (.int z_0)) [(a0, .inr (4, [.ref a0_town, .ref a0_draft, .ref a0_images, .int a0_imagesKept, .ref a0_text, .ref a0_planner, .ref a0_trial, .ref a0_spread, .ref a0_spreadBehind, .ref a0_tally, .long a0_above, .long a0_below, .int z_1, .int a0_refusedAsNo, .int z_4])), (a0_town, .inr (3, [.int a0_town_kind, .ref a0_town_pulls, .ref a0_town_site, .ref a0_town_past, .int a0_town_pasts, .ref a0_town_views, .int a0_town_members, .ref a0_town_notes, .int z_2, .ref a0_town_marks, .int a0_town_markCount])), (a0_town_notes, aI E 24 z_3)] := by
  refine MW.of (by decide +kernel) (Nat.le_of_ble_eq_true rfl) ?_
  intro p e s m below meth c ls A hX hK hP hD hS hA hl
  have hX : CX p s m [.ref a0, .int p1, .int p2, .int p3, .int p4].toArray meth c cX7_note 6 (some .int) RX7 := hX
  have hx := hX.1; have hb := hX.2.1; have hts := hX.2.2.2.2.1; have hown := hX.2.2.2.2.2.1
  have hl : lv_has ls 6 [(0, .ref a0), (1, .int p1), (2, .int p2), (3, .int p3), (4, .int p4)] := hl
  have hP : wP E [(a0, .inr (4, [.ref a0_town, .ref a0_draft, .ref a0_images, .int a0_imagesKept, .ref a0_text, .ref a0_planner, .ref a0_trial, .ref a0_spread, .ref a0_spreadBehind, .ref a0_tally, .long a0_above, .long a0_below, .int a0_refusedAsBad, .int a0_refusedAsNo, .int a0_refusedAsFull])), (a0_town, .inr (3, [.int a0_town_kind, .ref a0_town_pulls, .ref a0_town_site, .ref a0_town_past, .int a0_town_pasts, .ref a0_town_views, .int a0_town_members, .ref a0_town_notes, .int a0_town_noteCount, .ref a0_town_marks, .int a0_town_markCount])), (a0_town_notes, aI E 24 fa0_town_notes)] s.heap := hP
  have hsp : (if (sp_X7_isTilt p1) = 0 then (lt_ (sp_X7_bad (-2 : Int32) a0_refusedAsBad) fun z2 => (z2.1, z2.2, a0_town_noteCount, fa0_town_notes, a0_refusedAsFull)) else (if (sp_X7_isTilt p2) = 0 then (lt_ (sp_X7_bad (-2 : Int32) a0_refusedAsBad) fun z4 => (z4.1, z4.2, a0_town_noteCount, fa0_town_notes, a0_refusedAsFull)) else (if (sp_X2_within p3 (0 : Int32) (99 : Int32)) = 0 then (lt_ (sp_X7_bad (-2 : Int32) a0_refusedAsBad) fun z6 => (z6.1, z6.2, a0_town_noteCount, fa0_town_notes, a0_refusedAsFull)) else (if (sp_X7_isTilt p4) = 0 then (lt_ (sp_X7_bad (-2 : Int32) a0_refusedAsBad) fun z14 => (z14.1, z14.2, a0_town_noteCount, fa0_town_notes, a0_refusedAsFull)) else (if a0_town_noteCount < (6 : Int32) then (lt_ (sp_X2_put 24 (a0_town_noteCount * (4 : Int32)) p1 fa0_town_notes) fun z9 => lt_ (sp_X2_put 24 ((a0_town_noteCount * (4 : Int32)) + (1 : Int32)) p2 z9) fun z10 => lt_ (sp_X2_put 24 ((a0_town_noteCount * (4 : Int32)) + (2 : Int32)) p3 z10) fun z11 => lt_ (sp_X2_put 24 ((a0_town_noteCount * (4 : Int32)) + (3 : Int32)) p4 z11) fun z12 => ((a0_town_noteCount + (1 : Int32)), a0_refusedAsBad, (a0_town_noteCount + (1 : Int32)), z12, a0_refusedAsFull)) else (lt_ (sp_X7_full a0_refusedAsFull) fun z13 => (z13.1, a0_refusedAsBad, a0_town_noteCount, fa0_town_notes, z13.2))))))) = (z_0, z_1, z_2, z_3, z_4) := hsp
  refine lv_iload_n hx hb dX7_note_0 rfl (lv_at hl 1 rfl) (W.pc 1 rfl ?_)
  refine kSR (st1 := [.int (sp_X7_isTilt p1)]) hX (c_X7_isTilt l E p1 _ rfl) B_X7_isTilt w_2_25 hK (hP.pick [] rfl) rfl hl.1 rfl (Nat.le_of_ble_eq_true rfl) ⟨Nat.le_of_ble_eq_true rfl, Nat.le_of_ble_eq_true rfl⟩ dX7_note_1 rfl (W.pc 4 rfl ?_)
  refine lv_if_eq (tgt := 32) hx hb dX7_note_4 (by decide) (fun c1 => ?_) (fun c1 => W.pc 7 rfl ?_)
  · have hsp := ip hsp c1
    refine lv_aload_n hx hb dX7_note_32 rfl (lv_at hl 0 rfl) (W.pc 33 rfl ?_)
    refine lv_bipush (v := (-2 : Int32)) hx hb dX7_note_33 (by decide) (W.pc 35 rfl ?_)
    obtain ⟨z2, hr_z2, hsp⟩ := ltb_s hsp
    refine kVW (st1 := [.int z2.1]) (ws' := [(a0, .inr (4, [.ref a0_town, .ref a0_draft, .ref a0_images, .int a0_imagesKept, .ref a0_text, .ref a0_planner, .ref a0_trial, .ref a0_spread, .ref a0_spreadBehind, .ref a0_tally, .long a0_above, .long a0_below, .int z2.2, .int a0_refusedAsNo, .int a0_refusedAsFull])), (a0_town, .inr (3, [.int a0_town_kind, .ref a0_town_pulls, .ref a0_town_site, .ref a0_town_past, .int a0_town_pasts, .ref a0_town_views, .int a0_town_members, .ref a0_town_notes, .int a0_town_noteCount, .ref a0_town_marks, .int a0_town_markCount])), (a0_town_notes, aI E 24 fa0_town_notes)]) [0] hX (c_X7_bad l E a0 a0_town a0_draft a0_images a0_text a0_planner a0_trial a0_spread a0_spreadBehind a0_tally (-2 : Int32) a0_imagesKept a0_above a0_below a0_refusedAsBad a0_refusedAsNo a0_refusedAsFull z2.1 z2.2 hr_z2) B_X7_bad w_1_234 hK hP hD hS hA (by decide) rfl rfl rfl (q0 := 0) (ci := 4) rfl rfl rfl rfl hl.1 rfl (Nat.le_of_ble_eq_true rfl) ⟨Nat.le_of_ble_eq_true rfl, Nat.le_of_ble_eq_true rfl⟩ dX7_note_35 rfl (fun H locs hP hD hS => W.pc 38 rfl ?_)
    cases hsp
    exact rWi hX hP hS rfl rfl dX7_note_38
  · have hsp := iq hsp c1
    refine lv_iload_n hx hb dX7_note_7 rfl (lv_at hl 2 rfl) (W.pc 8 rfl ?_)
    refine kSR (st1 := [.int (sp_X7_isTilt p2)]) hX (c_X7_isTilt l E p2 _ rfl) B_X7_isTilt w_2_25 hK (hP.pick [] rfl) rfl hl.1 rfl (Nat.le_of_ble_eq_true rfl) ⟨Nat.le_of_ble_eq_true rfl, Nat.le_of_ble_eq_true rfl⟩ dX7_note_8 rfl (W.pc 11 rfl ?_)
    refine lv_if_eq (tgt := 32) hx hb dX7_note_11 (by decide) (fun c3 => ?_) (fun c3 => W.pc 14 rfl ?_)
    · have hsp := ip hsp c3
      refine lv_aload_n hx hb dX7_note_32 rfl (lv_at hl 0 rfl) (W.pc 33 rfl ?_)
      refine lv_bipush (v := (-2 : Int32)) hx hb dX7_note_33 (by decide) (W.pc 35 rfl ?_)
      obtain ⟨z4, hr_z4, hsp⟩ := ltb_s hsp
      refine kVW (st1 := [.int z4.1]) (ws' := [(a0, .inr (4, [.ref a0_town, .ref a0_draft, .ref a0_images, .int a0_imagesKept, .ref a0_text, .ref a0_planner, .ref a0_trial, .ref a0_spread, .ref a0_spreadBehind, .ref a0_tally, .long a0_above, .long a0_below, .int z4.2, .int a0_refusedAsNo, .int a0_refusedAsFull])), (a0_town, .inr (3, [.int a0_town_kind, .ref a0_town_pulls, .ref a0_town_site, .ref a0_town_past, .int a0_town_pasts, .ref a0_town_views, .int a0_town_members, .ref a0_town_notes, .int a0_town_noteCount, .ref a0_town_marks, .int a0_town_markCount])), (a0_town_notes, aI E 24 fa0_town_notes)]) [0] hX (c_X7_bad l E a0 a0_town a0_draft a0_images a0_text a0_planner a0_trial a0_spread a0_spreadBehind a0_tally (-2 : Int32) a0_imagesKept a0_above a0_below a0_refusedAsBad a0_refusedAsNo a0_refusedAsFull z4.1 z4.2 hr_z4) B_X7_bad w_1_234 hK hP hD hS hA (by decide) rfl rfl rfl (q0 := 0) (ci := 4) rfl rfl rfl rfl hl.1 rfl (Nat.le_of_ble_eq_true rfl) ⟨Nat.le_of_ble_eq_true rfl, Nat.le_of_ble_eq_true rfl⟩ dX7_note_35 rfl (fun H locs hP hD hS => W.pc 38 rfl ?_)
      cases hsp
      exact rWi hX hP hS rfl rfl dX7_note_38
    · have hsp := iq hsp c3
      refine lv_iload_n hx hb dX7_note_14 rfl (lv_at hl 3 rfl) (W.pc 15 rfl ?_)
      refine lv_iconst (v := (0 : Int32)) hx hb dX7_note_15 (by decide) (W.pc 16 rfl ?_)
      refine lv_bipush (v := (99 : Int32)) hx hb dX7_note_16 (by decide) (W.pc 18 rfl ?_)
      refine kSR (st1 := [.int (sp_X2_within p3 (0 : Int32) (99 : Int32))]) hX (c_X2_within l E p3 (0 : Int32) (99 : Int32) _ rfl) B_X2_within w_1_231 hK (hP.pick [] rfl) rfl hl.1 rfl (Nat.le_of_ble_eq_true rfl) ⟨Nat.le_of_ble_eq_true rfl, Nat.le_of_ble_eq_true rfl⟩ dX7_note_18 rfl (W.pc 21 rfl ?_)
      refine lv_if_eq (tgt := 32) hx hb dX7_note_21 (by decide) (fun c5 => ?_) (fun c5 => W.pc 24 rfl ?_)
      · have hsp := ip hsp c5
        refine lv_aload_n hx hb dX7_note_32 rfl (lv_at hl 0 rfl) (W.pc 33 rfl ?_)
        refine lv_bipush (v := (-2 : Int32)) hx hb dX7_note_33 (by decide) (W.pc 35 rfl ?_)
        obtain ⟨z6, hr_z6, hsp⟩ := ltb_s hsp
        refine kVW (st1 := [.int z6.1]) (ws' := [(a0, .inr (4, [.ref a0_town, .ref a0_draft, .ref a0_images, .int a0_imagesKept, .ref a0_text, .ref a0_planner, .ref a0_trial, .ref a0_spread, .ref a0_spreadBehind, .ref a0_tally, .long a0_above, .long a0_below, .int z6.2, .int a0_refusedAsNo, .int a0_refusedAsFull])), (a0_town, .inr (3, [.int a0_town_kind, .ref a0_town_pulls, .ref a0_town_site, .ref a0_town_past, .int a0_town_pasts, .ref a0_town_views, .int a0_town_members, .ref a0_town_notes, .int a0_town_noteCount, .ref a0_town_marks, .int a0_town_markCount])), (a0_town_notes, aI E 24 fa0_town_notes)]) [0] hX (c_X7_bad l E a0 a0_town a0_draft a0_images a0_text a0_planner a0_trial a0_spread a0_spreadBehind a0_tally (-2 : Int32) a0_imagesKept a0_above a0_below a0_refusedAsBad a0_refusedAsNo a0_refusedAsFull z6.1 z6.2 hr_z6) B_X7_bad w_1_234 hK hP hD hS hA (by decide) rfl rfl rfl (q0 := 0) (ci := 4) rfl rfl rfl rfl hl.1 rfl (Nat.le_of_ble_eq_true rfl) ⟨Nat.le_of_ble_eq_true rfl, Nat.le_of_ble_eq_true rfl⟩ dX7_note_35 rfl (fun H locs hP hD hS => W.pc 38 rfl ?_)
        cases hsp
        exact rWi hX hP hS rfl rfl dX7_note_38
      · have hsp := iq hsp c5
        refine lv_iload hx hb dX7_note_24 (lv_at hl 4 rfl) (W.pc 26 rfl ?_)
        refine kSR (st1 := [.int (sp_X7_isTilt p4)]) hX (c_X7_isTilt l E p4 _ rfl) B_X7_isTilt w_2_25 hK (hP.pick [] rfl) rfl hl.1 rfl (Nat.le_of_ble_eq_true rfl) ⟨Nat.le_of_ble_eq_true rfl, Nat.le_of_ble_eq_true rfl⟩ dX7_note_26 rfl (W.pc 29 rfl ?_)
        refine lv_if_ne (tgt := 39) hx hb dX7_note_29 (by decide) (fun c7 => ?_) (fun c7 => W.pc 32 rfl ?_)
        · have hsp := iq hsp c7
          refine lv_aload_n hx hb dX7_note_39 rfl (lv_at hl 0 rfl) (W.pc 40 rfl ?_)
          refine va_get (D := E.1) (ci := 4) (v := .ref a0_town) (C := RX7) (T := TX7) (N := 15) hx hb hts inT_X7 hown hK hP 0 rfl rfl 0 (by decide) (hts _ w_1_178) (fun _ h9 => h9) rfl dX7_note_40 (W.pc 43 rfl ?_)
          refine va_get (D := E.1) (ci := 3) (v := .int a0_town_noteCount) (C := RX6) (T := TX6) (N := 11) hx hb hts inT_X6 hown hK hP 1 rfl rfl 8 (by decide) (hts _ w_1_81) (fun _ h9 => h9) rfl dX7_note_43 (W.pc 46 rfl ?_)
          refine lv_bipush (v := (6 : Int32)) hx hb dX7_note_46 (by decide) (W.pc 48 rfl ?_)
          refine lv_icmp_lt (tgt := 56) hx hb dX7_note_48 (by decide) (fun c8 => ?_) (fun c8 => W.pc 51 rfl ?_)
          · have hsp := ip hsp c8
            refine lv_aload_n hx hb dX7_note_56 rfl (lv_at hl 0 rfl) (W.pc 57 rfl ?_)
            refine va_get (D := E.1) (ci := 4) (v := .ref a0_town) (C := RX7) (T := TX7) (N := 15) hx hb hts inT_X7 hown hK hP 0 rfl rfl 0 (by decide) (hts _ w_1_178) (fun _ h9 => h9) rfl dX7_note_57 (W.pc 60 rfl ?_)
            refine va_get (D := E.1) (ci := 3) (v := .int a0_town_noteCount) (C := RX6) (T := TX6) (N := 11) hx hb hts inT_X6 hown hK hP 1 rfl rfl 8 (by decide) (hts _ w_1_81) (fun _ h9 => h9) rfl dX7_note_60 (W.pc 63 rfl ?_)
            refine lv_iconst (v := (4 : Int32)) hx hb dX7_note_63 (by decide) (W.pc 64 rfl ?_)
            refine lv_imul hx hb dX7_note_64 (W.pc 65 rfl ?_)
            refine lv_istore (lv' := [(5, .int (a0_town_noteCount * (4 : Int32))), (0, .ref a0), (1, .int p1), (2, .int p2), (3, .int p3), (4, .int p4)]) hx hb dX7_note_65 hl (by decide) rfl (fun ls hl => W.pc 67 rfl ?_)
            refine lv_aload_n hx hb dX7_note_67 rfl (lv_at hl 1 rfl) (W.pc 68 rfl ?_)
            refine va_get (D := E.1) (ci := 4) (v := .ref a0_town) (C := RX7) (T := TX7) (N := 15) hx hb hts inT_X7 hown hK hP 0 rfl rfl 0 (by decide) (hts _ w_1_178) (fun _ h9 => h9) rfl dX7_note_68 (W.pc 71 rfl ?_)
            refine va_get (D := E.1) (ci := 3) (v := .ref a0_town_notes) (C := RX6) (T := TX6) (N := 11) hx hb hts inT_X6 hown hK hP 1 rfl rfl 7 (by decide) (hts _ w_1_79) (fun _ h9 => h9) rfl dX7_note_71 (W.pc 74 rfl ?_)
            refine lv_iload hx hb dX7_note_74 (lv_at hl 0 rfl) (W.pc 76 rfl ?_)
            refine lv_iload_n hx hb dX7_note_76 rfl (lv_at hl 2 rfl) (W.pc 77 rfl ?_)
            obtain ⟨z9, hr_z9, hsp⟩ := ltb_s hsp
            refine kSW (st1 := []) (ws' := [(a0, .inr (4, [.ref a0_town, .ref a0_draft, .ref a0_images, .int a0_imagesKept, .ref a0_text, .ref a0_planner, .ref a0_trial, .ref a0_spread, .ref a0_spreadBehind, .ref a0_tally, .long a0_above, .long a0_below, .int a0_refusedAsBad, .int a0_refusedAsNo, .int a0_refusedAsFull])), (a0_town, .inr (3, [.int a0_town_kind, .ref a0_town_pulls, .ref a0_town_site, .ref a0_town_past, .int a0_town_pasts, .ref a0_town_views, .int a0_town_members, .ref a0_town_notes, .int a0_town_noteCount, .ref a0_town_marks, .int a0_town_markCount])), (a0_town_notes, aI E 24 z9)]) [2] hX (c_X2_put l E a0_town_notes 24 (by decide) (a0_town_noteCount * (4 : Int32)) p1 fa0_town_notes z9 hr_z9) B_X2_put w_2_29 hK hP hD hS hA (by decide) rfl rfl rfl rfl hl.1 rfl (Nat.le_of_ble_eq_true rfl) ⟨Nat.le_of_ble_eq_true rfl, Nat.le_of_ble_eq_true rfl⟩ dX7_note_77 rfl (fun H locs hP hD hS => W.pc 80 rfl ?_)
            refine lv_aload_n hx hb dX7_note_80 rfl (lv_at hl 1 rfl) (W.pc 81 rfl ?_)
            refine va_get (D := E.1) (ci := 4) (v := .ref a0_town) (C := RX7) (T := TX7) (N := 15) hx hb hts inT_X7 hown hK hP 0 rfl rfl 0 (by decide) (hts _ w_1_178) (fun _ h9 => h9) rfl dX7_note_81 (W.pc 84 rfl ?_)
            refine va_get (D := E.1) (ci := 3) (v := .ref a0_town_notes) (C := RX6) (T := TX6) (N := 11) hx hb hts inT_X6 hown hK hP 1 rfl rfl 7 (by decide) (hts _ w_1_79) (fun _ h9 => h9) rfl dX7_note_84 (W.pc 87 rfl ?_)
            refine lv_iload hx hb dX7_note_87 (lv_at hl 0 rfl) (W.pc 89 rfl ?_)
            refine lv_iconst (v := (1 : Int32)) hx hb dX7_note_89 (by decide) (W.pc 90 rfl ?_)
            refine lv_iadd hx hb dX7_note_90 (W.pc 91 rfl ?_)
            refine lv_iload_n hx hb dX7_note_91 rfl (lv_at hl 3 rfl) (W.pc 92 rfl ?_)
            obtain ⟨z10, hr_z10, hsp⟩ := ltb_s hsp
            refine kSW (st1 := []) (ws' := [(a0, .inr (4, [.ref a0_town, .ref a0_draft, .ref a0_images, .int a0_imagesKept, .ref a0_text, .ref a0_planner, .ref a0_trial, .ref a0_spread, .ref a0_spreadBehind, .ref a0_tally, .long a0_above, .long a0_below, .int a0_refusedAsBad, .int a0_refusedAsNo, .int a0_refusedAsFull])), (a0_town, .inr (3, [.int a0_town_kind, .ref a0_town_pulls, .ref a0_town_site, .ref a0_town_past, .int a0_town_pasts, .ref a0_town_views, .int a0_town_members, .ref a0_town_notes, .int a0_town_noteCount, .ref a0_town_marks, .int a0_town_markCount])), (a0_town_notes, aI E 24 z10)]) [2] hX (c_X2_put l E a0_town_notes 24 (by decide) ((a0_town_noteCount * (4 : Int32)) + (1 : Int32)) p2 z9 z10 hr_z10) B_X2_put w_2_29 hK hP hD hS hA (by decide) rfl rfl rfl rfl hl.1 rfl (Nat.le_of_ble_eq_true rfl) ⟨Nat.le_of_ble_eq_true rfl, Nat.le_of_ble_eq_true rfl⟩ dX7_note_92 rfl (fun H locs hP hD hS => W.pc 95 rfl ?_)
            refine lv_aload_n hx hb dX7_note_95 rfl (lv_at hl 1 rfl) (W.pc 96 rfl ?_)
            refine va_get (D := E.1) (ci := 4) (v := .ref a0_town) (C := RX7) (T := TX7) (N := 15) hx hb hts inT_X7 hown hK hP 0 rfl rfl 0 (by decide) (hts _ w_1_178) (fun _ h9 => h9) rfl dX7_note_96 (W.pc 99 rfl ?_)
            refine va_get (D := E.1) (ci := 3) (v := .ref a0_town_notes) (C := RX6) (T := TX6) (N := 11) hx hb hts inT_X6 hown hK hP 1 rfl rfl 7 (by decide) (hts _ w_1_79) (fun _ h9 => h9) rfl dX7_note_99 (W.pc 102 rfl ?_)
            refine lv_iload hx hb dX7_note_102 (lv_at hl 0 rfl) (W.pc 104 rfl ?_)
            refine lv_iconst (v := (2 : Int32)) hx hb dX7_note_104 (by decide) (W.pc 105 rfl ?_)
            refine lv_iadd hx hb dX7_note_105 (W.pc 106 rfl ?_)
            refine lv_iload_n hx hb dX7_note_106 rfl (lv_at hl 4 rfl) (W.pc 107 rfl ?_)
            obtain ⟨z11, hr_z11, hsp⟩ := ltb_s hsp
            refine kSW (st1 := []) (ws' := [(a0, .inr (4, [.ref a0_town, .ref a0_draft, .ref a0_images, .int a0_imagesKept, .ref a0_text, .ref a0_planner, .ref a0_trial, .ref a0_spread, .ref a0_spreadBehind, .ref a0_tally, .long a0_above, .long a0_below, .int a0_refusedAsBad, .int a0_refusedAsNo, .int a0_refusedAsFull])), (a0_town, .inr (3, [.int a0_town_kind, .ref a0_town_pulls, .ref a0_town_site, .ref a0_town_past, .int a0_town_pasts, .ref a0_town_views, .int a0_town_members, .ref a0_town_notes, .int a0_town_noteCount, .ref a0_town_marks, .int a0_town_markCount])), (a0_town_notes, aI E 24 z11)]) [2] hX (c_X2_put l E a0_town_notes 24 (by decide) ((a0_town_noteCount * (4 : Int32)) + (2 : Int32)) p3 z10 z11 hr_z11) B_X2_put w_2_29 hK hP hD hS hA (by decide) rfl rfl rfl rfl hl.1 rfl (Nat.le_of_ble_eq_true rfl) ⟨Nat.le_of_ble_eq_true rfl, Nat.le_of_ble_eq_true rfl⟩ dX7_note_107 rfl (fun H locs hP hD hS => W.pc 110 rfl ?_)
            refine lv_aload_n hx hb dX7_note_110 rfl (lv_at hl 1 rfl) (W.pc 111 rfl ?_)
            refine va_get (D := E.1) (ci := 4) (v := .ref a0_town) (C := RX7) (T := TX7) (N := 15) hx hb hts inT_X7 hown hK hP 0 rfl rfl 0 (by decide) (hts _ w_1_178) (fun _ h9 => h9) rfl dX7_note_111 (W.pc 114 rfl ?_)
            refine va_get (D := E.1) (ci := 3) (v := .ref a0_town_notes) (C := RX6) (T := TX6) (N := 11) hx hb hts inT_X6 hown hK hP 1 rfl rfl 7 (by decide) (hts _ w_1_79) (fun _ h9 => h9) rfl dX7_note_114 (W.pc 117 rfl ?_)
            refine lv_iload hx hb dX7_note_117 (lv_at hl 0 rfl) (W.pc 119 rfl ?_)
            refine lv_iconst (v := (3 : Int32)) hx hb dX7_note_119 (by decide) (W.pc 120 rfl ?_)
            refine lv_iadd hx hb dX7_note_120 (W.pc 121 rfl ?_)
            refine lv_iload hx hb dX7_note_121 (lv_at hl 5 rfl) (W.pc 123 rfl ?_)
            obtain ⟨z12, hr_z12, hsp⟩ := ltb_s hsp
            refine kSW (st1 := []) (ws' := [(a0, .inr (4, [.ref a0_town, .ref a0_draft, .ref a0_images, .int a0_imagesKept, .ref a0_text, .ref a0_planner, .ref a0_trial, .ref a0_spread, .ref a0_spreadBehind, .ref a0_tally, .long a0_above, .long a0_below, .int a0_refusedAsBad, .int a0_refusedAsNo, .int a0_refusedAsFull])), (a0_town, .inr (3, [.int a0_town_kind, .ref a0_town_pulls, .ref a0_town_site, .ref a0_town_past, .int a0_town_pasts, .ref a0_town_views, .int a0_town_members, .ref a0_town_notes, .int a0_town_noteCount, .ref a0_town_marks, .int a0_town_markCount])), (a0_town_notes, aI E 24 z12)]) [2] hX (c_X2_put l E a0_town_notes 24 (by decide) ((a0_town_noteCount * (4 : Int32)) + (3 : Int32)) p4 z11 z12 hr_z12) B_X2_put w_2_29 hK hP hD hS hA (by decide) rfl rfl rfl rfl hl.1 rfl (Nat.le_of_ble_eq_true rfl) ⟨Nat.le_of_ble_eq_true rfl, Nat.le_of_ble_eq_true rfl⟩ dX7_note_123 rfl (fun H locs hP hD hS => W.pc 126 rfl ?_)
            refine lv_aload_n hx hb dX7_note_126 rfl (lv_at hl 1 rfl) (W.pc 127 rfl ?_)
            refine va_get (D := E.1) (ci := 4) (v := .ref a0_town) (C := RX7) (T := TX7) (N := 15) hx hb hts inT_X7 hown hK hP 0 rfl rfl 0 (by decide) (hts _ w_1_178) (fun _ h9 => h9) rfl dX7_note_127 (W.pc 130 rfl ?_)
            refine lv_dup hx hb dX7_note_130 rfl (W.pc 131 rfl ?_)
            refine va_get (D := E.1) (ci := 3) (v := .int a0_town_noteCount) (C := RX6) (T := TX6) (N := 11) hx hb hts inT_X6 hown hK hP 1 rfl rfl 8 (by decide) (hts _ w_1_81) (fun _ h9 => h9) rfl dX7_note_131 (W.pc 134 rfl ?_)
            refine lv_iconst (v := (1 : Int32)) hx hb dX7_note_134 (by decide) (W.pc 135 rfl ?_)
            refine lv_iadd hx hb dX7_note_135 (W.pc 136 rfl ?_)
            refine va_put (D := E.1) (ci := 3) (v := .int (a0_town_noteCount + (1 : Int32))) (ty := .int) (C := RX6) (T := TX6) (N := 11) hx hb hts inT_X6 tyX6 tyX6_ok nmX6 hown hK hP hD hS 1 rfl rfl 8 (by decide) (hts _ w_1_81) (fun _ h9 => h9) rfl (by decide +kernel) rfl rfl (Nat.le_of_ble_eq_true rfl) dX7_note_136 (fun H locs hP hD hS => W.pc 139 rfl ?_)
            have hP : wP E [(a0, .inr (4, [.ref a0_town, .ref a0_draft, .ref a0_images, .int a0_imagesKept, .ref a0_text, .ref a0_planner, .ref a0_trial, .ref a0_spread, .ref a0_spreadBehind, .ref a0_tally, .long a0_above, .long a0_below, .int a0_refusedAsBad, .int a0_refusedAsNo, .int a0_refusedAsFull])), (a0_town, .inr (3, [.int a0_town_kind, .ref a0_town_pulls, .ref a0_town_site, .ref a0_town_past, .int a0_town_pasts, .ref a0_town_views, .int a0_town_members, .ref a0_town_notes, .int (a0_town_noteCount + (1 : Int32)), .ref a0_town_marks, .int a0_town_markCount])), (a0_town_notes, aI E 24 z12)] _ := hP
            have hD : va_D A [(a0, .inr (4, [.ref a0_town, .ref a0_draft, .ref a0_images, .int a0_imagesKept, .ref a0_text, .ref a0_planner, .ref a0_trial, .ref a0_spread, .ref a0_spreadBehind, .ref a0_tally, .long a0_above, .long a0_below, .int a0_refusedAsBad, .int a0_refusedAsNo, .int a0_refusedAsFull])), (a0_town, .inr (3, [.int a0_town_kind, .ref a0_town_pulls, .ref a0_town_site, .ref a0_town_past, .int a0_town_pasts, .ref a0_town_views, .int a0_town_members, .ref a0_town_notes, .int (a0_town_noteCount + (1 : Int32)), .ref a0_town_marks, .int a0_town_markCount])), (a0_town_notes, aI E 24 z12)] := hD
            refine lv_aload_n hx hb dX7_note_139 rfl (lv_at hl 1 rfl) (W.pc 140 rfl ?_)
            refine va_get (D := E.1) (ci := 4) (v := .ref a0_town) (C := RX7) (T := TX7) (N := 15) hx hb hts inT_X7 hown hK hP 0 rfl rfl 0 (by decide) (hts _ w_1_178) (fun _ h9 => h9) rfl dX7_note_140 (W.pc 143 rfl ?_)
            refine va_get (D := E.1) (ci := 3) (v := .int (a0_town_noteCount + (1 : Int32))) (C := RX6) (T := TX6) (N := 11) hx hb hts inT_X6 hown hK hP 1 rfl rfl 8 (by decide) (hts _ w_1_81) (fun _ h9 => h9) rfl dX7_note_143 (W.pc 146 rfl ?_)
            cases hsp
            exact rWi hX hP hS rfl rfl dX7_note_146
          · have hsp := iq hsp c8
            refine lv_aload_n hx hb dX7_note_51 rfl (lv_at hl 0 rfl) (W.pc 52 rfl ?_)
            obtain ⟨z13, hr_z13, hsp⟩ := ltb_s hsp
            refine kVW (st1 := [.int z13.1]) (ws' := [(a0, .inr (4, [.ref a0_town, .ref a0_draft, .ref a0_images, .int a0_imagesKept, .ref a0_text, .ref a0_planner, .ref a0_trial, .ref a0_spread, .ref a0_spreadBehind, .ref a0_tally, .long a0_above, .long a0_below, .int a0_refusedAsBad, .int a0_refusedAsNo, .int z13.2])), (a0_town, .inr (3, [.int a0_town_kind, .ref a0_town_pulls, .ref a0_town_site, .ref a0_town_past, .int a0_town_pasts, .ref a0_town_views, .int a0_town_members, .ref a0_town_notes, .int a0_town_noteCount, .ref a0_town_marks, .int a0_town_markCount])), (a0_town_notes, aI E 24 fa0_town_notes)]) [0] hX (c_X7_full l E a0 a0_town a0_draft a0_images a0_text a0_planner a0_trial a0_spread a0_spreadBehind a0_tally a0_imagesKept a0_above a0_below a0_refusedAsBad a0_refusedAsNo a0_refusedAsFull z13.1 z13.2 hr_z13) B_X7_full w_2_36 hK hP hD hS hA (by decide) rfl rfl rfl (q0 := 0) (ci := 4) rfl rfl rfl rfl hl.1 rfl (Nat.le_of_ble_eq_true rfl) ⟨Nat.le_of_ble_eq_true rfl, Nat.le_of_ble_eq_true rfl⟩ dX7_note_52 rfl (fun H locs hP hD hS => W.pc 55 rfl ?_)
            cases hsp
            exact rWi hX hP hS rfl rfl dX7_note_55
        · have hsp := ip hsp c7
          refine lv_aload_n hx hb dX7_note_32 rfl (lv_at hl 0 rfl) (W.pc 33 rfl ?_)
          refine lv_bipush (v := (-2 : Int32)) hx hb dX7_note_33 (by decide) (W.pc 35 rfl ?_)
          obtain ⟨z14, hr_z14, hsp⟩ := ltb_s hsp
          refine kVW (st1 := [.int z14.1]) (ws' := [(a0, .inr (4, [.ref a0_town, .ref a0_draft, .ref a0_images, .int a0_imagesKept, .ref a0_text, .ref a0_planner, .ref a0_trial, .ref a0_spread, .ref a0_spreadBehind, .ref a0_tally, .long a0_above, .long a0_below, .int z14.2, .int a0_refusedAsNo, .int a0_refusedAsFull])), (a0_town, .inr (3, [.int a0_town_kind, .ref a0_town_pulls, .ref a0_town_site, .ref a0_town_past, .int a0_town_pasts, .ref a0_town_views, .int a0_town_members, .ref a0_town_notes, .int a0_town_noteCount, .ref a0_town_marks, .int a0_town_markCount])), (a0_town_notes, aI E 24 fa0_town_notes)]) [0] hX (c_X7_bad l E a0 a0_town a0_draft a0_images a0_text a0_planner a0_trial a0_spread a0_spreadBehind a0_tally (-2 : Int32) a0_imagesKept a0_above a0_below a0_refusedAsBad a0_refusedAsNo a0_refusedAsFull z14.1 z14.2 hr_z14) B_X7_bad w_1_234 hK hP hD hS hA (by decide) rfl rfl rfl (q0 := 0) (ci := 4) rfl rfl rfl rfl hl.1 rfl (Nat.le_of_ble_eq_true rfl) ⟨Nat.le_of_ble_eq_true rfl, Nat.le_of_ble_eq_true rfl⟩ dX7_note_35 rfl (fun H locs hP hD hS => W.pc 38 rfl ?_)
          cases hsp
          exact rWi hX hP hS rfl rfl dX7_note_38
def sp_X7_mark (p1 : Int32) (p2 : Int32) (p3 : Int32) (p4 : Int32) (p5 : Int32) (a0_refusedAsBad : Int32) (a0_refusedAsFull : Int32) (a0_town_markCount : Int32) (fa0_town_marks : Nat → Int32) : Int32 × Int32 × (Nat → Int32) × Int32 × Int32 := lt_ (if (sp_X7_isName p1) = 0 then ((0 : Int32)) else (if (sp_X7_isTilt p2) = 0 then ((0 : Int32)) else (if (sp_X7_isTilt p3) = 0 then ((0 : Int32)) else (if (sp_X2_within p4 (0 : Int32) (30 : Int32)) = 0 then ((0 : Int32)) else (if (sp_X2_within p5 (0 : Int32) (1 : Int32)) = 0 then ((0 : Int32)) else ((1 : Int32))))))) fun z1 => if z1 = 0 then (lt_ (sp_X7_bad (-2 : Int32) a0_refusedAsBad) fun z16 => (z16.1, a0_town_markCount, fa0_town_marks, a0_refusedAsFull, z16.2)) else (if a0_town_markCount < (6 : Int32) then (lt_ (sp_X2_put 30 (a0_town_markCount * (5 : Int32)) p1 fa0_town_marks) fun z10 => lt_ (sp_X2_put 30 ((a0_town_markCount * (5 : Int32)) + (1 : Int32)) p2 z10) fun z11 => lt_ (sp_X2_put 30 ((a0_town_markCount * (5 : Int32)) + (2 : Int32)) p3 z11) fun z12 => lt_ (sp_X2_put 30 ((a0_town_markCount * (5 : Int32)) + (3 : Int32)) p4 z12) fun z13 => lt_ (sp_X2_put 30 ((a0_town_markCount * (5 : Int32)) + (4 : Int32)) p5 z13) fun z14 => ((a0_town_markCount + (1 : Int32)), (a0_town_markCount + (1 : Int32)), z14, a0_refusedAsFull, a0_refusedAsBad)) else (lt_ (sp_X7_full a0_refusedAsFull) fun z15 => (z15.1, a0_town_markCount, fa0_town_marks, z15.2, a0_refusedAsBad)))
set_option maxHeartbeats 4000000 in
set_option maxRecDepth 100000 in
theorem c_X7_mark (l : Launch) (E : wE) (a0 a0_town a0_draft a0_images a0_text a0_planner a0_trial a0_spread a0_spreadBehind a0_tally a0_town_pulls a0_town_site a0_town_past a0_town_views a0_town_notes a0_town_marks : Nat) (p1 : Int32) (p2 : Int32) (p3 : Int32) (p4 : Int32) (p5 : Int32) (a0_imagesKept : Int32) (a0_above : Int64) (a0_below : Int64) (a0_refusedAsBad : Int32) (a0_refusedAsNo : Int32) (a0_refusedAsFull : Int32) (a0_town_kind : Int32) (a0_town_pasts : Int32) (a0_town_members : Int32) (a0_town_noteCount : Int32) (a0_town_markCount : Int32) (fa0_town_marks : Nat → Int32) (z_0 : Int32) (z_1 : Int32) (z_2 : (Nat → Int32)) (z_3 : Int32) (z_4 : Int32) (hsp : sp_X7_mark p1 p2 p3 p4 p5 a0_refusedAsBad a0_refusedAsFull a0_town_markCount fa0_town_marks = (z_0, z_1, z_2, z_3, z_4)) : MW l yX7_mark cX7_mark 8 (some .int) 2 E [.ref a0, .int p1, .int p2, .int p3, .int p4, .int p5] [(a0, .inr (4, [.ref a0_town, .ref a0_draft, .ref a0_images, .int a0_imagesKept, .ref a0_text, .ref a0_planner, .ref a0_trial, .ref a0_spread, .ref a0_spreadBehind, .ref a0_tally, .long a0_above, .long a0_below, .int a0_refusedAsBad, .int a0_refusedAsNo, .int a0_refusedAsFull])), (a0_town, .inr (3, [.int a0_town_kind, .ref a0_town_pulls, .ref a0_town_site, .ref a0_town_past, .int a0_town_pasts, .ref a0_town_views, .int a0_town_members, .ref a0_town_notes, .int a0_town_noteCount, .ref a0_town_marks, .int a0_town_markCount])), (a0_town_marks, aI E 30 fa0_town_marks)] (some (.int z_0)) [(a0, .inr (4, [.ref a0_town, .ref a0_draft, .ref a0_images, .int a0_imagesKept, .ref a0_text, .ref a0_planner, .ref a0_trial, .ref a0_spread, .ref a0_spreadBehind, .ref a0_tally, .long a0_above, .long a0_below, .int z_4, .int a0_refusedAsNo, .int z_3])), (a0_town, .inr (3, [.int a0_town_kind, .ref a0_town_pulls, .ref a0_town_site, .ref a0_town_past, .int a0_town_pasts, .ref a0_town_views, .int a0_town_members, .ref a0_town_notes, .int a0_town_noteCount, .ref a0_town_marks, .int z_1])), (a0_town_marks, aI E 30 z_2)] := by
  refine MW.of (by decide +kernel) (Nat.le_of_ble_eq_true rfl) ?_
  intro p e s m below meth c ls A hX hK hP hD hS hA hl
  have hX : CX p s m [.ref a0, .int p1, .int p2, .int p3, .int p4, .int p5].toArray meth c cX7_mark 8 (some .int) RX7 := hX
  have hx := hX.1; have hb := hX.2.1; have hts := hX.2.2.2.2.1; have hown := hX.2.2.2.2.2.1
  have hl : lv_has ls 8 [(0, .ref a0), (1, .int p1), (2, .int p2), (3, .int p3), (4, .int p4), (5, .int p5)] := hl
  have hP : wP E [(a0, .inr (4, [.ref a0_town, .ref a0_draft, .ref a0_images, .int a0_imagesKept, .ref a0_text, .ref a0_planner, .ref a0_trial, .ref a0_spread, .ref a0_spreadBehind, .ref a0_tally, .long a0_above, .long a0_below, .int a0_refusedAsBad, .int a0_refusedAsNo, .int a0_refusedAsFull])), (a0_town, .inr (3, [.int a0_town_kind, .ref a0_town_pulls, .ref a0_town_site, .ref a0_town_past, .int a0_town_pasts, .ref a0_town_views, .int a0_town_members, .ref a0_town_notes, .int a0_town_noteCount, .ref a0_town_marks, .int a0_town_markCount])), (a0_town_marks, aI E 30 fa0_town_marks)] s.heap := hP
  have hsp : (lt_ (if (sp_X7_isName p1) = 0 then ((0 : Int32)) else (if (sp_X7_isTilt p2) = 0 then ((0 : Int32)) else (if (sp_X7_isTilt p3) = 0 then ((0 : Int32)) else (if (sp_X2_within p4 (0 : Int32) (30 : Int32)) = 0 then ((0 : Int32)) else (if (sp_X2_within p5 (0 : Int32) (1 : Int32)) = 0 then ((0 : Int32)) else ((1 : Int32))))))) fun z1 => if z1 = 0 then (lt_ (sp_X7_bad (-2 : Int32) a0_refusedAsBad) fun z16 => (z16.1, a0_town_markCount, fa0_town_marks, a0_refusedAsFull, z16.2)) else (if a0_town_markCount < (6 : Int32) then (lt_ (sp_X2_put 30 (a0_town_markCount * (5 : Int32)) p1 fa0_town_marks) fun z10 => lt_ (sp_X2_put 30 ((a0_town_markCount * (5 : Int32)) + (1 : Int32)) p2 z10) fun z11 => lt_ (sp_X2_put 30 ((a0_town_markCount * (5 : Int32)) + (2 : Int32)) p3 z11) fun z12 => lt_ (sp_X2_put 30 ((a0_town_markCount * (5 : Int32)) + (3 : Int32)) p4 z12) fun z13 => lt_ (sp_X2_put 30 ((a0_town_markCount * (5 : Int32)) + (4 : Int32)) p5 z13) fun z14 => ((a0_town_markCount + (1 : Int32)), (a0_town_markCount + (1 : Int32)), z14, a0_refusedAsFull, a0_refusedAsBad)) else (lt_ (sp_X7_full a0_refusedAsFull) fun z15 => (z15.1, a0_town_markCount, fa0_town_marks, z15.2, a0_refusedAsBad)))) = (z_0, z_1, z_2, z_3, z_4) := hsp
  refine lv_iload_n hx hb dX7_mark_0 rfl (lv_at hl 1 rfl) (W.pc 1 rfl ?_)
  refine kSR (st1 := [.int (sp_X7_isName p1)]) hX (c_X7_isName l E p1 _ rfl) B_X7_isName w_3_173 hK (hP.pick [] rfl) rfl hl.1 rfl (Nat.le_of_ble_eq_true rfl) ⟨Nat.le_of_ble_eq_true rfl, Nat.le_of_ble_eq_true rfl⟩ dX7_mark_1 rfl (W.pc 4 rfl ?_)
  obtain ⟨z1, hr_z1, hsp⟩ := ltb_s hsp
  have J2 : ∀ (H : Heap) (locs : List Loc) (ls : Array Slot), wP E [(a0, .inr (4, [.ref a0_town, .ref a0_draft, .ref a0_images, .int a0_imagesKept, .ref a0_text, .ref a0_planner, .ref a0_trial, .ref a0_spread, .ref a0_spreadBehind, .ref a0_tally, .long a0_above, .long a0_below, .int a0_refusedAsBad, .int a0_refusedAsNo, .int a0_refusedAsFull])), (a0_town, .inr (3, [.int a0_town_kind, .ref a0_town_pulls, .ref a0_town_site, .ref a0_town_past, .int a0_town_pasts, .ref a0_town_views, .int a0_town_members, .ref a0_town_notes, .int a0_town_noteCount, .ref a0_town_marks, .int a0_town_markCount])), (a0_town_marks, aI E 30 fa0_town_marks)] H → va_D A [(a0, .inr (4, [.ref a0_town, .ref a0_draft, .ref a0_images, .int a0_imagesKept, .ref a0_text, .ref a0_planner, .ref a0_trial, .ref a0_spread, .ref a0_spreadBehind, .ref a0_tally, .long a0_above, .long a0_below, .int a0_refusedAsBad, .int a0_refusedAsNo, .int a0_refusedAsFull])), (a0_town, .inr (3, [.int a0_town_kind, .ref a0_town_pulls, .ref a0_town_site, .ref a0_town_past, .int a0_town_pasts, .ref a0_town_views, .int a0_town_members, .ref a0_town_notes, .int a0_town_noteCount, .ref a0_town_marks, .int a0_town_markCount])), (a0_town_marks, aI E 30 fa0_town_marks)] → va_S A s.heap H locs → lv_has ls 8 [(0, .ref a0), (1, .int p1), (2, .int p2), (3, .int p3), (4, .int p4), (5, .int p5)] → W p l e (wR 2) s m [.ref a0, .int p1, .int p2, .int p3, .int p4, .int p5].toArray below meth c H locs 0 0 (MQ below (QWd E A (some (.int z_0)) [(a0, .inr (4, [.ref a0_town, .ref a0_draft, .ref a0_images, .int a0_imagesKept, .ref a0_text, .ref a0_planner, .ref a0_trial, .ref a0_spread, .ref a0_spreadBehind, .ref a0_tally, .long a0_above, .long a0_below, .int z_4, .int a0_refusedAsNo, .int z_3])), (a0_town, .inr (3, [.int a0_town_kind, .ref a0_town_pulls, .ref a0_town_site, .ref a0_town_past, .int a0_town_pasts, .ref a0_town_views, .int a0_town_members, .ref a0_town_notes, .int a0_town_noteCount, .ref a0_town_marks, .int z_1])), (a0_town_marks, aI E 30 z_2)]) [.ref a0, .int p1, .int p2, .int p3, .int p4, .int p5].toArray s 0 0 A) (F0 m 47 ls [.int z1]) := by
    intro H locs ls hP hD hS hl
    refine lv_istore (lv' := [(6, .int z1), (0, .ref a0), (1, .int p1), (2, .int p2), (3, .int p3), (4, .int p4), (5, .int p5)]) hx hb dX7_mark_47 hl (by decide) rfl (fun ls hl => W.pc 49 rfl ?_)
    refine lv_iload hx hb dX7_mark_49 (lv_at hl 0 rfl) (W.pc 51 rfl ?_)
    refine lv_if_ne (tgt := 61) hx hb dX7_mark_51 (by decide) (fun c8 => ?_) (fun c8 => W.pc 54 rfl ?_)
    · have hsp := iq hsp c8
      refine lv_aload_n hx hb dX7_mark_61 rfl (lv_at hl 1 rfl) (W.pc 62 rfl ?_)
      refine va_get (D := E.1) (ci := 4) (v := .ref a0_town) (C := RX7) (T := TX7) (N := 15) hx hb hts inT_X7 hown hK hP 0 rfl rfl 0 (by decide) (hts _ w_1_178) (fun _ h9 => h9) rfl dX7_mark_62 (W.pc 65 rfl ?_)
      refine va_get (D := E.1) (ci := 3) (v := .int a0_town_markCount) (C := RX6) (T := TX6) (N := 11) hx hb hts inT_X6 hown hK hP 1 rfl rfl 10 (by decide) (hts _ w_1_85) (fun _ h9 => h9) rfl dX7_mark_65 (W.pc 68 rfl ?_)
      refine lv_bipush (v := (6 : Int32)) hx hb dX7_mark_68 (by decide) (W.pc 70 rfl ?_)
      refine lv_icmp_lt (tgt := 78) hx hb dX7_mark_70 (by decide) (fun c9 => ?_) (fun c9 => W.pc 73 rfl ?_)
      · have hsp := ip hsp c9
        refine lv_aload_n hx hb dX7_mark_78 rfl (lv_at hl 1 rfl) (W.pc 79 rfl ?_)
        refine va_get (D := E.1) (ci := 4) (v := .ref a0_town) (C := RX7) (T := TX7) (N := 15) hx hb hts inT_X7 hown hK hP 0 rfl rfl 0 (by decide) (hts _ w_1_178) (fun _ h9 => h9) rfl dX7_mark_79 (W.pc 82 rfl ?_)
        refine va_get (D := E.1) (ci := 3) (v := .int a0_town_markCount) (C := RX6) (T := TX6) (N := 11) hx hb hts inT_X6 hown hK hP 1 rfl rfl 10 (by decide) (hts _ w_1_85) (fun _ h9 => h9) rfl dX7_mark_82 (W.pc 85 rfl ?_)
        refine lv_iconst (v := (5 : Int32)) hx hb dX7_mark_85 (by decide) (W.pc 86 rfl ?_)
        refine lv_imul hx hb dX7_mark_86 (W.pc 87 rfl ?_)
        refine lv_istore (lv' := [(7, .int (a0_town_markCount * (5 : Int32))), (6, .int z1), (0, .ref a0), (1, .int p1), (2, .int p2), (3, .int p3), (4, .int p4), (5, .int p5)]) hx hb dX7_mark_87 hl (by decide) rfl (fun ls hl => W.pc 89 rfl ?_)
        refine lv_aload_n hx hb dX7_mark_89 rfl (lv_at hl 2 rfl) (W.pc 90 rfl ?_)
        refine va_get (D := E.1) (ci := 4) (v := .ref a0_town) (C := RX7) (T := TX7) (N := 15) hx hb hts inT_X7 hown hK hP 0 rfl rfl 0 (by decide) (hts _ w_1_178) (fun _ h9 => h9) rfl dX7_mark_90 (W.pc 93 rfl ?_)
        refine va_get (D := E.1) (ci := 3) (v := .ref a0_town_marks) (C := RX6) (T := TX6) (N := 11) hx hb hts inT_X6 hown hK hP 1 rfl rfl 9 (by decide) (hts _ w_1_83) (fun _ h9 => h9) rfl dX7_mark_93 (W.pc 96 rfl ?_)
        refine lv_iload hx hb dX7_mark_96 (lv_at hl 0 rfl) (W.pc 98 rfl ?_)
        refine lv_iload_n hx hb dX7_mark_98 rfl (lv_at hl 3 rfl) (W.pc 99 rfl ?_)
        obtain ⟨z10, hr_z10, hsp⟩ := ltb_s hsp
        refine kSW (st1 := []) (ws' := [(a0, .inr (4, [.ref a0_town, .ref a0_draft, .ref a0_images, .int a0_imagesKept, .ref a0_text, .ref a0_planner, .ref a0_trial, .ref a0_spread, .ref a0_spreadBehind, .ref a0_tally, .long a0_above, .long a0_below, .int a0_refusedAsBad, .int a0_refusedAsNo, .int a0_refusedAsFull])), (a0_town, .inr (3, [.int a0_town_kind, .ref a0_town_pulls, .ref a0_town_site, .ref a0_town_past, .int a0_town_pasts, .ref a0_town_views, .int a0_town_members, .ref a0_town_notes, .int a0_town_noteCount, .ref a0_town_marks, .int a0_town_markCount])), (a0_town_marks, aI E 30 z10)]) [2] hX (c_X2_put l E a0_town_marks 30 (by decide) (a0_town_markCount * (5 : Int32)) p1 fa0_town_marks z10 hr_z10) B_X2_put w_2_29 hK hP hD hS hA (by decide) rfl rfl rfl rfl hl.1 rfl (Nat.le_of_ble_eq_true rfl) ⟨Nat.le_of_ble_eq_true rfl, Nat.le_of_ble_eq_true rfl⟩ dX7_mark_99 rfl (fun H locs hP hD hS => W.pc 102 rfl ?_)
        refine lv_aload_n hx hb dX7_mark_102 rfl (lv_at hl 2 rfl) (W.pc 103 rfl ?_)
        refine va_get (D := E.1) (ci := 4) (v := .ref a0_town) (C := RX7) (T := TX7) (N := 15) hx hb hts inT_X7 hown hK hP 0 rfl rfl 0 (by decide) (hts _ w_1_178) (fun _ h9 => h9) rfl dX7_mark_103 (W.pc 106 rfl ?_)
        refine va_get (D := E.1) (ci := 3) (v := .ref a0_town_marks) (C := RX6) (T := TX6) (N := 11) hx hb hts inT_X6 hown hK hP 1 rfl rfl 9 (by decide) (hts _ w_1_83) (fun _ h9 => h9) rfl dX7_mark_106 (W.pc 109 rfl ?_)
        refine lv_iload hx hb dX7_mark_109 (lv_at hl 0 rfl) (W.pc 111 rfl ?_)
        refine lv_iconst (v := (1 : Int32)) hx hb dX7_mark_111 (by decide) (W.pc 112 rfl ?_)
        refine lv_iadd hx hb dX7_mark_112 (W.pc 113 rfl ?_)
        refine lv_iload_n hx hb dX7_mark_113 rfl (lv_at hl 4 rfl) (W.pc 114 rfl ?_)
        obtain ⟨z11, hr_z11, hsp⟩ := ltb_s hsp
        refine kSW (st1 := []) (ws' := [(a0, .inr (4, [.ref a0_town, .ref a0_draft, .ref a0_images, .int a0_imagesKept, .ref a0_text, .ref a0_planner, .ref a0_trial, .ref a0_spread, .ref a0_spreadBehind, .ref a0_tally, .long a0_above, .long a0_below, .int a0_refusedAsBad, .int a0_refusedAsNo, .int a0_refusedAsFull])), (a0_town, .inr (3, [.int a0_town_kind, .ref a0_town_pulls, .ref a0_town_site, .ref a0_town_past, .int a0_town_pasts, .ref a0_town_views, .int a0_town_members, .ref a0_town_notes, .int a0_town_noteCount, .ref a0_town_marks, .int a0_town_markCount])), (a0_town_marks, aI E 30 z11)]) [2] hX (c_X2_put l E a0_town_marks 30 (by decide) ((a0_town_markCount * (5 : Int32)) + (1 : Int32)) p2 z10 z11 hr_z11) B_X2_put w_2_29 hK hP hD hS hA (by decide) rfl rfl rfl rfl hl.1 rfl (Nat.le_of_ble_eq_true rfl) ⟨Nat.le_of_ble_eq_true rfl, Nat.le_of_ble_eq_true rfl⟩ dX7_mark_114 rfl (fun H locs hP hD hS => W.pc 117 rfl ?_)
        refine lv_aload_n hx hb dX7_mark_117 rfl (lv_at hl 2 rfl) (W.pc 118 rfl ?_)
        refine va_get (D := E.1) (ci := 4) (v := .ref a0_town) (C := RX7) (T := TX7) (N := 15) hx hb hts inT_X7 hown hK hP 0 rfl rfl 0 (by decide) (hts _ w_1_178) (fun _ h9 => h9) rfl dX7_mark_118 (W.pc 121 rfl ?_)
        refine va_get (D := E.1) (ci := 3) (v := .ref a0_town_marks) (C := RX6) (T := TX6) (N := 11) hx hb hts inT_X6 hown hK hP 1 rfl rfl 9 (by decide) (hts _ w_1_83) (fun _ h9 => h9) rfl dX7_mark_121 (W.pc 124 rfl ?_)
        refine lv_iload hx hb dX7_mark_124 (lv_at hl 0 rfl) (W.pc 126 rfl ?_)
        refine lv_iconst (v := (2 : Int32)) hx hb dX7_mark_126 (by decide) (W.pc 127 rfl ?_)
        refine lv_iadd hx hb dX7_mark_127 (W.pc 128 rfl ?_)
        refine lv_iload_n hx hb dX7_mark_128 rfl (lv_at hl 5 rfl) (W.pc 129 rfl ?_)
        obtain ⟨z12, hr_z12, hsp⟩ := ltb_s hsp
        refine kSW (st1 := []) (ws' := [(a0, .inr (4, [.ref a0_town, .ref a0_draft, .ref a0_images, .int a0_imagesKept, .ref a0_text, .ref a0_planner, .ref a0_trial, .ref a0_spread, .ref a0_spreadBehind, .ref a0_tally, .long a0_above, .long a0_below, .int a0_refusedAsBad, .int a0_refusedAsNo, .int a0_refusedAsFull])), (a0_town, .inr (3, [.int a0_town_kind, .ref a0_town_pulls, .ref a0_town_site, .ref a0_town_past, .int a0_town_pasts, .ref a0_town_views, .int a0_town_members, .ref a0_town_notes, .int a0_town_noteCount, .ref a0_town_marks, .int a0_town_markCount])), (a0_town_marks, aI E 30 z12)]) [2] hX (c_X2_put l E a0_town_marks 30 (by decide) ((a0_town_markCount * (5 : Int32)) + (2 : Int32)) p3 z11 z12 hr_z12) B_X2_put w_2_29 hK hP hD hS hA (by decide) rfl rfl rfl rfl hl.1 rfl (Nat.le_of_ble_eq_true rfl) ⟨Nat.le_of_ble_eq_true rfl, Nat.le_of_ble_eq_true rfl⟩ dX7_mark_129 rfl (fun H locs hP hD hS => W.pc 132 rfl ?_)
        refine lv_aload_n hx hb dX7_mark_132 rfl (lv_at hl 2 rfl) (W.pc 133 rfl ?_)
        refine va_get (D := E.1) (ci := 4) (v := .ref a0_town) (C := RX7) (T := TX7) (N := 15) hx hb hts inT_X7 hown hK hP 0 rfl rfl 0 (by decide) (hts _ w_1_178) (fun _ h9 => h9) rfl dX7_mark_133 (W.pc 136 rfl ?_)
        refine va_get (D := E.1) (ci := 3) (v := .ref a0_town_marks) (C := RX6) (T := TX6) (N := 11) hx hb hts inT_X6 hown hK hP 1 rfl rfl 9 (by decide) (hts _ w_1_83) (fun _ h9 => h9) rfl dX7_mark_136 (W.pc 139 rfl ?_)
        refine lv_iload hx hb dX7_mark_139 (lv_at hl 0 rfl) (W.pc 141 rfl ?_)
        refine lv_iconst (v := (3 : Int32)) hx hb dX7_mark_141 (by decide) (W.pc 142 rfl ?_)
        refine lv_iadd hx hb dX7_mark_142 (W.pc 143 rfl ?_)
        refine lv_iload hx hb dX7_mark_143 (lv_at hl 6 rfl) (W.pc 145 rfl ?_)
        obtain ⟨z13, hr_z13, hsp⟩ := ltb_s hsp
        refine kSW (st1 := []) (ws' := [(a0, .inr (4, [.ref a0_town, .ref a0_draft, .ref a0_images, .int a0_imagesKept, .ref a0_text, .ref a0_planner, .ref a0_trial, .ref a0_spread, .ref a0_spreadBehind, .ref a0_tally, .long a0_above, .long a0_below, .int a0_refusedAsBad, .int a0_refusedAsNo, .int a0_refusedAsFull])), (a0_town, .inr (3, [.int a0_town_kind, .ref a0_town_pulls, .ref a0_town_site, .ref a0_town_past, .int a0_town_pasts, .ref a0_town_views, .int a0_town_members, .ref a0_town_notes, .int a0_town_noteCount, .ref a0_town_marks, .int a0_town_markCount])), (a0_town_marks, aI E 30 z13)]) [2] hX (c_X2_put l E a0_town_marks 30 (by decide) ((a0_town_markCount * (5 : Int32)) + (3 : Int32)) p4 z12 z13 hr_z13) B_X2_put w_2_29 hK hP hD hS hA (by decide) rfl rfl rfl rfl hl.1 rfl (Nat.le_of_ble_eq_true rfl) ⟨Nat.le_of_ble_eq_true rfl, Nat.le_of_ble_eq_true rfl⟩ dX7_mark_145 rfl (fun H locs hP hD hS => W.pc 148 rfl ?_)
        refine lv_aload_n hx hb dX7_mark_148 rfl (lv_at hl 2 rfl) (W.pc 149 rfl ?_)
        refine va_get (D := E.1) (ci := 4) (v := .ref a0_town) (C := RX7) (T := TX7) (N := 15) hx hb hts inT_X7 hown hK hP 0 rfl rfl 0 (by decide) (hts _ w_1_178) (fun _ h9 => h9) rfl dX7_mark_149 (W.pc 152 rfl ?_)
        refine va_get (D := E.1) (ci := 3) (v := .ref a0_town_marks) (C := RX6) (T := TX6) (N := 11) hx hb hts inT_X6 hown hK hP 1 rfl rfl 9 (by decide) (hts _ w_1_83) (fun _ h9 => h9) rfl dX7_mark_152 (W.pc 155 rfl ?_)
        refine lv_iload hx hb dX7_mark_155 (lv_at hl 0 rfl) (W.pc 157 rfl ?_)
        refine lv_iconst (v := (4 : Int32)) hx hb dX7_mark_157 (by decide) (W.pc 158 rfl ?_)
        refine lv_iadd hx hb dX7_mark_158 (W.pc 159 rfl ?_)
        refine lv_iload hx hb dX7_mark_159 (lv_at hl 7 rfl) (W.pc 161 rfl ?_)
        obtain ⟨z14, hr_z14, hsp⟩ := ltb_s hsp
        refine kSW (st1 := []) (ws' := [(a0, .inr (4, [.ref a0_town, .ref a0_draft, .ref a0_images, .int a0_imagesKept, .ref a0_text, .ref a0_planner, .ref a0_trial, .ref a0_spread, .ref a0_spreadBehind, .ref a0_tally, .long a0_above, .long a0_below, .int a0_refusedAsBad, .int a0_refusedAsNo, .int a0_refusedAsFull])), (a0_town, .inr (3, [.int a0_town_kind, .ref a0_town_pulls, .ref a0_town_site, .ref a0_town_past, .int a0_town_pasts, .ref a0_town_views, .int a0_town_members, .ref a0_town_notes, .int a0_town_noteCount, .ref a0_town_marks, .int a0_town_markCount])), (a0_town_marks, aI E 30 z14)]) [2] hX (c_X2_put l E a0_town_marks 30 (by decide) ((a0_town_markCount * (5 : Int32)) + (4 : Int32)) p5 z13 z14 hr_z14) B_X2_put w_2_29 hK hP hD hS hA (by decide) rfl rfl rfl rfl hl.1 rfl (Nat.le_of_ble_eq_true rfl) ⟨Nat.le_of_ble_eq_true rfl, Nat.le_of_ble_eq_true rfl⟩ dX7_mark_161 rfl (fun H locs hP hD hS => W.pc 164 rfl ?_)
        refine lv_aload_n hx hb dX7_mark_164 rfl (lv_at hl 2 rfl) (W.pc 165 rfl ?_)
        refine va_get (D := E.1) (ci := 4) (v := .ref a0_town) (C := RX7) (T := TX7) (N := 15) hx hb hts inT_X7 hown hK hP 0 rfl rfl 0 (by decide) (hts _ w_1_178) (fun _ h9 => h9) rfl dX7_mark_165 (W.pc 168 rfl ?_)
        refine lv_dup hx hb dX7_mark_168 rfl (W.pc 169 rfl ?_)
        refine va_get (D := E.1) (ci := 3) (v := .int a0_town_markCount) (C := RX6) (T := TX6) (N := 11) hx hb hts inT_X6 hown hK hP 1 rfl rfl 10 (by decide) (hts _ w_1_85) (fun _ h9 => h9) rfl dX7_mark_169 (W.pc 172 rfl ?_)
        refine lv_iconst (v := (1 : Int32)) hx hb dX7_mark_172 (by decide) (W.pc 173 rfl ?_)
        refine lv_iadd hx hb dX7_mark_173 (W.pc 174 rfl ?_)
        refine va_put (D := E.1) (ci := 3) (v := .int (a0_town_markCount + (1 : Int32))) (ty := .int) (C := RX6) (T := TX6) (N := 11) hx hb hts inT_X6 tyX6 tyX6_ok nmX6 hown hK hP hD hS 1 rfl rfl 10 (by decide) (hts _ w_1_85) (fun _ h9 => h9) rfl (by decide +kernel) rfl rfl (Nat.le_of_ble_eq_true rfl) dX7_mark_174 (fun H locs hP hD hS => W.pc 177 rfl ?_)
        have hP : wP E [(a0, .inr (4, [.ref a0_town, .ref a0_draft, .ref a0_images, .int a0_imagesKept, .ref a0_text, .ref a0_planner, .ref a0_trial, .ref a0_spread, .ref a0_spreadBehind, .ref a0_tally, .long a0_above, .long a0_below, .int a0_refusedAsBad, .int a0_refusedAsNo, .int a0_refusedAsFull])), (a0_town, .inr (3, [.int a0_town_kind, .ref a0_town_pulls, .ref a0_town_site, .ref a0_town_past, .int a0_town_pasts, .ref a0_town_views, .int a0_town_members, .ref a0_town_notes, .int a0_town_noteCount, .ref a0_town_marks, .int (a0_town_markCount + (1 : Int32))])), (a0_town_marks, aI E 30 z14)] _ := hP
        have hD : va_D A [(a0, .inr (4, [.ref a0_town, .ref a0_draft, .ref a0_images, .int a0_imagesKept, .ref a0_text, .ref a0_planner, .ref a0_trial, .ref a0_spread, .ref a0_spreadBehind, .ref a0_tally, .long a0_above, .long a0_below, .int a0_refusedAsBad, .int a0_refusedAsNo, .int a0_refusedAsFull])), (a0_town, .inr (3, [.int a0_town_kind, .ref a0_town_pulls, .ref a0_town_site, .ref a0_town_past, .int a0_town_pasts, .ref a0_town_views, .int a0_town_members, .ref a0_town_notes, .int a0_town_noteCount, .ref a0_town_marks, .int (a0_town_markCount + (1 : Int32))])), (a0_town_marks, aI E 30 z14)] := hD
        refine lv_aload_n hx hb dX7_mark_177 rfl (lv_at hl 2 rfl) (W.pc 178 rfl ?_)
        refine va_get (D := E.1) (ci := 4) (v := .ref a0_town) (C := RX7) (T := TX7) (N := 15) hx hb hts inT_X7 hown hK hP 0 rfl rfl 0 (by decide) (hts _ w_1_178) (fun _ h9 => h9) rfl dX7_mark_178 (W.pc 181 rfl ?_)
        refine va_get (D := E.1) (ci := 3) (v := .int (a0_town_markCount + (1 : Int32))) (C := RX6) (T := TX6) (N := 11) hx hb hts inT_X6 hown hK hP 1 rfl rfl 10 (by decide) (hts _ w_1_85) (fun _ h9 => h9) rfl dX7_mark_181 (W.pc 184 rfl ?_)
        cases hsp
        exact rWi hX hP hS rfl rfl dX7_mark_184
      · have hsp := iq hsp c9
        refine lv_aload_n hx hb dX7_mark_73 rfl (lv_at hl 1 rfl) (W.pc 74 rfl ?_)
        obtain ⟨z15, hr_z15, hsp⟩ := ltb_s hsp
        refine kVW (st1 := [.int z15.1]) (ws' := [(a0, .inr (4, [.ref a0_town, .ref a0_draft, .ref a0_images, .int a0_imagesKept, .ref a0_text, .ref a0_planner, .ref a0_trial, .ref a0_spread, .ref a0_spreadBehind, .ref a0_tally, .long a0_above, .long a0_below, .int a0_refusedAsBad, .int a0_refusedAsNo, .int z15.2])), (a0_town, .inr (3, [.int a0_town_kind, .ref a0_town_pulls, .ref a0_town_site, .ref a0_town_past, .int a0_town_pasts, .ref a0_town_views, .int a0_town_members, .ref a0_town_notes, .int a0_town_noteCount, .ref a0_town_marks, .int a0_town_markCount])), (a0_town_marks, aI E 30 fa0_town_marks)]) [0] hX (c_X7_full l E a0 a0_town a0_draft a0_images a0_text a0_planner a0_trial a0_spread a0_spreadBehind a0_tally a0_imagesKept a0_above a0_below a0_refusedAsBad a0_refusedAsNo a0_refusedAsFull z15.1 z15.2 hr_z15) B_X7_full w_2_36 hK hP hD hS hA (by decide) rfl rfl rfl (q0 := 0) (ci := 4) rfl rfl rfl rfl hl.1 rfl (Nat.le_of_ble_eq_true rfl) ⟨Nat.le_of_ble_eq_true rfl, Nat.le_of_ble_eq_true rfl⟩ dX7_mark_74 rfl (fun H locs hP hD hS => W.pc 77 rfl ?_)
        cases hsp
        exact rWi hX hP hS rfl rfl dX7_mark_77
    · have hsp := ip hsp c8
      refine lv_aload_n hx hb dX7_mark_54 rfl (lv_at hl 1 rfl) (W.pc 55 rfl ?_)
      refine lv_bipush (v := (-2 : Int32)) hx hb dX7_mark_55 (by decide) (W.pc 57 rfl ?_)
      obtain ⟨z16, hr_z16, hsp⟩ := ltb_s hsp
      refine kVW (st1 := [.int z16.1]) (ws' := [(a0, .inr (4, [.ref a0_town, .ref a0_draft, .ref a0_images, .int a0_imagesKept, .ref a0_text, .ref a0_planner, .ref a0_trial, .ref a0_spread, .ref a0_spreadBehind, .ref a0_tally, .long a0_above, .long a0_below, .int z16.2, .int a0_refusedAsNo, .int a0_refusedAsFull])), (a0_town, .inr (3, [.int a0_town_kind, .ref a0_town_pulls, .ref a0_town_site, .ref a0_town_past, .int a0_town_pasts, .ref a0_town_views, .int a0_town_members, .ref a0_town_notes, .int a0_town_noteCount, .ref a0_town_marks, .int a0_town_markCount])), (a0_town_marks, aI E 30 fa0_town_marks)]) [0] hX (c_X7_bad l E a0 a0_town a0_draft a0_images a0_text a0_planner a0_trial a0_spread a0_spreadBehind a0_tally (-2 : Int32) a0_imagesKept a0_above a0_below a0_refusedAsBad a0_refusedAsNo a0_refusedAsFull z16.1 z16.2 hr_z16) B_X7_bad w_1_234 hK hP hD hS hA (by decide) rfl rfl rfl (q0 := 0) (ci := 4) rfl rfl rfl rfl hl.1 rfl (Nat.le_of_ble_eq_true rfl) ⟨Nat.le_of_ble_eq_true rfl, Nat.le_of_ble_eq_true rfl⟩ dX7_mark_57 rfl (fun H locs hP hD hS => W.pc 60 rfl ?_)
      cases hsp
      exact rWi hX hP hS rfl rfl dX7_mark_60
  replace hsp := hr_z1
  refine lv_if_eq (tgt := 46) hx hb dX7_mark_4 (by decide) (fun c3 => ?_) (fun c3 => W.pc 7 rfl ?_)
  · have hsp := ip hsp c3
    refine lv_iconst (v := (0 : Int32)) hx hb dX7_mark_46 (by decide) (W.pc 47 rfl ?_)
    subst hsp
    exact J2 _ _ _ hP hD hS (lv_sub hl [0, 1, 2, 3, 4, 5] rfl)
  · have hsp := iq hsp c3
    refine lv_iload_n hx hb dX7_mark_7 rfl (lv_at hl 2 rfl) (W.pc 8 rfl ?_)
    refine kSR (st1 := [.int (sp_X7_isTilt p2)]) hX (c_X7_isTilt l E p2 _ rfl) B_X7_isTilt w_2_25 hK (hP.pick [] rfl) rfl hl.1 rfl (Nat.le_of_ble_eq_true rfl) ⟨Nat.le_of_ble_eq_true rfl, Nat.le_of_ble_eq_true rfl⟩ dX7_mark_8 rfl (W.pc 11 rfl ?_)
    refine lv_if_eq (tgt := 46) hx hb dX7_mark_11 (by decide) (fun c4 => ?_) (fun c4 => W.pc 14 rfl ?_)
    · have hsp := ip hsp c4
      refine lv_iconst (v := (0 : Int32)) hx hb dX7_mark_46 (by decide) (W.pc 47 rfl ?_)
      subst hsp
      exact J2 _ _ _ hP hD hS (lv_sub hl [0, 1, 2, 3, 4, 5] rfl)
    · have hsp := iq hsp c4
      refine lv_iload_n hx hb dX7_mark_14 rfl (lv_at hl 3 rfl) (W.pc 15 rfl ?_)
      refine kSR (st1 := [.int (sp_X7_isTilt p3)]) hX (c_X7_isTilt l E p3 _ rfl) B_X7_isTilt w_2_25 hK (hP.pick [] rfl) rfl hl.1 rfl (Nat.le_of_ble_eq_true rfl) ⟨Nat.le_of_ble_eq_true rfl, Nat.le_of_ble_eq_true rfl⟩ dX7_mark_15 rfl (W.pc 18 rfl ?_)
      refine lv_if_eq (tgt := 46) hx hb dX7_mark_18 (by decide) (fun c5 => ?_) (fun c5 => W.pc 21 rfl ?_)
      · have hsp := ip hsp c5
        refine lv_iconst (v := (0 : Int32)) hx hb dX7_mark_46 (by decide) (W.pc 47 rfl ?_)
        subst hsp
        exact J2 _ _ _ hP hD hS (lv_sub hl [0, 1, 2, 3, 4, 5] rfl)
      · have hsp := iq hsp c5
        refine lv_iload hx hb dX7_mark_21 (lv_at hl 4 rfl) (W.pc 23 rfl ?_)
        refine lv_iconst (v := (0 : Int32)) hx hb dX7_mark_23 (by decide) (W.pc 24 rfl ?_)
        refine lv_bipush (v := (30 : Int32)) hx hb dX7_mark_24 (by decide) (W.pc 26 rfl ?_)
        refine kSR (st1 := [.int (sp_X2_within p4 (0 : Int32) (30 : Int32))]) hX (c_X2_within l E p4 (0 : Int32) (30 : Int32) _ rfl) B_X2_within w_1_231 hK (hP.pick [] rfl) rfl hl.1 rfl (Nat.le_of_ble_eq_true rfl) ⟨Nat.le_of_ble_eq_true rfl, Nat.le_of_ble_eq_true rfl⟩ dX7_mark_26 rfl (W.pc 29 rfl ?_)
        refine lv_if_eq (tgt := 46) hx hb dX7_mark_29 (by decide) (fun c6 => ?_) (fun c6 => W.pc 32 rfl ?_)
        · have hsp := ip hsp c6
          refine lv_iconst (v := (0 : Int32)) hx hb dX7_mark_46 (by decide) (W.pc 47 rfl ?_)
          subst hsp
          exact J2 _ _ _ hP hD hS (lv_sub hl [0, 1, 2, 3, 4, 5] rfl)
        · have hsp := iq hsp c6
          refine lv_iload hx hb dX7_mark_32 (lv_at hl 5 rfl) (W.pc 34 rfl ?_)
          refine lv_iconst (v := (0 : Int32)) hx hb dX7_mark_34 (by decide) (W.pc 35 rfl ?_)
          refine lv_iconst (v := (1 : Int32)) hx hb dX7_mark_35 (by decide) (W.pc 36 rfl ?_)
          refine kSR (st1 := [.int (sp_X2_within p5 (0 : Int32) (1 : Int32))]) hX (c_X2_within l E p5 (0 : Int32) (1 : Int32) _ rfl) B_X2_within w_1_231 hK (hP.pick [] rfl) rfl hl.1 rfl (Nat.le_of_ble_eq_true rfl) ⟨Nat.le_of_ble_eq_true rfl, Nat.le_of_ble_eq_true rfl⟩ dX7_mark_36 rfl (W.pc 39 rfl ?_)
          refine lv_if_eq (tgt := 46) hx hb dX7_mark_39 (by decide) (fun c7 => ?_) (fun c7 => W.pc 42 rfl ?_)
          · have hsp := ip hsp c7
            refine lv_iconst (v := (0 : Int32)) hx hb dX7_mark_46 (by decide) (W.pc 47 rfl ?_)
            subst hsp
            exact J2 _ _ _ hP hD hS (lv_sub hl [0, 1, 2, 3, 4, 5] rfl)
          · have hsp := iq hsp c7
            refine lv_iconst (v := (1 : Int32)) hx hb dX7_mark_42 (by decide) (W.pc 43 rfl ?_)
            refine lv_goto (tgt := 47) hx hb dX7_mark_43 (by decide) ?_
            subst hsp
            exact J2 _ _ _ hP hD hS (lv_sub hl [0, 1, 2, 3, 4, 5] rfl)
def sp_X7_forget (p1 : Int32) (a0_refusedAsBad : Int32) (a0_town_noteCount : Int32) (a0_town_markCount : Int32) : Int32 × Int32 × Int32 × Int32 := if p1 = (0 : Int32) then ((a0_town_noteCount, (0 : Int32), a0_town_markCount, a0_refusedAsBad)) else (if p1 = (1 : Int32) then ((a0_town_markCount, a0_town_noteCount, (0 : Int32), a0_refusedAsBad)) else ((lt_ (sp_X7_bad (-2 : Int32) a0_refusedAsBad) fun z3 => (z3.1, a0_town_noteCount, a0_town_markCount, z3.2))))
set_option maxHeartbeats 4000000 in
set_option maxRecDepth 100000 in
theorem c_X7_forget (l : Launch) (E : wE) (a0 a0_town a0_draft a0_images a0_text a0_planner a0_trial a0_spread a0_spreadBehind a0_tally a0_town_pulls a0_town_site a0_town_past a0_town_views a0_town_notes a0_town_marks : Nat) (p1 : Int32) (a0_imagesKept : Int32) (a0_above : Int64) (a0_below : Int64) (a0_refusedAsBad : Int32) (a0_refusedAsNo : Int32) (a0_refusedAsFull : Int32) (a0_town_kind : Int32) (a0_town_pasts : Int32) (a0_town_members : Int32) (a0_town_noteCount : Int32) (a0_town_markCount : Int32) (z_0 : Int32) (z_1 : Int32) (z_2 : Int32) (z_3 : Int32) (hsp : sp_X7_forget p1 a0_refusedAsBad a0_town_noteCount a0_town_markCount = (z_0, z_1, z_2, z_3)) : MW l yX7_forget cX7_forget 3 (some .int) 1 E [.ref a0, .int p1] [(a0, .inr (4, [.ref a0_town, .ref a0_draft, .ref a0_images, .int a0_imagesKept, .ref a0_text, .ref a0_planner, .ref a0_trial, .ref a0_spread, .ref a0_spreadBehind, .ref a0_tally, .long a0_above, .long a0_below, .int a0_refusedAsBad, .int a0_refusedAsNo, .int a0_refusedAsFull])), (a0_town, .inr (3, [.int a0_town_kind, .ref a0_town_pulls, .ref a0_town_site, .ref a0_town_past, .int a0_town_pasts, .ref a0_town_views, .int a0_town_members, .ref a0_town_notes, .int a0_town_noteCount, .ref a0_town_marks, .int a0_town_markCount]))] (some (.int z_0)) [(a0, .inr (4, [.ref a0_town, .ref a0_draft, .ref a0_images, .int a0_imagesKept, .ref a0_text, .ref a0_planner, .ref a0_trial, .ref a0_spread, .ref a0_spreadBehind, .ref a0_tally, .long a0_above, .long a0_below, .int z_3, .int a0_refusedAsNo, .int a0_refusedAsFull])), (a0_town, .inr (3, [.int a0_town_kind, .ref a0_town_pulls, .ref a0_town_site, .ref a0_town_past, .int a0_town_pasts, .ref a0_town_views, .int a0_town_members, .ref a0_town_notes, .int z_1, .ref a0_town_marks, .int z_2]))] := by
  refine MW.of (by decide +kernel) (Nat.le_of_ble_eq_true rfl) ?_
  intro p e s m below meth c ls A hX hK hP hD hS hA hl
  have hX : CX p s m [.ref a0, .int p1].toArray meth c cX7_forget 3 (some .int) RX7 := hX
  have hx := hX.1; have hb := hX.2.1; have hts := hX.2.2.2.2.1; have hown := hX.2.2.2.2.2.1
  have hl : lv_has ls 3 [(0, .ref a0), (1, .int p1)] := hl
  have hP : wP E [(a0, .inr (4, [.ref a0_town, .ref a0_draft, .ref a0_images, .int a0_imagesKept, .ref a0_text, .ref a0_planner, .ref a0_trial, .ref a0_spread, .ref a0_spreadBehind, .ref a0_tally, .long a0_above, .long a0_below, .int a0_refusedAsBad, .int a0_refusedAsNo, .int a0_refusedAsFull])), (a0_town, .inr (3, [.int a0_town_kind, .ref a0_town_pulls, .ref a0_town_site, .ref a0_town_past, .int a0_town_pasts, .ref a0_town_views, .int a0_town_members, .ref a0_town_notes, .int a0_town_noteCount, .ref a0_town_marks, .int a0_town_markCount]))] s.heap := hP
  have hsp : (if p1 = (0 : Int32) then ((a0_town_noteCount, (0 : Int32), a0_town_markCount, a0_refusedAsBad)) else (if p1 = (1 : Int32) then ((a0_town_markCount, a0_town_noteCount, (0 : Int32), a0_refusedAsBad)) else ((lt_ (sp_X7_bad (-2 : Int32) a0_refusedAsBad) fun z3 => (z3.1, a0_town_noteCount, a0_town_markCount, z3.2))))) = (z_0, z_1, z_2, z_3) := hsp
  refine lv_iload_n hx hb dX7_forget_0 rfl (lv_at hl 1 rfl) (W.pc 1 rfl ?_)
  by_cases c1 : p1 = (0 : Int32)
  · have hsp := ip hsp c1
    refine lv_lookup (off := 27) (tgt := 28) hx hb dX7_forget_1 (by decide) (by rw [c1]; rfl) (by decide) ?_
    refine lv_aload_n hx hb dX7_forget_28 rfl (lv_at hl 0 rfl) (W.pc 29 rfl ?_)
    refine va_get (D := E.1) (ci := 4) (v := .ref a0_town) (C := RX7) (T := TX7) (N := 15) hx hb hts inT_X7 hown hK hP 0 rfl rfl 0 (by decide) (hts _ w_1_178) (fun _ h9 => h9) rfl dX7_forget_29 (W.pc 32 rfl ?_)
    refine va_get (D := E.1) (ci := 3) (v := .int a0_town_noteCount) (C := RX6) (T := TX6) (N := 11) hx hb hts inT_X6 hown hK hP 1 rfl rfl 8 (by decide) (hts _ w_1_81) (fun _ h9 => h9) rfl dX7_forget_32 (W.pc 35 rfl ?_)
    refine lv_istore_n (lv' := [(2, .int a0_town_noteCount), (0, .ref a0), (1, .int p1)]) hx hb dX7_forget_35 rfl hl (by decide) rfl (fun ls hl => W.pc 36 rfl ?_)
    refine lv_aload_n hx hb dX7_forget_36 rfl (lv_at hl 1 rfl) (W.pc 37 rfl ?_)
    refine va_get (D := E.1) (ci := 4) (v := .ref a0_town) (C := RX7) (T := TX7) (N := 15) hx hb hts inT_X7 hown hK hP 0 rfl rfl 0 (by decide) (hts _ w_1_178) (fun _ h9 => h9) rfl dX7_forget_37 (W.pc 40 rfl ?_)
    refine lv_iconst (v := (0 : Int32)) hx hb dX7_forget_40 (by decide) (W.pc 41 rfl ?_)
    refine va_put (D := E.1) (ci := 3) (v := .int (0 : Int32)) (ty := .int) (C := RX6) (T := TX6) (N := 11) hx hb hts inT_X6 tyX6 tyX6_ok nmX6 hown hK hP hD hS 1 rfl rfl 8 (by decide) (hts _ w_1_81) (fun _ h9 => h9) rfl (by decide +kernel) rfl rfl (Nat.le_of_ble_eq_true rfl) dX7_forget_41 (fun H locs hP hD hS => W.pc 44 rfl ?_)
    have hP : wP E [(a0, .inr (4, [.ref a0_town, .ref a0_draft, .ref a0_images, .int a0_imagesKept, .ref a0_text, .ref a0_planner, .ref a0_trial, .ref a0_spread, .ref a0_spreadBehind, .ref a0_tally, .long a0_above, .long a0_below, .int a0_refusedAsBad, .int a0_refusedAsNo, .int a0_refusedAsFull])), (a0_town, .inr (3, [.int a0_town_kind, .ref a0_town_pulls, .ref a0_town_site, .ref a0_town_past, .int a0_town_pasts, .ref a0_town_views, .int a0_town_members, .ref a0_town_notes, .int (0 : Int32), .ref a0_town_marks, .int a0_town_markCount]))] _ := hP
    have hD : va_D A [(a0, .inr (4, [.ref a0_town, .ref a0_draft, .ref a0_images, .int a0_imagesKept, .ref a0_text, .ref a0_planner, .ref a0_trial, .ref a0_spread, .ref a0_spreadBehind, .ref a0_tally, .long a0_above, .long a0_below, .int a0_refusedAsBad, .int a0_refusedAsNo, .int a0_refusedAsFull])), (a0_town, .inr (3, [.int a0_town_kind, .ref a0_town_pulls, .ref a0_town_site, .ref a0_town_past, .int a0_town_pasts, .ref a0_town_views, .int a0_town_members, .ref a0_town_notes, .int (0 : Int32), .ref a0_town_marks, .int a0_town_markCount]))] := hD
    refine lv_iload_n hx hb dX7_forget_44 rfl (lv_at hl 0 rfl) (W.pc 45 rfl ?_)
    cases hsp
    exact rWi hX hP hS rfl rfl dX7_forget_45
  · have hsp := iq hsp c1
    by_cases c2 : p1 = (1 : Int32)
    · have hsp := ip hsp c2
      refine lv_lookup (off := 45) (tgt := 46) hx hb dX7_forget_1 (by decide) (by rw [c2]; rfl) (by decide) ?_
      refine lv_aload_n hx hb dX7_forget_46 rfl (lv_at hl 0 rfl) (W.pc 47 rfl ?_)
      refine va_get (D := E.1) (ci := 4) (v := .ref a0_town) (C := RX7) (T := TX7) (N := 15) hx hb hts inT_X7 hown hK hP 0 rfl rfl 0 (by decide) (hts _ w_1_178) (fun _ h9 => h9) rfl dX7_forget_47 (W.pc 50 rfl ?_)
      refine va_get (D := E.1) (ci := 3) (v := .int a0_town_markCount) (C := RX6) (T := TX6) (N := 11) hx hb hts inT_X6 hown hK hP 1 rfl rfl 10 (by decide) (hts _ w_1_85) (fun _ h9 => h9) rfl dX7_forget_50 (W.pc 53 rfl ?_)
      refine lv_istore_n (lv' := [(2, .int a0_town_markCount), (0, .ref a0), (1, .int p1)]) hx hb dX7_forget_53 rfl hl (by decide) rfl (fun ls hl => W.pc 54 rfl ?_)
      refine lv_aload_n hx hb dX7_forget_54 rfl (lv_at hl 1 rfl) (W.pc 55 rfl ?_)
      refine va_get (D := E.1) (ci := 4) (v := .ref a0_town) (C := RX7) (T := TX7) (N := 15) hx hb hts inT_X7 hown hK hP 0 rfl rfl 0 (by decide) (hts _ w_1_178) (fun _ h9 => h9) rfl dX7_forget_55 (W.pc 58 rfl ?_)
      refine lv_iconst (v := (0 : Int32)) hx hb dX7_forget_58 (by decide) (W.pc 59 rfl ?_)
      refine va_put (D := E.1) (ci := 3) (v := .int (0 : Int32)) (ty := .int) (C := RX6) (T := TX6) (N := 11) hx hb hts inT_X6 tyX6 tyX6_ok nmX6 hown hK hP hD hS 1 rfl rfl 10 (by decide) (hts _ w_1_85) (fun _ h9 => h9) rfl (by decide +kernel) rfl rfl (Nat.le_of_ble_eq_true rfl) dX7_forget_59 (fun H locs hP hD hS => W.pc 62 rfl ?_)
      have hP : wP E [(a0, .inr (4, [.ref a0_town, .ref a0_draft, .ref a0_images, .int a0_imagesKept, .ref a0_text, .ref a0_planner, .ref a0_trial, .ref a0_spread, .ref a0_spreadBehind, .ref a0_tally, .long a0_above, .long a0_below, .int a0_refusedAsBad, .int a0_refusedAsNo, .int a0_refusedAsFull])), (a0_town, .inr (3, [.int a0_town_kind, .ref a0_town_pulls, .ref a0_town_site, .ref a0_town_past, .int a0_town_pasts, .ref a0_town_views, .int a0_town_members, .ref a0_town_notes, .int a0_town_noteCount, .ref a0_town_marks, .int (0 : Int32)]))] _ := hP
      have hD : va_D A [(a0, .inr (4, [.ref a0_town, .ref a0_draft, .ref a0_images, .int a0_imagesKept, .ref a0_text, .ref a0_planner, .ref a0_trial, .ref a0_spread, .ref a0_spreadBehind, .ref a0_tally, .long a0_above, .long a0_below, .int a0_refusedAsBad, .int a0_refusedAsNo, .int a0_refusedAsFull])), (a0_town, .inr (3, [.int a0_town_kind, .ref a0_town_pulls, .ref a0_town_site, .ref a0_town_past, .int a0_town_pasts, .ref a0_town_views, .int a0_town_members, .ref a0_town_notes, .int a0_town_noteCount, .ref a0_town_marks, .int (0 : Int32)]))] := hD
      refine lv_iload_n hx hb dX7_forget_62 rfl (lv_at hl 0 rfl) (W.pc 63 rfl ?_)
      cases hsp
      exact rWi hX hP hS rfl rfl dX7_forget_63
    · have hsp := iq hsp c2
      refine lv_lookup (off := 63) (tgt := 64) hx hb dX7_forget_1 (by decide) (by show Jvm.Op.lookupswitch.offset [(0, 27), (1, 45)] 63 (p1).toInt = 63; rw [lv_osw (a := 0) c1 rfl]; rw [lv_osw (a := 1) c2 rfl]; rfl) (by decide) ?_
      refine lv_aload_n hx hb dX7_forget_64 rfl (lv_at hl 0 rfl) (W.pc 65 rfl ?_)
      refine lv_bipush (v := (-2 : Int32)) hx hb dX7_forget_65 (by decide) (W.pc 67 rfl ?_)
      obtain ⟨z3, hr_z3, hsp⟩ := ltb_s hsp
      refine kVW (st1 := [.int z3.1]) (ws' := [(a0, .inr (4, [.ref a0_town, .ref a0_draft, .ref a0_images, .int a0_imagesKept, .ref a0_text, .ref a0_planner, .ref a0_trial, .ref a0_spread, .ref a0_spreadBehind, .ref a0_tally, .long a0_above, .long a0_below, .int z3.2, .int a0_refusedAsNo, .int a0_refusedAsFull])), (a0_town, .inr (3, [.int a0_town_kind, .ref a0_town_pulls, .ref a0_town_site, .ref a0_town_past, .int a0_town_pasts, .ref a0_town_views, .int a0_town_members, .ref a0_town_notes, .int a0_town_noteCount, .ref a0_town_marks, .int a0_town_markCount]))]) [0] hX (c_X7_bad l E a0 a0_town a0_draft a0_images a0_text a0_planner a0_trial a0_spread a0_spreadBehind a0_tally (-2 : Int32) a0_imagesKept a0_above a0_below a0_refusedAsBad a0_refusedAsNo a0_refusedAsFull z3.1 z3.2 hr_z3) B_X7_bad w_1_234 hK hP hD hS hA (by decide) rfl rfl rfl (q0 := 0) (ci := 4) rfl rfl rfl rfl hl.1 rfl (Nat.le_of_ble_eq_true rfl) ⟨Nat.le_of_ble_eq_true rfl, Nat.le_of_ble_eq_true rfl⟩ dX7_forget_67 rfl (fun H locs hP hD hS => W.pc 70 rfl ?_)
      cases hsp
      exact rWi hX hP hS rfl rfl dX7_forget_70
noncomputable def lp_X7_is_4 (a0_town_noteCount : Int32) (fa0_town_notes : Nat → Int32) : Nat → Int32 → Int32 → Option (Int32 × Int32)
 | 0, _, _ => none
 | fu + 1, x1_4, x2_4 => if (6 : Int32) ≤ x2_4 then (some (x1_4, x2_4)) else (Option.bind (sp_X6_notesFit x2_4 a0_town_noteCount fa0_town_notes) fun z3 => lt_ (if z3 = 0 then (x1_4) else ((x1_4 ||| ((1 : Int32) <<< (x2_4 &&& 31))))) fun z4 => lp_X7_is_4 a0_town_noteCount fa0_town_notes fu z4 (x2_4 + (1 : Int32)))
noncomputable def sp_X7_is (a0_town_noteCount : Int32) (fa0_town_notes : Nat → Int32) : Option (Int32) := Option.bind (lp_X7_is_4 a0_town_noteCount fa0_town_notes FU (0 : Int32) (0 : Int32)) fun z1 => some z1.1
set_option maxHeartbeats 4000000 in
set_option maxRecDepth 100000 in
theorem c_X7_is (l : Launch) (E : wE) (a0 a0_town a0_draft a0_images a0_text a0_planner a0_trial a0_spread a0_spreadBehind a0_tally a0_town_pulls a0_town_site a0_town_past a0_town_views a0_town_notes a0_town_marks : Nat) (a0_imagesKept : Int32) (a0_above : Int64) (a0_below : Int64) (a0_refusedAsBad : Int32) (a0_refusedAsNo : Int32) (a0_refusedAsFull : Int32) (a0_town_kind : Int32) (a0_town_pasts : Int32) (a0_town_members : Int32) (a0_town_noteCount : Int32) (a0_town_markCount : Int32) (fa0_town_notes : Nat → Int32) (z : Int32) (hsp : sp_X7_is a0_town_noteCount fa0_town_notes = some z) : MR l yX7_is cX7_is 3 (some .int) 4 E [.ref a0] [(a0, .inr (4, [.ref a0_town, .ref a0_draft, .ref a0_images, .int a0_imagesKept, .ref a0_text, .ref a0_planner, .ref a0_trial, .ref a0_spread, .ref a0_spreadBehind, .ref a0_tally, .long a0_above, .long a0_below, .int a0_refusedAsBad, .int a0_refusedAsNo, .int a0_refusedAsFull])), (a0_town, .inr (3, [.int a0_town_kind, .ref a0_town_pulls, .ref a0_town_site, .ref a0_town_past, .int a0_town_pasts, .ref a0_town_views, .int a0_town_members, .ref a0_town_notes, .int a0_town_noteCount, .ref a0_town_marks, .int a0_town_markCount])), (a0_town_notes, aI E 24 fa0_town_notes)] (some (.int z)) := by
  refine MR.of (by decide +kernel) (Nat.le_of_ble_eq_true rfl) ?_
  intro p e s m below meth c ls hX hK hP hl
  have hX : CX p s m [.ref a0].toArray meth c cX7_is 3 (some .int) RX7 := hX
  have hx := hX.1; have hb := hX.2.1; have hts := hX.2.2.2.2.1; have hown := hX.2.2.2.2.2.1
  have hl : lv_has ls 3 [(0, .ref a0)] := hl
  have hsp : (Option.bind (lp_X7_is_4 a0_town_noteCount fa0_town_notes FU (0 : Int32) (0 : Int32)) fun z1 => some z1.1) = some z := hsp
  refine lv_iconst (v := (0 : Int32)) hx hb dX7_is_0 (by decide) (W.pc 1 rfl ?_)
  refine lv_istore_n (lv' := [(1, .int (0 : Int32)), (0, .ref a0)]) hx hb dX7_is_1 rfl hl (by decide) rfl (fun ls hl => W.pc 2 rfl ?_)
  refine lv_iconst (v := (0 : Int32)) hx hb dX7_is_2 (by decide) (W.pc 3 rfl ?_)
  refine lv_istore_n (lv' := [(2, .int (0 : Int32)), (1, .int (0 : Int32)), (0, .ref a0)]) hx hb dX7_is_3 rfl hl (by decide) rfl (fun ls hl => W.pc 4 rfl ?_)
  have L_4 : ∀ (z1 : Int32 × Int32), (∀ (ls : Array Slot), lv_has ls 3 [(1, .int z1.1)] → W p l e (wR 4) s m [.ref a0].toArray below meth c s.heap [] 0 0 (MQ below (QRd E (some (.int z))) [.ref a0].toArray s 0 0 (fun _ => False)) (F0 m 33 ls [])) → ∀ (fu : Nat) (x1_4 : Int32) (x2_4 : Int32), ∀ (ls : Array Slot), lv_has ls 3 [(0, .ref a0), (1, .int x1_4), (2, .int x2_4)] → lp_X7_is_4 a0_town_noteCount fa0_town_notes fu x1_4 x2_4 = some z1 → W p l e (wR 4) s m [.ref a0].toArray below meth c s.heap [] 0 0 (MQ below (QRd E (some (.int z))) [.ref a0].toArray s 0 0 (fun _ => False)) (F0 m 4 ls []) := by
    intro z1 hk_4 fu
    induction fu with
    | zero => intro x1_4 x2_4 ls hl hsp; exact absurd (show none = some _ from hsp) (by simp)
    | succ fu ih_4 =>
      intro x1_4 x2_4 ls hl hsp
      have hsp : (if (6 : Int32) ≤ x2_4 then (some (x1_4, x2_4)) else (Option.bind (sp_X6_notesFit x2_4 a0_town_noteCount fa0_town_notes) fun z3 => lt_ (if z3 = 0 then (x1_4) else ((x1_4 ||| ((1 : Int32) <<< (x2_4 &&& 31))))) fun z4 => lp_X7_is_4 a0_town_noteCount fa0_town_notes fu z4 (x2_4 + (1 : Int32)))) = some z1 := hsp
      refine lv_iload_n hx hb dX7_is_4 rfl (lv_at hl 2 rfl) (W.pc 5 rfl ?_)
      refine lv_bipush (v := (6 : Int32)) hx hb dX7_is_5 (by decide) (W.pc 7 rfl ?_)
      refine lv_icmp_ge (tgt := 33) hx hb dX7_is_7 (by decide) (fun c2 => ?_) (fun c2 => W.pc 10 rfl ?_)
      · have hsp := ip hsp c2
        obtain rfl := Option.some.inj hsp
        exact hk_4 _ (lv_sub hl [1] rfl)
      · have hsp := iq hsp c2
        refine lv_aload_n hx hb dX7_is_10 rfl (lv_at hl 0 rfl) (W.pc 11 rfl ?_)
        refine va_get (D := E.1) (ci := 4) (v := .ref a0_town) (C := RX7) (T := TX7) (N := 15) hx hb hts inT_X7 hown hK hP 0 rfl rfl 0 (by decide) (hts _ w_1_178) (fun _ h9 => h9) rfl dX7_is_11 (W.pc 14 rfl ?_)
        refine lv_iload_n hx hb dX7_is_14 rfl (lv_at hl 2 rfl) (W.pc 15 rfl ?_)
        obtain ⟨z3, hr_z3, hsp⟩ := bd_s hsp
        refine kVR (st1 := [.int z3]) hX (c_X6_notesFit l E a0_town a0_town_pulls a0_town_site a0_town_past a0_town_views a0_town_notes a0_town_marks x2_4 a0_town_kind a0_town_pasts a0_town_members a0_town_noteCount a0_town_markCount fa0_town_notes z3 hr_z3) B_X6_notesFit w_3_184 hK (hP.pick [1, 2] rfl) (q0 := 0) (ci := 3) rfl rfl rfl rfl hl.1 rfl (Nat.le_of_ble_eq_true rfl) ⟨Nat.le_of_ble_eq_true rfl, Nat.le_of_ble_eq_true rfl⟩ dX7_is_15 rfl (W.pc 18 rfl ?_)
        obtain ⟨z4, hr_z4, hsp⟩ := ltb_s hsp
        have J5 : ∀ (ls : Array Slot), lv_has ls 3 [(0, .ref a0), (1, .int z4), (2, .int x2_4)] → W p l e (wR 4) s m [.ref a0].toArray below meth c s.heap [] 0 0 (MQ below (QRd E (some (.int z))) [.ref a0].toArray s 0 0 (fun _ => False)) (F0 m 27 ls []) := by
          intro ls hl
          refine lv_iinc (v := (x2_4 + (1 : Int32))) (lv' := [(2, .int (x2_4 + (1 : Int32))), (0, .ref a0), (1, .int z4)]) hx hb dX7_is_27 hl (k := 2) rfl rfl (by decide) rfl (fun ls hl => W.pc 30 rfl ?_)
          refine lv_goto (tgt := 4) hx hb dX7_is_30 (by decide) ?_
          exact ih_4 z4 (x2_4 + (1 : Int32)) _ (lv_sub hl [1, 2, 0] rfl) hsp
        replace hsp := hr_z4
        refine lv_if_eq (tgt := 27) hx hb dX7_is_18 (by decide) (fun c6 => ?_) (fun c6 => W.pc 21 rfl ?_)
        · have hsp := ip hsp c6
          subst hsp
          exact J5 _ (lv_sub hl [0, 1, 2] rfl)
        · have hsp := iq hsp c6
          refine lv_iload_n hx hb dX7_is_21 rfl (lv_at hl 1 rfl) (W.pc 22 rfl ?_)
          refine lv_iconst (v := (1 : Int32)) hx hb dX7_is_22 (by decide) (W.pc 23 rfl ?_)
          refine lv_iload_n hx hb dX7_is_23 rfl (lv_at hl 2 rfl) (W.pc 24 rfl ?_)
          refine lv_ishl hx hb dX7_is_24 (W.pc 25 rfl ?_)
          refine lv_ior hx hb dX7_is_25 (W.pc 26 rfl ?_)
          refine lv_istore_n (lv' := [(1, .int (x1_4 ||| ((1 : Int32) <<< (x2_4 &&& 31)))), (0, .ref a0), (2, .int x2_4)]) hx hb dX7_is_26 rfl hl (by decide) rfl (fun ls hl => W.pc 27 rfl ?_)
          subst hsp
          exact J5 _ (lv_sub hl [1, 0, 2] rfl)
  obtain ⟨z1, hr_z1, hsp⟩ := bd_s hsp
  refine L_4 z1 (fun ls hl => ?_) FU (0 : Int32) (0 : Int32) _ (lv_sub hl [2, 1, 0] rfl) hr_z1
  refine lv_iload_n hx hb dX7_is_33 rfl (lv_at hl 0 rfl) (W.pc 34 rfl ?_)
  obtain rfl := Option.some.inj hsp
  exact rRi hX rfl dX7_is_34
noncomputable def lp_X7_watch_30 (a0_town_site_off : Int32) (z1 : Int32) (x4_19 : Int32) : Nat → Int32 → Int32 → Int32 → ((Nat → Int32)) → Option (Int32 × Int32 × Int32 × (Nat → Int32))
 | 0, _, _, _, _ => none
 | fu + 1, x2_30, x3_30, x5_30, ya0_tally_f_30 => if (9 : Int32) < x5_30 then (some (x2_30, x3_30, x5_30, ya0_tally_f_30)) else (Option.bind (sp_X7_mostAlike z1 x4_19 x5_30 ya0_tally_f_30 a0_town_site_off) fun z7 => lt_ (if x3_30 ≤ z7.1 then ((x2_30, x3_30)) else ((((((100 : Int32) * x4_19) + (9 : Int32)) + x5_30), z7.1))) fun z8 => lp_X7_watch_30 a0_town_site_off z1 x4_19 fu z8.1 z8.2 (x5_30 + (1 : Int32)) z7.2)
noncomputable def lp_X7_watch_19 (a0_town_site_off : Int32) (z1 : Int32) : Nat → Int32 → Int32 → Int32 → ((Nat → Int32)) → Option (Int32 × Int32 × Int32 × (Nat → Int32))
 | 0, _, _, _, _ => none
 | fu + 1, x2_19, x3_19, x4_19, ya0_tally_f_19 => if (6 : Int32) ≤ x4_19 then (some (x2_19, x3_19, x4_19, ya0_tally_f_19)) else (Option.bind (lp_X7_watch_30 a0_town_site_off z1 x4_19 FU x2_19 x3_19 (-9 : Int32) ya0_tally_f_19) fun z5 => lp_X7_watch_19 a0_town_site_off z1 fu z5.1 z5.2.1 (x4_19 + (1 : Int32)) z5.2.2.2)
noncomputable def sp_X7_watch (a0_town_noteCount : Int32) (fa0_town_notes : Nat → Int32) (fa0_tally : Nat → Int32) (a0_town_site_off : Int32) : Option (Int32 × (Nat → Int32)) := Option.bind (sp_X7_is a0_town_noteCount fa0_town_notes) fun z1 => if z1 = 0 then (some ((-1 : Int32), fa0_tally)) else (Option.bind (lp_X7_watch_19 a0_town_site_off z1 FU (-1 : Int32) (7 : Int32) (0 : Int32) fa0_tally) fun z3 => some (z3.1, z3.2.2.2))
set_option maxHeartbeats 4000000 in
set_option maxRecDepth 100000 in
theorem c_X7_watch (l : Launch) (E : wE) (a0 a0_town a0_draft a0_images a0_text a0_planner a0_trial a0_spread a0_spreadBehind a0_tally a0_town_pulls a0_town_site a0_town_past a0_town_views a0_town_notes a0_town_marks a0_town_site_heights a0_town_site_storeyKinds a0_town_site_storeyTilts : Nat) (a0_imagesKept : Int32) (a0_above : Int64) (a0_below : Int64) (a0_refusedAsBad : Int32) (a0_refusedAsNo : Int32) (a0_refusedAsFull : Int32) (a0_town_kind : Int32) (a0_town_pasts : Int32) (a0_town_members : Int32) (a0_town_noteCount : Int32) (a0_town_markCount : Int32) (fa0_town_notes : Nat → Int32) (fa0_tally : Nat → Int32) (a0_town_site_off : Int32) (a0_town_site_year : Int32) (z_0 : Int32) (z_1 : (Nat → Int32)) (hsp : sp_X7_watch a0_town_noteCount fa0_town_notes fa0_tally a0_town_site_off = some (z_0, z_1)) : MW l yX7_watch cX7_watch 7 (some .int) 5 E [.ref a0] [(a0, .inr (4, [.ref a0_town, .ref a0_draft, .ref a0_images, .int a0_imagesKept, .ref a0_text, .ref a0_planner, .ref a0_trial, .ref a0_spread, .ref a0_spreadBehind, .ref a0_tally, .long a0_above, .long a0_below, .int a0_refusedAsBad, .int a0_refusedAsNo, .int a0_refusedAsFull])), (a0_town, .inr (3, [.int a0_town_kind, .ref a0_town_pulls, .ref a0_town_site, .ref a0_town_past, .int a0_town_pasts, .ref a0_town_views, .int a0_town_members, .ref a0_town_notes, .int a0_town_noteCount, .ref a0_town_marks, .int a0_town_markCount])), (a0_town_notes, aI E 24 fa0_town_notes), (a0_tally, aI E 19 fa0_tally), (a0_town_site, .inr (1, [.int a0_town_site_off, .int a0_town_site_year, .ref a0_town_site_heights, .ref a0_town_site_storeyKinds, .ref a0_town_site_storeyTilts]))] (some (.int z_0)) [(a0, .inr (4, [.ref a0_town, .ref a0_draft, .ref a0_images, .int a0_imagesKept, .ref a0_text, .ref a0_planner, .ref a0_trial, .ref a0_spread, .ref a0_spreadBehind, .ref a0_tally, .long a0_above, .long a0_below, .int a0_refusedAsBad, .int a0_refusedAsNo, .int a0_refusedAsFull])), (a0_town, .inr (3, [.int a0_town_kind, .ref a0_town_pulls, .ref a0_town_site, .ref a0_town_past, .int a0_town_pasts, .ref a0_town_views, .int a0_town_members, .ref a0_town_notes, .int a0_town_noteCount, .ref a0_town_marks, .int a0_town_markCount])), (a0_town_notes, aI E 24 fa0_town_notes), (a0_tally, aI E 19 z_1), (a0_town_site, .inr (1, [.int a0_town_site_off, .int a0_town_site_year, .ref a0_town_site_heights, .ref a0_town_site_storeyKinds, .ref a0_town_site_storeyTilts]))] := by
  refine MW.of (by decide +kernel) (Nat.le_of_ble_eq_true rfl) ?_
  intro p e s m below meth c ls A hX hK hP hD hS hA hl
  have hX : CX p s m [.ref a0].toArray meth c cX7_watch 7 (some .int) RX7 := hX
  have hx := hX.1; have hb := hX.2.1; have hts := hX.2.2.2.2.1; have hown := hX.2.2.2.2.2.1
  have hl : lv_has ls 7 [(0, .ref a0)] := hl
  have hP : wP E [(a0, .inr (4, [.ref a0_town, .ref a0_draft, .ref a0_images, .int a0_imagesKept, .ref a0_text, .ref a0_planner, .ref a0_trial, .ref a0_spread, .ref a0_spreadBehind, .ref a0_tally, .long a0_above, .long a0_below, .int a0_refusedAsBad, .int a0_refusedAsNo, .int a0_refusedAsFull])), (a0_town, .inr (3, [.int a0_town_kind, .ref a0_town_pulls, .ref a0_town_site, .ref a0_town_past, .int a0_town_pasts, .ref a0_town_views, .int a0_town_members, .ref a0_town_notes, .int a0_town_noteCount, .ref a0_town_marks, .int a0_town_markCount])), (a0_town_notes, aI E 24 fa0_town_notes), (a0_tally, aI E 19 fa0_tally), (a0_town_site, .inr (1, [.int a0_town_site_off, .int a0_town_site_year, .ref a0_town_site_heights, .ref a0_town_site_storeyKinds, .ref a0_town_site_storeyTilts]))] s.heap := hP
  have hsp : (Option.bind (sp_X7_is a0_town_noteCount fa0_town_notes) fun z1 => if z1 = 0 then (some ((-1 : Int32), fa0_tally)) else (Option.bind (lp_X7_watch_19 a0_town_site_off z1 FU (-1 : Int32) (7 : Int32) (0 : Int32) fa0_tally) fun z3 => some (z3.1, z3.2.2.2))) = some (z_0, z_1) := hsp
  refine lv_aload_n hx hb dX7_watch_0 rfl (lv_at hl 0 rfl) (W.pc 1 rfl ?_)
  obtain ⟨z1, hr_z1, hsp⟩ := bd_s hsp
  refine kVR (st1 := [.int z1]) hX (c_X7_is l E a0 a0_town a0_draft a0_images a0_text a0_planner a0_trial a0_spread a0_spreadBehind a0_tally a0_town_pulls a0_town_site a0_town_past a0_town_views a0_town_notes a0_town_marks a0_imagesKept a0_above a0_below a0_refusedAsBad a0_refusedAsNo a0_refusedAsFull a0_town_kind a0_town_pasts a0_town_members a0_town_noteCount a0_town_markCount fa0_town_notes z1 hr_z1) B_X7_is w_3_192 hK (hP.pick [0, 1, 2] rfl) (q0 := 0) (ci := 4) rfl rfl rfl rfl hl.1 rfl (Nat.le_of_ble_eq_true rfl) ⟨Nat.le_of_ble_eq_true rfl, Nat.le_of_ble_eq_true rfl⟩ dX7_watch_1 rfl (W.pc 4 rfl ?_)
  refine lv_istore_n (lv' := [(1, .int z1), (0, .ref a0)]) hx hb dX7_watch_4 rfl hl (by decide) rfl (fun ls hl => W.pc 5 rfl ?_)
  refine lv_iconst (v := (-1 : Int32)) hx hb dX7_watch_5 (by decide) (W.pc 6 rfl ?_)
  refine lv_istore_n (lv' := [(2, .int (-1 : Int32)), (1, .int z1), (0, .ref a0)]) hx hb dX7_watch_6 rfl hl (by decide) rfl (fun ls hl => W.pc 7 rfl ?_)
  refine lv_bipush (v := (7 : Int32)) hx hb dX7_watch_7 (by decide) (W.pc 9 rfl ?_)
  refine lv_istore_n (lv' := [(3, .int (7 : Int32)), (2, .int (-1 : Int32)), (1, .int z1), (0, .ref a0)]) hx hb dX7_watch_9 rfl hl (by decide) rfl (fun ls hl => W.pc 10 rfl ?_)
  refine lv_iload_n hx hb dX7_watch_10 rfl (lv_at hl 2 rfl) (W.pc 11 rfl ?_)
  refine lv_if_ne (tgt := 16) hx hb dX7_watch_11 (by decide) (fun c2 => ?_) (fun c2 => W.pc 14 rfl ?_)
  · have hsp := iq hsp c2
    refine lv_iconst (v := (0 : Int32)) hx hb dX7_watch_16 (by decide) (W.pc 17 rfl ?_)
    refine lv_istore (lv' := [(4, .int (0 : Int32)), (3, .int (7 : Int32)), (2, .int (-1 : Int32)), (1, .int z1), (0, .ref a0)]) hx hb dX7_watch_17 hl (by decide) rfl (fun ls hl => W.pc 19 rfl ?_)
    have L_19 : ∀ (z3 : Int32 × Int32 × Int32 × (Nat → Int32)), (∀ (H : Heap) (locs : List Loc) (ls : Array Slot), wP E [(a0, .inr (4, [.ref a0_town, .ref a0_draft, .ref a0_images, .int a0_imagesKept, .ref a0_text, .ref a0_planner, .ref a0_trial, .ref a0_spread, .ref a0_spreadBehind, .ref a0_tally, .long a0_above, .long a0_below, .int a0_refusedAsBad, .int a0_refusedAsNo, .int a0_refusedAsFull])), (a0_town, .inr (3, [.int a0_town_kind, .ref a0_town_pulls, .ref a0_town_site, .ref a0_town_past, .int a0_town_pasts, .ref a0_town_views, .int a0_town_members, .ref a0_town_notes, .int a0_town_noteCount, .ref a0_town_marks, .int a0_town_markCount])), (a0_town_notes, aI E 24 fa0_town_notes), (a0_tally, aI E 19 z3.2.2.2), (a0_town_site, .inr (1, [.int a0_town_site_off, .int a0_town_site_year, .ref a0_town_site_heights, .ref a0_town_site_storeyKinds, .ref a0_town_site_storeyTilts]))] H → va_D A [(a0, .inr (4, [.ref a0_town, .ref a0_draft, .ref a0_images, .int a0_imagesKept, .ref a0_text, .ref a0_planner, .ref a0_trial, .ref a0_spread, .ref a0_spreadBehind, .ref a0_tally, .long a0_above, .long a0_below, .int a0_refusedAsBad, .int a0_refusedAsNo, .int a0_refusedAsFull])), (a0_town, .inr (3, [.int a0_town_kind, .ref a0_town_pulls, .ref a0_town_site, .ref a0_town_past, .int a0_town_pasts, .ref a0_town_views, .int a0_town_members, .ref a0_town_notes, .int a0_town_noteCount, .ref a0_town_marks, .int a0_town_markCount])), (a0_town_notes, aI E 24 fa0_town_notes), (a0_tally, aI E 19 z3.2.2.2), (a0_town_site, .inr (1, [.int a0_town_site_off, .int a0_town_site_year, .ref a0_town_site_heights, .ref a0_town_site_storeyKinds, .ref a0_town_site_storeyTilts]))] → va_S A s.heap H locs → lv_has ls 7 [(2, .int z3.1)] → W p l e (wR 5) s m [.ref a0].toArray below meth c H locs 0 0 (MQ below (QWd E A (some (.int z_0)) [(a0, .inr (4, [.ref a0_town, .ref a0_draft, .ref a0_images, .int a0_imagesKept, .ref a0_text, .ref a0_planner, .ref a0_trial, .ref a0_spread, .ref a0_spreadBehind, .ref a0_tally, .long a0_above, .long a0_below, .int a0_refusedAsBad, .int a0_refusedAsNo, .int a0_refusedAsFull])), (a0_town, .inr (3, [.int a0_town_kind, .ref a0_town_pulls, .ref a0_town_site, .ref a0_town_past, .int a0_town_pasts, .ref a0_town_views, .int a0_town_members, .ref a0_town_notes, .int a0_town_noteCount, .ref a0_town_marks, .int a0_town_markCount])), (a0_town_notes, aI E 24 fa0_town_notes), (a0_tally, aI E 19 z_1), (a0_town_site, .inr (1, [.int a0_town_site_off, .int a0_town_site_year, .ref a0_town_site_heights, .ref a0_town_site_storeyKinds, .ref a0_town_site_storeyTilts]))]) [.ref a0].toArray s 0 0 A) (F0 m 81 ls [])) → ∀ (fu : Nat) (x2_19 : Int32) (x3_19 : Int32) (x4_19 : Int32) (ya0_tally_f_19 : (Nat → Int32)), ∀ (H : Heap) (locs : List Loc) (ls : Array Slot), wP E [(a0, .inr (4, [.ref a0_town, .ref a0_draft, .ref a0_images, .int a0_imagesKept, .ref a0_text, .ref a0_planner, .ref a0_trial, .ref a0_spread, .ref a0_spreadBehind, .ref a0_tally, .long a0_above, .long a0_below, .int a0_refusedAsBad, .int a0_refusedAsNo, .int a0_refusedAsFull])), (a0_town, .inr (3, [.int a0_town_kind, .ref a0_town_pulls, .ref a0_town_site, .ref a0_town_past, .int a0_town_pasts, .ref a0_town_views, .int a0_town_members, .ref a0_town_notes, .int a0_town_noteCount, .ref a0_town_marks, .int a0_town_markCount])), (a0_town_notes, aI E 24 fa0_town_notes), (a0_tally, aI E 19 ya0_tally_f_19), (a0_town_site, .inr (1, [.int a0_town_site_off, .int a0_town_site_year, .ref a0_town_site_heights, .ref a0_town_site_storeyKinds, .ref a0_town_site_storeyTilts]))] H → va_D A [(a0, .inr (4, [.ref a0_town, .ref a0_draft, .ref a0_images, .int a0_imagesKept, .ref a0_text, .ref a0_planner, .ref a0_trial, .ref a0_spread, .ref a0_spreadBehind, .ref a0_tally, .long a0_above, .long a0_below, .int a0_refusedAsBad, .int a0_refusedAsNo, .int a0_refusedAsFull])), (a0_town, .inr (3, [.int a0_town_kind, .ref a0_town_pulls, .ref a0_town_site, .ref a0_town_past, .int a0_town_pasts, .ref a0_town_views, .int a0_town_members, .ref a0_town_notes, .int a0_town_noteCount, .ref a0_town_marks, .int a0_town_markCount])), (a0_town_notes, aI E 24 fa0_town_notes), (a0_tally, aI E 19 ya0_tally_f_19), (a0_town_site, .inr (1, [.int a0_town_site_off, .int a0_town_site_year, .ref a0_town_site_heights, .ref a0_town_site_storeyKinds, .ref a0_town_site_storeyTilts]))] → va_S A s.heap H locs → lv_has ls 7 [(0, .ref a0), (1, .int z1), (2, .int x2_19), (3, .int x3_19), (4, .int x4_19)] → lp_X7_watch_19 a0_town_site_off z1 fu x2_19 x3_19 x4_19 ya0_tally_f_19 = some z3 → W p l e (wR 5) s m [.ref a0].toArray below meth c H locs 0 0 (MQ below (QWd E A (some (.int z_0)) [(a0, .inr (4, [.ref a0_town, .ref a0_draft, .ref a0_images, .int a0_imagesKept, .ref a0_text, .ref a0_planner, .ref a0_trial, .ref a0_spread, .ref a0_spreadBehind, .ref a0_tally, .long a0_above, .long a0_below, .int a0_refusedAsBad, .int a0_refusedAsNo, .int a0_refusedAsFull])), (a0_town, .inr (3, [.int a0_town_kind, .ref a0_town_pulls, .ref a0_town_site, .ref a0_town_past, .int a0_town_pasts, .ref a0_town_views, .int a0_town_members, .ref a0_town_notes, .int a0_town_noteCount, .ref a0_town_marks, .int a0_town_markCount])), (a0_town_notes, aI E 24 fa0_town_notes), (a0_tally, aI E 19 z_1), (a0_town_site, .inr (1, [.int a0_town_site_off, .int a0_town_site_year, .ref a0_town_site_heights, .ref a0_town_site_storeyKinds, .ref a0_town_site_storeyTilts]))]) [.ref a0].toArray s 0 0 A) (F0 m 19 ls []) := by
      intro z3 hk_19 fu
      induction fu with
      | zero => intro x2_19 x3_19 x4_19 ya0_tally_f_19 H locs ls hP hD hS hl hsp; exact absurd (show none = some _ from hsp) (by simp)
      | succ fu ih_19 =>
        intro x2_19 x3_19 x4_19 ya0_tally_f_19 H locs ls hP hD hS hl hsp
        have hsp : (if (6 : Int32) ≤ x4_19 then (some (x2_19, x3_19, x4_19, ya0_tally_f_19)) else (Option.bind (lp_X7_watch_30 a0_town_site_off z1 x4_19 FU x2_19 x3_19 (-9 : Int32) ya0_tally_f_19) fun z5 => lp_X7_watch_19 a0_town_site_off z1 fu z5.1 z5.2.1 (x4_19 + (1 : Int32)) z5.2.2.2)) = some z3 := hsp
        refine lv_iload hx hb dX7_watch_19 (lv_at hl 4 rfl) (W.pc 21 rfl ?_)
        refine lv_bipush (v := (6 : Int32)) hx hb dX7_watch_21 (by decide) (W.pc 23 rfl ?_)
        refine lv_icmp_ge (tgt := 81) hx hb dX7_watch_23 (by decide) (fun c4 => ?_) (fun c4 => W.pc 26 rfl ?_)
        · have hsp := ip hsp c4
          obtain rfl := Option.some.inj hsp
          exact hk_19 _ _ _ hP hD hS (lv_sub hl [2] rfl)
        · have hsp := iq hsp c4
          refine lv_bipush (v := (-9 : Int32)) hx hb dX7_watch_26 (by decide) (W.pc 28 rfl ?_)
          refine lv_istore (lv' := [(5, .int (-9 : Int32)), (0, .ref a0), (1, .int z1), (2, .int x2_19), (3, .int x3_19), (4, .int x4_19)]) hx hb dX7_watch_28 hl (by decide) rfl (fun ls hl => W.pc 30 rfl ?_)
          have L_30 : ∀ (z5 : Int32 × Int32 × Int32 × (Nat → Int32)), (∀ (H : Heap) (locs : List Loc) (ls : Array Slot), wP E [(a0, .inr (4, [.ref a0_town, .ref a0_draft, .ref a0_images, .int a0_imagesKept, .ref a0_text, .ref a0_planner, .ref a0_trial, .ref a0_spread, .ref a0_spreadBehind, .ref a0_tally, .long a0_above, .long a0_below, .int a0_refusedAsBad, .int a0_refusedAsNo, .int a0_refusedAsFull])), (a0_town, .inr (3, [.int a0_town_kind, .ref a0_town_pulls, .ref a0_town_site, .ref a0_town_past, .int a0_town_pasts, .ref a0_town_views, .int a0_town_members, .ref a0_town_notes, .int a0_town_noteCount, .ref a0_town_marks, .int a0_town_markCount])), (a0_town_notes, aI E 24 fa0_town_notes), (a0_tally, aI E 19 z5.2.2.2), (a0_town_site, .inr (1, [.int a0_town_site_off, .int a0_town_site_year, .ref a0_town_site_heights, .ref a0_town_site_storeyKinds, .ref a0_town_site_storeyTilts]))] H → va_D A [(a0, .inr (4, [.ref a0_town, .ref a0_draft, .ref a0_images, .int a0_imagesKept, .ref a0_text, .ref a0_planner, .ref a0_trial, .ref a0_spread, .ref a0_spreadBehind, .ref a0_tally, .long a0_above, .long a0_below, .int a0_refusedAsBad, .int a0_refusedAsNo, .int a0_refusedAsFull])), (a0_town, .inr (3, [.int a0_town_kind, .ref a0_town_pulls, .ref a0_town_site, .ref a0_town_past, .int a0_town_pasts, .ref a0_town_views, .int a0_town_members, .ref a0_town_notes, .int a0_town_noteCount, .ref a0_town_marks, .int a0_town_markCount])), (a0_town_notes, aI E 24 fa0_town_notes), (a0_tally, aI E 19 z5.2.2.2), (a0_town_site, .inr (1, [.int a0_town_site_off, .int a0_town_site_year, .ref a0_town_site_heights, .ref a0_town_site_storeyKinds, .ref a0_town_site_storeyTilts]))] → va_S A s.heap H locs → lv_has ls 7 [(0, .ref a0), (1, .int z1), (2, .int z5.1), (3, .int z5.2.1), (4, .int x4_19)] → W p l e (wR 5) s m [.ref a0].toArray below meth c H locs 0 0 (MQ below (QWd E A (some (.int z_0)) [(a0, .inr (4, [.ref a0_town, .ref a0_draft, .ref a0_images, .int a0_imagesKept, .ref a0_text, .ref a0_planner, .ref a0_trial, .ref a0_spread, .ref a0_spreadBehind, .ref a0_tally, .long a0_above, .long a0_below, .int a0_refusedAsBad, .int a0_refusedAsNo, .int a0_refusedAsFull])), (a0_town, .inr (3, [.int a0_town_kind, .ref a0_town_pulls, .ref a0_town_site, .ref a0_town_past, .int a0_town_pasts, .ref a0_town_views, .int a0_town_members, .ref a0_town_notes, .int a0_town_noteCount, .ref a0_town_marks, .int a0_town_markCount])), (a0_town_notes, aI E 24 fa0_town_notes), (a0_tally, aI E 19 z_1), (a0_town_site, .inr (1, [.int a0_town_site_off, .int a0_town_site_year, .ref a0_town_site_heights, .ref a0_town_site_storeyKinds, .ref a0_town_site_storeyTilts]))]) [.ref a0].toArray s 0 0 A) (F0 m 75 ls [])) → ∀ (fu : Nat) (x2_30 : Int32) (x3_30 : Int32) (x5_30 : Int32) (ya0_tally_f_30 : (Nat → Int32)), ∀ (H : Heap) (locs : List Loc) (ls : Array Slot), wP E [(a0, .inr (4, [.ref a0_town, .ref a0_draft, .ref a0_images, .int a0_imagesKept, .ref a0_text, .ref a0_planner, .ref a0_trial, .ref a0_spread, .ref a0_spreadBehind, .ref a0_tally, .long a0_above, .long a0_below, .int a0_refusedAsBad, .int a0_refusedAsNo, .int a0_refusedAsFull])), (a0_town, .inr (3, [.int a0_town_kind, .ref a0_town_pulls, .ref a0_town_site, .ref a0_town_past, .int a0_town_pasts, .ref a0_town_views, .int a0_town_members, .ref a0_town_notes, .int a0_town_noteCount, .ref a0_town_marks, .int a0_town_markCount])), (a0_town_notes, aI E 24 fa0_town_notes), (a0_tally, aI E 19 ya0_tally_f_30), (a0_town_site, .inr (1, [.int a0_town_site_off, .int a0_town_site_year, .ref a0_town_site_heights, .ref a0_town_site_storeyKinds, .ref a0_town_site_storeyTilts]))] H → va_D A [(a0, .inr (4, [.ref a0_town, .ref a0_draft, .ref a0_images, .int a0_imagesKept, .ref a0_text, .ref a0_planner, .ref a0_trial, .ref a0_spread, .ref a0_spreadBehind, .ref a0_tally, .long a0_above, .long a0_below, .int a0_refusedAsBad, .int a0_refusedAsNo, .int a0_refusedAsFull])), (a0_town, .inr (3, [.int a0_town_kind, .ref a0_town_pulls, .ref a0_town_site, .ref a0_town_past, .int a0_town_pasts, .ref a0_town_views, .int a0_town_members, .ref a0_town_notes, .int a0_town_noteCount, .ref a0_town_marks, .int a0_town_markCount])), (a0_town_notes, aI E 24 fa0_town_notes), (a0_tally, aI E 19 ya0_tally_f_30), (a0_town_site, .inr (1, [.int a0_town_site_off, .int a0_town_site_year, .ref a0_town_site_heights, .ref a0_town_site_storeyKinds, .ref a0_town_site_storeyTilts]))] → va_S A s.heap H locs → lv_has ls 7 [(0, .ref a0), (1, .int z1), (2, .int x2_30), (3, .int x3_30), (4, .int x4_19), (5, .int x5_30)] → lp_X7_watch_30 a0_town_site_off z1 x4_19 fu x2_30 x3_30 x5_30 ya0_tally_f_30 = some z5 → W p l e (wR 5) s m [.ref a0].toArray below meth c H locs 0 0 (MQ below (QWd E A (some (.int z_0)) [(a0, .inr (4, [.ref a0_town, .ref a0_draft, .ref a0_images, .int a0_imagesKept, .ref a0_text, .ref a0_planner, .ref a0_trial, .ref a0_spread, .ref a0_spreadBehind, .ref a0_tally, .long a0_above, .long a0_below, .int a0_refusedAsBad, .int a0_refusedAsNo, .int a0_refusedAsFull])), (a0_town, .inr (3, [.int a0_town_kind, .ref a0_town_pulls, .ref a0_town_site, .ref a0_town_past, .int a0_town_pasts, .ref a0_town_views, .int a0_town_members, .ref a0_town_notes, .int a0_town_noteCount, .ref a0_town_marks, .int a0_town_markCount])), (a0_town_notes, aI E 24 fa0_town_notes), (a0_tally, aI E 19 z_1), (a0_town_site, .inr (1, [.int a0_town_site_off, .int a0_town_site_year, .ref a0_town_site_heights, .ref a0_town_site_storeyKinds, .ref a0_town_site_storeyTilts]))]) [.ref a0].toArray s 0 0 A) (F0 m 30 ls []) := by
            intro z5 hk_30 fu
            induction fu with
            | zero => intro x2_30 x3_30 x5_30 ya0_tally_f_30 H locs ls hP hD hS hl hsp; exact absurd (show none = some _ from hsp) (by simp)
            | succ fu ih_30 =>
              intro x2_30 x3_30 x5_30 ya0_tally_f_30 H locs ls hP hD hS hl hsp
              have hsp : (if (9 : Int32) < x5_30 then (some (x2_30, x3_30, x5_30, ya0_tally_f_30)) else (Option.bind (sp_X7_mostAlike z1 x4_19 x5_30 ya0_tally_f_30 a0_town_site_off) fun z7 => lt_ (if x3_30 ≤ z7.1 then ((x2_30, x3_30)) else ((((((100 : Int32) * x4_19) + (9 : Int32)) + x5_30), z7.1))) fun z8 => lp_X7_watch_30 a0_town_site_off z1 x4_19 fu z8.1 z8.2 (x5_30 + (1 : Int32)) z7.2)) = some z5 := hsp
              refine lv_iload hx hb dX7_watch_30 (lv_at hl 5 rfl) (W.pc 32 rfl ?_)
              refine lv_bipush (v := (9 : Int32)) hx hb dX7_watch_32 (by decide) (W.pc 34 rfl ?_)
              refine lv_icmp_gt (tgt := 75) hx hb dX7_watch_34 (by decide) (fun c6 => ?_) (fun c6 => W.pc 37 rfl ?_)
              · have hsp := ip hsp c6
                obtain rfl := Option.some.inj hsp
                exact hk_30 _ _ _ hP hD hS (lv_sub hl [0, 1, 2, 3, 4] rfl)
              · have hsp := iq hsp c6
                refine lv_aload_n hx hb dX7_watch_37 rfl (lv_at hl 0 rfl) (W.pc 38 rfl ?_)
                refine lv_iload_n hx hb dX7_watch_38 rfl (lv_at hl 1 rfl) (W.pc 39 rfl ?_)
                refine lv_iload hx hb dX7_watch_39 (lv_at hl 4 rfl) (W.pc 41 rfl ?_)
                refine lv_iload hx hb dX7_watch_41 (lv_at hl 5 rfl) (W.pc 43 rfl ?_)
                obtain ⟨z7, hr_z7, hsp⟩ := bd_s hsp
                refine kVW (st1 := [.int z7.1]) (ws' := [(a0, .inr (4, [.ref a0_town, .ref a0_draft, .ref a0_images, .int a0_imagesKept, .ref a0_text, .ref a0_planner, .ref a0_trial, .ref a0_spread, .ref a0_spreadBehind, .ref a0_tally, .long a0_above, .long a0_below, .int a0_refusedAsBad, .int a0_refusedAsNo, .int a0_refusedAsFull])), (a0_town, .inr (3, [.int a0_town_kind, .ref a0_town_pulls, .ref a0_town_site, .ref a0_town_past, .int a0_town_pasts, .ref a0_town_views, .int a0_town_members, .ref a0_town_notes, .int a0_town_noteCount, .ref a0_town_marks, .int a0_town_markCount])), (a0_town_notes, aI E 24 fa0_town_notes), (a0_tally, aI E 19 z7.2), (a0_town_site, .inr (1, [.int a0_town_site_off, .int a0_town_site_year, .ref a0_town_site_heights, .ref a0_town_site_storeyKinds, .ref a0_town_site_storeyTilts]))]) [0, 3, 1, 4] hX (c_X7_mostAlike l E a0 a0_town a0_draft a0_images a0_text a0_planner a0_trial a0_spread a0_spreadBehind a0_tally a0_town_pulls a0_town_site a0_town_past a0_town_views a0_town_notes a0_town_marks a0_town_site_heights a0_town_site_storeyKinds a0_town_site_storeyTilts z1 x4_19 x5_30 a0_imagesKept a0_above a0_below a0_refusedAsBad a0_refusedAsNo a0_refusedAsFull ya0_tally_f_30 a0_town_kind a0_town_pasts a0_town_members a0_town_noteCount a0_town_markCount a0_town_site_off a0_town_site_year z7.1 z7.2 hr_z7) B_X7_mostAlike w_3_193 hK hP hD hS hA (by decide) rfl rfl rfl (q0 := 0) (ci := 4) rfl rfl rfl rfl hl.1 rfl (Nat.le_of_ble_eq_true rfl) ⟨Nat.le_of_ble_eq_true rfl, Nat.le_of_ble_eq_true rfl⟩ dX7_watch_43 rfl (fun H locs hP hD hS => W.pc 46 rfl ?_)
                refine lv_istore (lv' := [(6, .int z7.1), (0, .ref a0), (1, .int z1), (2, .int x2_30), (3, .int x3_30), (4, .int x4_19), (5, .int x5_30)]) hx hb dX7_watch_46 hl (by decide) rfl (fun ls hl => W.pc 48 rfl ?_)
                refine lv_iload hx hb dX7_watch_48 (lv_at hl 0 rfl) (W.pc 50 rfl ?_)
                refine lv_iload_n hx hb dX7_watch_50 rfl (lv_at hl 4 rfl) (W.pc 51 rfl ?_)
                obtain ⟨z8, hr_z8, hsp⟩ := ltb_s hsp
                have J9 : ∀ (H : Heap) (locs : List Loc) (ls : Array Slot), wP E [(a0, .inr (4, [.ref a0_town, .ref a0_draft, .ref a0_images, .int a0_imagesKept, .ref a0_text, .ref a0_planner, .ref a0_trial, .ref a0_spread, .ref a0_spreadBehind, .ref a0_tally, .long a0_above, .long a0_below, .int a0_refusedAsBad, .int a0_refusedAsNo, .int a0_refusedAsFull])), (a0_town, .inr (3, [.int a0_town_kind, .ref a0_town_pulls, .ref a0_town_site, .ref a0_town_past, .int a0_town_pasts, .ref a0_town_views, .int a0_town_members, .ref a0_town_notes, .int a0_town_noteCount, .ref a0_town_marks, .int a0_town_markCount])), (a0_town_notes, aI E 24 fa0_town_notes), (a0_tally, aI E 19 z7.2), (a0_town_site, .inr (1, [.int a0_town_site_off, .int a0_town_site_year, .ref a0_town_site_heights, .ref a0_town_site_storeyKinds, .ref a0_town_site_storeyTilts]))] H → va_D A [(a0, .inr (4, [.ref a0_town, .ref a0_draft, .ref a0_images, .int a0_imagesKept, .ref a0_text, .ref a0_planner, .ref a0_trial, .ref a0_spread, .ref a0_spreadBehind, .ref a0_tally, .long a0_above, .long a0_below, .int a0_refusedAsBad, .int a0_refusedAsNo, .int a0_refusedAsFull])), (a0_town, .inr (3, [.int a0_town_kind, .ref a0_town_pulls, .ref a0_town_site, .ref a0_town_past, .int a0_town_pasts, .ref a0_town_views, .int a0_town_members, .ref a0_town_notes, .int a0_town_noteCount, .ref a0_town_marks, .int a0_town_markCount])), (a0_town_notes, aI E 24 fa0_town_notes), (a0_tally, aI E 19 z7.2), (a0_town_site, .inr (1, [.int a0_town_site_off, .int a0_town_site_year, .ref a0_town_site_heights, .ref a0_town_site_storeyKinds, .ref a0_town_site_storeyTilts]))] → va_S A s.heap H locs → lv_has ls 7 [(0, .ref a0), (1, .int z1), (2, .int z8.1), (3, .int z8.2), (4, .int x4_19), (5, .int x5_30)] → W p l e (wR 5) s m [.ref a0].toArray below meth c H locs 0 0 (MQ below (QWd E A (some (.int z_0)) [(a0, .inr (4, [.ref a0_town, .ref a0_draft, .ref a0_images, .int a0_imagesKept, .ref a0_text, .ref a0_planner, .ref a0_trial, .ref a0_spread, .ref a0_spreadBehind, .ref a0_tally, .long a0_above, .long a0_below, .int a0_refusedAsBad, .int a0_refusedAsNo, .int a0_refusedAsFull])), (a0_town, .inr (3, [.int a0_town_kind, .ref a0_town_pulls, .ref a0_town_site, .ref a0_town_past, .int a0_town_pasts, .ref a0_town_views, .int a0_town_members, .ref a0_town_notes, .int a0_town_noteCount, .ref a0_town_marks, .int a0_town_markCount])), (a0_town_notes, aI E 24 fa0_town_notes), (a0_tally, aI E 19 z_1), (a0_town_site, .inr (1, [.int a0_town_site_off, .int a0_town_site_year, .ref a0_town_site_heights, .ref a0_town_site_storeyKinds, .ref a0_town_site_storeyTilts]))]) [.ref a0].toArray s 0 0 A) (F0 m 69 ls []) := by
                  intro H locs ls hP hD hS hl
                  refine lv_iinc (v := (x5_30 + (1 : Int32))) (lv' := [(5, .int (x5_30 + (1 : Int32))), (0, .ref a0), (1, .int z1), (2, .int z8.1), (3, .int z8.2), (4, .int x4_19)]) hx hb dX7_watch_69 hl (k := 5) rfl rfl (by decide) rfl (fun ls hl => W.pc 72 rfl ?_)
                  refine lv_goto (tgt := 30) hx hb dX7_watch_72 (by decide) ?_
                  exact ih_30 z8.1 z8.2 (x5_30 + (1 : Int32)) z7.2 _ _ _ hP hD hS (lv_sub hl [1, 2, 3, 4, 5, 0] rfl) hsp
                replace hsp := hr_z8
                refine lv_icmp_ge (tgt := 69) hx hb dX7_watch_51 (by decide) (fun c10 => ?_) (fun c10 => W.pc 54 rfl ?_)
                · have hsp := ip hsp c10
                  subst hsp
                  exact J9 _ _ _ hP hD hS (lv_sub hl [1, 2, 3, 4, 5, 6] rfl)
                · have hsp := iq hsp c10
                  refine lv_iload hx hb dX7_watch_54 (lv_at hl 0 rfl) (W.pc 56 rfl ?_)
                  refine lv_istore_n (lv' := [(3, .int z7.1), (6, .int z7.1), (0, .ref a0), (1, .int z1), (2, .int x2_30), (4, .int x4_19), (5, .int x5_30)]) hx hb dX7_watch_56 rfl hl (by decide) rfl (fun ls hl => W.pc 57 rfl ?_)
                  refine lv_bipush (v := (100 : Int32)) hx hb dX7_watch_57 (by decide) (W.pc 59 rfl ?_)
                  refine lv_iload hx hb dX7_watch_59 (lv_at hl 5 rfl) (W.pc 61 rfl ?_)
                  refine lv_imul hx hb dX7_watch_61 (W.pc 62 rfl ?_)
                  refine lv_bipush (v := (9 : Int32)) hx hb dX7_watch_62 (by decide) (W.pc 64 rfl ?_)
                  refine lv_iadd hx hb dX7_watch_64 (W.pc 65 rfl ?_)
                  refine lv_iload hx hb dX7_watch_65 (lv_at hl 6 rfl) (W.pc 67 rfl ?_)
                  refine lv_iadd hx hb dX7_watch_67 (W.pc 68 rfl ?_)
                  refine lv_istore_n (lv' := [(2, .int ((((100 : Int32) * x4_19) + (9 : Int32)) + x5_30)), (3, .int z7.1), (6, .int z7.1), (0, .ref a0), (1, .int z1), (4, .int x4_19), (5, .int x5_30)]) hx hb dX7_watch_68 rfl hl (by decide) rfl (fun ls hl => W.pc 69 rfl ?_)
                  subst hsp
                  exact J9 _ _ _ hP hD hS (lv_sub hl [3, 4, 0, 1, 5, 6] rfl)
          obtain ⟨z5, hr_z5, hsp⟩ := bd_s hsp
          refine L_30 z5 (fun H locs ls hP hD hS hl => ?_) FU x2_19 x3_19 (-9 : Int32) ya0_tally_f_19 _ _ _ hP hD hS (lv_sub hl [1, 2, 3, 4, 5, 0] rfl) hr_z5
          refine lv_iinc (v := (x4_19 + (1 : Int32))) (lv' := [(4, .int (x4_19 + (1 : Int32))), (0, .ref a0), (1, .int z1), (2, .int z5.1), (3, .int z5.2.1)]) hx hb dX7_watch_75 hl (k := 4) rfl rfl (by decide) rfl (fun ls hl => W.pc 78 rfl ?_)
          refine lv_goto (tgt := 19) hx hb dX7_watch_78 (by decide) ?_
          exact ih_19 z5.1 z5.2.1 (x4_19 + (1 : Int32)) z5.2.2.2 _ _ _ hP hD hS (lv_sub hl [1, 2, 3, 4, 0] rfl) hsp
    obtain ⟨z3, hr_z3, hsp⟩ := bd_s hsp
    refine L_19 z3 (fun H locs ls hP hD hS hl => ?_) FU (-1 : Int32) (7 : Int32) (0 : Int32) fa0_tally _ _ _ hP hD hS (lv_sub hl [4, 3, 2, 1, 0] rfl) hr_z3
    refine lv_iload_n hx hb dX7_watch_81 rfl (lv_at hl 0 rfl) (W.pc 82 rfl ?_)
    cases hsp
    exact rWi hX hP hS rfl rfl dX7_watch_82
  · have hsp := ip hsp c2
    refine lv_iconst (v := (-1 : Int32)) hx hb dX7_watch_14 (by decide) (W.pc 15 rfl ?_)
    cases hsp
    exact rWi hX hP hS rfl rfl dX7_watch_15
