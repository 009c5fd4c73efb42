theorem w_5_178 : Cond.constantLong RX8 230 (10 : Int64) ∈ TBL := TBL_t (tin5 (List.mem_of_getElem? (i := 178) (by decide +kernel))) (by decide +kernel)
theorem w_4_76 : Cond.fieldLink RX8 232 "LevelGoneModel" "above" "J" ∈ TBL := TBL_t (tin4 (List.mem_of_getElem? (i := 76) (by decide +kernel))) (by decide +kernel)
theorem w_5_183 : Cond.constant RX8 235 (999999 : Int32) ∈ TBL := TBL_t (tin5 (List.mem_of_getElem? (i := 183) (by decide +kernel))) (by decide +kernel)
theorem w_5_184 : Cond.constantLong RX8 236 (1103515245 : Int64) ∈ TBL := TBL_t (tin5 (List.mem_of_getElem? (i := 184) (by decide +kernel))) (by decide +kernel)
theorem w_5_185 : Cond.constantLong RX8 238 (12345 : Int64) ∈ TBL := TBL_t (tin5 (List.mem_of_getElem? (i := 185) (by decide +kernel))) (by decide +kernel)
theorem w_5_186 : Cond.constantLong RX8 240 (2147483648 : Int64) ∈ TBL := TBL_t (tin5 (List.mem_of_getElem? (i := 186) (by decide +kernel))) (by decide +kernel)
theorem w_5_187 : Cond.constantLong RX8 242 (65536 : Int64) ∈ TBL := TBL_t (tin5 (List.mem_of_getElem? (i := 187) (by decide +kernel))) (by decide +kernel)
theorem w_5_188 : Cond.constantLong RX8 244 (19 : Int64) ∈ TBL := TBL_t (tin5 (List.mem_of_getElem? (i := 188) (by decide +kernel))) (by decide +kernel)
theorem w_5_209 : Cond.methodLink RX8 246 yX8_countOf ∈ TBL := TBL_t (tin5 (List.mem_of_getElem? (i := 209) (by decide +kernel))) (by decide +kernel)
theorem w_5_217 : Cond.constantLong RX8 249 (1489 : Int64) ∈ TBL := TBL_t (tin5 (List.mem_of_getElem? (i := 217) (by decide +kernel))) (by decide +kernel)
theorem w_5_218 : Cond.constantLong RX8 251 (31 : Int64) ∈ TBL := TBL_t (tin5 (List.mem_of_getElem? (i := 218) (by decide +kernel))) (by decide +kernel)
theorem w_5_212 : Cond.code yX8_countOf cX8_countOf 2 (some .int) ∈ TBL := TBL_t (tin5 (List.mem_of_getElem? (i := 212) (by decide +kernel))) (by decide +kernel)
theorem w_5_211 : Cond.instanceMethod yX8_countOf ∈ TBL := TBL_t (tin5 (List.mem_of_getElem? (i := 211) (by decide +kernel))) (by decide +kernel)
theorem ws_53 : Cond.selects yX8_countOf.cls yX8_countOf yX8_countOf ∈ TBL := TBL_s (List.mem_of_getElem? (i := 53) (by decide +kernel)) (by decide +kernel)
theorem B_X8_countOf : cV yX8_countOf cX8_countOf 2 (some .int) 1 := ⟨w_5_212, w_5_211, (ws_53), w_1_6, by decide +kernel⟩
theorem dX8_chance_0 : decode cX8_chance 0 = .ok (.iload_n 1, 1) := by decide +kernel
theorem dX8_chance_1 : decode cX8_chance 1 = .ok (.iconst 1, 1) := by decide +kernel
theorem dX8_chance_2 : decode cX8_chance 2 = .ok (.bipush 9, 2) := by decide +kernel
theorem dX8_chance_4 : decode cX8_chance 4 = .ok (.invokestatic 42, 3) := by decide +kernel
theorem dX8_chance_7 : decode cX8_chance 7 = .ok (.ifCond .eq 23, 3) := by decide +kernel
theorem dX8_chance_10 : decode cX8_chance 10 = .ok (.iload_n 2, 1) := by decide +kernel
theorem dX8_chance_11 : decode cX8_chance 11 = .ok (.iconst 0, 1) := by decide +kernel
theorem dX8_chance_12 : decode cX8_chance 12 = .ok (.bipush 8, 2) := by decide +kernel
theorem dX8_chance_14 : decode cX8_chance 14 = .ok (.invokestatic 42, 3) := by decide +kernel
theorem dX8_chance_17 : decode cX8_chance 17 = .ok (.ifCond .eq 13, 3) := by decide +kernel
theorem dX8_chance_20 : decode cX8_chance 20 = .ok (.iload_n 3, 1) := by decide +kernel
theorem dX8_chance_21 : decode cX8_chance 21 = .ok (.iconst 0, 1) := by decide +kernel
theorem dX8_chance_22 : decode cX8_chance 22 = .ok (.bipush 10, 2) := by decide +kernel
theorem dX8_chance_24 : decode cX8_chance 24 = .ok (.invokestatic 42, 3) := by decide +kernel
theorem dX8_chance_27 : decode cX8_chance 27 = .ok (.ifCond .ne 8, 3) := by decide +kernel
theorem dX8_chance_30 : decode cX8_chance 30 = .ok (.aload_n 0, 1) := by decide +kernel
theorem dX8_chance_31 : decode cX8_chance 31 = .ok (.invokevirtual 86, 3) := by decide +kernel
theorem dX8_chance_34 : decode cX8_chance 34 = .ok (.ireturn, 1) := by decide +kernel
theorem dX8_chance_35 : decode cX8_chance 35 = .ok (.lconst 0, 1) := by decide +kernel
theorem dX8_chance_36 : decode cX8_chance 36 = .ok (.lstore 4, 2) := by decide +kernel
theorem dX8_chance_38 : decode cX8_chance 38 = .ok (.lconst 1, 1) := by decide +kernel
theorem dX8_chance_39 : decode cX8_chance 39 = .ok (.lstore 6, 2) := by decide +kernel
theorem dX8_chance_41 : decode cX8_chance 41 = .ok (.iconst 0, 1) := by decide +kernel
theorem dX8_chance_42 : decode cX8_chance 42 = .ok (.istore 8, 2) := by decide +kernel
theorem dX8_chance_44 : decode cX8_chance 44 = .ok (.iload 8, 2) := by decide +kernel
theorem dX8_chance_46 : decode cX8_chance 46 = .ok (.iload_n 2, 1) := by decide +kernel
theorem dX8_chance_47 : decode cX8_chance 47 = .ok (.if_icmp .ge 17, 3) := by decide +kernel
theorem dX8_chance_50 : decode cX8_chance 50 = .ok (.lload 6, 2) := by decide +kernel
theorem dX8_chance_52 : decode cX8_chance 52 = .ok (.ldc2_w 230, 3) := by decide +kernel
theorem dX8_chance_55 : decode cX8_chance 55 = .ok (.lmul, 1) := by decide +kernel
theorem dX8_chance_56 : decode cX8_chance 56 = .ok (.lstore 6, 2) := by decide +kernel
theorem dX8_chance_58 : decode cX8_chance 58 = .ok (.iinc 8 1, 3) := by decide +kernel
theorem dX8_chance_61 : decode cX8_chance 61 = .ok (.goto (-17), 3) := by decide +kernel
theorem dX8_chance_64 : decode cX8_chance 64 = .ok (.iconst 0, 1) := by decide +kernel
theorem dX8_chance_65 : decode cX8_chance 65 = .ok (.istore 8, 2) := by decide +kernel
theorem dX8_chance_67 : decode cX8_chance 67 = .ok (.iload 8, 2) := by decide +kernel
theorem dX8_chance_69 : decode cX8_chance 69 = .ok (.iconst 1, 1) := by decide +kernel
theorem dX8_chance_70 : decode cX8_chance 70 = .ok (.iload_n 2, 1) := by decide +kernel
theorem dX8_chance_71 : decode cX8_chance 71 = .ok (.ishl, 1) := by decide +kernel
theorem dX8_chance_72 : decode cX8_chance 72 = .ok (.if_icmp .ge 129, 3) := by decide +kernel
theorem dX8_chance_75 : decode cX8_chance 75 = .ok (.lconst 1, 1) := by decide +kernel
theorem dX8_chance_76 : decode cX8_chance 76 = .ok (.lstore 9, 2) := by decide +kernel
theorem dX8_chance_78 : decode cX8_chance 78 = .ok (.aload_n 0, 1) := by decide +kernel
theorem dX8_chance_79 : decode cX8_chance 79 = .ok (.getfield 13, 3) := by decide +kernel
theorem dX8_chance_82 : decode cX8_chance 82 = .ok (.iconst 1, 1) := by decide +kernel
theorem dX8_chance_83 : decode cX8_chance 83 = .ok (.iaload, 1) := by decide +kernel
theorem dX8_chance_84 : decode cX8_chance 84 = .ok (.istore 11, 2) := by decide +kernel
theorem dX8_chance_86 : decode cX8_chance 86 = .ok (.iconst 0, 1) := by decide +kernel
theorem dX8_chance_87 : decode cX8_chance 87 = .ok (.istore 12, 2) := by decide +kernel
theorem dX8_chance_89 : decode cX8_chance 89 = .ok (.iload 12, 2) := by decide +kernel
theorem dX8_chance_91 : decode cX8_chance 91 = .ok (.iload_n 2, 1) := by decide +kernel
theorem dX8_chance_92 : decode cX8_chance 92 = .ok (.if_icmp .ge 83, 3) := by decide +kernel
theorem dX8_chance_95 : decode cX8_chance 95 = .ok (.aload_n 0, 1) := by decide +kernel
theorem dX8_chance_96 : decode cX8_chance 96 = .ok (.getfield 13, 3) := by decide +kernel
theorem dX8_chance_99 : decode cX8_chance 99 = .ok (.iconst 2, 1) := by decide +kernel
theorem dX8_chance_100 : decode cX8_chance 100 = .ok (.iaload, 1) := by decide +kernel
theorem dX8_chance_101 : decode cX8_chance 101 = .ok (.iload 12, 2) := by decide +kernel
theorem dX8_chance_103 : decode cX8_chance 103 = .ok (.iadd, 1) := by decide +kernel
theorem dX8_chance_104 : decode cX8_chance 104 = .ok (.istore 13, 2) := by decide +kernel
theorem dX8_chance_106 : decode cX8_chance 106 = .ok (.lload 9, 2) := by decide +kernel
theorem dX8_chance_108 : decode cX8_chance 108 = .ok (.iload 8, 2) := by decide +kernel
theorem dX8_chance_110 : decode cX8_chance 110 = .ok (.iload 12, 2) := by decide +kernel
theorem dX8_chance_112 : decode cX8_chance 112 = .ok (.invokestatic 214, 3) := by decide +kernel
theorem dX8_chance_115 : decode cX8_chance 115 = .ok (.ifCond .eq 8, 3) := by decide +kernel
theorem dX8_chance_118 : decode cX8_chance 118 = .ok (.iload_n 3, 1) := by decide +kernel
theorem dX8_chance_119 : decode cX8_chance 119 = .ok (.i2l, 1) := by decide +kernel
theorem dX8_chance_120 : decode cX8_chance 120 = .ok (.goto 8, 3) := by decide +kernel
theorem dX8_chance_123 : decode cX8_chance 123 = .ok (.bipush 10, 2) := by decide +kernel
theorem dX8_chance_125 : decode cX8_chance 125 = .ok (.iload_n 3, 1) := by decide +kernel
theorem dX8_chance_126 : decode cX8_chance 126 = .ok (.isub, 1) := by decide +kernel
theorem dX8_chance_127 : decode cX8_chance 127 = .ok (.i2l, 1) := by decide +kernel
theorem dX8_chance_128 : decode cX8_chance 128 = .ok (.lmul, 1) := by decide +kernel
theorem dX8_chance_129 : decode cX8_chance 129 = .ok (.lstore 9, 2) := by decide +kernel
theorem dX8_chance_131 : decode cX8_chance 131 = .ok (.aload_n 0, 1) := by decide +kernel
theorem dX8_chance_132 : decode cX8_chance 132 = .ok (.getfield 13, 3) := by decide +kernel
theorem dX8_chance_135 : decode cX8_chance 135 = .ok (.iconst 0, 1) := by decide +kernel
theorem dX8_chance_136 : decode cX8_chance 136 = .ok (.iaload, 1) := by decide +kernel
theorem dX8_chance_137 : decode cX8_chance 137 = .ok (.iload 11, 2) := by decide +kernel
theorem dX8_chance_139 : decode cX8_chance 139 = .ok (.iload 8, 2) := by decide +kernel
theorem dX8_chance_141 : decode cX8_chance 141 = .ok (.iload 12, 2) := by decide +kernel
theorem dX8_chance_143 : decode cX8_chance 143 = .ok (.invokestatic 214, 3) := by decide +kernel
theorem dX8_chance_146 : decode cX8_chance 146 = .ok (.ifCond .eq 7, 3) := by decide +kernel
theorem dX8_chance_149 : decode cX8_chance 149 = .ok (.iconst 0, 1) := by decide +kernel
theorem dX8_chance_150 : decode cX8_chance 150 = .ok (.goto 12, 3) := by decide +kernel
theorem dX8_chance_153 : decode cX8_chance 153 = .ok (.aload_n 0, 1) := by decide +kernel
theorem dX8_chance_154 : decode cX8_chance 154 = .ok (.getfield 13, 3) := by decide +kernel
theorem dX8_chance_157 : decode cX8_chance 157 = .ok (.iload 13, 2) := by decide +kernel
theorem dX8_chance_159 : decode cX8_chance 159 = .ok (.invokestatic 75, 3) := by decide +kernel
theorem dX8_chance_162 : decode cX8_chance 162 = .ok (.iload 13, 2) := by decide +kernel
theorem dX8_chance_164 : decode cX8_chance 164 = .ok (.invokestatic 78, 3) := by decide +kernel
theorem dX8_chance_167 : decode cX8_chance 167 = .ok (.istore 11, 2) := by decide +kernel
theorem dX8_chance_169 : decode cX8_chance 169 = .ok (.iinc 12 1, 3) := by decide +kernel
theorem dX8_chance_172 : decode cX8_chance 172 = .ok (.goto (-83), 3) := by decide +kernel
theorem dX8_chance_175 : decode cX8_chance 175 = .ok (.lload 4, 2) := by decide +kernel
theorem dX8_chance_177 : decode cX8_chance 177 = .ok (.iload 11, 2) := by decide +kernel
theorem dX8_chance_179 : decode cX8_chance 179 = .ok (.invokestatic 53, 3) := by decide +kernel
theorem dX8_chance_182 : decode cX8_chance 182 = .ok (.iload_n 1, 1) := by decide +kernel
theorem dX8_chance_183 : decode cX8_chance 183 = .ok (.if_icmp .lt 8, 3) := by decide +kernel
theorem dX8_chance_186 : decode cX8_chance 186 = .ok (.lload 9, 2) := by decide +kernel
theorem dX8_chance_188 : decode cX8_chance 188 = .ok (.goto 4, 3) := by decide +kernel
theorem dX8_chance_191 : decode cX8_chance 191 = .ok (.lconst 0, 1) := by decide +kernel
theorem dX8_chance_192 : decode cX8_chance 192 = .ok (.ladd, 1) := by decide +kernel
theorem dX8_chance_193 : decode cX8_chance 193 = .ok (.lstore 4, 2) := by decide +kernel
theorem dX8_chance_195 : decode cX8_chance 195 = .ok (.iinc 8 1, 3) := by decide +kernel
theorem dX8_chance_198 : decode cX8_chance 198 = .ok (.goto (-131), 3) := by decide +kernel
theorem dX8_chance_201 : decode cX8_chance 201 = .ok (.lload 4, 2) := by decide +kernel
theorem dX8_chance_203 : decode cX8_chance 203 = .ok (.lstore 8, 2) := by decide +kernel
theorem dX8_chance_205 : decode cX8_chance 205 = .ok (.lload 6, 2) := by decide +kernel
theorem dX8_chance_207 : decode cX8_chance 207 = .ok (.lstore 10, 2) := by decide +kernel
theorem dX8_chance_209 : decode cX8_chance 209 = .ok (.lload 10, 2) := by decide +kernel
theorem dX8_chance_211 : decode cX8_chance 211 = .ok (.lconst 0, 1) := by decide +kernel
theorem dX8_chance_212 : decode cX8_chance 212 = .ok (.lcmp, 1) := by decide +kernel
theorem dX8_chance_213 : decode cX8_chance 213 = .ok (.ifCond .eq 21, 3) := by decide +kernel
theorem dX8_chance_216 : decode cX8_chance 216 = .ok (.lload 8, 2) := by decide +kernel
theorem dX8_chance_218 : decode cX8_chance 218 = .ok (.lload 10, 2) := by decide +kernel
theorem dX8_chance_220 : decode cX8_chance 220 = .ok (.lrem, 1) := by decide +kernel
theorem dX8_chance_221 : decode cX8_chance 221 = .ok (.lstore 12, 2) := by decide +kernel
theorem dX8_chance_223 : decode cX8_chance 223 = .ok (.lload 10, 2) := by decide +kernel
theorem dX8_chance_225 : decode cX8_chance 225 = .ok (.lstore 8, 2) := by decide +kernel
theorem dX8_chance_227 : decode cX8_chance 227 = .ok (.lload 12, 2) := by decide +kernel
theorem dX8_chance_229 : decode cX8_chance 229 = .ok (.lstore 10, 2) := by decide +kernel
theorem dX8_chance_231 : decode cX8_chance 231 = .ok (.goto (-22), 3) := by decide +kernel
theorem dX8_chance_234 : decode cX8_chance 234 = .ok (.aload_n 0, 1) := by decide +kernel
theorem dX8_chance_235 : decode cX8_chance 235 = .ok (.lload 4, 2) := by decide +kernel
theorem dX8_chance_237 : decode cX8_chance 237 = .ok (.lload 8, 2) := by decide +kernel
theorem dX8_chance_239 : decode cX8_chance 239 = .ok (.ldiv, 1) := by decide +kernel
theorem dX8_chance_240 : decode cX8_chance 240 = .ok (.putfield 232, 3) := by decide +kernel
theorem dX8_chance_243 : decode cX8_chance 243 = .ok (.aload_n 0, 1) := by decide +kernel
theorem dX8_chance_244 : decode cX8_chance 244 = .ok (.lload 6, 2) := by decide +kernel
theorem dX8_chance_246 : decode cX8_chance 246 = .ok (.lload 8, 2) := by decide +kernel
theorem dX8_chance_248 : decode cX8_chance 248 = .ok (.ldiv, 1) := by decide +kernel
theorem dX8_chance_249 : decode cX8_chance 249 = .ok (.putfield 32, 3) := by decide +kernel
theorem dX8_chance_252 : decode cX8_chance 252 = .ok (.iconst 1, 1) := by decide +kernel
theorem dX8_chance_253 : decode cX8_chance 253 = .ok (.ireturn, 1) := by decide +kernel
theorem dX8_times_0 : decode cX8_times 0 = .ok (.iload_n 1, 1) := by decide +kernel
theorem dX8_times_1 : decode cX8_times 1 = .ok (.iconst 0, 1) := by decide +kernel
theorem dX8_times_2 : decode cX8_times 2 = .ok (.ldc 235, 2) := by decide +kernel
theorem dX8_times_4 : decode cX8_times 4 = .ok (.invokestatic 42, 3) := by decide +kernel
theorem dX8_times_7 : decode cX8_times 7 = .ok (.ifCond .eq 13, 3) := by decide +kernel
theorem dX8_times_10 : decode cX8_times 10 = .ok (.iload_n 2, 1) := by decide +kernel
theorem dX8_times_11 : decode cX8_times 11 = .ok (.iconst 0, 1) := by decide +kernel
theorem dX8_times_12 : decode cX8_times 12 = .ok (.bipush 60, 2) := by decide +kernel
theorem dX8_times_14 : decode cX8_times 14 = .ok (.invokestatic 42, 3) := by decide +kernel
theorem dX8_times_17 : decode cX8_times 17 = .ok (.ifCond .ne 8, 3) := by decide +kernel
theorem dX8_times_20 : decode cX8_times 20 = .ok (.aload_n 0, 1) := by decide +kernel
theorem dX8_times_21 : decode cX8_times 21 = .ok (.invokevirtual 86, 3) := by decide +kernel
theorem dX8_times_24 : decode cX8_times 24 = .ok (.ireturn, 1) := by decide +kernel
theorem dX8_times_25 : decode cX8_times 25 = .ok (.iload_n 1, 1) := by decide +kernel
theorem dX8_times_26 : decode cX8_times 26 = .ok (.i2l, 1) := by decide +kernel
theorem dX8_times_27 : decode cX8_times 27 = .ok (.lstore_n 3, 1) := by decide +kernel
theorem dX8_times_28 : decode cX8_times 28 = .ok (.aload_n 0, 1) := by decide +kernel
theorem dX8_times_29 : decode cX8_times 29 = .ok (.getfield 13, 3) := by decide +kernel
theorem dX8_times_32 : decode cX8_times 32 = .ok (.iconst 1, 1) := by decide +kernel
theorem dX8_times_33 : decode cX8_times 33 = .ok (.iaload, 1) := by decide +kernel
theorem dX8_times_34 : decode cX8_times 34 = .ok (.istore 5, 2) := by decide +kernel
theorem dX8_times_36 : decode cX8_times 36 = .ok (.iconst 0, 1) := by decide +kernel
theorem dX8_times_37 : decode cX8_times 37 = .ok (.istore 6, 2) := by decide +kernel
theorem dX8_times_39 : decode cX8_times 39 = .ok (.iconst 0, 1) := by decide +kernel
theorem dX8_times_40 : decode cX8_times 40 = .ok (.istore 7, 2) := by decide +kernel
theorem dX8_times_42 : decode cX8_times 42 = .ok (.iload 7, 2) := by decide +kernel
theorem dX8_times_44 : decode cX8_times 44 = .ok (.iload_n 2, 1) := by decide +kernel
theorem dX8_times_45 : decode cX8_times 45 = .ok (.if_icmp .ge 68, 3) := by decide +kernel
theorem dX8_times_48 : decode cX8_times 48 = .ok (.lload_n 3, 1) := by decide +kernel
theorem dX8_times_49 : decode cX8_times 49 = .ok (.ldc2_w 236, 3) := by decide +kernel
theorem dX8_times_52 : decode cX8_times 52 = .ok (.lmul, 1) := by decide +kernel
theorem dX8_times_53 : decode cX8_times 53 = .ok (.ldc2_w 238, 3) := by decide +kernel
theorem dX8_times_56 : decode cX8_times 56 = .ok (.ladd, 1) := by decide +kernel
theorem dX8_times_57 : decode cX8_times 57 = .ok (.ldc2_w 240, 3) := by decide +kernel
theorem dX8_times_60 : decode cX8_times 60 = .ok (.lrem, 1) := by decide +kernel
theorem dX8_times_61 : decode cX8_times 61 = .ok (.lstore_n 3, 1) := by decide +kernel
theorem dX8_times_62 : decode cX8_times 62 = .ok (.aload_n 0, 1) := by decide +kernel
theorem dX8_times_63 : decode cX8_times 63 = .ok (.getfield 13, 3) := by decide +kernel
theorem dX8_times_66 : decode cX8_times 66 = .ok (.iconst 0, 1) := by decide +kernel
theorem dX8_times_67 : decode cX8_times 67 = .ok (.iaload, 1) := by decide +kernel
theorem dX8_times_68 : decode cX8_times 68 = .ok (.iload 5, 2) := by decide +kernel
theorem dX8_times_70 : decode cX8_times 70 = .ok (.lload_n 3, 1) := by decide +kernel
theorem dX8_times_71 : decode cX8_times 71 = .ok (.ldc2_w 242, 3) := by decide +kernel
theorem dX8_times_74 : decode cX8_times 74 = .ok (.ldiv, 1) := by decide +kernel
theorem dX8_times_75 : decode cX8_times 75 = .ok (.ldc2_w 244, 3) := by decide +kernel
theorem dX8_times_78 : decode cX8_times 78 = .ok (.lrem, 1) := by decide +kernel
theorem dX8_times_79 : decode cX8_times 79 = .ok (.l2i, 1) := by decide +kernel
theorem dX8_times_80 : decode cX8_times 80 = .ok (.bipush 9, 2) := by decide +kernel
theorem dX8_times_82 : decode cX8_times 82 = .ok (.isub, 1) := by decide +kernel
theorem dX8_times_83 : decode cX8_times 83 = .ok (.aload_n 0, 1) := by decide +kernel
theorem dX8_times_84 : decode cX8_times 84 = .ok (.getfield 13, 3) := by decide +kernel
theorem dX8_times_87 : decode cX8_times 87 = .ok (.iconst 2, 1) := by decide +kernel
theorem dX8_times_88 : decode cX8_times 88 = .ok (.iaload, 1) := by decide +kernel
theorem dX8_times_89 : decode cX8_times 89 = .ok (.iload 7, 2) := by decide +kernel
theorem dX8_times_91 : decode cX8_times 91 = .ok (.iadd, 1) := by decide +kernel
theorem dX8_times_92 : decode cX8_times 92 = .ok (.invokestatic 78, 3) := by decide +kernel
theorem dX8_times_95 : decode cX8_times 95 = .ok (.istore 5, 2) := by decide +kernel
theorem dX8_times_97 : decode cX8_times 97 = .ok (.iload 6, 2) := by decide +kernel
theorem dX8_times_99 : decode cX8_times 99 = .ok (.iload 5, 2) := by decide +kernel
theorem dX8_times_101 : decode cX8_times 101 = .ok (.invokestatic 53, 3) := by decide +kernel
theorem dX8_times_104 : decode cX8_times 104 = .ok (.iadd, 1) := by decide +kernel
theorem dX8_times_105 : decode cX8_times 105 = .ok (.istore 6, 2) := by decide +kernel
theorem dX8_times_107 : decode cX8_times 107 = .ok (.iinc 7 1, 3) := by decide +kernel
theorem dX8_times_110 : decode cX8_times 110 = .ok (.goto (-68), 3) := by decide +kernel
theorem dX8_times_113 : decode cX8_times 113 = .ok (.iload 6, 2) := by decide +kernel
theorem dX8_times_115 : decode cX8_times 115 = .ok (.ireturn, 1) := by decide +kernel
theorem dX8_part_0 : decode cX8_part 0 = .ok (.iload_n 1, 1) := by decide +kernel
theorem dX8_part_1 : decode cX8_part 1 = .ok (.ifCond .ne 10, 3) := by decide +kernel
theorem dX8_part_4 : decode cX8_part 4 = .ok (.aload_n 0, 1) := by decide +kernel
theorem dX8_part_5 : decode cX8_part 5 = .ok (.getfield 232, 3) := by decide +kernel
theorem dX8_part_8 : decode cX8_part 8 = .ok (.goto 20, 3) := by decide +kernel
theorem dX8_part_11 : decode cX8_part 11 = .ok (.iload_n 1, 1) := by decide +kernel
theorem dX8_part_12 : decode cX8_part 12 = .ok (.iconst 1, 1) := by decide +kernel
theorem dX8_part_13 : decode cX8_part 13 = .ok (.if_icmp .ne 10, 3) := by decide +kernel
theorem dX8_part_16 : decode cX8_part 16 = .ok (.aload_n 0, 1) := by decide +kernel
theorem dX8_part_17 : decode cX8_part 17 = .ok (.getfield 32, 3) := by decide +kernel
theorem dX8_part_20 : decode cX8_part 20 = .ok (.goto 8, 3) := by decide +kernel
theorem dX8_part_23 : decode cX8_part 23 = .ok (.aload_n 0, 1) := by decide +kernel
theorem dX8_part_24 : decode cX8_part 24 = .ok (.invokevirtual 86, 3) := by decide +kernel
theorem dX8_part_27 : decode cX8_part 27 = .ok (.i2l, 1) := by decide +kernel
theorem dX8_part_28 : decode cX8_part 28 = .ok (.lreturn, 1) := by decide +kernel
theorem dX8_image_0 : decode cX8_image 0 = .ok (.iload_n 1, 1) := by decide +kernel
theorem dX8_image_1 : decode cX8_image 1 = .ok (.iconst 0, 1) := by decide +kernel
theorem dX8_image_2 : decode cX8_image 2 = .ok (.iconst 1, 1) := by decide +kernel
theorem dX8_image_3 : decode cX8_image 3 = .ok (.invokestatic 42, 3) := by decide +kernel
theorem dX8_image_6 : decode cX8_image 6 = .ok (.ifCond .ne 8, 3) := by decide +kernel
theorem dX8_image_9 : decode cX8_image 9 = .ok (.aload_n 0, 1) := by decide +kernel
theorem dX8_image_10 : decode cX8_image 10 = .ok (.invokevirtual 86, 3) := by decide +kernel
theorem dX8_image_13 : decode cX8_image 13 = .ok (.ireturn, 1) := by decide +kernel
theorem dX8_image_14 : decode cX8_image 14 = .ok (.aload_n 0, 1) := by decide +kernel
theorem dX8_image_15 : decode cX8_image 15 = .ok (.getfield 13, 3) := by decide +kernel
theorem dX8_image_18 : decode cX8_image 18 = .ok (.iconst 0, 1) := by decide +kernel
theorem dX8_image_19 : decode cX8_image 19 = .ok (.aload_n 0, 1) := by decide +kernel
theorem dX8_image_20 : decode cX8_image 20 = .ok (.getfield 22, 3) := by decide +kernel
theorem dX8_image_23 : decode cX8_image 23 = .ok (.sipush 682, 3) := by decide +kernel
theorem dX8_image_26 : decode cX8_image 26 = .ok (.iload_n 1, 1) := by decide +kernel
theorem dX8_image_27 : decode cX8_image 27 = .ok (.imul, 1) := by decide +kernel
theorem dX8_image_28 : decode cX8_image 28 = .ok (.sipush 682, 3) := by decide +kernel
theorem dX8_image_31 : decode cX8_image 31 = .ok (.invokestatic 172, 3) := by decide +kernel
theorem dX8_image_34 : decode cX8_image 34 = .ok (.aload_n 0, 1) := by decide +kernel
theorem dX8_image_35 : decode cX8_image 35 = .ok (.getfield 25, 3) := by decide +kernel
theorem dX8_image_38 : decode cX8_image 38 = .ok (.iload_n 1, 1) := by decide +kernel
theorem dX8_image_39 : decode cX8_image 39 = .ok (.iconst 1, 1) := by decide +kernel
theorem dX8_image_40 : decode cX8_image 40 = .ok (.bastore, 1) := by decide +kernel
theorem dX8_image_41 : decode cX8_image 41 = .ok (.iconst 1, 1) := by decide +kernel
theorem dX8_image_42 : decode cX8_image 42 = .ok (.ireturn, 1) := by decide +kernel
theorem dX8_from_0 : decode cX8_from 0 = .ok (.iload_n 1, 1) := by decide +kernel
theorem dX8_from_1 : decode cX8_from 1 = .ok (.iconst 0, 1) := by decide +kernel
theorem dX8_from_2 : decode cX8_from 2 = .ok (.iconst 1, 1) := by decide +kernel
theorem dX8_from_3 : decode cX8_from 3 = .ok (.invokestatic 42, 3) := by decide +kernel
theorem dX8_from_6 : decode cX8_from 6 = .ok (.ifCond .ne 8, 3) := by decide +kernel
theorem dX8_from_9 : decode cX8_from 9 = .ok (.aload_n 0, 1) := by decide +kernel
theorem dX8_from_10 : decode cX8_from 10 = .ok (.invokevirtual 86, 3) := by decide +kernel
theorem dX8_from_13 : decode cX8_from 13 = .ok (.ireturn, 1) := by decide +kernel
theorem dX8_from_14 : decode cX8_from 14 = .ok (.aload_n 0, 1) := by decide +kernel
theorem dX8_from_15 : decode cX8_from 15 = .ok (.getfield 25, 3) := by decide +kernel
theorem dX8_from_18 : decode cX8_from 18 = .ok (.iload_n 1, 1) := by decide +kernel
theorem dX8_from_19 : decode cX8_from 19 = .ok (.baload, 1) := by decide +kernel
theorem dX8_from_20 : decode cX8_from 20 = .ok (.ifCond .ne 8, 3) := by decide +kernel
theorem dX8_from_23 : decode cX8_from 23 = .ok (.aload_n 0, 1) := by decide +kernel
theorem dX8_from_24 : decode cX8_from 24 = .ok (.invokevirtual 179, 3) := by decide +kernel
theorem dX8_from_27 : decode cX8_from 27 = .ok (.ireturn, 1) := by decide +kernel
theorem dX8_from_28 : decode cX8_from 28 = .ok (.aload_n 0, 1) := by decide +kernel
theorem dX8_from_29 : decode cX8_from 29 = .ok (.getfield 22, 3) := by decide +kernel
theorem dX8_from_32 : decode cX8_from 32 = .ok (.sipush 682, 3) := by decide +kernel
theorem dX8_from_35 : decode cX8_from 35 = .ok (.iload_n 1, 1) := by decide +kernel
theorem dX8_from_36 : decode cX8_from 36 = .ok (.imul, 1) := by decide +kernel
theorem dX8_from_37 : decode cX8_from 37 = .ok (.aload_n 0, 1) := by decide +kernel
theorem dX8_from_38 : decode cX8_from 38 = .ok (.getfield 13, 3) := by decide +kernel
theorem dX8_from_41 : decode cX8_from 41 = .ok (.iconst 0, 1) := by decide +kernel
theorem dX8_from_42 : decode cX8_from 42 = .ok (.sipush 682, 3) := by decide +kernel
theorem dX8_from_45 : decode cX8_from 45 = .ok (.invokestatic 172, 3) := by decide +kernel
theorem dX8_from_48 : decode cX8_from 48 = .ok (.iconst 1, 1) := by decide +kernel
theorem dX8_from_49 : decode cX8_from 49 = .ok (.ireturn, 1) := by decide +kernel
theorem dX8_status_0 : decode cX8_status 0 = .ok (.iload_n 1, 1) := by decide +kernel
theorem dX8_status_1 : decode cX8_status 1 = .ok (.iconst 0, 1) := by decide +kernel
theorem dX8_status_2 : decode cX8_status 2 = .ok (.iconst 2, 1) := by decide +kernel
theorem dX8_status_3 : decode cX8_status 3 = .ok (.invokestatic 42, 3) := by decide +kernel
theorem dX8_status_6 : decode cX8_status 6 = .ok (.ifCond .eq 12, 3) := by decide +kernel
theorem dX8_status_9 : decode cX8_status 9 = .ok (.aload_n 0, 1) := by decide +kernel
theorem dX8_status_10 : decode cX8_status 10 = .ok (.getfield 29, 3) := by decide +kernel
theorem dX8_status_13 : decode cX8_status 13 = .ok (.iload_n 1, 1) := by decide +kernel
theorem dX8_status_14 : decode cX8_status 14 = .ok (.iaload, 1) := by decide +kernel
theorem dX8_status_15 : decode cX8_status 15 = .ok (.goto 8, 3) := by decide +kernel
theorem dX8_status_18 : decode cX8_status 18 = .ok (.aload_n 0, 1) := by decide +kernel
theorem dX8_status_19 : decode cX8_status 19 = .ok (.iconst (-1), 1) := by decide +kernel
theorem dX8_status_20 : decode cX8_status 20 = .ok (.invokevirtual 104, 3) := by decide +kernel
theorem dX8_status_23 : decode cX8_status 23 = .ok (.ireturn, 1) := by decide +kernel
theorem dX8_countOf_0 : decode cX8_countOf 0 = .ok (.iload_n 1, 1) := by decide +kernel
theorem dX8_countOf_1 : decode cX8_countOf 1 = .ok (.tableswitch 87 0 5 #[39, 47, 54, 62, 70, 78], 39) := by decide +kernel
theorem dX8_countOf_40 : decode cX8_countOf 40 = .ok (.aload_n 0, 1) := by decide +kernel
theorem dX8_countOf_41 : decode cX8_countOf 41 = .ok (.getfield 13, 3) := by decide +kernel
theorem dX8_countOf_44 : decode cX8_countOf 44 = .ok (.invokestatic 90, 3) := by decide +kernel
theorem dX8_countOf_47 : decode cX8_countOf 47 = .ok (.ireturn, 1) := by decide +kernel
theorem dX8_countOf_48 : decode cX8_countOf 48 = .ok (.aload_n 0, 1) := by decide +kernel
theorem dX8_countOf_49 : decode cX8_countOf 49 = .ok (.getfield 13, 3) := by decide +kernel
theorem dX8_countOf_52 : decode cX8_countOf 52 = .ok (.iconst 2, 1) := by decide +kernel
theorem dX8_countOf_53 : decode cX8_countOf 53 = .ok (.iaload, 1) := by decide +kernel
theorem dX8_countOf_54 : decode cX8_countOf 54 = .ok (.ireturn, 1) := by decide +kernel
theorem dX8_countOf_55 : decode cX8_countOf 55 = .ok (.aload_n 0, 1) := by decide +kernel
theorem dX8_countOf_56 : decode cX8_countOf 56 = .ok (.getfield 13, 3) := by decide +kernel
theorem dX8_countOf_59 : decode cX8_countOf 59 = .ok (.bipush 75, 2) := by decide +kernel
theorem dX8_countOf_61 : decode cX8_countOf 61 = .ok (.iaload, 1) := by decide +kernel
theorem dX8_countOf_62 : decode cX8_countOf 62 = .ok (.ireturn, 1) := by decide +kernel
theorem dX8_countOf_63 : decode cX8_countOf 63 = .ok (.aload_n 0, 1) := by decide +kernel
theorem dX8_countOf_64 : decode cX8_countOf 64 = .ok (.getfield 13, 3) := by decide +kernel
theorem dX8_countOf_67 : decode cX8_countOf 67 = .ok (.bipush 81, 2) := by decide +kernel
theorem dX8_countOf_69 : decode cX8_countOf 69 = .ok (.iaload, 1) := by decide +kernel
theorem dX8_countOf_70 : decode cX8_countOf 70 = .ok (.ireturn, 1) := by decide +kernel
theorem dX8_countOf_71 : decode cX8_countOf 71 = .ok (.aload_n 0, 1) := by decide +kernel
theorem dX8_countOf_72 : decode cX8_countOf 72 = .ok (.getfield 13, 3) := by decide +kernel
theorem dX8_countOf_75 : decode cX8_countOf 75 = .ok (.bipush 106, 2) := by decide +kernel
theorem dX8_countOf_77 : decode cX8_countOf 77 = .ok (.iaload, 1) := by decide +kernel
theorem dX8_countOf_78 : decode cX8_countOf 78 = .ok (.ireturn, 1) := by decide +kernel
theorem dX8_countOf_79 : decode cX8_countOf 79 = .ok (.aload_n 0, 1) := by decide +kernel
theorem dX8_countOf_80 : decode cX8_countOf 80 = .ok (.getfield 13, 3) := by decide +kernel
theorem dX8_countOf_83 : decode cX8_countOf 83 = .ok (.sipush 137, 3) := by decide +kernel
theorem dX8_countOf_86 : decode cX8_countOf 86 = .ok (.iaload, 1) := by decide +kernel
theorem dX8_countOf_87 : decode cX8_countOf 87 = .ok (.ireturn, 1) := by decide +kernel
theorem dX8_countOf_88 : decode cX8_countOf 88 = .ok (.aload_n 0, 1) := by decide +kernel
theorem dX8_countOf_89 : decode cX8_countOf 89 = .ok (.getfield 110, 3) := by decide +kernel
theorem dX8_countOf_92 : decode cX8_countOf 92 = .ok (.ireturn, 1) := by decide +kernel
theorem dX8_count_0 : decode cX8_count 0 = .ok (.iload_n 1, 1) := by decide +kernel
theorem dX8_count_1 : decode cX8_count 1 = .ok (.iconst 0, 1) := by decide +kernel
theorem dX8_count_2 : decode cX8_count 2 = .ok (.bipush 6, 2) := by decide +kernel
theorem dX8_count_4 : decode cX8_count 4 = .ok (.invokestatic 42, 3) := by decide +kernel
theorem dX8_count_7 : decode cX8_count 7 = .ok (.ifCond .eq 11, 3) := by decide +kernel
theorem dX8_count_10 : decode cX8_count 10 = .ok (.aload_n 0, 1) := by decide +kernel
theorem dX8_count_11 : decode cX8_count 11 = .ok (.iload_n 1, 1) := by decide +kernel
theorem dX8_count_12 : decode cX8_count 12 = .ok (.invokevirtual 246, 3) := by decide +kernel
theorem dX8_count_15 : decode cX8_count 15 = .ok (.goto 7, 3) := by decide +kernel
theorem dX8_count_18 : decode cX8_count 18 = .ok (.aload_n 0, 1) := by decide +kernel
theorem dX8_count_19 : decode cX8_count 19 = .ok (.invokevirtual 86, 3) := by decide +kernel
theorem dX8_count_22 : decode cX8_count 22 = .ok (.ireturn, 1) := by decide +kernel
theorem dX8_digest_0 : decode cX8_digest 0 = .ok (.ldc2_w 249, 3) := by decide +kernel
theorem dX8_digest_3 : decode cX8_digest 3 = .ok (.lstore_n 1, 1) := by decide +kernel
theorem dX8_digest_4 : decode cX8_digest 4 = .ok (.iconst 0, 1) := by decide +kernel
theorem dX8_digest_5 : decode cX8_digest 5 = .ok (.istore_n 3, 1) := by decide +kernel
theorem dX8_digest_6 : decode cX8_digest 6 = .ok (.iload_n 3, 1) := by decide +kernel
theorem dX8_digest_7 : decode cX8_digest 7 = .ok (.bipush 7, 2) := by decide +kernel
theorem dX8_digest_9 : decode cX8_digest 9 = .ok (.if_icmp .ge 22, 3) := by decide +kernel
theorem dX8_digest_12 : decode cX8_digest 12 = .ok (.ldc2_w 251, 3) := by decide +kernel
theorem dX8_digest_15 : decode cX8_digest 15 = .ok (.lload_n 1, 1) := by decide +kernel
theorem dX8_digest_16 : decode cX8_digest 16 = .ok (.lmul, 1) := by decide +kernel
theorem dX8_digest_17 : decode cX8_digest 17 = .ok (.aload_n 0, 1) := by decide +kernel
theorem dX8_digest_18 : decode cX8_digest 18 = .ok (.iload_n 3, 1) := by decide +kernel
theorem dX8_digest_19 : decode cX8_digest 19 = .ok (.invokevirtual 246, 3) := by decide +kernel
theorem dX8_digest_22 : decode cX8_digest 22 = .ok (.i2l, 1) := by decide +kernel
theorem dX8_digest_23 : decode cX8_digest 23 = .ok (.ladd, 1) := by decide +kernel
theorem dX8_digest_24 : decode cX8_digest 24 = .ok (.lstore_n 1, 1) := by decide +kernel
theorem dX8_digest_25 : decode cX8_digest 25 = .ok (.iinc 3 1, 3) := by decide +kernel
theorem dX8_digest_28 : decode cX8_digest 28 = .ok (.goto (-22), 3) := by decide +kernel
theorem dX8_digest_31 : decode cX8_digest 31 = .ok (.ldc2_w 251, 3) := by decide +kernel
theorem dX8_digest_34 : decode cX8_digest 34 = .ok (.ldc2_w 251, 3) := by decide +kernel
theorem dX8_digest_37 : decode cX8_digest 37 = .ok (.lload_n 1, 1) := by decide +kernel
theorem dX8_digest_38 : decode cX8_digest 38 = .ok (.lmul, 1) := by decide +kernel
theorem dX8_digest_39 : decode cX8_digest 39 = .ok (.aload_n 0, 1) := by decide +kernel
theorem dX8_digest_40 : decode cX8_digest 40 = .ok (.getfield 13, 3) := by decide +kernel
theorem dX8_digest_43 : decode cX8_digest 43 = .ok (.iconst 0, 1) := by decide +kernel
theorem dX8_digest_44 : decode cX8_digest 44 = .ok (.iaload, 1) := by decide +kernel
theorem dX8_digest_45 : decode cX8_digest 45 = .ok (.i2l, 1) := by decide +kernel
theorem dX8_digest_46 : decode cX8_digest 46 = .ok (.ladd, 1) := by decide +kernel
theorem dX8_digest_47 : decode cX8_digest 47 = .ok (.lmul, 1) := by decide +kernel
theorem dX8_digest_48 : decode cX8_digest 48 = .ok (.aload_n 0, 1) := by decide +kernel
theorem dX8_digest_49 : decode cX8_digest 49 = .ok (.getfield 13, 3) := by decide +kernel
theorem dX8_digest_52 : decode cX8_digest 52 = .ok (.iconst 1, 1) := by decide +kernel
theorem dX8_digest_53 : decode cX8_digest 53 = .ok (.iaload, 1) := by decide +kernel
theorem dX8_digest_54 : decode cX8_digest 54 = .ok (.i2l, 1) := by decide +kernel
theorem dX8_digest_55 : decode cX8_digest 55 = .ok (.ladd, 1) := by decide +kernel
theorem dX8_digest_56 : decode cX8_digest 56 = .ok (.lstore_n 1, 1) := by decide +kernel
theorem dX8_digest_57 : decode cX8_digest 57 = .ok (.iconst 0, 1) := by decide +kernel
theorem dX8_digest_58 : decode cX8_digest 58 = .ok (.istore_n 3, 1) := by decide +kernel
theorem dX8_digest_59 : decode cX8_digest 59 = .ok (.iload_n 3, 1) := by decide +kernel
theorem dX8_digest_60 : decode cX8_digest 60 = .ok (.bipush 6, 2) := by decide +kernel
theorem dX8_digest_62 : decode cX8_digest 62 = .ok (.if_icmp .ge 26, 3) := by decide +kernel
theorem dX8_digest_65 : decode cX8_digest 65 = .ok (.ldc2_w 251, 3) := by decide +kernel
theorem dX8_digest_68 : decode cX8_digest 68 = .ok (.lload_n 1, 1) := by decide +kernel
theorem dX8_digest_69 : decode cX8_digest 69 = .ok (.lmul, 1) := by decide +kernel
theorem dX8_digest_70 : decode cX8_digest 70 = .ok (.aload_n 0, 1) := by decide +kernel
theorem dX8_digest_71 : decode cX8_digest 71 = .ok (.getfield 13, 3) := by decide +kernel
theorem dX8_digest_74 : decode cX8_digest 74 = .ok (.bipush 69, 2) := by decide +kernel
theorem dX8_digest_76 : decode cX8_digest 76 = .ok (.iload_n 3, 1) := by decide +kernel
theorem dX8_digest_77 : decode cX8_digest 77 = .ok (.iadd, 1) := by decide +kernel
theorem dX8_digest_78 : decode cX8_digest 78 = .ok (.iaload, 1) := by decide +kernel
theorem dX8_digest_79 : decode cX8_digest 79 = .ok (.i2l, 1) := by decide +kernel
theorem dX8_digest_80 : decode cX8_digest 80 = .ok (.ladd, 1) := by decide +kernel
theorem dX8_digest_81 : decode cX8_digest 81 = .ok (.lstore_n 1, 1) := by decide +kernel
theorem dX8_digest_82 : decode cX8_digest 82 = .ok (.iinc 3 1, 3) := by decide +kernel
theorem dX8_digest_85 : decode cX8_digest 85 = .ok (.goto (-26), 3) := by decide +kernel
theorem dX8_digest_88 : decode cX8_digest 88 = .ok (.iconst 0, 1) := by decide +kernel
theorem dX8_digest_89 : decode cX8_digest 89 = .ok (.istore_n 3, 1) := by decide +kernel
theorem dX8_digest_90 : decode cX8_digest 90 = .ok (.iload_n 3, 1) := by decide +kernel
theorem dX8_digest_91 : decode cX8_digest 91 = .ok (.bipush 6, 2) := by decide +kernel
theorem dX8_digest_93 : decode cX8_digest 93 = .ok (.if_icmp .ge 72, 3) := by decide +kernel
theorem dX8_digest_96 : decode cX8_digest 96 = .ok (.ldc2_w 251, 3) := by decide +kernel
theorem dX8_digest_99 : decode cX8_digest 99 = .ok (.lload_n 1, 1) := by decide +kernel
theorem dX8_digest_100 : decode cX8_digest 100 = .ok (.lmul, 1) := by decide +kernel
theorem dX8_digest_101 : decode cX8_digest 101 = .ok (.aload_n 0, 1) := by decide +kernel
theorem dX8_digest_102 : decode cX8_digest 102 = .ok (.getfield 13, 3) := by decide +kernel
theorem dX8_digest_105 : decode cX8_digest 105 = .ok (.iconst 3, 1) := by decide +kernel
theorem dX8_digest_106 : decode cX8_digest 106 = .ok (.iload_n 3, 1) := by decide +kernel
theorem dX8_digest_107 : decode cX8_digest 107 = .ok (.iadd, 1) := by decide +kernel
theorem dX8_digest_108 : decode cX8_digest 108 = .ok (.iaload, 1) := by decide +kernel
theorem dX8_digest_109 : decode cX8_digest 109 = .ok (.i2l, 1) := by decide +kernel
theorem dX8_digest_110 : decode cX8_digest 110 = .ok (.ladd, 1) := by decide +kernel
theorem dX8_digest_111 : decode cX8_digest 111 = .ok (.lstore_n 1, 1) := by decide +kernel
theorem dX8_digest_112 : decode cX8_digest 112 = .ok (.iconst 0, 1) := by decide +kernel
theorem dX8_digest_113 : decode cX8_digest 113 = .ok (.istore 4, 2) := by decide +kernel
theorem dX8_digest_115 : decode cX8_digest 115 = .ok (.iload 4, 2) := by decide +kernel
theorem dX8_digest_117 : decode cX8_digest 117 = .ok (.iconst 2, 1) := by decide +kernel
theorem dX8_digest_118 : decode cX8_digest 118 = .ok (.aload_n 0, 1) := by decide +kernel
theorem dX8_digest_119 : decode cX8_digest 119 = .ok (.getfield 13, 3) := by decide +kernel
theorem dX8_digest_122 : decode cX8_digest 122 = .ok (.iconst 3, 1) := by decide +kernel
theorem dX8_digest_123 : decode cX8_digest 123 = .ok (.iload_n 3, 1) := by decide +kernel
theorem dX8_digest_124 : decode cX8_digest 124 = .ok (.iadd, 1) := by decide +kernel
theorem dX8_digest_125 : decode cX8_digest 125 = .ok (.iaload, 1) := by decide +kernel
theorem dX8_digest_126 : decode cX8_digest 126 = .ok (.imul, 1) := by decide +kernel
theorem dX8_digest_127 : decode cX8_digest 127 = .ok (.if_icmp .ge 32, 3) := by decide +kernel
theorem dX8_digest_130 : decode cX8_digest 130 = .ok (.ldc2_w 251, 3) := by decide +kernel
theorem dX8_digest_133 : decode cX8_digest 133 = .ok (.lload_n 1, 1) := by decide +kernel
theorem dX8_digest_134 : decode cX8_digest 134 = .ok (.lmul, 1) := by decide +kernel
theorem dX8_digest_135 : decode cX8_digest 135 = .ok (.aload_n 0, 1) := by decide +kernel
theorem dX8_digest_136 : decode cX8_digest 136 = .ok (.getfield 13, 3) := by decide +kernel
theorem dX8_digest_139 : decode cX8_digest 139 = .ok (.bipush 9, 2) := by decide +kernel
theorem dX8_digest_141 : decode cX8_digest 141 = .ok (.bipush 10, 2) := by decide +kernel
theorem dX8_digest_143 : decode cX8_digest 143 = .ok (.iload_n 3, 1) := by decide +kernel
theorem dX8_digest_144 : decode cX8_digest 144 = .ok (.imul, 1) := by decide +kernel
theorem dX8_digest_145 : decode cX8_digest 145 = .ok (.iadd, 1) := by decide +kernel
theorem dX8_digest_146 : decode cX8_digest 146 = .ok (.iload 4, 2) := by decide +kernel
theorem dX8_digest_148 : decode cX8_digest 148 = .ok (.iadd, 1) := by decide +kernel
theorem dX8_digest_149 : decode cX8_digest 149 = .ok (.iaload, 1) := by decide +kernel
theorem dX8_digest_150 : decode cX8_digest 150 = .ok (.i2l, 1) := by decide +kernel
theorem dX8_digest_151 : decode cX8_digest 151 = .ok (.ladd, 1) := by decide +kernel
theorem dX8_digest_152 : decode cX8_digest 152 = .ok (.lstore_n 1, 1) := by decide +kernel
theorem dX8_digest_153 : decode cX8_digest 153 = .ok (.iinc 4 1, 3) := by decide +kernel
theorem dX8_digest_156 : decode cX8_digest 156 = .ok (.goto (-41), 3) := by decide +kernel
theorem dX8_digest_159 : decode cX8_digest 159 = .ok (.iinc 3 1, 3) := by decide +kernel
theorem dX8_digest_162 : decode cX8_digest 162 = .ok (.goto (-72), 3) := by decide +kernel
theorem dX8_digest_165 : decode cX8_digest 165 = .ok (.iconst 0, 1) := by decide +kernel
theorem dX8_digest_166 : decode cX8_digest 166 = .ok (.istore_n 3, 1) := by decide +kernel
theorem dX8_digest_167 : decode cX8_digest 167 = .ok (.iload_n 3, 1) := by decide +kernel
theorem dX8_digest_168 : decode cX8_digest 168 = .ok (.aload_n 0, 1) := by decide +kernel
theorem dX8_digest_169 : decode cX8_digest 169 = .ok (.getfield 13, 3) := by decide +kernel
theorem dX8_digest_172 : decode cX8_digest 172 = .ok (.bipush 75, 2) := by decide +kernel
theorem dX8_digest_174 : decode cX8_digest 174 = .ok (.iaload, 1) := by decide +kernel
theorem dX8_digest_175 : decode cX8_digest 175 = .ok (.if_icmp .ge 26, 3) := by decide +kernel
theorem dX8_digest_178 : decode cX8_digest 178 = .ok (.ldc2_w 251, 3) := by decide +kernel
theorem dX8_digest_181 : decode cX8_digest 181 = .ok (.lload_n 1, 1) := by decide +kernel
theorem dX8_digest_182 : decode cX8_digest 182 = .ok (.lmul, 1) := by decide +kernel
theorem dX8_digest_183 : decode cX8_digest 183 = .ok (.aload_n 0, 1) := by decide +kernel
theorem dX8_digest_184 : decode cX8_digest 184 = .ok (.getfield 13, 3) := by decide +kernel
theorem dX8_digest_187 : decode cX8_digest 187 = .ok (.bipush 76, 2) := by decide +kernel
theorem dX8_digest_189 : decode cX8_digest 189 = .ok (.iload_n 3, 1) := by decide +kernel
theorem dX8_digest_190 : decode cX8_digest 190 = .ok (.iadd, 1) := by decide +kernel
theorem dX8_digest_191 : decode cX8_digest 191 = .ok (.iaload, 1) := by decide +kernel
theorem dX8_digest_192 : decode cX8_digest 192 = .ok (.i2l, 1) := by decide +kernel
theorem dX8_digest_193 : decode cX8_digest 193 = .ok (.ladd, 1) := by decide +kernel
theorem dX8_digest_194 : decode cX8_digest 194 = .ok (.lstore_n 1, 1) := by decide +kernel
theorem dX8_digest_195 : decode cX8_digest 195 = .ok (.iinc 3 1, 3) := by decide +kernel
theorem dX8_digest_198 : decode cX8_digest 198 = .ok (.goto (-31), 3) := by decide +kernel
theorem dX8_digest_201 : decode cX8_digest 201 = .ok (.iconst 0, 1) := by decide +kernel
theorem dX8_digest_202 : decode cX8_digest 202 = .ok (.istore_n 3, 1) := by decide +kernel
theorem dX8_digest_203 : decode cX8_digest 203 = .ok (.iload_n 3, 1) := by decide +kernel
theorem dX8_digest_204 : decode cX8_digest 204 = .ok (.iconst 4, 1) := by decide +kernel
theorem dX8_digest_205 : decode cX8_digest 205 = .ok (.aload_n 0, 1) := by decide +kernel
theorem dX8_digest_206 : decode cX8_digest 206 = .ok (.getfield 13, 3) := by decide +kernel
theorem dX8_digest_209 : decode cX8_digest 209 = .ok (.bipush 81, 2) := by decide +kernel
theorem dX8_digest_211 : decode cX8_digest 211 = .ok (.iaload, 1) := by decide +kernel
theorem dX8_digest_212 : decode cX8_digest 212 = .ok (.imul, 1) := by decide +kernel
theorem dX8_digest_213 : decode cX8_digest 213 = .ok (.if_icmp .ge 26, 3) := by decide +kernel
theorem dX8_digest_216 : decode cX8_digest 216 = .ok (.ldc2_w 251, 3) := by decide +kernel
theorem dX8_digest_219 : decode cX8_digest 219 = .ok (.lload_n 1, 1) := by decide +kernel
theorem dX8_digest_220 : decode cX8_digest 220 = .ok (.lmul, 1) := by decide +kernel
theorem dX8_digest_221 : decode cX8_digest 221 = .ok (.aload_n 0, 1) := by decide +kernel
theorem dX8_digest_222 : decode cX8_digest 222 = .ok (.getfield 13, 3) := by decide +kernel
theorem dX8_digest_225 : decode cX8_digest 225 = .ok (.bipush 82, 2) := by decide +kernel
theorem dX8_digest_227 : decode cX8_digest 227 = .ok (.iload_n 3, 1) := by decide +kernel
theorem dX8_digest_228 : decode cX8_digest 228 = .ok (.iadd, 1) := by decide +kernel
theorem dX8_digest_229 : decode cX8_digest 229 = .ok (.iaload, 1) := by decide +kernel
theorem dX8_digest_230 : decode cX8_digest 230 = .ok (.i2l, 1) := by decide +kernel
theorem dX8_digest_231 : decode cX8_digest 231 = .ok (.ladd, 1) := by decide +kernel
theorem dX8_digest_232 : decode cX8_digest 232 = .ok (.lstore_n 1, 1) := by decide +kernel
theorem dX8_digest_233 : decode cX8_digest 233 = .ok (.iinc 3 1, 3) := by decide +kernel
theorem dX8_digest_236 : decode cX8_digest 236 = .ok (.goto (-33), 3) := by decide +kernel
theorem dX8_digest_239 : decode cX8_digest 239 = .ok (.iconst 0, 1) := by decide +kernel
theorem dX8_digest_240 : decode cX8_digest 240 = .ok (.istore_n 3, 1) := by decide +kernel
theorem dX8_digest_241 : decode cX8_digest 241 = .ok (.iload_n 3, 1) := by decide +kernel
theorem dX8_digest_242 : decode cX8_digest 242 = .ok (.iconst 5, 1) := by decide +kernel
theorem dX8_digest_243 : decode cX8_digest 243 = .ok (.aload_n 0, 1) := by decide +kernel
theorem dX8_digest_244 : decode cX8_digest 244 = .ok (.getfield 13, 3) := by decide +kernel
theorem dX8_digest_247 : decode cX8_digest 247 = .ok (.bipush 106, 2) := by decide +kernel
theorem dX8_digest_249 : decode cX8_digest 249 = .ok (.iaload, 1) := by decide +kernel
theorem dX8_digest_250 : decode cX8_digest 250 = .ok (.imul, 1) := by decide +kernel
theorem dX8_digest_251 : decode cX8_digest 251 = .ok (.if_icmp .ge 26, 3) := by decide +kernel
theorem dX8_digest_254 : decode cX8_digest 254 = .ok (.ldc2_w 251, 3) := by decide +kernel
theorem dX8_digest_257 : decode cX8_digest 257 = .ok (.lload_n 1, 1) := by decide +kernel
theorem dX8_digest_258 : decode cX8_digest 258 = .ok (.lmul, 1) := by decide +kernel
theorem dX8_digest_259 : decode cX8_digest 259 = .ok (.aload_n 0, 1) := by decide +kernel
theorem dX8_digest_260 : decode cX8_digest 260 = .ok (.getfield 13, 3) := by decide +kernel
theorem dX8_digest_263 : decode cX8_digest 263 = .ok (.bipush 107, 2) := by decide +kernel
theorem dX8_digest_265 : decode cX8_digest 265 = .ok (.iload_n 3, 1) := by decide +kernel
theorem dX8_digest_266 : decode cX8_digest 266 = .ok (.iadd, 1) := by decide +kernel
theorem dX8_digest_267 : decode cX8_digest 267 = .ok (.iaload, 1) := by decide +kernel
theorem dX8_digest_268 : decode cX8_digest 268 = .ok (.i2l, 1) := by decide +kernel
theorem dX8_digest_269 : decode cX8_digest 269 = .ok (.ladd, 1) := by decide +kernel
theorem dX8_digest_270 : decode cX8_digest 270 = .ok (.lstore_n 1, 1) := by decide +kernel
theorem dX8_digest_271 : decode cX8_digest 271 = .ok (.iinc 3 1, 3) := by decide +kernel
theorem dX8_digest_274 : decode cX8_digest 274 = .ok (.goto (-33), 3) := by decide +kernel
theorem dX8_digest_277 : decode cX8_digest 277 = .ok (.ldc2_w 251, 3) := by decide +kernel
theorem dX8_digest_280 : decode cX8_digest 280 = .ok (.ldc2_w 251, 3) := by decide +kernel
theorem dX8_digest_283 : decode cX8_digest 283 = .ok (.lload_n 1, 1) := by decide +kernel
theorem dX8_digest_284 : decode cX8_digest 284 = .ok (.lmul, 1) := by decide +kernel
theorem dX8_digest_285 : decode cX8_digest 285 = .ok (.aload_n 0, 1) := by decide +kernel
theorem dX8_digest_286 : decode cX8_digest 286 = .ok (.getfield 232, 3) := by decide +kernel
theorem dX8_digest_289 : decode cX8_digest 289 = .ok (.ladd, 1) := by decide +kernel
theorem dX8_digest_290 : decode cX8_digest 290 = .ok (.lmul, 1) := by decide +kernel
theorem dX8_digest_291 : decode cX8_digest 291 = .ok (.aload_n 0, 1) := by decide +kernel
theorem dX8_digest_292 : decode cX8_digest 292 = .ok (.getfield 32, 3) := by decide +kernel
theorem dX8_digest_295 : decode cX8_digest 295 = .ok (.ladd, 1) := by decide +kernel
theorem dX8_digest_296 : decode cX8_digest 296 = .ok (.lreturn, 1) := by decide +kernel
noncomputable def lp_X8_chance_44 (p2 : Int32) : Nat → Int64 → Int32 → Option (Int64 × Int32)
 | 0, _, _ => none
 | fu + 1, x6_44, x8_44 => if p2 ≤ x8_44 then (some (x6_44, x8_44)) else (lp_X8_chance_44 p2 fu (x6_44 * (10 : Int64)) (x8_44 + (1 : Int32)))
noncomputable def lp_X8_chance_89 (p2 : Int32) (p3 : Int32) (fa0_town : Nat → Int32) (x8_67 : Int32) : Nat → Int64 → Int32 → Int32 → Option (Int64 × Int32 × Int32)
 | 0, _, _, _ => none
 | fu + 1, x9_89, x11_89, x12_89 => if p2 ≤ x12_89 then (some (x9_89, x11_89, x12_89)) else (lt_ (if (sp_X8_has x8_67 x12_89) = 0 then ((((10 : Int32) - p3)).toInt64) else ((p3).toInt64)) fun z12 => Option.bind (if (sp_X8_has x8_67 x12_89) = 0 then (Option.bind (sp_X8_pullIn ((fa0_town ((2 : Int32)).toNatClampNeg) + x12_89) fa0_town) fun z18 => some z18) else (some (0 : Int32))) fun z15 => lp_X8_chance_89 p2 p3 fa0_town x8_67 fu (x9_89 * z12) (sp_X8_behind (fa0_town ((0 : Int32)).toNatClampNeg) x11_89 z15 ((fa0_town ((2 : Int32)).toNatClampNeg) + x12_89)) (x12_89 + (1 : Int32)))
noncomputable def lp_X8_chance_67 (p1 : Int32) (p2 : Int32) (p3 : Int32) (fa0_town : Nat → Int32) : Nat → Int64 → Int32 → Option (Int64 × Int32)
 | 0, _, _ => none
 | fu + 1, x4_67, x8_67 => if ((1 : Int32) <<< (p2 &&& 31)) ≤ x8_67 then (some (x4_67, x8_67)) else (Option.bind (lp_X8_chance_89 p2 p3 fa0_town x8_67 FU (1 : Int64) (fa0_town ((1 : Int32)).toNatClampNeg) (0 : Int32)) fun z10 => lt_ (if (sp_X8_size z10.2.1) < p1 then ((0 : Int64)) else (z10.1)) fun z19 => lp_X8_chance_67 p1 p2 p3 fa0_town fu (x4_67 + z19) (x8_67 + (1 : Int32)))
noncomputable def lp_X8_chance_209 : Nat → Int64 → Int64 → Option (Int64 × Int64)
 | 0, _, _ => none
 | fu + 1, x8_209, x10_209 => if (lg_cmp x10_209 (0 : Int64)) = 0 then (some (x8_209, x10_209)) else (gd (¬ x10_209 = 0) (lp_X8_chance_209 fu x10_209 (x8_209 - x8_209 / x10_209 * x10_209)))
noncomputable def sp_X8_chance (p1 : Int32) (p2 : Int32) (p3 : Int32) (a0_above : Int64) (a0_below : Int64) (fa0_refused : Nat → Int32) (fa0_town : Nat → Int32) : Option (Int32 × (Nat → Int32) × Int64 × Int64) := if (sp_X8_in p1 (1 : Int32) (9 : Int32)) = 0 then (lt_ (sp_X8_bad fa0_refused) fun z2 => some (z2.1, z2.2, a0_above, a0_below)) else (if (sp_X8_in p2 (0 : Int32) (8 : Int32)) = 0 then (lt_ (sp_X8_bad fa0_refused) fun z4 => some (z4.1, z4.2, a0_above, a0_below)) else (if (sp_X8_in p3 (0 : Int32) (10 : Int32)) = 0 then (lt_ (sp_X8_bad fa0_refused) fun z27 => some (z27.1, z27.2, a0_above, a0_below)) else (Option.bind (lp_X8_chance_44 p2 FU (1 : Int64) (0 : Int32)) fun z6 => Option.bind (lp_X8_chance_67 p1 p2 p3 fa0_town FU (0 : Int64) (0 : Int32)) fun z8 => Option.bind (lp_X8_chance_209 FU z8.1 z6.1) fun z22 => gd (¬ z22.1 = 0) (gd (¬ z22.1 = 0) (some ((1 : Int32), fa0_refused, (z8.1 / z22.1), (z6.1 / z22.1)))))))
set_option maxHeartbeats 4000000 in
set_option maxRecDepth 100000 in
theorem c_X8_chance (l : Launch) (E : wE) (a0 a0_text a0_town a0_draft a0_tried a0_images a0_kept a0_refused a0_line a0_best : Nat) (p1 : Int32) (p2 : Int32) (p3 : Int32) (a0_letters : Int32) (a0_above : Int64) (a0_below : Int64) (a0_at : Int32) (a0_start : Int32) (a0_isWell : Int32) (a0_faultAt : Int32) (fa0_refused : Nat → Int32) (fa0_town : Nat → Int32) (z_0 : Int32) (z_1 : (Nat → Int32)) (z_2 : Int64) (z_3 : Int64) (hsp : sp_X8_chance p1 p2 p3 a0_above a0_below fa0_refused fa0_town = some (z_0, z_1, z_2, z_3)) : MW l yX8_chance cX8_chance 14 (some .int) 2 E [.ref a0, .int p1, .int p2, .int p3] [(a0, .inr (5, [.ref a0_text, .int a0_letters, .ref a0_town, .ref a0_draft, .ref a0_tried, .ref a0_images, .ref a0_kept, .ref a0_refused, .long a0_above, .long a0_below, .ref a0_line, .ref a0_best, .int a0_at, .int a0_start, .int a0_isWell, .int a0_faultAt])), (a0_refused, aI E 3 fa0_refused), (a0_town, aI E 682 fa0_town)] (some (.int z_0)) [(a0, .inr (5, [.ref a0_text, .int a0_letters, .ref a0_town, .ref a0_draft, .ref a0_tried, .ref a0_images, .ref a0_kept, .ref a0_refused, .long z_2, .long z_3, .ref a0_line, .ref a0_best, .int a0_at, .int a0_start, .int a0_isWell, .int a0_faultAt])), (a0_refused, aI E 3 z_1), (a0_town, aI E 682 fa0_town)] := by
  refine MW.of (by decide +kernel) (Nat.le_of_ble_eq_true rfl) ?_
  intro p e s m below meth c ls A hX hK hP hD hS hA hl
  have hX : CX p s m [.ref a0, .int p1, .int p2, .int p3].toArray meth c cX8_chance 14 (some .int) RX8 := hX
  have hx := hX.1; have hb := hX.2.1; have hts := hX.2.2.2.2.1; have hown := hX.2.2.2.2.2.1
  have hl : lv_has ls 14 [(0, .ref a0), (1, .int p1), (2, .int p2), (3, .int p3)] := hl
  have hP : wP E [(a0, .inr (5, [.ref a0_text, .int a0_letters, .ref a0_town, .ref a0_draft, .ref a0_tried, .ref a0_images, .ref a0_kept, .ref a0_refused, .long a0_above, .long a0_below, .ref a0_line, .ref a0_best, .int a0_at, .int a0_start, .int a0_isWell, .int a0_faultAt])), (a0_refused, aI E 3 fa0_refused), (a0_town, aI E 682 fa0_town)] s.heap := hP
  have hsp : (if (sp_X8_in p1 (1 : Int32) (9 : Int32)) = 0 then (lt_ (sp_X8_bad fa0_refused) fun z2 => some (z2.1, z2.2, a0_above, a0_below)) else (if (sp_X8_in p2 (0 : Int32) (8 : Int32)) = 0 then (lt_ (sp_X8_bad fa0_refused) fun z4 => some (z4.1, z4.2, a0_above, a0_below)) else (if (sp_X8_in p3 (0 : Int32) (10 : Int32)) = 0 then (lt_ (sp_X8_bad fa0_refused) fun z27 => some (z27.1, z27.2, a0_above, a0_below)) else (Option.bind (lp_X8_chance_44 p2 FU (1 : Int64) (0 : Int32)) fun z6 => Option.bind (lp_X8_chance_67 p1 p2 p3 fa0_town FU (0 : Int64) (0 : Int32)) fun z8 => Option.bind (lp_X8_chance_209 FU z8.1 z6.1) fun z22 => gd (¬ z22.1 = 0) (gd (¬ z22.1 = 0) (some ((1 : Int32), fa0_refused, (z8.1 / z22.1), (z6.1 / z22.1)))))))) = some (z_0, z_1, z_2, z_3) := hsp
  refine lv_iload_n hx hb dX8_chance_0 rfl (lv_at hl 1 rfl) (W.pc 1 rfl ?_)
  refine lv_iconst (v := (1 : Int32)) hx hb dX8_chance_1 (by decide) (W.pc 2 rfl ?_)
  refine lv_bipush (v := (9 : Int32)) hx hb dX8_chance_2 (by decide) (W.pc 4 rfl ?_)
  refine kSR (st1 := [.int (sp_X8_in p1 (1 : Int32) (9 : Int32))]) hX (c_X8_in l E p1 (1 : Int32) (9 : Int32) _ rfl) B_X8_in w_4_125 hK (hP.pick [] rfl) rfl hl.1 rfl (Nat.le_of_ble_eq_true rfl) ⟨Nat.le_of_ble_eq_true rfl, Nat.le_of_ble_eq_true rfl⟩ dX8_chance_4 rfl (W.pc 7 rfl ?_)
  refine lv_if_eq (tgt := 30) hx hb dX8_chance_7 (by decide) (fun c1 => ?_) (fun c1 => W.pc 10 rfl ?_)
  · have hsp := ip hsp c1
    refine lv_aload_n hx hb dX8_chance_30 rfl (lv_at hl 0 rfl) (W.pc 31 rfl ?_)
    obtain ⟨z2, hr_z2, hsp⟩ := ltb_s hsp
    refine kVW (st1 := [.int z2.1]) (ws' := [(a0, .inr (5, [.ref a0_text, .int a0_letters, .ref a0_town, .ref a0_draft, .ref a0_tried, .ref a0_images, .ref a0_kept, .ref a0_refused, .long a0_above, .long a0_below, .ref a0_line, .ref a0_best, .int a0_at, .int a0_start, .int a0_isWell, .int a0_faultAt])), (a0_refused, aI E 3 z2.2), (a0_town, aI E 682 fa0_town)]) [0, 1] hX (c_X8_bad l E a0 a0_text a0_town a0_draft a0_tried a0_images a0_kept a0_refused a0_line a0_best a0_letters a0_above a0_below a0_at a0_start a0_isWell a0_faultAt fa0_refused z2.1 z2.2 hr_z2) B_X8_bad w_4_128 hK hP hD hS hA (by decide) rfl rfl rfl (q0 := 0) (ci := 5) rfl rfl rfl rfl hl.1 rfl (Nat.le_of_ble_eq_true rfl) ⟨Nat.le_of_ble_eq_true rfl, Nat.le_of_ble_eq_true rfl⟩ dX8_chance_31 rfl (fun H locs hP hD hS => W.pc 34 rfl ?_)
    cases hsp
    exact rWi hX hP hS rfl rfl dX8_chance_34
  · have hsp := iq hsp c1
    refine lv_iload_n hx hb dX8_chance_10 rfl (lv_at hl 2 rfl) (W.pc 11 rfl ?_)
    refine lv_iconst (v := (0 : Int32)) hx hb dX8_chance_11 (by decide) (W.pc 12 rfl ?_)
    refine lv_bipush (v := (8 : Int32)) hx hb dX8_chance_12 (by decide) (W.pc 14 rfl ?_)
    refine kSR (st1 := [.int (sp_X8_in p2 (0 : Int32) (8 : Int32))]) hX (c_X8_in l E p2 (0 : Int32) (8 : Int32) _ rfl) B_X8_in w_4_125 hK (hP.pick [] rfl) rfl hl.1 rfl (Nat.le_of_ble_eq_true rfl) ⟨Nat.le_of_ble_eq_true rfl, Nat.le_of_ble_eq_true rfl⟩ dX8_chance_14 rfl (W.pc 17 rfl ?_)
    refine lv_if_eq (tgt := 30) hx hb dX8_chance_17 (by decide) (fun c3 => ?_) (fun c3 => W.pc 20 rfl ?_)
    · have hsp := ip hsp c3
      refine lv_aload_n hx hb dX8_chance_30 rfl (lv_at hl 0 rfl) (W.pc 31 rfl ?_)
      obtain ⟨z4, hr_z4, hsp⟩ := ltb_s hsp
      refine kVW (st1 := [.int z4.1]) (ws' := [(a0, .inr (5, [.ref a0_text, .int a0_letters, .ref a0_town, .ref a0_draft, .ref a0_tried, .ref a0_images, .ref a0_kept, .ref a0_refused, .long a0_above, .long a0_below, .ref a0_line, .ref a0_best, .int a0_at, .int a0_start, .int a0_isWell, .int a0_faultAt])), (a0_refused, aI E 3 z4.2), (a0_town, aI E 682 fa0_town)]) [0, 1] hX (c_X8_bad l E a0 a0_text a0_town a0_draft a0_tried a0_images a0_kept a0_refused a0_line a0_best a0_letters a0_above a0_below a0_at a0_start a0_isWell a0_faultAt fa0_refused z4.1 z4.2 hr_z4) B_X8_bad w_4_128 hK hP hD hS hA (by decide) rfl rfl rfl (q0 := 0) (ci := 5) rfl rfl rfl rfl hl.1 rfl (Nat.le_of_ble_eq_true rfl) ⟨Nat.le_of_ble_eq_true rfl, Nat.le_of_ble_eq_true rfl⟩ dX8_chance_31 rfl (fun H locs hP hD hS => W.pc 34 rfl ?_)
      cases hsp
      exact rWi hX hP hS rfl rfl dX8_chance_34
    · have hsp := iq hsp c3
      refine lv_iload_n hx hb dX8_chance_20 rfl (lv_at hl 3 rfl) (W.pc 21 rfl ?_)
      refine lv_iconst (v := (0 : Int32)) hx hb dX8_chance_21 (by decide) (W.pc 22 rfl ?_)
      refine lv_bipush (v := (10 : Int32)) hx hb dX8_chance_22 (by decide) (W.pc 24 rfl ?_)
      refine kSR (st1 := [.int (sp_X8_in p3 (0 : Int32) (10 : Int32))]) hX (c_X8_in l E p3 (0 : Int32) (10 : Int32) _ rfl) B_X8_in w_4_125 hK (hP.pick [] rfl) rfl hl.1 rfl (Nat.le_of_ble_eq_true rfl) ⟨Nat.le_of_ble_eq_true rfl, Nat.le_of_ble_eq_true rfl⟩ dX8_chance_24 rfl (W.pc 27 rfl ?_)
      refine lv_if_ne (tgt := 35) hx hb dX8_chance_27 (by decide) (fun c5 => ?_) (fun c5 => W.pc 30 rfl ?_)
      · have hsp := iq hsp c5
        refine lv_lconst (v := 0) hx hb dX8_chance_35 (by decide) (W.pc 36 rfl ?_)
        refine lv_lstore (lv' := [(4, .long (0 : Int64)), (0, .ref a0), (1, .int p1), (2, .int p2), (3, .int p3)]) hx hb dX8_chance_36 hl (by decide) rfl (fun ls hl => W.pc 38 rfl ?_)
        refine lv_lconst (v := 1) hx hb dX8_chance_38 (by decide) (W.pc 39 rfl ?_)
        refine lv_lstore (lv' := [(6, .long (1 : Int64)), (4, .long (0 : Int64)), (0, .ref a0), (1, .int p1), (2, .int p2), (3, .int p3)]) hx hb dX8_chance_39 hl (by decide) rfl (fun ls hl => W.pc 41 rfl ?_)
        refine lv_iconst (v := (0 : Int32)) hx hb dX8_chance_41 (by decide) (W.pc 42 rfl ?_)
        refine lv_istore (lv' := [(8, .int (0 : Int32)), (6, .long (1 : Int64)), (4, .long (0 : Int64)), (0, .ref a0), (1, .int p1), (2, .int p2), (3, .int p3)]) hx hb dX8_chance_42 hl (by decide) rfl (fun ls hl => W.pc 44 rfl ?_)
        have L_44 : ∀ (z6 : Int64 × Int32), (∀ (H : Heap) (locs : List Loc) (ls : Array Slot), wP E [(a0, .inr (5, [.ref a0_text, .int a0_letters, .ref a0_town, .ref a0_draft, .ref a0_tried, .ref a0_images, .ref a0_kept, .ref a0_refused, .long a0_above, .long a0_below, .ref a0_line, .ref a0_best, .int a0_at, .int a0_start, .int a0_isWell, .int a0_faultAt])), (a0_refused, aI E 3 fa0_refused), (a0_town, aI E 682 fa0_town)] H → va_D A [(a0, .inr (5, [.ref a0_text, .int a0_letters, .ref a0_town, .ref a0_draft, .ref a0_tried, .ref a0_images, .ref a0_kept, .ref a0_refused, .long a0_above, .long a0_below, .ref a0_line, .ref a0_best, .int a0_at, .int a0_start, .int a0_isWell, .int a0_faultAt])), (a0_refused, aI E 3 fa0_refused), (a0_town, aI E 682 fa0_town)] → va_S A s.heap H locs → lv_has ls 14 [(0, .ref a0), (1, .int p1), (2, .int p2), (3, .int p3), (4, .long (0 : Int64)), (6, .long z6.1)] → W p l e (wR 2) s m [.ref a0, .int p1, .int p2, .int p3].toArray below meth c H locs 0 0 (MQ below (QWd E A (some (.int z_0)) [(a0, .inr (5, [.ref a0_text, .int a0_letters, .ref a0_town, .ref a0_draft, .ref a0_tried, .ref a0_images, .ref a0_kept, .ref a0_refused, .long z_2, .long z_3, .ref a0_line, .ref a0_best, .int a0_at, .int a0_start, .int a0_isWell, .int a0_faultAt])), (a0_refused, aI E 3 z_1), (a0_town, aI E 682 fa0_town)]) [.ref a0, .int p1, .int p2, .int p3].toArray s 0 0 A) (F0 m 64 ls [])) → ∀ (fu : Nat) (x6_44 : Int64) (x8_44 : Int32), ∀ (H : Heap) (locs : List Loc) (ls : Array Slot), wP E [(a0, .inr (5, [.ref a0_text, .int a0_letters, .ref a0_town, .ref a0_draft, .ref a0_tried, .ref a0_images, .ref a0_kept, .ref a0_refused, .long a0_above, .long a0_below, .ref a0_line, .ref a0_best, .int a0_at, .int a0_start, .int a0_isWell, .int a0_faultAt])), (a0_refused, aI E 3 fa0_refused), (a0_town, aI E 682 fa0_town)] H → va_D A [(a0, .inr (5, [.ref a0_text, .int a0_letters, .ref a0_town, .ref a0_draft, .ref a0_tried, .ref a0_images, .ref a0_kept, .ref a0_refused, .long a0_above, .long a0_below, .ref a0_line, .ref a0_best, .int a0_at, .int a0_start, .int a0_isWell, .int a0_faultAt])), (a0_refused, aI E 3 fa0_refused), (a0_town, aI E 682 fa0_town)] → va_S A s.heap H locs → lv_has ls 14 [(0, .ref a0), (1, .int p1), (2, .int p2), (3, .int p3), (4, .long (0 : Int64)), (6, .long x6_44), (8, .int x8_44)] → lp_X8_chance_44 p2 fu x6_44 x8_44 = some z6 → W p l e (wR 2) s m [.ref a0, .int p1, .int p2, .int p3].toArray below meth c H locs 0 0 (MQ below (QWd E A (some (.int z_0)) [(a0, .inr (5, [.ref a0_text, .int a0_letters, .ref a0_town, .ref a0_draft, .ref a0_tried, .ref a0_images, .ref a0_kept, .ref a0_refused, .long z_2, .long z_3, .ref a0_line, .ref a0_best, .int a0_at, .int a0_start, .int a0_isWell, .int a0_faultAt])), (a0_refused, aI E 3 z_1), (a0_town, aI E 682 fa0_town)]) [.ref a0, .int p1, .int p2, .int p3].toArray s 0 0 A) (F0 m 44 ls []) := by
          intro z6 hk_44 fu
          induction fu with
          | zero => intro x6_44 x8_44 H locs ls hP hD hS hl hsp; exact absurd (show none = some _ from hsp) (by simp)
          | succ fu ih_44 =>
            intro x6_44 x8_44 H locs ls hP hD hS hl hsp
            have hsp : (if p2 ≤ x8_44 then (some (x6_44, x8_44)) else (lp_X8_chance_44 p2 fu (x6_44 * (10 : Int64)) (x8_44 + (1 : Int32)))) = some z6 := hsp
            refine lv_iload hx hb dX8_chance_44 (lv_at hl 6 rfl) (W.pc 46 rfl ?_)
            refine lv_iload_n hx hb dX8_chance_46 rfl (lv_at hl 2 rfl) (W.pc 47 rfl ?_)
            refine lv_icmp_ge (tgt := 64) hx hb dX8_chance_47 (by decide) (fun c7 => ?_) (fun c7 => W.pc 50 rfl ?_)
            · have hsp := ip hsp c7
              obtain rfl := Option.some.inj hsp
              exact hk_44 _ _ _ hP hD hS (lv_sub hl [0, 1, 2, 3, 4, 5] rfl)
            · have hsp := iq hsp c7
              refine lv_lload hx hb dX8_chance_50 (lv_at hl 5 rfl) (W.pc 52 rfl ?_)
              refine lv_ldc2 (v := (10 : Int64)) hx hb hown (hts _ w_5_178) dX8_chance_52 (W.pc 55 rfl ?_)
              refine lv_lmul hx hb dX8_chance_55 (W.pc 56 rfl ?_)
              refine lv_lstore (lv' := [(6, .long (x6_44 * (10 : Int64))), (0, .ref a0), (1, .int p1), (2, .int p2), (3, .int p3), (4, .long (0 : Int64)), (8, .int x8_44)]) hx hb dX8_chance_56 hl (by decide) rfl (fun ls hl => W.pc 58 rfl ?_)
              refine lv_iinc (v := (x8_44 + (1 : Int32))) (lv' := [(8, .int (x8_44 + (1 : Int32))), (6, .long (x6_44 * (10 : Int64))), (0, .ref a0), (1, .int p1), (2, .int p2), (3, .int p3), (4, .long (0 : Int64))]) hx hb dX8_chance_58 hl (k := 6) rfl rfl (by decide) rfl (fun ls hl => W.pc 61 rfl ?_)
              refine lv_goto (tgt := 44) hx hb dX8_chance_61 (by decide) ?_
              exact ih_44 (x6_44 * (10 : Int64)) (x8_44 + (1 : Int32)) _ _ _ hP hD hS (lv_sub hl [2, 3, 4, 5, 6, 1, 0] rfl) hsp
        obtain ⟨z6, hr_z6, hsp⟩ := bd_s hsp
        refine L_44 z6 (fun H locs ls hP hD hS hl => ?_) FU (1 : Int64) (0 : Int32) _ _ _ hP hD hS (lv_sub hl [3, 4, 5, 6, 2, 1, 0] rfl) hr_z6
        refine lv_iconst (v := (0 : Int32)) hx hb dX8_chance_64 (by decide) (W.pc 65 rfl ?_)
        refine lv_istore (lv' := [(8, .int (0 : Int32)), (0, .ref a0), (1, .int p1), (2, .int p2), (3, .int p3), (4, .long (0 : Int64)), (6, .long z6.1)]) hx hb dX8_chance_65 hl (by decide) rfl (fun ls hl => W.pc 67 rfl ?_)
        have L_67 : ∀ (z8 : Int64 × Int32), (∀ (H : Heap) (locs : List Loc) (ls : Array Slot), wP E [(a0, .inr (5, [.ref a0_text, .int a0_letters, .ref a0_town, .ref a0_draft, .ref a0_tried, .ref a0_images, .ref a0_kept, .ref a0_refused, .long a0_above, .long a0_below, .ref a0_line, .ref a0_best, .int a0_at, .int a0_start, .int a0_isWell, .int a0_faultAt])), (a0_refused, aI E 3 fa0_refused), (a0_town, aI E 682 fa0_town)] H → va_D A [(a0, .inr (5, [.ref a0_text, .int a0_letters, .ref a0_town, .ref a0_draft, .ref a0_tried, .ref a0_images, .ref a0_kept, .ref a0_refused, .long a0_above, .long a0_below, .ref a0_line, .ref a0_best, .int a0_at, .int a0_start, .int a0_isWell, .int a0_faultAt])), (a0_refused, aI E 3 fa0_refused), (a0_town, aI E 682 fa0_town)] → va_S A s.heap H locs → lv_has ls 14 [(0, .ref a0), (4, .long z8.1), (6, .long z6.1)] → W p l e (wR 2) s m [.ref a0, .int p1, .int p2, .int p3].toArray below meth c H locs 0 0 (MQ below (QWd E A (some (.int z_0)) [(a0, .inr (5, [.ref a0_text, .int a0_letters, .ref a0_town, .ref a0_draft, .ref a0_tried, .ref a0_images, .ref a0_kept, .ref a0_refused, .long z_2, .long z_3, .ref a0_line, .ref a0_best, .int a0_at, .int a0_start, .int a0_isWell, .int a0_faultAt])), (a0_refused, aI E 3 z_1), (a0_town, aI E 682 fa0_town)]) [.ref a0, .int p1, .int p2, .int p3].toArray s 0 0 A) (F0 m 201 ls [])) → ∀ (fu : Nat) (x4_67 : Int64) (x8_67 : Int32), ∀ (H : Heap) (locs : List Loc) (ls : Array Slot), wP E [(a0, .inr (5, [.ref a0_text, .int a0_letters, .ref a0_town, .ref a0_draft, .ref a0_tried, .ref a0_images, .ref a0_kept, .ref a0_refused, .long a0_above, .long a0_below, .ref a0_line, .ref a0_best, .int a0_at, .int a0_start, .int a0_isWell, .int a0_faultAt])), (a0_refused, aI E 3 fa0_refused), (a0_town, aI E 682 fa0_town)] H → va_D A [(a0, .inr (5, [.ref a0_text, .int a0_letters, .ref a0_town, .ref a0_draft, .ref a0_tried, .ref a0_images, .ref a0_kept, .ref a0_refused, .long a0_above, .long a0_below, .ref a0_line, .ref a0_best, .int a0_at, .int a0_start, .int a0_isWell, .int a0_faultAt])), (a0_refused, aI E 3 fa0_refused), (a0_town, aI E 682 fa0_town)] → va_S A s.heap H locs → lv_has ls 14 [(0, .ref a0), (1, .int p1), (2, .int p2), (3, .int p3), (4, .long x4_67), (6, .long z6.1), (8, .int x8_67)] → lp_X8_chance_67 p1 p2 p3 fa0_town fu x4_67 x8_67 = some z8 → W p l e (wR 2) s m [.ref a0, .int p1, .int p2, .int p3].toArray below meth c H locs 0 0 (MQ below (QWd E A (some (.int z_0)) [(a0, .inr (5, [.ref a0_text, .int a0_letters, .ref a0_town, .ref a0_draft, .ref a0_tried, .ref a0_images, .ref a0_kept, .ref a0_refused, .long z_2, .long z_3, .ref a0_line, .ref a0_best, .int a0_at, .int a0_start, .int a0_isWell, .int a0_faultAt])), (a0_refused, aI E 3 z_1), (a0_town, aI E 682 fa0_town)]) [.ref a0, .int p1, .int p2, .int p3].toArray s 0 0 A) (F0 m 67 ls []) := by
          intro z8 hk_67 fu
          induction fu with
          | zero => intro x4_67 x8_67 H locs ls hP hD hS hl hsp; exact absurd (show none = some _ from hsp) (by simp)
          | succ fu ih_67 =>
            intro x4_67 x8_67 H locs ls hP hD hS hl hsp
            have hsp : (if ((1 : Int32) <<< (p2 &&& 31)) ≤ x8_67 then (some (x4_67, x8_67)) else (Option.bind (lp_X8_chance_89 p2 p3 fa0_town x8_67 FU (1 : Int64) (fa0_town ((1 : Int32)).toNatClampNeg) (0 : Int32)) fun z10 => lt_ (if (sp_X8_size z10.2.1) < p1 then ((0 : Int64)) else (z10.1)) fun z19 => lp_X8_chance_67 p1 p2 p3 fa0_town fu (x4_67 + z19) (x8_67 + (1 : Int32)))) = some z8 := hsp
            refine lv_iload hx hb dX8_chance_67 (lv_at hl 6 rfl) (W.pc 69 rfl ?_)
            refine lv_iconst (v := (1 : Int32)) hx hb dX8_chance_69 (by decide) (W.pc 70 rfl ?_)
            refine lv_iload_n hx hb dX8_chance_70 rfl (lv_at hl 2 rfl) (W.pc 71 rfl ?_)
            refine lv_ishl hx hb dX8_chance_71 (W.pc 72 rfl ?_)
            refine lv_icmp_ge (tgt := 201) hx hb dX8_chance_72 (by decide) (fun c9 => ?_) (fun c9 => W.pc 75 rfl ?_)
            · have hsp := ip hsp c9
              obtain rfl := Option.some.inj hsp
              exact hk_67 _ _ _ hP hD hS (lv_sub hl [0, 4, 5] rfl)
            · have hsp := iq hsp c9
              refine lv_lconst (v := 1) hx hb dX8_chance_75 (by decide) (W.pc 76 rfl ?_)
              refine lv_lstore (lv' := [(9, .long (1 : Int64)), (0, .ref a0), (1, .int p1), (2, .int p2), (3, .int p3), (4, .long x4_67), (6, .long z6.1), (8, .int x8_67)]) hx hb dX8_chance_76 hl (by decide) rfl (fun ls hl => W.pc 78 rfl ?_)
              refine lv_aload_n hx hb dX8_chance_78 rfl (lv_at hl 1 rfl) (W.pc 79 rfl ?_)
              refine va_get (D := E.1) (ci := 5) (v := .ref a0_town) (C := RX8) (T := TX8) (N := 16) hx hb hts inT_X8 hown hK hP 0 rfl rfl 2 (by decide) (hts _ w_4_70) (fun _ h9 => h9) rfl dX8_chance_79 (W.pc 82 rfl ?_)
              refine lv_iconst (v := (1 : Int32)) hx hb dX8_chance_82 (by decide) (W.pc 83 rfl ?_)
              refine va_iald hx hb hK hP 2 0 rfl rfl (vp_in_nI (n := 1) (N := 682) (by decide) (by decide)) dX8_chance_83 (W.pc 84 rfl ?_)
              refine lv_istore (lv' := [(11, .int (fa0_town ((1 : Int32)).toNatClampNeg)), (9, .long (1 : Int64)), (0, .ref a0), (1, .int p1), (2, .int p2), (3, .int p3), (4, .long x4_67), (6, .long z6.1), (8, .int x8_67)]) hx hb dX8_chance_84 hl (by decide) rfl (fun ls hl => W.pc 86 rfl ?_)
              refine lv_iconst (v := (0 : Int32)) hx hb dX8_chance_86 (by decide) (W.pc 87 rfl ?_)
              refine lv_istore (lv' := [(12, .int (0 : Int32)), (11, .int (fa0_town ((1 : Int32)).toNatClampNeg)), (9, .long (1 : Int64)), (0, .ref a0), (1, .int p1), (2, .int p2), (3, .int p3), (4, .long x4_67), (6, .long z6.1), (8, .int x8_67)]) hx hb dX8_chance_87 hl (by decide) rfl (fun ls hl => W.pc 89 rfl ?_)
              have L_89 : ∀ (z10 : Int64 × Int32 × Int32), (∀ (H : Heap) (locs : List Loc) (ls : Array Slot), wP E [(a0, .inr (5, [.ref a0_text, .int a0_letters, .ref a0_town, .ref a0_draft, .ref a0_tried, .ref a0_images, .ref a0_kept, .ref a0_refused, .long a0_above, .long a0_below, .ref a0_line, .ref a0_best, .int a0_at, .int a0_start, .int a0_isWell, .int a0_faultAt])), (a0_refused, aI E 3 fa0_refused), (a0_town, aI E 682 fa0_town)] H → va_D A [(a0, .inr (5, [.ref a0_text, .int a0_letters, .ref a0_town, .ref a0_draft, .ref a0_tried, .ref a0_images, .ref a0_kept, .ref a0_refused, .long a0_above, .long a0_below, .ref a0_line, .ref a0_best, .int a0_at, .int a0_start, .int a0_isWell, .int a0_faultAt])), (a0_refused, aI E 3 fa0_refused), (a0_town, aI E 682 fa0_town)] → va_S A s.heap H locs → lv_has ls 14 [(0, .ref a0), (1, .int p1), (2, .int p2), (3, .int p3), (4, .long x4_67), (6, .long z6.1), (8, .int x8_67), (9, .long z10.1), (11, .int z10.2.1)] → W p l e (wR 2) s m [.ref a0, .int p1, .int p2, .int p3].toArray below meth c H locs 0 0 (MQ below (QWd E A (some (.int z_0)) [(a0, .inr (5, [.ref a0_text, .int a0_letters, .ref a0_town, .ref a0_draft, .ref a0_tried, .ref a0_images, .ref a0_kept, .ref a0_refused, .long z_2, .long z_3, .ref a0_line, .ref a0_best, .int a0_at, .int a0_start, .int a0_isWell, .int a0_faultAt])), (a0_refused, aI E 3 z_1), (a0_town, aI E 682 fa0_town)]) [.ref a0, .int p1, .int p2, .int p3].toArray s 0 0 A) (F0 m 175 ls [])) → ∀ (fu : Nat) (x9_89 : Int64) (x11_89 : Int32) (x12_89 : Int32), ∀ (H : Heap) (locs : List Loc) (ls : Array Slot), wP E [(a0, .inr (5, [.ref a0_text, .int a0_letters, .ref a0_town, .ref a0_draft, .ref a0_tried, .ref a0_images, .ref a0_kept, .ref a0_refused, .long a0_above, .long a0_below, .ref a0_line, .ref a0_best, .int a0_at, .int a0_start, .int a0_isWell, .int a0_faultAt])), (a0_refused, aI E 3 fa0_refused), (a0_town, aI E 682 fa0_town)] H → va_D A [(a0, .inr (5, [.ref a0_text, .int a0_letters, .ref a0_town, .ref a0_draft, .ref a0_tried, .ref a0_images, .ref a0_kept, .ref a0_refused, .long a0_above, .long a0_below, .ref a0_line, .ref a0_best, .int a0_at, .int a0_start, .int a0_isWell, .int a0_faultAt])), (a0_refused, aI E 3 fa0_refused), (a0_town, aI E 682 fa0_town)] → va_S A s.heap H locs → lv_has ls 14 [(0, .ref a0), (1, .int p1), (2, .int p2), (3, .int p3), (4, .long x4_67), (6, .long z6.1), (8, .int x8_67), (9, .long x9_89), (11, .int x11_89), (12, .int x12_89)] → lp_X8_chance_89 p2 p3 fa0_town x8_67 fu x9_89 x11_89 x12_89 = some z10 → W p l e (wR 2) s m [.ref a0, .int p1, .int p2, .int p3].toArray below meth c H locs 0 0 (MQ below (QWd E A (some (.int z_0)) [(a0, .inr (5, [.ref a0_text, .int a0_letters, .ref a0_town, .ref a0_draft, .ref a0_tried, .ref a0_images, .ref a0_kept, .ref a0_refused, .long z_2, .long z_3, .ref a0_line, .ref a0_best, .int a0_at, .int a0_start, .int a0_isWell, .int a0_faultAt])), (a0_refused, aI E 3 z_1), (a0_town, aI E 682 fa0_town)]) [.ref a0, .int p1, .int p2, .int p3].toArray s 0 0 A) (F0 m 89 ls []) := by
                intro z10 hk_89 fu
                induction fu with
                | zero => intro x9_89 x11_89 x12_89 H locs ls hP hD hS hl hsp; exact absurd (show none = some _ from hsp) (by simp)
                | succ fu ih_89 =>
                  intro x9_89 x11_89 x12_89 H locs ls hP hD hS hl hsp
                  have hsp : (if p2 ≤ x12_89 then (some (x9_89, x11_89, x12_89)) else (lt_ (if (sp_X8_has x8_67 x12_89) = 0 then ((((10 : Int32) - p3)).toInt64) else ((p3).toInt64)) fun z12 => Option.bind (if (sp_X8_has x8_67 x12_89) = 0 then (Option.bind (sp_X8_pullIn ((fa0_town ((2 : Int32)).toNatClampNeg) + x12_89) fa0_town) fun z18 => some z18) else (some (0 : Int32))) fun z15 => lp_X8_chance_89 p2 p3 fa0_town x8_67 fu (x9_89 * z12) (sp_X8_behind (fa0_town ((0 : Int32)).toNatClampNeg) x11_89 z15 ((fa0_town ((2 : Int32)).toNatClampNeg) + x12_89)) (x12_89 + (1 : Int32)))) = some z10 := hsp
                  refine lv_iload hx hb dX8_chance_89 (lv_at hl 9 rfl) (W.pc 91 rfl ?_)
                  refine lv_iload_n hx hb dX8_chance_91 rfl (lv_at hl 2 rfl) (W.pc 92 rfl ?_)
                  refine lv_icmp_ge (tgt := 175) hx hb dX8_chance_92 (by decide) (fun c11 => ?_) (fun c11 => W.pc 95 rfl ?_)
                  · have hsp := ip hsp c11
                    obtain rfl := Option.some.inj hsp
                    exact hk_89 _ _ _ hP hD hS (lv_sub hl [0, 1, 2, 3, 4, 5, 6, 7, 8] rfl)
                  · have hsp := iq hsp c11
                    refine lv_aload_n hx hb dX8_chance_95 rfl (lv_at hl 0 rfl) (W.pc 96 rfl ?_)
                    refine va_get (D := E.1) (ci := 5) (v := .ref a0_town) (C := RX8) (T := TX8) (N := 16) hx hb hts inT_X8 hown hK hP 0 rfl rfl 2 (by decide) (hts _ w_4_70) (fun _ h9 => h9) rfl dX8_chance_96 (W.pc 99 rfl ?_)
                    refine lv_iconst (v := (2 : Int32)) hx hb dX8_chance_99 (by decide) (W.pc 100 rfl ?_)
                    refine va_iald hx hb hK hP 2 0 rfl rfl (vp_in_nI (n := 2) (N := 682) (by decide) (by decide)) dX8_chance_100 (W.pc 101 rfl ?_)
                    refine lv_iload hx hb dX8_chance_101 (lv_at hl 9 rfl) (W.pc 103 rfl ?_)
                    refine lv_iadd hx hb dX8_chance_103 (W.pc 104 rfl ?_)
                    refine lv_istore (lv' := [(13, .int ((fa0_town ((2 : Int32)).toNatClampNeg) + x12_89)), (0, .ref a0), (1, .int p1), (2, .int p2), (3, .int p3), (4, .long x4_67), (6, .long z6.1), (8, .int x8_67), (9, .long x9_89), (11, .int x11_89), (12, .int x12_89)]) hx hb dX8_chance_104 hl (by decide) rfl (fun ls hl => W.pc 106 rfl ?_)
                    refine lv_lload hx hb dX8_chance_106 (lv_at hl 8 rfl) (W.pc 108 rfl ?_)
                    refine lv_iload hx hb dX8_chance_108 (lv_at hl 7 rfl) (W.pc 110 rfl ?_)
                    refine lv_iload hx hb dX8_chance_110 (lv_at hl 10 rfl) (W.pc 112 rfl ?_)
                    refine kSR (st1 := [.int (sp_X8_has x8_67 x12_89), .long x9_89]) hX (c_X8_has l E x8_67 x12_89 _ rfl) B_X8_has w_5_151 hK (hP.pick [] rfl) rfl hl.1 rfl (Nat.le_of_ble_eq_true rfl) ⟨Nat.le_of_ble_eq_true rfl, Nat.le_of_ble_eq_true rfl⟩ dX8_chance_112 rfl (W.pc 115 rfl ?_)
                    obtain ⟨z12, hr_z12, hsp⟩ := ltb_s hsp
                    have J13 : ∀ (H : Heap) (locs : List Loc) (ls : Array Slot), wP E [(a0, .inr (5, [.ref a0_text, .int a0_letters, .ref a0_town, .ref a0_draft, .ref a0_tried, .ref a0_images, .ref a0_kept, .ref a0_refused, .long a0_above, .long a0_below, .ref a0_line, .ref a0_best, .int a0_at, .int a0_start, .int a0_isWell, .int a0_faultAt])), (a0_refused, aI E 3 fa0_refused), (a0_town, aI E 682 fa0_town)] H → va_D A [(a0, .inr (5, [.ref a0_text, .int a0_letters, .ref a0_town, .ref a0_draft, .ref a0_tried, .ref a0_images, .ref a0_kept, .ref a0_refused, .long a0_above, .long a0_below, .ref a0_line, .ref a0_best, .int a0_at, .int a0_start, .int a0_isWell, .int a0_faultAt])), (a0_refused, aI E 3 fa0_refused), (a0_town, aI E 682 fa0_town)] → va_S A s.heap H locs → lv_has ls 14 [(0, .ref a0), (1, .int p1), (2, .int p2), (3, .int p3), (4, .long x4_67), (6, .long z6.1), (8, .int x8_67), (11, .int x11_89), (12, .int x12_89), (13, .int ((fa0_town ((2 : Int32)).toNatClampNeg) + x12_89))] → W p l e (wR 2) s m [.ref a0, .int p1, .int p2, .int p3].toArray below meth c H locs 0 0 (MQ below (QWd E A (some (.int z_0)) [(a0, .inr (5, [.ref a0_text, .int a0_letters, .ref a0_town, .ref a0_draft, .ref a0_tried, .ref a0_images, .ref a0_kept, .ref a0_refused, .long z_2, .long z_3, .ref a0_line, .ref a0_best, .int a0_at, .int a0_start, .int a0_isWell, .int a0_faultAt])), (a0_refused, aI E 3 z_1), (a0_town, aI E 682 fa0_town)]) [.ref a0, .int p1, .int p2, .int p3].toArray s 0 0 A) (F0 m 128 ls [.long z12, .long x9_89]) := by
                      intro H locs ls hP hD hS hl
                      refine lv_lmul hx hb dX8_chance_128 (W.pc 129 rfl ?_)
                      refine lv_lstore (lv' := [(9, .long (x9_89 * z12)), (0, .ref a0), (1, .int p1), (2, .int p2), (3, .int p3), (4, .long x4_67), (6, .long z6.1), (8, .int x8_67), (11, .int x11_89), (12, .int x12_89), (13, .int ((fa0_town ((2 : Int32)).toNatClampNeg) + x12_89))]) hx hb dX8_chance_129 hl (by decide) rfl (fun ls hl => W.pc 131 rfl ?_)
                      refine lv_aload_n hx hb dX8_chance_131 rfl (lv_at hl 1 rfl) (W.pc 132 rfl ?_)
                      refine va_get (D := E.1) (ci := 5) (v := .ref a0_town) (C := RX8) (T := TX8) (N := 16) hx hb hts inT_X8 hown hK hP 0 rfl rfl 2 (by decide) (hts _ w_4_70) (fun _ h9 => h9) rfl dX8_chance_132 (W.pc 135 rfl ?_)
                      refine lv_iconst (v := (0 : Int32)) hx hb dX8_chance_135 (by decide) (W.pc 136 rfl ?_)
                      refine va_iald hx hb hK hP 2 0 rfl rfl (vp_in_nI (n := 0) (N := 682) (by decide) (by decide)) dX8_chance_136 (W.pc 137 rfl ?_)
                      refine lv_iload hx hb dX8_chance_137 (lv_at hl 8 rfl) (W.pc 139 rfl ?_)
                      refine lv_iload hx hb dX8_chance_139 (lv_at hl 7 rfl) (W.pc 141 rfl ?_)
                      refine lv_iload hx hb dX8_chance_141 (lv_at hl 9 rfl) (W.pc 143 rfl ?_)
                      refine kSR (st1 := [.int (sp_X8_has x8_67 x12_89), .int x11_89, .int (fa0_town ((0 : Int32)).toNatClampNeg)]) hX (c_X8_has l E x8_67 x12_89 _ rfl) B_X8_has w_5_151 hK (hP.pick [] rfl) rfl hl.1 rfl (Nat.le_of_ble_eq_true rfl) ⟨Nat.le_of_ble_eq_true rfl, Nat.le_of_ble_eq_true rfl⟩ dX8_chance_143 rfl (W.pc 146 rfl ?_)
                      obtain ⟨z15, hr_z15, hsp⟩ := bd_s hsp
                      have J16 : ∀ (H : Heap) (locs : List Loc) (ls : Array Slot), wP E [(a0, .inr (5, [.ref a0_text, .int a0_letters, .ref a0_town, .ref a0_draft, .ref a0_tried, .ref a0_images, .ref a0_kept, .ref a0_refused, .long a0_above, .long a0_below, .ref a0_line, .ref a0_best, .int a0_at, .int a0_start, .int a0_isWell, .int a0_faultAt])), (a0_refused, aI E 3 fa0_refused), (a0_town, aI E 682 fa0_town)] H → va_D A [(a0, .inr (5, [.ref a0_text, .int a0_letters, .ref a0_town, .ref a0_draft, .ref a0_tried, .ref a0_images, .ref a0_kept, .ref a0_refused, .long a0_above, .long a0_below, .ref a0_line, .ref a0_best, .int a0_at, .int a0_start, .int a0_isWell, .int a0_faultAt])), (a0_refused, aI E 3 fa0_refused), (a0_town, aI E 682 fa0_town)] → va_S A s.heap H locs → lv_has ls 14 [(0, .ref a0), (1, .int p1), (2, .int p2), (3, .int p3), (4, .long x4_67), (6, .long z6.1), (8, .int x8_67), (9, .long (x9_89 * z12)), (12, .int x12_89), (13, .int ((fa0_town ((2 : Int32)).toNatClampNeg) + x12_89))] → W p l e (wR 2) s m [.ref a0, .int p1, .int p2, .int p3].toArray below meth c H locs 0 0 (MQ below (QWd E A (some (.int z_0)) [(a0, .inr (5, [.ref a0_text, .int a0_letters, .ref a0_town, .ref a0_draft, .ref a0_tried, .ref a0_images, .ref a0_kept, .ref a0_refused, .long z_2, .long z_3, .ref a0_line, .ref a0_best, .int a0_at, .int a0_start, .int a0_isWell, .int a0_faultAt])), (a0_refused, aI E 3 z_1), (a0_town, aI E 682 fa0_town)]) [.ref a0, .int p1, .int p2, .int p3].toArray s 0 0 A) (F0 m 162 ls [.int z15, .int x11_89, .int (fa0_town ((0 : Int32)).toNatClampNeg)]) := by
                        intro H locs ls hP hD hS hl
                        refine lv_iload hx hb dX8_chance_162 (lv_at hl 9 rfl) (W.pc 164 rfl ?_)
                        refine kSR (st1 := [.int (sp_X8_behind (fa0_town ((0 : Int32)).toNatClampNeg) x11_89 z15 ((fa0_town ((2 : Int32)).toNatClampNeg) + x12_89))]) hX (c_X8_behind l E (fa0_town ((0 : Int32)).toNatClampNeg) x11_89 z15 ((fa0_town ((2 : Int32)).toNatClampNeg) + x12_89) _ rfl) B_X8_behind w_4_221 hK (hP.pick [] rfl) rfl hl.1 rfl (Nat.le_of_ble_eq_true rfl) ⟨Nat.le_of_ble_eq_true rfl, Nat.le_of_ble_eq_true rfl⟩ dX8_chance_164 rfl (W.pc 167 rfl ?_)
                        refine lv_istore (lv' := [(11, .int (sp_X8_behind (fa0_town ((0 : Int32)).toNatClampNeg) x11_89 z15 ((fa0_town ((2 : Int32)).toNatClampNeg) + x12_89))), (0, .ref a0), (1, .int p1), (2, .int p2), (3, .int p3), (4, .long x4_67), (6, .long z6.1), (8, .int x8_67), (9, .long (x9_89 * z12)), (12, .int x12_89), (13, .int ((fa0_town ((2 : Int32)).toNatClampNeg) + x12_89))]) hx hb dX8_chance_167 hl (by decide) rfl (fun ls hl => W.pc 169 rfl ?_)
                        refine lv_iinc (v := (x12_89 + (1 : Int32))) (lv' := [(12, .int (x12_89 + (1 : Int32))), (11, .int (sp_X8_behind (fa0_town ((0 : Int32)).toNatClampNeg) x11_89 z15 ((fa0_town ((2 : Int32)).toNatClampNeg) + x12_89))), (0, .ref a0), (1, .int p1), (2, .int p2), (3, .int p3), (4, .long x4_67), (6, .long z6.1), (8, .int x8_67), (9, .long (x9_89 * z12)), (13, .int ((fa0_town ((2 : Int32)).toNatClampNeg) + x12_89))]) hx hb dX8_chance_169 hl (k := 9) rfl rfl (by decide) rfl (fun ls hl => W.pc 172 rfl ?_)
                        refine lv_goto (tgt := 89) hx hb dX8_chance_172 (by decide) ?_
                        exact ih_89 (x9_89 * z12) (sp_X8_behind (fa0_town ((0 : Int32)).toNatClampNeg) x11_89 z15 ((fa0_town ((2 : Int32)).toNatClampNeg) + x12_89)) (x12_89 + (1 : Int32)) _ _ _ hP hD hS (lv_sub hl [2, 3, 4, 5, 6, 7, 8, 9, 1, 0] rfl) hsp
                      replace hsp := hr_z15
                      refine lv_if_eq (tgt := 153) hx hb dX8_chance_146 (by decide) (fun c17 => ?_) (fun c17 => W.pc 149 rfl ?_)
                      · have hsp := ip hsp c17
                        refine lv_aload_n hx hb dX8_chance_153 rfl (lv_at hl 1 rfl) (W.pc 154 rfl ?_)
                        refine va_get (D := E.1) (ci := 5) (v := .ref a0_town) (C := RX8) (T := TX8) (N := 16) hx hb hts inT_X8 hown hK hP 0 rfl rfl 2 (by decide) (hts _ w_4_70) (fun _ h9 => h9) rfl dX8_chance_154 (W.pc 157 rfl ?_)
                        refine lv_iload hx hb dX8_chance_157 (lv_at hl 10 rfl) (W.pc 159 rfl ?_)
                        obtain ⟨z18, hr_z18, hsp⟩ := bd_s hsp
                        refine kSR (st1 := [.int z18, .int x11_89, .int (fa0_town ((0 : Int32)).toNatClampNeg)]) hX (c_X8_pullIn l E a0_town ((fa0_town ((2 : Int32)).toNatClampNeg) + x12_89) fa0_town z18 hr_z18) B_X8_pullIn w_4_218 hK (hP.pick [2] rfl) rfl hl.1 rfl (Nat.le_of_ble_eq_true rfl) ⟨Nat.le_of_ble_eq_true rfl, Nat.le_of_ble_eq_true rfl⟩ dX8_chance_159 rfl (W.pc 162 rfl ?_)
                        obtain rfl := Option.some.inj hsp
                        exact J16 _ _ _ hP hD hS (lv_sub hl [1, 2, 3, 4, 5, 6, 7, 0, 9, 10] rfl)
                      · have hsp := iq hsp c17
                        refine lv_iconst (v := (0 : Int32)) hx hb dX8_chance_149 (by decide) (W.pc 150 rfl ?_)
                        refine lv_goto (tgt := 162) hx hb dX8_chance_150 (by decide) ?_
                        obtain rfl := Option.some.inj hsp
                        exact J16 _ _ _ hP hD hS (lv_sub hl [1, 2, 3, 4, 5, 6, 7, 0, 9, 10] rfl)
                    replace hsp := hr_z12
                    refine lv_if_eq (tgt := 123) hx hb dX8_chance_115 (by decide) (fun c14 => ?_) (fun c14 => W.pc 118 rfl ?_)
                    · have hsp := ip hsp c14
                      refine lv_bipush (v := (10 : Int32)) hx hb dX8_chance_123 (by decide) (W.pc 125 rfl ?_)
                      refine lv_iload_n hx hb dX8_chance_125 rfl (lv_at hl 4 rfl) (W.pc 126 rfl ?_)
                      refine lv_isub hx hb dX8_chance_126 (W.pc 127 rfl ?_)
                      refine lv_i2l (v := (((10 : Int32) - p3)).toInt64) hx hb dX8_chance_127 rfl (W.pc 128 rfl ?_)
                      subst hsp
                      exact J13 _ _ _ hP hD hS (lv_sub hl [1, 2, 3, 4, 5, 6, 7, 9, 10, 0] rfl)
                    · have hsp := iq hsp c14
                      refine lv_iload_n hx hb dX8_chance_118 rfl (lv_at hl 4 rfl) (W.pc 119 rfl ?_)
                      refine lv_i2l (v := (p3).toInt64) hx hb dX8_chance_119 rfl (W.pc 120 rfl ?_)
                      refine lv_goto (tgt := 128) hx hb dX8_chance_120 (by decide) ?_
                      subst hsp
                      exact J13 _ _ _ hP hD hS (lv_sub hl [1, 2, 3, 4, 5, 6, 7, 9, 10, 0] rfl)
              obtain ⟨z10, hr_z10, hsp⟩ := bd_s hsp
              refine L_89 z10 (fun H locs ls hP hD hS hl => ?_) FU (1 : Int64) (fa0_town ((1 : Int32)).toNatClampNeg) (0 : Int32) _ _ _ hP hD hS (lv_sub hl [3, 4, 5, 6, 7, 8, 9, 2, 1, 0] rfl) hr_z10
              refine lv_lload hx hb dX8_chance_175 (lv_at hl 4 rfl) (W.pc 177 rfl ?_)
              refine lv_iload hx hb dX8_chance_177 (lv_at hl 8 rfl) (W.pc 179 rfl ?_)
              refine kSR (st1 := [.int (sp_X8_size z10.2.1), .long x4_67]) hX (c_X8_size l E z10.2.1 _ rfl) B_X8_size w_5_12 hK (hP.pick [] rfl) rfl hl.1 rfl (Nat.le_of_ble_eq_true rfl) ⟨Nat.le_of_ble_eq_true rfl, Nat.le_of_ble_eq_true rfl⟩ dX8_chance_179 rfl (W.pc 182 rfl ?_)
              refine lv_iload_n hx hb dX8_chance_182 rfl (lv_at hl 1 rfl) (W.pc 183 rfl ?_)
              obtain ⟨z19, hr_z19, hsp⟩ := ltb_s hsp
              have J20 : ∀ (H : Heap) (locs : List Loc) (ls : Array Slot), wP E [(a0, .inr (5, [.ref a0_text, .int a0_letters, .ref a0_town, .ref a0_draft, .ref a0_tried, .ref a0_images, .ref a0_kept, .ref a0_refused, .long a0_above, .long a0_below, .ref a0_line, .ref a0_best, .int a0_at, .int a0_start, .int a0_isWell, .int a0_faultAt])), (a0_refused, aI E 3 fa0_refused), (a0_town, aI E 682 fa0_town)] H → va_D A [(a0, .inr (5, [.ref a0_text, .int a0_letters, .ref a0_town, .ref a0_draft, .ref a0_tried, .ref a0_images, .ref a0_kept, .ref a0_refused, .long a0_above, .long a0_below, .ref a0_line, .ref a0_best, .int a0_at, .int a0_start, .int a0_isWell, .int a0_faultAt])), (a0_refused, aI E 3 fa0_refused), (a0_town, aI E 682 fa0_town)] → va_S A s.heap H locs → lv_has ls 14 [(0, .ref a0), (1, .int p1), (2, .int p2), (3, .int p3), (6, .long z6.1), (8, .int x8_67)] → W p l e (wR 2) s m [.ref a0, .int p1, .int p2, .int p3].toArray below meth c H locs 0 0 (MQ below (QWd E A (some (.int z_0)) [(a0, .inr (5, [.ref a0_text, .int a0_letters, .ref a0_town, .ref a0_draft, .ref a0_tried, .ref a0_images, .ref a0_kept, .ref a0_refused, .long z_2, .long z_3, .ref a0_line, .ref a0_best, .int a0_at, .int a0_start, .int a0_isWell, .int a0_faultAt])), (a0_refused, aI E 3 z_1), (a0_town, aI E 682 fa0_town)]) [.ref a0, .int p1, .int p2, .int p3].toArray s 0 0 A) (F0 m 192 ls [.long z19, .long x4_67]) := by
                intro H locs ls hP hD hS hl
                refine lv_ladd hx hb dX8_chance_192 (W.pc 193 rfl ?_)
                refine lv_lstore (lv' := [(4, .long (x4_67 + z19)), (0, .ref a0), (1, .int p1), (2, .int p2), (3, .int p3), (6, .long z6.1), (8, .int x8_67)]) hx hb dX8_chance_193 hl (by decide) rfl (fun ls hl => W.pc 195 rfl ?_)
                refine lv_iinc (v := (x8_67 + (1 : Int32))) (lv' := [(8, .int (x8_67 + (1 : Int32))), (4, .long (x4_67 + z19)), (0, .ref a0), (1, .int p1), (2, .int p2), (3, .int p3), (6, .long z6.1)]) hx hb dX8_chance_195 hl (k := 6) rfl rfl (by decide) rfl (fun ls hl => W.pc 198 rfl ?_)
                refine lv_goto (tgt := 67) hx hb dX8_chance_198 (by decide) ?_
                exact ih_67 (x4_67 + z19) (x8_67 + (1 : Int32)) _ _ _ hP hD hS (lv_sub hl [2, 3, 4, 5, 1, 6, 0] rfl) hsp
              replace hsp := hr_z19
              refine lv_icmp_lt (tgt := 191) hx hb dX8_chance_183 (by decide) (fun c21 => ?_) (fun c21 => W.pc 186 rfl ?_)
              · have hsp := ip hsp c21
                refine lv_lconst (v := 0) hx hb dX8_chance_191 (by decide) (W.pc 192 rfl ?_)
                subst hsp
                exact J20 _ _ _ hP hD hS (lv_sub hl [0, 1, 2, 3, 5, 6] rfl)
              · have hsp := iq hsp c21
                refine lv_lload hx hb dX8_chance_186 (lv_at hl 7 rfl) (W.pc 188 rfl ?_)
                refine lv_goto (tgt := 192) hx hb dX8_chance_188 (by decide) ?_
                subst hsp
                exact J20 _ _ _ hP hD hS (lv_sub hl [0, 1, 2, 3, 5, 6] rfl)
        obtain ⟨z8, hr_z8, hsp⟩ := bd_s hsp
        refine L_67 z8 (fun H locs ls hP hD hS hl => ?_) FU (0 : Int64) (0 : Int32) _ _ _ hP hD hS (lv_sub hl [1, 2, 3, 4, 5, 6, 0] rfl) hr_z8
        refine lv_lload hx hb dX8_chance_201 (lv_at hl 1 rfl) (W.pc 203 rfl ?_)
        refine lv_lstore (lv' := [(8, .long z8.1), (0, .ref a0), (4, .long z8.1), (6, .long z6.1)]) hx hb dX8_chance_203 hl (by decide) rfl (fun ls hl => W.pc 205 rfl ?_)
        refine lv_lload hx hb dX8_chance_205 (lv_at hl 3 rfl) (W.pc 207 rfl ?_)
        refine lv_lstore (lv' := [(10, .long z6.1), (8, .long z8.1), (0, .ref a0), (4, .long z8.1), (6, .long z6.1)]) hx hb dX8_chance_207 hl (by decide) rfl (fun ls hl => W.pc 209 rfl ?_)
        have L_209 : ∀ (z22 : Int64 × Int64), (∀ (H : Heap) (locs : List Loc) (ls : Array Slot), wP E [(a0, .inr (5, [.ref a0_text, .int a0_letters, .ref a0_town, .ref a0_draft, .ref a0_tried, .ref a0_images, .ref a0_kept, .ref a0_refused, .long a0_above, .long a0_below, .ref a0_line, .ref a0_best, .int a0_at, .int a0_start, .int a0_isWell, .int a0_faultAt])), (a0_refused, aI E 3 fa0_refused), (a0_town, aI E 682 fa0_town)] H → va_D A [(a0, .inr (5, [.ref a0_text, .int a0_letters, .ref a0_town, .ref a0_draft, .ref a0_tried, .ref a0_images, .ref a0_kept, .ref a0_refused, .long a0_above, .long a0_below, .ref a0_line, .ref a0_best, .int a0_at, .int a0_start, .int a0_isWell, .int a0_faultAt])), (a0_refused, aI E 3 fa0_refused), (a0_town, aI E 682 fa0_town)] → va_S A s.heap H locs → lv_has ls 14 [(0, .ref a0), (4, .long z8.1), (6, .long z6.1), (8, .long z22.1)] → W p l e (wR 2) s m [.ref a0, .int p1, .int p2, .int p3].toArray below meth c H locs 0 0 (MQ below (QWd E A (some (.int z_0)) [(a0, .inr (5, [.ref a0_text, .int a0_letters, .ref a0_town, .ref a0_draft, .ref a0_tried, .ref a0_images, .ref a0_kept, .ref a0_refused, .long z_2, .long z_3, .ref a0_line, .ref a0_best, .int a0_at, .int a0_start, .int a0_isWell, .int a0_faultAt])), (a0_refused, aI E 3 z_1), (a0_town, aI E 682 fa0_town)]) [.ref a0, .int p1, .int p2, .int p3].toArray s 0 0 A) (F0 m 234 ls [])) → ∀ (fu : Nat) (x8_209 : Int64) (x10_209 : Int64), ∀ (H : Heap) (locs : List Loc) (ls : Array Slot), wP E [(a0, .inr (5, [.ref a0_text, .int a0_letters, .ref a0_town, .ref a0_draft, .ref a0_tried, .ref a0_images, .ref a0_kept, .ref a0_refused, .long a0_above, .long a0_below, .ref a0_line, .ref a0_best, .int a0_at, .int a0_start, .int a0_isWell, .int a0_faultAt])), (a0_refused, aI E 3 fa0_refused), (a0_town, aI E 682 fa0_town)] H → va_D A [(a0, .inr (5, [.ref a0_text, .int a0_letters, .ref a0_town, .ref a0_draft, .ref a0_tried, .ref a0_images, .ref a0_kept, .ref a0_refused, .long a0_above, .long a0_below, .ref a0_line, .ref a0_best, .int a0_at, .int a0_start, .int a0_isWell, .int a0_faultAt])), (a0_refused, aI E 3 fa0_refused), (a0_town, aI E 682 fa0_town)] → va_S A s.heap H locs → lv_has ls 14 [(0, .ref a0), (4, .long z8.1), (6, .long z6.1), (8, .long x8_209), (10, .long x10_209)] → lp_X8_chance_209 fu x8_209 x10_209 = some z22 → W p l e (wR 2) s m [.ref a0, .int p1, .int p2, .int p3].toArray below meth c H locs 0 0 (MQ below (QWd E A (some (.int z_0)) [(a0, .inr (5, [.ref a0_text, .int a0_letters, .ref a0_town, .ref a0_draft, .ref a0_tried, .ref a0_images, .ref a0_kept, .ref a0_refused, .long z_2, .long z_3, .ref a0_line, .ref a0_best, .int a0_at, .int a0_start, .int a0_isWell, .int a0_faultAt])), (a0_refused, aI E 3 z_1), (a0_town, aI E 682 fa0_town)]) [.ref a0, .int p1, .int p2, .int p3].toArray s 0 0 A) (F0 m 209 ls []) := by
          intro z22 hk_209 fu
          induction fu with
          | zero => intro x8_209 x10_209 H locs ls hP hD hS hl hsp; exact absurd (show none = some _ from hsp) (by simp)
          | succ fu ih_209 =>
            intro x8_209 x10_209 H locs ls hP hD hS hl hsp
            have hsp : (if (lg_cmp x10_209 (0 : Int64)) = 0 then (some (x8_209, x10_209)) else (gd (¬ x10_209 = 0) (lp_X8_chance_209 fu x10_209 (x8_209 - x8_209 / x10_209 * x10_209)))) = some z22 := hsp
            refine lv_lload hx hb dX8_chance_209 (lv_at hl 4 rfl) (W.pc 211 rfl ?_)
            refine lv_lconst (v := 0) hx hb dX8_chance_211 (by decide) (W.pc 212 rfl ?_)
            refine W.lcmp hx hb dX8_chance_212 (W.pc 213 rfl ?_)
            refine lv_if_eq (tgt := 234) hx hb dX8_chance_213 (by decide) (fun c23 => ?_) (fun c23 => W.pc 216 rfl ?_)
            · have hsp := ip hsp c23
              obtain rfl := Option.some.inj hsp
              exact hk_209 _ _ _ hP hD hS (lv_sub hl [0, 1, 2, 3] rfl)
            · have hsp := iq hsp c23
              refine lv_lload hx hb dX8_chance_216 (lv_at hl 3 rfl) (W.pc 218 rfl ?_)
              refine lv_lload hx hb dX8_chance_218 (lv_at hl 4 rfl) (W.pc 220 rfl ?_)
              obtain ⟨h24, hsp⟩ := gd_s hsp
              refine lv_lrem hx hb dX8_chance_220 h24 (W.pc 221 rfl ?_)
              refine lv_lstore (lv' := [(12, .long (x8_209 - x8_209 / x10_209 * x10_209)), (0, .ref a0), (4, .long z8.1), (6, .long z6.1), (8, .long x8_209), (10, .long x10_209)]) hx hb dX8_chance_221 hl (by decide) rfl (fun ls hl => W.pc 223 rfl ?_)
              refine lv_lload hx hb dX8_chance_223 (lv_at hl 5 rfl) (W.pc 225 rfl ?_)
              refine lv_lstore (lv' := [(8, .long x10_209), (12, .long (x8_209 - x8_209 / x10_209 * x10_209)), (0, .ref a0), (4, .long z8.1), (6, .long z6.1), (10, .long x10_209)]) hx hb dX8_chance_225 hl (by decide) rfl (fun ls hl => W.pc 227 rfl ?_)
              refine lv_lload hx hb dX8_chance_227 (lv_at hl 1 rfl) (W.pc 229 rfl ?_)
              refine lv_lstore (lv' := [(10, .long (x8_209 - x8_209 / x10_209 * x10_209)), (8, .long x10_209), (12, .long (x8_209 - x8_209 / x10_209 * x10_209)), (0, .ref a0), (4, .long z8.1), (6, .long z6.1)]) hx hb dX8_chance_229 hl (by decide) rfl (fun ls hl => W.pc 231 rfl ?_)
              refine lv_goto (tgt := 209) hx hb dX8_chance_231 (by decide) ?_
              exact ih_209 x10_209 (x8_209 - x8_209 / x10_209 * x10_209) _ _ _ hP hD hS (lv_sub hl [3, 4, 5, 1, 0] rfl) hsp
        obtain ⟨z22, hr_z22, hsp⟩ := bd_s hsp
        refine L_209 z22 (fun H locs ls hP hD hS hl => ?_) FU z8.1 z6.1 _ _ _ hP hD hS (lv_sub hl [2, 3, 4, 1, 0] rfl) hr_z22
        refine lv_aload_n hx hb dX8_chance_234 rfl (lv_at hl 0 rfl) (W.pc 235 rfl ?_)
        refine lv_lload hx hb dX8_chance_235 (lv_at hl 1 rfl) (W.pc 237 rfl ?_)
        refine lv_lload hx hb dX8_chance_237 (lv_at hl 3 rfl) (W.pc 239 rfl ?_)
        obtain ⟨h25, hsp⟩ := gd_s hsp
        refine lv_ldiv hx hb dX8_chance_239 h25 (W.pc 240 rfl ?_)
        refine va_put (D := E.1) (ci := 5) (v := .long (z8.1 / z22.1)) (ty := .long) (C := RX8) (T := TX8) (N := 16) hx hb hts inT_X8 tyX8 tyX8_ok nmX8 hown hK hP hD hS 0 rfl rfl 8 (by decide) (hts _ w_4_76) (fun _ h9 => h9) rfl (by decide +kernel) rfl rfl (Nat.le_of_ble_eq_true rfl) dX8_chance_240 (fun H locs hP hD hS => W.pc 243 rfl ?_)
        have hP : wP E [(a0, .inr (5, [.ref a0_text, .int a0_letters, .ref a0_town, .ref a0_draft, .ref a0_tried, .ref a0_images, .ref a0_kept, .ref a0_refused, .long (z8.1 / z22.1), .long a0_below, .ref a0_line, .ref a0_best, .int a0_at, .int a0_start, .int a0_isWell, .int a0_faultAt])), (a0_refused, aI E 3 fa0_refused), (a0_town, aI E 682 fa0_town)] _ := hP
        have hD : va_D A [(a0, .inr (5, [.ref a0_text, .int a0_letters, .ref a0_town, .ref a0_draft, .ref a0_tried, .ref a0_images, .ref a0_kept, .ref a0_refused, .long (z8.1 / z22.1), .long a0_below, .ref a0_line, .ref a0_best, .int a0_at, .int a0_start, .int a0_isWell, .int a0_faultAt])), (a0_refused, aI E 3 fa0_refused), (a0_town, aI E 682 fa0_town)] := hD
        refine lv_aload_n hx hb dX8_chance_243 rfl (lv_at hl 0 rfl) (W.pc 244 rfl ?_)
        refine lv_lload hx hb dX8_chance_244 (lv_at hl 2 rfl) (W.pc 246 rfl ?_)
        refine lv_lload hx hb dX8_chance_246 (lv_at hl 3 rfl) (W.pc 248 rfl ?_)
        obtain ⟨h26, hsp⟩ := gd_s hsp
        refine lv_ldiv hx hb dX8_chance_248 h26 (W.pc 249 rfl ?_)
        refine va_put (D := E.1) (ci := 5) (v := .long (z6.1 / z22.1)) (ty := .long) (C := RX8) (T := TX8) (N := 16) hx hb hts inT_X8 tyX8 tyX8_ok nmX8 hown hK hP hD hS 0 rfl rfl 9 (by decide) (hts _ w_4_77) (fun _ h9 => h9) rfl (by decide +kernel) rfl rfl (Nat.le_of_ble_eq_true rfl) dX8_chance_249 (fun H locs hP hD hS => W.pc 252 rfl ?_)
        have hP : wP E [(a0, .inr (5, [.ref a0_text, .int a0_letters, .ref a0_town, .ref a0_draft, .ref a0_tried, .ref a0_images, .ref a0_kept, .ref a0_refused, .long (z8.1 / z22.1), .long (z6.1 / z22.1), .ref a0_line, .ref a0_best, .int a0_at, .int a0_start, .int a0_isWell, .int a0_faultAt])), (a0_refused, aI E 3 fa0_refused), (a0_town, aI E 682 fa0_town)] _ := hP
        have hD : va_D A [(a0, .inr (5, [.ref a0_text, .int a0_letters, .ref a0_town, .ref a0_draft, .ref a0_tried, .ref a0_images, .ref a0_kept, .ref a0_refused, .long (z8.1 / z22.1), .long (z6.1 / z22.1), .ref a0_line, .ref a0_best, .int a0_at, .int a0_start, .int a0_isWell, .int a0_faultAt])), (a0_refused, aI E 3 fa0_refused), (a0_town, aI E 682 fa0_town)] := hD
        refine lv_iconst (v := (1 : Int32)) hx hb dX8_chance_252 (by decide) (W.pc 253 rfl ?_)
        cases hsp
        exact rWi hX hP hS rfl rfl dX8_chance_253
      · have hsp := ip hsp c5
        refine lv_aload_n hx hb dX8_chance_30 rfl (lv_at hl 0 rfl) (W.pc 31 rfl ?_)
        obtain ⟨z27, hr_z27, hsp⟩ := ltb_s hsp
        refine kVW (st1 := [.int z27.1]) (ws' := [(a0, .inr (5, [.ref a0_text, .int a0_letters, .ref a0_town, .ref a0_draft, .ref a0_tried, .ref a0_images, .ref a0_kept, .ref a0_refused, .long a0_above, .long a0_below, .ref a0_line, .ref a0_best, .int a0_at, .int a0_start, .int a0_isWell, .int a0_faultAt])), (a0_refused, aI E 3 z27.2), (a0_town, aI E 682 fa0_town)]) [0, 1] hX (c_X8_bad l E a0 a0_text a0_town a0_draft a0_tried a0_images a0_kept a0_refused a0_line a0_best a0_letters a0_above a0_below a0_at a0_start a0_isWell a0_faultAt fa0_refused z27.1 z27.2 hr_z27) B_X8_bad w_4_128 hK hP hD hS hA (by decide) rfl rfl rfl (q0 := 0) (ci := 5) rfl rfl rfl rfl hl.1 rfl (Nat.le_of_ble_eq_true rfl) ⟨Nat.le_of_ble_eq_true rfl, Nat.le_of_ble_eq_true rfl⟩ dX8_chance_31 rfl (fun H locs hP hD hS => W.pc 34 rfl ?_)
        cases hsp
        exact rWi hX hP hS rfl rfl dX8_chance_34
noncomputable def lp_X8_times_42 (p2 : Int32) (fa0_town : Nat → Int32) : Nat → Int64 → Int32 → Int32 → Int32 → Option (Int64 × Int32 × Int32 × Int32)
 | 0, _, _, _, _ => none
 | fu + 1, x3_42, x5_42, x6_42, x7_42 => if p2 ≤ x7_42 then (some (x3_42, x5_42, x6_42, x7_42)) else (lp_X8_times_42 p2 fa0_town fu (((x3_42 * (1103515245 : Int64)) + (12345 : Int64)) - ((x3_42 * (1103515245 : Int64)) + (12345 : Int64)) / (2147483648 : Int64) * (2147483648 : Int64)) (sp_X8_behind (fa0_town ((0 : Int32)).toNatClampNeg) x5_42 (((((((x3_42 * (1103515245 : Int64)) + (12345 : Int64)) - ((x3_42 * (1103515245 : Int64)) + (12345 : Int64)) / (2147483648 : Int64) * (2147483648 : Int64)) / (65536 : Int64)) - ((((x3_42 * (1103515245 : Int64)) + (12345 : Int64)) - ((x3_42 * (1103515245 : Int64)) + (12345 : Int64)) / (2147483648 : Int64) * (2147483648 : Int64)) / (65536 : Int64)) / (19 : Int64) * (19 : Int64))).toInt32 - (9 : Int32)) ((fa0_town ((2 : Int32)).toNatClampNeg) + x7_42)) (x6_42 + (sp_X8_size (sp_X8_behind (fa0_town ((0 : Int32)).toNatClampNeg) x5_42 (((((((x3_42 * (1103515245 : Int64)) + (12345 : Int64)) - ((x3_42 * (1103515245 : Int64)) + (12345 : Int64)) / (2147483648 : Int64) * (2147483648 : Int64)) / (65536 : Int64)) - ((((x3_42 * (1103515245 : Int64)) + (12345 : Int64)) - ((x3_42 * (1103515245 : Int64)) + (12345 : Int64)) / (2147483648 : Int64) * (2147483648 : Int64)) / (65536 : Int64)) / (19 : Int64) * (19 : Int64))).toInt32 - (9 : Int32)) ((fa0_town ((2 : Int32)).toNatClampNeg) + x7_42)))) (x7_42 + (1 : Int32)))
noncomputable def sp_X8_times (p1 : Int32) (p2 : Int32) (fa0_refused : Nat → Int32) (fa0_town : Nat → Int32) : Option (Int32 × (Nat → Int32)) := if (sp_X8_in p1 (0 : Int32) (999999 : Int32)) = 0 then (lt_ (sp_X8_bad fa0_refused) fun z2 => some (z2.1, z2.2)) else (if (sp_X8_in p2 (0 : Int32) (60 : Int32)) = 0 then (lt_ (sp_X8_bad fa0_refused) fun z6 => some (z6.1, z6.2)) else (Option.bind (lp_X8_times_42 p2 fa0_town FU ((p1).toInt64) (fa0_town ((1 : Int32)).toNatClampNeg) (0 : Int32) (0 : Int32)) fun z4 => some (z4.2.2.1, fa0_refused)))
set_option maxHeartbeats 4000000 in
set_option maxRecDepth 100000 in
theorem c_X8_times (l : Launch) (E : wE) (a0 a0_text a0_town a0_draft a0_tried a0_images a0_kept a0_refused a0_line a0_best : Nat) (p1 : Int32) (p2 : Int32) (a0_letters : Int32) (a0_above : Int64) (a0_below : Int64) (a0_at : Int32) (a0_start : Int32) (a0_isWell : Int32) (a0_faultAt : Int32) (fa0_refused : Nat → Int32) (fa0_town : Nat → Int32) (z_0 : Int32) (z_1 : (Nat → Int32)) (hsp : sp_X8_times p1 p2 fa0_refused fa0_town = some (z_0, z_1)) : MW l yX8_times cX8_times 8 (some .int) 2 E [.ref a0, .int p1, .int p2] [(a0, .inr (5, [.ref a0_text, .int a0_letters, .ref a0_town, .ref a0_draft, .ref a0_tried, .ref a0_images, .ref a0_kept, .ref a0_refused, .long a0_above, .long a0_below, .ref a0_line, .ref a0_best, .int a0_at, .int a0_start, .int a0_isWell, .int a0_faultAt])), (a0_refused, aI E 3 fa0_refused), (a0_town, aI E 682 fa0_town)] (some (.int z_0)) [(a0, .inr (5, [.ref a0_text, .int a0_letters, .ref a0_town, .ref a0_draft, .ref a0_tried, .ref a0_images, .ref a0_kept, .ref a0_refused, .long a0_above, .long a0_below, .ref a0_line, .ref a0_best, .int a0_at, .int a0_start, .int a0_isWell, .int a0_faultAt])), (a0_refused, aI E 3 z_1), (a0_town, aI E 682 fa0_town)] := by
  refine MW.of (by decide +kernel) (Nat.le_of_ble_eq_true rfl) ?_
  intro p e s m below meth c ls A hX hK hP hD hS hA hl
  have hX : CX p s m [.ref a0, .int p1, .int p2].toArray meth c cX8_times 8 (some .int) RX8 := hX
  have hx := hX.1; have hb := hX.2.1; have hts := hX.2.2.2.2.1; have hown := hX.2.2.2.2.2.1
  have hl : lv_has ls 8 [(0, .ref a0), (1, .int p1), (2, .int p2)] := hl
  have hP : wP E [(a0, .inr (5, [.ref a0_text, .int a0_letters, .ref a0_town, .ref a0_draft, .ref a0_tried, .ref a0_images, .ref a0_kept, .ref a0_refused, .long a0_above, .long a0_below, .ref a0_line, .ref a0_best, .int a0_at, .int a0_start, .int a0_isWell, .int a0_faultAt])), (a0_refused, aI E 3 fa0_refused), (a0_town, aI E 682 fa0_town)] s.heap := hP
  have hsp : (if (sp_X8_in p1 (0 : Int32) (999999 : Int32)) = 0 then (lt_ (sp_X8_bad fa0_refused) fun z2 => some (z2.1, z2.2)) else (if (sp_X8_in p2 (0 : Int32) (60 : Int32)) = 0 then (lt_ (sp_X8_bad fa0_refused) fun z6 => some (z6.1, z6.2)) else (Option.bind (lp_X8_times_42 p2 fa0_town FU ((p1).toInt64) (fa0_town ((1 : Int32)).toNatClampNeg) (0 : Int32) (0 : Int32)) fun z4 => some (z4.2.2.1, fa0_refused)))) = some (z_0, z_1) := hsp
  refine lv_iload_n hx hb dX8_times_0 rfl (lv_at hl 1 rfl) (W.pc 1 rfl ?_)
  refine lv_iconst (v := (0 : Int32)) hx hb dX8_times_1 (by decide) (W.pc 2 rfl ?_)
  refine lv_ldc (v := (999999 : Int32)) hx hb hown (hts _ w_5_183) dX8_times_2 (W.pc 4 rfl ?_)
  refine kSR (st1 := [.int (sp_X8_in p1 (0 : Int32) (999999 : Int32))]) hX (c_X8_in l E p1 (0 : Int32) (999999 : Int32) _ rfl) B_X8_in w_4_125 hK (hP.pick [] rfl) rfl hl.1 rfl (Nat.le_of_ble_eq_true rfl) ⟨Nat.le_of_ble_eq_true rfl, Nat.le_of_ble_eq_true rfl⟩ dX8_times_4 rfl (W.pc 7 rfl ?_)
  refine lv_if_eq (tgt := 20) hx hb dX8_times_7 (by decide) (fun c1 => ?_) (fun c1 => W.pc 10 rfl ?_)
  · have hsp := ip hsp c1
    refine lv_aload_n hx hb dX8_times_20 rfl (lv_at hl 0 rfl) (W.pc 21 rfl ?_)
    obtain ⟨z2, hr_z2, hsp⟩ := ltb_s hsp
    refine kVW (st1 := [.int z2.1]) (ws' := [(a0, .inr (5, [.ref a0_text, .int a0_letters, .ref a0_town, .ref a0_draft, .ref a0_tried, .ref a0_images, .ref a0_kept, .ref a0_refused, .long a0_above, .long a0_below, .ref a0_line, .ref a0_best, .int a0_at, .int a0_start, .int a0_isWell, .int a0_faultAt])), (a0_refused, aI E 3 z2.2), (a0_town, aI E 682 fa0_town)]) [0, 1] hX (c_X8_bad l E a0 a0_text a0_town a0_draft a0_tried a0_images a0_kept a0_refused a0_line a0_best a0_letters a0_above a0_below a0_at a0_start a0_isWell a0_faultAt fa0_refused z2.1 z2.2 hr_z2) B_X8_bad w_4_128 hK hP hD hS hA (by decide) rfl rfl rfl (q0 := 0) (ci := 5) rfl rfl rfl rfl hl.1 rfl (Nat.le_of_ble_eq_true rfl) ⟨Nat.le_of_ble_eq_true rfl, Nat.le_of_ble_eq_true rfl⟩ dX8_times_21 rfl (fun H locs hP hD hS => W.pc 24 rfl ?_)
    cases hsp
    exact rWi hX hP hS rfl rfl dX8_times_24
  · have hsp := iq hsp c1
    refine lv_iload_n hx hb dX8_times_10 rfl (lv_at hl 2 rfl) (W.pc 11 rfl ?_)
    refine lv_iconst (v := (0 : Int32)) hx hb dX8_times_11 (by decide) (W.pc 12 rfl ?_)
    refine lv_bipush (v := (60 : Int32)) hx hb dX8_times_12 (by decide) (W.pc 14 rfl ?_)
    refine kSR (st1 := [.int (sp_X8_in p2 (0 : Int32) (60 : Int32))]) hX (c_X8_in l E p2 (0 : Int32) (60 : Int32) _ rfl) B_X8_in w_4_125 hK (hP.pick [] rfl) rfl hl.1 rfl (Nat.le_of_ble_eq_true rfl) ⟨Nat.le_of_ble_eq_true rfl, Nat.le_of_ble_eq_true rfl⟩ dX8_times_14 rfl (W.pc 17 rfl ?_)
    refine lv_if_ne (tgt := 25) hx hb dX8_times_17 (by decide) (fun c3 => ?_) (fun c3 => W.pc 20 rfl ?_)
    · have hsp := iq hsp c3
      refine lv_iload_n hx hb dX8_times_25 rfl (lv_at hl 1 rfl) (W.pc 26 rfl ?_)
      refine lv_i2l (v := (p1).toInt64) hx hb dX8_times_26 rfl (W.pc 27 rfl ?_)
      refine lv_lstore_n (lv' := [(3, .long (p1).toInt64), (0, .ref a0), (1, .int p1), (2, .int p2)]) hx hb dX8_times_27 rfl hl (by decide) rfl (fun ls hl => W.pc 28 rfl ?_)
      refine lv_aload_n hx hb dX8_times_28 rfl (lv_at hl 1 rfl) (W.pc 29 rfl ?_)
      refine va_get (D := E.1) (ci := 5) (v := .ref a0_town) (C := RX8) (T := TX8) (N := 16) hx hb hts inT_X8 hown hK hP 0 rfl rfl 2 (by decide) (hts _ w_4_70) (fun _ h9 => h9) rfl dX8_times_29 (W.pc 32 rfl ?_)
      refine lv_iconst (v := (1 : Int32)) hx hb dX8_times_32 (by decide) (W.pc 33 rfl ?_)
      refine va_iald hx hb hK hP 2 0 rfl rfl (vp_in_nI (n := 1) (N := 682) (by decide) (by decide)) dX8_times_33 (W.pc 34 rfl ?_)
      refine lv_istore (lv' := [(5, .int (fa0_town ((1 : Int32)).toNatClampNeg)), (3, .long (p1).toInt64), (0, .ref a0), (1, .int p1), (2, .int p2)]) hx hb dX8_times_34 hl (by decide) rfl (fun ls hl => W.pc 36 rfl ?_)
      refine lv_iconst (v := (0 : Int32)) hx hb dX8_times_36 (by decide) (W.pc 37 rfl ?_)
      refine lv_istore (lv' := [(6, .int (0 : Int32)), (5, .int (fa0_town ((1 : Int32)).toNatClampNeg)), (3, .long (p1).toInt64), (0, .ref a0), (1, .int p1), (2, .int p2)]) hx hb dX8_times_37 hl (by decide) rfl (fun ls hl => W.pc 39 rfl ?_)
      refine lv_iconst (v := (0 : Int32)) hx hb dX8_times_39 (by decide) (W.pc 40 rfl ?_)
      refine lv_istore (lv' := [(7, .int (0 : Int32)), (6, .int (0 : Int32)), (5, .int (fa0_town ((1 : Int32)).toNatClampNeg)), (3, .long (p1).toInt64), (0, .ref a0), (1, .int p1), (2, .int p2)]) hx hb dX8_times_40 hl (by decide) rfl (fun ls hl => W.pc 42 rfl ?_)
      have L_42 : ∀ (z4 : Int64 × Int32 × Int32 × Int32), (∀ (H : Heap) (locs : List Loc) (ls : Array Slot), wP E [(a0, .inr (5, [.ref a0_text, .int a0_letters, .ref a0_town, .ref a0_draft, .ref a0_tried, .ref a0_images, .ref a0_kept, .ref a0_refused, .long a0_above, .long a0_below, .ref a0_line, .ref a0_best, .int a0_at, .int a0_start, .int a0_isWell, .int a0_faultAt])), (a0_refused, aI E 3 fa0_refused), (a0_town, aI E 682 fa0_town)] H → va_D A [(a0, .inr (5, [.ref a0_text, .int a0_letters, .ref a0_town, .ref a0_draft, .ref a0_tried, .ref a0_images, .ref a0_kept, .ref a0_refused, .long a0_above, .long a0_below, .ref a0_line, .ref a0_best, .int a0_at, .int a0_start, .int a0_isWell, .int a0_faultAt])), (a0_refused, aI E 3 fa0_refused), (a0_town, aI E 682 fa0_town)] → va_S A s.heap H locs → lv_has ls 8 [(6, .int z4.2.2.1)] → W p l e (wR 2) s m [.ref a0, .int p1, .int p2].toArray below meth c H locs 0 0 (MQ below (QWd E A (some (.int z_0)) [(a0, .inr (5, [.ref a0_text, .int a0_letters, .ref a0_town, .ref a0_draft, .ref a0_tried, .ref a0_images, .ref a0_kept, .ref a0_refused, .long a0_above, .long a0_below, .ref a0_line, .ref a0_best, .int a0_at, .int a0_start, .int a0_isWell, .int a0_faultAt])), (a0_refused, aI E 3 z_1), (a0_town, aI E 682 fa0_town)]) [.ref a0, .int p1, .int p2].toArray s 0 0 A) (F0 m 113 ls [])) → ∀ (fu : Nat) (x3_42 : Int64) (x5_42 : Int32) (x6_42 : Int32) (x7_42 : Int32), ∀ (H : Heap) (locs : List Loc) (ls : Array Slot), wP E [(a0, .inr (5, [.ref a0_text, .int a0_letters, .ref a0_town, .ref a0_draft, .ref a0_tried, .ref a0_images, .ref a0_kept, .ref a0_refused, .long a0_above, .long a0_below, .ref a0_line, .ref a0_best, .int a0_at, .int a0_start, .int a0_isWell, .int a0_faultAt])), (a0_refused, aI E 3 fa0_refused), (a0_town, aI E 682 fa0_town)] H → va_D A [(a0, .inr (5, [.ref a0_text, .int a0_letters, .ref a0_town, .ref a0_draft, .ref a0_tried, .ref a0_images, .ref a0_kept, .ref a0_refused, .long a0_above, .long a0_below, .ref a0_line, .ref a0_best, .int a0_at, .int a0_start, .int a0_isWell, .int a0_faultAt])), (a0_refused, aI E 3 fa0_refused), (a0_town, aI E 682 fa0_town)] → va_S A s.heap H locs → lv_has ls 8 [(0, .ref a0), (2, .int p2), (3, .long x3_42), (5, .int x5_42), (6, .int x6_42), (7, .int x7_42)] → lp_X8_times_42 p2 fa0_town fu x3_42 x5_42 x6_42 x7_42 = some z4 → W p l e (wR 2) s m [.ref a0, .int p1, .int p2].toArray below meth c H locs 0 0 (MQ below (QWd E A (some (.int z_0)) [(a0, .inr (5, [.ref a0_text, .int a0_letters, .ref a0_town, .ref a0_draft, .ref a0_tried, .ref a0_images, .ref a0_kept, .ref a0_refused, .long a0_above, .long a0_below, .ref a0_line, .ref a0_best, .int a0_at, .int a0_start, .int a0_isWell, .int a0_faultAt])), (a0_refused, aI E 3 z_1), (a0_town, aI E 682 fa0_town)]) [.ref a0, .int p1, .int p2].toArray s 0 0 A) (F0 m 42 ls []) := by
        intro z4 hk_42 fu
        induction fu with
        | zero => intro x3_42 x5_42 x6_42 x7_42 H locs ls hP hD hS hl hsp; exact absurd (show none = some _ from hsp) (by simp)
        | succ fu ih_42 =>
          intro x3_42 x5_42 x6_42 x7_42 H locs ls hP hD hS hl hsp
          have hsp : (if p2 ≤ x7_42 then (some (x3_42, x5_42, x6_42, x7_42)) else (lp_X8_times_42 p2 fa0_town fu (((x3_42 * (1103515245 : Int64)) + (12345 : Int64)) - ((x3_42 * (1103515245 : Int64)) + (12345 : Int64)) / (2147483648 : Int64) * (2147483648 : Int64)) (sp_X8_behind (fa0_town ((0 : Int32)).toNatClampNeg) x5_42 (((((((x3_42 * (1103515245 : Int64)) + (12345 : Int64)) - ((x3_42 * (1103515245 : Int64)) + (12345 : Int64)) / (2147483648 : Int64) * (2147483648 : Int64)) / (65536 : Int64)) - ((((x3_42 * (1103515245 : Int64)) + (12345 : Int64)) - ((x3_42 * (1103515245 : Int64)) + (12345 : Int64)) / (2147483648 : Int64) * (2147483648 : Int64)) / (65536 : Int64)) / (19 : Int64) * (19 : Int64))).toInt32 - (9 : Int32)) ((fa0_town ((2 : Int32)).toNatClampNeg) + x7_42)) (x6_42 + (sp_X8_size (sp_X8_behind (fa0_town ((0 : Int32)).toNatClampNeg) x5_42 (((((((x3_42 * (1103515245 : Int64)) + (12345 : Int64)) - ((x3_42 * (1103515245 : Int64)) + (12345 : Int64)) / (2147483648 : Int64) * (2147483648 : Int64)) / (65536 : Int64)) - ((((x3_42 * (1103515245 : Int64)) + (12345 : Int64)) - ((x3_42 * (1103515245 : Int64)) + (12345 : Int64)) / (2147483648 : Int64) * (2147483648 : Int64)) / (65536 : Int64)) / (19 : Int64) * (19 : Int64))).toInt32 - (9 : Int32)) ((fa0_town ((2 : Int32)).toNatClampNeg) + x7_42)))) (x7_42 + (1 : Int32)))) = some z4 := hsp
          refine lv_iload hx hb dX8_times_42 (lv_at hl 5 rfl) (W.pc 44 rfl ?_)
          refine lv_iload_n hx hb dX8_times_44 rfl (lv_at hl 1 rfl) (W.pc 45 rfl ?_)
          refine lv_icmp_ge (tgt := 113) hx hb dX8_times_45 (by decide) (fun c5 => ?_) (fun c5 => W.pc 48 rfl ?_)
          · have hsp := ip hsp c5
            obtain rfl := Option.some.inj hsp
            exact hk_42 _ _ _ hP hD hS (lv_sub hl [4] rfl)
          · have hsp := iq hsp c5
            refine lv_lload_n hx hb dX8_times_48 rfl (lv_at hl 2 rfl) (W.pc 49 rfl ?_)
            refine lv_ldc2 (v := (1103515245 : Int64)) hx hb hown (hts _ w_5_184) dX8_times_49 (W.pc 52 rfl ?_)
            refine lv_lmul hx hb dX8_times_52 (W.pc 53 rfl ?_)
            refine lv_ldc2 (v := (12345 : Int64)) hx hb hown (hts _ w_5_185) dX8_times_53 (W.pc 56 rfl ?_)
            refine lv_ladd hx hb dX8_times_56 (W.pc 57 rfl ?_)
            refine lv_ldc2 (v := (2147483648 : Int64)) hx hb hown (hts _ w_5_186) dX8_times_57 (W.pc 60 rfl ?_)
            refine lv_lrem hx hb dX8_times_60 (by decide) (W.pc 61 rfl ?_)
            refine lv_lstore_n (lv' := [(3, .long (((x3_42 * (1103515245 : Int64)) + (12345 : Int64)) - ((x3_42 * (1103515245 : Int64)) + (12345 : Int64)) / (2147483648 : Int64) * (2147483648 : Int64))), (0, .ref a0), (2, .int p2), (5, .int x5_42), (6, .int x6_42), (7, .int x7_42)]) hx hb dX8_times_61 rfl hl (by decide) rfl (fun ls hl => W.pc 62 rfl ?_)
            refine lv_aload_n hx hb dX8_times_62 rfl (lv_at hl 1 rfl) (W.pc 63 rfl ?_)
            refine va_get (D := E.1) (ci := 5) (v := .ref a0_town) (C := RX8) (T := TX8) (N := 16) hx hb hts inT_X8 hown hK hP 0 rfl rfl 2 (by decide) (hts _ w_4_70) (fun _ h9 => h9) rfl dX8_times_63 (W.pc 66 rfl ?_)
            refine lv_iconst (v := (0 : Int32)) hx hb dX8_times_66 (by decide) (W.pc 67 rfl ?_)
            refine va_iald hx hb hK hP 2 0 rfl rfl (vp_in_nI (n := 0) (N := 682) (by decide) (by decide)) dX8_times_67 (W.pc 68 rfl ?_)
            refine lv_iload hx hb dX8_times_68 (lv_at hl 3 rfl) (W.pc 70 rfl ?_)
            refine lv_lload_n hx hb dX8_times_70 rfl (lv_at hl 0 rfl) (W.pc 71 rfl ?_)
            refine lv_ldc2 (v := (65536 : Int64)) hx hb hown (hts _ w_5_187) dX8_times_71 (W.pc 74 rfl ?_)
            refine lv_ldiv hx hb dX8_times_74 (by decide) (W.pc 75 rfl ?_)
            refine lv_ldc2 (v := (19 : Int64)) hx hb hown (hts _ w_5_188) dX8_times_75 (W.pc 78 rfl ?_)
            refine lv_lrem hx hb dX8_times_78 (by decide) (W.pc 79 rfl ?_)
            refine lv_l2i (v := ((((((x3_42 * (1103515245 : Int64)) + (12345 : Int64)) - ((x3_42 * (1103515245 : Int64)) + (12345 : Int64)) / (2147483648 : Int64) * (2147483648 : Int64)) / (65536 : Int64)) - ((((x3_42 * (1103515245 : Int64)) + (12345 : Int64)) - ((x3_42 * (1103515245 : Int64)) + (12345 : Int64)) / (2147483648 : Int64) * (2147483648 : Int64)) / (65536 : Int64)) / (19 : Int64) * (19 : Int64))).toInt32) hx hb dX8_times_79 rfl (W.pc 80 rfl ?_)
            refine lv_bipush (v := (9 : Int32)) hx hb dX8_times_80 (by decide) (W.pc 82 rfl ?_)
            refine lv_isub hx hb dX8_times_82 (W.pc 83 rfl ?_)
            refine lv_aload_n hx hb dX8_times_83 rfl (lv_at hl 1 rfl) (W.pc 84 rfl ?_)
            refine va_get (D := E.1) (ci := 5) (v := .ref a0_town) (C := RX8) (T := TX8) (N := 16) hx hb hts inT_X8 hown hK hP 0 rfl rfl 2 (by decide) (hts _ w_4_70) (fun _ h9 => h9) rfl dX8_times_84 (W.pc 87 rfl ?_)
            refine lv_iconst (v := (2 : Int32)) hx hb dX8_times_87 (by decide) (W.pc 88 rfl ?_)
            refine va_iald hx hb hK hP 2 0 rfl rfl (vp_in_nI (n := 2) (N := 682) (by decide) (by decide)) dX8_times_88 (W.pc 89 rfl ?_)
            refine lv_iload hx hb dX8_times_89 (lv_at hl 5 rfl) (W.pc 91 rfl ?_)
            refine lv_iadd hx hb dX8_times_91 (W.pc 92 rfl ?_)
            refine kSR (st1 := [.int (sp_X8_behind (fa0_town ((0 : Int32)).toNatClampNeg) x5_42 (((((((x3_42 * (1103515245 : Int64)) + (12345 : Int64)) - ((x3_42 * (1103515245 : Int64)) + (12345 : Int64)) / (2147483648 : Int64) * (2147483648 : Int64)) / (65536 : Int64)) - ((((x3_42 * (1103515245 : Int64)) + (12345 : Int64)) - ((x3_42 * (1103515245 : Int64)) + (12345 : Int64)) / (2147483648 : Int64) * (2147483648 : Int64)) / (65536 : Int64)) / (19 : Int64) * (19 : Int64))).toInt32 - (9 : Int32)) ((fa0_town ((2 : Int32)).toNatClampNeg) + x7_42))]) hX (c_X8_behind l E (fa0_town ((0 : Int32)).toNatClampNeg) x5_42 (((((((x3_42 * (1103515245 : Int64)) + (12345 : Int64)) - ((x3_42 * (1103515245 : Int64)) + (12345 : Int64)) / (2147483648 : Int64) * (2147483648 : Int64)) / (65536 : Int64)) - ((((x3_42 * (1103515245 : Int64)) + (12345 : Int64)) - ((x3_42 * (1103515245 : Int64)) + (12345 : Int64)) / (2147483648 : Int64) * (2147483648 : Int64)) / (65536 : Int64)) / (19 : Int64) * (19 : Int64))).toInt32 - (9 : Int32)) ((fa0_town ((2 : Int32)).toNatClampNeg) + x7_42) _ rfl) B_X8_behind w_4_221 hK (hP.pick [] rfl) rfl hl.1 rfl (Nat.le_of_ble_eq_true rfl) ⟨Nat.le_of_ble_eq_true rfl, Nat.le_of_ble_eq_true rfl⟩ dX8_times_92 rfl (W.pc 95 rfl ?_)
            refine lv_istore (lv' := [(5, .int (sp_X8_behind (fa0_town ((0 : Int32)).toNatClampNeg) x5_42 (((((((x3_42 * (1103515245 : Int64)) + (12345 : Int64)) - ((x3_42 * (1103515245 : Int64)) + (12345 : Int64)) / (2147483648 : Int64) * (2147483648 : Int64)) / (65536 : Int64)) - ((((x3_42 * (1103515245 : Int64)) + (12345 : Int64)) - ((x3_42 * (1103515245 : Int64)) + (12345 : Int64)) / (2147483648 : Int64) * (2147483648 : Int64)) / (65536 : Int64)) / (19 : Int64) * (19 : Int64))).toInt32 - (9 : Int32)) ((fa0_town ((2 : Int32)).toNatClampNeg) + x7_42))), (3, .long (((x3_42 * (1103515245 : Int64)) + (12345 : Int64)) - ((x3_42 * (1103515245 : Int64)) + (12345 : Int64)) / (2147483648 : Int64) * (2147483648 : Int64))), (0, .ref a0), (2, .int p2), (6, .int x6_42), (7, .int x7_42)]) hx hb dX8_times_95 hl (by decide) rfl (fun ls hl => W.pc 97 rfl ?_)
            refine lv_iload hx hb dX8_times_97 (lv_at hl 4 rfl) (W.pc 99 rfl ?_)
            refine lv_iload hx hb dX8_times_99 (lv_at hl 0 rfl) (W.pc 101 rfl ?_)
            refine kSR (st1 := [.int (sp_X8_size (sp_X8_behind (fa0_town ((0 : Int32)).toNatClampNeg) x5_42 (((((((x3_42 * (1103515245 : Int64)) + (12345 : Int64)) - ((x3_42 * (1103515245 : Int64)) + (12345 : Int64)) / (2147483648 : Int64) * (2147483648 : Int64)) / (65536 : Int64)) - ((((x3_42 * (1103515245 : Int64)) + (12345 : Int64)) - ((x3_42 * (1103515245 : Int64)) + (12345 : Int64)) / (2147483648 : Int64) * (2147483648 : Int64)) / (65536 : Int64)) / (19 : Int64) * (19 : Int64))).toInt32 - (9 : Int32)) ((fa0_town ((2 : Int32)).toNatClampNeg) + x7_42))), .int x6_42]) hX (c_X8_size l E (sp_X8_behind (fa0_town ((0 : Int32)).toNatClampNeg) x5_42 (((((((x3_42 * (1103515245 : Int64)) + (12345 : Int64)) - ((x3_42 * (1103515245 : Int64)) + (12345 : Int64)) / (2147483648 : Int64) * (2147483648 : Int64)) / (65536 : Int64)) - ((((x3_42 * (1103515245 : Int64)) + (12345 : Int64)) - ((x3_42 * (1103515245 : Int64)) + (12345 : Int64)) / (2147483648 : Int64) * (2147483648 : Int64)) / (65536 : Int64)) / (19 : Int64) * (19 : Int64))).toInt32 - (9 : Int32)) ((fa0_town ((2 : Int32)).toNatClampNeg) + x7_42)) _ rfl) B_X8_size w_5_12 hK (hP.pick [] rfl) rfl hl.1 rfl (Nat.le_of_ble_eq_true rfl) ⟨Nat.le_of_ble_eq_true rfl, Nat.le_of_ble_eq_true rfl⟩ dX8_times_101 rfl (W.pc 104 rfl ?_)
            refine lv_iadd hx hb dX8_times_104 (W.pc 105 rfl ?_)
            refine lv_istore (lv' := [(6, .int (x6_42 + (sp_X8_size (sp_X8_behind (fa0_town ((0 : Int32)).toNatClampNeg) x5_42 (((((((x3_42 * (1103515245 : Int64)) + (12345 : Int64)) - ((x3_42 * (1103515245 : Int64)) + (12345 : Int64)) / (2147483648 : Int64) * (2147483648 : Int64)) / (65536 : Int64)) - ((((x3_42 * (1103515245 : Int64)) + (12345 : Int64)) - ((x3_42 * (1103515245 : Int64)) + (12345 : Int64)) / (2147483648 : Int64) * (2147483648 : Int64)) / (65536 : Int64)) / (19 : Int64) * (19 : Int64))).toInt32 - (9 : Int32)) ((fa0_town ((2 : Int32)).toNatClampNeg) + x7_42))))), (5, .int (sp_X8_behind (fa0_town ((0 : Int32)).toNatClampNeg) x5_42 (((((((x3_42 * (1103515245 : Int64)) + (12345 : Int64)) - ((x3_42 * (1103515245 : Int64)) + (12345 : Int64)) / (2147483648 : Int64) * (2147483648 : Int64)) / (65536 : Int64)) - ((((x3_42 * (1103515245 : Int64)) + (12345 : Int64)) - ((x3_42 * (1103515245 : Int64)) + (12345 : Int64)) / (2147483648 : Int64) * (2147483648 : Int64)) / (65536 : Int64)) / (19 : Int64) * (19 : Int64))).toInt32 - (9 : Int32)) ((fa0_town ((2 : Int32)).toNatClampNeg) + x7_42))), (3, .long (((x3_42 * (1103515245 : Int64)) + (12345 : Int64)) - ((x3_42 * (1103515245 : Int64)) + (12345 : Int64)) / (2147483648 : Int64) * (2147483648 : Int64))), (0, .ref a0), (2, .int p2), (7, .int x7_42)]) hx hb dX8_times_105 hl (by decide) rfl (fun ls hl => W.pc 107 rfl ?_)
            refine lv_iinc (v := (x7_42 + (1 : Int32))) (lv' := [(7, .int (x7_42 + (1 : Int32))), (6, .int (x6_42 + (sp_X8_size (sp_X8_behind (fa0_town ((0 : Int32)).toNatClampNeg) x5_42 (((((((x3_42 * (1103515245 : Int64)) + (12345 : Int64)) - ((x3_42 * (1103515245 : Int64)) + (12345 : Int64)) / (2147483648 : Int64) * (2147483648 : Int64)) / (65536 : Int64)) - ((((x3_42 * (1103515245 : Int64)) + (12345 : Int64)) - ((x3_42 * (1103515245 : Int64)) + (12345 : Int64)) / (2147483648 : Int64) * (2147483648 : Int64)) / (65536 : Int64)) / (19 : Int64) * (19 : Int64))).toInt32 - (9 : Int32)) ((fa0_town ((2 : Int32)).toNatClampNeg) + x7_42))))), (5, .int (sp_X8_behind (fa0_town ((0 : Int32)).toNatClampNeg) x5_42 (((((((x3_42 * (1103515245 : Int64)) + (12345 : Int64)) - ((x3_42 * (1103515245 : Int64)) + (12345 : Int64)) / (2147483648 : Int64) * (2147483648 : Int64)) / (65536 : Int64)) - ((((x3_42 * (1103515245 : Int64)) + (12345 : Int64)) - ((x3_42 * (1103515245 : Int64)) + (12345 : Int64)) / (2147483648 : Int64) * (2147483648 : Int64)) / (65536 : Int64)) / (19 : Int64) * (19 : Int64))).toInt32 - (9 : Int32)) ((fa0_town ((2 : Int32)).toNatClampNeg) + x7_42))), (3, .long (((x3_42 * (1103515245 : Int64)) + (12345 : Int64)) - ((x3_42 * (1103515245 : Int64)) + (12345 : Int64)) / (2147483648 : Int64) * (2147483648 : Int64))), (0, .ref a0), (2, .int p2)]) hx hb dX8_times_107 hl (k := 5) rfl rfl (by decide) rfl (fun ls hl => W.pc 110 rfl ?_)
            refine lv_goto (tgt := 42) hx hb dX8_times_110 (by decide) ?_
            exact ih_42 (((x3_42 * (1103515245 : Int64)) + (12345 : Int64)) - ((x3_42 * (1103515245 : Int64)) + (12345 : Int64)) / (2147483648 : Int64) * (2147483648 : Int64)) (sp_X8_behind (fa0_town ((0 : Int32)).toNatClampNeg) x5_42 (((((((x3_42 * (1103515245 : Int64)) + (12345 : Int64)) - ((x3_42 * (1103515245 : Int64)) + (12345 : Int64)) / (2147483648 : Int64) * (2147483648 : Int64)) / (65536 : Int64)) - ((((x3_42 * (1103515245 : Int64)) + (12345 : Int64)) - ((x3_42 * (1103515245 : Int64)) + (12345 : Int64)) / (2147483648 : Int64) * (2147483648 : Int64)) / (65536 : Int64)) / (19 : Int64) * (19 : Int64))).toInt32 - (9 : Int32)) ((fa0_town ((2 : Int32)).toNatClampNeg) + x7_42)) (x6_42 + (sp_X8_size (sp_X8_behind (fa0_town ((0 : Int32)).toNatClampNeg) x5_42 (((((((x3_42 * (1103515245 : Int64)) + (12345 : Int64)) - ((x3_42 * (1103515245 : Int64)) + (12345 : Int64)) / (2147483648 : Int64) * (2147483648 : Int64)) / (65536 : Int64)) - ((((x3_42 * (1103515245 : Int64)) + (12345 : Int64)) - ((x3_42 * (1103515245 : Int64)) + (12345 : Int64)) / (2147483648 : Int64) * (2147483648 : Int64)) / (65536 : Int64)) / (19 : Int64) * (19 : Int64))).toInt32 - (9 : Int32)) ((fa0_town ((2 : Int32)).toNatClampNeg) + x7_42)))) (x7_42 + (1 : Int32)) _ _ _ hP hD hS (lv_sub hl [4, 5, 3, 2, 1, 0] rfl) hsp
      obtain ⟨z4, hr_z4, hsp⟩ := bd_s hsp
      refine L_42 z4 (fun H locs ls hP hD hS hl => ?_) FU ((p1).toInt64) (fa0_town ((1 : Int32)).toNatClampNeg) (0 : Int32) (0 : Int32) _ _ _ hP hD hS (lv_sub hl [4, 6, 3, 2, 1, 0] rfl) hr_z4
      refine lv_iload hx hb dX8_times_113 (lv_at hl 0 rfl) (W.pc 115 rfl ?_)
      cases hsp
      exact rWi hX hP hS rfl rfl dX8_times_115
    · have hsp := ip hsp c3
      refine lv_aload_n hx hb dX8_times_20 rfl (lv_at hl 0 rfl) (W.pc 21 rfl ?_)
      obtain ⟨z6, hr_z6, hsp⟩ := ltb_s hsp
      refine kVW (st1 := [.int z6.1]) (ws' := [(a0, .inr (5, [.ref a0_text, .int a0_letters, .ref a0_town, .ref a0_draft, .ref a0_tried, .ref a0_images, .ref a0_kept, .ref a0_refused, .long a0_above, .long a0_below, .ref a0_line, .ref a0_best, .int a0_at, .int a0_start, .int a0_isWell, .int a0_faultAt])), (a0_refused, aI E 3 z6.2), (a0_town, aI E 682 fa0_town)]) [0, 1] hX (c_X8_bad l E a0 a0_text a0_town a0_draft a0_tried a0_images a0_kept a0_refused a0_line a0_best a0_letters a0_above a0_below a0_at a0_start a0_isWell a0_faultAt fa0_refused z6.1 z6.2 hr_z6) B_X8_bad w_4_128 hK hP hD hS hA (by decide) rfl rfl rfl (q0 := 0) (ci := 5) rfl rfl rfl rfl hl.1 rfl (Nat.le_of_ble_eq_true rfl) ⟨Nat.le_of_ble_eq_true rfl, Nat.le_of_ble_eq_true rfl⟩ dX8_times_21 rfl (fun H locs hP hD hS => W.pc 24 rfl ?_)
      cases hsp
      exact rWi hX hP hS rfl rfl dX8_times_24
def sp_X8_part (p1 : Int32) (a0_above : Int64) (a0_below : Int64) (fa0_refused : Nat → Int32) : Int64 × (Nat → Int32) := if p1 = 0 then ((a0_above, fa0_refused)) else (if p1 = (1 : Int32) then ((a0_below, fa0_refused)) else (lt_ (sp_X8_bad fa0_refused) fun z3 => ((z3.1).toInt64, z3.2)))
set_option maxHeartbeats 4000000 in
set_option maxRecDepth 100000 in
theorem c_X8_part (l : Launch) (E : wE) (a0 a0_text a0_town a0_draft a0_tried a0_images a0_kept a0_refused a0_line a0_best : Nat) (p1 : Int32) (a0_letters : Int32) (a0_above : Int64) (a0_below : Int64) (a0_at : Int32) (a0_start : Int32) (a0_isWell : Int32) (a0_faultAt : Int32) (fa0_refused : Nat → Int32) (z_0 : Int64) (z_1 : (Nat → Int32)) (hsp : sp_X8_part p1 a0_above a0_below fa0_refused = (z_0, z_1)) : MW l yX8_part cX8_part 2 (some .long) 1 E [.ref a0, .int p1] [(a0, .inr (5, [.ref a0_text, .int a0_letters, .ref a0_town, .ref a0_draft, .ref a0_tried, .ref a0_images, .ref a0_kept, .ref a0_refused, .long a0_above, .long a0_below, .ref a0_line, .ref a0_best, .int a0_at, .int a0_start, .int a0_isWell, .int a0_faultAt])), (a0_refused, aI E 3 fa0_refused)] (some (.long z_0)) [(a0, .inr (5, [.ref a0_text, .int a0_letters, .ref a0_town, .ref a0_draft, .ref a0_tried, .ref a0_images, .ref a0_kept, .ref a0_refused, .long a0_above, .long a0_below, .ref a0_line, .ref a0_best, .int a0_at, .int a0_start, .int a0_isWell, .int a0_faultAt])), (a0_refused, aI E 3 z_1)] := by
  refine MW.of (by decide +kernel) (Nat.le_of_ble_eq_true rfl) ?_
  intro p e s m below meth c ls A hX hK hP hD hS hA hl
  have hX : CX p s m [.ref a0, .int p1].toArray meth c cX8_part 2 (some .long) RX8 := hX
  have hx := hX.1; have hb := hX.2.1; have hts := hX.2.2.2.2.1; have hown := hX.2.2.2.2.2.1
  have hl : lv_has ls 2 [(0, .ref a0), (1, .int p1)] := hl
  have hP : wP E [(a0, .inr (5, [.ref a0_text, .int a0_letters, .ref a0_town, .ref a0_draft, .ref a0_tried, .ref a0_images, .ref a0_kept, .ref a0_refused, .long a0_above, .long a0_below, .ref a0_line, .ref a0_best, .int a0_at, .int a0_start, .int a0_isWell, .int a0_faultAt])), (a0_refused, aI E 3 fa0_refused)] s.heap := hP
  have hsp : (if p1 = 0 then ((a0_above, fa0_refused)) else (if p1 = (1 : Int32) then ((a0_below, fa0_refused)) else (lt_ (sp_X8_bad fa0_refused) fun z3 => ((z3.1).toInt64, z3.2)))) = (z_0, z_1) := hsp
  refine lv_iload_n hx hb dX8_part_0 rfl (lv_at hl 1 rfl) (W.pc 1 rfl ?_)
  refine lv_if_ne (tgt := 11) hx hb dX8_part_1 (by decide) (fun c1 => ?_) (fun c1 => W.pc 4 rfl ?_)
  · have hsp := iq hsp c1
    refine lv_iload_n hx hb dX8_part_11 rfl (lv_at hl 1 rfl) (W.pc 12 rfl ?_)
    refine lv_iconst (v := (1 : Int32)) hx hb dX8_part_12 (by decide) (W.pc 13 rfl ?_)
    refine lv_icmp_ne (tgt := 23) hx hb dX8_part_13 (by decide) (fun c2 => ?_) (fun c2 => W.pc 16 rfl ?_)
    · have hsp := iq hsp c2
      refine lv_aload_n hx hb dX8_part_23 rfl (lv_at hl 0 rfl) (W.pc 24 rfl ?_)
      obtain ⟨z3, hr_z3, hsp⟩ := ltb_s hsp
      refine kVW (st1 := [.int z3.1]) (ws' := [(a0, .inr (5, [.ref a0_text, .int a0_letters, .ref a0_town, .ref a0_draft, .ref a0_tried, .ref a0_images, .ref a0_kept, .ref a0_refused, .long a0_above, .long a0_below, .ref a0_line, .ref a0_best, .int a0_at, .int a0_start, .int a0_isWell, .int a0_faultAt])), (a0_refused, aI E 3 z3.2)]) [0, 1] hX (c_X8_bad l E a0 a0_text a0_town a0_draft a0_tried a0_images a0_kept a0_refused a0_line a0_best a0_letters a0_above a0_below a0_at a0_start a0_isWell a0_faultAt fa0_refused z3.1 z3.2 hr_z3) B_X8_bad w_4_128 hK hP hD hS hA (by decide) rfl rfl rfl (q0 := 0) (ci := 5) rfl rfl rfl rfl hl.1 rfl (Nat.le_of_ble_eq_true rfl) ⟨Nat.le_of_ble_eq_true rfl, Nat.le_of_ble_eq_true rfl⟩ dX8_part_24 rfl (fun H locs hP hD hS => W.pc 27 rfl ?_)
      refine lv_i2l (v := (z3.1).toInt64) hx hb dX8_part_27 rfl (W.pc 28 rfl ?_)
      cases hsp
      exact rWl hX hP hS rfl rfl dX8_part_28
    · have hsp := ip hsp c2
      refine lv_aload_n hx hb dX8_part_16 rfl (lv_at hl 0 rfl) (W.pc 17 rfl ?_)
      refine va_get (D := E.1) (ci := 5) (v := .long a0_below) (C := RX8) (T := TX8) (N := 16) hx hb hts inT_X8 hown hK hP 0 rfl rfl 9 (by decide) (hts _ w_4_77) (fun _ h9 => h9) rfl dX8_part_17 (W.pc 20 rfl ?_)
      refine lv_goto (tgt := 28) hx hb dX8_part_20 (by decide) ?_
      cases hsp
      exact rWl hX hP hS rfl rfl dX8_part_28
  · have hsp := ip hsp c1
    refine lv_aload_n hx hb dX8_part_4 rfl (lv_at hl 0 rfl) (W.pc 5 rfl ?_)
    refine va_get (D := E.1) (ci := 5) (v := .long a0_above) (C := RX8) (T := TX8) (N := 16) hx hb hts inT_X8 hown hK hP 0 rfl rfl 8 (by decide) (hts _ w_4_76) (fun _ h9 => h9) rfl dX8_part_5 (W.pc 8 rfl ?_)
    refine lv_goto (tgt := 28) hx hb dX8_part_8 (by decide) ?_
    cases hsp
    exact rWl hX hP hS rfl rfl dX8_part_28
noncomputable def sp_X8_image (p1 : Int32) (fa0_town : Nat → Int32) (fa0_images : Nat → Int32) (fa0_kept : Nat → Int32) (fa0_refused : Nat → Int32) : Option (Int32 × (Nat → Int32) × (Nat → Int32) × (Nat → Int32)) := if (sp_X8_in p1 (0 : Int32) (1 : Int32)) = 0 then (lt_ (sp_X8_bad fa0_refused) fun z4 => some (z4.1, fa0_images, fa0_kept, z4.2)) else (Option.bind (sp_X8_copies_d 682 1364 (0 : Int32) ((682 : Int32) * p1) (682 : Int32) fa0_town fa0_images) fun z2 => gi p1 2 (some ((1 : Int32), z2, (upd fa0_kept (p1).toNatClampNeg (1 : Int32)), fa0_refused)))
set_option maxHeartbeats 4000000 in
set_option maxRecDepth 100000 in
theorem c_X8_image (l : Launch) (E : wE) (a0 a0_text a0_town a0_draft a0_tried a0_images a0_kept a0_refused a0_line a0_best : Nat) (p1 : Int32) (a0_letters : Int32) (a0_above : Int64) (a0_below : Int64) (a0_at : Int32) (a0_start : Int32) (a0_isWell : Int32) (a0_faultAt : Int32) (fa0_town : Nat → Int32) (fa0_images : Nat → Int32) (fa0_kept : Nat → Int32) (fa0_refused : Nat → Int32) (z_0 : Int32) (z_1 : (Nat → Int32)) (z_2 : (Nat → Int32)) (z_3 : (Nat → Int32)) (hsp : sp_X8_image p1 fa0_town fa0_images fa0_kept fa0_refused = some (z_0, z_1, z_2, z_3)) : MW l yX8_image cX8_image 2 (some .int) 1 E [.ref a0, .int p1] [(a0, .inr (5, [.ref a0_text, .int a0_letters, .ref a0_town, .ref a0_draft, .ref a0_tried, .ref a0_images, .ref a0_kept, .ref a0_refused, .long a0_above, .long a0_below, .ref a0_line, .ref a0_best, .int a0_at, .int a0_start, .int a0_isWell, .int a0_faultAt])), (a0_town, aI E 682 fa0_town), (a0_images, aI E 1364 fa0_images), (a0_kept, aZ E 2 fa0_kept), (a0_refused, aI E 3 fa0_refused)] (some (.int z_0)) [(a0, .inr (5, [.ref a0_text, .int a0_letters, .ref a0_town, .ref a0_draft, .ref a0_tried, .ref a0_images, .ref a0_kept, .ref a0_refused, .long a0_above, .long a0_below, .ref a0_line, .ref a0_best, .int a0_at, .int a0_start, .int a0_isWell, .int a0_faultAt])), (a0_town, aI E 682 fa0_town), (a0_images, aI E 1364 z_1), (a0_kept, aZ E 2 z_2), (a0_refused, aI E 3 z_3)] := by
  refine MW.of (by decide +kernel) (Nat.le_of_ble_eq_true rfl) ?_
  intro p e s m below meth c ls A hX hK hP hD hS hA hl
  have hX : CX p s m [.ref a0, .int p1].toArray meth c cX8_image 2 (some .int) RX8 := hX
  have hx := hX.1; have hb := hX.2.1; have hts := hX.2.2.2.2.1; have hown := hX.2.2.2.2.2.1
  have hl : lv_has ls 2 [(0, .ref a0), (1, .int p1)] := hl
  have hP : wP E [(a0, .inr (5, [.ref a0_text, .int a0_letters, .ref a0_town, .ref a0_draft, .ref a0_tried, .ref a0_images, .ref a0_kept, .ref a0_refused, .long a0_above, .long a0_below, .ref a0_line, .ref a0_best, .int a0_at, .int a0_start, .int a0_isWell, .int a0_faultAt])), (a0_town, aI E 682 fa0_town), (a0_images, aI E 1364 fa0_images), (a0_kept, aZ E 2 fa0_kept), (a0_refused, aI E 3 fa0_refused)] s.heap := hP
  have hsp : (if (sp_X8_in p1 (0 : Int32) (1 : Int32)) = 0 then (lt_ (sp_X8_bad fa0_refused) fun z4 => some (z4.1, fa0_images, fa0_kept, z4.2)) else (Option.bind (sp_X8_copies_d 682 1364 (0 : Int32) ((682 : Int32) * p1) (682 : Int32) fa0_town fa0_images) fun z2 => gi p1 2 (some ((1 : Int32), z2, (upd fa0_kept (p1).toNatClampNeg (1 : Int32)), fa0_refused)))) = some (z_0, z_1, z_2, z_3) := hsp
  refine lv_iload_n hx hb dX8_image_0 rfl (lv_at hl 1 rfl) (W.pc 1 rfl ?_)
  refine lv_iconst (v := (0 : Int32)) hx hb dX8_image_1 (by decide) (W.pc 2 rfl ?_)
  refine lv_iconst (v := (1 : Int32)) hx hb dX8_image_2 (by decide) (W.pc 3 rfl ?_)
  refine kSR (st1 := [.int (sp_X8_in p1 (0 : Int32) (1 : Int32))]) hX (c_X8_in l E p1 (0 : Int32) (1 : Int32) _ rfl) B_X8_in w_4_125 hK (hP.pick [] rfl) rfl hl.1 rfl (Nat.le_of_ble_eq_true rfl) ⟨Nat.le_of_ble_eq_true rfl, Nat.le_of_ble_eq_true rfl⟩ dX8_image_3 rfl (W.pc 6 rfl ?_)
  refine lv_if_ne (tgt := 14) hx hb dX8_image_6 (by decide) (fun c1 => ?_) (fun c1 => W.pc 9 rfl ?_)
  · have hsp := iq hsp c1
    refine lv_aload_n hx hb dX8_image_14 rfl (lv_at hl 0 rfl) (W.pc 15 rfl ?_)
    refine va_get (D := E.1) (ci := 5) (v := .ref a0_town) (C := RX8) (T := TX8) (N := 16) hx hb hts inT_X8 hown hK hP 0 rfl rfl 2 (by decide) (hts _ w_4_70) (fun _ h9 => h9) rfl dX8_image_15 (W.pc 18 rfl ?_)
    refine lv_iconst (v := (0 : Int32)) hx hb dX8_image_18 (by decide) (W.pc 19 rfl ?_)
    refine lv_aload_n hx hb dX8_image_19 rfl (lv_at hl 0 rfl) (W.pc 20 rfl ?_)
    refine va_get (D := E.1) (ci := 5) (v := .ref a0_images) (C := RX8) (T := TX8) (N := 16) hx hb hts inT_X8 hown hK hP 0 rfl rfl 5 (by decide) (hts _ w_4_73) (fun _ h9 => h9) rfl dX8_image_20 (W.pc 23 rfl ?_)
    refine lv_sipush (v := (682 : Int32)) hx hb dX8_image_23 (by decide) (W.pc 26 rfl ?_)
    refine lv_iload_n hx hb dX8_image_26 rfl (lv_at hl 1 rfl) (W.pc 27 rfl ?_)
    refine lv_imul hx hb dX8_image_27 (W.pc 28 rfl ?_)
    refine lv_sipush (v := (682 : Int32)) hx hb dX8_image_28 (by decide) (W.pc 31 rfl ?_)
    obtain ⟨z2, hr_z2, hsp⟩ := bd_s hsp
    refine kSW (st1 := []) (ws' := [(a0, .inr (5, [.ref a0_text, .int a0_letters, .ref a0_town, .ref a0_draft, .ref a0_tried, .ref a0_images, .ref a0_kept, .ref a0_refused, .long a0_above, .long a0_below, .ref a0_line, .ref a0_best, .int a0_at, .int a0_start, .int a0_isWell, .int a0_faultAt])), (a0_town, aI E 682 fa0_town), (a0_images, aI E 1364 z2), (a0_kept, aZ E 2 fa0_kept), (a0_refused, aI E 3 fa0_refused)]) [1, 2] hX (c_X8_copies_d l E a0_town a0_images 682 (by decide) 1364 (by decide) (0 : Int32) ((682 : Int32) * p1) (682 : Int32) fa0_town fa0_images z2 hr_z2) B_X8_copies w_5_15 hK hP hD hS hA (by decide) rfl rfl rfl rfl hl.1 rfl (Nat.le_of_ble_eq_true rfl) ⟨Nat.le_of_ble_eq_true rfl, Nat.le_of_ble_eq_true rfl⟩ dX8_image_31 rfl (fun H locs hP hD hS => W.pc 34 rfl ?_)
    refine lv_aload_n hx hb dX8_image_34 rfl (lv_at hl 0 rfl) (W.pc 35 rfl ?_)
    refine va_get (D := E.1) (ci := 5) (v := .ref a0_kept) (C := RX8) (T := TX8) (N := 16) hx hb hts inT_X8 hown hK hP 0 rfl rfl 6 (by decide) (hts _ w_4_74) (fun _ h9 => h9) rfl dX8_image_35 (W.pc 38 rfl ?_)
    refine lv_iload_n hx hb dX8_image_38 rfl (lv_at hl 1 rfl) (W.pc 39 rfl ?_)
    refine lv_iconst (v := (1 : Int32)) hx hb dX8_image_39 (by decide) (W.pc 40 rfl ?_)
    obtain ⟨h3, hsp⟩ := gi_s hsp
    refine va_zast hx hb hK hP hD hS 3 1 rfl rfl (x := (1 : Int32)) h3 dX8_image_40 (fun H locs hP hD hS => W.pc 41 rfl ?_)
    have hP : wP E [(a0, .inr (5, [.ref a0_text, .int a0_letters, .ref a0_town, .ref a0_draft, .ref a0_tried, .ref a0_images, .ref a0_kept, .ref a0_refused, .long a0_above, .long a0_below, .ref a0_line, .ref a0_best, .int a0_at, .int a0_start, .int a0_isWell, .int a0_faultAt])), (a0_town, aI E 682 fa0_town), (a0_images, aI E 1364 z2), (a0_kept, aZ E 2 (upd fa0_kept (p1).toNatClampNeg (1 : Int32))), (a0_refused, aI E 3 fa0_refused)] _ := hP
    have hD : va_D A [(a0, .inr (5, [.ref a0_text, .int a0_letters, .ref a0_town, .ref a0_draft, .ref a0_tried, .ref a0_images, .ref a0_kept, .ref a0_refused, .long a0_above, .long a0_below, .ref a0_line, .ref a0_best, .int a0_at, .int a0_start, .int a0_isWell, .int a0_faultAt])), (a0_town, aI E 682 fa0_town), (a0_images, aI E 1364 z2), (a0_kept, aZ E 2 (upd fa0_kept (p1).toNatClampNeg (1 : Int32))), (a0_refused, aI E 3 fa0_refused)] := hD
    refine lv_iconst (v := (1 : Int32)) hx hb dX8_image_41 (by decide) (W.pc 42 rfl ?_)
    cases hsp
    exact rWi hX hP hS rfl rfl dX8_image_42
  · have hsp := ip hsp c1
    refine lv_aload_n hx hb dX8_image_9 rfl (lv_at hl 0 rfl) (W.pc 10 rfl ?_)
    obtain ⟨z4, hr_z4, hsp⟩ := ltb_s hsp
    refine kVW (st1 := [.int z4.1]) (ws' := [(a0, .inr (5, [.ref a0_text, .int a0_letters, .ref a0_town, .ref a0_draft, .ref a0_tried, .ref a0_images, .ref a0_kept, .ref a0_refused, .long a0_above, .long a0_below, .ref a0_line, .ref a0_best, .int a0_at, .int a0_start, .int a0_isWell, .int a0_faultAt])), (a0_town, aI E 682 fa0_town), (a0_images, aI E 1364 fa0_images), (a0_kept, aZ E 2 fa0_kept), (a0_refused, aI E 3 z4.2)]) [0, 4] hX (c_X8_bad l E a0 a0_text a0_town a0_draft a0_tried a0_images a0_kept a0_refused a0_line a0_best a0_letters a0_above a0_below a0_at a0_start a0_isWell a0_faultAt fa0_refused z4.1 z4.2 hr_z4) B_X8_bad w_4_128 hK hP hD hS hA (by decide) rfl rfl rfl (q0 := 0) (ci := 5) rfl rfl rfl rfl hl.1 rfl (Nat.le_of_ble_eq_true rfl) ⟨Nat.le_of_ble_eq_true rfl, Nat.le_of_ble_eq_true rfl⟩ dX8_image_10 rfl (fun H locs hP hD hS => W.pc 13 rfl ?_)
    cases hsp
    exact rWi hX hP hS rfl rfl dX8_image_13
noncomputable def sp_X8_from (p1 : Int32) (fa0_kept : Nat → Int32) (fa0_images : Nat → Int32) (fa0_town : Nat → Int32) (fa0_refused : Nat → Int32) : Option (Int32 × (Nat → Int32) × (Nat → Int32)) := if (sp_X8_in p1 (0 : Int32) (1 : Int32)) = 0 then (lt_ (sp_X8_bad fa0_refused) fun z6 => some (z6.1, fa0_town, z6.2)) else (gi p1 2 (if (fa0_kept (p1).toNatClampNeg) = 0 then (lt_ (sp_X8_no fa0_refused) fun z5 => some (z5.1, fa0_town, z5.2)) else (Option.bind (sp_X8_copies_d 1364 682 ((682 : Int32) * p1) (0 : Int32) (682 : Int32) fa0_images fa0_town) fun z4 => some ((1 : Int32), z4, fa0_refused))))
set_option maxHeartbeats 4000000 in
set_option maxRecDepth 100000 in
theorem c_X8_from (l : Launch) (E : wE) (a0 a0_text a0_town a0_draft a0_tried a0_images a0_kept a0_refused a0_line a0_best : Nat) (p1 : Int32) (a0_letters : Int32) (a0_above : Int64) (a0_below : Int64) (a0_at : Int32) (a0_start : Int32) (a0_isWell : Int32) (a0_faultAt : Int32) (fa0_kept : Nat → Int32) (fa0_images : Nat → Int32) (fa0_town : Nat → Int32) (fa0_refused : Nat → Int32) (z_0 : Int32) (z_1 : (Nat → Int32)) (z_2 : (Nat → Int32)) (hsp : sp_X8_from p1 fa0_kept fa0_images fa0_town fa0_refused = some (z_0, z_1, z_2)) : MW l yX8_from cX8_from 2 (some .int) 1 E [.ref a0, .int p1] [(a0, .inr (5, [.ref a0_text, .int a0_letters, .ref a0_town, .ref a0_draft, .ref a0_tried, .ref a0_images, .ref a0_kept, .ref a0_refused, .long a0_above, .long a0_below, .ref a0_line, .ref a0_best, .int a0_at, .int a0_start, .int a0_isWell, .int a0_faultAt])), (a0_kept, aZ E 2 fa0_kept), (a0_images, aI E 1364 fa0_images), (a0_town, aI E 682 fa0_town), (a0_refused, aI E 3 fa0_refused)] (some (.int z_0)) [(a0, .inr (5, [.ref a0_text, .int a0_letters, .ref a0_town, .ref a0_draft, .ref a0_tried, .ref a0_images, .ref a0_kept, .ref a0_refused, .long a0_above, .long a0_below, .ref a0_line, .ref a0_best, .int a0_at, .int a0_start, .int a0_isWell, .int a0_faultAt])), (a0_kept, aZ E 2 fa0_kept), (a0_images, aI E 1364 fa0_images), (a0_town, aI E 682 z_1), (a0_refused, aI E 3 z_2)] := by
  refine MW.of (by decide +kernel) (Nat.le_of_ble_eq_true rfl) ?_
  intro p e s m below meth c ls A hX hK hP hD hS hA hl
  have hX : CX p s m [.ref a0, .int p1].toArray meth c cX8_from 2 (some .int) RX8 := hX
  have hx := hX.1; have hb := hX.2.1; have hts := hX.2.2.2.2.1; have hown := hX.2.2.2.2.2.1
  have hl : lv_has ls 2 [(0, .ref a0), (1, .int p1)] := hl
  have hP : wP E [(a0, .inr (5, [.ref a0_text, .int a0_letters, .ref a0_town, .ref a0_draft, .ref a0_tried, .ref a0_images, .ref a0_kept, .ref a0_refused, .long a0_above, .long a0_below, .ref a0_line, .ref a0_best, .int a0_at, .int a0_start, .int a0_isWell, .int a0_faultAt])), (a0_kept, aZ E 2 fa0_kept), (a0_images, aI E 1364 fa0_images), (a0_town, aI E 682 fa0_town), (a0_refused, aI E 3 fa0_refused)] s.heap := hP
  have hsp : (if (sp_X8_in p1 (0 : Int32) (1 : Int32)) = 0 then (lt_ (sp_X8_bad fa0_refused) fun z6 => some (z6.1, fa0_town, z6.2)) else (gi p1 2 (if (fa0_kept (p1).toNatClampNeg) = 0 then (lt_ (sp_X8_no fa0_refused) fun z5 => some (z5.1, fa0_town, z5.2)) else (Option.bind (sp_X8_copies_d 1364 682 ((682 : Int32) * p1) (0 : Int32) (682 : Int32) fa0_images fa0_town) fun z4 => some ((1 : Int32), z4, fa0_refused))))) = some (z_0, z_1, z_2) := hsp
  refine lv_iload_n hx hb dX8_from_0 rfl (lv_at hl 1 rfl) (W.pc 1 rfl ?_)
  refine lv_iconst (v := (0 : Int32)) hx hb dX8_from_1 (by decide) (W.pc 2 rfl ?_)
  refine lv_iconst (v := (1 : Int32)) hx hb dX8_from_2 (by decide) (W.pc 3 rfl ?_)
  refine kSR (st1 := [.int (sp_X8_in p1 (0 : Int32) (1 : Int32))]) hX (c_X8_in l E p1 (0 : Int32) (1 : Int32) _ rfl) B_X8_in w_4_125 hK (hP.pick [] rfl) rfl hl.1 rfl (Nat.le_of_ble_eq_true rfl) ⟨Nat.le_of_ble_eq_true rfl, Nat.le_of_ble_eq_true rfl⟩ dX8_from_3 rfl (W.pc 6 rfl ?_)
  refine lv_if_ne (tgt := 14) hx hb dX8_from_6 (by decide) (fun c1 => ?_) (fun c1 => W.pc 9 rfl ?_)
  · have hsp := iq hsp c1
    refine lv_aload_n hx hb dX8_from_14 rfl (lv_at hl 0 rfl) (W.pc 15 rfl ?_)
    refine va_get (D := E.1) (ci := 5) (v := .ref a0_kept) (C := RX8) (T := TX8) (N := 16) hx hb hts inT_X8 hown hK hP 0 rfl rfl 6 (by decide) (hts _ w_4_74) (fun _ h9 => h9) rfl dX8_from_15 (W.pc 18 rfl ?_)
    refine lv_iload_n hx hb dX8_from_18 rfl (lv_at hl 1 rfl) (W.pc 19 rfl ?_)
    obtain ⟨h2, hsp⟩ := gi_s hsp
    refine va_zald hx hb hK hP 1 1 rfl rfl h2 dX8_from_19 (W.pc 20 rfl ?_)
    refine lv_if_ne (tgt := 28) hx hb dX8_from_20 (by decide) (fun c3 => ?_) (fun c3 => W.pc 23 rfl ?_)
    · have hsp := iq hsp c3
      refine lv_aload_n hx hb dX8_from_28 rfl (lv_at hl 0 rfl) (W.pc 29 rfl ?_)
      refine va_get (D := E.1) (ci := 5) (v := .ref a0_images) (C := RX8) (T := TX8) (N := 16) hx hb hts inT_X8 hown hK hP 0 rfl rfl 5 (by decide) (hts _ w_4_73) (fun _ h9 => h9) rfl dX8_from_29 (W.pc 32 rfl ?_)
      refine lv_sipush (v := (682 : Int32)) hx hb dX8_from_32 (by decide) (W.pc 35 rfl ?_)
      refine lv_iload_n hx hb dX8_from_35 rfl (lv_at hl 1 rfl) (W.pc 36 rfl ?_)
      refine lv_imul hx hb dX8_from_36 (W.pc 37 rfl ?_)
      refine lv_aload_n hx hb dX8_from_37 rfl (lv_at hl 0 rfl) (W.pc 38 rfl ?_)
      refine va_get (D := E.1) (ci := 5) (v := .ref a0_town) (C := RX8) (T := TX8) (N := 16) hx hb hts inT_X8 hown hK hP 0 rfl rfl 2 (by decide) (hts _ w_4_70) (fun _ h9 => h9) rfl dX8_from_38 (W.pc 41 rfl ?_)
      refine lv_iconst (v := (0 : Int32)) hx hb dX8_from_41 (by decide) (W.pc 42 rfl ?_)
      refine lv_sipush (v := (682 : Int32)) hx hb dX8_from_42 (by decide) (W.pc 45 rfl ?_)
      obtain ⟨z4, hr_z4, hsp⟩ := bd_s hsp
      refine kSW (st1 := []) (ws' := [(a0, .inr (5, [.ref a0_text, .int a0_letters, .ref a0_town, .ref a0_draft, .ref a0_tried, .ref a0_images, .ref a0_kept, .ref a0_refused, .long a0_above, .long a0_below, .ref a0_line, .ref a0_best, .int a0_at, .int a0_start, .int a0_isWell, .int a0_faultAt])), (a0_kept, aZ E 2 fa0_kept), (a0_images, aI E 1364 fa0_images), (a0_town, aI E 682 z4), (a0_refused, aI E 3 fa0_refused)]) [2, 3] hX (c_X8_copies_d l E a0_images a0_town 1364 (by decide) 682 (by decide) ((682 : Int32) * p1) (0 : Int32) (682 : Int32) fa0_images fa0_town z4 hr_z4) B_X8_copies w_5_15 hK hP hD hS hA (by decide) rfl rfl rfl rfl hl.1 rfl (Nat.le_of_ble_eq_true rfl) ⟨Nat.le_of_ble_eq_true rfl, Nat.le_of_ble_eq_true rfl⟩ dX8_from_45 rfl (fun H locs hP hD hS => W.pc 48 rfl ?_)
      refine lv_iconst (v := (1 : Int32)) hx hb dX8_from_48 (by decide) (W.pc 49 rfl ?_)
      cases hsp
      exact rWi hX hP hS rfl rfl dX8_from_49
    · have hsp := ip hsp c3
      refine lv_aload_n hx hb dX8_from_23 rfl (lv_at hl 0 rfl) (W.pc 24 rfl ?_)
      obtain ⟨z5, hr_z5, hsp⟩ := ltb_s hsp
      refine kVW (st1 := [.int z5.1]) (ws' := [(a0, .inr (5, [.ref a0_text, .int a0_letters, .ref a0_town, .ref a0_draft, .ref a0_tried, .ref a0_images, .ref a0_kept, .ref a0_refused, .long a0_above, .long a0_below, .ref a0_line, .ref a0_best, .int a0_at, .int a0_start, .int a0_isWell, .int a0_faultAt])), (a0_kept, aZ E 2 fa0_kept), (a0_images, aI E 1364 fa0_images), (a0_town, aI E 682 fa0_town), (a0_refused, aI E 3 z5.2)]) [0, 4] hX (c_X8_no l E a0 a0_text a0_town a0_draft a0_tried a0_images a0_kept a0_refused a0_line a0_best a0_letters a0_above a0_below a0_at a0_start a0_isWell a0_faultAt fa0_refused z5.1 z5.2 hr_z5) B_X8_no w_5_34 hK hP hD hS hA (by decide) rfl rfl rfl (q0 := 0) (ci := 5) rfl rfl rfl rfl hl.1 rfl (Nat.le_of_ble_eq_true rfl) ⟨Nat.le_of_ble_eq_true rfl, Nat.le_of_ble_eq_true rfl⟩ dX8_from_24 rfl (fun H locs hP hD hS => W.pc 27 rfl ?_)
      cases hsp
      exact rWi hX hP hS rfl rfl dX8_from_27
  · have hsp := ip hsp c1
    refine lv_aload_n hx hb dX8_from_9 rfl (lv_at hl 0 rfl) (W.pc 10 rfl ?_)
    obtain ⟨z6, hr_z6, hsp⟩ := ltb_s hsp
    refine kVW (st1 := [.int z6.1]) (ws' := [(a0, .inr (5, [.ref a0_text, .int a0_letters, .ref a0_town, .ref a0_draft, .ref a0_tried, .ref a0_images, .ref a0_kept, .ref a0_refused, .long a0_above, .long a0_below, .ref a0_line, .ref a0_best, .int a0_at, .int a0_start, .int a0_isWell, .int a0_faultAt])), (a0_kept, aZ E 2 fa0_kept), (a0_images, aI E 1364 fa0_images), (a0_town, aI E 682 fa0_town), (a0_refused, aI E 3 z6.2)]) [0, 4] hX (c_X8_bad l E a0 a0_text a0_town a0_draft a0_tried a0_images a0_kept a0_refused a0_line a0_best a0_letters a0_above a0_below a0_at a0_start a0_isWell a0_faultAt fa0_refused z6.1 z6.2 hr_z6) B_X8_bad w_4_128 hK hP hD hS hA (by decide) rfl rfl rfl (q0 := 0) (ci := 5) rfl rfl rfl rfl hl.1 rfl (Nat.le_of_ble_eq_true rfl) ⟨Nat.le_of_ble_eq_true rfl, Nat.le_of_ble_eq_true rfl⟩ dX8_from_10 rfl (fun H locs hP hD hS => W.pc 13 rfl ?_)
    cases hsp
    exact rWi hX hP hS rfl rfl dX8_from_13
noncomputable def sp_X8_status (p1 : Int32) (fa0_refused : Nat → Int32) : Option (Int32 × (Nat → Int32)) := if (sp_X8_in p1 (0 : Int32) (2 : Int32)) = 0 then (lt_ (sp_X8_badly (-1 : Int32) fa0_refused) fun z2 => some (z2.1, z2.2)) else (gi p1 3 (some ((fa0_refused (p1).toNatClampNeg), fa0_refused)))
set_option maxHeartbeats 4000000 in
set_option maxRecDepth 100000 in
theorem c_X8_status (l : Launch) (E : wE) (a0 a0_text a0_town a0_draft a0_tried a0_images a0_kept a0_refused a0_line a0_best : Nat) (p1 : Int32) (a0_letters : Int32) (a0_above : Int64) (a0_below : Int64) (a0_at : Int32) (a0_start : Int32) (a0_isWell : Int32) (a0_faultAt : Int32) (fa0_refused : Nat → Int32) (z_0 : Int32) (z_1 : (Nat → Int32)) (hsp : sp_X8_status p1 fa0_refused = some (z_0, z_1)) : MW l yX8_status cX8_status 2 (some .int) 1 E [.ref a0, .int p1] [(a0, .inr (5, [.ref a0_text, .int a0_letters, .ref a0_town, .ref a0_draft, .ref a0_tried, .ref a0_images, .ref a0_kept, .ref a0_refused, .long a0_above, .long a0_below, .ref a0_line, .ref a0_best, .int a0_at, .int a0_start, .int a0_isWell, .int a0_faultAt])), (a0_refused, aI E 3 fa0_refused)] (some (.int z_0)) [(a0, .inr (5, [.ref a0_text, .int a0_letters, .ref a0_town, .ref a0_draft, .ref a0_tried, .ref a0_images, .ref a0_kept, .ref a0_refused, .long a0_above, .long a0_below, .ref a0_line, .ref a0_best, .int a0_at, .int a0_start, .int a0_isWell, .int a0_faultAt])), (a0_refused, aI E 3 z_1)] := by
  refine MW.of (by decide +kernel) (Nat.le_of_ble_eq_true rfl) ?_
  intro p e s m below meth c ls A hX hK hP hD hS hA hl
  have hX : CX p s m [.ref a0, .int p1].toArray meth c cX8_status 2 (some .int) RX8 := hX
  have hx := hX.1; have hb := hX.2.1; have hts := hX.2.2.2.2.1; have hown := hX.2.2.2.2.2.1
  have hl : lv_has ls 2 [(0, .ref a0), (1, .int p1)] := hl
  have hP : wP E [(a0, .inr (5, [.ref a0_text, .int a0_letters, .ref a0_town, .ref a0_draft, .ref a0_tried, .ref a0_images, .ref a0_kept, .ref a0_refused, .long a0_above, .long a0_below, .ref a0_line, .ref a0_best, .int a0_at, .int a0_start, .int a0_isWell, .int a0_faultAt])), (a0_refused, aI E 3 fa0_refused)] s.heap := hP
  have hsp : (if (sp_X8_in p1 (0 : Int32) (2 : Int32)) = 0 then (lt_ (sp_X8_badly (-1 : Int32) fa0_refused) fun z2 => some (z2.1, z2.2)) else (gi p1 3 (some ((fa0_refused (p1).toNatClampNeg), fa0_refused)))) = some (z_0, z_1) := hsp
  refine lv_iload_n hx hb dX8_status_0 rfl (lv_at hl 1 rfl) (W.pc 1 rfl ?_)
  refine lv_iconst (v := (0 : Int32)) hx hb dX8_status_1 (by decide) (W.pc 2 rfl ?_)
  refine lv_iconst (v := (2 : Int32)) hx hb dX8_status_2 (by decide) (W.pc 3 rfl ?_)
  refine kSR (st1 := [.int (sp_X8_in p1 (0 : Int32) (2 : Int32))]) hX (c_X8_in l E p1 (0 : Int32) (2 : Int32) _ rfl) B_X8_in w_4_125 hK (hP.pick [] rfl) rfl hl.1 rfl (Nat.le_of_ble_eq_true rfl) ⟨Nat.le_of_ble_eq_true rfl, Nat.le_of_ble_eq_true rfl⟩ dX8_status_3 rfl (W.pc 6 rfl ?_)
  refine lv_if_eq (tgt := 18) hx hb dX8_status_6 (by decide) (fun c1 => ?_) (fun c1 => W.pc 9 rfl ?_)
  · have hsp := ip hsp c1
    refine lv_aload_n hx hb dX8_status_18 rfl (lv_at hl 0 rfl) (W.pc 19 rfl ?_)
    refine lv_iconst (v := (-1 : Int32)) hx hb dX8_status_19 (by decide) (W.pc 20 rfl ?_)
    obtain ⟨z2, hr_z2, hsp⟩ := ltb_s hsp
    refine kVW (st1 := [.int z2.1]) (ws' := [(a0, .inr (5, [.ref a0_text, .int a0_letters, .ref a0_town, .ref a0_draft, .ref a0_tried, .ref a0_images, .ref a0_kept, .ref a0_refused, .long a0_above, .long a0_below, .ref a0_line, .ref a0_best, .int a0_at, .int a0_start, .int a0_isWell, .int a0_faultAt])), (a0_refused, aI E 3 z2.2)]) [0, 1] hX (c_X8_badly l E a0 a0_text a0_town a0_draft a0_tried a0_images a0_kept a0_refused a0_line a0_best (-1 : Int32) a0_letters a0_above a0_below a0_at a0_start a0_isWell a0_faultAt fa0_refused z2.1 z2.2 hr_z2) B_X8_badly w_4_148 hK hP hD hS hA (by decide) rfl rfl rfl (q0 := 0) (ci := 5) rfl rfl rfl rfl hl.1 rfl (Nat.le_of_ble_eq_true rfl) ⟨Nat.le_of_ble_eq_true rfl, Nat.le_of_ble_eq_true rfl⟩ dX8_status_20 rfl (fun H locs hP hD hS => W.pc 23 rfl ?_)
    cases hsp
    exact rWi hX hP hS rfl rfl dX8_status_23
  · have hsp := iq hsp c1
    refine lv_aload_n hx hb dX8_status_9 rfl (lv_at hl 0 rfl) (W.pc 10 rfl ?_)
    refine va_get (D := E.1) (ci := 5) (v := .ref a0_refused) (C := RX8) (T := TX8) (N := 16) hx hb hts inT_X8 hown hK hP 0 rfl rfl 7 (by decide) (hts _ w_4_75) (fun _ h9 => h9) rfl dX8_status_10 (W.pc 13 rfl ?_)
    refine lv_iload_n hx hb dX8_status_13 rfl (lv_at hl 1 rfl) (W.pc 14 rfl ?_)
    obtain ⟨h3, hsp⟩ := gi_s hsp
    refine va_iald hx hb hK hP 1 0 rfl rfl h3 dX8_status_14 (W.pc 15 rfl ?_)
    refine lv_goto (tgt := 23) hx hb dX8_status_15 (by decide) ?_
    cases hsp
    exact rWi hX hP hS rfl rfl dX8_status_23
noncomputable def sp_X8_countOf (p1 : Int32) (a0_letters : Int32) (fa0_town : Nat → Int32) : Option (Int32) := if p1 = (0 : Int32) then (Option.bind (sp_X8_storeys fa0_town) fun z2 => some z2) else (if p1 = (1 : Int32) then (some (fa0_town ((2 : Int32)).toNatClampNeg)) else (if p1 = (2 : Int32) then (some (fa0_town ((75 : Int32)).toNatClampNeg)) else (if p1 = (3 : Int32) then (some (fa0_town ((81 : Int32)).toNatClampNeg)) else (if p1 = (4 : Int32) then (some (fa0_town ((106 : Int32)).toNatClampNeg)) else (if p1 = (5 : Int32) then (some (fa0_town ((137 : Int32)).toNatClampNeg)) else ((some a0_letters)))))))
set_option maxHeartbeats 4000000 in
set_option maxRecDepth 100000 in
theorem c_X8_countOf (l : Launch) (E : wE) (a0 a0_text a0_town a0_draft a0_tried a0_images a0_kept a0_refused a0_line a0_best : Nat) (p1 : Int32) (a0_letters : Int32) (a0_above : Int64) (a0_below : Int64) (a0_at : Int32) (a0_start : Int32) (a0_isWell : Int32) (a0_faultAt : Int32) (fa0_town : Nat → Int32) (z : Int32) (hsp : sp_X8_countOf p1 a0_letters fa0_town = some z) : MR l yX8_countOf cX8_countOf 2 (some .int) 1 E [.ref a0, .int p1] [(a0, .inr (5, [.ref a0_text, .int a0_letters, .ref a0_town, .ref a0_draft, .ref a0_tried, .ref a0_images, .ref a0_kept, .ref a0_refused, .long a0_above, .long a0_below, .ref a0_line, .ref a0_best, .int a0_at, .int a0_start, .int a0_isWell, .int a0_faultAt])), (a0_town, aI E 682 fa0_town)] (some (.int z)) := by
  refine MR.of (by decide +kernel) (Nat.le_of_ble_eq_true rfl) ?_
  intro p e s m below meth c ls hX hK hP hl
  have hX : CX p s m [.ref a0, .int p1].toArray meth c cX8_countOf 2 (some .int) RX8 := hX
  have hx := hX.1; have hb := hX.2.1; have hts := hX.2.2.2.2.1; have hown := hX.2.2.2.2.2.1
  have hl : lv_has ls 2 [(0, .ref a0), (1, .int p1)] := hl
  have hsp : (if p1 = (0 : Int32) then (Option.bind (sp_X8_storeys fa0_town) fun z2 => some z2) else (if p1 = (1 : Int32) then (some (fa0_town ((2 : Int32)).toNatClampNeg)) else (if p1 = (2 : Int32) then (some (fa0_town ((75 : Int32)).toNatClampNeg)) else (if p1 = (3 : Int32) then (some (fa0_town ((81 : Int32)).toNatClampNeg)) else (if p1 = (4 : Int32) then (some (fa0_town ((106 : Int32)).toNatClampNeg)) else (if p1 = (5 : Int32) then (some (fa0_town ((137 : Int32)).toNatClampNeg)) else ((some a0_letters)))))))) = some z := hsp
  refine lv_iload_n hx hb dX8_countOf_0 rfl (lv_at hl 1 rfl) (W.pc 1 rfl ?_)
  by_cases c1 : p1 = (0 : Int32)
  · have hsp := ip hsp c1
    refine lv_tableIn (off := 39) (tgt := 40) hx hb dX8_countOf_1 (by rw [c1]; decide) (by rw [c1]; decide) (by rw [c1]; rfl) (by decide) ?_
    refine lv_aload_n hx hb dX8_countOf_40 rfl (lv_at hl 0 rfl) (W.pc 41 rfl ?_)
    refine va_get (D := E.1) (ci := 5) (v := .ref a0_town) (C := RX8) (T := TX8) (N := 16) hx hb hts inT_X8 hown hK hP 0 rfl rfl 2 (by decide) (hts _ w_4_70) (fun _ h9 => h9) rfl dX8_countOf_41 (W.pc 44 rfl ?_)
    obtain ⟨z2, hr_z2, hsp⟩ := bd_s hsp
    refine kSR (st1 := [.int z2]) hX (c_X8_storeys l E a0_town fa0_town z2 hr_z2) B_X8_storeys w_4_132 hK (hP.pick [1] rfl) rfl hl.1 rfl (Nat.le_of_ble_eq_true rfl) ⟨Nat.le_of_ble_eq_true rfl, Nat.le_of_ble_eq_true rfl⟩ dX8_countOf_44 rfl (W.pc 47 rfl ?_)
    obtain rfl := Option.some.inj hsp
    exact rRi hX rfl dX8_countOf_47
  · have hsp := iq hsp c1
    by_cases c3 : p1 = (1 : Int32)
    · have hsp := ip hsp c3
      refine lv_tableIn (off := 47) (tgt := 48) hx hb dX8_countOf_1 (by rw [c3]; decide) (by rw [c3]; decide) (by rw [c3]; rfl) (by decide) ?_
      refine lv_aload_n hx hb dX8_countOf_48 rfl (lv_at hl 0 rfl) (W.pc 49 rfl ?_)
      refine va_get (D := E.1) (ci := 5) (v := .ref a0_town) (C := RX8) (T := TX8) (N := 16) hx hb hts inT_X8 hown hK hP 0 rfl rfl 2 (by decide) (hts _ w_4_70) (fun _ h9 => h9) rfl dX8_countOf_49 (W.pc 52 rfl ?_)
      refine lv_iconst (v := (2 : Int32)) hx hb dX8_countOf_52 (by decide) (W.pc 53 rfl ?_)
      refine va_iald hx hb hK hP 1 0 rfl rfl (vp_in_nI (n := 2) (N := 682) (by decide) (by decide)) dX8_countOf_53 (W.pc 54 rfl ?_)
      obtain rfl := Option.some.inj hsp
      exact rRi hX rfl dX8_countOf_54
    · have hsp := iq hsp c3
      by_cases c4 : p1 = (2 : Int32)
      · have hsp := ip hsp c4
        refine lv_tableIn (off := 54) (tgt := 55) hx hb dX8_countOf_1 (by rw [c4]; decide) (by rw [c4]; decide) (by rw [c4]; rfl) (by decide) ?_
        refine lv_aload_n hx hb dX8_countOf_55 rfl (lv_at hl 0 rfl) (W.pc 56 rfl ?_)
        refine va_get (D := E.1) (ci := 5) (v := .ref a0_town) (C := RX8) (T := TX8) (N := 16) hx hb hts inT_X8 hown hK hP 0 rfl rfl 2 (by decide) (hts _ w_4_70) (fun _ h9 => h9) rfl dX8_countOf_56 (W.pc 59 rfl ?_)
        refine lv_bipush (v := (75 : Int32)) hx hb dX8_countOf_59 (by decide) (W.pc 61 rfl ?_)
        refine va_iald hx hb hK hP 1 0 rfl rfl (vp_in_nI (n := 75) (N := 682) (by decide) (by decide)) dX8_countOf_61 (W.pc 62 rfl ?_)
        obtain rfl := Option.some.inj hsp
        exact rRi hX rfl dX8_countOf_62
      · have hsp := iq hsp c4
        by_cases c5 : p1 = (3 : Int32)
        · have hsp := ip hsp c5
          refine lv_tableIn (off := 62) (tgt := 63) hx hb dX8_countOf_1 (by rw [c5]; decide) (by rw [c5]; decide) (by rw [c5]; rfl) (by decide) ?_
          refine lv_aload_n hx hb dX8_countOf_63 rfl (lv_at hl 0 rfl) (W.pc 64 rfl ?_)
          refine va_get (D := E.1) (ci := 5) (v := .ref a0_town) (C := RX8) (T := TX8) (N := 16) hx hb hts inT_X8 hown hK hP 0 rfl rfl 2 (by decide) (hts _ w_4_70) (fun _ h9 => h9) rfl dX8_countOf_64 (W.pc 67 rfl ?_)
          refine lv_bipush (v := (81 : Int32)) hx hb dX8_countOf_67 (by decide) (W.pc 69 rfl ?_)
          refine va_iald hx hb hK hP 1 0 rfl rfl (vp_in_nI (n := 81) (N := 682) (by decide) (by decide)) dX8_countOf_69 (W.pc 70 rfl ?_)
          obtain rfl := Option.some.inj hsp
          exact rRi hX rfl dX8_countOf_70
        · have hsp := iq hsp c5
          by_cases c6 : p1 = (4 : Int32)
          · have hsp := ip hsp c6
            refine lv_tableIn (off := 70) (tgt := 71) hx hb dX8_countOf_1 (by rw [c6]; decide) (by rw [c6]; decide) (by rw [c6]; rfl) (by decide) ?_
            refine lv_aload_n hx hb dX8_countOf_71 rfl (lv_at hl 0 rfl) (W.pc 72 rfl ?_)
            refine va_get (D := E.1) (ci := 5) (v := .ref a0_town) (C := RX8) (T := TX8) (N := 16) hx hb hts inT_X8 hown hK hP 0 rfl rfl 2 (by decide) (hts _ w_4_70) (fun _ h9 => h9) rfl dX8_countOf_72 (W.pc 75 rfl ?_)
            refine lv_bipush (v := (106 : Int32)) hx hb dX8_countOf_75 (by decide) (W.pc 77 rfl ?_)
            refine va_iald hx hb hK hP 1 0 rfl rfl (vp_in_nI (n := 106) (N := 682) (by decide) (by decide)) dX8_countOf_77 (W.pc 78 rfl ?_)
            obtain rfl := Option.some.inj hsp
            exact rRi hX rfl dX8_countOf_78
          · have hsp := iq hsp c6
            by_cases c7 : p1 = (5 : Int32)
            · have hsp := ip hsp c7
              refine lv_tableIn (off := 78) (tgt := 79) hx hb dX8_countOf_1 (by rw [c7]; decide) (by rw [c7]; decide) (by rw [c7]; rfl) (by decide) ?_
              refine lv_aload_n hx hb dX8_countOf_79 rfl (lv_at hl 0 rfl) (W.pc 80 rfl ?_)
              refine va_get (D := E.1) (ci := 5) (v := .ref a0_town) (C := RX8) (T := TX8) (N := 16) hx hb hts inT_X8 hown hK hP 0 rfl rfl 2 (by decide) (hts _ w_4_70) (fun _ h9 => h9) rfl dX8_countOf_80 (W.pc 83 rfl ?_)
              refine lv_sipush (v := (137 : Int32)) hx hb dX8_countOf_83 (by decide) (W.pc 86 rfl ?_)
              refine va_iald hx hb hK hP 1 0 rfl rfl (vp_in_nI (n := 137) (N := 682) (by decide) (by decide)) dX8_countOf_86 (W.pc 87 rfl ?_)
              obtain rfl := Option.some.inj hsp
              exact rRi hX rfl dX8_countOf_87
            · have hsp := iq hsp c7
              refine lv_tableOut (tgt := 88) hx hb dX8_countOf_1 (by have := lv_neT c1 (a := 0) rfl; have := lv_neT c3 (a := 1) rfl; have := lv_neT c4 (a := 2) rfl; have := lv_neT c5 (a := 3) rfl; have := lv_neT c6 (a := 4) rfl; have := lv_neT c7 (a := 5) rfl;  omega) (by decide) ?_
              refine lv_aload_n hx hb dX8_countOf_88 rfl (lv_at hl 0 rfl) (W.pc 89 rfl ?_)
              refine va_get (D := E.1) (ci := 5) (v := .int a0_letters) (C := RX8) (T := TX8) (N := 16) hx hb hts inT_X8 hown hK hP 0 rfl rfl 1 (by decide) (hts _ w_4_69) (fun _ h9 => h9) rfl dX8_countOf_89 (W.pc 92 rfl ?_)
              obtain rfl := Option.some.inj hsp
              exact rRi hX rfl dX8_countOf_92
noncomputable def sp_X8_count (p1 : Int32) (a0_letters : Int32) (fa0_refused : Nat → Int32) (fa0_town : Nat → Int32) : Option (Int32 × (Nat → Int32)) := if (sp_X8_in p1 (0 : Int32) (6 : Int32)) = 0 then (lt_ (sp_X8_bad fa0_refused) fun z2 => some (z2.1, z2.2)) else (Option.bind (sp_X8_countOf p1 a0_letters fa0_town) fun z3 => some (z3, fa0_refused))
set_option maxHeartbeats 4000000 in
set_option maxRecDepth 100000 in
theorem c_X8_count (l : Launch) (E : wE) (a0 a0_text a0_town a0_draft a0_tried a0_images a0_kept a0_refused a0_line a0_best : Nat) (p1 : Int32) (a0_letters : Int32) (a0_above : Int64) (a0_below : Int64) (a0_at : Int32) (a0_start : Int32) (a0_isWell : Int32) (a0_faultAt : Int32) (fa0_refused : Nat → Int32) (fa0_town : Nat → Int32) (z_0 : Int32) (z_1 : (Nat → Int32)) (hsp : sp_X8_count p1 a0_letters fa0_refused fa0_town = some (z_0, z_1)) : MW l yX8_count cX8_count 2 (some .int) 2 E [.ref a0, .int p1] [(a0, .inr (5, [.ref a0_text, .int a0_letters, .ref a0_town, .ref a0_draft, .ref a0_tried, .ref a0_images, .ref a0_kept, .ref a0_refused, .long a0_above, .long a0_below, .ref a0_line, .ref a0_best, .int a0_at, .int a0_start, .int a0_isWell, .int a0_faultAt])), (a0_refused, aI E 3 fa0_refused), (a0_town, aI E 682 fa0_town)] (some (.int z_0)) [(a0, .inr (5, [.ref a0_text, .int a0_letters, .ref a0_town, .ref a0_draft, .ref a0_tried, .ref a0_images, .ref a0_kept, .ref a0_refused, .long a0_above, .long a0_below, .ref a0_line, .ref a0_best, .int a0_at, .int a0_start, .int a0_isWell, .int a0_faultAt])), (a0_refused, aI E 3 z_1), (a0_town, aI E 682 fa0_town)] := by
  refine MW.of (by decide +kernel) (Nat.le_of_ble_eq_true rfl) ?_
  intro p e s m below meth c ls A hX hK hP hD hS hA hl
  have hX : CX p s m [.ref a0, .int p1].toArray meth c cX8_count 2 (some .int) RX8 := hX
  have hx := hX.1; have hb := hX.2.1; have hts := hX.2.2.2.2.1; have hown := hX.2.2.2.2.2.1
  have hl : lv_has ls 2 [(0, .ref a0), (1, .int p1)] := hl
  have hP : wP E [(a0, .inr (5, [.ref a0_text, .int a0_letters, .ref a0_town, .ref a0_draft, .ref a0_tried, .ref a0_images, .ref a0_kept, .ref a0_refused, .long a0_above, .long a0_below, .ref a0_line, .ref a0_best, .int a0_at, .int a0_start, .int a0_isWell, .int a0_faultAt])), (a0_refused, aI E 3 fa0_refused), (a0_town, aI E 682 fa0_town)] s.heap := hP
  have hsp : (if (sp_X8_in p1 (0 : Int32) (6 : Int32)) = 0 then (lt_ (sp_X8_bad fa0_refused) fun z2 => some (z2.1, z2.2)) else (Option.bind (sp_X8_countOf p1 a0_letters fa0_town) fun z3 => some (z3, fa0_refused))) = some (z_0, z_1) := hsp
  refine lv_iload_n hx hb dX8_count_0 rfl (lv_at hl 1 rfl) (W.pc 1 rfl ?_)
  refine lv_iconst (v := (0 : Int32)) hx hb dX8_count_1 (by decide) (W.pc 2 rfl ?_)
  refine lv_bipush (v := (6 : Int32)) hx hb dX8_count_2 (by decide) (W.pc 4 rfl ?_)
  refine kSR (st1 := [.int (sp_X8_in p1 (0 : Int32) (6 : Int32))]) hX (c_X8_in l E p1 (0 : Int32) (6 : Int32) _ rfl) B_X8_in w_4_125 hK (hP.pick [] rfl) rfl hl.1 rfl (Nat.le_of_ble_eq_true rfl) ⟨Nat.le_of_ble_eq_true rfl, Nat.le_of_ble_eq_true rfl⟩ dX8_count_4 rfl (W.pc 7 rfl ?_)
  refine lv_if_eq (tgt := 18) hx hb dX8_count_7 (by decide) (fun c1 => ?_) (fun c1 => W.pc 10 rfl ?_)
  · have hsp := ip hsp c1
    refine lv_aload_n hx hb dX8_count_18 rfl (lv_at hl 0 rfl) (W.pc 19 rfl ?_)
    obtain ⟨z2, hr_z2, hsp⟩ := ltb_s hsp
    refine kVW (st1 := [.int z2.1]) (ws' := [(a0, .inr (5, [.ref a0_text, .int a0_letters, .ref a0_town, .ref a0_draft, .ref a0_tried, .ref a0_images, .ref a0_kept, .ref a0_refused, .long a0_above, .long a0_below, .ref a0_line, .ref a0_best, .int a0_at, .int a0_start, .int a0_isWell, .int a0_faultAt])), (a0_refused, aI E 3 z2.2), (a0_town, aI E 682 fa0_town)]) [0, 1] hX (c_X8_bad l E a0 a0_text a0_town a0_draft a0_tried a0_images a0_kept a0_refused a0_line a0_best a0_letters a0_above a0_below a0_at a0_start a0_isWell a0_faultAt fa0_refused z2.1 z2.2 hr_z2) B_X8_bad w_4_128 hK hP hD hS hA (by decide) rfl rfl rfl (q0 := 0) (ci := 5) rfl rfl rfl rfl hl.1 rfl (Nat.le_of_ble_eq_true rfl) ⟨Nat.le_of_ble_eq_true rfl, Nat.le_of_ble_eq_true rfl⟩ dX8_count_19 rfl (fun H locs hP hD hS => W.pc 22 rfl ?_)
    cases hsp
    exact rWi hX hP hS rfl rfl dX8_count_22
  · have hsp := iq hsp c1
    refine lv_aload_n hx hb dX8_count_10 rfl (lv_at hl 0 rfl) (W.pc 11 rfl ?_)
    refine lv_iload_n hx hb dX8_count_11 rfl (lv_at hl 1 rfl) (W.pc 12 rfl ?_)
    obtain ⟨z3, hr_z3, hsp⟩ := bd_s hsp
    refine kVR (st1 := [.int z3]) hX (c_X8_countOf l E a0 a0_text a0_town a0_draft a0_tried a0_images a0_kept a0_refused a0_line a0_best p1 a0_letters a0_above a0_below a0_at a0_start a0_isWell a0_faultAt fa0_town z3 hr_z3) B_X8_countOf w_5_209 hK (hP.pick [0, 2] rfl) (q0 := 0) (ci := 5) rfl rfl rfl rfl hl.1 rfl (Nat.le_of_ble_eq_true rfl) ⟨Nat.le_of_ble_eq_true rfl, Nat.le_of_ble_eq_true rfl⟩ dX8_count_12 rfl (W.pc 15 rfl ?_)
    refine lv_goto (tgt := 22) hx hb dX8_count_15 (by decide) ?_
    cases hsp
    exact rWi hX hP hS rfl rfl dX8_count_22
noncomputable def lp_X8_digest_6 (a0_letters : Int32) (fa0_town : Nat → Int32) : Nat → Int64 → Int32 → Option (Int64 × Int32)
 | 0, _, _ => none
 | fu + 1, x1_6, x3_6 => if (7 : Int32) ≤ x3_6 then (some (x1_6, x3_6)) else (Option.bind (sp_X8_countOf x3_6 a0_letters fa0_town) fun z3 => lp_X8_digest_6 a0_letters fa0_town fu (((31 : Int64) * x1_6) + (z3).toInt64) (x3_6 + (1 : Int32)))
noncomputable def lp_X8_digest_59 (fa0_town : Nat → Int32) : Nat → Int64 → Int32 → Option (Int64 × Int32)
 | 0, _, _ => none
 | fu + 1, x1_59, x3_59 => if (6 : Int32) ≤ x3_59 then (some (x1_59, x3_59)) else (gi ((69 : Int32) + x3_59) 682 (lp_X8_digest_59 fa0_town fu (((31 : Int64) * x1_59) + ((fa0_town (((69 : Int32) + x3_59)).toNatClampNeg)).toInt64) (x3_59 + (1 : Int32))))
noncomputable def lp_X8_digest_115 (fa0_town : Nat → Int32) (x3_90 : Int32) : Nat → Int64 → Int32 → Option (Int64 × Int32)
 | 0, _, _ => none
 | fu + 1, x1_115, x4_115 => if ((2 : Int32) * (fa0_town (((3 : Int32) + x3_90)).toNatClampNeg)) ≤ x4_115 then (some (x1_115, x4_115)) else (gi (((9 : Int32) + ((10 : Int32) * x3_90)) + x4_115) 682 (lp_X8_digest_115 fa0_town x3_90 fu (((31 : Int64) * x1_115) + ((fa0_town ((((9 : Int32) + ((10 : Int32) * x3_90)) + x4_115)).toNatClampNeg)).toInt64) (x4_115 + (1 : Int32))))
noncomputable def lp_X8_digest_90 (fa0_town : Nat → Int32) : Nat → Int64 → Int32 → Option (Int64 × Int32)
 | 0, _, _ => none
 | fu + 1, x1_90, x3_90 => if (6 : Int32) ≤ x3_90 then (some (x1_90, x3_90)) else (gi ((3 : Int32) + x3_90) 682 (Option.bind (lp_X8_digest_115 fa0_town x3_90 FU (((31 : Int64) * x1_90) + ((fa0_town (((3 : Int32) + x3_90)).toNatClampNeg)).toInt64) (0 : Int32)) fun z10 => lp_X8_digest_90 fa0_town fu z10.1 (x3_90 + (1 : Int32))))
noncomputable def lp_X8_digest_167 (fa0_town : Nat → Int32) : Nat → Int64 → Int32 → Option (Int64 × Int32)
 | 0, _, _ => none
 | fu + 1, x1_167, x3_167 => if (fa0_town ((75 : Int32)).toNatClampNeg) ≤ x3_167 then (some (x1_167, x3_167)) else (gi ((76 : Int32) + x3_167) 682 (lp_X8_digest_167 fa0_town fu (((31 : Int64) * x1_167) + ((fa0_town (((76 : Int32) + x3_167)).toNatClampNeg)).toInt64) (x3_167 + (1 : Int32))))
noncomputable def lp_X8_digest_203 (fa0_town : Nat → Int32) : Nat → Int64 → Int32 → Option (Int64 × Int32)
 | 0, _, _ => none
 | fu + 1, x1_203, x3_203 => if ((4 : Int32) * (fa0_town ((81 : Int32)).toNatClampNeg)) ≤ x3_203 then (some (x1_203, x3_203)) else (gi ((82 : Int32) + x3_203) 682 (lp_X8_digest_203 fa0_town fu (((31 : Int64) * x1_203) + ((fa0_town (((82 : Int32) + x3_203)).toNatClampNeg)).toInt64) (x3_203 + (1 : Int32))))
noncomputable def lp_X8_digest_241 (fa0_town : Nat → Int32) : Nat → Int64 → Int32 → Option (Int64 × Int32)
 | 0, _, _ => none
 | fu + 1, x1_241, x3_241 => if ((5 : Int32) * (fa0_town ((106 : Int32)).toNatClampNeg)) ≤ x3_241 then (some (x1_241, x3_241)) else (gi ((107 : Int32) + x3_241) 682 (lp_X8_digest_241 fa0_town fu (((31 : Int64) * x1_241) + ((fa0_town (((107 : Int32) + x3_241)).toNatClampNeg)).toInt64) (x3_241 + (1 : Int32))))
noncomputable def sp_X8_digest (a0_letters : Int32) (a0_above : Int64) (a0_below : Int64) (fa0_town : Nat → Int32) : Option (Int64) := Option.bind (lp_X8_digest_6 a0_letters fa0_town FU (1489 : Int64) (0 : Int32)) fun z1 => Option.bind (lp_X8_digest_59 fa0_town FU (((31 : Int64) * (((31 : Int64) * z1.1) + ((fa0_town ((0 : Int32)).toNatClampNeg)).toInt64)) + ((fa0_town ((1 : Int32)).toNatClampNeg)).toInt64) (0 : Int32)) fun z4 => Option.bind (lp_X8_digest_90 fa0_town FU z4.1 (0 : Int32)) fun z7 => Option.bind (lp_X8_digest_167 fa0_town FU z7.1 (0 : Int32)) fun z13 => Option.bind (lp_X8_digest_203 fa0_town FU z13.1 (0 : Int32)) fun z16 => Option.bind (lp_X8_digest_241 fa0_town FU z16.1 (0 : Int32)) fun z19 => some (((31 : Int64) * (((31 : Int64) * z19.1) + a0_above)) + a0_below)
set_option maxHeartbeats 4000000 in
set_option maxRecDepth 100000 in
theorem c_X8_digest (l : Launch) (E : wE) (a0 a0_text a0_town a0_draft a0_tried a0_images a0_kept a0_refused a0_line a0_best : Nat) (a0_letters : Int32) (a0_above : Int64) (a0_below : Int64) (a0_at : Int32) (a0_start : Int32) (a0_isWell : Int32) (a0_faultAt : Int32) (fa0_town : Nat → Int32) (z : Int64) (hsp : sp_X8_digest a0_letters a0_above a0_below fa0_town = some z) : MR l yX8_digest cX8_digest 5 (some .long) 2 E [.ref a0] [(a0, .inr (5, [.ref a0_text, .int a0_letters, .ref a0_town, .ref a0_draft, .ref a0_tried, .ref a0_images, .ref a0_kept, .ref a0_refused, .long a0_above, .long a0_below, .ref a0_line, .ref a0_best, .int a0_at, .int a0_start, .int a0_isWell, .int a0_faultAt])), (a0_town, aI E 682 fa0_town)] (some (.long z)) := by
  refine MR.of (by decide +kernel) (Nat.le_of_ble_eq_true rfl) ?_
  intro p e s m below meth c ls hX hK hP hl
  have hX : CX p s m [.ref a0].toArray meth c cX8_digest 5 (some .long) RX8 := hX
  have hx := hX.1; have hb := hX.2.1; have hts := hX.2.2.2.2.1; have hown := hX.2.2.2.2.2.1
  have hl : lv_has ls 5 [(0, .ref a0)] := hl
  have hsp : (Option.bind (lp_X8_digest_6 a0_letters fa0_town FU (1489 : Int64) (0 : Int32)) fun z1 => Option.bind (lp_X8_digest_59 fa0_town FU (((31 : Int64) * (((31 : Int64) * z1.1) + ((fa0_town ((0 : Int32)).toNatClampNeg)).toInt64)) + ((fa0_town ((1 : Int32)).toNatClampNeg)).toInt64) (0 : Int32)) fun z4 => Option.bind (lp_X8_digest_90 fa0_town FU z4.1 (0 : Int32)) fun z7 => Option.bind (lp_X8_digest_167 fa0_town FU z7.1 (0 : Int32)) fun z13 => Option.bind (lp_X8_digest_203 fa0_town FU z13.1 (0 : Int32)) fun z16 => Option.bind (lp_X8_digest_241 fa0_town FU z16.1 (0 : Int32)) fun z19 => some (((31 : Int64) * (((31 : Int64) * z19.1) + a0_above)) + a0_below)) = some z := hsp
  refine lv_ldc2 (v := (1489 : Int64)) hx hb hown (hts _ w_5_217) dX8_digest_0 (W.pc 3 rfl ?_)
  refine lv_lstore_n (lv' := [(1, .long (1489 : Int64)), (0, .ref a0)]) hx hb dX8_digest_3 rfl hl (by decide) rfl (fun ls hl => W.pc 4 rfl ?_)
  refine lv_iconst (v := (0 : Int32)) hx hb dX8_digest_4 (by decide) (W.pc 5 rfl ?_)
  refine lv_istore_n (lv' := [(3, .int (0 : Int32)), (1, .long (1489 : Int64)), (0, .ref a0)]) hx hb dX8_digest_5 rfl hl (by decide) rfl (fun ls hl => W.pc 6 rfl ?_)
  have L_6 : ∀ (z1 : Int64 × Int32), (∀ (ls : Array Slot), lv_has ls 5 [(0, .ref a0), (1, .long z1.1)] → W p l e (wR 2) s m [.ref a0].toArray below meth c s.heap [] 0 0 (MQ below (QRd E (some (.long z))) [.ref a0].toArray s 0 0 (fun _ => False)) (F0 m 31 ls [])) → ∀ (fu : Nat) (x1_6 : Int64) (x3_6 : Int32), ∀ (ls : Array Slot), lv_has ls 5 [(0, .ref a0), (1, .long x1_6), (3, .int x3_6)] → lp_X8_digest_6 a0_letters fa0_town fu x1_6 x3_6 = some z1 → W p l e (wR 2) s m [.ref a0].toArray below meth c s.heap [] 0 0 (MQ below (QRd E (some (.long z))) [.ref a0].toArray s 0 0 (fun _ => False)) (F0 m 6 ls []) := by
    intro z1 hk_6 fu
    induction fu with
    | zero => intro x1_6 x3_6 ls hl hsp; exact absurd (show none = some _ from hsp) (by simp)
    | succ fu ih_6 =>
      intro x1_6 x3_6 ls hl hsp
      have hsp : (if (7 : Int32) ≤ x3_6 then (some (x1_6, x3_6)) else (Option.bind (sp_X8_countOf x3_6 a0_letters fa0_town) fun z3 => lp_X8_digest_6 a0_letters fa0_town fu (((31 : Int64) * x1_6) + (z3).toInt64) (x3_6 + (1 : Int32)))) = some z1 := hsp
      refine lv_iload_n hx hb dX8_digest_6 rfl (lv_at hl 2 rfl) (W.pc 7 rfl ?_)
      refine lv_bipush (v := (7 : Int32)) hx hb dX8_digest_7 (by decide) (W.pc 9 rfl ?_)
      refine lv_icmp_ge (tgt := 31) hx hb dX8_digest_9 (by decide) (fun c2 => ?_) (fun c2 => W.pc 12 rfl ?_)
      · have hsp := ip hsp c2
        obtain rfl := Option.some.inj hsp
        exact hk_6 _ (lv_sub hl [0, 1] rfl)
      · have hsp := iq hsp c2
        refine lv_ldc2 (v := (31 : Int64)) hx hb hown (hts _ w_5_218) dX8_digest_12 (W.pc 15 rfl ?_)
        refine lv_lload_n hx hb dX8_digest_15 rfl (lv_at hl 1 rfl) (W.pc 16 rfl ?_)
        refine lv_lmul hx hb dX8_digest_16 (W.pc 17 rfl ?_)
        refine lv_aload_n hx hb dX8_digest_17 rfl (lv_at hl 0 rfl) (W.pc 18 rfl ?_)
        refine lv_iload_n hx hb dX8_digest_18 rfl (lv_at hl 2 rfl) (W.pc 19 rfl ?_)
        obtain ⟨z3, hr_z3, hsp⟩ := bd_s hsp
        refine kVR (st1 := [.int z3, .long ((31 : Int64) * x1_6)]) hX (c_X8_countOf l E a0 a0_text a0_town a0_draft a0_tried a0_images a0_kept a0_refused a0_line a0_best x3_6 a0_letters a0_above a0_below a0_at a0_start a0_isWell a0_faultAt fa0_town z3 hr_z3) B_X8_countOf w_5_209 hK (hP.pick [0, 1] rfl) (q0 := 0) (ci := 5) rfl rfl rfl rfl hl.1 rfl (Nat.le_of_ble_eq_true rfl) ⟨Nat.le_of_ble_eq_true rfl, Nat.le_of_ble_eq_true rfl⟩ dX8_digest_19 rfl (W.pc 22 rfl ?_)
        refine lv_i2l (v := (z3).toInt64) hx hb dX8_digest_22 rfl (W.pc 23 rfl ?_)
        refine lv_ladd hx hb dX8_digest_23 (W.pc 24 rfl ?_)
        refine lv_lstore_n (lv' := [(1, .long (((31 : Int64) * x1_6) + (z3).toInt64)), (0, .ref a0), (3, .int x3_6)]) hx hb dX8_digest_24 rfl hl (by decide) rfl (fun ls hl => W.pc 25 rfl ?_)
        refine lv_iinc (v := (x3_6 + (1 : Int32))) (lv' := [(3, .int (x3_6 + (1 : Int32))), (1, .long (((31 : Int64) * x1_6) + (z3).toInt64)), (0, .ref a0)]) hx hb dX8_digest_25 hl (k := 2) rfl rfl (by decide) rfl (fun ls hl => W.pc 28 rfl ?_)
        refine lv_goto (tgt := 6) hx hb dX8_digest_28 (by decide) ?_
        exact ih_6 (((31 : Int64) * x1_6) + (z3).toInt64) (x3_6 + (1 : Int32)) _ (lv_sub hl [2, 1, 0] rfl) hsp
  obtain ⟨z1, hr_z1, hsp⟩ := bd_s hsp
  refine L_6 z1 (fun ls hl => ?_) FU (1489 : Int64) (0 : Int32) _ (lv_sub hl [2, 1, 0] rfl) hr_z1
  refine lv_ldc2 (v := (31 : Int64)) hx hb hown (hts _ w_5_218) dX8_digest_31 (W.pc 34 rfl ?_)
  refine lv_ldc2 (v := (31 : Int64)) hx hb hown (hts _ w_5_218) dX8_digest_34 (W.pc 37 rfl ?_)
  refine lv_lload_n hx hb dX8_digest_37 rfl (lv_at hl 1 rfl) (W.pc 38 rfl ?_)
  refine lv_lmul hx hb dX8_digest_38 (W.pc 39 rfl ?_)
  refine lv_aload_n hx hb dX8_digest_39 rfl (lv_at hl 0 rfl) (W.pc 40 rfl ?_)
  refine va_get (D := E.1) (ci := 5) (v := .ref a0_town) (C := RX8) (T := TX8) (N := 16) hx hb hts inT_X8 hown hK hP 0 rfl rfl 2 (by decide) (hts _ w_4_70) (fun _ h9 => h9) rfl dX8_digest_40 (W.pc 43 rfl ?_)
  refine lv_iconst (v := (0 : Int32)) hx hb dX8_digest_43 (by decide) (W.pc 44 rfl ?_)
  refine va_iald hx hb hK hP 1 0 rfl rfl (vp_in_nI (n := 0) (N := 682) (by decide) (by decide)) dX8_digest_44 (W.pc 45 rfl ?_)
  refine lv_i2l (v := ((fa0_town ((0 : Int32)).toNatClampNeg)).toInt64) hx hb dX8_digest_45 rfl (W.pc 46 rfl ?_)
  refine lv_ladd hx hb dX8_digest_46 (W.pc 47 rfl ?_)
  refine lv_lmul hx hb dX8_digest_47 (W.pc 48 rfl ?_)
  refine lv_aload_n hx hb dX8_digest_48 rfl (lv_at hl 0 rfl) (W.pc 49 rfl ?_)
  refine va_get (D := E.1) (ci := 5) (v := .ref a0_town) (C := RX8) (T := TX8) (N := 16) hx hb hts inT_X8 hown hK hP 0 rfl rfl 2 (by decide) (hts _ w_4_70) (fun _ h9 => h9) rfl dX8_digest_49 (W.pc 52 rfl ?_)
  refine lv_iconst (v := (1 : Int32)) hx hb dX8_digest_52 (by decide) (W.pc 53 rfl ?_)
  refine va_iald hx hb hK hP 1 0 rfl rfl (vp_in_nI (n := 1) (N := 682) (by decide) (by decide)) dX8_digest_53 (W.pc 54 rfl ?_)
  refine lv_i2l (v := ((fa0_town ((1 : Int32)).toNatClampNeg)).toInt64) hx hb dX8_digest_54 rfl (W.pc 55 rfl ?_)
  refine lv_ladd hx hb dX8_digest_55 (W.pc 56 rfl ?_)
  refine lv_lstore_n (lv' := [(1, .long (((31 : Int64) * (((31 : Int64) * z1.1) + ((fa0_town ((0 : Int32)).toNatClampNeg)).toInt64)) + ((fa0_town ((1 : Int32)).toNatClampNeg)).toInt64)), (0, .ref a0)]) hx hb dX8_digest_56 rfl hl (by decide) rfl (fun ls hl => W.pc 57 rfl ?_)
  refine lv_iconst (v := (0 : Int32)) hx hb dX8_digest_57 (by decide) (W.pc 58 rfl ?_)
  refine lv_istore_n (lv' := [(3, .int (0 : Int32)), (1, .long (((31 : Int64) * (((31 : Int64) * z1.1) + ((fa0_town ((0 : Int32)).toNatClampNeg)).toInt64)) + ((fa0_town ((1 : Int32)).toNatClampNeg)).toInt64)), (0, .ref a0)]) hx hb dX8_digest_58 rfl hl (by decide) rfl (fun ls hl => W.pc 59 rfl ?_)
  have L_59 : ∀ (z4 : Int64 × Int32), (∀ (ls : Array Slot), lv_has ls 5 [(0, .ref a0), (1, .long z4.1)] → W p l e (wR 2) s m [.ref a0].toArray below meth c s.heap [] 0 0 (MQ below (QRd E (some (.long z))) [.ref a0].toArray s 0 0 (fun _ => False)) (F0 m 88 ls [])) → ∀ (fu : Nat) (x1_59 : Int64) (x3_59 : Int32), ∀ (ls : Array Slot), lv_has ls 5 [(0, .ref a0), (1, .long x1_59), (3, .int x3_59)] → lp_X8_digest_59 fa0_town fu x1_59 x3_59 = some z4 → W p l e (wR 2) s m [.ref a0].toArray below meth c s.heap [] 0 0 (MQ below (QRd E (some (.long z))) [.ref a0].toArray s 0 0 (fun _ => False)) (F0 m 59 ls []) := by
    intro z4 hk_59 fu
    induction fu with
    | zero => intro x1_59 x3_59 ls hl hsp; exact absurd (show none = some _ from hsp) (by simp)
    | succ fu ih_59 =>
      intro x1_59 x3_59 ls hl hsp
      have hsp : (if (6 : Int32) ≤ x3_59 then (some (x1_59, x3_59)) else (gi ((69 : Int32) + x3_59) 682 (lp_X8_digest_59 fa0_town fu (((31 : Int64) * x1_59) + ((fa0_town (((69 : Int32) + x3_59)).toNatClampNeg)).toInt64) (x3_59 + (1 : Int32))))) = some z4 := hsp
      refine lv_iload_n hx hb dX8_digest_59 rfl (lv_at hl 2 rfl) (W.pc 60 rfl ?_)
      refine lv_bipush (v := (6 : Int32)) hx hb dX8_digest_60 (by decide) (W.pc 62 rfl ?_)
      refine lv_icmp_ge (tgt := 88) hx hb dX8_digest_62 (by decide) (fun c5 => ?_) (fun c5 => W.pc 65 rfl ?_)
      · have hsp := ip hsp c5
        obtain rfl := Option.some.inj hsp
        exact hk_59 _ (lv_sub hl [0, 1] rfl)
      · have hsp := iq hsp c5
        refine lv_ldc2 (v := (31 : Int64)) hx hb hown (hts _ w_5_218) dX8_digest_65 (W.pc 68 rfl ?_)
        refine lv_lload_n hx hb dX8_digest_68 rfl (lv_at hl 1 rfl) (W.pc 69 rfl ?_)
        refine lv_lmul hx hb dX8_digest_69 (W.pc 70 rfl ?_)
        refine lv_aload_n hx hb dX8_digest_70 rfl (lv_at hl 0 rfl) (W.pc 71 rfl ?_)
        refine va_get (D := E.1) (ci := 5) (v := .ref a0_town) (C := RX8) (T := TX8) (N := 16) hx hb hts inT_X8 hown hK hP 0 rfl rfl 2 (by decide) (hts _ w_4_70) (fun _ h9 => h9) rfl dX8_digest_71 (W.pc 74 rfl ?_)
        refine lv_bipush (v := (69 : Int32)) hx hb dX8_digest_74 (by decide) (W.pc 76 rfl ?_)
        refine lv_iload_n hx hb dX8_digest_76 rfl (lv_at hl 2 rfl) (W.pc 77 rfl ?_)
        refine lv_iadd hx hb dX8_digest_77 (W.pc 78 rfl ?_)
        obtain ⟨h6, hsp⟩ := gi_s hsp
        refine va_iald hx hb hK hP 1 0 rfl rfl h6 dX8_digest_78 (W.pc 79 rfl ?_)
        refine lv_i2l (v := ((fa0_town (((69 : Int32) + x3_59)).toNatClampNeg)).toInt64) hx hb dX8_digest_79 rfl (W.pc 80 rfl ?_)
        refine lv_ladd hx hb dX8_digest_80 (W.pc 81 rfl ?_)
        refine lv_lstore_n (lv' := [(1, .long (((31 : Int64) * x1_59) + ((fa0_town (((69 : Int32) + x3_59)).toNatClampNeg)).toInt64)), (0, .ref a0), (3, .int x3_59)]) hx hb dX8_digest_81 rfl hl (by decide) rfl (fun ls hl => W.pc 82 rfl ?_)
        refine lv_iinc (v := (x3_59 + (1 : Int32))) (lv' := [(3, .int (x3_59 + (1 : Int32))), (1, .long (((31 : Int64) * x1_59) + ((fa0_town (((69 : Int32) + x3_59)).toNatClampNeg)).toInt64)), (0, .ref a0)]) hx hb dX8_digest_82 hl (k := 2) rfl rfl (by decide) rfl (fun ls hl => W.pc 85 rfl ?_)
        refine lv_goto (tgt := 59) hx hb dX8_digest_85 (by decide) ?_
        exact ih_59 (((31 : Int64) * x1_59) + ((fa0_town (((69 : Int32) + x3_59)).toNatClampNeg)).toInt64) (x3_59 + (1 : Int32)) _ (lv_sub hl [2, 1, 0] rfl) hsp
  obtain ⟨z4, hr_z4, hsp⟩ := bd_s hsp
  refine L_59 z4 (fun ls hl => ?_) FU (((31 : Int64) * (((31 : Int64) * z1.1) + ((fa0_town ((0 : Int32)).toNatClampNeg)).toInt64)) + ((fa0_town ((1 : Int32)).toNatClampNeg)).toInt64) (0 : Int32) _ (lv_sub hl [2, 1, 0] rfl) hr_z4
  refine lv_iconst (v := (0 : Int32)) hx hb dX8_digest_88 (by decide) (W.pc 89 rfl ?_)
  refine lv_istore_n (lv' := [(3, .int (0 : Int32)), (0, .ref a0), (1, .long z4.1)]) hx hb dX8_digest_89 rfl hl (by decide) rfl (fun ls hl => W.pc 90 rfl ?_)
  have L_90 : ∀ (z7 : Int64 × Int32), (∀ (ls : Array Slot), lv_has ls 5 [(0, .ref a0), (1, .long z7.1)] → W p l e (wR 2) s m [.ref a0].toArray below meth c s.heap [] 0 0 (MQ below (QRd E (some (.long z))) [.ref a0].toArray s 0 0 (fun _ => False)) (F0 m 165 ls [])) → ∀ (fu : Nat) (x1_90 : Int64) (x3_90 : Int32), ∀ (ls : Array Slot), lv_has ls 5 [(0, .ref a0), (1, .long x1_90), (3, .int x3_90)] → lp_X8_digest_90 fa0_town fu x1_90 x3_90 = some z7 → W p l e (wR 2) s m [.ref a0].toArray below meth c s.heap [] 0 0 (MQ below (QRd E (some (.long z))) [.ref a0].toArray s 0 0 (fun _ => False)) (F0 m 90 ls []) := by
    intro z7 hk_90 fu
    induction fu with
    | zero => intro x1_90 x3_90 ls hl hsp; exact absurd (show none = some _ from hsp) (by simp)
    | succ fu ih_90 =>
      intro x1_90 x3_90 ls hl hsp
      have hsp : (if (6 : Int32) ≤ x3_90 then (some (x1_90, x3_90)) else (gi ((3 : Int32) + x3_90) 682 (Option.bind (lp_X8_digest_115 fa0_town x3_90 FU (((31 : Int64) * x1_90) + ((fa0_town (((3 : Int32) + x3_90)).toNatClampNeg)).toInt64) (0 : Int32)) fun z10 => lp_X8_digest_90 fa0_town fu z10.1 (x3_90 + (1 : Int32))))) = some z7 := hsp
      refine lv_iload_n hx hb dX8_digest_90 rfl (lv_at hl 2 rfl) (W.pc 91 rfl ?_)
      refine lv_bipush (v := (6 : Int32)) hx hb dX8_digest_91 (by decide) (W.pc 93 rfl ?_)
      refine lv_icmp_ge (tgt := 165) hx hb dX8_digest_93 (by decide) (fun c8 => ?_) (fun c8 => W.pc 96 rfl ?_)
      · have hsp := ip hsp c8
        obtain rfl := Option.some.inj hsp
        exact hk_90 _ (lv_sub hl [0, 1] rfl)
      · have hsp := iq hsp c8
        refine lv_ldc2 (v := (31 : Int64)) hx hb hown (hts _ w_5_218) dX8_digest_96 (W.pc 99 rfl ?_)
        refine lv_lload_n hx hb dX8_digest_99 rfl (lv_at hl 1 rfl) (W.pc 100 rfl ?_)
        refine lv_lmul hx hb dX8_digest_100 (W.pc 101 rfl ?_)
        refine lv_aload_n hx hb dX8_digest_101 rfl (lv_at hl 0 rfl) (W.pc 102 rfl ?_)
        refine va_get (D := E.1) (ci := 5) (v := .ref a0_town) (C := RX8) (T := TX8) (N := 16) hx hb hts inT_X8 hown hK hP 0 rfl rfl 2 (by decide) (hts _ w_4_70) (fun _ h9 => h9) rfl dX8_digest_102 (W.pc 105 rfl ?_)
        refine lv_iconst (v := (3 : Int32)) hx hb dX8_digest_105 (by decide) (W.pc 106 rfl ?_)
        refine lv_iload_n hx hb dX8_digest_106 rfl (lv_at hl 2 rfl) (W.pc 107 rfl ?_)
        refine lv_iadd hx hb dX8_digest_107 (W.pc 108 rfl ?_)
        obtain ⟨h9, hsp⟩ := gi_s hsp
        refine va_iald hx hb hK hP 1 0 rfl rfl h9 dX8_digest_108 (W.pc 109 rfl ?_)
        refine lv_i2l (v := ((fa0_town (((3 : Int32) + x3_90)).toNatClampNeg)).toInt64) hx hb dX8_digest_109 rfl (W.pc 110 rfl ?_)
        refine lv_ladd hx hb dX8_digest_110 (W.pc 111 rfl ?_)
        refine lv_lstore_n (lv' := [(1, .long (((31 : Int64) * x1_90) + ((fa0_town (((3 : Int32) + x3_90)).toNatClampNeg)).toInt64)), (0, .ref a0), (3, .int x3_90)]) hx hb dX8_digest_111 rfl hl (by decide) rfl (fun ls hl => W.pc 112 rfl ?_)
        refine lv_iconst (v := (0 : Int32)) hx hb dX8_digest_112 (by decide) (W.pc 113 rfl ?_)
        refine lv_istore (lv' := [(4, .int (0 : Int32)), (1, .long (((31 : Int64) * x1_90) + ((fa0_town (((3 : Int32) + x3_90)).toNatClampNeg)).toInt64)), (0, .ref a0), (3, .int x3_90)]) hx hb dX8_digest_113 hl (by decide) rfl (fun ls hl => W.pc 115 rfl ?_)
        have L_115 : ∀ (z10 : Int64 × Int32), (∀ (ls : Array Slot), lv_has ls 5 [(0, .ref a0), (1, .long z10.1), (3, .int x3_90)] → W p l e (wR 2) s m [.ref a0].toArray below meth c s.heap [] 0 0 (MQ below (QRd E (some (.long z))) [.ref a0].toArray s 0 0 (fun _ => False)) (F0 m 159 ls [])) → ∀ (fu : Nat) (x1_115 : Int64) (x4_115 : Int32), ∀ (ls : Array Slot), lv_has ls 5 [(0, .ref a0), (1, .long x1_115), (3, .int x3_90), (4, .int x4_115)] → lp_X8_digest_115 fa0_town x3_90 fu x1_115 x4_115 = some z10 → W p l e (wR 2) s m [.ref a0].toArray below meth c s.heap [] 0 0 (MQ below (QRd E (some (.long z))) [.ref a0].toArray s 0 0 (fun _ => False)) (F0 m 115 ls []) := by
          intro z10 hk_115 fu
          induction fu with
          | zero => intro x1_115 x4_115 ls hl hsp; exact absurd (show none = some _ from hsp) (by simp)
          | succ fu ih_115 =>
            intro x1_115 x4_115 ls hl hsp
            have hsp : (if ((2 : Int32) * (fa0_town (((3 : Int32) + x3_90)).toNatClampNeg)) ≤ x4_115 then (some (x1_115, x4_115)) else (gi (((9 : Int32) + ((10 : Int32) * x3_90)) + x4_115) 682 (lp_X8_digest_115 fa0_town x3_90 fu (((31 : Int64) * x1_115) + ((fa0_town ((((9 : Int32) + ((10 : Int32) * x3_90)) + x4_115)).toNatClampNeg)).toInt64) (x4_115 + (1 : Int32))))) = some z10 := hsp
            refine lv_iload hx hb dX8_digest_115 (lv_at hl 3 rfl) (W.pc 117 rfl ?_)
            refine lv_iconst (v := (2 : Int32)) hx hb dX8_digest_117 (by decide) (W.pc 118 rfl ?_)
            refine lv_aload_n hx hb dX8_digest_118 rfl (lv_at hl 0 rfl) (W.pc 119 rfl ?_)
            refine va_get (D := E.1) (ci := 5) (v := .ref a0_town) (C := RX8) (T := TX8) (N := 16) hx hb hts inT_X8 hown hK hP 0 rfl rfl 2 (by decide) (hts _ w_4_70) (fun _ h9 => h9) rfl dX8_digest_119 (W.pc 122 rfl ?_)
            refine lv_iconst (v := (3 : Int32)) hx hb dX8_digest_122 (by decide) (W.pc 123 rfl ?_)
            refine lv_iload_n hx hb dX8_digest_123 rfl (lv_at hl 2 rfl) (W.pc 124 rfl ?_)
            refine lv_iadd hx hb dX8_digest_124 (W.pc 125 rfl ?_)
            refine va_iald hx hb hK hP 1 0 rfl rfl h9 dX8_digest_125 (W.pc 126 rfl ?_)
            refine lv_imul hx hb dX8_digest_126 (W.pc 127 rfl ?_)
            refine lv_icmp_ge (tgt := 159) hx hb dX8_digest_127 (by decide) (fun c11 => ?_) (fun c11 => W.pc 130 rfl ?_)
            · have hsp := ip hsp c11
              obtain rfl := Option.some.inj hsp
              exact hk_115 _ (lv_sub hl [0, 1, 2] rfl)
            · have hsp := iq hsp c11
              refine lv_ldc2 (v := (31 : Int64)) hx hb hown (hts _ w_5_218) dX8_digest_130 (W.pc 133 rfl ?_)
              refine lv_lload_n hx hb dX8_digest_133 rfl (lv_at hl 1 rfl) (W.pc 134 rfl ?_)
              refine lv_lmul hx hb dX8_digest_134 (W.pc 135 rfl ?_)
              refine lv_aload_n hx hb dX8_digest_135 rfl (lv_at hl 0 rfl) (W.pc 136 rfl ?_)
              refine va_get (D := E.1) (ci := 5) (v := .ref a0_town) (C := RX8) (T := TX8) (N := 16) hx hb hts inT_X8 hown hK hP 0 rfl rfl 2 (by decide) (hts _ w_4_70) (fun _ h9 => h9) rfl dX8_digest_136 (W.pc 139 rfl ?_)
              refine lv_bipush (v := (9 : Int32)) hx hb dX8_digest_139 (by decide) (W.pc 141 rfl ?_)
              refine lv_bipush (v := (10 : Int32)) hx hb dX8_digest_141 (by decide) (W.pc 143 rfl ?_)
              refine lv_iload_n hx hb dX8_digest_143 rfl (lv_at hl 2 rfl) (W.pc 144 rfl ?_)
              refine lv_imul hx hb dX8_digest_144 (W.pc 145 rfl ?_)
              refine lv_iadd hx hb dX8_digest_145 (W.pc 146 rfl ?_)
              refine lv_iload hx hb dX8_digest_146 (lv_at hl 3 rfl) (W.pc 148 rfl ?_)
              refine lv_iadd hx hb dX8_digest_148 (W.pc 149 rfl ?_)
              obtain ⟨h12, hsp⟩ := gi_s hsp
              refine va_iald hx hb hK hP 1 0 rfl rfl h12 dX8_digest_149 (W.pc 150 rfl ?_)
              refine lv_i2l (v := ((fa0_town ((((9 : Int32) + ((10 : Int32) * x3_90)) + x4_115)).toNatClampNeg)).toInt64) hx hb dX8_digest_150 rfl (W.pc 151 rfl ?_)
              refine lv_ladd hx hb dX8_digest_151 (W.pc 152 rfl ?_)
              refine lv_lstore_n (lv' := [(1, .long (((31 : Int64) * x1_115) + ((fa0_town ((((9 : Int32) + ((10 : Int32) * x3_90)) + x4_115)).toNatClampNeg)).toInt64)), (0, .ref a0), (3, .int x3_90), (4, .int x4_115)]) hx hb dX8_digest_152 rfl hl (by decide) rfl (fun ls hl => W.pc 153 rfl ?_)
              refine lv_iinc (v := (x4_115 + (1 : Int32))) (lv' := [(4, .int (x4_115 + (1 : Int32))), (1, .long (((31 : Int64) * x1_115) + ((fa0_town ((((9 : Int32) + ((10 : Int32) * x3_90)) + x4_115)).toNatClampNeg)).toInt64)), (0, .ref a0), (3, .int x3_90)]) hx hb dX8_digest_153 hl (k := 3) rfl rfl (by decide) rfl (fun ls hl => W.pc 156 rfl ?_)
              refine lv_goto (tgt := 115) hx hb dX8_digest_156 (by decide) ?_
              exact ih_115 (((31 : Int64) * x1_115) + ((fa0_town ((((9 : Int32) + ((10 : Int32) * x3_90)) + x4_115)).toNatClampNeg)).toInt64) (x4_115 + (1 : Int32)) _ (lv_sub hl [2, 1, 3, 0] rfl) hsp
        obtain ⟨z10, hr_z10, hsp⟩ := bd_s hsp
        refine L_115 z10 (fun ls hl => ?_) FU (((31 : Int64) * x1_90) + ((fa0_town (((3 : Int32) + x3_90)).toNatClampNeg)).toInt64) (0 : Int32) _ (lv_sub hl [2, 1, 3, 0] rfl) hr_z10
        refine lv_iinc (v := (x3_90 + (1 : Int32))) (lv' := [(3, .int (x3_90 + (1 : Int32))), (0, .ref a0), (1, .long z10.1)]) hx hb dX8_digest_159 hl (k := 2) rfl rfl (by decide) rfl (fun ls hl => W.pc 162 rfl ?_)
        refine lv_goto (tgt := 90) hx hb dX8_digest_162 (by decide) ?_
        exact ih_90 z10.1 (x3_90 + (1 : Int32)) _ (lv_sub hl [1, 2, 0] rfl) hsp
  obtain ⟨z7, hr_z7, hsp⟩ := bd_s hsp
  refine L_90 z7 (fun ls hl => ?_) FU z4.1 (0 : Int32) _ (lv_sub hl [1, 2, 0] rfl) hr_z7
  refine lv_iconst (v := (0 : Int32)) hx hb dX8_digest_165 (by decide) (W.pc 166 rfl ?_)
  refine lv_istore_n (lv' := [(3, .int (0 : Int32)), (0, .ref a0), (1, .long z7.1)]) hx hb dX8_digest_166 rfl hl (by decide) rfl (fun ls hl => W.pc 167 rfl ?_)
  have L_167 : ∀ (z13 : Int64 × Int32), (∀ (ls : Array Slot), lv_has ls 5 [(0, .ref a0), (1, .long z13.1)] → W p l e (wR 2) s m [.ref a0].toArray below meth c s.heap [] 0 0 (MQ below (QRd E (some (.long z))) [.ref a0].toArray s 0 0 (fun _ => False)) (F0 m 201 ls [])) → ∀ (fu : Nat) (x1_167 : Int64) (x3_167 : Int32), ∀ (ls : Array Slot), lv_has ls 5 [(0, .ref a0), (1, .long x1_167), (3, .int x3_167)] → lp_X8_digest_167 fa0_town fu x1_167 x3_167 = some z13 → W p l e (wR 2) s m [.ref a0].toArray below meth c s.heap [] 0 0 (MQ below (QRd E (some (.long z))) [.ref a0].toArray s 0 0 (fun _ => False)) (F0 m 167 ls []) := by
    intro z13 hk_167 fu
    induction fu with
    | zero => intro x1_167 x3_167 ls hl hsp; exact absurd (show none = some _ from hsp) (by simp)
    | succ fu ih_167 =>
      intro x1_167 x3_167 ls hl hsp
      have hsp : (if (fa0_town ((75 : Int32)).toNatClampNeg) ≤ x3_167 then (some (x1_167, x3_167)) else (gi ((76 : Int32) + x3_167) 682 (lp_X8_digest_167 fa0_town fu (((31 : Int64) * x1_167) + ((fa0_town (((76 : Int32) + x3_167)).toNatClampNeg)).toInt64) (x3_167 + (1 : Int32))))) = some z13 := hsp
      refine lv_iload_n hx hb dX8_digest_167 rfl (lv_at hl 2 rfl) (W.pc 168 rfl ?_)
      refine lv_aload_n hx hb dX8_digest_168 rfl (lv_at hl 0 rfl) (W.pc 169 rfl ?_)
      refine va_get (D := E.1) (ci := 5) (v := .ref a0_town) (C := RX8) (T := TX8) (N := 16) hx hb hts inT_X8 hown hK hP 0 rfl rfl 2 (by decide) (hts _ w_4_70) (fun _ h9 => h9) rfl dX8_digest_169 (W.pc 172 rfl ?_)
      refine lv_bipush (v := (75 : Int32)) hx hb dX8_digest_172 (by decide) (W.pc 174 rfl ?_)
      refine va_iald hx hb hK hP 1 0 rfl rfl (vp_in_nI (n := 75) (N := 682) (by decide) (by decide)) dX8_digest_174 (W.pc 175 rfl ?_)
      refine lv_icmp_ge (tgt := 201) hx hb dX8_digest_175 (by decide) (fun c14 => ?_) (fun c14 => W.pc 178 rfl ?_)
      · have hsp := ip hsp c14
        obtain rfl := Option.some.inj hsp
        exact hk_167 _ (lv_sub hl [0, 1] rfl)
      · have hsp := iq hsp c14
        refine lv_ldc2 (v := (31 : Int64)) hx hb hown (hts _ w_5_218) dX8_digest_178 (W.pc 181 rfl ?_)
        refine lv_lload_n hx hb dX8_digest_181 rfl (lv_at hl 1 rfl) (W.pc 182 rfl ?_)
        refine lv_lmul hx hb dX8_digest_182 (W.pc 183 rfl ?_)
        refine lv_aload_n hx hb dX8_digest_183 rfl (lv_at hl 0 rfl) (W.pc 184 rfl ?_)
        refine va_get (D := E.1) (ci := 5) (v := .ref a0_town) (C := RX8) (T := TX8) (N := 16) hx hb hts inT_X8 hown hK hP 0 rfl rfl 2 (by decide) (hts _ w_4_70) (fun _ h9 => h9) rfl dX8_digest_184 (W.pc 187 rfl ?_)
        refine lv_bipush (v := (76 : Int32)) hx hb dX8_digest_187 (by decide) (W.pc 189 rfl ?_)
        refine lv_iload_n hx hb dX8_digest_189 rfl (lv_at hl 2 rfl) (W.pc 190 rfl ?_)
        refine lv_iadd hx hb dX8_digest_190 (W.pc 191 rfl ?_)
        obtain ⟨h15, hsp⟩ := gi_s hsp
        refine va_iald hx hb hK hP 1 0 rfl rfl h15 dX8_digest_191 (W.pc 192 rfl ?_)
        refine lv_i2l (v := ((fa0_town (((76 : Int32) + x3_167)).toNatClampNeg)).toInt64) hx hb dX8_digest_192 rfl (W.pc 193 rfl ?_)
        refine lv_ladd hx hb dX8_digest_193 (W.pc 194 rfl ?_)
        refine lv_lstore_n (lv' := [(1, .long (((31 : Int64) * x1_167) + ((fa0_town (((76 : Int32) + x3_167)).toNatClampNeg)).toInt64)), (0, .ref a0), (3, .int x3_167)]) hx hb dX8_digest_194 rfl hl (by decide) rfl (fun ls hl => W.pc 195 rfl ?_)
        refine lv_iinc (v := (x3_167 + (1 : Int32))) (lv' := [(3, .int (x3_167 + (1 : Int32))), (1, .long (((31 : Int64) * x1_167) + ((fa0_town (((76 : Int32) + x3_167)).toNatClampNeg)).toInt64)), (0, .ref a0)]) hx hb dX8_digest_195 hl (k := 2) rfl rfl (by decide) rfl (fun ls hl => W.pc 198 rfl ?_)
        refine lv_goto (tgt := 167) hx hb dX8_digest_198 (by decide) ?_
        exact ih_167 (((31 : Int64) * x1_167) + ((fa0_town (((76 : Int32) + x3_167)).toNatClampNeg)).toInt64) (x3_167 + (1 : Int32)) _ (lv_sub hl [2, 1, 0] rfl) hsp
  obtain ⟨z13, hr_z13, hsp⟩ := bd_s hsp
  refine L_167 z13 (fun ls hl => ?_) FU z7.1 (0 : Int32) _ (lv_sub hl [1, 2, 0] rfl) hr_z13
  refine lv_iconst (v := (0 : Int32)) hx hb dX8_digest_201 (by decide) (W.pc 202 rfl ?_)
  refine lv_istore_n (lv' := [(3, .int (0 : Int32)), (0, .ref a0), (1, .long z13.1)]) hx hb dX8_digest_202 rfl hl (by decide) rfl (fun ls hl => W.pc 203 rfl ?_)
  have L_203 : ∀ (z16 : Int64 × Int32), (∀ (ls : Array Slot), lv_has ls 5 [(0, .ref a0), (1, .long z16.1)] → W p l e (wR 2) s m [.ref a0].toArray below meth c s.heap [] 0 0 (MQ below (QRd E (some (.long z))) [.ref a0].toArray s 0 0 (fun _ => False)) (F0 m 239 ls [])) → ∀ (fu : Nat) (x1_203 : Int64) (x3_203 : Int32), ∀ (ls : Array Slot), lv_has ls 5 [(0, .ref a0), (1, .long x1_203), (3, .int x3_203)] → lp_X8_digest_203 fa0_town fu x1_203 x3_203 = some z16 → W p l e (wR 2) s m [.ref a0].toArray below meth c s.heap [] 0 0 (MQ below (QRd E (some (.long z))) [.ref a0].toArray s 0 0 (fun _ => False)) (F0 m 203 ls []) := by
    intro z16 hk_203 fu
    induction fu with
    | zero => intro x1_203 x3_203 ls hl hsp; exact absurd (show none = some _ from hsp) (by simp)
    | succ fu ih_203 =>
      intro x1_203 x3_203 ls hl hsp
      have hsp : (if ((4 : Int32) * (fa0_town ((81 : Int32)).toNatClampNeg)) ≤ x3_203 then (some (x1_203, x3_203)) else (gi ((82 : Int32) + x3_203) 682 (lp_X8_digest_203 fa0_town fu (((31 : Int64) * x1_203) + ((fa0_town (((82 : Int32) + x3_203)).toNatClampNeg)).toInt64) (x3_203 + (1 : Int32))))) = some z16 := hsp
      refine lv_iload_n hx hb dX8_digest_203 rfl (lv_at hl 2 rfl) (W.pc 204 rfl ?_)
      refine lv_iconst (v := (4 : Int32)) hx hb dX8_digest_204 (by decide) (W.pc 205 rfl ?_)
      refine lv_aload_n hx hb dX8_digest_205 rfl (lv_at hl 0 rfl) (W.pc 206 rfl ?_)
      refine va_get (D := E.1) (ci := 5) (v := .ref a0_town) (C := RX8) (T := TX8) (N := 16) hx hb hts inT_X8 hown hK hP 0 rfl rfl 2 (by decide) (hts _ w_4_70) (fun _ h9 => h9) rfl dX8_digest_206 (W.pc 209 rfl ?_)
      refine lv_bipush (v := (81 : Int32)) hx hb dX8_digest_209 (by decide) (W.pc 211 rfl ?_)
      refine va_iald hx hb hK hP 1 0 rfl rfl (vp_in_nI (n := 81) (N := 682) (by decide) (by decide)) dX8_digest_211 (W.pc 212 rfl ?_)
      refine lv_imul hx hb dX8_digest_212 (W.pc 213 rfl ?_)
      refine lv_icmp_ge (tgt := 239) hx hb dX8_digest_213 (by decide) (fun c17 => ?_) (fun c17 => W.pc 216 rfl ?_)
      · have hsp := ip hsp c17
        obtain rfl := Option.some.inj hsp
        exact hk_203 _ (lv_sub hl [0, 1] rfl)
      · have hsp := iq hsp c17
        refine lv_ldc2 (v := (31 : Int64)) hx hb hown (hts _ w_5_218) dX8_digest_216 (W.pc 219 rfl ?_)
        refine lv_lload_n hx hb dX8_digest_219 rfl (lv_at hl 1 rfl) (W.pc 220 rfl ?_)
        refine lv_lmul hx hb dX8_digest_220 (W.pc 221 rfl ?_)
        refine lv_aload_n hx hb dX8_digest_221 rfl (lv_at hl 0 rfl) (W.pc 222 rfl ?_)
        refine va_get (D := E.1) (ci := 5) (v := .ref a0_town) (C := RX8) (T := TX8) (N := 16) hx hb hts inT_X8 hown hK hP 0 rfl rfl 2 (by decide) (hts _ w_4_70) (fun _ h9 => h9) rfl dX8_digest_222 (W.pc 225 rfl ?_)
        refine lv_bipush (v := (82 : Int32)) hx hb dX8_digest_225 (by decide) (W.pc 227 rfl ?_)
        refine lv_iload_n hx hb dX8_digest_227 rfl (lv_at hl 2 rfl) (W.pc 228 rfl ?_)
        refine lv_iadd hx hb dX8_digest_228 (W.pc 229 rfl ?_)
        obtain ⟨h18, hsp⟩ := gi_s hsp
        refine va_iald hx hb hK hP 1 0 rfl rfl h18 dX8_digest_229 (W.pc 230 rfl ?_)
        refine lv_i2l (v := ((fa0_town (((82 : Int32) + x3_203)).toNatClampNeg)).toInt64) hx hb dX8_digest_230 rfl (W.pc 231 rfl ?_)
        refine lv_ladd hx hb dX8_digest_231 (W.pc 232 rfl ?_)
        refine lv_lstore_n (lv' := [(1, .long (((31 : Int64) * x1_203) + ((fa0_town (((82 : Int32) + x3_203)).toNatClampNeg)).toInt64)), (0, .ref a0), (3, .int x3_203)]) hx hb dX8_digest_232 rfl hl (by decide) rfl (fun ls hl => W.pc 233 rfl ?_)
        refine lv_iinc (v := (x3_203 + (1 : Int32))) (lv' := [(3, .int (x3_203 + (1 : Int32))), (1, .long (((31 : Int64) * x1_203) + ((fa0_town (((82 : Int32) + x3_203)).toNatClampNeg)).toInt64)), (0, .ref a0)]) hx hb dX8_digest_233 hl (k := 2) rfl rfl (by decide) rfl (fun ls hl => W.pc 236 rfl ?_)
        refine lv_goto (tgt := 203) hx hb dX8_digest_236 (by decide) ?_
        exact ih_203 (((31 : Int64) * x1_203) + ((fa0_town (((82 : Int32) + x3_203)).toNatClampNeg)).toInt64) (x3_203 + (1 : Int32)) _ (lv_sub hl [2, 1, 0] rfl) hsp
  obtain ⟨z16, hr_z16, hsp⟩ := bd_s hsp
  refine L_203 z16 (fun ls hl => ?_) FU z13.1 (0 : Int32) _ (lv_sub hl [1, 2, 0] rfl) hr_z16
  refine lv_iconst (v := (0 : Int32)) hx hb dX8_digest_239 (by decide) (W.pc 240 rfl ?_)
  refine lv_istore_n (lv' := [(3, .int (0 : Int32)), (0, .ref a0), (1, .long z16.1)]) hx hb dX8_digest_240 rfl hl (by decide) rfl (fun ls hl => W.pc 241 rfl ?_)
  have L_241 : ∀ (z19 : Int64 × Int32), (∀ (ls : Array Slot), lv_has ls 5 [(0, .ref a0), (1, .long z19.1)] → W p l e (wR 2) s m [.ref a0].toArray below meth c s.heap [] 0 0 (MQ below (QRd E (some (.long z))) [.ref a0].toArray s 0 0 (fun _ => False)) (F0 m 277 ls [])) → ∀ (fu : Nat) (x1_241 : Int64) (x3_241 : Int32), ∀ (ls : Array Slot), lv_has ls 5 [(0, .ref a0), (1, .long x1_241), (3, .int x3_241)] → lp_X8_digest_241 fa0_town fu x1_241 x3_241 = some z19 → W p l e (wR 2) s m [.ref a0].toArray below meth c s.heap [] 0 0 (MQ below (QRd E (some (.long z))) [.ref a0].toArray s 0 0 (fun _ => False)) (F0 m 241 ls []) := by
    intro z19 hk_241 fu
    induction fu with
    | zero => intro x1_241 x3_241 ls hl hsp; exact absurd (show none = some _ from hsp) (by simp)
    | succ fu ih_241 =>
      intro x1_241 x3_241 ls hl hsp
      have hsp : (if ((5 : Int32) * (fa0_town ((106 : Int32)).toNatClampNeg)) ≤ x3_241 then (some (x1_241, x3_241)) else (gi ((107 : Int32) + x3_241) 682 (lp_X8_digest_241 fa0_town fu (((31 : Int64) * x1_241) + ((fa0_town (((107 : Int32) + x3_241)).toNatClampNeg)).toInt64) (x3_241 + (1 : Int32))))) = some z19 := hsp
      refine lv_iload_n hx hb dX8_digest_241 rfl (lv_at hl 2 rfl) (W.pc 242 rfl ?_)
      refine lv_iconst (v := (5 : Int32)) hx hb dX8_digest_242 (by decide) (W.pc 243 rfl ?_)
      refine lv_aload_n hx hb dX8_digest_243 rfl (lv_at hl 0 rfl) (W.pc 244 rfl ?_)
      refine va_get (D := E.1) (ci := 5) (v := .ref a0_town) (C := RX8) (T := TX8) (N := 16) hx hb hts inT_X8 hown hK hP 0 rfl rfl 2 (by decide) (hts _ w_4_70) (fun _ h9 => h9) rfl dX8_digest_244 (W.pc 247 rfl ?_)
      refine lv_bipush (v := (106 : Int32)) hx hb dX8_digest_247 (by decide) (W.pc 249 rfl ?_)
      refine va_iald hx hb hK hP 1 0 rfl rfl (vp_in_nI (n := 106) (N := 682) (by decide) (by decide)) dX8_digest_249 (W.pc 250 rfl ?_)
      refine lv_imul hx hb dX8_digest_250 (W.pc 251 rfl ?_)
      refine lv_icmp_ge (tgt := 277) hx hb dX8_digest_251 (by decide) (fun c20 => ?_) (fun c20 => W.pc 254 rfl ?_)
      · have hsp := ip hsp c20
        obtain rfl := Option.some.inj hsp
        exact hk_241 _ (lv_sub hl [0, 1] rfl)
      · have hsp := iq hsp c20
        refine lv_ldc2 (v := (31 : Int64)) hx hb hown (hts _ w_5_218) dX8_digest_254 (W.pc 257 rfl ?_)
        refine lv_lload_n hx hb dX8_digest_257 rfl (lv_at hl 1 rfl) (W.pc 258 rfl ?_)
        refine lv_lmul hx hb dX8_digest_258 (W.pc 259 rfl ?_)
        refine lv_aload_n hx hb dX8_digest_259 rfl (lv_at hl 0 rfl) (W.pc 260 rfl ?_)
        refine va_get (D := E.1) (ci := 5) (v := .ref a0_town) (C := RX8) (T := TX8) (N := 16) hx hb hts inT_X8 hown hK hP 0 rfl rfl 2 (by decide) (hts _ w_4_70) (fun _ h9 => h9) rfl dX8_digest_260 (W.pc 263 rfl ?_)
        refine lv_bipush (v := (107 : Int32)) hx hb dX8_digest_263 (by decide) (W.pc 265 rfl ?_)
        refine lv_iload_n hx hb dX8_digest_265 rfl (lv_at hl 2 rfl) (W.pc 266 rfl ?_)
        refine lv_iadd hx hb dX8_digest_266 (W.pc 267 rfl ?_)
        obtain ⟨h21, hsp⟩ := gi_s hsp
        refine va_iald hx hb hK hP 1 0 rfl rfl h21 dX8_digest_267 (W.pc 268 rfl ?_)
        refine lv_i2l (v := ((fa0_town (((107 : Int32) + x3_241)).toNatClampNeg)).toInt64) hx hb dX8_digest_268 rfl (W.pc 269 rfl ?_)
        refine lv_ladd hx hb dX8_digest_269 (W.pc 270 rfl ?_)
        refine lv_lstore_n (lv' := [(1, .long (((31 : Int64) * x1_241) + ((fa0_town (((107 : Int32) + x3_241)).toNatClampNeg)).toInt64)), (0, .ref a0), (3, .int x3_241)]) hx hb dX8_digest_270 rfl hl (by decide) rfl (fun ls hl => W.pc 271 rfl ?_)
        refine lv_iinc (v := (x3_241 + (1 : Int32))) (lv' := [(3, .int (x3_241 + (1 : Int32))), (1, .long (((31 : Int64) * x1_241) + ((fa0_town (((107 : Int32) + x3_241)).toNatClampNeg)).toInt64)), (0, .ref a0)]) hx hb dX8_digest_271 hl (k := 2) rfl rfl (by decide) rfl (fun ls hl => W.pc 274 rfl ?_)
        refine lv_goto (tgt := 241) hx hb dX8_digest_274 (by decide) ?_
        exact ih_241 (((31 : Int64) * x1_241) + ((fa0_town (((107 : Int32) + x3_241)).toNatClampNeg)).toInt64) (x3_241 + (1 : Int32)) _ (lv_sub hl [2, 1, 0] rfl) hsp
  obtain ⟨z19, hr_z19, hsp⟩ := bd_s hsp
  refine L_241 z19 (fun ls hl => ?_) FU z16.1 (0 : Int32) _ (lv_sub hl [1, 2, 0] rfl) hr_z19
  refine lv_ldc2 (v := (31 : Int64)) hx hb hown (hts _ w_5_218) dX8_digest_277 (W.pc 280 rfl ?_)
  refine lv_ldc2 (v := (31 : Int64)) hx hb hown (hts _ w_5_218) dX8_digest_280 (W.pc 283 rfl ?_)
  refine lv_lload_n hx hb dX8_digest_283 rfl (lv_at hl 1 rfl) (W.pc 284 rfl ?_)
  refine lv_lmul hx hb dX8_digest_284 (W.pc 285 rfl ?_)
  refine lv_aload_n hx hb dX8_digest_285 rfl (lv_at hl 0 rfl) (W.pc 286 rfl ?_)
  refine va_get (D := E.1) (ci := 5) (v := .long a0_above) (C := RX8) (T := TX8) (N := 16) hx hb hts inT_X8 hown hK hP 0 rfl rfl 8 (by decide) (hts _ w_4_76) (fun _ h9 => h9) rfl dX8_digest_286 (W.pc 289 rfl ?_)
  refine lv_ladd hx hb dX8_digest_289 (W.pc 290 rfl ?_)
  refine lv_lmul hx hb dX8_digest_290 (W.pc 291 rfl ?_)
  refine lv_aload_n hx hb dX8_digest_291 rfl (lv_at hl 0 rfl) (W.pc 292 rfl ?_)
  refine va_get (D := E.1) (ci := 5) (v := .long a0_below) (C := RX8) (T := TX8) (N := 16) hx hb hts inT_X8 hown hK hP 0 rfl rfl 9 (by decide) (hts _ w_4_77) (fun _ h9 => h9) rfl dX8_digest_292 (W.pc 295 rfl ?_)
  refine lv_ladd hx hb dX8_digest_295 (W.pc 296 rfl ?_)
  obtain rfl := Option.some.inj hsp
  exact rRl hX rfl dX8_digest_296
