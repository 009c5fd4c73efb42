theorem inT_X1 : ∀ w ∈ wsX10, w ∈ TBL := inT_of (by decide +kernel) (by decide +kernel)
theorem inT_X3 : ∀ w ∈ wsX30, w ∈ TBL := inT_of (by decide +kernel) (by decide +kernel)
theorem inT_X5 : ∀ w ∈ wsX50, w ∈ TBL := inT_of (by decide +kernel) (by decide +kernel)
theorem inT_X6 : ∀ w ∈ wsX60, w ∈ TBL := inT_of (by decide +kernel) (by decide +kernel)
theorem inT_X7 : ∀ w ∈ wsX70, w ∈ TBL := inT_of (by decide +kernel) (by decide +kernel)
theorem inT_X8 : ∀ w ∈ wsX80, w ∈ TBL := inT_of (by decide +kernel) (by decide +kernel)
theorem w_3_153 : Cond.constant RJ6 265 (1431655765 : Int32) ∈ TBL := TBL_t (tin3 (List.mem_of_getElem? (i := 153) (by decide +kernel))) (by decide +kernel)
theorem w_3_154 : Cond.constant RJ6 266 (858993459 : Int32) ∈ TBL := TBL_t (tin3 (List.mem_of_getElem? (i := 154) (by decide +kernel))) (by decide +kernel)
theorem w_3_155 : Cond.constant RJ6 267 (252645135 : Int32) ∈ TBL := TBL_t (tin3 (List.mem_of_getElem? (i := 155) (by decide +kernel))) (by decide +kernel)
theorem w_2_203 : Cond.methodLink RX0 18 yJ9_min_7cf53 ∈ TBL := TBL_t (tin2 (List.mem_of_getElem? (i := 203) (by decide +kernel))) (by decide +kernel)
theorem w_2_204 : Cond.static yJ9_min_7cf53 ∈ TBL := TBL_t (tin2 (List.mem_of_getElem? (i := 204) (by decide +kernel))) (by decide +kernel)
theorem w_1_13 : Cond.initialized RJ9 ∈ TBL := TBL_t (tin1 (List.mem_of_getElem? (i := 13) (by decide +kernel))) (by decide +kernel)
theorem w_2_205 : Cond.code yJ9_min_7cf53 cJ9_min_7cf53 2 (some .int) ∈ TBL := TBL_t (tin2 (List.mem_of_getElem? (i := 205) (by decide +kernel))) (by decide +kernel)
theorem w_2_206 : Cond.methodLink RX0 23 yJ9_max_7cf53 ∈ TBL := TBL_t (tin2 (List.mem_of_getElem? (i := 206) (by decide +kernel))) (by decide +kernel)
theorem w_2_207 : Cond.static yJ9_max_7cf53 ∈ TBL := TBL_t (tin2 (List.mem_of_getElem? (i := 207) (by decide +kernel))) (by decide +kernel)
theorem w_2_208 : Cond.code yJ9_max_7cf53 cJ9_max_7cf53 2 (some .int) ∈ TBL := TBL_t (tin2 (List.mem_of_getElem? (i := 208) (by decide +kernel))) (by decide +kernel)
theorem w_2_200 : Cond.methodLink RX0 9 yX0_kept ∈ TBL := TBL_t (tin2 (List.mem_of_getElem? (i := 200) (by decide +kernel))) (by decide +kernel)
theorem w_2_209 : Cond.methodLink RX0 15 yX0_nearer ∈ TBL := TBL_t (tin2 (List.mem_of_getElem? (i := 209) (by decide +kernel))) (by decide +kernel)
theorem w_2_179 : Cond.methodLink RX4 7 yJ9_abs_0f7a4 ∈ TBL := TBL_t (tin2 (List.mem_of_getElem? (i := 179) (by decide +kernel))) (by decide +kernel)
theorem w_2_180 : Cond.static yJ9_abs_0f7a4 ∈ TBL := TBL_t (tin2 (List.mem_of_getElem? (i := 180) (by decide +kernel))) (by decide +kernel)
theorem w_2_181 : Cond.code yJ9_abs_0f7a4 cJ9_abs_0f7a4 1 (some .int) ∈ TBL := TBL_t (tin2 (List.mem_of_getElem? (i := 181) (by decide +kernel))) (by decide +kernel)
theorem w_2_202 : Cond.code yX0_kept cX0_kept 2 (some .int) ∈ TBL := TBL_t (tin2 (List.mem_of_getElem? (i := 202) (by decide +kernel))) (by decide +kernel)
theorem w_2_201 : Cond.static yX0_kept ∈ TBL := TBL_t (tin2 (List.mem_of_getElem? (i := 201) (by decide +kernel))) (by decide +kernel)
theorem w_1_14 : Cond.initialized RX0 ∈ TBL := TBL_t (tin1 (List.mem_of_getElem? (i := 14) (by decide +kernel))) (by decide +kernel)
theorem w_2_211 : Cond.code yX0_nearer cX0_nearer 2 (some .int) ∈ TBL := TBL_t (tin2 (List.mem_of_getElem? (i := 211) (by decide +kernel))) (by decide +kernel)
theorem w_2_210 : Cond.static yX0_nearer ∈ TBL := TBL_t (tin2 (List.mem_of_getElem? (i := 210) (by decide +kernel))) (by decide +kernel)
theorem B_X0_kept : cS yX0_kept cX0_kept 2 (some .int) 2 := ⟨w_2_202, w_2_201, w_1_14, by decide +kernel⟩
theorem B_X0_nearer : cS yX0_nearer cX0_nearer 2 (some .int) 2 := ⟨w_2_211, w_2_210, w_1_14, by decide +kernel⟩
theorem dX2_within_0 : decode cX2_within 0 = .ok (.iload_n 0, 1) := by decide +kernel
theorem dX2_within_1 : decode cX2_within 1 = .ok (.iload_n 1, 1) := by decide +kernel
theorem dX2_within_2 : decode cX2_within 2 = .ok (.if_icmp .lt 12, 3) := by decide +kernel
theorem dX2_within_5 : decode cX2_within 5 = .ok (.iload_n 0, 1) := by decide +kernel
theorem dX2_within_6 : decode cX2_within 6 = .ok (.iload_n 2, 1) := by decide +kernel
theorem dX2_within_7 : decode cX2_within 7 = .ok (.if_icmp .gt 7, 3) := by decide +kernel
theorem dX2_within_10 : decode cX2_within 10 = .ok (.iconst 1, 1) := by decide +kernel
theorem dX2_within_11 : decode cX2_within 11 = .ok (.goto 4, 3) := by decide +kernel
theorem dX2_within_14 : decode cX2_within 14 = .ok (.iconst 0, 1) := by decide +kernel
theorem dX2_within_15 : decode cX2_within 15 = .ok (.ireturn, 1) := by decide +kernel
theorem dX2_at_0 : decode cX2_at 0 = .ok (.aload_n 0, 1) := by decide +kernel
theorem dX2_at_1 : decode cX2_at 1 = .ok (.ifnull 19, 3) := by decide +kernel
theorem dX2_at_4 : decode cX2_at 4 = .ok (.iload_n 1, 1) := by decide +kernel
theorem dX2_at_5 : decode cX2_at 5 = .ok (.ifCond .lt 15, 3) := by decide +kernel
theorem dX2_at_8 : decode cX2_at 8 = .ok (.iload_n 1, 1) := by decide +kernel
theorem dX2_at_9 : decode cX2_at 9 = .ok (.aload_n 0, 1) := by decide +kernel
theorem dX2_at_10 : decode cX2_at 10 = .ok (.arraylength, 1) := by decide +kernel
theorem dX2_at_11 : decode cX2_at 11 = .ok (.if_icmp .ge 9, 3) := by decide +kernel
theorem dX2_at_14 : decode cX2_at 14 = .ok (.aload_n 0, 1) := by decide +kernel
theorem dX2_at_15 : decode cX2_at 15 = .ok (.iload_n 1, 1) := by decide +kernel
theorem dX2_at_16 : decode cX2_at 16 = .ok (.iaload, 1) := by decide +kernel
theorem dX2_at_17 : decode cX2_at 17 = .ok (.goto 4, 3) := by decide +kernel
theorem dX2_at_20 : decode cX2_at 20 = .ok (.iconst 0, 1) := by decide +kernel
theorem dX2_at_21 : decode cX2_at 21 = .ok (.ireturn, 1) := by decide +kernel
theorem dX2_put_0 : decode cX2_put 0 = .ok (.aload_n 0, 1) := by decide +kernel
theorem dX2_put_1 : decode cX2_put 1 = .ok (.ifnull 17, 3) := by decide +kernel
theorem dX2_put_4 : decode cX2_put 4 = .ok (.iload_n 1, 1) := by decide +kernel
theorem dX2_put_5 : decode cX2_put 5 = .ok (.ifCond .lt 13, 3) := by decide +kernel
theorem dX2_put_8 : decode cX2_put 8 = .ok (.iload_n 1, 1) := by decide +kernel
theorem dX2_put_9 : decode cX2_put 9 = .ok (.aload_n 0, 1) := by decide +kernel
theorem dX2_put_10 : decode cX2_put 10 = .ok (.arraylength, 1) := by decide +kernel
theorem dX2_put_11 : decode cX2_put 11 = .ok (.if_icmp .ge 7, 3) := by decide +kernel
theorem dX2_put_14 : decode cX2_put 14 = .ok (.aload_n 0, 1) := by decide +kernel
theorem dX2_put_15 : decode cX2_put 15 = .ok (.iload_n 1, 1) := by decide +kernel
theorem dX2_put_16 : decode cX2_put 16 = .ok (.iload_n 2, 1) := by decide +kernel
theorem dX2_put_17 : decode cX2_put 17 = .ok (.iastore, 1) := by decide +kernel
theorem dX2_put_18 : decode cX2_put 18 = .ok (.return_, 1) := by decide +kernel
theorem dJ6_compare_7cf53_0 : decode cJ6_compare_7cf53 0 = .ok (.iload_n 0, 1) := by decide +kernel
theorem dJ6_compare_7cf53_1 : decode cJ6_compare_7cf53 1 = .ok (.iload_n 1, 1) := by decide +kernel
theorem dJ6_compare_7cf53_2 : decode cJ6_compare_7cf53 2 = .ok (.if_icmp .ge 7, 3) := by decide +kernel
theorem dJ6_compare_7cf53_5 : decode cJ6_compare_7cf53 5 = .ok (.iconst (-1), 1) := by decide +kernel
theorem dJ6_compare_7cf53_6 : decode cJ6_compare_7cf53 6 = .ok (.goto 13, 3) := by decide +kernel
theorem dJ6_compare_7cf53_9 : decode cJ6_compare_7cf53 9 = .ok (.iload_n 0, 1) := by decide +kernel
theorem dJ6_compare_7cf53_10 : decode cJ6_compare_7cf53 10 = .ok (.iload_n 1, 1) := by decide +kernel
theorem dJ6_compare_7cf53_11 : decode cJ6_compare_7cf53 11 = .ok (.if_icmp .ne 7, 3) := by decide +kernel
theorem dJ6_compare_7cf53_14 : decode cJ6_compare_7cf53 14 = .ok (.iconst 0, 1) := by decide +kernel
theorem dJ6_compare_7cf53_15 : decode cJ6_compare_7cf53 15 = .ok (.goto 4, 3) := by decide +kernel
theorem dJ6_compare_7cf53_18 : decode cJ6_compare_7cf53 18 = .ok (.iconst 1, 1) := by decide +kernel
theorem dJ6_compare_7cf53_19 : decode cJ6_compare_7cf53 19 = .ok (.ireturn, 1) := by decide +kernel
theorem dJ6_bitCount_0f7a4_0 : decode cJ6_bitCount_0f7a4 0 = .ok (.iload_n 0, 1) := by decide +kernel
theorem dJ6_bitCount_0f7a4_1 : decode cJ6_bitCount_0f7a4 1 = .ok (.iload_n 0, 1) := by decide +kernel
theorem dJ6_bitCount_0f7a4_2 : decode cJ6_bitCount_0f7a4 2 = .ok (.iconst 1, 1) := by decide +kernel
theorem dJ6_bitCount_0f7a4_3 : decode cJ6_bitCount_0f7a4 3 = .ok (.iushr, 1) := by decide +kernel
theorem dJ6_bitCount_0f7a4_4 : decode cJ6_bitCount_0f7a4 4 = .ok (.ldc_w 265, 3) := by decide +kernel
theorem dJ6_bitCount_0f7a4_7 : decode cJ6_bitCount_0f7a4 7 = .ok (.iand, 1) := by decide +kernel
theorem dJ6_bitCount_0f7a4_8 : decode cJ6_bitCount_0f7a4 8 = .ok (.isub, 1) := by decide +kernel
theorem dJ6_bitCount_0f7a4_9 : decode cJ6_bitCount_0f7a4 9 = .ok (.istore_n 0, 1) := by decide +kernel
theorem dJ6_bitCount_0f7a4_10 : decode cJ6_bitCount_0f7a4 10 = .ok (.iload_n 0, 1) := by decide +kernel
theorem dJ6_bitCount_0f7a4_11 : decode cJ6_bitCount_0f7a4 11 = .ok (.ldc_w 266, 3) := by decide +kernel
theorem dJ6_bitCount_0f7a4_14 : decode cJ6_bitCount_0f7a4 14 = .ok (.iand, 1) := by decide +kernel
theorem dJ6_bitCount_0f7a4_15 : decode cJ6_bitCount_0f7a4 15 = .ok (.iload_n 0, 1) := by decide +kernel
theorem dJ6_bitCount_0f7a4_16 : decode cJ6_bitCount_0f7a4 16 = .ok (.iconst 2, 1) := by decide +kernel
theorem dJ6_bitCount_0f7a4_17 : decode cJ6_bitCount_0f7a4 17 = .ok (.iushr, 1) := by decide +kernel
theorem dJ6_bitCount_0f7a4_18 : decode cJ6_bitCount_0f7a4 18 = .ok (.ldc_w 266, 3) := by decide +kernel
theorem dJ6_bitCount_0f7a4_21 : decode cJ6_bitCount_0f7a4 21 = .ok (.iand, 1) := by decide +kernel
theorem dJ6_bitCount_0f7a4_22 : decode cJ6_bitCount_0f7a4 22 = .ok (.iadd, 1) := by decide +kernel
theorem dJ6_bitCount_0f7a4_23 : decode cJ6_bitCount_0f7a4 23 = .ok (.istore_n 0, 1) := by decide +kernel
theorem dJ6_bitCount_0f7a4_24 : decode cJ6_bitCount_0f7a4 24 = .ok (.iload_n 0, 1) := by decide +kernel
theorem dJ6_bitCount_0f7a4_25 : decode cJ6_bitCount_0f7a4 25 = .ok (.iload_n 0, 1) := by decide +kernel
theorem dJ6_bitCount_0f7a4_26 : decode cJ6_bitCount_0f7a4 26 = .ok (.iconst 4, 1) := by decide +kernel
theorem dJ6_bitCount_0f7a4_27 : decode cJ6_bitCount_0f7a4 27 = .ok (.iushr, 1) := by decide +kernel
theorem dJ6_bitCount_0f7a4_28 : decode cJ6_bitCount_0f7a4 28 = .ok (.iadd, 1) := by decide +kernel
theorem dJ6_bitCount_0f7a4_29 : decode cJ6_bitCount_0f7a4 29 = .ok (.ldc_w 267, 3) := by decide +kernel
theorem dJ6_bitCount_0f7a4_32 : decode cJ6_bitCount_0f7a4 32 = .ok (.iand, 1) := by decide +kernel
theorem dJ6_bitCount_0f7a4_33 : decode cJ6_bitCount_0f7a4 33 = .ok (.istore_n 0, 1) := by decide +kernel
theorem dJ6_bitCount_0f7a4_34 : decode cJ6_bitCount_0f7a4 34 = .ok (.iload_n 0, 1) := by decide +kernel
theorem dJ6_bitCount_0f7a4_35 : decode cJ6_bitCount_0f7a4 35 = .ok (.iload_n 0, 1) := by decide +kernel
theorem dJ6_bitCount_0f7a4_36 : decode cJ6_bitCount_0f7a4 36 = .ok (.bipush 8, 2) := by decide +kernel
theorem dJ6_bitCount_0f7a4_38 : decode cJ6_bitCount_0f7a4 38 = .ok (.iushr, 1) := by decide +kernel
theorem dJ6_bitCount_0f7a4_39 : decode cJ6_bitCount_0f7a4 39 = .ok (.iadd, 1) := by decide +kernel
theorem dJ6_bitCount_0f7a4_40 : decode cJ6_bitCount_0f7a4 40 = .ok (.istore_n 0, 1) := by decide +kernel
theorem dJ6_bitCount_0f7a4_41 : decode cJ6_bitCount_0f7a4 41 = .ok (.iload_n 0, 1) := by decide +kernel
theorem dJ6_bitCount_0f7a4_42 : decode cJ6_bitCount_0f7a4 42 = .ok (.iload_n 0, 1) := by decide +kernel
theorem dJ6_bitCount_0f7a4_43 : decode cJ6_bitCount_0f7a4 43 = .ok (.bipush 16, 2) := by decide +kernel
theorem dJ6_bitCount_0f7a4_45 : decode cJ6_bitCount_0f7a4 45 = .ok (.iushr, 1) := by decide +kernel
theorem dJ6_bitCount_0f7a4_46 : decode cJ6_bitCount_0f7a4 46 = .ok (.iadd, 1) := by decide +kernel
theorem dJ6_bitCount_0f7a4_47 : decode cJ6_bitCount_0f7a4 47 = .ok (.istore_n 0, 1) := by decide +kernel
theorem dJ6_bitCount_0f7a4_48 : decode cJ6_bitCount_0f7a4 48 = .ok (.iload_n 0, 1) := by decide +kernel
theorem dJ6_bitCount_0f7a4_49 : decode cJ6_bitCount_0f7a4 49 = .ok (.bipush 63, 2) := by decide +kernel
theorem dJ6_bitCount_0f7a4_51 : decode cJ6_bitCount_0f7a4 51 = .ok (.iand, 1) := by decide +kernel
theorem dJ6_bitCount_0f7a4_52 : decode cJ6_bitCount_0f7a4 52 = .ok (.ireturn, 1) := by decide +kernel
theorem dX0_nearer_0 : decode cX0_nearer 0 = .ok (.iload_n 0, 1) := by decide +kernel
theorem dX0_nearer_1 : decode cX0_nearer 1 = .ok (.iload_n 1, 1) := by decide +kernel
theorem dX0_nearer_2 : decode cX0_nearer 2 = .ok (.if_icmp .ne 5, 3) := by decide +kernel
theorem dX0_nearer_5 : decode cX0_nearer 5 = .ok (.iload_n 0, 1) := by decide +kernel
theorem dX0_nearer_6 : decode cX0_nearer 6 = .ok (.ireturn, 1) := by decide +kernel
theorem dX0_nearer_7 : decode cX0_nearer 7 = .ok (.iload_n 0, 1) := by decide +kernel
theorem dX0_nearer_8 : decode cX0_nearer 8 = .ok (.iload_n 1, 1) := by decide +kernel
theorem dX0_nearer_9 : decode cX0_nearer 9 = .ok (.if_icmp .ge 9, 3) := by decide +kernel
theorem dX0_nearer_12 : decode cX0_nearer 12 = .ok (.iload_n 0, 1) := by decide +kernel
theorem dX0_nearer_13 : decode cX0_nearer 13 = .ok (.iconst 1, 1) := by decide +kernel
theorem dX0_nearer_14 : decode cX0_nearer 14 = .ok (.iadd, 1) := by decide +kernel
theorem dX0_nearer_15 : decode cX0_nearer 15 = .ok (.goto 6, 3) := by decide +kernel
theorem dX0_nearer_18 : decode cX0_nearer 18 = .ok (.iload_n 0, 1) := by decide +kernel
theorem dX0_nearer_19 : decode cX0_nearer 19 = .ok (.iconst 1, 1) := by decide +kernel
theorem dX0_nearer_20 : decode cX0_nearer 20 = .ok (.isub, 1) := by decide +kernel
theorem dX0_nearer_21 : decode cX0_nearer 21 = .ok (.ireturn, 1) := by decide +kernel
theorem dX0_kept_0 : decode cX0_kept 0 = .ok (.iload_n 1, 1) := by decide +kernel
theorem dX0_kept_1 : decode cX0_kept 1 = .ok (.ineg, 1) := by decide +kernel
theorem dX0_kept_2 : decode cX0_kept 2 = .ok (.iload_n 1, 1) := by decide +kernel
theorem dX0_kept_3 : decode cX0_kept 3 = .ok (.iload_n 0, 1) := by decide +kernel
theorem dX0_kept_4 : decode cX0_kept 4 = .ok (.invokestatic 18, 3) := by decide +kernel
theorem dX0_kept_7 : decode cX0_kept 7 = .ok (.invokestatic 23, 3) := by decide +kernel
theorem dX0_kept_10 : decode cX0_kept 10 = .ok (.ireturn, 1) := by decide +kernel
theorem dX0_behind_0 : decode cX0_behind 0 = .ok (.iload_n 1, 1) := by decide +kernel
theorem dX0_behind_1 : decode cX0_behind 1 = .ok (.iconst 2, 1) := by decide +kernel
theorem dX0_behind_2 : decode cX0_behind 2 = .ok (.irem, 1) := by decide +kernel
theorem dX0_behind_3 : decode cX0_behind 3 = .ok (.ifCond .ne 7, 3) := by decide +kernel
theorem dX0_behind_6 : decode cX0_behind 6 = .ok (.iconst 1, 1) := by decide +kernel
theorem dX0_behind_7 : decode cX0_behind 7 = .ok (.goto 4, 3) := by decide +kernel
theorem dX0_behind_10 : decode cX0_behind 10 = .ok (.iconst 0, 1) := by decide +kernel
theorem dX0_behind_11 : decode cX0_behind 11 = .ok (.istore 4, 2) := by decide +kernel
theorem dX0_behind_13 : decode cX0_behind 13 = .ok (.iload 4, 2) := by decide +kernel
theorem dX0_behind_15 : decode cX0_behind 15 = .ok (.ifCond .eq 9, 3) := by decide +kernel
theorem dX0_behind_18 : decode cX0_behind 18 = .ok (.iload_n 2, 1) := by decide +kernel
theorem dX0_behind_19 : decode cX0_behind 19 = .ok (.iconst 1, 1) := by decide +kernel
theorem dX0_behind_20 : decode cX0_behind 20 = .ok (.iadd, 1) := by decide +kernel
theorem dX0_behind_21 : decode cX0_behind 21 = .ok (.goto 4, 3) := by decide +kernel
theorem dX0_behind_24 : decode cX0_behind 24 = .ok (.iload_n 2, 1) := by decide +kernel
theorem dX0_behind_25 : decode cX0_behind 25 = .ok (.bipush 9, 2) := by decide +kernel
theorem dX0_behind_27 : decode cX0_behind 27 = .ok (.invokestatic 9, 3) := by decide +kernel
theorem dX0_behind_30 : decode cX0_behind 30 = .ok (.istore 5, 2) := by decide +kernel
theorem dX0_behind_32 : decode cX0_behind 32 = .ok (.iload_n 2, 1) := by decide +kernel
theorem dX0_behind_33 : decode cX0_behind 33 = .ok (.iload_n 3, 1) := by decide +kernel
theorem dX0_behind_34 : decode cX0_behind 34 = .ok (.invokestatic 15, 3) := by decide +kernel
theorem dX0_behind_37 : decode cX0_behind 37 = .ok (.iload_n 3, 1) := by decide +kernel
theorem dX0_behind_38 : decode cX0_behind 38 = .ok (.invokestatic 15, 3) := by decide +kernel
theorem dX0_behind_41 : decode cX0_behind 41 = .ok (.istore 6, 2) := by decide +kernel
theorem dX0_behind_43 : decode cX0_behind 43 = .ok (.iload_n 0, 1) := by decide +kernel
theorem dX0_behind_44 : decode cX0_behind 44 = .ok (.tableswitch 77 1 5 #[36, 39, 45, 48, 70], 36) := by decide +kernel
theorem dX0_behind_80 : decode cX0_behind 80 = .ok (.iload 5, 2) := by decide +kernel
theorem dX0_behind_82 : decode cX0_behind 82 = .ok (.ireturn, 1) := by decide +kernel
theorem dX0_behind_83 : decode cX0_behind 83 = .ok (.iload_n 2, 1) := by decide +kernel
theorem dX0_behind_84 : decode cX0_behind 84 = .ok (.iload_n 3, 1) := by decide +kernel
theorem dX0_behind_85 : decode cX0_behind 85 = .ok (.invokestatic 15, 3) := by decide +kernel
theorem dX0_behind_88 : decode cX0_behind 88 = .ok (.ireturn, 1) := by decide +kernel
theorem dX0_behind_89 : decode cX0_behind 89 = .ok (.iload 6, 2) := by decide +kernel
theorem dX0_behind_91 : decode cX0_behind 91 = .ok (.ireturn, 1) := by decide +kernel
theorem dX0_behind_92 : decode cX0_behind 92 = .ok (.iload 4, 2) := by decide +kernel
theorem dX0_behind_94 : decode cX0_behind 94 = .ok (.ifCond .eq 10, 3) := by decide +kernel
theorem dX0_behind_97 : decode cX0_behind 97 = .ok (.iload 6, 2) := by decide +kernel
theorem dX0_behind_99 : decode cX0_behind 99 = .ok (.iconst 1, 1) := by decide +kernel
theorem dX0_behind_100 : decode cX0_behind 100 = .ok (.isub, 1) := by decide +kernel
theorem dX0_behind_101 : decode cX0_behind 101 = .ok (.goto 7, 3) := by decide +kernel
theorem dX0_behind_104 : decode cX0_behind 104 = .ok (.iload 6, 2) := by decide +kernel
theorem dX0_behind_106 : decode cX0_behind 106 = .ok (.iconst 1, 1) := by decide +kernel
theorem dX0_behind_107 : decode cX0_behind 107 = .ok (.iadd, 1) := by decide +kernel
theorem dX0_behind_108 : decode cX0_behind 108 = .ok (.bipush 9, 2) := by decide +kernel
theorem dX0_behind_110 : decode cX0_behind 110 = .ok (.invokestatic 9, 3) := by decide +kernel
theorem dX0_behind_113 : decode cX0_behind 113 = .ok (.ireturn, 1) := by decide +kernel
theorem dX0_behind_114 : decode cX0_behind 114 = .ok (.iload 5, 2) := by decide +kernel
theorem dX0_behind_116 : decode cX0_behind 116 = .ok (.iconst 3, 1) := by decide +kernel
theorem dX0_behind_117 : decode cX0_behind 117 = .ok (.invokestatic 9, 3) := by decide +kernel
theorem dX0_behind_120 : decode cX0_behind 120 = .ok (.ireturn, 1) := by decide +kernel
theorem dX0_behind_121 : decode cX0_behind 121 = .ok (.iload_n 2, 1) := by decide +kernel
theorem dX0_behind_122 : decode cX0_behind 122 = .ok (.ireturn, 1) := by decide +kernel
theorem dX4_heavy_0 : decode cX4_heavy 0 = .ok (.iload_n 0, 1) := by decide +kernel
theorem dX4_heavy_1 : decode cX4_heavy 1 = .ok (.tableswitch 45 1 5 #[35, 37, 39, 41, 43], 35) := by decide +kernel
theorem dX4_heavy_36 : decode cX4_heavy 36 = .ok (.iconst 3, 1) := by decide +kernel
theorem dX4_heavy_37 : decode cX4_heavy 37 = .ok (.ireturn, 1) := by decide +kernel
theorem dX4_heavy_38 : decode cX4_heavy 38 = .ok (.iconst 4, 1) := by decide +kernel
theorem dX4_heavy_39 : decode cX4_heavy 39 = .ok (.ireturn, 1) := by decide +kernel
theorem dX4_heavy_40 : decode cX4_heavy 40 = .ok (.iconst 1, 1) := by decide +kernel
theorem dX4_heavy_41 : decode cX4_heavy 41 = .ok (.ireturn, 1) := by decide +kernel
theorem dX4_heavy_42 : decode cX4_heavy 42 = .ok (.iconst 5, 1) := by decide +kernel
theorem dX4_heavy_43 : decode cX4_heavy 43 = .ok (.ireturn, 1) := by decide +kernel
theorem dX4_heavy_44 : decode cX4_heavy 44 = .ok (.iconst 1, 1) := by decide +kernel
theorem dX4_heavy_45 : decode cX4_heavy 45 = .ok (.ireturn, 1) := by decide +kernel
theorem dX4_heavy_46 : decode cX4_heavy 46 = .ok (.iconst 2, 1) := by decide +kernel
theorem dX4_heavy_47 : decode cX4_heavy 47 = .ok (.ireturn, 1) := by decide +kernel
theorem dX4_stands_0 : decode cX4_stands 0 = .ok (.iload_n 1, 1) := by decide +kernel
theorem dX4_stands_1 : decode cX4_stands 1 = .ok (.iload_n 2, 1) := by decide +kernel
theorem dX4_stands_2 : decode cX4_stands 2 = .ok (.isub, 1) := by decide +kernel
theorem dX4_stands_3 : decode cX4_stands 3 = .ok (.invokestatic 7, 3) := by decide +kernel
theorem dX4_stands_6 : decode cX4_stands 6 = .ok (.istore 4, 2) := by decide +kernel
theorem dX4_stands_8 : decode cX4_stands 8 = .ok (.iload_n 0, 1) := by decide +kernel
theorem dX4_stands_9 : decode cX4_stands 9 = .ok (.tableswitch 116 1 5 #[35, 53, 65, 76, 93], 35) := by decide +kernel
theorem dX4_stands_44 : decode cX4_stands 44 = .ok (.iload 4, 2) := by decide +kernel
theorem dX4_stands_46 : decode cX4_stands 46 = .ok (.iconst 2, 1) := by decide +kernel
theorem dX4_stands_47 : decode cX4_stands 47 = .ok (.if_icmp .gt 13, 3) := by decide +kernel
theorem dX4_stands_50 : decode cX4_stands 50 = .ok (.iload_n 3, 1) := by decide +kernel
theorem dX4_stands_51 : decode cX4_stands 51 = .ok (.bipush 8, 2) := by decide +kernel
theorem dX4_stands_53 : decode cX4_stands 53 = .ok (.if_icmp .gt 7, 3) := by decide +kernel
theorem dX4_stands_56 : decode cX4_stands 56 = .ok (.iconst 1, 1) := by decide +kernel
theorem dX4_stands_57 : decode cX4_stands 57 = .ok (.goto 4, 3) := by decide +kernel
theorem dX4_stands_60 : decode cX4_stands 60 = .ok (.iconst 0, 1) := by decide +kernel
theorem dX4_stands_61 : decode cX4_stands 61 = .ok (.ireturn, 1) := by decide +kernel
theorem dX4_stands_62 : decode cX4_stands 62 = .ok (.iload 4, 2) := by decide +kernel
theorem dX4_stands_64 : decode cX4_stands 64 = .ok (.iconst 1, 1) := by decide +kernel
theorem dX4_stands_65 : decode cX4_stands 65 = .ok (.if_icmp .gt 7, 3) := by decide +kernel
theorem dX4_stands_68 : decode cX4_stands 68 = .ok (.iconst 1, 1) := by decide +kernel
theorem dX4_stands_69 : decode cX4_stands 69 = .ok (.goto 4, 3) := by decide +kernel
theorem dX4_stands_72 : decode cX4_stands 72 = .ok (.iconst 0, 1) := by decide +kernel
theorem dX4_stands_73 : decode cX4_stands 73 = .ok (.ireturn, 1) := by decide +kernel
theorem dX4_stands_74 : decode cX4_stands 74 = .ok (.iload_n 3, 1) := by decide +kernel
theorem dX4_stands_75 : decode cX4_stands 75 = .ok (.iconst 3, 1) := by decide +kernel
theorem dX4_stands_76 : decode cX4_stands 76 = .ok (.if_icmp .gt 7, 3) := by decide +kernel
theorem dX4_stands_79 : decode cX4_stands 79 = .ok (.iconst 1, 1) := by decide +kernel
theorem dX4_stands_80 : decode cX4_stands 80 = .ok (.goto 4, 3) := by decide +kernel
theorem dX4_stands_83 : decode cX4_stands 83 = .ok (.iconst 0, 1) := by decide +kernel
theorem dX4_stands_84 : decode cX4_stands 84 = .ok (.ireturn, 1) := by decide +kernel
theorem dX4_stands_85 : decode cX4_stands 85 = .ok (.iload 4, 2) := by decide +kernel
theorem dX4_stands_87 : decode cX4_stands 87 = .ok (.iconst 1, 1) := by decide +kernel
theorem dX4_stands_88 : decode cX4_stands 88 = .ok (.if_icmp .gt 12, 3) := by decide +kernel
theorem dX4_stands_91 : decode cX4_stands 91 = .ok (.iload_n 3, 1) := by decide +kernel
theorem dX4_stands_92 : decode cX4_stands 92 = .ok (.iconst 5, 1) := by decide +kernel
theorem dX4_stands_93 : decode cX4_stands 93 = .ok (.if_icmp .gt 7, 3) := by decide +kernel
theorem dX4_stands_96 : decode cX4_stands 96 = .ok (.iconst 1, 1) := by decide +kernel
theorem dX4_stands_97 : decode cX4_stands 97 = .ok (.goto 4, 3) := by decide +kernel
theorem dX4_stands_100 : decode cX4_stands 100 = .ok (.iconst 0, 1) := by decide +kernel
theorem dX4_stands_101 : decode cX4_stands 101 = .ok (.ireturn, 1) := by decide +kernel
theorem dX4_stands_102 : decode cX4_stands 102 = .ok (.iload_n 3, 1) := by decide +kernel
theorem dX4_stands_103 : decode cX4_stands 103 = .ok (.iconst 3, 1) := by decide +kernel
theorem dX4_stands_104 : decode cX4_stands 104 = .ok (.if_icmp .gt 19, 3) := by decide +kernel
theorem dX4_stands_107 : decode cX4_stands 107 = .ok (.iload_n 1, 1) := by decide +kernel
theorem dX4_stands_108 : decode cX4_stands 108 = .ok (.bipush (-6), 2) := by decide +kernel
theorem dX4_stands_110 : decode cX4_stands 110 = .ok (.if_icmp .lt 13, 3) := by decide +kernel
theorem dX4_stands_113 : decode cX4_stands 113 = .ok (.iload_n 1, 1) := by decide +kernel
theorem dX4_stands_114 : decode cX4_stands 114 = .ok (.bipush 6, 2) := by decide +kernel
theorem dX4_stands_116 : decode cX4_stands 116 = .ok (.if_icmp .gt 7, 3) := by decide +kernel
theorem dX4_stands_119 : decode cX4_stands 119 = .ok (.iconst 1, 1) := by decide +kernel
theorem dX4_stands_120 : decode cX4_stands 120 = .ok (.goto 4, 3) := by decide +kernel
theorem dX4_stands_123 : decode cX4_stands 123 = .ok (.iconst 0, 1) := by decide +kernel
theorem dX4_stands_124 : decode cX4_stands 124 = .ok (.ireturn, 1) := by decide +kernel
theorem dX4_stands_125 : decode cX4_stands 125 = .ok (.iload 4, 2) := by decide +kernel
theorem dX4_stands_127 : decode cX4_stands 127 = .ok (.iconst 2, 1) := by decide +kernel
theorem dX4_stands_128 : decode cX4_stands 128 = .ok (.if_icmp .gt 7, 3) := by decide +kernel
theorem dX4_stands_131 : decode cX4_stands 131 = .ok (.iconst 1, 1) := by decide +kernel
theorem dX4_stands_132 : decode cX4_stands 132 = .ok (.goto 4, 3) := by decide +kernel
theorem dX4_stands_135 : decode cX4_stands 135 = .ok (.iconst 0, 1) := by decide +kernel
theorem dX4_stands_136 : decode cX4_stands 136 = .ok (.ireturn, 1) := by decide +kernel
def sp_X2_within (p0 : Int32) (p1 : Int32) (p2 : Int32) : Int32 := if p0 < p1 then ((0 : Int32)) else (if p2 < p0 then ((0 : Int32)) else ((1 : Int32)))
theorem bz_X2_within {p0 : Int32} {p1 : Int32} {p2 : Int32} : narrow .boolean (.int (sp_X2_within p0 p1 p2)) = .int (sp_X2_within p0 p1 p2) := by
  unfold sp_X2_within
  repeat' split
  all_goals first | rfl 
set_option maxHeartbeats 4000000 in
set_option maxRecDepth 100000 in
theorem c_X2_within (l : Launch) (E : wE) (p0 : Int32) (p1 : Int32) (p2 : Int32) (z : Int32) (hsp : sp_X2_within p0 p1 p2 = z) : MR l yX2_within cX2_within 3 (some .boolean) 0 E [.int p0, .int p1, .int p2] [] (some (.int z)) := by
  refine MR.of (by decide +kernel) (Nat.le_of_ble_eq_true rfl) ?_
  intro p e s m below meth c ls hX hK hP hl
  have hX : CX p s m [.int p0, .int p1, .int p2].toArray meth c cX2_within 3 (some .boolean) RX2 := hX
  have hx := hX.1; have hb := hX.2.1; have hts := hX.2.2.2.2.1; have hown := hX.2.2.2.2.2.1
  have hl : lv_has ls 3 [(0, .int p0), (1, .int p1), (2, .int p2)] := hl
  have hsp : (if p0 < p1 then ((0 : Int32)) else (if p2 < p0 then ((0 : Int32)) else ((1 : Int32)))) = z := hsp
  refine lv_iload_n hx hb dX2_within_0 rfl (lv_at hl 0 rfl) (W.pc 1 rfl ?_)
  refine lv_iload_n hx hb dX2_within_1 rfl (lv_at hl 1 rfl) (W.pc 2 rfl ?_)
  refine lv_icmp_lt (tgt := 14) hx hb dX2_within_2 (by decide) (fun c1 => ?_) (fun c1 => W.pc 5 rfl ?_)
  · have hsp := ip hsp c1
    refine lv_iconst (v := (0 : Int32)) hx hb dX2_within_14 (by decide) (W.pc 15 rfl ?_)
    subst hsp
    exact rRz hX rfl rfl dX2_within_15
  · have hsp := iq hsp c1
    refine lv_iload_n hx hb dX2_within_5 rfl (lv_at hl 0 rfl) (W.pc 6 rfl ?_)
    refine lv_iload_n hx hb dX2_within_6 rfl (lv_at hl 2 rfl) (W.pc 7 rfl ?_)
    refine lv_icmp_gt (tgt := 14) hx hb dX2_within_7 (by decide) (fun c2 => ?_) (fun c2 => W.pc 10 rfl ?_)
    · have hsp := ip hsp c2
      refine lv_iconst (v := (0 : Int32)) hx hb dX2_within_14 (by decide) (W.pc 15 rfl ?_)
      subst hsp
      exact rRz hX rfl rfl dX2_within_15
    · have hsp := iq hsp c2
      refine lv_iconst (v := (1 : Int32)) hx hb dX2_within_10 (by decide) (W.pc 11 rfl ?_)
      refine lv_goto (tgt := 15) hx hb dX2_within_11 (by decide) ?_
      subst hsp
      exact rRz hX rfl rfl dX2_within_15
def sp_X2_at (n0 : Nat) (p1 : Int32) (fa0 : Nat → Int32) : Int32 := if p1 < 0 then ((0 : Int32)) else (if (Int32.ofNat n0) ≤ p1 then ((0 : Int32)) else ((fa0 (p1).toNatClampNeg)))
set_option maxHeartbeats 4000000 in
set_option maxRecDepth 100000 in
theorem c_X2_at (l : Launch) (E : wE) (a0 : Nat) (n0 : Nat) (hnn0 : n0 < 2 ^ 31) (p1 : Int32) (fa0 : Nat → Int32) (z : Int32) (hsp : sp_X2_at n0 p1 fa0 = z) : MR l yX2_at cX2_at 2 (some .int) 0 E [.ref a0, .int p1] [(a0, aI E n0 fa0)] (some (.int z)) := by
  refine MR.of (by decide +kernel) (Nat.le_of_ble_eq_true rfl) ?_
  intro p e s m below meth c ls hX hK hP hl
  have hX : CX p s m [.ref a0, .int p1].toArray meth c cX2_at 2 (some .int) RX2 := hX
  have hx := hX.1; have hb := hX.2.1; have hts := hX.2.2.2.2.1; have hown := hX.2.2.2.2.2.1
  have hl : lv_has ls 2 [(0, .ref a0), (1, .int p1)] := hl
  have hsp : (if p1 < 0 then ((0 : Int32)) else (if (Int32.ofNat n0) ≤ p1 then ((0 : Int32)) else ((fa0 (p1).toNatClampNeg)))) = z := hsp
  refine lv_aload_n hx hb dX2_at_0 rfl (lv_at hl 0 rfl) (W.pc 1 rfl ?_)
  refine lv_ifnull hx hb dX2_at_1 (W.pc 4 rfl ?_)
  refine lv_iload_n hx hb dX2_at_4 rfl (lv_at hl 1 rfl) (W.pc 5 rfl ?_)
  refine lv_if_lt (tgt := 20) hx hb dX2_at_5 (by decide) (fun c1 => ?_) (fun c1 => W.pc 8 rfl ?_)
  · have hsp := ip hsp c1
    refine lv_iconst (v := (0 : Int32)) hx hb dX2_at_20 (by decide) (W.pc 21 rfl ?_)
    subst hsp
    exact rRi hX rfl dX2_at_21
  · have hsp := iq hsp c1
    refine lv_iload_n hx hb dX2_at_8 rfl (lv_at hl 1 rfl) (W.pc 9 rfl ?_)
    refine lv_aload_n hx hb dX2_at_9 rfl (lv_at hl 0 rfl) (W.pc 10 rfl ?_)
    refine va_alen hx hb hK hP 0 0 rfl rfl (v := (Int32.ofNat n0)) rfl dX2_at_10 (W.pc 11 rfl ?_)
    refine lv_icmp_ge (tgt := 20) hx hb dX2_at_11 (by decide) (fun c2 => ?_) (fun c2 => W.pc 14 rfl ?_)
    · have hsp := ip hsp c2
      refine lv_iconst (v := (0 : Int32)) hx hb dX2_at_20 (by decide) (W.pc 21 rfl ?_)
      subst hsp
      exact rRi hX rfl dX2_at_21
    · have hsp := iq hsp c2
      refine lv_aload_n hx hb dX2_at_14 rfl (lv_at hl 0 rfl) (W.pc 15 rfl ?_)
      refine lv_iload_n hx hb dX2_at_15 rfl (lv_at hl 1 rfl) (W.pc 16 rfl ?_)
      have h3 : vp_in p1 n0 := vp_in_of_lt hnn0 rfl c1 (Int32.not_le.mp c2)
      refine va_iald hx hb hK hP 0 0 rfl rfl h3 dX2_at_16 (W.pc 17 rfl ?_)
      refine lv_goto (tgt := 21) hx hb dX2_at_17 (by decide) ?_
      subst hsp
      exact rRi hX rfl dX2_at_21
def sp_X2_put (n0 : Nat) (p1 : Int32) (p2 : Int32) (fa0 : Nat → Int32) : (Nat → Int32) := if p1 < 0 then (fa0) else (if (Int32.ofNat n0) ≤ p1 then (fa0) else ((upd fa0 (p1).toNatClampNeg p2)))
set_option maxHeartbeats 4000000 in
set_option maxRecDepth 100000 in
theorem c_X2_put (l : Launch) (E : wE) (a0 : Nat) (n0 : Nat) (hnn0 : n0 < 2 ^ 31) (p1 : Int32) (p2 : Int32) (fa0 : Nat → Int32) (z : (Nat → Int32)) (hsp : sp_X2_put n0 p1 p2 fa0 = z) : MW l yX2_put cX2_put 3 none 0 E [.ref a0, .int p1, .int p2] [(a0, aI E n0 fa0)] none [(a0, aI E n0 z)] := by
  refine MW.of (by decide +kernel) (Nat.le_of_ble_eq_true rfl) ?_
  intro p e s m below meth c ls A hX hK hP hD hS hA hl
  have hX : CX p s m [.ref a0, .int p1, .int p2].toArray meth c cX2_put 3 none RX2 := hX
  have hx := hX.1; have hb := hX.2.1; have hts := hX.2.2.2.2.1; have hown := hX.2.2.2.2.2.1
  have hl : lv_has ls 3 [(0, .ref a0), (1, .int p1), (2, .int p2)] := hl
  have hP : wP E [(a0, aI E n0 fa0)] s.heap := hP
  have hsp : (if p1 < 0 then (fa0) else (if (Int32.ofNat n0) ≤ p1 then (fa0) else ((upd fa0 (p1).toNatClampNeg p2)))) = z := hsp
  refine lv_aload_n hx hb dX2_put_0 rfl (lv_at hl 0 rfl) (W.pc 1 rfl ?_)
  refine lv_ifnull hx hb dX2_put_1 (W.pc 4 rfl ?_)
  refine lv_iload_n hx hb dX2_put_4 rfl (lv_at hl 1 rfl) (W.pc 5 rfl ?_)
  refine lv_if_lt (tgt := 18) hx hb dX2_put_5 (by decide) (fun c1 => ?_) (fun c1 => W.pc 8 rfl ?_)
  · have hsp := ip hsp c1
    subst hsp
    exact rWv hX hP hS rfl dX2_put_18
  · have hsp := iq hsp c1
    refine lv_iload_n hx hb dX2_put_8 rfl (lv_at hl 1 rfl) (W.pc 9 rfl ?_)
    refine lv_aload_n hx hb dX2_put_9 rfl (lv_at hl 0 rfl) (W.pc 10 rfl ?_)
    refine va_alen hx hb hK hP 0 0 rfl rfl (v := (Int32.ofNat n0)) rfl dX2_put_10 (W.pc 11 rfl ?_)
    refine lv_icmp_ge (tgt := 18) hx hb dX2_put_11 (by decide) (fun c2 => ?_) (fun c2 => W.pc 14 rfl ?_)
    · have hsp := ip hsp c2
      subst hsp
      exact rWv hX hP hS rfl dX2_put_18
    · have hsp := iq hsp c2
      refine lv_aload_n hx hb dX2_put_14 rfl (lv_at hl 0 rfl) (W.pc 15 rfl ?_)
      refine lv_iload_n hx hb dX2_put_15 rfl (lv_at hl 1 rfl) (W.pc 16 rfl ?_)
      refine lv_iload_n hx hb dX2_put_16 rfl (lv_at hl 2 rfl) (W.pc 17 rfl ?_)
      have h3 : vp_in p1 n0 := vp_in_of_lt hnn0 rfl c1 (Int32.not_le.mp c2)
      refine va_iast hx hb hK hP hD hS 0 0 rfl rfl h3 dX2_put_17 (fun H locs hP hD hS => W.pc 18 rfl ?_)
      have hP : wP E [(a0, aI E n0 (upd fa0 (p1).toNatClampNeg p2))] _ := hP
      have hD : va_D A [(a0, aI E n0 (upd fa0 (p1).toNatClampNeg p2))] := hD
      subst hsp
      exact rWv hX hP hS rfl dX2_put_18
def sp_J6_compare_7cf53 (p0 : Int32) (p1 : Int32) : Int32 := if p1 ≤ p0 then (if p0 = p1 then ((0 : Int32)) else ((1 : Int32))) else ((-1 : Int32))
set_option maxHeartbeats 4000000 in
set_option maxRecDepth 100000 in
theorem c_J6_compare_7cf53 (l : Launch) (E : wE) (p0 : Int32) (p1 : Int32) (z : Int32) (hsp : sp_J6_compare_7cf53 p0 p1 = z) : MR l yJ6_compare_7cf53 cJ6_compare_7cf53 2 (some .int) 0 E [.int p0, .int p1] [] (some (.int z)) := by
  refine MR.of (by decide +kernel) (Nat.le_of_ble_eq_true rfl) ?_
  intro p e s m below meth c ls hX hK hP hl
  have hX : CX p s m [.int p0, .int p1].toArray meth c cJ6_compare_7cf53 2 (some .int) RJ6 := hX
  have hx := hX.1; have hb := hX.2.1; have hts := hX.2.2.2.2.1; have hown := hX.2.2.2.2.2.1
  have hl : lv_has ls 2 [(0, .int p0), (1, .int p1)] := hl
  have hsp : (if p1 ≤ p0 then (if p0 = p1 then ((0 : Int32)) else ((1 : Int32))) else ((-1 : Int32))) = z := hsp
  refine lv_iload_n hx hb dJ6_compare_7cf53_0 rfl (lv_at hl 0 rfl) (W.pc 1 rfl ?_)
  refine lv_iload_n hx hb dJ6_compare_7cf53_1 rfl (lv_at hl 1 rfl) (W.pc 2 rfl ?_)
  refine lv_icmp_ge (tgt := 9) hx hb dJ6_compare_7cf53_2 (by decide) (fun c1 => ?_) (fun c1 => W.pc 5 rfl ?_)
  · have hsp := ip hsp c1
    refine lv_iload_n hx hb dJ6_compare_7cf53_9 rfl (lv_at hl 0 rfl) (W.pc 10 rfl ?_)
    refine lv_iload_n hx hb dJ6_compare_7cf53_10 rfl (lv_at hl 1 rfl) (W.pc 11 rfl ?_)
    refine lv_icmp_ne (tgt := 18) hx hb dJ6_compare_7cf53_11 (by decide) (fun c2 => ?_) (fun c2 => W.pc 14 rfl ?_)
    · have hsp := iq hsp c2
      refine lv_iconst (v := (1 : Int32)) hx hb dJ6_compare_7cf53_18 (by decide) (W.pc 19 rfl ?_)
      subst hsp
      exact rRi hX rfl dJ6_compare_7cf53_19
    · have hsp := ip hsp c2
      refine lv_iconst (v := (0 : Int32)) hx hb dJ6_compare_7cf53_14 (by decide) (W.pc 15 rfl ?_)
      refine lv_goto (tgt := 19) hx hb dJ6_compare_7cf53_15 (by decide) ?_
      subst hsp
      exact rRi hX rfl dJ6_compare_7cf53_19
  · have hsp := iq hsp c1
    refine lv_iconst (v := (-1 : Int32)) hx hb dJ6_compare_7cf53_5 (by decide) (W.pc 6 rfl ?_)
    refine lv_goto (tgt := 19) hx hb dJ6_compare_7cf53_6 (by decide) ?_
    subst hsp
    exact rRi hX rfl dJ6_compare_7cf53_19
def sp_J6_bitCount_0f7a4 (p0 : Int32) : Int32 := ((((((((p0 - ((((p0).toUInt32 >>> (((1 : Int32)).toUInt32 &&& Int32.toUInt32 31)).toInt32) &&& (1431655765 : Int32))) &&& (858993459 : Int32)) + (((((p0 - ((((p0).toUInt32 >>> (((1 : Int32)).toUInt32 &&& Int32.toUInt32 31)).toInt32) &&& (1431655765 : Int32)))).toUInt32 >>> (((2 : Int32)).toUInt32 &&& Int32.toUInt32 31)).toInt32) &&& (858993459 : Int32))) + ((((((p0 - ((((p0).toUInt32 >>> (((1 : Int32)).toUInt32 &&& Int32.toUInt32 31)).toInt32) &&& (1431655765 : Int32))) &&& (858993459 : Int32)) + (((((p0 - ((((p0).toUInt32 >>> (((1 : Int32)).toUInt32 &&& Int32.toUInt32 31)).toInt32) &&& (1431655765 : Int32)))).toUInt32 >>> (((2 : Int32)).toUInt32 &&& Int32.toUInt32 31)).toInt32) &&& (858993459 : Int32)))).toUInt32 >>> (((4 : Int32)).toUInt32 &&& Int32.toUInt32 31)).toInt32)) &&& (252645135 : Int32)) + ((((((((p0 - ((((p0).toUInt32 >>> (((1 : Int32)).toUInt32 &&& Int32.toUInt32 31)).toInt32) &&& (1431655765 : Int32))) &&& (858993459 : Int32)) + (((((p0 - ((((p0).toUInt32 >>> (((1 : Int32)).toUInt32 &&& Int32.toUInt32 31)).toInt32) &&& (1431655765 : Int32)))).toUInt32 >>> (((2 : Int32)).toUInt32 &&& Int32.toUInt32 31)).toInt32) &&& (858993459 : Int32))) + ((((((p0 - ((((p0).toUInt32 >>> (((1 : Int32)).toUInt32 &&& Int32.toUInt32 31)).toInt32) &&& (1431655765 : Int32))) &&& (858993459 : Int32)) + (((((p0 - ((((p0).toUInt32 >>> (((1 : Int32)).toUInt32 &&& Int32.toUInt32 31)).toInt32) &&& (1431655765 : Int32)))).toUInt32 >>> (((2 : Int32)).toUInt32 &&& Int32.toUInt32 31)).toInt32) &&& (858993459 : Int32)))).toUInt32 >>> (((4 : Int32)).toUInt32 &&& Int32.toUInt32 31)).toInt32)) &&& (252645135 : Int32))).toUInt32 >>> (((8 : Int32)).toUInt32 &&& Int32.toUInt32 31)).toInt32)) + (((((((((p0 - ((((p0).toUInt32 >>> (((1 : Int32)).toUInt32 &&& Int32.toUInt32 31)).toInt32) &&& (1431655765 : Int32))) &&& (858993459 : Int32)) + (((((p0 - ((((p0).toUInt32 >>> (((1 : Int32)).toUInt32 &&& Int32.toUInt32 31)).toInt32) &&& (1431655765 : Int32)))).toUInt32 >>> (((2 : Int32)).toUInt32 &&& Int32.toUInt32 31)).toInt32) &&& (858993459 : Int32))) + ((((((p0 - ((((p0).toUInt32 >>> (((1 : Int32)).toUInt32 &&& Int32.toUInt32 31)).toInt32) &&& (1431655765 : Int32))) &&& (858993459 : Int32)) + (((((p0 - ((((p0).toUInt32 >>> (((1 : Int32)).toUInt32 &&& Int32.toUInt32 31)).toInt32) &&& (1431655765 : Int32)))).toUInt32 >>> (((2 : Int32)).toUInt32 &&& Int32.toUInt32 31)).toInt32) &&& (858993459 : Int32)))).toUInt32 >>> (((4 : Int32)).toUInt32 &&& Int32.toUInt32 31)).toInt32)) &&& (252645135 : Int32)) + ((((((((p0 - ((((p0).toUInt32 >>> (((1 : Int32)).toUInt32 &&& Int32.toUInt32 31)).toInt32) &&& (1431655765 : Int32))) &&& (858993459 : Int32)) + (((((p0 - ((((p0).toUInt32 >>> (((1 : Int32)).toUInt32 &&& Int32.toUInt32 31)).toInt32) &&& (1431655765 : Int32)))).toUInt32 >>> (((2 : Int32)).toUInt32 &&& Int32.toUInt32 31)).toInt32) &&& (858993459 : Int32))) + ((((((p0 - ((((p0).toUInt32 >>> (((1 : Int32)).toUInt32 &&& Int32.toUInt32 31)).toInt32) &&& (1431655765 : Int32))) &&& (858993459 : Int32)) + (((((p0 - ((((p0).toUInt32 >>> (((1 : Int32)).toUInt32 &&& Int32.toUInt32 31)).toInt32) &&& (1431655765 : Int32)))).toUInt32 >>> (((2 : Int32)).toUInt32 &&& Int32.toUInt32 31)).toInt32) &&& (858993459 : Int32)))).toUInt32 >>> (((4 : Int32)).toUInt32 &&& Int32.toUInt32 31)).toInt32)) &&& (252645135 : Int32))).toUInt32 >>> (((8 : Int32)).toUInt32 &&& Int32.toUInt32 31)).toInt32))).toUInt32 >>> (((16 : Int32)).toUInt32 &&& Int32.toUInt32 31)).toInt32)) &&& (63 : Int32))
set_option maxHeartbeats 4000000 in
set_option maxRecDepth 100000 in
theorem c_J6_bitCount_0f7a4 (l : Launch) (E : wE) (p0 : Int32) (z : Int32) (hsp : sp_J6_bitCount_0f7a4 p0 = z) : MR l yJ6_bitCount_0f7a4 cJ6_bitCount_0f7a4 1 (some .int) 0 E [.int p0] [] (some (.int z)) := by
  refine MR.of (by decide +kernel) (Nat.le_of_ble_eq_true rfl) ?_
  intro p e s m below meth c ls hX hK hP hl
  have hX : CX p s m [.int p0].toArray meth c cJ6_bitCount_0f7a4 1 (some .int) RJ6 := hX
  have hx := hX.1; have hb := hX.2.1; have hts := hX.2.2.2.2.1; have hown := hX.2.2.2.2.2.1
  have hl : lv_has ls 1 [(0, .int p0)] := hl
  have hsp : (((((((((p0 - ((((p0).toUInt32 >>> (((1 : Int32)).toUInt32 &&& Int32.toUInt32 31)).toInt32) &&& (1431655765 : Int32))) &&& (858993459 : Int32)) + (((((p0 - ((((p0).toUInt32 >>> (((1 : Int32)).toUInt32 &&& Int32.toUInt32 31)).toInt32) &&& (1431655765 : Int32)))).toUInt32 >>> (((2 : Int32)).toUInt32 &&& Int32.toUInt32 31)).toInt32) &&& (858993459 : Int32))) + ((((((p0 - ((((p0).toUInt32 >>> (((1 : Int32)).toUInt32 &&& Int32.toUInt32 31)).toInt32) &&& (1431655765 : Int32))) &&& (858993459 : Int32)) + (((((p0 - ((((p0).toUInt32 >>> (((1 : Int32)).toUInt32 &&& Int32.toUInt32 31)).toInt32) &&& (1431655765 : Int32)))).toUInt32 >>> (((2 : Int32)).toUInt32 &&& Int32.toUInt32 31)).toInt32) &&& (858993459 : Int32)))).toUInt32 >>> (((4 : Int32)).toUInt32 &&& Int32.toUInt32 31)).toInt32)) &&& (252645135 : Int32)) + ((((((((p0 - ((((p0).toUInt32 >>> (((1 : Int32)).toUInt32 &&& Int32.toUInt32 31)).toInt32) &&& (1431655765 : Int32))) &&& (858993459 : Int32)) + (((((p0 - ((((p0).toUInt32 >>> (((1 : Int32)).toUInt32 &&& Int32.toUInt32 31)).toInt32) &&& (1431655765 : Int32)))).toUInt32 >>> (((2 : Int32)).toUInt32 &&& Int32.toUInt32 31)).toInt32) &&& (858993459 : Int32))) + ((((((p0 - ((((p0).toUInt32 >>> (((1 : Int32)).toUInt32 &&& Int32.toUInt32 31)).toInt32) &&& (1431655765 : Int32))) &&& (858993459 : Int32)) + (((((p0 - ((((p0).toUInt32 >>> (((1 : Int32)).toUInt32 &&& Int32.toUInt32 31)).toInt32) &&& (1431655765 : Int32)))).toUInt32 >>> (((2 : Int32)).toUInt32 &&& Int32.toUInt32 31)).toInt32) &&& (858993459 : Int32)))).toUInt32 >>> (((4 : Int32)).toUInt32 &&& Int32.toUInt32 31)).toInt32)) &&& (252645135 : Int32))).toUInt32 >>> (((8 : Int32)).toUInt32 &&& Int32.toUInt32 31)).toInt32)) + (((((((((p0 - ((((p0).toUInt32 >>> (((1 : Int32)).toUInt32 &&& Int32.toUInt32 31)).toInt32) &&& (1431655765 : Int32))) &&& (858993459 : Int32)) + (((((p0 - ((((p0).toUInt32 >>> (((1 : Int32)).toUInt32 &&& Int32.toUInt32 31)).toInt32) &&& (1431655765 : Int32)))).toUInt32 >>> (((2 : Int32)).toUInt32 &&& Int32.toUInt32 31)).toInt32) &&& (858993459 : Int32))) + ((((((p0 - ((((p0).toUInt32 >>> (((1 : Int32)).toUInt32 &&& Int32.toUInt32 31)).toInt32) &&& (1431655765 : Int32))) &&& (858993459 : Int32)) + (((((p0 - ((((p0).toUInt32 >>> (((1 : Int32)).toUInt32 &&& Int32.toUInt32 31)).toInt32) &&& (1431655765 : Int32)))).toUInt32 >>> (((2 : Int32)).toUInt32 &&& Int32.toUInt32 31)).toInt32) &&& (858993459 : Int32)))).toUInt32 >>> (((4 : Int32)).toUInt32 &&& Int32.toUInt32 31)).toInt32)) &&& (252645135 : Int32)) + ((((((((p0 - ((((p0).toUInt32 >>> (((1 : Int32)).toUInt32 &&& Int32.toUInt32 31)).toInt32) &&& (1431655765 : Int32))) &&& (858993459 : Int32)) + (((((p0 - ((((p0).toUInt32 >>> (((1 : Int32)).toUInt32 &&& Int32.toUInt32 31)).toInt32) &&& (1431655765 : Int32)))).toUInt32 >>> (((2 : Int32)).toUInt32 &&& Int32.toUInt32 31)).toInt32) &&& (858993459 : Int32))) + ((((((p0 - ((((p0).toUInt32 >>> (((1 : Int32)).toUInt32 &&& Int32.toUInt32 31)).toInt32) &&& (1431655765 : Int32))) &&& (858993459 : Int32)) + (((((p0 - ((((p0).toUInt32 >>> (((1 : Int32)).toUInt32 &&& Int32.toUInt32 31)).toInt32) &&& (1431655765 : Int32)))).toUInt32 >>> (((2 : Int32)).toUInt32 &&& Int32.toUInt32 31)).toInt32) &&& (858993459 : Int32)))).toUInt32 >>> (((4 : Int32)).toUInt32 &&& Int32.toUInt32 31)).toInt32)) &&& (252645135 : Int32))).toUInt32 >>> (((8 : Int32)).toUInt32 &&& Int32.toUInt32 31)).toInt32))).toUInt32 >>> (((16 : Int32)).toUInt32 &&& Int32.toUInt32 31)).toInt32)) &&& (63 : Int32))) = z := hsp
  refine lv_iload_n hx hb dJ6_bitCount_0f7a4_0 rfl (lv_at hl 0 rfl) (W.pc 1 rfl ?_)
  refine lv_iload_n hx hb dJ6_bitCount_0f7a4_1 rfl (lv_at hl 0 rfl) (W.pc 2 rfl ?_)
  refine lv_iconst (v := (1 : Int32)) hx hb dJ6_bitCount_0f7a4_2 (by decide) (W.pc 3 rfl ?_)
  refine lv_iushr (v := ((p0).toUInt32 >>> (((1 : Int32)).toUInt32 &&& Int32.toUInt32 31)).toInt32) hx hb dJ6_bitCount_0f7a4_3 rfl (W.pc 4 rfl ?_)
  refine lv_ldcw (v := (1431655765 : Int32)) hx hb hown (hts _ w_3_153) dJ6_bitCount_0f7a4_4 (W.pc 7 rfl ?_)
  refine lv_iand hx hb dJ6_bitCount_0f7a4_7 (W.pc 8 rfl ?_)
  refine lv_isub hx hb dJ6_bitCount_0f7a4_8 (W.pc 9 rfl ?_)
  refine lv_istore_n (lv' := [(0, .int (p0 - ((((p0).toUInt32 >>> (((1 : Int32)).toUInt32 &&& Int32.toUInt32 31)).toInt32) &&& (1431655765 : Int32))))]) hx hb dJ6_bitCount_0f7a4_9 rfl hl (by decide) rfl (fun ls hl => W.pc 10 rfl ?_)
  refine lv_iload_n hx hb dJ6_bitCount_0f7a4_10 rfl (lv_at hl 0 rfl) (W.pc 11 rfl ?_)
  refine lv_ldcw (v := (858993459 : Int32)) hx hb hown (hts _ w_3_154) dJ6_bitCount_0f7a4_11 (W.pc 14 rfl ?_)
  refine lv_iand hx hb dJ6_bitCount_0f7a4_14 (W.pc 15 rfl ?_)
  refine lv_iload_n hx hb dJ6_bitCount_0f7a4_15 rfl (lv_at hl 0 rfl) (W.pc 16 rfl ?_)
  refine lv_iconst (v := (2 : Int32)) hx hb dJ6_bitCount_0f7a4_16 (by decide) (W.pc 17 rfl ?_)
  refine lv_iushr (v := (((p0 - ((((p0).toUInt32 >>> (((1 : Int32)).toUInt32 &&& Int32.toUInt32 31)).toInt32) &&& (1431655765 : Int32)))).toUInt32 >>> (((2 : Int32)).toUInt32 &&& Int32.toUInt32 31)).toInt32) hx hb dJ6_bitCount_0f7a4_17 rfl (W.pc 18 rfl ?_)
  refine lv_ldcw (v := (858993459 : Int32)) hx hb hown (hts _ w_3_154) dJ6_bitCount_0f7a4_18 (W.pc 21 rfl ?_)
  refine lv_iand hx hb dJ6_bitCount_0f7a4_21 (W.pc 22 rfl ?_)
  refine lv_iadd hx hb dJ6_bitCount_0f7a4_22 (W.pc 23 rfl ?_)
  refine lv_istore_n (lv' := [(0, .int (((p0 - ((((p0).toUInt32 >>> (((1 : Int32)).toUInt32 &&& Int32.toUInt32 31)).toInt32) &&& (1431655765 : Int32))) &&& (858993459 : Int32)) + (((((p0 - ((((p0).toUInt32 >>> (((1 : Int32)).toUInt32 &&& Int32.toUInt32 31)).toInt32) &&& (1431655765 : Int32)))).toUInt32 >>> (((2 : Int32)).toUInt32 &&& Int32.toUInt32 31)).toInt32) &&& (858993459 : Int32))))]) hx hb dJ6_bitCount_0f7a4_23 rfl hl (by decide) rfl (fun ls hl => W.pc 24 rfl ?_)
  refine lv_iload_n hx hb dJ6_bitCount_0f7a4_24 rfl (lv_at hl 0 rfl) (W.pc 25 rfl ?_)
  refine lv_iload_n hx hb dJ6_bitCount_0f7a4_25 rfl (lv_at hl 0 rfl) (W.pc 26 rfl ?_)
  refine lv_iconst (v := (4 : Int32)) hx hb dJ6_bitCount_0f7a4_26 (by decide) (W.pc 27 rfl ?_)
  refine lv_iushr (v := (((((p0 - ((((p0).toUInt32 >>> (((1 : Int32)).toUInt32 &&& Int32.toUInt32 31)).toInt32) &&& (1431655765 : Int32))) &&& (858993459 : Int32)) + (((((p0 - ((((p0).toUInt32 >>> (((1 : Int32)).toUInt32 &&& Int32.toUInt32 31)).toInt32) &&& (1431655765 : Int32)))).toUInt32 >>> (((2 : Int32)).toUInt32 &&& Int32.toUInt32 31)).toInt32) &&& (858993459 : Int32)))).toUInt32 >>> (((4 : Int32)).toUInt32 &&& Int32.toUInt32 31)).toInt32) hx hb dJ6_bitCount_0f7a4_27 rfl (W.pc 28 rfl ?_)
  refine lv_iadd hx hb dJ6_bitCount_0f7a4_28 (W.pc 29 rfl ?_)
  refine lv_ldcw (v := (252645135 : Int32)) hx hb hown (hts _ w_3_155) dJ6_bitCount_0f7a4_29 (W.pc 32 rfl ?_)
  refine lv_iand hx hb dJ6_bitCount_0f7a4_32 (W.pc 33 rfl ?_)
  refine lv_istore_n (lv' := [(0, .int (((((p0 - ((((p0).toUInt32 >>> (((1 : Int32)).toUInt32 &&& Int32.toUInt32 31)).toInt32) &&& (1431655765 : Int32))) &&& (858993459 : Int32)) + (((((p0 - ((((p0).toUInt32 >>> (((1 : Int32)).toUInt32 &&& Int32.toUInt32 31)).toInt32) &&& (1431655765 : Int32)))).toUInt32 >>> (((2 : Int32)).toUInt32 &&& Int32.toUInt32 31)).toInt32) &&& (858993459 : Int32))) + ((((((p0 - ((((p0).toUInt32 >>> (((1 : Int32)).toUInt32 &&& Int32.toUInt32 31)).toInt32) &&& (1431655765 : Int32))) &&& (858993459 : Int32)) + (((((p0 - ((((p0).toUInt32 >>> (((1 : Int32)).toUInt32 &&& Int32.toUInt32 31)).toInt32) &&& (1431655765 : Int32)))).toUInt32 >>> (((2 : Int32)).toUInt32 &&& Int32.toUInt32 31)).toInt32) &&& (858993459 : Int32)))).toUInt32 >>> (((4 : Int32)).toUInt32 &&& Int32.toUInt32 31)).toInt32)) &&& (252645135 : Int32)))]) hx hb dJ6_bitCount_0f7a4_33 rfl hl (by decide) rfl (fun ls hl => W.pc 34 rfl ?_)
  refine lv_iload_n hx hb dJ6_bitCount_0f7a4_34 rfl (lv_at hl 0 rfl) (W.pc 35 rfl ?_)
  refine lv_iload_n hx hb dJ6_bitCount_0f7a4_35 rfl (lv_at hl 0 rfl) (W.pc 36 rfl ?_)
  refine lv_bipush (v := (8 : Int32)) hx hb dJ6_bitCount_0f7a4_36 (by decide) (W.pc 38 rfl ?_)
  refine lv_iushr (v := (((((((p0 - ((((p0).toUInt32 >>> (((1 : Int32)).toUInt32 &&& Int32.toUInt32 31)).toInt32) &&& (1431655765 : Int32))) &&& (858993459 : Int32)) + (((((p0 - ((((p0).toUInt32 >>> (((1 : Int32)).toUInt32 &&& Int32.toUInt32 31)).toInt32) &&& (1431655765 : Int32)))).toUInt32 >>> (((2 : Int32)).toUInt32 &&& Int32.toUInt32 31)).toInt32) &&& (858993459 : Int32))) + ((((((p0 - ((((p0).toUInt32 >>> (((1 : Int32)).toUInt32 &&& Int32.toUInt32 31)).toInt32) &&& (1431655765 : Int32))) &&& (858993459 : Int32)) + (((((p0 - ((((p0).toUInt32 >>> (((1 : Int32)).toUInt32 &&& Int32.toUInt32 31)).toInt32) &&& (1431655765 : Int32)))).toUInt32 >>> (((2 : Int32)).toUInt32 &&& Int32.toUInt32 31)).toInt32) &&& (858993459 : Int32)))).toUInt32 >>> (((4 : Int32)).toUInt32 &&& Int32.toUInt32 31)).toInt32)) &&& (252645135 : Int32))).toUInt32 >>> (((8 : Int32)).toUInt32 &&& Int32.toUInt32 31)).toInt32) hx hb dJ6_bitCount_0f7a4_38 rfl (W.pc 39 rfl ?_)
  refine lv_iadd hx hb dJ6_bitCount_0f7a4_39 (W.pc 40 rfl ?_)
  refine lv_istore_n (lv' := [(0, .int ((((((p0 - ((((p0).toUInt32 >>> (((1 : Int32)).toUInt32 &&& Int32.toUInt32 31)).toInt32) &&& (1431655765 : Int32))) &&& (858993459 : Int32)) + (((((p0 - ((((p0).toUInt32 >>> (((1 : Int32)).toUInt32 &&& Int32.toUInt32 31)).toInt32) &&& (1431655765 : Int32)))).toUInt32 >>> (((2 : Int32)).toUInt32 &&& Int32.toUInt32 31)).toInt32) &&& (858993459 : Int32))) + ((((((p0 - ((((p0).toUInt32 >>> (((1 : Int32)).toUInt32 &&& Int32.toUInt32 31)).toInt32) &&& (1431655765 : Int32))) &&& (858993459 : Int32)) + (((((p0 - ((((p0).toUInt32 >>> (((1 : Int32)).toUInt32 &&& Int32.toUInt32 31)).toInt32) &&& (1431655765 : Int32)))).toUInt32 >>> (((2 : Int32)).toUInt32 &&& Int32.toUInt32 31)).toInt32) &&& (858993459 : Int32)))).toUInt32 >>> (((4 : Int32)).toUInt32 &&& Int32.toUInt32 31)).toInt32)) &&& (252645135 : Int32)) + ((((((((p0 - ((((p0).toUInt32 >>> (((1 : Int32)).toUInt32 &&& Int32.toUInt32 31)).toInt32) &&& (1431655765 : Int32))) &&& (858993459 : Int32)) + (((((p0 - ((((p0).toUInt32 >>> (((1 : Int32)).toUInt32 &&& Int32.toUInt32 31)).toInt32) &&& (1431655765 : Int32)))).toUInt32 >>> (((2 : Int32)).toUInt32 &&& Int32.toUInt32 31)).toInt32) &&& (858993459 : Int32))) + ((((((p0 - ((((p0).toUInt32 >>> (((1 : Int32)).toUInt32 &&& Int32.toUInt32 31)).toInt32) &&& (1431655765 : Int32))) &&& (858993459 : Int32)) + (((((p0 - ((((p0).toUInt32 >>> (((1 : Int32)).toUInt32 &&& Int32.toUInt32 31)).toInt32) &&& (1431655765 : Int32)))).toUInt32 >>> (((2 : Int32)).toUInt32 &&& Int32.toUInt32 31)).toInt32) &&& (858993459 : Int32)))).toUInt32 >>> (((4 : Int32)).toUInt32 &&& Int32.toUInt32 31)).toInt32)) &&& (252645135 : Int32))).toUInt32 >>> (((8 : Int32)).toUInt32 &&& Int32.toUInt32 31)).toInt32)))]) hx hb dJ6_bitCount_0f7a4_40 rfl hl (by decide) rfl (fun ls hl => W.pc 41 rfl ?_)
  refine lv_iload_n hx hb dJ6_bitCount_0f7a4_41 rfl (lv_at hl 0 rfl) (W.pc 42 rfl ?_)
  refine lv_iload_n hx hb dJ6_bitCount_0f7a4_42 rfl (lv_at hl 0 rfl) (W.pc 43 rfl ?_)
  refine lv_bipush (v := (16 : Int32)) hx hb dJ6_bitCount_0f7a4_43 (by decide) (W.pc 45 rfl ?_)
  refine lv_iushr (v := ((((((((p0 - ((((p0).toUInt32 >>> (((1 : Int32)).toUInt32 &&& Int32.toUInt32 31)).toInt32) &&& (1431655765 : Int32))) &&& (858993459 : Int32)) + (((((p0 - ((((p0).toUInt32 >>> (((1 : Int32)).toUInt32 &&& Int32.toUInt32 31)).toInt32) &&& (1431655765 : Int32)))).toUInt32 >>> (((2 : Int32)).toUInt32 &&& Int32.toUInt32 31)).toInt32) &&& (858993459 : Int32))) + ((((((p0 - ((((p0).toUInt32 >>> (((1 : Int32)).toUInt32 &&& Int32.toUInt32 31)).toInt32) &&& (1431655765 : Int32))) &&& (858993459 : Int32)) + (((((p0 - ((((p0).toUInt32 >>> (((1 : Int32)).toUInt32 &&& Int32.toUInt32 31)).toInt32) &&& (1431655765 : Int32)))).toUInt32 >>> (((2 : Int32)).toUInt32 &&& Int32.toUInt32 31)).toInt32) &&& (858993459 : Int32)))).toUInt32 >>> (((4 : Int32)).toUInt32 &&& Int32.toUInt32 31)).toInt32)) &&& (252645135 : Int32)) + ((((((((p0 - ((((p0).toUInt32 >>> (((1 : Int32)).toUInt32 &&& Int32.toUInt32 31)).toInt32) &&& (1431655765 : Int32))) &&& (858993459 : Int32)) + (((((p0 - ((((p0).toUInt32 >>> (((1 : Int32)).toUInt32 &&& Int32.toUInt32 31)).toInt32) &&& (1431655765 : Int32)))).toUInt32 >>> (((2 : Int32)).toUInt32 &&& Int32.toUInt32 31)).toInt32) &&& (858993459 : Int32))) + ((((((p0 - ((((p0).toUInt32 >>> (((1 : Int32)).toUInt32 &&& Int32.toUInt32 31)).toInt32) &&& (1431655765 : Int32))) &&& (858993459 : Int32)) + (((((p0 - ((((p0).toUInt32 >>> (((1 : Int32)).toUInt32 &&& Int32.toUInt32 31)).toInt32) &&& (1431655765 : Int32)))).toUInt32 >>> (((2 : Int32)).toUInt32 &&& Int32.toUInt32 31)).toInt32) &&& (858993459 : Int32)))).toUInt32 >>> (((4 : Int32)).toUInt32 &&& Int32.toUInt32 31)).toInt32)) &&& (252645135 : Int32))).toUInt32 >>> (((8 : Int32)).toUInt32 &&& Int32.toUInt32 31)).toInt32))).toUInt32 >>> (((16 : Int32)).toUInt32 &&& Int32.toUInt32 31)).toInt32) hx hb dJ6_bitCount_0f7a4_45 rfl (W.pc 46 rfl ?_)
  refine lv_iadd hx hb dJ6_bitCount_0f7a4_46 (W.pc 47 rfl ?_)
  refine lv_istore_n (lv' := [(0, .int (((((((p0 - ((((p0).toUInt32 >>> (((1 : Int32)).toUInt32 &&& Int32.toUInt32 31)).toInt32) &&& (1431655765 : Int32))) &&& (858993459 : Int32)) + (((((p0 - ((((p0).toUInt32 >>> (((1 : Int32)).toUInt32 &&& Int32.toUInt32 31)).toInt32) &&& (1431655765 : Int32)))).toUInt32 >>> (((2 : Int32)).toUInt32 &&& Int32.toUInt32 31)).toInt32) &&& (858993459 : Int32))) + ((((((p0 - ((((p0).toUInt32 >>> (((1 : Int32)).toUInt32 &&& Int32.toUInt32 31)).toInt32) &&& (1431655765 : Int32))) &&& (858993459 : Int32)) + (((((p0 - ((((p0).toUInt32 >>> (((1 : Int32)).toUInt32 &&& Int32.toUInt32 31)).toInt32) &&& (1431655765 : Int32)))).toUInt32 >>> (((2 : Int32)).toUInt32 &&& Int32.toUInt32 31)).toInt32) &&& (858993459 : Int32)))).toUInt32 >>> (((4 : Int32)).toUInt32 &&& Int32.toUInt32 31)).toInt32)) &&& (252645135 : Int32)) + ((((((((p0 - ((((p0).toUInt32 >>> (((1 : Int32)).toUInt32 &&& Int32.toUInt32 31)).toInt32) &&& (1431655765 : Int32))) &&& (858993459 : Int32)) + (((((p0 - ((((p0).toUInt32 >>> (((1 : Int32)).toUInt32 &&& Int32.toUInt32 31)).toInt32) &&& (1431655765 : Int32)))).toUInt32 >>> (((2 : Int32)).toUInt32 &&& Int32.toUInt32 31)).toInt32) &&& (858993459 : Int32))) + ((((((p0 - ((((p0).toUInt32 >>> (((1 : Int32)).toUInt32 &&& Int32.toUInt32 31)).toInt32) &&& (1431655765 : Int32))) &&& (858993459 : Int32)) + (((((p0 - ((((p0).toUInt32 >>> (((1 : Int32)).toUInt32 &&& Int32.toUInt32 31)).toInt32) &&& (1431655765 : Int32)))).toUInt32 >>> (((2 : Int32)).toUInt32 &&& Int32.toUInt32 31)).toInt32) &&& (858993459 : Int32)))).toUInt32 >>> (((4 : Int32)).toUInt32 &&& Int32.toUInt32 31)).toInt32)) &&& (252645135 : Int32))).toUInt32 >>> (((8 : Int32)).toUInt32 &&& Int32.toUInt32 31)).toInt32)) + (((((((((p0 - ((((p0).toUInt32 >>> (((1 : Int32)).toUInt32 &&& Int32.toUInt32 31)).toInt32) &&& (1431655765 : Int32))) &&& (858993459 : Int32)) + (((((p0 - ((((p0).toUInt32 >>> (((1 : Int32)).toUInt32 &&& Int32.toUInt32 31)).toInt32) &&& (1431655765 : Int32)))).toUInt32 >>> (((2 : Int32)).toUInt32 &&& Int32.toUInt32 31)).toInt32) &&& (858993459 : Int32))) + ((((((p0 - ((((p0).toUInt32 >>> (((1 : Int32)).toUInt32 &&& Int32.toUInt32 31)).toInt32) &&& (1431655765 : Int32))) &&& (858993459 : Int32)) + (((((p0 - ((((p0).toUInt32 >>> (((1 : Int32)).toUInt32 &&& Int32.toUInt32 31)).toInt32) &&& (1431655765 : Int32)))).toUInt32 >>> (((2 : Int32)).toUInt32 &&& Int32.toUInt32 31)).toInt32) &&& (858993459 : Int32)))).toUInt32 >>> (((4 : Int32)).toUInt32 &&& Int32.toUInt32 31)).toInt32)) &&& (252645135 : Int32)) + ((((((((p0 - ((((p0).toUInt32 >>> (((1 : Int32)).toUInt32 &&& Int32.toUInt32 31)).toInt32) &&& (1431655765 : Int32))) &&& (858993459 : Int32)) + (((((p0 - ((((p0).toUInt32 >>> (((1 : Int32)).toUInt32 &&& Int32.toUInt32 31)).toInt32) &&& (1431655765 : Int32)))).toUInt32 >>> (((2 : Int32)).toUInt32 &&& Int32.toUInt32 31)).toInt32) &&& (858993459 : Int32))) + ((((((p0 - ((((p0).toUInt32 >>> (((1 : Int32)).toUInt32 &&& Int32.toUInt32 31)).toInt32) &&& (1431655765 : Int32))) &&& (858993459 : Int32)) + (((((p0 - ((((p0).toUInt32 >>> (((1 : Int32)).toUInt32 &&& Int32.toUInt32 31)).toInt32) &&& (1431655765 : Int32)))).toUInt32 >>> (((2 : Int32)).toUInt32 &&& Int32.toUInt32 31)).toInt32) &&& (858993459 : Int32)))).toUInt32 >>> (((4 : Int32)).toUInt32 &&& Int32.toUInt32 31)).toInt32)) &&& (252645135 : Int32))).toUInt32 >>> (((8 : Int32)).toUInt32 &&& Int32.toUInt32 31)).toInt32))).toUInt32 >>> (((16 : Int32)).toUInt32 &&& Int32.toUInt32 31)).toInt32)))]) hx hb dJ6_bitCount_0f7a4_47 rfl hl (by decide) rfl (fun ls hl => W.pc 48 rfl ?_)
  refine lv_iload_n hx hb dJ6_bitCount_0f7a4_48 rfl (lv_at hl 0 rfl) (W.pc 49 rfl ?_)
  refine lv_bipush (v := (63 : Int32)) hx hb dJ6_bitCount_0f7a4_49 (by decide) (W.pc 51 rfl ?_)
  refine lv_iand hx hb dJ6_bitCount_0f7a4_51 (W.pc 52 rfl ?_)
  subst hsp
  exact rRi hX rfl dJ6_bitCount_0f7a4_52
def sp_X0_nearer (p0 : Int32) (p1 : Int32) : Int32 := if p0 = p1 then (p0) else (if p1 ≤ p0 then ((p0 - (1 : Int32))) else ((p0 + (1 : Int32))))
set_option maxHeartbeats 4000000 in
set_option maxRecDepth 100000 in
theorem c_X0_nearer (l : Launch) (E : wE) (p0 : Int32) (p1 : Int32) (z : Int32) (hsp : sp_X0_nearer p0 p1 = z) : MR l yX0_nearer cX0_nearer 2 (some .int) 0 E [.int p0, .int p1] [] (some (.int z)) := by
  refine MR.of (by decide +kernel) (Nat.le_of_ble_eq_true rfl) ?_
  intro p e s m below meth c ls hX hK hP hl
  have hX : CX p s m [.int p0, .int p1].toArray meth c cX0_nearer 2 (some .int) RX0 := hX
  have hx := hX.1; have hb := hX.2.1; have hts := hX.2.2.2.2.1; have hown := hX.2.2.2.2.2.1
  have hl : lv_has ls 2 [(0, .int p0), (1, .int p1)] := hl
  have hsp : (if p0 = p1 then (p0) else (if p1 ≤ p0 then ((p0 - (1 : Int32))) else ((p0 + (1 : Int32))))) = z := hsp
  refine lv_iload_n hx hb dX0_nearer_0 rfl (lv_at hl 0 rfl) (W.pc 1 rfl ?_)
  refine lv_iload_n hx hb dX0_nearer_1 rfl (lv_at hl 1 rfl) (W.pc 2 rfl ?_)
  refine lv_icmp_ne (tgt := 7) hx hb dX0_nearer_2 (by decide) (fun c1 => ?_) (fun c1 => W.pc 5 rfl ?_)
  · have hsp := iq hsp c1
    refine lv_iload_n hx hb dX0_nearer_7 rfl (lv_at hl 0 rfl) (W.pc 8 rfl ?_)
    refine lv_iload_n hx hb dX0_nearer_8 rfl (lv_at hl 1 rfl) (W.pc 9 rfl ?_)
    refine lv_icmp_ge (tgt := 18) hx hb dX0_nearer_9 (by decide) (fun c2 => ?_) (fun c2 => W.pc 12 rfl ?_)
    · have hsp := ip hsp c2
      refine lv_iload_n hx hb dX0_nearer_18 rfl (lv_at hl 0 rfl) (W.pc 19 rfl ?_)
      refine lv_iconst (v := (1 : Int32)) hx hb dX0_nearer_19 (by decide) (W.pc 20 rfl ?_)
      refine lv_isub hx hb dX0_nearer_20 (W.pc 21 rfl ?_)
      subst hsp
      exact rRi hX rfl dX0_nearer_21
    · have hsp := iq hsp c2
      refine lv_iload_n hx hb dX0_nearer_12 rfl (lv_at hl 0 rfl) (W.pc 13 rfl ?_)
      refine lv_iconst (v := (1 : Int32)) hx hb dX0_nearer_13 (by decide) (W.pc 14 rfl ?_)
      refine lv_iadd hx hb dX0_nearer_14 (W.pc 15 rfl ?_)
      refine lv_goto (tgt := 21) hx hb dX0_nearer_15 (by decide) ?_
      subst hsp
      exact rRi hX rfl dX0_nearer_21
  · have hsp := ip hsp c1
    refine lv_iload_n hx hb dX0_nearer_5 rfl (lv_at hl 0 rfl) (W.pc 6 rfl ?_)
    subst hsp
    exact rRi hX rfl dX0_nearer_6
def sp_X0_kept (p0 : Int32) (p1 : Int32) : Int32 := (j_max (-p1) (j_min p1 p0))
set_option maxHeartbeats 4000000 in
set_option maxRecDepth 100000 in
theorem c_X0_kept (l : Launch) (E : wE) (p0 : Int32) (p1 : Int32) (z : Int32) (hsp : sp_X0_kept p0 p1 = z) : MR l yX0_kept cX0_kept 2 (some .int) 1 E [.int p0, .int p1] [] (some (.int z)) := by
  refine MR.of (by decide +kernel) (Nat.le_of_ble_eq_true rfl) ?_
  intro p e s m below meth c ls hX hK hP hl
  have hX : CX p s m [.int p0, .int p1].toArray meth c cX0_kept 2 (some .int) RX0 := hX
  have hx := hX.1; have hb := hX.2.1; have hts := hX.2.2.2.2.1; have hown := hX.2.2.2.2.2.1
  have hl : lv_has ls 2 [(0, .int p0), (1, .int p1)] := hl
  have hsp : ((j_max (-p1) (j_min p1 p0))) = z := hsp
  refine lv_iload_n hx hb dX0_kept_0 rfl (lv_at hl 1 rfl) (W.pc 1 rfl ?_)
  refine lv_ineg hx hb dX0_kept_1 (W.pc 2 rfl ?_)
  refine lv_iload_n hx hb dX0_kept_2 rfl (lv_at hl 1 rfl) (W.pc 3 rfl ?_)
  refine lv_iload_n hx hb dX0_kept_3 rfl (lv_at hl 0 rfl) (W.pc 4 rfl ?_)
  refine kMin hX hl.1 w_2_203 w_2_204 w_1_13 w_2_205 ⟨Nat.le_of_ble_eq_true rfl, Nat.le_of_ble_eq_true rfl⟩ dX0_kept_4 (W.pc 7 rfl ?_)
  refine kMax hX hl.1 w_2_206 w_2_207 w_1_13 w_2_208 ⟨Nat.le_of_ble_eq_true rfl, Nat.le_of_ble_eq_true rfl⟩ dX0_kept_7 (W.pc 10 rfl ?_)
  subst hsp
  exact rRi hX rfl dX0_kept_10
def sp_X0_behind (p0 : Int32) (p1 : Int32) (p2 : Int32) (p3 : Int32) : Int32 := lt_ (if (p1 - p1 / (2 : Int32) * (2 : Int32)) = 0 then ((1 : Int32)) else ((0 : Int32))) fun z1 => lt_ (if z1 = 0 then (p2) else ((p2 + (1 : Int32)))) fun z4 => if p0 = (1 : Int32) then ((sp_X0_kept z4 (9 : Int32))) else (if p0 = (2 : Int32) then ((sp_X0_nearer p2 p3)) else (if p0 = (3 : Int32) then ((sp_X0_nearer (sp_X0_nearer p2 p3) p3)) else (if p0 = (4 : Int32) then (lt_ (if z1 = 0 then (((sp_X0_nearer (sp_X0_nearer p2 p3) p3) + (1 : Int32))) else (((sp_X0_nearer (sp_X0_nearer p2 p3) p3) - (1 : Int32)))) fun z11 => (sp_X0_kept z11 (9 : Int32))) else (if p0 = (5 : Int32) then ((sp_X0_kept (sp_X0_kept z4 (9 : Int32)) (3 : Int32))) else ((p2))))))
set_option maxHeartbeats 4000000 in
set_option maxRecDepth 100000 in
theorem c_X0_behind (l : Launch) (E : wE) (p0 : Int32) (p1 : Int32) (p2 : Int32) (p3 : Int32) (z : Int32) (hsp : sp_X0_behind p0 p1 p2 p3 = z) : MR l yX0_behind cX0_behind 7 (some .int) 2 E [.int p0, .int p1, .int p2, .int p3] [] (some (.int z)) := by
  refine MR.of (by decide +kernel) (Nat.le_of_ble_eq_true rfl) ?_
  intro p e s m below meth c ls hX hK hP hl
  have hX : CX p s m [.int p0, .int p1, .int p2, .int p3].toArray meth c cX0_behind 7 (some .int) RX0 := hX
  have hx := hX.1; have hb := hX.2.1; have hts := hX.2.2.2.2.1; have hown := hX.2.2.2.2.2.1
  have hl : lv_has ls 7 [(0, .int p0), (1, .int p1), (2, .int p2), (3, .int p3)] := hl
  have hsp : (lt_ (if (p1 - p1 / (2 : Int32) * (2 : Int32)) = 0 then ((1 : Int32)) else ((0 : Int32))) fun z1 => lt_ (if z1 = 0 then (p2) else ((p2 + (1 : Int32)))) fun z4 => if p0 = (1 : Int32) then ((sp_X0_kept z4 (9 : Int32))) else (if p0 = (2 : Int32) then ((sp_X0_nearer p2 p3)) else (if p0 = (3 : Int32) then ((sp_X0_nearer (sp_X0_nearer p2 p3) p3)) else (if p0 = (4 : Int32) then (lt_ (if z1 = 0 then (((sp_X0_nearer (sp_X0_nearer p2 p3) p3) + (1 : Int32))) else (((sp_X0_nearer (sp_X0_nearer p2 p3) p3) - (1 : Int32)))) fun z11 => (sp_X0_kept z11 (9 : Int32))) else (if p0 = (5 : Int32) then ((sp_X0_kept (sp_X0_kept z4 (9 : Int32)) (3 : Int32))) else ((p2))))))) = z := hsp
  refine lv_iload_n hx hb dX0_behind_0 rfl (lv_at hl 1 rfl) (W.pc 1 rfl ?_)
  refine lv_iconst (v := (2 : Int32)) hx hb dX0_behind_1 (by decide) (W.pc 2 rfl ?_)
  refine lv_irem hx hb dX0_behind_2 (by decide) (W.pc 3 rfl ?_)
  obtain ⟨z1, hr_z1, hsp⟩ := ltb_s hsp
  have J2 : ∀ (ls : Array Slot), lv_has ls 7 [(0, .int p0), (2, .int p2), (3, .int p3)] → W p l e (wR 2) s m [.int p0, .int p1, .int p2, .int p3].toArray below meth c s.heap [] 0 0 (MQ below (QRd E (some (.int z))) [.int p0, .int p1, .int p2, .int p3].toArray s 0 0 (fun _ => False)) (F0 m 11 ls [.int z1]) := by
    intro ls hl
    refine lv_istore (lv' := [(4, .int z1), (0, .int p0), (2, .int p2), (3, .int p3)]) hx hb dX0_behind_11 hl (by decide) rfl (fun ls hl => W.pc 13 rfl ?_)
    refine lv_iload hx hb dX0_behind_13 (lv_at hl 0 rfl) (W.pc 15 rfl ?_)
    obtain ⟨z4, hr_z4, hsp⟩ := ltb_s hsp
    have J5 : ∀ (ls : Array Slot), lv_has ls 7 [(0, .int p0), (2, .int p2), (3, .int p3), (4, .int z1)] → W p l e (wR 2) s m [.int p0, .int p1, .int p2, .int p3].toArray below meth c s.heap [] 0 0 (MQ below (QRd E (some (.int z))) [.int p0, .int p1, .int p2, .int p3].toArray s 0 0 (fun _ => False)) (F0 m 25 ls [.int z4]) := by
      intro ls hl
      refine lv_bipush (v := (9 : Int32)) hx hb dX0_behind_25 (by decide) (W.pc 27 rfl ?_)
      refine kSR (st1 := [.int (sp_X0_kept z4 (9 : Int32))]) hX (c_X0_kept l E z4 (9 : Int32) _ rfl) B_X0_kept w_2_200 hK (hP.pick [] rfl) rfl hl.1 rfl (Nat.le_of_ble_eq_true rfl) ⟨Nat.le_of_ble_eq_true rfl, Nat.le_of_ble_eq_true rfl⟩ dX0_behind_27 rfl (W.pc 30 rfl ?_)
      refine lv_istore (lv' := [(5, .int (sp_X0_kept z4 (9 : Int32))), (0, .int p0), (2, .int p2), (3, .int p3), (4, .int z1)]) hx hb dX0_behind_30 hl (by decide) rfl (fun ls hl => W.pc 32 rfl ?_)
      refine lv_iload_n hx hb dX0_behind_32 rfl (lv_at hl 2 rfl) (W.pc 33 rfl ?_)
      refine lv_iload_n hx hb dX0_behind_33 rfl (lv_at hl 3 rfl) (W.pc 34 rfl ?_)
      refine kSR (st1 := [.int (sp_X0_nearer p2 p3)]) hX (c_X0_nearer l E p2 p3 _ rfl) B_X0_nearer w_2_209 hK (hP.pick [] rfl) rfl hl.1 rfl (Nat.le_of_ble_eq_true rfl) ⟨Nat.le_of_ble_eq_true rfl, Nat.le_of_ble_eq_true rfl⟩ dX0_behind_34 rfl (W.pc 37 rfl ?_)
      refine lv_iload_n hx hb dX0_behind_37 rfl (lv_at hl 3 rfl) (W.pc 38 rfl ?_)
      refine kSR (st1 := [.int (sp_X0_nearer (sp_X0_nearer p2 p3) p3)]) hX (c_X0_nearer l E (sp_X0_nearer p2 p3) p3 _ rfl) B_X0_nearer w_2_209 hK (hP.pick [] rfl) rfl hl.1 rfl (Nat.le_of_ble_eq_true rfl) ⟨Nat.le_of_ble_eq_true rfl, Nat.le_of_ble_eq_true rfl⟩ dX0_behind_38 rfl (W.pc 41 rfl ?_)
      refine lv_istore (lv' := [(6, .int (sp_X0_nearer (sp_X0_nearer p2 p3) p3)), (5, .int (sp_X0_kept z4 (9 : Int32))), (0, .int p0), (2, .int p2), (3, .int p3), (4, .int z1)]) hx hb dX0_behind_41 hl (by decide) rfl (fun ls hl => W.pc 43 rfl ?_)
      refine lv_iload_n hx hb dX0_behind_43 rfl (lv_at hl 2 rfl) (W.pc 44 rfl ?_)
      by_cases c7 : p0 = (1 : Int32)
      · have hsp := ip hsp c7
        refine lv_tableIn (off := 36) (tgt := 80) hx hb dX0_behind_44 (by rw [c7]; decide) (by rw [c7]; decide) (by rw [c7]; rfl) (by decide) ?_
        refine lv_iload hx hb dX0_behind_80 (lv_at hl 1 rfl) (W.pc 82 rfl ?_)
        subst hsp
        exact rRi hX rfl dX0_behind_82
      · have hsp := iq hsp c7
        by_cases c8 : p0 = (2 : Int32)
        · have hsp := ip hsp c8
          refine lv_tableIn (off := 39) (tgt := 83) hx hb dX0_behind_44 (by rw [c8]; decide) (by rw [c8]; decide) (by rw [c8]; rfl) (by decide) ?_
          refine lv_iload_n hx hb dX0_behind_83 rfl (lv_at hl 3 rfl) (W.pc 84 rfl ?_)
          refine lv_iload_n hx hb dX0_behind_84 rfl (lv_at hl 4 rfl) (W.pc 85 rfl ?_)
          refine kSR (st1 := [.int (sp_X0_nearer p2 p3)]) hX (c_X0_nearer l E p2 p3 _ rfl) B_X0_nearer w_2_209 hK (hP.pick [] rfl) rfl hl.1 rfl (Nat.le_of_ble_eq_true rfl) ⟨Nat.le_of_ble_eq_true rfl, Nat.le_of_ble_eq_true rfl⟩ dX0_behind_85 rfl (W.pc 88 rfl ?_)
          subst hsp
          exact rRi hX rfl dX0_behind_88
        · have hsp := iq hsp c8
          by_cases c9 : p0 = (3 : Int32)
          · have hsp := ip hsp c9
            refine lv_tableIn (off := 45) (tgt := 89) hx hb dX0_behind_44 (by rw [c9]; decide) (by rw [c9]; decide) (by rw [c9]; rfl) (by decide) ?_
            refine lv_iload hx hb dX0_behind_89 (lv_at hl 0 rfl) (W.pc 91 rfl ?_)
            subst hsp
            exact rRi hX rfl dX0_behind_91
          · have hsp := iq hsp c9
            by_cases c10 : p0 = (4 : Int32)
            · have hsp := ip hsp c10
              refine lv_tableIn (off := 48) (tgt := 92) hx hb dX0_behind_44 (by rw [c10]; decide) (by rw [c10]; decide) (by rw [c10]; rfl) (by decide) ?_
              refine lv_iload hx hb dX0_behind_92 (lv_at hl 5 rfl) (W.pc 94 rfl ?_)
              obtain ⟨z11, hr_z11, hsp⟩ := ltb_s hsp
              have J12 : ∀ (ls : Array Slot), lv_has ls 7 [] → W p l e (wR 2) s m [.int p0, .int p1, .int p2, .int p3].toArray below meth c s.heap [] 0 0 (MQ below (QRd E (some (.int z))) [.int p0, .int p1, .int p2, .int p3].toArray s 0 0 (fun _ => False)) (F0 m 108 ls [.int z11]) := by
                intro ls hl
                refine lv_bipush (v := (9 : Int32)) hx hb dX0_behind_108 (by decide) (W.pc 110 rfl ?_)
                refine kSR (st1 := [.int (sp_X0_kept z11 (9 : Int32))]) hX (c_X0_kept l E z11 (9 : Int32) _ rfl) B_X0_kept w_2_200 hK (hP.pick [] rfl) rfl hl.1 rfl (Nat.le_of_ble_eq_true rfl) ⟨Nat.le_of_ble_eq_true rfl, Nat.le_of_ble_eq_true rfl⟩ dX0_behind_110 rfl (W.pc 113 rfl ?_)
                subst hsp
                exact rRi hX rfl dX0_behind_113
              replace hsp := hr_z11
              refine lv_if_eq (tgt := 104) hx hb dX0_behind_94 (by decide) (fun c13 => ?_) (fun c13 => W.pc 97 rfl ?_)
              · have hsp := ip hsp c13
                refine lv_iload hx hb dX0_behind_104 (lv_at hl 0 rfl) (W.pc 106 rfl ?_)
                refine lv_iconst (v := (1 : Int32)) hx hb dX0_behind_106 (by decide) (W.pc 107 rfl ?_)
                refine lv_iadd hx hb dX0_behind_107 (W.pc 108 rfl ?_)
                subst hsp
                exact J12 _ (lv_sub hl [] rfl)
              · have hsp := iq hsp c13
                refine lv_iload hx hb dX0_behind_97 (lv_at hl 0 rfl) (W.pc 99 rfl ?_)
                refine lv_iconst (v := (1 : Int32)) hx hb dX0_behind_99 (by decide) (W.pc 100 rfl ?_)
                refine lv_isub hx hb dX0_behind_100 (W.pc 101 rfl ?_)
                refine lv_goto (tgt := 108) hx hb dX0_behind_101 (by decide) ?_
                subst hsp
                exact J12 _ (lv_sub hl [] rfl)
            · have hsp := iq hsp c10
              by_cases c14 : p0 = (5 : Int32)
              · have hsp := ip hsp c14
                refine lv_tableIn (off := 70) (tgt := 114) hx hb dX0_behind_44 (by rw [c14]; decide) (by rw [c14]; decide) (by rw [c14]; rfl) (by decide) ?_
                refine lv_iload hx hb dX0_behind_114 (lv_at hl 1 rfl) (W.pc 116 rfl ?_)
                refine lv_iconst (v := (3 : Int32)) hx hb dX0_behind_116 (by decide) (W.pc 117 rfl ?_)
                refine kSR (st1 := [.int (sp_X0_kept (sp_X0_kept z4 (9 : Int32)) (3 : Int32))]) hX (c_X0_kept l E (sp_X0_kept z4 (9 : Int32)) (3 : Int32) _ rfl) B_X0_kept w_2_200 hK (hP.pick [] rfl) rfl hl.1 rfl (Nat.le_of_ble_eq_true rfl) ⟨Nat.le_of_ble_eq_true rfl, Nat.le_of_ble_eq_true rfl⟩ dX0_behind_117 rfl (W.pc 120 rfl ?_)
                subst hsp
                exact rRi hX rfl dX0_behind_120
              · have hsp := iq hsp c14
                refine lv_tableOut (tgt := 121) hx hb dX0_behind_44 (by have := lv_neT c7 (a := 1) rfl; have := lv_neT c8 (a := 2) rfl; have := lv_neT c9 (a := 3) rfl; have := lv_neT c10 (a := 4) rfl; have := lv_neT c14 (a := 5) rfl;  omega) (by decide) ?_
                refine lv_iload_n hx hb dX0_behind_121 rfl (lv_at hl 3 rfl) (W.pc 122 rfl ?_)
                subst hsp
                exact rRi hX rfl dX0_behind_122
    replace hsp := hr_z4
    refine lv_if_eq (tgt := 24) hx hb dX0_behind_15 (by decide) (fun c6 => ?_) (fun c6 => W.pc 18 rfl ?_)
    · have hsp := ip hsp c6
      refine lv_iload_n hx hb dX0_behind_24 rfl (lv_at hl 2 rfl) (W.pc 25 rfl ?_)
      subst hsp
      exact J5 _ (lv_sub hl [1, 2, 3, 0] rfl)
    · have hsp := iq hsp c6
      refine lv_iload_n hx hb dX0_behind_18 rfl (lv_at hl 2 rfl) (W.pc 19 rfl ?_)
      refine lv_iconst (v := (1 : Int32)) hx hb dX0_behind_19 (by decide) (W.pc 20 rfl ?_)
      refine lv_iadd hx hb dX0_behind_20 (W.pc 21 rfl ?_)
      refine lv_goto (tgt := 25) hx hb dX0_behind_21 (by decide) ?_
      subst hsp
      exact J5 _ (lv_sub hl [1, 2, 3, 0] rfl)
  replace hsp := hr_z1
  refine lv_if_ne (tgt := 10) hx hb dX0_behind_3 (by decide) (fun c3 => ?_) (fun c3 => W.pc 6 rfl ?_)
  · have hsp := iq hsp c3
    refine lv_iconst (v := (0 : Int32)) hx hb dX0_behind_10 (by decide) (W.pc 11 rfl ?_)
    subst hsp
    exact J2 _ (lv_sub hl [0, 2, 3] rfl)
  · have hsp := ip hsp c3
    refine lv_iconst (v := (1 : Int32)) hx hb dX0_behind_6 (by decide) (W.pc 7 rfl ?_)
    refine lv_goto (tgt := 11) hx hb dX0_behind_7 (by decide) ?_
    subst hsp
    exact J2 _ (lv_sub hl [0, 2, 3] rfl)
def sp_X4_heavy (p0 : Int32) : Int32 := if p0 = (1 : Int32) then ((3 : Int32)) else (if p0 = (2 : Int32) then ((4 : Int32)) else (if p0 = (3 : Int32) then ((1 : Int32)) else (if p0 = (4 : Int32) then ((5 : Int32)) else (if p0 = (5 : Int32) then ((1 : Int32)) else (((2 : Int32)))))))
set_option maxHeartbeats 4000000 in
set_option maxRecDepth 100000 in
theorem c_X4_heavy (l : Launch) (E : wE) (p0 : Int32) (z : Int32) (hsp : sp_X4_heavy p0 = z) : MR l yX4_heavy cX4_heavy 1 (some .int) 0 E [.int p0] [] (some (.int z)) := by
  refine MR.of (by decide +kernel) (Nat.le_of_ble_eq_true rfl) ?_
  intro p e s m below meth c ls hX hK hP hl
  have hX : CX p s m [.int p0].toArray meth c cX4_heavy 1 (some .int) RX4 := hX
  have hx := hX.1; have hb := hX.2.1; have hts := hX.2.2.2.2.1; have hown := hX.2.2.2.2.2.1
  have hl : lv_has ls 1 [(0, .int p0)] := hl
  have hsp : (if p0 = (1 : Int32) then ((3 : Int32)) else (if p0 = (2 : Int32) then ((4 : Int32)) else (if p0 = (3 : Int32) then ((1 : Int32)) else (if p0 = (4 : Int32) then ((5 : Int32)) else (if p0 = (5 : Int32) then ((1 : Int32)) else (((2 : Int32)))))))) = z := hsp
  refine lv_iload_n hx hb dX4_heavy_0 rfl (lv_at hl 0 rfl) (W.pc 1 rfl ?_)
  by_cases c1 : p0 = (1 : Int32)
  · have hsp := ip hsp c1
    refine lv_tableIn (off := 35) (tgt := 36) hx hb dX4_heavy_1 (by rw [c1]; decide) (by rw [c1]; decide) (by rw [c1]; rfl) (by decide) ?_
    refine lv_iconst (v := (3 : Int32)) hx hb dX4_heavy_36 (by decide) (W.pc 37 rfl ?_)
    subst hsp
    exact rRi hX rfl dX4_heavy_37
  · have hsp := iq hsp c1
    by_cases c2 : p0 = (2 : Int32)
    · have hsp := ip hsp c2
      refine lv_tableIn (off := 37) (tgt := 38) hx hb dX4_heavy_1 (by rw [c2]; decide) (by rw [c2]; decide) (by rw [c2]; rfl) (by decide) ?_
      refine lv_iconst (v := (4 : Int32)) hx hb dX4_heavy_38 (by decide) (W.pc 39 rfl ?_)
      subst hsp
      exact rRi hX rfl dX4_heavy_39
    · have hsp := iq hsp c2
      by_cases c3 : p0 = (3 : Int32)
      · have hsp := ip hsp c3
        refine lv_tableIn (off := 39) (tgt := 40) hx hb dX4_heavy_1 (by rw [c3]; decide) (by rw [c3]; decide) (by rw [c3]; rfl) (by decide) ?_
        refine lv_iconst (v := (1 : Int32)) hx hb dX4_heavy_40 (by decide) (W.pc 41 rfl ?_)
        subst hsp
        exact rRi hX rfl dX4_heavy_41
      · have hsp := iq hsp c3
        by_cases c4 : p0 = (4 : Int32)
        · have hsp := ip hsp c4
          refine lv_tableIn (off := 41) (tgt := 42) hx hb dX4_heavy_1 (by rw [c4]; decide) (by rw [c4]; decide) (by rw [c4]; rfl) (by decide) ?_
          refine lv_iconst (v := (5 : Int32)) hx hb dX4_heavy_42 (by decide) (W.pc 43 rfl ?_)
          subst hsp
          exact rRi hX rfl dX4_heavy_43
        · have hsp := iq hsp c4
          by_cases c5 : p0 = (5 : Int32)
          · have hsp := ip hsp c5
            refine lv_tableIn (off := 43) (tgt := 44) hx hb dX4_heavy_1 (by rw [c5]; decide) (by rw [c5]; decide) (by rw [c5]; rfl) (by decide) ?_
            refine lv_iconst (v := (1 : Int32)) hx hb dX4_heavy_44 (by decide) (W.pc 45 rfl ?_)
            subst hsp
            exact rRi hX rfl dX4_heavy_45
          · have hsp := iq hsp c5
            refine lv_tableOut (tgt := 46) hx hb dX4_heavy_1 (by have := lv_neT c1 (a := 1) rfl; have := lv_neT c2 (a := 2) rfl; have := lv_neT c3 (a := 3) rfl; have := lv_neT c4 (a := 4) rfl; have := lv_neT c5 (a := 5) rfl;  omega) (by decide) ?_
            refine lv_iconst (v := (2 : Int32)) hx hb dX4_heavy_46 (by decide) (W.pc 47 rfl ?_)
            subst hsp
            exact rRi hX rfl dX4_heavy_47
def sp_X4_stands (p0 : Int32) (p1 : Int32) (p2 : Int32) (p3 : Int32) : Int32 := if p0 = (1 : Int32) then (if (2 : Int32) < (j_abs (p1 - p2)) then ((0 : Int32)) else (if (8 : Int32) < p3 then ((0 : Int32)) else ((1 : Int32)))) else (if p0 = (2 : Int32) then (if (1 : Int32) < (j_abs (p1 - p2)) then ((0 : Int32)) else ((1 : Int32))) else (if p0 = (3 : Int32) then (if (3 : Int32) < p3 then ((0 : Int32)) else ((1 : Int32))) else (if p0 = (4 : Int32) then (if (1 : Int32) < (j_abs (p1 - p2)) then ((0 : Int32)) else (if (5 : Int32) < p3 then ((0 : Int32)) else ((1 : Int32)))) else (if p0 = (5 : Int32) then (if (3 : Int32) < p3 then ((0 : Int32)) else (if p1 < (-6 : Int32) then ((0 : Int32)) else (if (6 : Int32) < p1 then ((0 : Int32)) else ((1 : Int32))))) else ((if (2 : Int32) < (j_abs (p1 - p2)) then ((0 : Int32)) else ((1 : Int32))))))))
theorem bz_X4_stands {p0 : Int32} {p1 : Int32} {p2 : Int32} {p3 : Int32} : narrow .boolean (.int (sp_X4_stands p0 p1 p2 p3)) = .int (sp_X4_stands p0 p1 p2 p3) := by
  unfold sp_X4_stands
  repeat' split
  all_goals first | rfl 
set_option maxHeartbeats 4000000 in
set_option maxRecDepth 100000 in
theorem c_X4_stands (l : Launch) (E : wE) (p0 : Int32) (p1 : Int32) (p2 : Int32) (p3 : Int32) (z : Int32) (hsp : sp_X4_stands p0 p1 p2 p3 = z) : MR l yX4_stands cX4_stands 5 (some .boolean) 1 E [.int p0, .int p1, .int p2, .int p3] [] (some (.int z)) := by
  refine MR.of (by decide +kernel) (Nat.le_of_ble_eq_true rfl) ?_
  intro p e s m below meth c ls hX hK hP hl
  have hX : CX p s m [.int p0, .int p1, .int p2, .int p3].toArray meth c cX4_stands 5 (some .boolean) RX4 := hX
  have hx := hX.1; have hb := hX.2.1; have hts := hX.2.2.2.2.1; have hown := hX.2.2.2.2.2.1
  have hl : lv_has ls 5 [(0, .int p0), (1, .int p1), (2, .int p2), (3, .int p3)] := hl
  have hsp : (if p0 = (1 : Int32) then (if (2 : Int32) < (j_abs (p1 - p2)) then ((0 : Int32)) else (if (8 : Int32) < p3 then ((0 : Int32)) else ((1 : Int32)))) else (if p0 = (2 : Int32) then (if (1 : Int32) < (j_abs (p1 - p2)) then ((0 : Int32)) else ((1 : Int32))) else (if p0 = (3 : Int32) then (if (3 : Int32) < p3 then ((0 : Int32)) else ((1 : Int32))) else (if p0 = (4 : Int32) then (if (1 : Int32) < (j_abs (p1 - p2)) then ((0 : Int32)) else (if (5 : Int32) < p3 then ((0 : Int32)) else ((1 : Int32)))) else (if p0 = (5 : Int32) then (if (3 : Int32) < p3 then ((0 : Int32)) else (if p1 < (-6 : Int32) then ((0 : Int32)) else (if (6 : Int32) < p1 then ((0 : Int32)) else ((1 : Int32))))) else ((if (2 : Int32) < (j_abs (p1 - p2)) then ((0 : Int32)) else ((1 : Int32))))))))) = z := hsp
  refine lv_iload_n hx hb dX4_stands_0 rfl (lv_at hl 1 rfl) (W.pc 1 rfl ?_)
  refine lv_iload_n hx hb dX4_stands_1 rfl (lv_at hl 2 rfl) (W.pc 2 rfl ?_)
  refine lv_isub hx hb dX4_stands_2 (W.pc 3 rfl ?_)
  refine kAbs hX hl.1 w_2_179 w_2_180 w_1_13 w_2_181 ⟨Nat.le_of_ble_eq_true rfl, Nat.le_of_ble_eq_true rfl⟩ dX4_stands_3 (W.pc 6 rfl ?_)
  refine lv_istore (lv' := [(4, .int (j_abs (p1 - p2))), (0, .int p0), (1, .int p1), (2, .int p2), (3, .int p3)]) hx hb dX4_stands_6 hl (by decide) rfl (fun ls hl => W.pc 8 rfl ?_)
  refine lv_iload_n hx hb dX4_stands_8 rfl (lv_at hl 1 rfl) (W.pc 9 rfl ?_)
  by_cases c1 : p0 = (1 : Int32)
  · have hsp := ip hsp c1
    refine lv_tableIn (off := 35) (tgt := 44) hx hb dX4_stands_9 (by rw [c1]; decide) (by rw [c1]; decide) (by rw [c1]; rfl) (by decide) ?_
    refine lv_iload hx hb dX4_stands_44 (lv_at hl 0 rfl) (W.pc 46 rfl ?_)
    refine lv_iconst (v := (2 : Int32)) hx hb dX4_stands_46 (by decide) (W.pc 47 rfl ?_)
    refine lv_icmp_gt (tgt := 60) hx hb dX4_stands_47 (by decide) (fun c2 => ?_) (fun c2 => W.pc 50 rfl ?_)
    · have hsp := ip hsp c2
      refine lv_iconst (v := (0 : Int32)) hx hb dX4_stands_60 (by decide) (W.pc 61 rfl ?_)
      subst hsp
      exact rRz hX rfl rfl dX4_stands_61
    · have hsp := iq hsp c2
      refine lv_iload_n hx hb dX4_stands_50 rfl (lv_at hl 4 rfl) (W.pc 51 rfl ?_)
      refine lv_bipush (v := (8 : Int32)) hx hb dX4_stands_51 (by decide) (W.pc 53 rfl ?_)
      refine lv_icmp_gt (tgt := 60) hx hb dX4_stands_53 (by decide) (fun c3 => ?_) (fun c3 => W.pc 56 rfl ?_)
      · have hsp := ip hsp c3
        refine lv_iconst (v := (0 : Int32)) hx hb dX4_stands_60 (by decide) (W.pc 61 rfl ?_)
        subst hsp
        exact rRz hX rfl rfl dX4_stands_61
      · have hsp := iq hsp c3
        refine lv_iconst (v := (1 : Int32)) hx hb dX4_stands_56 (by decide) (W.pc 57 rfl ?_)
        refine lv_goto (tgt := 61) hx hb dX4_stands_57 (by decide) ?_
        subst hsp
        exact rRz hX rfl rfl dX4_stands_61
  · have hsp := iq hsp c1
    by_cases c4 : p0 = (2 : Int32)
    · have hsp := ip hsp c4
      refine lv_tableIn (off := 53) (tgt := 62) hx hb dX4_stands_9 (by rw [c4]; decide) (by rw [c4]; decide) (by rw [c4]; rfl) (by decide) ?_
      refine lv_iload hx hb dX4_stands_62 (lv_at hl 0 rfl) (W.pc 64 rfl ?_)
      refine lv_iconst (v := (1 : Int32)) hx hb dX4_stands_64 (by decide) (W.pc 65 rfl ?_)
      refine lv_icmp_gt (tgt := 72) hx hb dX4_stands_65 (by decide) (fun c5 => ?_) (fun c5 => W.pc 68 rfl ?_)
      · have hsp := ip hsp c5
        refine lv_iconst (v := (0 : Int32)) hx hb dX4_stands_72 (by decide) (W.pc 73 rfl ?_)
        subst hsp
        exact rRz hX rfl rfl dX4_stands_73
      · have hsp := iq hsp c5
        refine lv_iconst (v := (1 : Int32)) hx hb dX4_stands_68 (by decide) (W.pc 69 rfl ?_)
        refine lv_goto (tgt := 73) hx hb dX4_stands_69 (by decide) ?_
        subst hsp
        exact rRz hX rfl rfl dX4_stands_73
    · have hsp := iq hsp c4
      by_cases c6 : p0 = (3 : Int32)
      · have hsp := ip hsp c6
        refine lv_tableIn (off := 65) (tgt := 74) hx hb dX4_stands_9 (by rw [c6]; decide) (by rw [c6]; decide) (by rw [c6]; rfl) (by decide) ?_
        refine lv_iload_n hx hb dX4_stands_74 rfl (lv_at hl 4 rfl) (W.pc 75 rfl ?_)
        refine lv_iconst (v := (3 : Int32)) hx hb dX4_stands_75 (by decide) (W.pc 76 rfl ?_)
        refine lv_icmp_gt (tgt := 83) hx hb dX4_stands_76 (by decide) (fun c7 => ?_) (fun c7 => W.pc 79 rfl ?_)
        · have hsp := ip hsp c7
          refine lv_iconst (v := (0 : Int32)) hx hb dX4_stands_83 (by decide) (W.pc 84 rfl ?_)
          subst hsp
          exact rRz hX rfl rfl dX4_stands_84
        · have hsp := iq hsp c7
          refine lv_iconst (v := (1 : Int32)) hx hb dX4_stands_79 (by decide) (W.pc 80 rfl ?_)
          refine lv_goto (tgt := 84) hx hb dX4_stands_80 (by decide) ?_
          subst hsp
          exact rRz hX rfl rfl dX4_stands_84
      · have hsp := iq hsp c6
        by_cases c8 : p0 = (4 : Int32)
        · have hsp := ip hsp c8
          refine lv_tableIn (off := 76) (tgt := 85) hx hb dX4_stands_9 (by rw [c8]; decide) (by rw [c8]; decide) (by rw [c8]; rfl) (by decide) ?_
          refine lv_iload hx hb dX4_stands_85 (lv_at hl 0 rfl) (W.pc 87 rfl ?_)
          refine lv_iconst (v := (1 : Int32)) hx hb dX4_stands_87 (by decide) (W.pc 88 rfl ?_)
          refine lv_icmp_gt (tgt := 100) hx hb dX4_stands_88 (by decide) (fun c9 => ?_) (fun c9 => W.pc 91 rfl ?_)
          · have hsp := ip hsp c9
            refine lv_iconst (v := (0 : Int32)) hx hb dX4_stands_100 (by decide) (W.pc 101 rfl ?_)
            subst hsp
            exact rRz hX rfl rfl dX4_stands_101
          · have hsp := iq hsp c9
            refine lv_iload_n hx hb dX4_stands_91 rfl (lv_at hl 4 rfl) (W.pc 92 rfl ?_)
            refine lv_iconst (v := (5 : Int32)) hx hb dX4_stands_92 (by decide) (W.pc 93 rfl ?_)
            refine lv_icmp_gt (tgt := 100) hx hb dX4_stands_93 (by decide) (fun c10 => ?_) (fun c10 => W.pc 96 rfl ?_)
            · have hsp := ip hsp c10
              refine lv_iconst (v := (0 : Int32)) hx hb dX4_stands_100 (by decide) (W.pc 101 rfl ?_)
              subst hsp
              exact rRz hX rfl rfl dX4_stands_101
            · have hsp := iq hsp c10
              refine lv_iconst (v := (1 : Int32)) hx hb dX4_stands_96 (by decide) (W.pc 97 rfl ?_)
              refine lv_goto (tgt := 101) hx hb dX4_stands_97 (by decide) ?_
              subst hsp
              exact rRz hX rfl rfl dX4_stands_101
        · have hsp := iq hsp c8
          by_cases c11 : p0 = (5 : Int32)
          · have hsp := ip hsp c11
            refine lv_tableIn (off := 93) (tgt := 102) hx hb dX4_stands_9 (by rw [c11]; decide) (by rw [c11]; decide) (by rw [c11]; rfl) (by decide) ?_
            refine lv_iload_n hx hb dX4_stands_102 rfl (lv_at hl 4 rfl) (W.pc 103 rfl ?_)
            refine lv_iconst (v := (3 : Int32)) hx hb dX4_stands_103 (by decide) (W.pc 104 rfl ?_)
            refine lv_icmp_gt (tgt := 123) hx hb dX4_stands_104 (by decide) (fun c12 => ?_) (fun c12 => W.pc 107 rfl ?_)
            · have hsp := ip hsp c12
              refine lv_iconst (v := (0 : Int32)) hx hb dX4_stands_123 (by decide) (W.pc 124 rfl ?_)
              subst hsp
              exact rRz hX rfl rfl dX4_stands_124
            · have hsp := iq hsp c12
              refine lv_iload_n hx hb dX4_stands_107 rfl (lv_at hl 2 rfl) (W.pc 108 rfl ?_)
              refine lv_bipush (v := (-6 : Int32)) hx hb dX4_stands_108 (by decide) (W.pc 110 rfl ?_)
              refine lv_icmp_lt (tgt := 123) hx hb dX4_stands_110 (by decide) (fun c13 => ?_) (fun c13 => W.pc 113 rfl ?_)
              · have hsp := ip hsp c13
                refine lv_iconst (v := (0 : Int32)) hx hb dX4_stands_123 (by decide) (W.pc 124 rfl ?_)
                subst hsp
                exact rRz hX rfl rfl dX4_stands_124
              · have hsp := iq hsp c13
                refine lv_iload_n hx hb dX4_stands_113 rfl (lv_at hl 2 rfl) (W.pc 114 rfl ?_)
                refine lv_bipush (v := (6 : Int32)) hx hb dX4_stands_114 (by decide) (W.pc 116 rfl ?_)
                refine lv_icmp_gt (tgt := 123) hx hb dX4_stands_116 (by decide) (fun c14 => ?_) (fun c14 => W.pc 119 rfl ?_)
                · have hsp := ip hsp c14
                  refine lv_iconst (v := (0 : Int32)) hx hb dX4_stands_123 (by decide) (W.pc 124 rfl ?_)
                  subst hsp
                  exact rRz hX rfl rfl dX4_stands_124
                · have hsp := iq hsp c14
                  refine lv_iconst (v := (1 : Int32)) hx hb dX4_stands_119 (by decide) (W.pc 120 rfl ?_)
                  refine lv_goto (tgt := 124) hx hb dX4_stands_120 (by decide) ?_
                  subst hsp
                  exact rRz hX rfl rfl dX4_stands_124
          · have hsp := iq hsp c11
            refine lv_tableOut (tgt := 125) hx hb dX4_stands_9 (by have := lv_neT c1 (a := 1) rfl; have := lv_neT c4 (a := 2) rfl; have := lv_neT c6 (a := 3) rfl; have := lv_neT c8 (a := 4) rfl; have := lv_neT c11 (a := 5) rfl;  omega) (by decide) ?_
            refine lv_iload hx hb dX4_stands_125 (lv_at hl 0 rfl) (W.pc 127 rfl ?_)
            refine lv_iconst (v := (2 : Int32)) hx hb dX4_stands_127 (by decide) (W.pc 128 rfl ?_)
            refine lv_icmp_gt (tgt := 135) hx hb dX4_stands_128 (by decide) (fun c15 => ?_) (fun c15 => W.pc 131 rfl ?_)
            · have hsp := ip hsp c15
              refine lv_iconst (v := (0 : Int32)) hx hb dX4_stands_135 (by decide) (W.pc 136 rfl ?_)
              subst hsp
              exact rRz hX rfl rfl dX4_stands_136
            · have hsp := iq hsp c15
              refine lv_iconst (v := (1 : Int32)) hx hb dX4_stands_131 (by decide) (W.pc 132 rfl ?_)
              refine lv_goto (tgt := 136) hx hb dX4_stands_132 (by decide) ?_
              subst hsp
              exact rRz hX rfl rfl dX4_stands_136
