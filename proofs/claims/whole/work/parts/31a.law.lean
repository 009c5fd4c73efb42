theorem w_1_224 : Cond.methodLink RL 13 yX7_town ∈ TBL := TBL_t (tin1 (List.mem_of_getElem? (i := 224) (by decide +kernel))) (by decide +kernel)
theorem w_4_118 : Cond.methodLink RL 17 yX8_town ∈ TBL := TBL_t (tin4 (List.mem_of_getElem? (i := 118) (by decide +kernel))) (by decide +kernel)
theorem w_2_21 : Cond.methodLink RL 18 yX7_pull ∈ TBL := TBL_t (tin2 (List.mem_of_getElem? (i := 21) (by decide +kernel))) (by decide +kernel)
theorem w_4_138 : Cond.methodLink RL 22 yX8_pull ∈ TBL := TBL_t (tin4 (List.mem_of_getElem? (i := 138) (by decide +kernel))) (by decide +kernel)
theorem w_2_32 : Cond.methodLink RL 23 yX7_member ∈ TBL := TBL_t (tin2 (List.mem_of_getElem? (i := 32) (by decide +kernel))) (by decide +kernel)
theorem w_4_152 : Cond.methodLink RL 26 yX8_member ∈ TBL := TBL_t (tin4 (List.mem_of_getElem? (i := 152) (by decide +kernel))) (by decide +kernel)
theorem w_2_40 : Cond.methodLink RL 27 yX7_type ∈ TBL := TBL_t (tin2 (List.mem_of_getElem? (i := 40) (by decide +kernel))) (by decide +kernel)
theorem w_4_160 : Cond.methodLink RL 30 yX8_type ∈ TBL := TBL_t (tin4 (List.mem_of_getElem? (i := 160) (by decide +kernel))) (by decide +kernel)
theorem w_2_44 : Cond.methodLink RL 31 yX7_clear ∈ TBL := TBL_t (tin2 (List.mem_of_getElem? (i := 44) (by decide +kernel))) (by decide +kernel)
theorem w_4_164 : Cond.methodLink RL 35 yX8_clear ∈ TBL := TBL_t (tin4 (List.mem_of_getElem? (i := 164) (by decide +kernel))) (by decide +kernel)
theorem w_2_48 : Cond.methodLink RL 36 yX7_read ∈ TBL := TBL_t (tin2 (List.mem_of_getElem? (i := 48) (by decide +kernel))) (by decide +kernel)
theorem w_4_168 : Cond.methodLink RL 39 yX8_read ∈ TBL := TBL_t (tin4 (List.mem_of_getElem? (i := 168) (by decide +kernel))) (by decide +kernel)
theorem w_2_233 : Cond.methodLink RL 40 yX7_build ∈ TBL := TBL_t (tin2 (List.mem_of_getElem? (i := 233) (by decide +kernel))) (by decide +kernel)
theorem w_5_18 : Cond.methodLink RL 44 yX8_build ∈ TBL := TBL_t (tin5 (List.mem_of_getElem? (i := 18) (by decide +kernel))) (by decide +kernel)
theorem w_3_17 : Cond.methodLink RL 45 yX7_year ∈ TBL := TBL_t (tin3 (List.mem_of_getElem? (i := 17) (by decide +kernel))) (by decide +kernel)
theorem w_5_26 : Cond.methodLink RL 48 yX8_year ∈ TBL := TBL_t (tin5 (List.mem_of_getElem? (i := 26) (by decide +kernel))) (by decide +kernel)
theorem w_3_22 : Cond.methodLink RL 49 yX7_undo ∈ TBL := TBL_t (tin3 (List.mem_of_getElem? (i := 22) (by decide +kernel))) (by decide +kernel)
theorem w_5_30 : Cond.methodLink RL 52 yX8_undo ∈ TBL := TBL_t (tin5 (List.mem_of_getElem? (i := 30) (by decide +kernel))) (by decide +kernel)
theorem w_3_34 : Cond.methodLink RL 53 yX7_now ∈ TBL := TBL_t (tin3 (List.mem_of_getElem? (i := 34) (by decide +kernel))) (by decide +kernel)
theorem w_5_38 : Cond.methodLink RL 56 yX8_now ∈ TBL := TBL_t (tin5 (List.mem_of_getElem? (i := 38) (by decide +kernel))) (by decide +kernel)
theorem w_3_39 : Cond.methodLink RL 57 yX7_of ∈ TBL := TBL_t (tin3 (List.mem_of_getElem? (i := 39) (by decide +kernel))) (by decide +kernel)
theorem w_5_42 : Cond.methodLink RL 60 yX8_of ∈ TBL := TBL_t (tin5 (List.mem_of_getElem? (i := 42) (by decide +kernel))) (by decide +kernel)
theorem w_3_49 : Cond.methodLink RL 61 yX7_plot ∈ TBL := TBL_t (tin3 (List.mem_of_getElem? (i := 49) (by decide +kernel))) (by decide +kernel)
theorem w_5_46 : Cond.methodLink RL 64 yX8_plot ∈ TBL := TBL_t (tin5 (List.mem_of_getElem? (i := 46) (by decide +kernel))) (by decide +kernel)
theorem w_3_62 : Cond.methodLink RL 65 yX7_then ∈ TBL := TBL_t (tin3 (List.mem_of_getElem? (i := 62) (by decide +kernel))) (by decide +kernel)
theorem w_5_53 : Cond.methodLink RL 68 yX8_then ∈ TBL := TBL_t (tin5 (List.mem_of_getElem? (i := 53) (by decide +kernel))) (by decide +kernel)
theorem w_3_70 : Cond.methodLink RL 69 yX7_when ∈ TBL := TBL_t (tin3 (List.mem_of_getElem? (i := 70) (by decide +kernel))) (by decide +kernel)
theorem w_5_61 : Cond.methodLink RL 72 yX8_when ∈ TBL := TBL_t (tin5 (List.mem_of_getElem? (i := 61) (by decide +kernel))) (by decide +kernel)
theorem w_3_75 : Cond.methodLink RL 73 yX7_fits ∈ TBL := TBL_t (tin3 (List.mem_of_getElem? (i := 75) (by decide +kernel))) (by decide +kernel)
theorem w_5_65 : Cond.methodLink RL 76 yX8_fits ∈ TBL := TBL_t (tin5 (List.mem_of_getElem? (i := 65) (by decide +kernel))) (by decide +kernel)
theorem w_3_80 : Cond.methodLink RL 77 yX7_rolls ∈ TBL := TBL_t (tin3 (List.mem_of_getElem? (i := 80) (by decide +kernel))) (by decide +kernel)
theorem w_5_69 : Cond.methodLink RL 80 yX8_rolls ∈ TBL := TBL_t (tin5 (List.mem_of_getElem? (i := 69) (by decide +kernel))) (by decide +kernel)
theorem w_3_87 : Cond.methodLink RL 81 yX7_lies ∈ TBL := TBL_t (tin3 (List.mem_of_getElem? (i := 87) (by decide +kernel))) (by decide +kernel)
theorem w_5_73 : Cond.methodLink RL 84 yX8_lies ∈ TBL := TBL_t (tin5 (List.mem_of_getElem? (i := 73) (by decide +kernel))) (by decide +kernel)
theorem w_3_99 : Cond.methodLink RL 85 yX7_pass ∈ TBL := TBL_t (tin3 (List.mem_of_getElem? (i := 99) (by decide +kernel))) (by decide +kernel)
theorem w_5_81 : Cond.methodLink RL 88 yX8_pass ∈ TBL := TBL_t (tin5 (List.mem_of_getElem? (i := 81) (by decide +kernel))) (by decide +kernel)
theorem w_3_108 : Cond.methodLink RL 89 yX7_order ∈ TBL := TBL_t (tin3 (List.mem_of_getElem? (i := 108) (by decide +kernel))) (by decide +kernel)
theorem w_5_85 : Cond.methodLink RL 92 yX8_order ∈ TBL := TBL_t (tin5 (List.mem_of_getElem? (i := 85) (by decide +kernel))) (by decide +kernel)
theorem w_3_138 : Cond.methodLink RL 93 yX7_council ∈ TBL := TBL_t (tin3 (List.mem_of_getElem? (i := 138) (by decide +kernel))) (by decide +kernel)
theorem w_5_103 : Cond.methodLink RL 96 yX8_council ∈ TBL := TBL_t (tin5 (List.mem_of_getElem? (i := 103) (by decide +kernel))) (by decide +kernel)
theorem w_3_156 : Cond.methodLink RL 97 yX7_power ∈ TBL := TBL_t (tin3 (List.mem_of_getElem? (i := 156) (by decide +kernel))) (by decide +kernel)
theorem w_5_118 : Cond.methodLink RL 100 yX8_power ∈ TBL := TBL_t (tin5 (List.mem_of_getElem? (i := 118) (by decide +kernel))) (by decide +kernel)
theorem w_3_160 : Cond.methodLink RL 101 yX7_built ∈ TBL := TBL_t (tin3 (List.mem_of_getElem? (i := 160) (by decide +kernel))) (by decide +kernel)
theorem w_5_122 : Cond.methodLink RL 104 yX8_built ∈ TBL := TBL_t (tin5 (List.mem_of_getElem? (i := 122) (by decide +kernel))) (by decide +kernel)
theorem w_3_165 : Cond.methodLink RL 105 yX7_note ∈ TBL := TBL_t (tin3 (List.mem_of_getElem? (i := 165) (by decide +kernel))) (by decide +kernel)
theorem w_5_126 : Cond.methodLink RL 109 yX8_note ∈ TBL := TBL_t (tin5 (List.mem_of_getElem? (i := 126) (by decide +kernel))) (by decide +kernel)
theorem w_3_169 : Cond.methodLink RL 110 yX7_mark ∈ TBL := TBL_t (tin3 (List.mem_of_getElem? (i := 169) (by decide +kernel))) (by decide +kernel)
theorem w_5_130 : Cond.methodLink RL 114 yX8_mark ∈ TBL := TBL_t (tin5 (List.mem_of_getElem? (i := 130) (by decide +kernel))) (by decide +kernel)
theorem w_3_176 : Cond.methodLink RL 115 yX7_forget ∈ TBL := TBL_t (tin3 (List.mem_of_getElem? (i := 176) (by decide +kernel))) (by decide +kernel)
theorem w_5_134 : Cond.methodLink RL 118 yX8_forget ∈ TBL := TBL_t (tin5 (List.mem_of_getElem? (i := 134) (by decide +kernel))) (by decide +kernel)
theorem w_3_180 : Cond.methodLink RL 119 yX7_is ∈ TBL := TBL_t (tin3 (List.mem_of_getElem? (i := 180) (by decide +kernel))) (by decide +kernel)
theorem w_5_138 : Cond.methodLink RL 122 yX8_is ∈ TBL := TBL_t (tin5 (List.mem_of_getElem? (i := 138) (by decide +kernel))) (by decide +kernel)
theorem w_3_188 : Cond.methodLink RL 123 yX7_watch ∈ TBL := TBL_t (tin3 (List.mem_of_getElem? (i := 188) (by decide +kernel))) (by decide +kernel)
theorem w_5_142 : Cond.methodLink RL 126 yX8_watch ∈ TBL := TBL_t (tin5 (List.mem_of_getElem? (i := 142) (by decide +kernel))) (by decide +kernel)
theorem w_3_198 : Cond.methodLink RL 127 yX7_kinds ∈ TBL := TBL_t (tin3 (List.mem_of_getElem? (i := 198) (by decide +kernel))) (by decide +kernel)
theorem w_5_154 : Cond.methodLink RL 130 yX8_kinds ∈ TBL := TBL_t (tin5 (List.mem_of_getElem? (i := 154) (by decide +kernel))) (by decide +kernel)
theorem w_3_207 : Cond.methodLink RL 131 yX7_tries ∈ TBL := TBL_t (tin3 (List.mem_of_getElem? (i := 207) (by decide +kernel))) (by decide +kernel)
theorem w_5_162 : Cond.methodLink RL 134 yX8_tries ∈ TBL := TBL_t (tin5 (List.mem_of_getElem? (i := 162) (by decide +kernel))) (by decide +kernel)
theorem w_3_216 : Cond.methodLink RL 135 yX7_game ∈ TBL := TBL_t (tin3 (List.mem_of_getElem? (i := 216) (by decide +kernel))) (by decide +kernel)
theorem w_5_166 : Cond.methodLink RL 138 yX8_game ∈ TBL := TBL_t (tin5 (List.mem_of_getElem? (i := 166) (by decide +kernel))) (by decide +kernel)
theorem w_3_232 : Cond.methodLink RL 139 yX7_chance ∈ TBL := TBL_t (tin3 (List.mem_of_getElem? (i := 232) (by decide +kernel))) (by decide +kernel)
theorem w_5_174 : Cond.methodLink RL 142 yX8_chance ∈ TBL := TBL_t (tin5 (List.mem_of_getElem? (i := 174) (by decide +kernel))) (by decide +kernel)
theorem w_4_12 : Cond.methodLink RL 143 yX7_times ∈ TBL := TBL_t (tin4 (List.mem_of_getElem? (i := 12) (by decide +kernel))) (by decide +kernel)
theorem w_5_179 : Cond.methodLink RL 146 yX8_times ∈ TBL := TBL_t (tin5 (List.mem_of_getElem? (i := 179) (by decide +kernel))) (by decide +kernel)
theorem w_4_22 : Cond.methodLink RL 147 yX7_part ∈ TBL := TBL_t (tin4 (List.mem_of_getElem? (i := 22) (by decide +kernel))) (by decide +kernel)
theorem w_5_189 : Cond.methodLink RL 151 yX8_part ∈ TBL := TBL_t (tin5 (List.mem_of_getElem? (i := 189) (by decide +kernel))) (by decide +kernel)
theorem w_4_26 : Cond.methodLink RL 152 yX7_image ∈ TBL := TBL_t (tin4 (List.mem_of_getElem? (i := 26) (by decide +kernel))) (by decide +kernel)
theorem w_5_193 : Cond.methodLink RL 155 yX8_image ∈ TBL := TBL_t (tin5 (List.mem_of_getElem? (i := 193) (by decide +kernel))) (by decide +kernel)
theorem w_4_34 : Cond.methodLink RL 156 yX7_from ∈ TBL := TBL_t (tin4 (List.mem_of_getElem? (i := 34) (by decide +kernel))) (by decide +kernel)
theorem w_5_197 : Cond.methodLink RL 159 yX8_from ∈ TBL := TBL_t (tin5 (List.mem_of_getElem? (i := 197) (by decide +kernel))) (by decide +kernel)
theorem w_4_38 : Cond.methodLink RL 160 yX7_status ∈ TBL := TBL_t (tin4 (List.mem_of_getElem? (i := 38) (by decide +kernel))) (by decide +kernel)
theorem w_5_201 : Cond.methodLink RL 163 yX8_status ∈ TBL := TBL_t (tin5 (List.mem_of_getElem? (i := 201) (by decide +kernel))) (by decide +kernel)
theorem w_4_42 : Cond.methodLink RL 164 yX7_count ∈ TBL := TBL_t (tin4 (List.mem_of_getElem? (i := 42) (by decide +kernel))) (by decide +kernel)
theorem w_5_205 : Cond.methodLink RL 167 yX8_count ∈ TBL := TBL_t (tin5 (List.mem_of_getElem? (i := 205) (by decide +kernel))) (by decide +kernel)
theorem w_4_46 : Cond.methodLink RL 168 yX7_digest ∈ TBL := TBL_t (tin4 (List.mem_of_getElem? (i := 46) (by decide +kernel))) (by decide +kernel)
theorem w_5_213 : Cond.methodLink RL 172 yX8_digest ∈ TBL := TBL_t (tin5 (List.mem_of_getElem? (i := 213) (by decide +kernel))) (by decide +kernel)
theorem w_1_226 : Cond.selects yX7_town.cls yX7_town yX7_town ∈ TBL := TBL_t (tin1 (List.mem_of_getElem? (i := 226) (by decide +kernel))) (by decide +kernel)
theorem w_1_227 : Cond.code yX7_town cX7_town 3 (some .int) ∈ TBL := TBL_t (tin1 (List.mem_of_getElem? (i := 227) (by decide +kernel))) (by decide +kernel)
theorem w_1_225 : Cond.instanceMethod yX7_town ∈ TBL := TBL_t (tin1 (List.mem_of_getElem? (i := 225) (by decide +kernel))) (by decide +kernel)
theorem w_4_120 : Cond.selects yX8_town.cls yX8_town yX8_town ∈ TBL := TBL_t (tin4 (List.mem_of_getElem? (i := 120) (by decide +kernel))) (by decide +kernel)
theorem w_4_121 : Cond.code yX8_town cX8_town 3 (some .int) ∈ TBL := TBL_t (tin4 (List.mem_of_getElem? (i := 121) (by decide +kernel))) (by decide +kernel)
theorem w_4_119 : Cond.instanceMethod yX8_town ∈ TBL := TBL_t (tin4 (List.mem_of_getElem? (i := 119) (by decide +kernel))) (by decide +kernel)
theorem w_2_23 : Cond.selects yX7_pull.cls yX7_pull yX7_pull ∈ TBL := TBL_t (tin2 (List.mem_of_getElem? (i := 23) (by decide +kernel))) (by decide +kernel)
theorem w_2_24 : Cond.code yX7_pull cX7_pull 4 (some .int) ∈ TBL := TBL_t (tin2 (List.mem_of_getElem? (i := 24) (by decide +kernel))) (by decide +kernel)
theorem w_2_22 : Cond.instanceMethod yX7_pull ∈ TBL := TBL_t (tin2 (List.mem_of_getElem? (i := 22) (by decide +kernel))) (by decide +kernel)
theorem w_4_140 : Cond.selects yX8_pull.cls yX8_pull yX8_pull ∈ TBL := TBL_t (tin4 (List.mem_of_getElem? (i := 140) (by decide +kernel))) (by decide +kernel)
theorem w_4_141 : Cond.code yX8_pull cX8_pull 4 (some .int) ∈ TBL := TBL_t (tin4 (List.mem_of_getElem? (i := 141) (by decide +kernel))) (by decide +kernel)
theorem w_4_139 : Cond.instanceMethod yX8_pull ∈ TBL := TBL_t (tin4 (List.mem_of_getElem? (i := 139) (by decide +kernel))) (by decide +kernel)
theorem w_2_34 : Cond.selects yX7_member.cls yX7_member yX7_member ∈ TBL := TBL_t (tin2 (List.mem_of_getElem? (i := 34) (by decide +kernel))) (by decide +kernel)
theorem w_2_35 : Cond.code yX7_member cX7_member 3 (some .int) ∈ TBL := TBL_t (tin2 (List.mem_of_getElem? (i := 35) (by decide +kernel))) (by decide +kernel)
theorem w_2_33 : Cond.instanceMethod yX7_member ∈ TBL := TBL_t (tin2 (List.mem_of_getElem? (i := 33) (by decide +kernel))) (by decide +kernel)
theorem w_4_154 : Cond.selects yX8_member.cls yX8_member yX8_member ∈ TBL := TBL_t (tin4 (List.mem_of_getElem? (i := 154) (by decide +kernel))) (by decide +kernel)
theorem w_4_155 : Cond.code yX8_member cX8_member 2 (some .int) ∈ TBL := TBL_t (tin4 (List.mem_of_getElem? (i := 155) (by decide +kernel))) (by decide +kernel)
theorem w_4_153 : Cond.instanceMethod yX8_member ∈ TBL := TBL_t (tin4 (List.mem_of_getElem? (i := 153) (by decide +kernel))) (by decide +kernel)
theorem w_2_42 : Cond.selects yX7_type.cls yX7_type yX7_type ∈ TBL := TBL_t (tin2 (List.mem_of_getElem? (i := 42) (by decide +kernel))) (by decide +kernel)
theorem w_2_43 : Cond.code yX7_type cX7_type 2 (some .int) ∈ TBL := TBL_t (tin2 (List.mem_of_getElem? (i := 43) (by decide +kernel))) (by decide +kernel)
theorem w_2_41 : Cond.instanceMethod yX7_type ∈ TBL := TBL_t (tin2 (List.mem_of_getElem? (i := 41) (by decide +kernel))) (by decide +kernel)
theorem w_4_162 : Cond.selects yX8_type.cls yX8_type yX8_type ∈ TBL := TBL_t (tin4 (List.mem_of_getElem? (i := 162) (by decide +kernel))) (by decide +kernel)
theorem w_4_163 : Cond.code yX8_type cX8_type 2 (some .int) ∈ TBL := TBL_t (tin4 (List.mem_of_getElem? (i := 163) (by decide +kernel))) (by decide +kernel)
theorem w_4_161 : Cond.instanceMethod yX8_type ∈ TBL := TBL_t (tin4 (List.mem_of_getElem? (i := 161) (by decide +kernel))) (by decide +kernel)
theorem w_2_46 : Cond.selects yX7_clear.cls yX7_clear yX7_clear ∈ TBL := TBL_t (tin2 (List.mem_of_getElem? (i := 46) (by decide +kernel))) (by decide +kernel)
theorem w_2_47 : Cond.code yX7_clear cX7_clear 2 (some .int) ∈ TBL := TBL_t (tin2 (List.mem_of_getElem? (i := 47) (by decide +kernel))) (by decide +kernel)
theorem w_2_45 : Cond.instanceMethod yX7_clear ∈ TBL := TBL_t (tin2 (List.mem_of_getElem? (i := 45) (by decide +kernel))) (by decide +kernel)
theorem w_4_166 : Cond.selects yX8_clear.cls yX8_clear yX8_clear ∈ TBL := TBL_t (tin4 (List.mem_of_getElem? (i := 166) (by decide +kernel))) (by decide +kernel)
theorem w_4_167 : Cond.code yX8_clear cX8_clear 2 (some .int) ∈ TBL := TBL_t (tin4 (List.mem_of_getElem? (i := 167) (by decide +kernel))) (by decide +kernel)
theorem w_4_165 : Cond.instanceMethod yX8_clear ∈ TBL := TBL_t (tin4 (List.mem_of_getElem? (i := 165) (by decide +kernel))) (by decide +kernel)
theorem w_2_50 : Cond.selects yX7_read.cls yX7_read yX7_read ∈ TBL := TBL_t (tin2 (List.mem_of_getElem? (i := 50) (by decide +kernel))) (by decide +kernel)
theorem w_2_51 : Cond.code yX7_read cX7_read 2 (some .int) ∈ TBL := TBL_t (tin2 (List.mem_of_getElem? (i := 51) (by decide +kernel))) (by decide +kernel)
theorem w_2_49 : Cond.instanceMethod yX7_read ∈ TBL := TBL_t (tin2 (List.mem_of_getElem? (i := 49) (by decide +kernel))) (by decide +kernel)
theorem w_4_170 : Cond.selects yX8_read.cls yX8_read yX8_read ∈ TBL := TBL_t (tin4 (List.mem_of_getElem? (i := 170) (by decide +kernel))) (by decide +kernel)
theorem w_4_171 : Cond.code yX8_read cX8_read 3 (some .int) ∈ TBL := TBL_t (tin4 (List.mem_of_getElem? (i := 171) (by decide +kernel))) (by decide +kernel)
theorem w_4_169 : Cond.instanceMethod yX8_read ∈ TBL := TBL_t (tin4 (List.mem_of_getElem? (i := 169) (by decide +kernel))) (by decide +kernel)
theorem w_2_235 : Cond.selects yX7_build.cls yX7_build yX7_build ∈ TBL := TBL_t (tin2 (List.mem_of_getElem? (i := 235) (by decide +kernel))) (by decide +kernel)
theorem w_2_236 : Cond.code yX7_build cX7_build 4 (some .int) ∈ TBL := TBL_t (tin2 (List.mem_of_getElem? (i := 236) (by decide +kernel))) (by decide +kernel)
theorem w_2_234 : Cond.instanceMethod yX7_build ∈ TBL := TBL_t (tin2 (List.mem_of_getElem? (i := 234) (by decide +kernel))) (by decide +kernel)
theorem w_5_20 : Cond.selects yX8_build.cls yX8_build yX8_build ∈ TBL := TBL_t (tin5 (List.mem_of_getElem? (i := 20) (by decide +kernel))) (by decide +kernel)
theorem w_5_21 : Cond.code yX8_build cX8_build 4 (some .int) ∈ TBL := TBL_t (tin5 (List.mem_of_getElem? (i := 21) (by decide +kernel))) (by decide +kernel)
theorem w_5_19 : Cond.instanceMethod yX8_build ∈ TBL := TBL_t (tin5 (List.mem_of_getElem? (i := 19) (by decide +kernel))) (by decide +kernel)
theorem w_3_19 : Cond.selects yX7_year.cls yX7_year yX7_year ∈ TBL := TBL_t (tin3 (List.mem_of_getElem? (i := 19) (by decide +kernel))) (by decide +kernel)
theorem w_3_20 : Cond.code yX7_year cX7_year 2 (some .int) ∈ TBL := TBL_t (tin3 (List.mem_of_getElem? (i := 20) (by decide +kernel))) (by decide +kernel)
theorem w_3_18 : Cond.instanceMethod yX7_year ∈ TBL := TBL_t (tin3 (List.mem_of_getElem? (i := 18) (by decide +kernel))) (by decide +kernel)
theorem w_5_28 : Cond.selects yX8_year.cls yX8_year yX8_year ∈ TBL := TBL_t (tin5 (List.mem_of_getElem? (i := 28) (by decide +kernel))) (by decide +kernel)
theorem w_5_29 : Cond.code yX8_year cX8_year 3 (some .int) ∈ TBL := TBL_t (tin5 (List.mem_of_getElem? (i := 29) (by decide +kernel))) (by decide +kernel)
theorem w_5_27 : Cond.instanceMethod yX8_year ∈ TBL := TBL_t (tin5 (List.mem_of_getElem? (i := 27) (by decide +kernel))) (by decide +kernel)
theorem w_3_24 : Cond.selects yX7_undo.cls yX7_undo yX7_undo ∈ TBL := TBL_t (tin3 (List.mem_of_getElem? (i := 24) (by decide +kernel))) (by decide +kernel)
theorem w_3_25 : Cond.code yX7_undo cX7_undo 1 (some .int) ∈ TBL := TBL_t (tin3 (List.mem_of_getElem? (i := 25) (by decide +kernel))) (by decide +kernel)
theorem w_3_23 : Cond.instanceMethod yX7_undo ∈ TBL := TBL_t (tin3 (List.mem_of_getElem? (i := 23) (by decide +kernel))) (by decide +kernel)
theorem w_5_32 : Cond.selects yX8_undo.cls yX8_undo yX8_undo ∈ TBL := TBL_t (tin5 (List.mem_of_getElem? (i := 32) (by decide +kernel))) (by decide +kernel)
theorem w_5_33 : Cond.code yX8_undo cX8_undo 1 (some .int) ∈ TBL := TBL_t (tin5 (List.mem_of_getElem? (i := 33) (by decide +kernel))) (by decide +kernel)
theorem w_5_31 : Cond.instanceMethod yX8_undo ∈ TBL := TBL_t (tin5 (List.mem_of_getElem? (i := 31) (by decide +kernel))) (by decide +kernel)
theorem w_3_36 : Cond.selects yX7_now.cls yX7_now yX7_now ∈ TBL := TBL_t (tin3 (List.mem_of_getElem? (i := 36) (by decide +kernel))) (by decide +kernel)
theorem w_3_37 : Cond.code yX7_now cX7_now 2 (some .int) ∈ TBL := TBL_t (tin3 (List.mem_of_getElem? (i := 37) (by decide +kernel))) (by decide +kernel)
theorem w_3_35 : Cond.instanceMethod yX7_now ∈ TBL := TBL_t (tin3 (List.mem_of_getElem? (i := 35) (by decide +kernel))) (by decide +kernel)
theorem w_5_40 : Cond.selects yX8_now.cls yX8_now yX8_now ∈ TBL := TBL_t (tin5 (List.mem_of_getElem? (i := 40) (by decide +kernel))) (by decide +kernel)
theorem w_5_41 : Cond.code yX8_now cX8_now 2 (some .int) ∈ TBL := TBL_t (tin5 (List.mem_of_getElem? (i := 41) (by decide +kernel))) (by decide +kernel)
theorem w_5_39 : Cond.instanceMethod yX8_now ∈ TBL := TBL_t (tin5 (List.mem_of_getElem? (i := 39) (by decide +kernel))) (by decide +kernel)
theorem w_3_41 : Cond.selects yX7_of.cls yX7_of yX7_of ∈ TBL := TBL_t (tin3 (List.mem_of_getElem? (i := 41) (by decide +kernel))) (by decide +kernel)
theorem w_3_42 : Cond.code yX7_of cX7_of 4 (some .int) ∈ TBL := TBL_t (tin3 (List.mem_of_getElem? (i := 42) (by decide +kernel))) (by decide +kernel)
theorem w_3_40 : Cond.instanceMethod yX7_of ∈ TBL := TBL_t (tin3 (List.mem_of_getElem? (i := 40) (by decide +kernel))) (by decide +kernel)
theorem w_5_44 : Cond.selects yX8_of.cls yX8_of yX8_of ∈ TBL := TBL_t (tin5 (List.mem_of_getElem? (i := 44) (by decide +kernel))) (by decide +kernel)
theorem w_5_45 : Cond.code yX8_of cX8_of 4 (some .int) ∈ TBL := TBL_t (tin5 (List.mem_of_getElem? (i := 45) (by decide +kernel))) (by decide +kernel)
theorem w_5_43 : Cond.instanceMethod yX8_of ∈ TBL := TBL_t (tin5 (List.mem_of_getElem? (i := 43) (by decide +kernel))) (by decide +kernel)
theorem w_3_51 : Cond.selects yX7_plot.cls yX7_plot yX7_plot ∈ TBL := TBL_t (tin3 (List.mem_of_getElem? (i := 51) (by decide +kernel))) (by decide +kernel)
theorem w_3_52 : Cond.code yX7_plot cX7_plot 3 (some .int) ∈ TBL := TBL_t (tin3 (List.mem_of_getElem? (i := 52) (by decide +kernel))) (by decide +kernel)
theorem w_3_50 : Cond.instanceMethod yX7_plot ∈ TBL := TBL_t (tin3 (List.mem_of_getElem? (i := 50) (by decide +kernel))) (by decide +kernel)
theorem w_5_48 : Cond.selects yX8_plot.cls yX8_plot yX8_plot ∈ TBL := TBL_t (tin5 (List.mem_of_getElem? (i := 48) (by decide +kernel))) (by decide +kernel)
theorem w_5_49 : Cond.code yX8_plot cX8_plot 3 (some .int) ∈ TBL := TBL_t (tin5 (List.mem_of_getElem? (i := 49) (by decide +kernel))) (by decide +kernel)
theorem w_5_47 : Cond.instanceMethod yX8_plot ∈ TBL := TBL_t (tin5 (List.mem_of_getElem? (i := 47) (by decide +kernel))) (by decide +kernel)
theorem w_3_64 : Cond.selects yX7_then.cls yX7_then yX7_then ∈ TBL := TBL_t (tin3 (List.mem_of_getElem? (i := 64) (by decide +kernel))) (by decide +kernel)
theorem w_3_65 : Cond.code yX7_then cX7_then 4 (some .int) ∈ TBL := TBL_t (tin3 (List.mem_of_getElem? (i := 65) (by decide +kernel))) (by decide +kernel)
theorem w_3_63 : Cond.instanceMethod yX7_then ∈ TBL := TBL_t (tin3 (List.mem_of_getElem? (i := 63) (by decide +kernel))) (by decide +kernel)
theorem w_5_55 : Cond.selects yX8_then.cls yX8_then yX8_then ∈ TBL := TBL_t (tin5 (List.mem_of_getElem? (i := 55) (by decide +kernel))) (by decide +kernel)
theorem w_5_56 : Cond.code yX8_then cX8_then 3 (some .int) ∈ TBL := TBL_t (tin5 (List.mem_of_getElem? (i := 56) (by decide +kernel))) (by decide +kernel)
theorem w_5_54 : Cond.instanceMethod yX8_then ∈ TBL := TBL_t (tin5 (List.mem_of_getElem? (i := 54) (by decide +kernel))) (by decide +kernel)
theorem w_3_72 : Cond.selects yX7_when.cls yX7_when yX7_when ∈ TBL := TBL_t (tin3 (List.mem_of_getElem? (i := 72) (by decide +kernel))) (by decide +kernel)
theorem w_3_73 : Cond.code yX7_when cX7_when 4 (some .int) ∈ TBL := TBL_t (tin3 (List.mem_of_getElem? (i := 73) (by decide +kernel))) (by decide +kernel)
theorem w_3_71 : Cond.instanceMethod yX7_when ∈ TBL := TBL_t (tin3 (List.mem_of_getElem? (i := 71) (by decide +kernel))) (by decide +kernel)
theorem w_5_63 : Cond.selects yX8_when.cls yX8_when yX8_when ∈ TBL := TBL_t (tin5 (List.mem_of_getElem? (i := 63) (by decide +kernel))) (by decide +kernel)
theorem w_5_64 : Cond.code yX8_when cX8_when 3 (some .int) ∈ TBL := TBL_t (tin5 (List.mem_of_getElem? (i := 64) (by decide +kernel))) (by decide +kernel)
theorem w_5_62 : Cond.instanceMethod yX8_when ∈ TBL := TBL_t (tin5 (List.mem_of_getElem? (i := 62) (by decide +kernel))) (by decide +kernel)
theorem w_3_77 : Cond.selects yX7_fits.cls yX7_fits yX7_fits ∈ TBL := TBL_t (tin3 (List.mem_of_getElem? (i := 77) (by decide +kernel))) (by decide +kernel)
theorem w_3_78 : Cond.code yX7_fits cX7_fits 4 (some .int) ∈ TBL := TBL_t (tin3 (List.mem_of_getElem? (i := 78) (by decide +kernel))) (by decide +kernel)
theorem w_3_76 : Cond.instanceMethod yX7_fits ∈ TBL := TBL_t (tin3 (List.mem_of_getElem? (i := 76) (by decide +kernel))) (by decide +kernel)
theorem w_5_67 : Cond.selects yX8_fits.cls yX8_fits yX8_fits ∈ TBL := TBL_t (tin5 (List.mem_of_getElem? (i := 67) (by decide +kernel))) (by decide +kernel)
theorem w_5_68 : Cond.code yX8_fits cX8_fits 4 (some .int) ∈ TBL := TBL_t (tin5 (List.mem_of_getElem? (i := 68) (by decide +kernel))) (by decide +kernel)
theorem w_5_66 : Cond.instanceMethod yX8_fits ∈ TBL := TBL_t (tin5 (List.mem_of_getElem? (i := 66) (by decide +kernel))) (by decide +kernel)
theorem w_3_82 : Cond.selects yX7_rolls.cls yX7_rolls yX7_rolls ∈ TBL := TBL_t (tin3 (List.mem_of_getElem? (i := 82) (by decide +kernel))) (by decide +kernel)
theorem w_3_83 : Cond.code yX7_rolls cX7_rolls 6 (some .int) ∈ TBL := TBL_t (tin3 (List.mem_of_getElem? (i := 83) (by decide +kernel))) (by decide +kernel)
theorem w_3_81 : Cond.instanceMethod yX7_rolls ∈ TBL := TBL_t (tin3 (List.mem_of_getElem? (i := 81) (by decide +kernel))) (by decide +kernel)
theorem w_5_71 : Cond.selects yX8_rolls.cls yX8_rolls yX8_rolls ∈ TBL := TBL_t (tin5 (List.mem_of_getElem? (i := 71) (by decide +kernel))) (by decide +kernel)
theorem w_5_72 : Cond.code yX8_rolls cX8_rolls 6 (some .int) ∈ TBL := TBL_t (tin5 (List.mem_of_getElem? (i := 72) (by decide +kernel))) (by decide +kernel)
theorem w_5_70 : Cond.instanceMethod yX8_rolls ∈ TBL := TBL_t (tin5 (List.mem_of_getElem? (i := 70) (by decide +kernel))) (by decide +kernel)
theorem w_3_89 : Cond.selects yX7_lies.cls yX7_lies yX7_lies ∈ TBL := TBL_t (tin3 (List.mem_of_getElem? (i := 89) (by decide +kernel))) (by decide +kernel)
theorem w_3_90 : Cond.code yX7_lies cX7_lies 2 (some .int) ∈ TBL := TBL_t (tin3 (List.mem_of_getElem? (i := 90) (by decide +kernel))) (by decide +kernel)
theorem w_3_88 : Cond.instanceMethod yX7_lies ∈ TBL := TBL_t (tin3 (List.mem_of_getElem? (i := 88) (by decide +kernel))) (by decide +kernel)
theorem w_5_75 : Cond.selects yX8_lies.cls yX8_lies yX8_lies ∈ TBL := TBL_t (tin5 (List.mem_of_getElem? (i := 75) (by decide +kernel))) (by decide +kernel)
theorem w_5_76 : Cond.code yX8_lies cX8_lies 5 (some .int) ∈ TBL := TBL_t (tin5 (List.mem_of_getElem? (i := 76) (by decide +kernel))) (by decide +kernel)
theorem w_5_74 : Cond.instanceMethod yX8_lies ∈ TBL := TBL_t (tin5 (List.mem_of_getElem? (i := 74) (by decide +kernel))) (by decide +kernel)
theorem w_3_101 : Cond.selects yX7_pass.cls yX7_pass yX7_pass ∈ TBL := TBL_t (tin3 (List.mem_of_getElem? (i := 101) (by decide +kernel))) (by decide +kernel)
theorem w_3_102 : Cond.code yX7_pass cX7_pass 5 (some .int) ∈ TBL := TBL_t (tin3 (List.mem_of_getElem? (i := 102) (by decide +kernel))) (by decide +kernel)
theorem w_3_100 : Cond.instanceMethod yX7_pass ∈ TBL := TBL_t (tin3 (List.mem_of_getElem? (i := 100) (by decide +kernel))) (by decide +kernel)
theorem w_5_83 : Cond.selects yX8_pass.cls yX8_pass yX8_pass ∈ TBL := TBL_t (tin5 (List.mem_of_getElem? (i := 83) (by decide +kernel))) (by decide +kernel)
theorem w_5_84 : Cond.code yX8_pass cX8_pass 5 (some .int) ∈ TBL := TBL_t (tin5 (List.mem_of_getElem? (i := 84) (by decide +kernel))) (by decide +kernel)
theorem w_5_82 : Cond.instanceMethod yX8_pass ∈ TBL := TBL_t (tin5 (List.mem_of_getElem? (i := 82) (by decide +kernel))) (by decide +kernel)
theorem w_3_110 : Cond.selects yX7_order.cls yX7_order yX7_order ∈ TBL := TBL_t (tin3 (List.mem_of_getElem? (i := 110) (by decide +kernel))) (by decide +kernel)
theorem w_3_111 : Cond.code yX7_order cX7_order 3 (some .int) ∈ TBL := TBL_t (tin3 (List.mem_of_getElem? (i := 111) (by decide +kernel))) (by decide +kernel)
theorem w_3_109 : Cond.instanceMethod yX7_order ∈ TBL := TBL_t (tin3 (List.mem_of_getElem? (i := 109) (by decide +kernel))) (by decide +kernel)
theorem w_5_87 : Cond.selects yX8_order.cls yX8_order yX8_order ∈ TBL := TBL_t (tin5 (List.mem_of_getElem? (i := 87) (by decide +kernel))) (by decide +kernel)
theorem w_5_88 : Cond.code yX8_order cX8_order 7 (some .int) ∈ TBL := TBL_t (tin5 (List.mem_of_getElem? (i := 88) (by decide +kernel))) (by decide +kernel)
theorem w_5_86 : Cond.instanceMethod yX8_order ∈ TBL := TBL_t (tin5 (List.mem_of_getElem? (i := 86) (by decide +kernel))) (by decide +kernel)
theorem w_3_140 : Cond.selects yX7_council.cls yX7_council yX7_council ∈ TBL := TBL_t (tin3 (List.mem_of_getElem? (i := 140) (by decide +kernel))) (by decide +kernel)
theorem w_3_141 : Cond.code yX7_council cX7_council 3 (some .int) ∈ TBL := TBL_t (tin3 (List.mem_of_getElem? (i := 141) (by decide +kernel))) (by decide +kernel)
theorem w_3_139 : Cond.instanceMethod yX7_council ∈ TBL := TBL_t (tin3 (List.mem_of_getElem? (i := 139) (by decide +kernel))) (by decide +kernel)
theorem w_5_105 : Cond.selects yX8_council.cls yX8_council yX8_council ∈ TBL := TBL_t (tin5 (List.mem_of_getElem? (i := 105) (by decide +kernel))) (by decide +kernel)
theorem w_5_106 : Cond.code yX8_council cX8_council 3 (some .int) ∈ TBL := TBL_t (tin5 (List.mem_of_getElem? (i := 106) (by decide +kernel))) (by decide +kernel)
theorem w_5_104 : Cond.instanceMethod yX8_council ∈ TBL := TBL_t (tin5 (List.mem_of_getElem? (i := 104) (by decide +kernel))) (by decide +kernel)
theorem w_3_158 : Cond.selects yX7_power.cls yX7_power yX7_power ∈ TBL := TBL_t (tin3 (List.mem_of_getElem? (i := 158) (by decide +kernel))) (by decide +kernel)
theorem w_3_159 : Cond.code yX7_power cX7_power 5 (some .int) ∈ TBL := TBL_t (tin3 (List.mem_of_getElem? (i := 159) (by decide +kernel))) (by decide +kernel)
theorem w_3_157 : Cond.instanceMethod yX7_power ∈ TBL := TBL_t (tin3 (List.mem_of_getElem? (i := 157) (by decide +kernel))) (by decide +kernel)
theorem w_5_120 : Cond.selects yX8_power.cls yX8_power yX8_power ∈ TBL := TBL_t (tin5 (List.mem_of_getElem? (i := 120) (by decide +kernel))) (by decide +kernel)
theorem w_5_121 : Cond.code yX8_power cX8_power 5 (some .int) ∈ TBL := TBL_t (tin5 (List.mem_of_getElem? (i := 121) (by decide +kernel))) (by decide +kernel)
theorem w_5_119 : Cond.instanceMethod yX8_power ∈ TBL := TBL_t (tin5 (List.mem_of_getElem? (i := 119) (by decide +kernel))) (by decide +kernel)
theorem w_3_162 : Cond.selects yX7_built.cls yX7_built yX7_built ∈ TBL := TBL_t (tin3 (List.mem_of_getElem? (i := 162) (by decide +kernel))) (by decide +kernel)
theorem w_3_163 : Cond.code yX7_built cX7_built 6 (some .int) ∈ TBL := TBL_t (tin3 (List.mem_of_getElem? (i := 163) (by decide +kernel))) (by decide +kernel)
theorem w_3_161 : Cond.instanceMethod yX7_built ∈ TBL := TBL_t (tin3 (List.mem_of_getElem? (i := 161) (by decide +kernel))) (by decide +kernel)
theorem w_5_124 : Cond.selects yX8_built.cls yX8_built yX8_built ∈ TBL := TBL_t (tin5 (List.mem_of_getElem? (i := 124) (by decide +kernel))) (by decide +kernel)
theorem w_5_125 : Cond.code yX8_built cX8_built 6 (some .int) ∈ TBL := TBL_t (tin5 (List.mem_of_getElem? (i := 125) (by decide +kernel))) (by decide +kernel)
theorem w_5_123 : Cond.instanceMethod yX8_built ∈ TBL := TBL_t (tin5 (List.mem_of_getElem? (i := 123) (by decide +kernel))) (by decide +kernel)
theorem w_3_167 : Cond.selects yX7_note.cls yX7_note yX7_note ∈ TBL := TBL_t (tin3 (List.mem_of_getElem? (i := 167) (by decide +kernel))) (by decide +kernel)
theorem w_3_168 : Cond.code yX7_note cX7_note 6 (some .int) ∈ TBL := TBL_t (tin3 (List.mem_of_getElem? (i := 168) (by decide +kernel))) (by decide +kernel)
theorem w_3_166 : Cond.instanceMethod yX7_note ∈ TBL := TBL_t (tin3 (List.mem_of_getElem? (i := 166) (by decide +kernel))) (by decide +kernel)
theorem w_5_128 : Cond.selects yX8_note.cls yX8_note yX8_note ∈ TBL := TBL_t (tin5 (List.mem_of_getElem? (i := 128) (by decide +kernel))) (by decide +kernel)
theorem w_5_129 : Cond.code yX8_note cX8_note 6 (some .int) ∈ TBL := TBL_t (tin5 (List.mem_of_getElem? (i := 129) (by decide +kernel))) (by decide +kernel)
theorem w_5_127 : Cond.instanceMethod yX8_note ∈ TBL := TBL_t (tin5 (List.mem_of_getElem? (i := 127) (by decide +kernel))) (by decide +kernel)
theorem w_3_171 : Cond.selects yX7_mark.cls yX7_mark yX7_mark ∈ TBL := TBL_t (tin3 (List.mem_of_getElem? (i := 171) (by decide +kernel))) (by decide +kernel)
theorem w_3_172 : Cond.code yX7_mark cX7_mark 8 (some .int) ∈ TBL := TBL_t (tin3 (List.mem_of_getElem? (i := 172) (by decide +kernel))) (by decide +kernel)
theorem w_3_170 : Cond.instanceMethod yX7_mark ∈ TBL := TBL_t (tin3 (List.mem_of_getElem? (i := 170) (by decide +kernel))) (by decide +kernel)
theorem w_5_132 : Cond.selects yX8_mark.cls yX8_mark yX8_mark ∈ TBL := TBL_t (tin5 (List.mem_of_getElem? (i := 132) (by decide +kernel))) (by decide +kernel)
theorem w_5_133 : Cond.code yX8_mark cX8_mark 7 (some .int) ∈ TBL := TBL_t (tin5 (List.mem_of_getElem? (i := 133) (by decide +kernel))) (by decide +kernel)
theorem w_5_131 : Cond.instanceMethod yX8_mark ∈ TBL := TBL_t (tin5 (List.mem_of_getElem? (i := 131) (by decide +kernel))) (by decide +kernel)
theorem w_3_178 : Cond.selects yX7_forget.cls yX7_forget yX7_forget ∈ TBL := TBL_t (tin3 (List.mem_of_getElem? (i := 178) (by decide +kernel))) (by decide +kernel)
theorem w_3_179 : Cond.code yX7_forget cX7_forget 3 (some .int) ∈ TBL := TBL_t (tin3 (List.mem_of_getElem? (i := 179) (by decide +kernel))) (by decide +kernel)
theorem w_3_177 : Cond.instanceMethod yX7_forget ∈ TBL := TBL_t (tin3 (List.mem_of_getElem? (i := 177) (by decide +kernel))) (by decide +kernel)
theorem w_5_136 : Cond.selects yX8_forget.cls yX8_forget yX8_forget ∈ TBL := TBL_t (tin5 (List.mem_of_getElem? (i := 136) (by decide +kernel))) (by decide +kernel)
theorem w_5_137 : Cond.code yX8_forget cX8_forget 4 (some .int) ∈ TBL := TBL_t (tin5 (List.mem_of_getElem? (i := 137) (by decide +kernel))) (by decide +kernel)
theorem w_5_135 : Cond.instanceMethod yX8_forget ∈ TBL := TBL_t (tin5 (List.mem_of_getElem? (i := 135) (by decide +kernel))) (by decide +kernel)
theorem w_3_190 : Cond.selects yX7_watch.cls yX7_watch yX7_watch ∈ TBL := TBL_t (tin3 (List.mem_of_getElem? (i := 190) (by decide +kernel))) (by decide +kernel)
theorem w_3_191 : Cond.code yX7_watch cX7_watch 7 (some .int) ∈ TBL := TBL_t (tin3 (List.mem_of_getElem? (i := 191) (by decide +kernel))) (by decide +kernel)
theorem w_3_189 : Cond.instanceMethod yX7_watch ∈ TBL := TBL_t (tin3 (List.mem_of_getElem? (i := 189) (by decide +kernel))) (by decide +kernel)
theorem w_5_144 : Cond.selects yX8_watch.cls yX8_watch yX8_watch ∈ TBL := TBL_t (tin5 (List.mem_of_getElem? (i := 144) (by decide +kernel))) (by decide +kernel)
theorem w_5_145 : Cond.code yX8_watch cX8_watch 7 (some .int) ∈ TBL := TBL_t (tin5 (List.mem_of_getElem? (i := 145) (by decide +kernel))) (by decide +kernel)
theorem w_5_143 : Cond.instanceMethod yX8_watch ∈ TBL := TBL_t (tin5 (List.mem_of_getElem? (i := 143) (by decide +kernel))) (by decide +kernel)
theorem w_5_156 : Cond.selects yX8_kinds.cls yX8_kinds yX8_kinds ∈ TBL := TBL_t (tin5 (List.mem_of_getElem? (i := 156) (by decide +kernel))) (by decide +kernel)
theorem w_5_157 : Cond.code yX8_kinds cX8_kinds 2 (some .int) ∈ TBL := TBL_t (tin5 (List.mem_of_getElem? (i := 157) (by decide +kernel))) (by decide +kernel)
theorem w_5_155 : Cond.instanceMethod yX8_kinds ∈ TBL := TBL_t (tin5 (List.mem_of_getElem? (i := 155) (by decide +kernel))) (by decide +kernel)
theorem w_3_209 : Cond.selects yX7_tries.cls yX7_tries yX7_tries ∈ TBL := TBL_t (tin3 (List.mem_of_getElem? (i := 209) (by decide +kernel))) (by decide +kernel)
theorem w_3_210 : Cond.code yX7_tries cX7_tries 8 (some .int) ∈ TBL := TBL_t (tin3 (List.mem_of_getElem? (i := 210) (by decide +kernel))) (by decide +kernel)
theorem w_3_208 : Cond.instanceMethod yX7_tries ∈ TBL := TBL_t (tin3 (List.mem_of_getElem? (i := 208) (by decide +kernel))) (by decide +kernel)
theorem w_5_164 : Cond.selects yX8_tries.cls yX8_tries yX8_tries ∈ TBL := TBL_t (tin5 (List.mem_of_getElem? (i := 164) (by decide +kernel))) (by decide +kernel)
theorem w_5_165 : Cond.code yX8_tries cX8_tries 9 (some .int) ∈ TBL := TBL_t (tin5 (List.mem_of_getElem? (i := 165) (by decide +kernel))) (by decide +kernel)
theorem w_5_163 : Cond.instanceMethod yX8_tries ∈ TBL := TBL_t (tin5 (List.mem_of_getElem? (i := 163) (by decide +kernel))) (by decide +kernel)
theorem w_3_218 : Cond.selects yX7_game.cls yX7_game yX7_game ∈ TBL := TBL_t (tin3 (List.mem_of_getElem? (i := 218) (by decide +kernel))) (by decide +kernel)
theorem w_3_219 : Cond.code yX7_game cX7_game 5 (some .int) ∈ TBL := TBL_t (tin3 (List.mem_of_getElem? (i := 219) (by decide +kernel))) (by decide +kernel)
theorem w_3_217 : Cond.instanceMethod yX7_game ∈ TBL := TBL_t (tin3 (List.mem_of_getElem? (i := 217) (by decide +kernel))) (by decide +kernel)
theorem w_5_168 : Cond.selects yX8_game.cls yX8_game yX8_game ∈ TBL := TBL_t (tin5 (List.mem_of_getElem? (i := 168) (by decide +kernel))) (by decide +kernel)
theorem w_5_169 : Cond.code yX8_game cX8_game 7 (some .int) ∈ TBL := TBL_t (tin5 (List.mem_of_getElem? (i := 169) (by decide +kernel))) (by decide +kernel)
theorem w_5_167 : Cond.instanceMethod yX8_game ∈ TBL := TBL_t (tin5 (List.mem_of_getElem? (i := 167) (by decide +kernel))) (by decide +kernel)
theorem w_3_234 : Cond.selects yX7_chance.cls yX7_chance yX7_chance ∈ TBL := TBL_t (tin3 (List.mem_of_getElem? (i := 234) (by decide +kernel))) (by decide +kernel)
theorem w_3_235 : Cond.code yX7_chance cX7_chance 8 (some .int) ∈ TBL := TBL_t (tin3 (List.mem_of_getElem? (i := 235) (by decide +kernel))) (by decide +kernel)
theorem w_3_233 : Cond.instanceMethod yX7_chance ∈ TBL := TBL_t (tin3 (List.mem_of_getElem? (i := 233) (by decide +kernel))) (by decide +kernel)
theorem w_5_176 : Cond.selects yX8_chance.cls yX8_chance yX8_chance ∈ TBL := TBL_t (tin5 (List.mem_of_getElem? (i := 176) (by decide +kernel))) (by decide +kernel)
theorem w_5_177 : Cond.code yX8_chance cX8_chance 14 (some .int) ∈ TBL := TBL_t (tin5 (List.mem_of_getElem? (i := 177) (by decide +kernel))) (by decide +kernel)
theorem w_5_175 : Cond.instanceMethod yX8_chance ∈ TBL := TBL_t (tin5 (List.mem_of_getElem? (i := 175) (by decide +kernel))) (by decide +kernel)
theorem w_4_14 : Cond.selects yX7_times.cls yX7_times yX7_times ∈ TBL := TBL_t (tin4 (List.mem_of_getElem? (i := 14) (by decide +kernel))) (by decide +kernel)
theorem w_4_15 : Cond.code yX7_times cX7_times 9 (some .int) ∈ TBL := TBL_t (tin4 (List.mem_of_getElem? (i := 15) (by decide +kernel))) (by decide +kernel)
theorem w_4_13 : Cond.instanceMethod yX7_times ∈ TBL := TBL_t (tin4 (List.mem_of_getElem? (i := 13) (by decide +kernel))) (by decide +kernel)
theorem w_5_181 : Cond.selects yX8_times.cls yX8_times yX8_times ∈ TBL := TBL_t (tin5 (List.mem_of_getElem? (i := 181) (by decide +kernel))) (by decide +kernel)
theorem w_5_182 : Cond.code yX8_times cX8_times 8 (some .int) ∈ TBL := TBL_t (tin5 (List.mem_of_getElem? (i := 182) (by decide +kernel))) (by decide +kernel)
theorem w_5_180 : Cond.instanceMethod yX8_times ∈ TBL := TBL_t (tin5 (List.mem_of_getElem? (i := 180) (by decide +kernel))) (by decide +kernel)
theorem w_4_24 : Cond.selects yX7_part.cls yX7_part yX7_part ∈ TBL := TBL_t (tin4 (List.mem_of_getElem? (i := 24) (by decide +kernel))) (by decide +kernel)
theorem w_4_25 : Cond.code yX7_part cX7_part 2 (some .long) ∈ TBL := TBL_t (tin4 (List.mem_of_getElem? (i := 25) (by decide +kernel))) (by decide +kernel)
theorem w_4_23 : Cond.instanceMethod yX7_part ∈ TBL := TBL_t (tin4 (List.mem_of_getElem? (i := 23) (by decide +kernel))) (by decide +kernel)
theorem w_5_191 : Cond.selects yX8_part.cls yX8_part yX8_part ∈ TBL := TBL_t (tin5 (List.mem_of_getElem? (i := 191) (by decide +kernel))) (by decide +kernel)
theorem w_5_192 : Cond.code yX8_part cX8_part 2 (some .long) ∈ TBL := TBL_t (tin5 (List.mem_of_getElem? (i := 192) (by decide +kernel))) (by decide +kernel)
theorem w_5_190 : Cond.instanceMethod yX8_part ∈ TBL := TBL_t (tin5 (List.mem_of_getElem? (i := 190) (by decide +kernel))) (by decide +kernel)
theorem w_4_28 : Cond.selects yX7_image.cls yX7_image yX7_image ∈ TBL := TBL_t (tin4 (List.mem_of_getElem? (i := 28) (by decide +kernel))) (by decide +kernel)
theorem w_4_29 : Cond.code yX7_image cX7_image 3 (some .int) ∈ TBL := TBL_t (tin4 (List.mem_of_getElem? (i := 29) (by decide +kernel))) (by decide +kernel)
theorem w_4_27 : Cond.instanceMethod yX7_image ∈ TBL := TBL_t (tin4 (List.mem_of_getElem? (i := 27) (by decide +kernel))) (by decide +kernel)
theorem w_5_195 : Cond.selects yX8_image.cls yX8_image yX8_image ∈ TBL := TBL_t (tin5 (List.mem_of_getElem? (i := 195) (by decide +kernel))) (by decide +kernel)
theorem w_5_196 : Cond.code yX8_image cX8_image 2 (some .int) ∈ TBL := TBL_t (tin5 (List.mem_of_getElem? (i := 196) (by decide +kernel))) (by decide +kernel)
theorem w_5_194 : Cond.instanceMethod yX8_image ∈ TBL := TBL_t (tin5 (List.mem_of_getElem? (i := 194) (by decide +kernel))) (by decide +kernel)
theorem w_4_36 : Cond.selects yX7_from.cls yX7_from yX7_from ∈ TBL := TBL_t (tin4 (List.mem_of_getElem? (i := 36) (by decide +kernel))) (by decide +kernel)
theorem w_4_37 : Cond.code yX7_from cX7_from 3 (some .int) ∈ TBL := TBL_t (tin4 (List.mem_of_getElem? (i := 37) (by decide +kernel))) (by decide +kernel)
theorem w_4_35 : Cond.instanceMethod yX7_from ∈ TBL := TBL_t (tin4 (List.mem_of_getElem? (i := 35) (by decide +kernel))) (by decide +kernel)
theorem w_5_199 : Cond.selects yX8_from.cls yX8_from yX8_from ∈ TBL := TBL_t (tin5 (List.mem_of_getElem? (i := 199) (by decide +kernel))) (by decide +kernel)
theorem w_5_200 : Cond.code yX8_from cX8_from 2 (some .int) ∈ TBL := TBL_t (tin5 (List.mem_of_getElem? (i := 200) (by decide +kernel))) (by decide +kernel)
theorem w_5_198 : Cond.instanceMethod yX8_from ∈ TBL := TBL_t (tin5 (List.mem_of_getElem? (i := 198) (by decide +kernel))) (by decide +kernel)
theorem w_4_40 : Cond.selects yX7_status.cls yX7_status yX7_status ∈ TBL := TBL_t (tin4 (List.mem_of_getElem? (i := 40) (by decide +kernel))) (by decide +kernel)
theorem w_4_41 : Cond.code yX7_status cX7_status 2 (some .int) ∈ TBL := TBL_t (tin4 (List.mem_of_getElem? (i := 41) (by decide +kernel))) (by decide +kernel)
theorem w_4_39 : Cond.instanceMethod yX7_status ∈ TBL := TBL_t (tin4 (List.mem_of_getElem? (i := 39) (by decide +kernel))) (by decide +kernel)
theorem w_5_203 : Cond.selects yX8_status.cls yX8_status yX8_status ∈ TBL := TBL_t (tin5 (List.mem_of_getElem? (i := 203) (by decide +kernel))) (by decide +kernel)
theorem w_5_204 : Cond.code yX8_status cX8_status 2 (some .int) ∈ TBL := TBL_t (tin5 (List.mem_of_getElem? (i := 204) (by decide +kernel))) (by decide +kernel)
theorem w_5_202 : Cond.instanceMethod yX8_status ∈ TBL := TBL_t (tin5 (List.mem_of_getElem? (i := 202) (by decide +kernel))) (by decide +kernel)
theorem w_5_207 : Cond.selects yX8_count.cls yX8_count yX8_count ∈ TBL := TBL_t (tin5 (List.mem_of_getElem? (i := 207) (by decide +kernel))) (by decide +kernel)
theorem w_5_208 : Cond.code yX8_count cX8_count 2 (some .int) ∈ TBL := TBL_t (tin5 (List.mem_of_getElem? (i := 208) (by decide +kernel))) (by decide +kernel)
theorem w_5_206 : Cond.instanceMethod yX8_count ∈ TBL := TBL_t (tin5 (List.mem_of_getElem? (i := 206) (by decide +kernel))) (by decide +kernel)
theorem w_4_48 : Cond.selects yX7_digest.cls yX7_digest yX7_digest ∈ TBL := TBL_t (tin4 (List.mem_of_getElem? (i := 48) (by decide +kernel))) (by decide +kernel)
theorem w_4_49 : Cond.code yX7_digest cX7_digest 4 (some .long) ∈ TBL := TBL_t (tin4 (List.mem_of_getElem? (i := 49) (by decide +kernel))) (by decide +kernel)
theorem w_4_47 : Cond.instanceMethod yX7_digest ∈ TBL := TBL_t (tin4 (List.mem_of_getElem? (i := 47) (by decide +kernel))) (by decide +kernel)
theorem w_5_215 : Cond.selects yX8_digest.cls yX8_digest yX8_digest ∈ TBL := TBL_t (tin5 (List.mem_of_getElem? (i := 215) (by decide +kernel))) (by decide +kernel)
theorem w_5_216 : Cond.code yX8_digest cX8_digest 5 (some .long) ∈ TBL := TBL_t (tin5 (List.mem_of_getElem? (i := 216) (by decide +kernel))) (by decide +kernel)
theorem w_5_214 : Cond.instanceMethod yX8_digest ∈ TBL := TBL_t (tin5 (List.mem_of_getElem? (i := 214) (by decide +kernel))) (by decide +kernel)
theorem B_X7_town : cV yX7_town cX7_town 3 (some .int) 1 := ⟨w_1_227, w_1_225, w_1_226, w_1_1, by decide +kernel⟩
theorem B_X8_town : cV yX8_town cX8_town 3 (some .int) 1 := ⟨w_4_121, w_4_119, w_4_120, w_1_6, by decide +kernel⟩
theorem B_X7_pull : cV yX7_pull cX7_pull 4 (some .int) 2 := ⟨w_2_24, w_2_22, w_2_23, w_1_1, by decide +kernel⟩
theorem B_X8_pull : cV yX8_pull cX8_pull 4 (some .int) 2 := ⟨w_4_141, w_4_139, w_4_140, w_1_6, by decide +kernel⟩
theorem B_X7_member : cV yX7_member cX7_member 3 (some .int) 1 := ⟨w_2_35, w_2_33, w_2_34, w_1_1, by decide +kernel⟩
theorem B_X8_member : cV yX8_member cX8_member 2 (some .int) 1 := ⟨w_4_155, w_4_153, w_4_154, w_1_6, by decide +kernel⟩
theorem B_X7_type : cV yX7_type cX7_type 2 (some .int) 1 := ⟨w_2_43, w_2_41, w_2_42, w_1_1, by decide +kernel⟩
theorem B_X8_type : cV yX8_type cX8_type 2 (some .int) 1 := ⟨w_4_163, w_4_161, w_4_162, w_1_6, by decide +kernel⟩
theorem B_X7_clear : cV yX7_clear cX7_clear 2 (some .int) 0 := ⟨w_2_47, w_2_45, w_2_46, w_1_1, by decide +kernel⟩
theorem B_X8_clear : cV yX8_clear cX8_clear 2 (some .int) 0 := ⟨w_4_167, w_4_165, w_4_166, w_1_6, by decide +kernel⟩
theorem B_X7_read : cV yX7_read cX7_read 2 (some .int) 0 := ⟨w_2_51, w_2_49, w_2_50, w_1_1, by decide +kernel⟩
theorem B_X8_read : cV yX8_read cX8_read 3 (some .int) 0 := ⟨w_4_171, w_4_169, w_4_170, w_1_6, by decide +kernel⟩
theorem B_X7_build : cV yX7_build cX7_build 4 (some .int) 3 := ⟨w_2_236, w_2_234, w_2_235, w_1_1, by decide +kernel⟩
theorem B_X8_build : cV yX8_build cX8_build 4 (some .int) 3 := ⟨w_5_21, w_5_19, w_5_20, w_1_6, by decide +kernel⟩
theorem B_X7_year : cV yX7_year cX7_year 2 (some .int) 1 := ⟨w_3_20, w_3_18, w_3_19, w_1_1, by decide +kernel⟩
theorem B_X8_year : cV yX8_year cX8_year 3 (some .int) 1 := ⟨w_5_29, w_5_27, w_5_28, w_1_6, by decide +kernel⟩
theorem B_X7_undo : cV yX7_undo cX7_undo 1 (some .int) 0 := ⟨w_3_25, w_3_23, w_3_24, w_1_1, by decide +kernel⟩
theorem B_X8_undo : cV yX8_undo cX8_undo 1 (some .int) 0 := ⟨w_5_33, w_5_31, w_5_32, w_1_6, by decide +kernel⟩
theorem B_X7_now : cV yX7_now cX7_now 2 (some .int) 1 := ⟨w_3_37, w_3_35, w_3_36, w_1_1, by decide +kernel⟩
theorem B_X8_now : cV yX8_now cX8_now 2 (some .int) 1 := ⟨w_5_41, w_5_39, w_5_40, w_1_6, by decide +kernel⟩
theorem B_X7_of : cV yX7_of cX7_of 4 (some .int) 3 := ⟨w_3_42, w_3_40, w_3_41, w_1_1, by decide +kernel⟩
theorem B_X8_of : cV yX8_of cX8_of 4 (some .int) 3 := ⟨w_5_45, w_5_43, w_5_44, w_1_6, by decide +kernel⟩
theorem B_X7_plot : cV yX7_plot cX7_plot 3 (some .int) 2 := ⟨w_3_52, w_3_50, w_3_51, w_1_1, by decide +kernel⟩
theorem B_X8_plot : cV yX8_plot cX8_plot 3 (some .int) 2 := ⟨w_5_49, w_5_47, w_5_48, w_1_6, by decide +kernel⟩
theorem B_X7_then : cV yX7_then cX7_then 4 (some .int) 1 := ⟨w_3_65, w_3_63, w_3_64, w_1_1, by decide +kernel⟩
theorem B_X8_then : cV yX8_then cX8_then 3 (some .int) 1 := ⟨w_5_56, w_5_54, w_5_55, w_1_6, by decide +kernel⟩
theorem B_X7_when : cV yX7_when cX7_when 4 (some .int) 1 := ⟨w_3_73, w_3_71, w_3_72, w_1_1, by decide +kernel⟩
theorem B_X8_when : cV yX8_when cX8_when 3 (some .int) 1 := ⟨w_5_64, w_5_62, w_5_63, w_1_6, by decide +kernel⟩
theorem B_X7_fits : cV yX7_fits cX7_fits 4 (some .int) 3 := ⟨w_3_78, w_3_76, w_3_77, w_1_1, by decide +kernel⟩
theorem B_X8_fits : cV yX8_fits cX8_fits 4 (some .int) 3 := ⟨w_5_68, w_5_66, w_5_67, w_1_6, by decide +kernel⟩
theorem B_X7_rolls : cV yX7_rolls cX7_rolls 6 (some .int) 1 := ⟨w_3_83, w_3_81, w_3_82, w_1_1, by decide +kernel⟩
theorem B_X8_rolls : cV yX8_rolls cX8_rolls 6 (some .int) 1 := ⟨w_5_72, w_5_70, w_5_71, w_1_6, by decide +kernel⟩
theorem B_X7_lies : cV yX7_lies cX7_lies 2 (some .int) 1 := ⟨w_3_90, w_3_88, w_3_89, w_1_1, by decide +kernel⟩
theorem B_X8_lies : cV yX8_lies cX8_lies 5 (some .int) 1 := ⟨w_5_76, w_5_74, w_5_75, w_1_6, by decide +kernel⟩
theorem B_X7_pass : cV yX7_pass cX7_pass 5 (some .int) 2 := ⟨w_3_102, w_3_100, w_3_101, w_1_1, by decide +kernel⟩
theorem B_X8_pass : cV yX8_pass cX8_pass 5 (some .int) 2 := ⟨w_5_84, w_5_82, w_5_83, w_1_6, by decide +kernel⟩
theorem B_X7_order : cV yX7_order cX7_order 3 (some .int) 2 := ⟨w_3_111, w_3_109, w_3_110, w_1_1, by decide +kernel⟩
theorem B_X8_order : cV yX8_order cX8_order 7 (some .int) 2 := ⟨w_5_88, w_5_86, w_5_87, w_1_6, by decide +kernel⟩
theorem B_X7_council : cV yX7_council cX7_council 3 (some .int) 1 := ⟨w_3_141, w_3_139, w_3_140, w_1_1, by decide +kernel⟩
theorem B_X8_council : cV yX8_council cX8_council 3 (some .int) 1 := ⟨w_5_106, w_5_104, w_5_105, w_1_6, by decide +kernel⟩
theorem B_X7_power : cV yX7_power cX7_power 5 (some .int) 1 := ⟨w_3_159, w_3_157, w_3_158, w_1_1, by decide +kernel⟩
theorem B_X8_power : cV yX8_power cX8_power 5 (some .int) 1 := ⟨w_5_121, w_5_119, w_5_120, w_1_6, by decide +kernel⟩
theorem B_X7_built : cV yX7_built cX7_built 6 (some .int) 2 := ⟨w_3_163, w_3_161, w_3_162, w_1_1, by decide +kernel⟩
theorem B_X8_built : cV yX8_built cX8_built 6 (some .int) 2 := ⟨w_5_125, w_5_123, w_5_124, w_1_6, by decide +kernel⟩
theorem B_X7_note : cV yX7_note cX7_note 6 (some .int) 4 := ⟨w_3_168, w_3_166, w_3_167, w_1_1, by decide +kernel⟩
theorem B_X8_note : cV yX8_note cX8_note 6 (some .int) 4 := ⟨w_5_129, w_5_127, w_5_128, w_1_6, by decide +kernel⟩
theorem B_X7_mark : cV yX7_mark cX7_mark 8 (some .int) 5 := ⟨w_3_172, w_3_170, w_3_171, w_1_1, by decide +kernel⟩
theorem B_X8_mark : cV yX8_mark cX8_mark 7 (some .int) 5 := ⟨w_5_133, w_5_131, w_5_132, w_1_6, by decide +kernel⟩
theorem B_X7_forget : cV yX7_forget cX7_forget 3 (some .int) 1 := ⟨w_3_179, w_3_177, w_3_178, w_1_1, by decide +kernel⟩
theorem B_X8_forget : cV yX8_forget cX8_forget 4 (some .int) 1 := ⟨w_5_137, w_5_135, w_5_136, w_1_6, by decide +kernel⟩
theorem B_X7_watch : cV yX7_watch cX7_watch 7 (some .int) 0 := ⟨w_3_191, w_3_189, w_3_190, w_1_1, by decide +kernel⟩
theorem B_X8_watch : cV yX8_watch cX8_watch 7 (some .int) 0 := ⟨w_5_145, w_5_143, w_5_144, w_1_6, by decide +kernel⟩
theorem B_X8_kinds : cV yX8_kinds cX8_kinds 2 (some .int) 1 := ⟨w_5_157, w_5_155, w_5_156, w_1_6, by decide +kernel⟩
theorem B_X7_tries : cV yX7_tries cX7_tries 8 (some .int) 1 := ⟨w_3_210, w_3_208, w_3_209, w_1_1, by decide +kernel⟩
theorem B_X8_tries : cV yX8_tries cX8_tries 9 (some .int) 1 := ⟨w_5_165, w_5_163, w_5_164, w_1_6, by decide +kernel⟩
theorem B_X7_game : cV yX7_game cX7_game 5 (some .int) 0 := ⟨w_3_219, w_3_217, w_3_218, w_1_1, by decide +kernel⟩
theorem B_X8_game : cV yX8_game cX8_game 7 (some .int) 0 := ⟨w_5_169, w_5_167, w_5_168, w_1_6, by decide +kernel⟩
theorem B_X7_chance : cV yX7_chance cX7_chance 8 (some .int) 3 := ⟨w_3_235, w_3_233, w_3_234, w_1_1, by decide +kernel⟩
theorem B_X8_chance : cV yX8_chance cX8_chance 14 (some .int) 3 := ⟨w_5_177, w_5_175, w_5_176, w_1_6, by decide +kernel⟩
theorem B_X7_times : cV yX7_times cX7_times 9 (some .int) 2 := ⟨w_4_15, w_4_13, w_4_14, w_1_1, by decide +kernel⟩
theorem B_X8_times : cV yX8_times cX8_times 8 (some .int) 2 := ⟨w_5_182, w_5_180, w_5_181, w_1_6, by decide +kernel⟩
theorem B_X7_part : cV yX7_part cX7_part 2 (some .long) 1 := ⟨w_4_25, w_4_23, w_4_24, w_1_1, by decide +kernel⟩
theorem B_X8_part : cV yX8_part cX8_part 2 (some .long) 1 := ⟨w_5_192, w_5_190, w_5_191, w_1_6, by decide +kernel⟩
theorem B_X7_image : cV yX7_image cX7_image 3 (some .int) 1 := ⟨w_4_29, w_4_27, w_4_28, w_1_1, by decide +kernel⟩
theorem B_X8_image : cV yX8_image cX8_image 2 (some .int) 1 := ⟨w_5_196, w_5_194, w_5_195, w_1_6, by decide +kernel⟩
theorem B_X7_from : cV yX7_from cX7_from 3 (some .int) 1 := ⟨w_4_37, w_4_35, w_4_36, w_1_1, by decide +kernel⟩
theorem B_X8_from : cV yX8_from cX8_from 2 (some .int) 1 := ⟨w_5_200, w_5_198, w_5_199, w_1_6, by decide +kernel⟩
theorem B_X7_status : cV yX7_status cX7_status 2 (some .int) 1 := ⟨w_4_41, w_4_39, w_4_40, w_1_1, by decide +kernel⟩
theorem B_X8_status : cV yX8_status cX8_status 2 (some .int) 1 := ⟨w_5_204, w_5_202, w_5_203, w_1_6, by decide +kernel⟩
theorem B_X8_count : cV yX8_count cX8_count 2 (some .int) 1 := ⟨w_5_208, w_5_206, w_5_207, w_1_6, by decide +kernel⟩
theorem B_X7_digest : cV yX7_digest cX7_digest 4 (some .long) 0 := ⟨w_4_49, w_4_47, w_4_48, w_1_1, by decide +kernel⟩
theorem B_X8_digest : cV yX8_digest cX8_digest 5 (some .long) 0 := ⟨w_5_216, w_5_214, w_5_215, w_1_6, by decide +kernel⟩
theorem dL_law_0 : decode cL_law 0 = .ok (.new 7, 3) := by decide +kernel
theorem dL_law_3 : decode cL_law 3 = .ok (.dup, 1) := by decide +kernel
theorem dL_law_4 : decode cL_law 4 = .ok (.invokespecial 9, 3) := by decide +kernel
theorem dL_law_7 : decode cL_law 7 = .ok (.astore_n 1, 1) := by decide +kernel
theorem dL_law_8 : decode cL_law 8 = .ok (.new 10, 3) := by decide +kernel
theorem dL_law_11 : decode cL_law 11 = .ok (.dup, 1) := by decide +kernel
theorem dL_law_12 : decode cL_law 12 = .ok (.invokespecial 12, 3) := by decide +kernel
theorem dL_law_15 : decode cL_law 15 = .ok (.astore_n 2, 1) := by decide +kernel
theorem dL_law_16 : decode cL_law 16 = .ok (.iconst 0, 1) := by decide +kernel
theorem dL_law_17 : decode cL_law 17 = .ok (.istore_n 3, 1) := by decide +kernel
theorem dL_law_18 : decode cL_law 18 = .ok (.iload_n 3, 1) := by decide +kernel
theorem dL_law_19 : decode cL_law 19 = .ok (.aload_n 0, 1) := by decide +kernel
theorem dL_law_20 : decode cL_law 20 = .ok (.arraylength, 1) := by decide +kernel
theorem dL_law_21 : decode cL_law 21 = .ok (.bipush 6, 2) := by decide +kernel
theorem dL_law_23 : decode cL_law 23 = .ok (.isub, 1) := by decide +kernel
theorem dL_law_24 : decode cL_law 24 = .ok (.if_icmp .gt 1198, 3) := by decide +kernel
theorem dL_law_27 : decode cL_law 27 = .ok (.aload_n 0, 1) := by decide +kernel
theorem dL_law_28 : decode cL_law 28 = .ok (.iload_n 3, 1) := by decide +kernel
theorem dL_law_29 : decode cL_law 29 = .ok (.iaload, 1) := by decide +kernel
theorem dL_law_30 : decode cL_law 30 = .ok (.bipush 63, 2) := by decide +kernel
theorem dL_law_32 : decode cL_law 32 = .ok (.iand, 1) := by decide +kernel
theorem dL_law_33 : decode cL_law 33 = .ok (.tableswitch 1183 0 37 #[167, 190, 223, 246, 269, 282, 295, 338, 361, 374, 397, 440, 473, 496, 519, 562, 585, 608, 641, 674, 697, 720, 753, 806, 869, 892, 905, 918, 941, 964, 977, 1020, 1053, 1077, 1100, 1123, 1146, 1169], 167) := by decide +kernel
theorem dL_law_200 : decode cL_law 200 = .ok (.aload_n 1, 1) := by decide +kernel
theorem dL_law_201 : decode cL_law 201 = .ok (.aload_n 0, 1) := by decide +kernel
theorem dL_law_202 : decode cL_law 202 = .ok (.iload_n 3, 1) := by decide +kernel
theorem dL_law_203 : decode cL_law 203 = .ok (.iconst 1, 1) := by decide +kernel
theorem dL_law_204 : decode cL_law 204 = .ok (.iadd, 1) := by decide +kernel
theorem dL_law_205 : decode cL_law 205 = .ok (.iaload, 1) := by decide +kernel
theorem dL_law_206 : decode cL_law 206 = .ok (.invokevirtual 13, 3) := by decide +kernel
theorem dL_law_209 : decode cL_law 209 = .ok (.aload_n 2, 1) := by decide +kernel
theorem dL_law_210 : decode cL_law 210 = .ok (.aload_n 0, 1) := by decide +kernel
theorem dL_law_211 : decode cL_law 211 = .ok (.iload_n 3, 1) := by decide +kernel
theorem dL_law_212 : decode cL_law 212 = .ok (.iconst 1, 1) := by decide +kernel
theorem dL_law_213 : decode cL_law 213 = .ok (.iadd, 1) := by decide +kernel
theorem dL_law_214 : decode cL_law 214 = .ok (.iaload, 1) := by decide +kernel
theorem dL_law_215 : decode cL_law 215 = .ok (.invokevirtual 17, 3) := by decide +kernel
theorem dL_law_218 : decode cL_law 218 = .ok (.if_icmp .eq 998, 3) := by decide +kernel
theorem dL_law_221 : decode cL_law 221 = .ok (.iconst 0, 1) := by decide +kernel
theorem dL_law_222 : decode cL_law 222 = .ok (.ireturn, 1) := by decide +kernel
theorem dL_law_223 : decode cL_law 223 = .ok (.aload_n 1, 1) := by decide +kernel
theorem dL_law_224 : decode cL_law 224 = .ok (.aload_n 0, 1) := by decide +kernel
theorem dL_law_225 : decode cL_law 225 = .ok (.iload_n 3, 1) := by decide +kernel
theorem dL_law_226 : decode cL_law 226 = .ok (.iconst 1, 1) := by decide +kernel
theorem dL_law_227 : decode cL_law 227 = .ok (.iadd, 1) := by decide +kernel
theorem dL_law_228 : decode cL_law 228 = .ok (.iaload, 1) := by decide +kernel
theorem dL_law_229 : decode cL_law 229 = .ok (.aload_n 0, 1) := by decide +kernel
theorem dL_law_230 : decode cL_law 230 = .ok (.iload_n 3, 1) := by decide +kernel
theorem dL_law_231 : decode cL_law 231 = .ok (.iconst 2, 1) := by decide +kernel
theorem dL_law_232 : decode cL_law 232 = .ok (.iadd, 1) := by decide +kernel
theorem dL_law_233 : decode cL_law 233 = .ok (.iaload, 1) := by decide +kernel
theorem dL_law_234 : decode cL_law 234 = .ok (.invokevirtual 18, 3) := by decide +kernel
theorem dL_law_237 : decode cL_law 237 = .ok (.aload_n 2, 1) := by decide +kernel
theorem dL_law_238 : decode cL_law 238 = .ok (.aload_n 0, 1) := by decide +kernel
theorem dL_law_239 : decode cL_law 239 = .ok (.iload_n 3, 1) := by decide +kernel
theorem dL_law_240 : decode cL_law 240 = .ok (.iconst 1, 1) := by decide +kernel
theorem dL_law_241 : decode cL_law 241 = .ok (.iadd, 1) := by decide +kernel
theorem dL_law_242 : decode cL_law 242 = .ok (.iaload, 1) := by decide +kernel
theorem dL_law_243 : decode cL_law 243 = .ok (.aload_n 0, 1) := by decide +kernel
theorem dL_law_244 : decode cL_law 244 = .ok (.iload_n 3, 1) := by decide +kernel
theorem dL_law_245 : decode cL_law 245 = .ok (.iconst 2, 1) := by decide +kernel
theorem dL_law_246 : decode cL_law 246 = .ok (.iadd, 1) := by decide +kernel
theorem dL_law_247 : decode cL_law 247 = .ok (.iaload, 1) := by decide +kernel
theorem dL_law_248 : decode cL_law 248 = .ok (.invokevirtual 22, 3) := by decide +kernel
theorem dL_law_251 : decode cL_law 251 = .ok (.if_icmp .eq 965, 3) := by decide +kernel
theorem dL_law_254 : decode cL_law 254 = .ok (.iconst 0, 1) := by decide +kernel
theorem dL_law_255 : decode cL_law 255 = .ok (.ireturn, 1) := by decide +kernel
theorem dL_law_256 : decode cL_law 256 = .ok (.aload_n 1, 1) := by decide +kernel
theorem dL_law_257 : decode cL_law 257 = .ok (.aload_n 0, 1) := by decide +kernel
theorem dL_law_258 : decode cL_law 258 = .ok (.iload_n 3, 1) := by decide +kernel
theorem dL_law_259 : decode cL_law 259 = .ok (.iconst 1, 1) := by decide +kernel
theorem dL_law_260 : decode cL_law 260 = .ok (.iadd, 1) := by decide +kernel
theorem dL_law_261 : decode cL_law 261 = .ok (.iaload, 1) := by decide +kernel
theorem dL_law_262 : decode cL_law 262 = .ok (.invokevirtual 23, 3) := by decide +kernel
theorem dL_law_265 : decode cL_law 265 = .ok (.aload_n 2, 1) := by decide +kernel
theorem dL_law_266 : decode cL_law 266 = .ok (.aload_n 0, 1) := by decide +kernel
theorem dL_law_267 : decode cL_law 267 = .ok (.iload_n 3, 1) := by decide +kernel
theorem dL_law_268 : decode cL_law 268 = .ok (.iconst 1, 1) := by decide +kernel
theorem dL_law_269 : decode cL_law 269 = .ok (.iadd, 1) := by decide +kernel
theorem dL_law_270 : decode cL_law 270 = .ok (.iaload, 1) := by decide +kernel
theorem dL_law_271 : decode cL_law 271 = .ok (.invokevirtual 26, 3) := by decide +kernel
theorem dL_law_274 : decode cL_law 274 = .ok (.if_icmp .eq 942, 3) := by decide +kernel
theorem dL_law_277 : decode cL_law 277 = .ok (.iconst 0, 1) := by decide +kernel
theorem dL_law_278 : decode cL_law 278 = .ok (.ireturn, 1) := by decide +kernel
theorem dL_law_279 : decode cL_law 279 = .ok (.aload_n 1, 1) := by decide +kernel
theorem dL_law_280 : decode cL_law 280 = .ok (.aload_n 0, 1) := by decide +kernel
theorem dL_law_281 : decode cL_law 281 = .ok (.iload_n 3, 1) := by decide +kernel
theorem dL_law_282 : decode cL_law 282 = .ok (.iconst 1, 1) := by decide +kernel
theorem dL_law_283 : decode cL_law 283 = .ok (.iadd, 1) := by decide +kernel
theorem dL_law_284 : decode cL_law 284 = .ok (.iaload, 1) := by decide +kernel
theorem dL_law_285 : decode cL_law 285 = .ok (.invokevirtual 27, 3) := by decide +kernel
theorem dL_law_288 : decode cL_law 288 = .ok (.aload_n 2, 1) := by decide +kernel
theorem dL_law_289 : decode cL_law 289 = .ok (.aload_n 0, 1) := by decide +kernel
theorem dL_law_290 : decode cL_law 290 = .ok (.iload_n 3, 1) := by decide +kernel
theorem dL_law_291 : decode cL_law 291 = .ok (.iconst 1, 1) := by decide +kernel
theorem dL_law_292 : decode cL_law 292 = .ok (.iadd, 1) := by decide +kernel
theorem dL_law_293 : decode cL_law 293 = .ok (.iaload, 1) := by decide +kernel
theorem dL_law_294 : decode cL_law 294 = .ok (.invokevirtual 30, 3) := by decide +kernel
theorem dL_law_297 : decode cL_law 297 = .ok (.if_icmp .eq 919, 3) := by decide +kernel
theorem dL_law_300 : decode cL_law 300 = .ok (.iconst 0, 1) := by decide +kernel
theorem dL_law_301 : decode cL_law 301 = .ok (.ireturn, 1) := by decide +kernel
theorem dL_law_302 : decode cL_law 302 = .ok (.aload_n 1, 1) := by decide +kernel
theorem dL_law_303 : decode cL_law 303 = .ok (.invokevirtual 31, 3) := by decide +kernel
theorem dL_law_306 : decode cL_law 306 = .ok (.aload_n 2, 1) := by decide +kernel
theorem dL_law_307 : decode cL_law 307 = .ok (.invokevirtual 35, 3) := by decide +kernel
theorem dL_law_310 : decode cL_law 310 = .ok (.if_icmp .eq 906, 3) := by decide +kernel
theorem dL_law_313 : decode cL_law 313 = .ok (.iconst 0, 1) := by decide +kernel
theorem dL_law_314 : decode cL_law 314 = .ok (.ireturn, 1) := by decide +kernel
theorem dL_law_315 : decode cL_law 315 = .ok (.aload_n 1, 1) := by decide +kernel
theorem dL_law_316 : decode cL_law 316 = .ok (.invokevirtual 36, 3) := by decide +kernel
theorem dL_law_319 : decode cL_law 319 = .ok (.aload_n 2, 1) := by decide +kernel
theorem dL_law_320 : decode cL_law 320 = .ok (.invokevirtual 39, 3) := by decide +kernel
theorem dL_law_323 : decode cL_law 323 = .ok (.if_icmp .eq 893, 3) := by decide +kernel
theorem dL_law_326 : decode cL_law 326 = .ok (.iconst 0, 1) := by decide +kernel
theorem dL_law_327 : decode cL_law 327 = .ok (.ireturn, 1) := by decide +kernel
theorem dL_law_328 : decode cL_law 328 = .ok (.aload_n 1, 1) := by decide +kernel
theorem dL_law_329 : decode cL_law 329 = .ok (.aload_n 0, 1) := by decide +kernel
theorem dL_law_330 : decode cL_law 330 = .ok (.iload_n 3, 1) := by decide +kernel
theorem dL_law_331 : decode cL_law 331 = .ok (.iconst 1, 1) := by decide +kernel
theorem dL_law_332 : decode cL_law 332 = .ok (.iadd, 1) := by decide +kernel
theorem dL_law_333 : decode cL_law 333 = .ok (.iaload, 1) := by decide +kernel
theorem dL_law_334 : decode cL_law 334 = .ok (.aload_n 0, 1) := by decide +kernel
theorem dL_law_335 : decode cL_law 335 = .ok (.iload_n 3, 1) := by decide +kernel
theorem dL_law_336 : decode cL_law 336 = .ok (.iconst 2, 1) := by decide +kernel
theorem dL_law_337 : decode cL_law 337 = .ok (.iadd, 1) := by decide +kernel
theorem dL_law_338 : decode cL_law 338 = .ok (.iaload, 1) := by decide +kernel
theorem dL_law_339 : decode cL_law 339 = .ok (.aload_n 0, 1) := by decide +kernel
theorem dL_law_340 : decode cL_law 340 = .ok (.iload_n 3, 1) := by decide +kernel
theorem dL_law_341 : decode cL_law 341 = .ok (.iconst 3, 1) := by decide +kernel
theorem dL_law_342 : decode cL_law 342 = .ok (.iadd, 1) := by decide +kernel
theorem dL_law_343 : decode cL_law 343 = .ok (.iaload, 1) := by decide +kernel
theorem dL_law_344 : decode cL_law 344 = .ok (.invokevirtual 40, 3) := by decide +kernel
theorem dL_law_347 : decode cL_law 347 = .ok (.aload_n 2, 1) := by decide +kernel
theorem dL_law_348 : decode cL_law 348 = .ok (.aload_n 0, 1) := by decide +kernel
theorem dL_law_349 : decode cL_law 349 = .ok (.iload_n 3, 1) := by decide +kernel
theorem dL_law_350 : decode cL_law 350 = .ok (.iconst 1, 1) := by decide +kernel
theorem dL_law_351 : decode cL_law 351 = .ok (.iadd, 1) := by decide +kernel
theorem dL_law_352 : decode cL_law 352 = .ok (.iaload, 1) := by decide +kernel
theorem dL_law_353 : decode cL_law 353 = .ok (.aload_n 0, 1) := by decide +kernel
theorem dL_law_354 : decode cL_law 354 = .ok (.iload_n 3, 1) := by decide +kernel
theorem dL_law_355 : decode cL_law 355 = .ok (.iconst 2, 1) := by decide +kernel
theorem dL_law_356 : decode cL_law 356 = .ok (.iadd, 1) := by decide +kernel
theorem dL_law_357 : decode cL_law 357 = .ok (.iaload, 1) := by decide +kernel
theorem dL_law_358 : decode cL_law 358 = .ok (.aload_n 0, 1) := by decide +kernel
theorem dL_law_359 : decode cL_law 359 = .ok (.iload_n 3, 1) := by decide +kernel
theorem dL_law_360 : decode cL_law 360 = .ok (.iconst 3, 1) := by decide +kernel
theorem dL_law_361 : decode cL_law 361 = .ok (.iadd, 1) := by decide +kernel
theorem dL_law_362 : decode cL_law 362 = .ok (.iaload, 1) := by decide +kernel
theorem dL_law_363 : decode cL_law 363 = .ok (.invokevirtual 44, 3) := by decide +kernel
theorem dL_law_366 : decode cL_law 366 = .ok (.if_icmp .eq 850, 3) := by decide +kernel
theorem dL_law_369 : decode cL_law 369 = .ok (.iconst 0, 1) := by decide +kernel
theorem dL_law_370 : decode cL_law 370 = .ok (.ireturn, 1) := by decide +kernel
theorem dL_law_371 : decode cL_law 371 = .ok (.aload_n 1, 1) := by decide +kernel
theorem dL_law_372 : decode cL_law 372 = .ok (.aload_n 0, 1) := by decide +kernel
theorem dL_law_373 : decode cL_law 373 = .ok (.iload_n 3, 1) := by decide +kernel
theorem dL_law_374 : decode cL_law 374 = .ok (.iconst 1, 1) := by decide +kernel
theorem dL_law_375 : decode cL_law 375 = .ok (.iadd, 1) := by decide +kernel
theorem dL_law_376 : decode cL_law 376 = .ok (.iaload, 1) := by decide +kernel
theorem dL_law_377 : decode cL_law 377 = .ok (.invokevirtual 45, 3) := by decide +kernel
theorem dL_law_380 : decode cL_law 380 = .ok (.aload_n 2, 1) := by decide +kernel
theorem dL_law_381 : decode cL_law 381 = .ok (.aload_n 0, 1) := by decide +kernel
theorem dL_law_382 : decode cL_law 382 = .ok (.iload_n 3, 1) := by decide +kernel
theorem dL_law_383 : decode cL_law 383 = .ok (.iconst 1, 1) := by decide +kernel
theorem dL_law_384 : decode cL_law 384 = .ok (.iadd, 1) := by decide +kernel
theorem dL_law_385 : decode cL_law 385 = .ok (.iaload, 1) := by decide +kernel
theorem dL_law_386 : decode cL_law 386 = .ok (.invokevirtual 48, 3) := by decide +kernel
theorem dL_law_389 : decode cL_law 389 = .ok (.if_icmp .eq 827, 3) := by decide +kernel
theorem dL_law_392 : decode cL_law 392 = .ok (.iconst 0, 1) := by decide +kernel
theorem dL_law_393 : decode cL_law 393 = .ok (.ireturn, 1) := by decide +kernel
theorem dL_law_394 : decode cL_law 394 = .ok (.aload_n 1, 1) := by decide +kernel
theorem dL_law_395 : decode cL_law 395 = .ok (.invokevirtual 49, 3) := by decide +kernel
theorem dL_law_398 : decode cL_law 398 = .ok (.aload_n 2, 1) := by decide +kernel
theorem dL_law_399 : decode cL_law 399 = .ok (.invokevirtual 52, 3) := by decide +kernel
theorem dL_law_402 : decode cL_law 402 = .ok (.if_icmp .eq 814, 3) := by decide +kernel
theorem dL_law_405 : decode cL_law 405 = .ok (.iconst 0, 1) := by decide +kernel
theorem dL_law_406 : decode cL_law 406 = .ok (.ireturn, 1) := by decide +kernel
theorem dL_law_407 : decode cL_law 407 = .ok (.aload_n 1, 1) := by decide +kernel
theorem dL_law_408 : decode cL_law 408 = .ok (.aload_n 0, 1) := by decide +kernel
theorem dL_law_409 : decode cL_law 409 = .ok (.iload_n 3, 1) := by decide +kernel
theorem dL_law_410 : decode cL_law 410 = .ok (.iconst 1, 1) := by decide +kernel
theorem dL_law_411 : decode cL_law 411 = .ok (.iadd, 1) := by decide +kernel
theorem dL_law_412 : decode cL_law 412 = .ok (.iaload, 1) := by decide +kernel
theorem dL_law_413 : decode cL_law 413 = .ok (.invokevirtual 53, 3) := by decide +kernel
theorem dL_law_416 : decode cL_law 416 = .ok (.aload_n 2, 1) := by decide +kernel
theorem dL_law_417 : decode cL_law 417 = .ok (.aload_n 0, 1) := by decide +kernel
theorem dL_law_418 : decode cL_law 418 = .ok (.iload_n 3, 1) := by decide +kernel
theorem dL_law_419 : decode cL_law 419 = .ok (.iconst 1, 1) := by decide +kernel
theorem dL_law_420 : decode cL_law 420 = .ok (.iadd, 1) := by decide +kernel
theorem dL_law_421 : decode cL_law 421 = .ok (.iaload, 1) := by decide +kernel
theorem dL_law_422 : decode cL_law 422 = .ok (.invokevirtual 56, 3) := by decide +kernel
theorem dL_law_425 : decode cL_law 425 = .ok (.if_icmp .eq 791, 3) := by decide +kernel
theorem dL_law_428 : decode cL_law 428 = .ok (.iconst 0, 1) := by decide +kernel
theorem dL_law_429 : decode cL_law 429 = .ok (.ireturn, 1) := by decide +kernel
theorem dL_law_430 : decode cL_law 430 = .ok (.aload_n 1, 1) := by decide +kernel
theorem dL_law_431 : decode cL_law 431 = .ok (.aload_n 0, 1) := by decide +kernel
theorem dL_law_432 : decode cL_law 432 = .ok (.iload_n 3, 1) := by decide +kernel
theorem dL_law_433 : decode cL_law 433 = .ok (.iconst 1, 1) := by decide +kernel
theorem dL_law_434 : decode cL_law 434 = .ok (.iadd, 1) := by decide +kernel
theorem dL_law_435 : decode cL_law 435 = .ok (.iaload, 1) := by decide +kernel
theorem dL_law_436 : decode cL_law 436 = .ok (.aload_n 0, 1) := by decide +kernel
theorem dL_law_437 : decode cL_law 437 = .ok (.iload_n 3, 1) := by decide +kernel
theorem dL_law_438 : decode cL_law 438 = .ok (.iconst 2, 1) := by decide +kernel
theorem dL_law_439 : decode cL_law 439 = .ok (.iadd, 1) := by decide +kernel
theorem dL_law_440 : decode cL_law 440 = .ok (.iaload, 1) := by decide +kernel
theorem dL_law_441 : decode cL_law 441 = .ok (.aload_n 0, 1) := by decide +kernel
theorem dL_law_442 : decode cL_law 442 = .ok (.iload_n 3, 1) := by decide +kernel
theorem dL_law_443 : decode cL_law 443 = .ok (.iconst 3, 1) := by decide +kernel
theorem dL_law_444 : decode cL_law 444 = .ok (.iadd, 1) := by decide +kernel
theorem dL_law_445 : decode cL_law 445 = .ok (.iaload, 1) := by decide +kernel
theorem dL_law_446 : decode cL_law 446 = .ok (.invokevirtual 57, 3) := by decide +kernel
theorem dL_law_449 : decode cL_law 449 = .ok (.aload_n 2, 1) := by decide +kernel
theorem dL_law_450 : decode cL_law 450 = .ok (.aload_n 0, 1) := by decide +kernel
theorem dL_law_451 : decode cL_law 451 = .ok (.iload_n 3, 1) := by decide +kernel
theorem dL_law_452 : decode cL_law 452 = .ok (.iconst 1, 1) := by decide +kernel
theorem dL_law_453 : decode cL_law 453 = .ok (.iadd, 1) := by decide +kernel
theorem dL_law_454 : decode cL_law 454 = .ok (.iaload, 1) := by decide +kernel
theorem dL_law_455 : decode cL_law 455 = .ok (.aload_n 0, 1) := by decide +kernel
theorem dL_law_456 : decode cL_law 456 = .ok (.iload_n 3, 1) := by decide +kernel
theorem dL_law_457 : decode cL_law 457 = .ok (.iconst 2, 1) := by decide +kernel
theorem dL_law_458 : decode cL_law 458 = .ok (.iadd, 1) := by decide +kernel
theorem dL_law_459 : decode cL_law 459 = .ok (.iaload, 1) := by decide +kernel
theorem dL_law_460 : decode cL_law 460 = .ok (.aload_n 0, 1) := by decide +kernel
theorem dL_law_461 : decode cL_law 461 = .ok (.iload_n 3, 1) := by decide +kernel
theorem dL_law_462 : decode cL_law 462 = .ok (.iconst 3, 1) := by decide +kernel
theorem dL_law_463 : decode cL_law 463 = .ok (.iadd, 1) := by decide +kernel
theorem dL_law_464 : decode cL_law 464 = .ok (.iaload, 1) := by decide +kernel
theorem dL_law_465 : decode cL_law 465 = .ok (.invokevirtual 60, 3) := by decide +kernel
theorem dL_law_468 : decode cL_law 468 = .ok (.if_icmp .eq 748, 3) := by decide +kernel
theorem dL_law_471 : decode cL_law 471 = .ok (.iconst 0, 1) := by decide +kernel
theorem dL_law_472 : decode cL_law 472 = .ok (.ireturn, 1) := by decide +kernel
theorem dL_law_473 : decode cL_law 473 = .ok (.aload_n 1, 1) := by decide +kernel
theorem dL_law_474 : decode cL_law 474 = .ok (.aload_n 0, 1) := by decide +kernel
theorem dL_law_475 : decode cL_law 475 = .ok (.iload_n 3, 1) := by decide +kernel
theorem dL_law_476 : decode cL_law 476 = .ok (.iconst 1, 1) := by decide +kernel
theorem dL_law_477 : decode cL_law 477 = .ok (.iadd, 1) := by decide +kernel
theorem dL_law_478 : decode cL_law 478 = .ok (.iaload, 1) := by decide +kernel
theorem dL_law_479 : decode cL_law 479 = .ok (.aload_n 0, 1) := by decide +kernel
theorem dL_law_480 : decode cL_law 480 = .ok (.iload_n 3, 1) := by decide +kernel
theorem dL_law_481 : decode cL_law 481 = .ok (.iconst 2, 1) := by decide +kernel
theorem dL_law_482 : decode cL_law 482 = .ok (.iadd, 1) := by decide +kernel
theorem dL_law_483 : decode cL_law 483 = .ok (.iaload, 1) := by decide +kernel
theorem dL_law_484 : decode cL_law 484 = .ok (.invokevirtual 61, 3) := by decide +kernel
theorem dL_law_487 : decode cL_law 487 = .ok (.aload_n 2, 1) := by decide +kernel
theorem dL_law_488 : decode cL_law 488 = .ok (.aload_n 0, 1) := by decide +kernel
theorem dL_law_489 : decode cL_law 489 = .ok (.iload_n 3, 1) := by decide +kernel
theorem dL_law_490 : decode cL_law 490 = .ok (.iconst 1, 1) := by decide +kernel
theorem dL_law_491 : decode cL_law 491 = .ok (.iadd, 1) := by decide +kernel
theorem dL_law_492 : decode cL_law 492 = .ok (.iaload, 1) := by decide +kernel
theorem dL_law_493 : decode cL_law 493 = .ok (.aload_n 0, 1) := by decide +kernel
theorem dL_law_494 : decode cL_law 494 = .ok (.iload_n 3, 1) := by decide +kernel
theorem dL_law_495 : decode cL_law 495 = .ok (.iconst 2, 1) := by decide +kernel
theorem dL_law_496 : decode cL_law 496 = .ok (.iadd, 1) := by decide +kernel
theorem dL_law_497 : decode cL_law 497 = .ok (.iaload, 1) := by decide +kernel
theorem dL_law_498 : decode cL_law 498 = .ok (.invokevirtual 64, 3) := by decide +kernel
theorem dL_law_501 : decode cL_law 501 = .ok (.if_icmp .eq 715, 3) := by decide +kernel
theorem dL_law_504 : decode cL_law 504 = .ok (.iconst 0, 1) := by decide +kernel
theorem dL_law_505 : decode cL_law 505 = .ok (.ireturn, 1) := by decide +kernel
theorem dL_law_506 : decode cL_law 506 = .ok (.aload_n 1, 1) := by decide +kernel
theorem dL_law_507 : decode cL_law 507 = .ok (.aload_n 0, 1) := by decide +kernel
theorem dL_law_508 : decode cL_law 508 = .ok (.iload_n 3, 1) := by decide +kernel
theorem dL_law_509 : decode cL_law 509 = .ok (.iconst 1, 1) := by decide +kernel
theorem dL_law_510 : decode cL_law 510 = .ok (.iadd, 1) := by decide +kernel
theorem dL_law_511 : decode cL_law 511 = .ok (.iaload, 1) := by decide +kernel
theorem dL_law_512 : decode cL_law 512 = .ok (.invokevirtual 65, 3) := by decide +kernel
theorem dL_law_515 : decode cL_law 515 = .ok (.aload_n 2, 1) := by decide +kernel
theorem dL_law_516 : decode cL_law 516 = .ok (.aload_n 0, 1) := by decide +kernel
theorem dL_law_517 : decode cL_law 517 = .ok (.iload_n 3, 1) := by decide +kernel
theorem dL_law_518 : decode cL_law 518 = .ok (.iconst 1, 1) := by decide +kernel
theorem dL_law_519 : decode cL_law 519 = .ok (.iadd, 1) := by decide +kernel
theorem dL_law_520 : decode cL_law 520 = .ok (.iaload, 1) := by decide +kernel
theorem dL_law_521 : decode cL_law 521 = .ok (.invokevirtual 68, 3) := by decide +kernel
theorem dL_law_524 : decode cL_law 524 = .ok (.if_icmp .eq 692, 3) := by decide +kernel
theorem dL_law_527 : decode cL_law 527 = .ok (.iconst 0, 1) := by decide +kernel
theorem dL_law_528 : decode cL_law 528 = .ok (.ireturn, 1) := by decide +kernel
theorem dL_law_529 : decode cL_law 529 = .ok (.aload_n 1, 1) := by decide +kernel
theorem dL_law_530 : decode cL_law 530 = .ok (.aload_n 0, 1) := by decide +kernel
theorem dL_law_531 : decode cL_law 531 = .ok (.iload_n 3, 1) := by decide +kernel
theorem dL_law_532 : decode cL_law 532 = .ok (.iconst 1, 1) := by decide +kernel
theorem dL_law_533 : decode cL_law 533 = .ok (.iadd, 1) := by decide +kernel
theorem dL_law_534 : decode cL_law 534 = .ok (.iaload, 1) := by decide +kernel
theorem dL_law_535 : decode cL_law 535 = .ok (.invokevirtual 69, 3) := by decide +kernel
theorem dL_law_538 : decode cL_law 538 = .ok (.aload_n 2, 1) := by decide +kernel
theorem dL_law_539 : decode cL_law 539 = .ok (.aload_n 0, 1) := by decide +kernel
theorem dL_law_540 : decode cL_law 540 = .ok (.iload_n 3, 1) := by decide +kernel
theorem dL_law_541 : decode cL_law 541 = .ok (.iconst 1, 1) := by decide +kernel
theorem dL_law_542 : decode cL_law 542 = .ok (.iadd, 1) := by decide +kernel
theorem dL_law_543 : decode cL_law 543 = .ok (.iaload, 1) := by decide +kernel
theorem dL_law_544 : decode cL_law 544 = .ok (.invokevirtual 72, 3) := by decide +kernel
theorem dL_law_547 : decode cL_law 547 = .ok (.if_icmp .eq 669, 3) := by decide +kernel
theorem dL_law_550 : decode cL_law 550 = .ok (.iconst 0, 1) := by decide +kernel
theorem dL_law_551 : decode cL_law 551 = .ok (.ireturn, 1) := by decide +kernel
theorem dL_law_552 : decode cL_law 552 = .ok (.aload_n 1, 1) := by decide +kernel
theorem dL_law_553 : decode cL_law 553 = .ok (.aload_n 0, 1) := by decide +kernel
theorem dL_law_554 : decode cL_law 554 = .ok (.iload_n 3, 1) := by decide +kernel
theorem dL_law_555 : decode cL_law 555 = .ok (.iconst 1, 1) := by decide +kernel
theorem dL_law_556 : decode cL_law 556 = .ok (.iadd, 1) := by decide +kernel
theorem dL_law_557 : decode cL_law 557 = .ok (.iaload, 1) := by decide +kernel
theorem dL_law_558 : decode cL_law 558 = .ok (.aload_n 0, 1) := by decide +kernel
theorem dL_law_559 : decode cL_law 559 = .ok (.iload_n 3, 1) := by decide +kernel
theorem dL_law_560 : decode cL_law 560 = .ok (.iconst 2, 1) := by decide +kernel
theorem dL_law_561 : decode cL_law 561 = .ok (.iadd, 1) := by decide +kernel
theorem dL_law_562 : decode cL_law 562 = .ok (.iaload, 1) := by decide +kernel
theorem dL_law_563 : decode cL_law 563 = .ok (.aload_n 0, 1) := by decide +kernel
theorem dL_law_564 : decode cL_law 564 = .ok (.iload_n 3, 1) := by decide +kernel
theorem dL_law_565 : decode cL_law 565 = .ok (.iconst 3, 1) := by decide +kernel
theorem dL_law_566 : decode cL_law 566 = .ok (.iadd, 1) := by decide +kernel
theorem dL_law_567 : decode cL_law 567 = .ok (.iaload, 1) := by decide +kernel
theorem dL_law_568 : decode cL_law 568 = .ok (.invokevirtual 73, 3) := by decide +kernel
theorem dL_law_571 : decode cL_law 571 = .ok (.aload_n 2, 1) := by decide +kernel
theorem dL_law_572 : decode cL_law 572 = .ok (.aload_n 0, 1) := by decide +kernel
theorem dL_law_573 : decode cL_law 573 = .ok (.iload_n 3, 1) := by decide +kernel
theorem dL_law_574 : decode cL_law 574 = .ok (.iconst 1, 1) := by decide +kernel
theorem dL_law_575 : decode cL_law 575 = .ok (.iadd, 1) := by decide +kernel
theorem dL_law_576 : decode cL_law 576 = .ok (.iaload, 1) := by decide +kernel
theorem dL_law_577 : decode cL_law 577 = .ok (.aload_n 0, 1) := by decide +kernel
theorem dL_law_578 : decode cL_law 578 = .ok (.iload_n 3, 1) := by decide +kernel
theorem dL_law_579 : decode cL_law 579 = .ok (.iconst 2, 1) := by decide +kernel
theorem dL_law_580 : decode cL_law 580 = .ok (.iadd, 1) := by decide +kernel
theorem dL_law_581 : decode cL_law 581 = .ok (.iaload, 1) := by decide +kernel
theorem dL_law_582 : decode cL_law 582 = .ok (.aload_n 0, 1) := by decide +kernel
theorem dL_law_583 : decode cL_law 583 = .ok (.iload_n 3, 1) := by decide +kernel
theorem dL_law_584 : decode cL_law 584 = .ok (.iconst 3, 1) := by decide +kernel
theorem dL_law_585 : decode cL_law 585 = .ok (.iadd, 1) := by decide +kernel
theorem dL_law_586 : decode cL_law 586 = .ok (.iaload, 1) := by decide +kernel
theorem dL_law_587 : decode cL_law 587 = .ok (.invokevirtual 76, 3) := by decide +kernel
theorem dL_law_590 : decode cL_law 590 = .ok (.if_icmp .eq 626, 3) := by decide +kernel
theorem dL_law_593 : decode cL_law 593 = .ok (.iconst 0, 1) := by decide +kernel
theorem dL_law_594 : decode cL_law 594 = .ok (.ireturn, 1) := by decide +kernel
theorem dL_law_595 : decode cL_law 595 = .ok (.aload_n 1, 1) := by decide +kernel
theorem dL_law_596 : decode cL_law 596 = .ok (.aload_n 0, 1) := by decide +kernel
theorem dL_law_597 : decode cL_law 597 = .ok (.iload_n 3, 1) := by decide +kernel
theorem dL_law_598 : decode cL_law 598 = .ok (.iconst 1, 1) := by decide +kernel
theorem dL_law_599 : decode cL_law 599 = .ok (.iadd, 1) := by decide +kernel
theorem dL_law_600 : decode cL_law 600 = .ok (.iaload, 1) := by decide +kernel
theorem dL_law_601 : decode cL_law 601 = .ok (.invokevirtual 77, 3) := by decide +kernel
theorem dL_law_604 : decode cL_law 604 = .ok (.aload_n 2, 1) := by decide +kernel
theorem dL_law_605 : decode cL_law 605 = .ok (.aload_n 0, 1) := by decide +kernel
theorem dL_law_606 : decode cL_law 606 = .ok (.iload_n 3, 1) := by decide +kernel
theorem dL_law_607 : decode cL_law 607 = .ok (.iconst 1, 1) := by decide +kernel
theorem dL_law_608 : decode cL_law 608 = .ok (.iadd, 1) := by decide +kernel
theorem dL_law_609 : decode cL_law 609 = .ok (.iaload, 1) := by decide +kernel
theorem dL_law_610 : decode cL_law 610 = .ok (.invokevirtual 80, 3) := by decide +kernel
theorem dL_law_613 : decode cL_law 613 = .ok (.if_icmp .eq 603, 3) := by decide +kernel
theorem dL_law_616 : decode cL_law 616 = .ok (.iconst 0, 1) := by decide +kernel
theorem dL_law_617 : decode cL_law 617 = .ok (.ireturn, 1) := by decide +kernel
theorem dL_law_618 : decode cL_law 618 = .ok (.aload_n 1, 1) := by decide +kernel
theorem dL_law_619 : decode cL_law 619 = .ok (.aload_n 0, 1) := by decide +kernel
theorem dL_law_620 : decode cL_law 620 = .ok (.iload_n 3, 1) := by decide +kernel
theorem dL_law_621 : decode cL_law 621 = .ok (.iconst 1, 1) := by decide +kernel
theorem dL_law_622 : decode cL_law 622 = .ok (.iadd, 1) := by decide +kernel
theorem dL_law_623 : decode cL_law 623 = .ok (.iaload, 1) := by decide +kernel
theorem dL_law_624 : decode cL_law 624 = .ok (.invokevirtual 81, 3) := by decide +kernel
theorem dL_law_627 : decode cL_law 627 = .ok (.aload_n 2, 1) := by decide +kernel
theorem dL_law_628 : decode cL_law 628 = .ok (.aload_n 0, 1) := by decide +kernel
theorem dL_law_629 : decode cL_law 629 = .ok (.iload_n 3, 1) := by decide +kernel
theorem dL_law_630 : decode cL_law 630 = .ok (.iconst 1, 1) := by decide +kernel
theorem dL_law_631 : decode cL_law 631 = .ok (.iadd, 1) := by decide +kernel
theorem dL_law_632 : decode cL_law 632 = .ok (.iaload, 1) := by decide +kernel
theorem dL_law_633 : decode cL_law 633 = .ok (.invokevirtual 84, 3) := by decide +kernel
theorem dL_law_636 : decode cL_law 636 = .ok (.if_icmp .eq 580, 3) := by decide +kernel
theorem dL_law_639 : decode cL_law 639 = .ok (.iconst 0, 1) := by decide +kernel
theorem dL_law_640 : decode cL_law 640 = .ok (.ireturn, 1) := by decide +kernel
theorem dL_law_641 : decode cL_law 641 = .ok (.aload_n 1, 1) := by decide +kernel
theorem dL_law_642 : decode cL_law 642 = .ok (.aload_n 0, 1) := by decide +kernel
theorem dL_law_643 : decode cL_law 643 = .ok (.iload_n 3, 1) := by decide +kernel
theorem dL_law_644 : decode cL_law 644 = .ok (.iconst 1, 1) := by decide +kernel
theorem dL_law_645 : decode cL_law 645 = .ok (.iadd, 1) := by decide +kernel
theorem dL_law_646 : decode cL_law 646 = .ok (.iaload, 1) := by decide +kernel
theorem dL_law_647 : decode cL_law 647 = .ok (.aload_n 0, 1) := by decide +kernel
theorem dL_law_648 : decode cL_law 648 = .ok (.iload_n 3, 1) := by decide +kernel
theorem dL_law_649 : decode cL_law 649 = .ok (.iconst 2, 1) := by decide +kernel
theorem dL_law_650 : decode cL_law 650 = .ok (.iadd, 1) := by decide +kernel
theorem dL_law_651 : decode cL_law 651 = .ok (.iaload, 1) := by decide +kernel
theorem dL_law_652 : decode cL_law 652 = .ok (.invokevirtual 85, 3) := by decide +kernel
theorem dL_law_655 : decode cL_law 655 = .ok (.aload_n 2, 1) := by decide +kernel
theorem dL_law_656 : decode cL_law 656 = .ok (.aload_n 0, 1) := by decide +kernel
theorem dL_law_657 : decode cL_law 657 = .ok (.iload_n 3, 1) := by decide +kernel
theorem dL_law_658 : decode cL_law 658 = .ok (.iconst 1, 1) := by decide +kernel
theorem dL_law_659 : decode cL_law 659 = .ok (.iadd, 1) := by decide +kernel
theorem dL_law_660 : decode cL_law 660 = .ok (.iaload, 1) := by decide +kernel
theorem dL_law_661 : decode cL_law 661 = .ok (.aload_n 0, 1) := by decide +kernel
theorem dL_law_662 : decode cL_law 662 = .ok (.iload_n 3, 1) := by decide +kernel
theorem dL_law_663 : decode cL_law 663 = .ok (.iconst 2, 1) := by decide +kernel
theorem dL_law_664 : decode cL_law 664 = .ok (.iadd, 1) := by decide +kernel
theorem dL_law_665 : decode cL_law 665 = .ok (.iaload, 1) := by decide +kernel
theorem dL_law_666 : decode cL_law 666 = .ok (.invokevirtual 88, 3) := by decide +kernel
theorem dL_law_669 : decode cL_law 669 = .ok (.if_icmp .eq 547, 3) := by decide +kernel
theorem dL_law_672 : decode cL_law 672 = .ok (.iconst 0, 1) := by decide +kernel
theorem dL_law_673 : decode cL_law 673 = .ok (.ireturn, 1) := by decide +kernel
theorem dL_law_674 : decode cL_law 674 = .ok (.aload_n 1, 1) := by decide +kernel
theorem dL_law_675 : decode cL_law 675 = .ok (.aload_n 0, 1) := by decide +kernel
theorem dL_law_676 : decode cL_law 676 = .ok (.iload_n 3, 1) := by decide +kernel
theorem dL_law_677 : decode cL_law 677 = .ok (.iconst 1, 1) := by decide +kernel
theorem dL_law_678 : decode cL_law 678 = .ok (.iadd, 1) := by decide +kernel
theorem dL_law_679 : decode cL_law 679 = .ok (.iaload, 1) := by decide +kernel
theorem dL_law_680 : decode cL_law 680 = .ok (.aload_n 0, 1) := by decide +kernel
theorem dL_law_681 : decode cL_law 681 = .ok (.iload_n 3, 1) := by decide +kernel
theorem dL_law_682 : decode cL_law 682 = .ok (.iconst 2, 1) := by decide +kernel
theorem dL_law_683 : decode cL_law 683 = .ok (.iadd, 1) := by decide +kernel
theorem dL_law_684 : decode cL_law 684 = .ok (.iaload, 1) := by decide +kernel
theorem dL_law_685 : decode cL_law 685 = .ok (.invokevirtual 89, 3) := by decide +kernel
theorem dL_law_688 : decode cL_law 688 = .ok (.aload_n 2, 1) := by decide +kernel
theorem dL_law_689 : decode cL_law 689 = .ok (.aload_n 0, 1) := by decide +kernel
theorem dL_law_690 : decode cL_law 690 = .ok (.iload_n 3, 1) := by decide +kernel
theorem dL_law_691 : decode cL_law 691 = .ok (.iconst 1, 1) := by decide +kernel
theorem dL_law_692 : decode cL_law 692 = .ok (.iadd, 1) := by decide +kernel
theorem dL_law_693 : decode cL_law 693 = .ok (.iaload, 1) := by decide +kernel
theorem dL_law_694 : decode cL_law 694 = .ok (.aload_n 0, 1) := by decide +kernel
theorem dL_law_695 : decode cL_law 695 = .ok (.iload_n 3, 1) := by decide +kernel
theorem dL_law_696 : decode cL_law 696 = .ok (.iconst 2, 1) := by decide +kernel
theorem dL_law_697 : decode cL_law 697 = .ok (.iadd, 1) := by decide +kernel
theorem dL_law_698 : decode cL_law 698 = .ok (.iaload, 1) := by decide +kernel
theorem dL_law_699 : decode cL_law 699 = .ok (.invokevirtual 92, 3) := by decide +kernel
theorem dL_law_702 : decode cL_law 702 = .ok (.if_icmp .eq 514, 3) := by decide +kernel
theorem dL_law_705 : decode cL_law 705 = .ok (.iconst 0, 1) := by decide +kernel
theorem dL_law_706 : decode cL_law 706 = .ok (.ireturn, 1) := by decide +kernel
theorem dL_law_707 : decode cL_law 707 = .ok (.aload_n 1, 1) := by decide +kernel
theorem dL_law_708 : decode cL_law 708 = .ok (.aload_n 0, 1) := by decide +kernel
theorem dL_law_709 : decode cL_law 709 = .ok (.iload_n 3, 1) := by decide +kernel
theorem dL_law_710 : decode cL_law 710 = .ok (.iconst 1, 1) := by decide +kernel
theorem dL_law_711 : decode cL_law 711 = .ok (.iadd, 1) := by decide +kernel
theorem dL_law_712 : decode cL_law 712 = .ok (.iaload, 1) := by decide +kernel
theorem dL_law_713 : decode cL_law 713 = .ok (.invokevirtual 93, 3) := by decide +kernel
theorem dL_law_716 : decode cL_law 716 = .ok (.aload_n 2, 1) := by decide +kernel
theorem dL_law_717 : decode cL_law 717 = .ok (.aload_n 0, 1) := by decide +kernel
theorem dL_law_718 : decode cL_law 718 = .ok (.iload_n 3, 1) := by decide +kernel
theorem dL_law_719 : decode cL_law 719 = .ok (.iconst 1, 1) := by decide +kernel
theorem dL_law_720 : decode cL_law 720 = .ok (.iadd, 1) := by decide +kernel
theorem dL_law_721 : decode cL_law 721 = .ok (.iaload, 1) := by decide +kernel
theorem dL_law_722 : decode cL_law 722 = .ok (.invokevirtual 96, 3) := by decide +kernel
theorem dL_law_725 : decode cL_law 725 = .ok (.if_icmp .eq 491, 3) := by decide +kernel
theorem dL_law_728 : decode cL_law 728 = .ok (.iconst 0, 1) := by decide +kernel
theorem dL_law_729 : decode cL_law 729 = .ok (.ireturn, 1) := by decide +kernel
theorem dL_law_730 : decode cL_law 730 = .ok (.aload_n 1, 1) := by decide +kernel
theorem dL_law_731 : decode cL_law 731 = .ok (.aload_n 0, 1) := by decide +kernel
theorem dL_law_732 : decode cL_law 732 = .ok (.iload_n 3, 1) := by decide +kernel
theorem dL_law_733 : decode cL_law 733 = .ok (.iconst 1, 1) := by decide +kernel
theorem dL_law_734 : decode cL_law 734 = .ok (.iadd, 1) := by decide +kernel
theorem dL_law_735 : decode cL_law 735 = .ok (.iaload, 1) := by decide +kernel
theorem dL_law_736 : decode cL_law 736 = .ok (.invokevirtual 97, 3) := by decide +kernel
theorem dL_law_739 : decode cL_law 739 = .ok (.aload_n 2, 1) := by decide +kernel
theorem dL_law_740 : decode cL_law 740 = .ok (.aload_n 0, 1) := by decide +kernel
theorem dL_law_741 : decode cL_law 741 = .ok (.iload_n 3, 1) := by decide +kernel
theorem dL_law_742 : decode cL_law 742 = .ok (.iconst 1, 1) := by decide +kernel
theorem dL_law_743 : decode cL_law 743 = .ok (.iadd, 1) := by decide +kernel
theorem dL_law_744 : decode cL_law 744 = .ok (.iaload, 1) := by decide +kernel
theorem dL_law_745 : decode cL_law 745 = .ok (.invokevirtual 100, 3) := by decide +kernel
theorem dL_law_748 : decode cL_law 748 = .ok (.if_icmp .eq 468, 3) := by decide +kernel
theorem dL_law_751 : decode cL_law 751 = .ok (.iconst 0, 1) := by decide +kernel
theorem dL_law_752 : decode cL_law 752 = .ok (.ireturn, 1) := by decide +kernel
theorem dL_law_753 : decode cL_law 753 = .ok (.aload_n 1, 1) := by decide +kernel
theorem dL_law_754 : decode cL_law 754 = .ok (.aload_n 0, 1) := by decide +kernel
theorem dL_law_755 : decode cL_law 755 = .ok (.iload_n 3, 1) := by decide +kernel
theorem dL_law_756 : decode cL_law 756 = .ok (.iconst 1, 1) := by decide +kernel
theorem dL_law_757 : decode cL_law 757 = .ok (.iadd, 1) := by decide +kernel
theorem dL_law_758 : decode cL_law 758 = .ok (.iaload, 1) := by decide +kernel
theorem dL_law_759 : decode cL_law 759 = .ok (.aload_n 0, 1) := by decide +kernel
theorem dL_law_760 : decode cL_law 760 = .ok (.iload_n 3, 1) := by decide +kernel
theorem dL_law_761 : decode cL_law 761 = .ok (.iconst 2, 1) := by decide +kernel
theorem dL_law_762 : decode cL_law 762 = .ok (.iadd, 1) := by decide +kernel
theorem dL_law_763 : decode cL_law 763 = .ok (.iaload, 1) := by decide +kernel
theorem dL_law_764 : decode cL_law 764 = .ok (.invokevirtual 101, 3) := by decide +kernel
theorem dL_law_767 : decode cL_law 767 = .ok (.aload_n 2, 1) := by decide +kernel
theorem dL_law_768 : decode cL_law 768 = .ok (.aload_n 0, 1) := by decide +kernel
theorem dL_law_769 : decode cL_law 769 = .ok (.iload_n 3, 1) := by decide +kernel
theorem dL_law_770 : decode cL_law 770 = .ok (.iconst 1, 1) := by decide +kernel
theorem dL_law_771 : decode cL_law 771 = .ok (.iadd, 1) := by decide +kernel
theorem dL_law_772 : decode cL_law 772 = .ok (.iaload, 1) := by decide +kernel
theorem dL_law_773 : decode cL_law 773 = .ok (.aload_n 0, 1) := by decide +kernel
theorem dL_law_774 : decode cL_law 774 = .ok (.iload_n 3, 1) := by decide +kernel
theorem dL_law_775 : decode cL_law 775 = .ok (.iconst 2, 1) := by decide +kernel
theorem dL_law_776 : decode cL_law 776 = .ok (.iadd, 1) := by decide +kernel
theorem dL_law_777 : decode cL_law 777 = .ok (.iaload, 1) := by decide +kernel
theorem dL_law_778 : decode cL_law 778 = .ok (.invokevirtual 104, 3) := by decide +kernel
theorem dL_law_781 : decode cL_law 781 = .ok (.if_icmp .eq 435, 3) := by decide +kernel
theorem dL_law_784 : decode cL_law 784 = .ok (.iconst 0, 1) := by decide +kernel
theorem dL_law_785 : decode cL_law 785 = .ok (.ireturn, 1) := by decide +kernel
theorem dL_law_786 : decode cL_law 786 = .ok (.aload_n 1, 1) := by decide +kernel
theorem dL_law_787 : decode cL_law 787 = .ok (.aload_n 0, 1) := by decide +kernel
theorem dL_law_788 : decode cL_law 788 = .ok (.iload_n 3, 1) := by decide +kernel
theorem dL_law_789 : decode cL_law 789 = .ok (.iconst 1, 1) := by decide +kernel
theorem dL_law_790 : decode cL_law 790 = .ok (.iadd, 1) := by decide +kernel
theorem dL_law_791 : decode cL_law 791 = .ok (.iaload, 1) := by decide +kernel
theorem dL_law_792 : decode cL_law 792 = .ok (.aload_n 0, 1) := by decide +kernel
theorem dL_law_793 : decode cL_law 793 = .ok (.iload_n 3, 1) := by decide +kernel
theorem dL_law_794 : decode cL_law 794 = .ok (.iconst 2, 1) := by decide +kernel
theorem dL_law_795 : decode cL_law 795 = .ok (.iadd, 1) := by decide +kernel
theorem dL_law_796 : decode cL_law 796 = .ok (.iaload, 1) := by decide +kernel
theorem dL_law_797 : decode cL_law 797 = .ok (.aload_n 0, 1) := by decide +kernel
theorem dL_law_798 : decode cL_law 798 = .ok (.iload_n 3, 1) := by decide +kernel
theorem dL_law_799 : decode cL_law 799 = .ok (.iconst 3, 1) := by decide +kernel
theorem dL_law_800 : decode cL_law 800 = .ok (.iadd, 1) := by decide +kernel
theorem dL_law_801 : decode cL_law 801 = .ok (.iaload, 1) := by decide +kernel
theorem dL_law_802 : decode cL_law 802 = .ok (.aload_n 0, 1) := by decide +kernel
theorem dL_law_803 : decode cL_law 803 = .ok (.iload_n 3, 1) := by decide +kernel
theorem dL_law_804 : decode cL_law 804 = .ok (.iconst 4, 1) := by decide +kernel
theorem dL_law_805 : decode cL_law 805 = .ok (.iadd, 1) := by decide +kernel
theorem dL_law_806 : decode cL_law 806 = .ok (.iaload, 1) := by decide +kernel
theorem dL_law_807 : decode cL_law 807 = .ok (.invokevirtual 105, 3) := by decide +kernel
theorem dL_law_810 : decode cL_law 810 = .ok (.aload_n 2, 1) := by decide +kernel
theorem dL_law_811 : decode cL_law 811 = .ok (.aload_n 0, 1) := by decide +kernel
theorem dL_law_812 : decode cL_law 812 = .ok (.iload_n 3, 1) := by decide +kernel
theorem dL_law_813 : decode cL_law 813 = .ok (.iconst 1, 1) := by decide +kernel
theorem dL_law_814 : decode cL_law 814 = .ok (.iadd, 1) := by decide +kernel
theorem dL_law_815 : decode cL_law 815 = .ok (.iaload, 1) := by decide +kernel
theorem dL_law_816 : decode cL_law 816 = .ok (.aload_n 0, 1) := by decide +kernel
theorem dL_law_817 : decode cL_law 817 = .ok (.iload_n 3, 1) := by decide +kernel
theorem dL_law_818 : decode cL_law 818 = .ok (.iconst 2, 1) := by decide +kernel
theorem dL_law_819 : decode cL_law 819 = .ok (.iadd, 1) := by decide +kernel
theorem dL_law_820 : decode cL_law 820 = .ok (.iaload, 1) := by decide +kernel
theorem dL_law_821 : decode cL_law 821 = .ok (.aload_n 0, 1) := by decide +kernel
theorem dL_law_822 : decode cL_law 822 = .ok (.iload_n 3, 1) := by decide +kernel
theorem dL_law_823 : decode cL_law 823 = .ok (.iconst 3, 1) := by decide +kernel
theorem dL_law_824 : decode cL_law 824 = .ok (.iadd, 1) := by decide +kernel
theorem dL_law_825 : decode cL_law 825 = .ok (.iaload, 1) := by decide +kernel
theorem dL_law_826 : decode cL_law 826 = .ok (.aload_n 0, 1) := by decide +kernel
theorem dL_law_827 : decode cL_law 827 = .ok (.iload_n 3, 1) := by decide +kernel
theorem dL_law_828 : decode cL_law 828 = .ok (.iconst 4, 1) := by decide +kernel
theorem dL_law_829 : decode cL_law 829 = .ok (.iadd, 1) := by decide +kernel
theorem dL_law_830 : decode cL_law 830 = .ok (.iaload, 1) := by decide +kernel
theorem dL_law_831 : decode cL_law 831 = .ok (.invokevirtual 109, 3) := by decide +kernel
theorem dL_law_834 : decode cL_law 834 = .ok (.if_icmp .eq 382, 3) := by decide +kernel
theorem dL_law_837 : decode cL_law 837 = .ok (.iconst 0, 1) := by decide +kernel
theorem dL_law_838 : decode cL_law 838 = .ok (.ireturn, 1) := by decide +kernel
theorem dL_law_839 : decode cL_law 839 = .ok (.aload_n 1, 1) := by decide +kernel
theorem dL_law_840 : decode cL_law 840 = .ok (.aload_n 0, 1) := by decide +kernel
theorem dL_law_841 : decode cL_law 841 = .ok (.iload_n 3, 1) := by decide +kernel
theorem dL_law_842 : decode cL_law 842 = .ok (.iconst 1, 1) := by decide +kernel
theorem dL_law_843 : decode cL_law 843 = .ok (.iadd, 1) := by decide +kernel
theorem dL_law_844 : decode cL_law 844 = .ok (.iaload, 1) := by decide +kernel
theorem dL_law_845 : decode cL_law 845 = .ok (.aload_n 0, 1) := by decide +kernel
theorem dL_law_846 : decode cL_law 846 = .ok (.iload_n 3, 1) := by decide +kernel
theorem dL_law_847 : decode cL_law 847 = .ok (.iconst 2, 1) := by decide +kernel
theorem dL_law_848 : decode cL_law 848 = .ok (.iadd, 1) := by decide +kernel
theorem dL_law_849 : decode cL_law 849 = .ok (.iaload, 1) := by decide +kernel
theorem dL_law_850 : decode cL_law 850 = .ok (.aload_n 0, 1) := by decide +kernel
theorem dL_law_851 : decode cL_law 851 = .ok (.iload_n 3, 1) := by decide +kernel
theorem dL_law_852 : decode cL_law 852 = .ok (.iconst 3, 1) := by decide +kernel
theorem dL_law_853 : decode cL_law 853 = .ok (.iadd, 1) := by decide +kernel
theorem dL_law_854 : decode cL_law 854 = .ok (.iaload, 1) := by decide +kernel
theorem dL_law_855 : decode cL_law 855 = .ok (.aload_n 0, 1) := by decide +kernel
theorem dL_law_856 : decode cL_law 856 = .ok (.iload_n 3, 1) := by decide +kernel
theorem dL_law_857 : decode cL_law 857 = .ok (.iconst 4, 1) := by decide +kernel
theorem dL_law_858 : decode cL_law 858 = .ok (.iadd, 1) := by decide +kernel
theorem dL_law_859 : decode cL_law 859 = .ok (.iaload, 1) := by decide +kernel
theorem dL_law_860 : decode cL_law 860 = .ok (.aload_n 0, 1) := by decide +kernel
theorem dL_law_861 : decode cL_law 861 = .ok (.iload_n 3, 1) := by decide +kernel
theorem dL_law_862 : decode cL_law 862 = .ok (.iconst 5, 1) := by decide +kernel
theorem dL_law_863 : decode cL_law 863 = .ok (.iadd, 1) := by decide +kernel
theorem dL_law_864 : decode cL_law 864 = .ok (.iaload, 1) := by decide +kernel
theorem dL_law_865 : decode cL_law 865 = .ok (.invokevirtual 110, 3) := by decide +kernel
theorem dL_law_868 : decode cL_law 868 = .ok (.aload_n 2, 1) := by decide +kernel
theorem dL_law_869 : decode cL_law 869 = .ok (.aload_n 0, 1) := by decide +kernel
theorem dL_law_870 : decode cL_law 870 = .ok (.iload_n 3, 1) := by decide +kernel
theorem dL_law_871 : decode cL_law 871 = .ok (.iconst 1, 1) := by decide +kernel
theorem dL_law_872 : decode cL_law 872 = .ok (.iadd, 1) := by decide +kernel
theorem dL_law_873 : decode cL_law 873 = .ok (.iaload, 1) := by decide +kernel
theorem dL_law_874 : decode cL_law 874 = .ok (.aload_n 0, 1) := by decide +kernel
theorem dL_law_875 : decode cL_law 875 = .ok (.iload_n 3, 1) := by decide +kernel
theorem dL_law_876 : decode cL_law 876 = .ok (.iconst 2, 1) := by decide +kernel
theorem dL_law_877 : decode cL_law 877 = .ok (.iadd, 1) := by decide +kernel
theorem dL_law_878 : decode cL_law 878 = .ok (.iaload, 1) := by decide +kernel
theorem dL_law_879 : decode cL_law 879 = .ok (.aload_n 0, 1) := by decide +kernel
theorem dL_law_880 : decode cL_law 880 = .ok (.iload_n 3, 1) := by decide +kernel
theorem dL_law_881 : decode cL_law 881 = .ok (.iconst 3, 1) := by decide +kernel
theorem dL_law_882 : decode cL_law 882 = .ok (.iadd, 1) := by decide +kernel
theorem dL_law_883 : decode cL_law 883 = .ok (.iaload, 1) := by decide +kernel
theorem dL_law_884 : decode cL_law 884 = .ok (.aload_n 0, 1) := by decide +kernel
theorem dL_law_885 : decode cL_law 885 = .ok (.iload_n 3, 1) := by decide +kernel
theorem dL_law_886 : decode cL_law 886 = .ok (.iconst 4, 1) := by decide +kernel
theorem dL_law_887 : decode cL_law 887 = .ok (.iadd, 1) := by decide +kernel
theorem dL_law_888 : decode cL_law 888 = .ok (.iaload, 1) := by decide +kernel
theorem dL_law_889 : decode cL_law 889 = .ok (.aload_n 0, 1) := by decide +kernel
theorem dL_law_890 : decode cL_law 890 = .ok (.iload_n 3, 1) := by decide +kernel
theorem dL_law_891 : decode cL_law 891 = .ok (.iconst 5, 1) := by decide +kernel
theorem dL_law_892 : decode cL_law 892 = .ok (.iadd, 1) := by decide +kernel
theorem dL_law_893 : decode cL_law 893 = .ok (.iaload, 1) := by decide +kernel
theorem dL_law_894 : decode cL_law 894 = .ok (.invokevirtual 114, 3) := by decide +kernel
theorem dL_law_897 : decode cL_law 897 = .ok (.if_icmp .eq 319, 3) := by decide +kernel
theorem dL_law_900 : decode cL_law 900 = .ok (.iconst 0, 1) := by decide +kernel
theorem dL_law_901 : decode cL_law 901 = .ok (.ireturn, 1) := by decide +kernel
theorem dL_law_902 : decode cL_law 902 = .ok (.aload_n 1, 1) := by decide +kernel
theorem dL_law_903 : decode cL_law 903 = .ok (.aload_n 0, 1) := by decide +kernel
theorem dL_law_904 : decode cL_law 904 = .ok (.iload_n 3, 1) := by decide +kernel
theorem dL_law_905 : decode cL_law 905 = .ok (.iconst 1, 1) := by decide +kernel
theorem dL_law_906 : decode cL_law 906 = .ok (.iadd, 1) := by decide +kernel
theorem dL_law_907 : decode cL_law 907 = .ok (.iaload, 1) := by decide +kernel
theorem dL_law_908 : decode cL_law 908 = .ok (.invokevirtual 115, 3) := by decide +kernel
theorem dL_law_911 : decode cL_law 911 = .ok (.aload_n 2, 1) := by decide +kernel
theorem dL_law_912 : decode cL_law 912 = .ok (.aload_n 0, 1) := by decide +kernel
theorem dL_law_913 : decode cL_law 913 = .ok (.iload_n 3, 1) := by decide +kernel
theorem dL_law_914 : decode cL_law 914 = .ok (.iconst 1, 1) := by decide +kernel
theorem dL_law_915 : decode cL_law 915 = .ok (.iadd, 1) := by decide +kernel
theorem dL_law_916 : decode cL_law 916 = .ok (.iaload, 1) := by decide +kernel
theorem dL_law_917 : decode cL_law 917 = .ok (.invokevirtual 118, 3) := by decide +kernel
theorem dL_law_920 : decode cL_law 920 = .ok (.if_icmp .eq 296, 3) := by decide +kernel
theorem dL_law_923 : decode cL_law 923 = .ok (.iconst 0, 1) := by decide +kernel
theorem dL_law_924 : decode cL_law 924 = .ok (.ireturn, 1) := by decide +kernel
theorem dL_law_925 : decode cL_law 925 = .ok (.aload_n 1, 1) := by decide +kernel
theorem dL_law_926 : decode cL_law 926 = .ok (.invokevirtual 119, 3) := by decide +kernel
theorem dL_law_929 : decode cL_law 929 = .ok (.aload_n 2, 1) := by decide +kernel
theorem dL_law_930 : decode cL_law 930 = .ok (.invokevirtual 122, 3) := by decide +kernel
theorem dL_law_933 : decode cL_law 933 = .ok (.if_icmp .eq 283, 3) := by decide +kernel
theorem dL_law_936 : decode cL_law 936 = .ok (.iconst 0, 1) := by decide +kernel
theorem dL_law_937 : decode cL_law 937 = .ok (.ireturn, 1) := by decide +kernel
theorem dL_law_938 : decode cL_law 938 = .ok (.aload_n 1, 1) := by decide +kernel
theorem dL_law_939 : decode cL_law 939 = .ok (.invokevirtual 123, 3) := by decide +kernel
theorem dL_law_942 : decode cL_law 942 = .ok (.aload_n 2, 1) := by decide +kernel
theorem dL_law_943 : decode cL_law 943 = .ok (.invokevirtual 126, 3) := by decide +kernel
theorem dL_law_946 : decode cL_law 946 = .ok (.if_icmp .eq 270, 3) := by decide +kernel
theorem dL_law_949 : decode cL_law 949 = .ok (.iconst 0, 1) := by decide +kernel
theorem dL_law_950 : decode cL_law 950 = .ok (.ireturn, 1) := by decide +kernel
theorem dL_law_951 : decode cL_law 951 = .ok (.aload_n 1, 1) := by decide +kernel
theorem dL_law_952 : decode cL_law 952 = .ok (.aload_n 0, 1) := by decide +kernel
theorem dL_law_953 : decode cL_law 953 = .ok (.iload_n 3, 1) := by decide +kernel
theorem dL_law_954 : decode cL_law 954 = .ok (.iconst 1, 1) := by decide +kernel
theorem dL_law_955 : decode cL_law 955 = .ok (.iadd, 1) := by decide +kernel
theorem dL_law_956 : decode cL_law 956 = .ok (.iaload, 1) := by decide +kernel
theorem dL_law_957 : decode cL_law 957 = .ok (.invokevirtual 127, 3) := by decide +kernel
theorem dL_law_960 : decode cL_law 960 = .ok (.aload_n 2, 1) := by decide +kernel
theorem dL_law_961 : decode cL_law 961 = .ok (.aload_n 0, 1) := by decide +kernel
theorem dL_law_962 : decode cL_law 962 = .ok (.iload_n 3, 1) := by decide +kernel
theorem dL_law_963 : decode cL_law 963 = .ok (.iconst 1, 1) := by decide +kernel
theorem dL_law_964 : decode cL_law 964 = .ok (.iadd, 1) := by decide +kernel
theorem dL_law_965 : decode cL_law 965 = .ok (.iaload, 1) := by decide +kernel
theorem dL_law_966 : decode cL_law 966 = .ok (.invokevirtual 130, 3) := by decide +kernel
theorem dL_law_969 : decode cL_law 969 = .ok (.if_icmp .eq 247, 3) := by decide +kernel
theorem dL_law_972 : decode cL_law 972 = .ok (.iconst 0, 1) := by decide +kernel
theorem dL_law_973 : decode cL_law 973 = .ok (.ireturn, 1) := by decide +kernel
theorem dL_law_974 : decode cL_law 974 = .ok (.aload_n 1, 1) := by decide +kernel
theorem dL_law_975 : decode cL_law 975 = .ok (.aload_n 0, 1) := by decide +kernel
theorem dL_law_976 : decode cL_law 976 = .ok (.iload_n 3, 1) := by decide +kernel
theorem dL_law_977 : decode cL_law 977 = .ok (.iconst 1, 1) := by decide +kernel
theorem dL_law_978 : decode cL_law 978 = .ok (.iadd, 1) := by decide +kernel
theorem dL_law_979 : decode cL_law 979 = .ok (.iaload, 1) := by decide +kernel
theorem dL_law_980 : decode cL_law 980 = .ok (.invokevirtual 131, 3) := by decide +kernel
theorem dL_law_983 : decode cL_law 983 = .ok (.aload_n 2, 1) := by decide +kernel
theorem dL_law_984 : decode cL_law 984 = .ok (.aload_n 0, 1) := by decide +kernel
theorem dL_law_985 : decode cL_law 985 = .ok (.iload_n 3, 1) := by decide +kernel
theorem dL_law_986 : decode cL_law 986 = .ok (.iconst 1, 1) := by decide +kernel
theorem dL_law_987 : decode cL_law 987 = .ok (.iadd, 1) := by decide +kernel
theorem dL_law_988 : decode cL_law 988 = .ok (.iaload, 1) := by decide +kernel
theorem dL_law_989 : decode cL_law 989 = .ok (.invokevirtual 134, 3) := by decide +kernel
theorem dL_law_992 : decode cL_law 992 = .ok (.if_icmp .eq 224, 3) := by decide +kernel
theorem dL_law_995 : decode cL_law 995 = .ok (.iconst 0, 1) := by decide +kernel
theorem dL_law_996 : decode cL_law 996 = .ok (.ireturn, 1) := by decide +kernel
theorem dL_law_997 : decode cL_law 997 = .ok (.aload_n 1, 1) := by decide +kernel
theorem dL_law_998 : decode cL_law 998 = .ok (.invokevirtual 135, 3) := by decide +kernel
theorem dL_law_1001 : decode cL_law 1001 = .ok (.aload_n 2, 1) := by decide +kernel
theorem dL_law_1002 : decode cL_law 1002 = .ok (.invokevirtual 138, 3) := by decide +kernel
theorem dL_law_1005 : decode cL_law 1005 = .ok (.if_icmp .eq 211, 3) := by decide +kernel
theorem dL_law_1008 : decode cL_law 1008 = .ok (.iconst 0, 1) := by decide +kernel
theorem dL_law_1009 : decode cL_law 1009 = .ok (.ireturn, 1) := by decide +kernel
theorem dL_law_1010 : decode cL_law 1010 = .ok (.aload_n 1, 1) := by decide +kernel
theorem dL_law_1011 : decode cL_law 1011 = .ok (.aload_n 0, 1) := by decide +kernel
theorem dL_law_1012 : decode cL_law 1012 = .ok (.iload_n 3, 1) := by decide +kernel
theorem dL_law_1013 : decode cL_law 1013 = .ok (.iconst 1, 1) := by decide +kernel
theorem dL_law_1014 : decode cL_law 1014 = .ok (.iadd, 1) := by decide +kernel
theorem dL_law_1015 : decode cL_law 1015 = .ok (.iaload, 1) := by decide +kernel
theorem dL_law_1016 : decode cL_law 1016 = .ok (.aload_n 0, 1) := by decide +kernel
theorem dL_law_1017 : decode cL_law 1017 = .ok (.iload_n 3, 1) := by decide +kernel
theorem dL_law_1018 : decode cL_law 1018 = .ok (.iconst 2, 1) := by decide +kernel
theorem dL_law_1019 : decode cL_law 1019 = .ok (.iadd, 1) := by decide +kernel
theorem dL_law_1020 : decode cL_law 1020 = .ok (.iaload, 1) := by decide +kernel
theorem dL_law_1021 : decode cL_law 1021 = .ok (.aload_n 0, 1) := by decide +kernel
theorem dL_law_1022 : decode cL_law 1022 = .ok (.iload_n 3, 1) := by decide +kernel
theorem dL_law_1023 : decode cL_law 1023 = .ok (.iconst 3, 1) := by decide +kernel
theorem dL_law_1024 : decode cL_law 1024 = .ok (.iadd, 1) := by decide +kernel
theorem dL_law_1025 : decode cL_law 1025 = .ok (.iaload, 1) := by decide +kernel
theorem dL_law_1026 : decode cL_law 1026 = .ok (.invokevirtual 139, 3) := by decide +kernel
theorem dL_law_1029 : decode cL_law 1029 = .ok (.aload_n 2, 1) := by decide +kernel
theorem dL_law_1030 : decode cL_law 1030 = .ok (.aload_n 0, 1) := by decide +kernel
theorem dL_law_1031 : decode cL_law 1031 = .ok (.iload_n 3, 1) := by decide +kernel
theorem dL_law_1032 : decode cL_law 1032 = .ok (.iconst 1, 1) := by decide +kernel
theorem dL_law_1033 : decode cL_law 1033 = .ok (.iadd, 1) := by decide +kernel
theorem dL_law_1034 : decode cL_law 1034 = .ok (.iaload, 1) := by decide +kernel
theorem dL_law_1035 : decode cL_law 1035 = .ok (.aload_n 0, 1) := by decide +kernel
theorem dL_law_1036 : decode cL_law 1036 = .ok (.iload_n 3, 1) := by decide +kernel
theorem dL_law_1037 : decode cL_law 1037 = .ok (.iconst 2, 1) := by decide +kernel
theorem dL_law_1038 : decode cL_law 1038 = .ok (.iadd, 1) := by decide +kernel
theorem dL_law_1039 : decode cL_law 1039 = .ok (.iaload, 1) := by decide +kernel
theorem dL_law_1040 : decode cL_law 1040 = .ok (.aload_n 0, 1) := by decide +kernel
theorem dL_law_1041 : decode cL_law 1041 = .ok (.iload_n 3, 1) := by decide +kernel
theorem dL_law_1042 : decode cL_law 1042 = .ok (.iconst 3, 1) := by decide +kernel
theorem dL_law_1043 : decode cL_law 1043 = .ok (.iadd, 1) := by decide +kernel
theorem dL_law_1044 : decode cL_law 1044 = .ok (.iaload, 1) := by decide +kernel
theorem dL_law_1045 : decode cL_law 1045 = .ok (.invokevirtual 142, 3) := by decide +kernel
theorem dL_law_1048 : decode cL_law 1048 = .ok (.if_icmp .eq 168, 3) := by decide +kernel
theorem dL_law_1051 : decode cL_law 1051 = .ok (.iconst 0, 1) := by decide +kernel
theorem dL_law_1052 : decode cL_law 1052 = .ok (.ireturn, 1) := by decide +kernel
theorem dL_law_1053 : decode cL_law 1053 = .ok (.aload_n 1, 1) := by decide +kernel
theorem dL_law_1054 : decode cL_law 1054 = .ok (.aload_n 0, 1) := by decide +kernel
theorem dL_law_1055 : decode cL_law 1055 = .ok (.iload_n 3, 1) := by decide +kernel
theorem dL_law_1056 : decode cL_law 1056 = .ok (.iconst 1, 1) := by decide +kernel
theorem dL_law_1057 : decode cL_law 1057 = .ok (.iadd, 1) := by decide +kernel
theorem dL_law_1058 : decode cL_law 1058 = .ok (.iaload, 1) := by decide +kernel
theorem dL_law_1059 : decode cL_law 1059 = .ok (.aload_n 0, 1) := by decide +kernel
theorem dL_law_1060 : decode cL_law 1060 = .ok (.iload_n 3, 1) := by decide +kernel
theorem dL_law_1061 : decode cL_law 1061 = .ok (.iconst 2, 1) := by decide +kernel
theorem dL_law_1062 : decode cL_law 1062 = .ok (.iadd, 1) := by decide +kernel
theorem dL_law_1063 : decode cL_law 1063 = .ok (.iaload, 1) := by decide +kernel
theorem dL_law_1064 : decode cL_law 1064 = .ok (.invokevirtual 143, 3) := by decide +kernel
theorem dL_law_1067 : decode cL_law 1067 = .ok (.aload_n 2, 1) := by decide +kernel
theorem dL_law_1068 : decode cL_law 1068 = .ok (.aload_n 0, 1) := by decide +kernel
theorem dL_law_1069 : decode cL_law 1069 = .ok (.iload_n 3, 1) := by decide +kernel
theorem dL_law_1070 : decode cL_law 1070 = .ok (.iconst 1, 1) := by decide +kernel
theorem dL_law_1071 : decode cL_law 1071 = .ok (.iadd, 1) := by decide +kernel
theorem dL_law_1072 : decode cL_law 1072 = .ok (.iaload, 1) := by decide +kernel
theorem dL_law_1073 : decode cL_law 1073 = .ok (.aload_n 0, 1) := by decide +kernel
theorem dL_law_1074 : decode cL_law 1074 = .ok (.iload_n 3, 1) := by decide +kernel
theorem dL_law_1075 : decode cL_law 1075 = .ok (.iconst 2, 1) := by decide +kernel
theorem dL_law_1076 : decode cL_law 1076 = .ok (.iadd, 1) := by decide +kernel
theorem dL_law_1077 : decode cL_law 1077 = .ok (.iaload, 1) := by decide +kernel
theorem dL_law_1078 : decode cL_law 1078 = .ok (.invokevirtual 146, 3) := by decide +kernel
theorem dL_law_1081 : decode cL_law 1081 = .ok (.if_icmp .eq 135, 3) := by decide +kernel
theorem dL_law_1084 : decode cL_law 1084 = .ok (.iconst 0, 1) := by decide +kernel
theorem dL_law_1085 : decode cL_law 1085 = .ok (.ireturn, 1) := by decide +kernel
theorem dL_law_1086 : decode cL_law 1086 = .ok (.aload_n 1, 1) := by decide +kernel
theorem dL_law_1087 : decode cL_law 1087 = .ok (.aload_n 0, 1) := by decide +kernel
theorem dL_law_1088 : decode cL_law 1088 = .ok (.iload_n 3, 1) := by decide +kernel
theorem dL_law_1089 : decode cL_law 1089 = .ok (.iconst 1, 1) := by decide +kernel
theorem dL_law_1090 : decode cL_law 1090 = .ok (.iadd, 1) := by decide +kernel
theorem dL_law_1091 : decode cL_law 1091 = .ok (.iaload, 1) := by decide +kernel
theorem dL_law_1092 : decode cL_law 1092 = .ok (.invokevirtual 147, 3) := by decide +kernel
theorem dL_law_1095 : decode cL_law 1095 = .ok (.aload_n 2, 1) := by decide +kernel
theorem dL_law_1096 : decode cL_law 1096 = .ok (.aload_n 0, 1) := by decide +kernel
theorem dL_law_1097 : decode cL_law 1097 = .ok (.iload_n 3, 1) := by decide +kernel
theorem dL_law_1098 : decode cL_law 1098 = .ok (.iconst 1, 1) := by decide +kernel
theorem dL_law_1099 : decode cL_law 1099 = .ok (.iadd, 1) := by decide +kernel
theorem dL_law_1100 : decode cL_law 1100 = .ok (.iaload, 1) := by decide +kernel
theorem dL_law_1101 : decode cL_law 1101 = .ok (.invokevirtual 151, 3) := by decide +kernel
theorem dL_law_1104 : decode cL_law 1104 = .ok (.lcmp, 1) := by decide +kernel
theorem dL_law_1105 : decode cL_law 1105 = .ok (.ifCond .eq 111, 3) := by decide +kernel
theorem dL_law_1108 : decode cL_law 1108 = .ok (.iconst 0, 1) := by decide +kernel
theorem dL_law_1109 : decode cL_law 1109 = .ok (.ireturn, 1) := by decide +kernel
theorem dL_law_1110 : decode cL_law 1110 = .ok (.aload_n 1, 1) := by decide +kernel
theorem dL_law_1111 : decode cL_law 1111 = .ok (.aload_n 0, 1) := by decide +kernel
theorem dL_law_1112 : decode cL_law 1112 = .ok (.iload_n 3, 1) := by decide +kernel
theorem dL_law_1113 : decode cL_law 1113 = .ok (.iconst 1, 1) := by decide +kernel
theorem dL_law_1114 : decode cL_law 1114 = .ok (.iadd, 1) := by decide +kernel
theorem dL_law_1115 : decode cL_law 1115 = .ok (.iaload, 1) := by decide +kernel
theorem dL_law_1116 : decode cL_law 1116 = .ok (.invokevirtual 152, 3) := by decide +kernel
theorem dL_law_1119 : decode cL_law 1119 = .ok (.aload_n 2, 1) := by decide +kernel
theorem dL_law_1120 : decode cL_law 1120 = .ok (.aload_n 0, 1) := by decide +kernel
theorem dL_law_1121 : decode cL_law 1121 = .ok (.iload_n 3, 1) := by decide +kernel
theorem dL_law_1122 : decode cL_law 1122 = .ok (.iconst 1, 1) := by decide +kernel
theorem dL_law_1123 : decode cL_law 1123 = .ok (.iadd, 1) := by decide +kernel
theorem dL_law_1124 : decode cL_law 1124 = .ok (.iaload, 1) := by decide +kernel
theorem dL_law_1125 : decode cL_law 1125 = .ok (.invokevirtual 155, 3) := by decide +kernel
theorem dL_law_1128 : decode cL_law 1128 = .ok (.if_icmp .eq 88, 3) := by decide +kernel
theorem dL_law_1131 : decode cL_law 1131 = .ok (.iconst 0, 1) := by decide +kernel
theorem dL_law_1132 : decode cL_law 1132 = .ok (.ireturn, 1) := by decide +kernel
theorem dL_law_1133 : decode cL_law 1133 = .ok (.aload_n 1, 1) := by decide +kernel
theorem dL_law_1134 : decode cL_law 1134 = .ok (.aload_n 0, 1) := by decide +kernel
theorem dL_law_1135 : decode cL_law 1135 = .ok (.iload_n 3, 1) := by decide +kernel
theorem dL_law_1136 : decode cL_law 1136 = .ok (.iconst 1, 1) := by decide +kernel
theorem dL_law_1137 : decode cL_law 1137 = .ok (.iadd, 1) := by decide +kernel
theorem dL_law_1138 : decode cL_law 1138 = .ok (.iaload, 1) := by decide +kernel
theorem dL_law_1139 : decode cL_law 1139 = .ok (.invokevirtual 156, 3) := by decide +kernel
theorem dL_law_1142 : decode cL_law 1142 = .ok (.aload_n 2, 1) := by decide +kernel
theorem dL_law_1143 : decode cL_law 1143 = .ok (.aload_n 0, 1) := by decide +kernel
theorem dL_law_1144 : decode cL_law 1144 = .ok (.iload_n 3, 1) := by decide +kernel
theorem dL_law_1145 : decode cL_law 1145 = .ok (.iconst 1, 1) := by decide +kernel
theorem dL_law_1146 : decode cL_law 1146 = .ok (.iadd, 1) := by decide +kernel
theorem dL_law_1147 : decode cL_law 1147 = .ok (.iaload, 1) := by decide +kernel
theorem dL_law_1148 : decode cL_law 1148 = .ok (.invokevirtual 159, 3) := by decide +kernel
theorem dL_law_1151 : decode cL_law 1151 = .ok (.if_icmp .eq 65, 3) := by decide +kernel
theorem dL_law_1154 : decode cL_law 1154 = .ok (.iconst 0, 1) := by decide +kernel
theorem dL_law_1155 : decode cL_law 1155 = .ok (.ireturn, 1) := by decide +kernel
theorem dL_law_1156 : decode cL_law 1156 = .ok (.aload_n 1, 1) := by decide +kernel
theorem dL_law_1157 : decode cL_law 1157 = .ok (.aload_n 0, 1) := by decide +kernel
theorem dL_law_1158 : decode cL_law 1158 = .ok (.iload_n 3, 1) := by decide +kernel
theorem dL_law_1159 : decode cL_law 1159 = .ok (.iconst 1, 1) := by decide +kernel
theorem dL_law_1160 : decode cL_law 1160 = .ok (.iadd, 1) := by decide +kernel
theorem dL_law_1161 : decode cL_law 1161 = .ok (.iaload, 1) := by decide +kernel
theorem dL_law_1162 : decode cL_law 1162 = .ok (.invokevirtual 160, 3) := by decide +kernel
theorem dL_law_1165 : decode cL_law 1165 = .ok (.aload_n 2, 1) := by decide +kernel
theorem dL_law_1166 : decode cL_law 1166 = .ok (.aload_n 0, 1) := by decide +kernel
theorem dL_law_1167 : decode cL_law 1167 = .ok (.iload_n 3, 1) := by decide +kernel
theorem dL_law_1168 : decode cL_law 1168 = .ok (.iconst 1, 1) := by decide +kernel
theorem dL_law_1169 : decode cL_law 1169 = .ok (.iadd, 1) := by decide +kernel
theorem dL_law_1170 : decode cL_law 1170 = .ok (.iaload, 1) := by decide +kernel
theorem dL_law_1171 : decode cL_law 1171 = .ok (.invokevirtual 163, 3) := by decide +kernel
theorem dL_law_1174 : decode cL_law 1174 = .ok (.if_icmp .eq 42, 3) := by decide +kernel
theorem dL_law_1177 : decode cL_law 1177 = .ok (.iconst 0, 1) := by decide +kernel
theorem dL_law_1178 : decode cL_law 1178 = .ok (.ireturn, 1) := by decide +kernel
theorem dL_law_1179 : decode cL_law 1179 = .ok (.aload_n 1, 1) := by decide +kernel
theorem dL_law_1180 : decode cL_law 1180 = .ok (.aload_n 0, 1) := by decide +kernel
theorem dL_law_1181 : decode cL_law 1181 = .ok (.iload_n 3, 1) := by decide +kernel
theorem dL_law_1182 : decode cL_law 1182 = .ok (.iconst 1, 1) := by decide +kernel
theorem dL_law_1183 : decode cL_law 1183 = .ok (.iadd, 1) := by decide +kernel
theorem dL_law_1184 : decode cL_law 1184 = .ok (.iaload, 1) := by decide +kernel
theorem dL_law_1185 : decode cL_law 1185 = .ok (.invokevirtual 164, 3) := by decide +kernel
theorem dL_law_1188 : decode cL_law 1188 = .ok (.aload_n 2, 1) := by decide +kernel
theorem dL_law_1189 : decode cL_law 1189 = .ok (.aload_n 0, 1) := by decide +kernel
theorem dL_law_1190 : decode cL_law 1190 = .ok (.iload_n 3, 1) := by decide +kernel
theorem dL_law_1191 : decode cL_law 1191 = .ok (.iconst 1, 1) := by decide +kernel
theorem dL_law_1192 : decode cL_law 1192 = .ok (.iadd, 1) := by decide +kernel
theorem dL_law_1193 : decode cL_law 1193 = .ok (.iaload, 1) := by decide +kernel
theorem dL_law_1194 : decode cL_law 1194 = .ok (.invokevirtual 167, 3) := by decide +kernel
theorem dL_law_1197 : decode cL_law 1197 = .ok (.if_icmp .eq 19, 3) := by decide +kernel
theorem dL_law_1200 : decode cL_law 1200 = .ok (.iconst 0, 1) := by decide +kernel
theorem dL_law_1201 : decode cL_law 1201 = .ok (.ireturn, 1) := by decide +kernel
theorem dL_law_1202 : decode cL_law 1202 = .ok (.aload_n 1, 1) := by decide +kernel
theorem dL_law_1203 : decode cL_law 1203 = .ok (.invokevirtual 168, 3) := by decide +kernel
theorem dL_law_1206 : decode cL_law 1206 = .ok (.aload_n 2, 1) := by decide +kernel
theorem dL_law_1207 : decode cL_law 1207 = .ok (.invokevirtual 172, 3) := by decide +kernel
theorem dL_law_1210 : decode cL_law 1210 = .ok (.lcmp, 1) := by decide +kernel
theorem dL_law_1211 : decode cL_law 1211 = .ok (.ifCond .eq 5, 3) := by decide +kernel
theorem dL_law_1214 : decode cL_law 1214 = .ok (.iconst 0, 1) := by decide +kernel
theorem dL_law_1215 : decode cL_law 1215 = .ok (.ireturn, 1) := by decide +kernel
theorem dL_law_1216 : decode cL_law 1216 = .ok (.iinc 3 6, 3) := by decide +kernel
theorem dL_law_1219 : decode cL_law 1219 = .ok (.goto (-1201), 3) := by decide +kernel
theorem dL_law_1222 : decode cL_law 1222 = .ok (.iconst 1, 1) := by decide +kernel
theorem dL_law_1223 : decode cL_law 1223 = .ok (.ireturn, 1) := by decide +kernel
