theorem dX8_init_0 : decode cX8_init 0 = .ok (.aload_n 0, 1) := by decide +kernel
theorem dX8_init_1 : decode cX8_init 1 = .ok (.invokespecial 1, 3) := by decide +kernel
theorem dX8_init_4 : decode cX8_init 4 = .ok (.aload_n 0, 1) := by decide +kernel
theorem dX8_init_5 : decode cX8_init 5 = .ok (.iconst 2, 1) := by decide +kernel
theorem dX8_init_6 : decode cX8_init 6 = .ok (.newarray .int, 2) := by decide +kernel
theorem dX8_init_8 : decode cX8_init 8 = .ok (.putfield 7, 3) := by decide +kernel
theorem dX8_init_11 : decode cX8_init 11 = .ok (.aload_n 0, 1) := by decide +kernel
theorem dX8_init_12 : decode cX8_init 12 = .ok (.bipush 78, 2) := by decide +kernel
theorem dX8_init_14 : decode cX8_init 14 = .ok (.newarray .int, 2) := by decide +kernel
theorem dX8_init_16 : decode cX8_init 16 = .ok (.putfield 13, 3) := by decide +kernel
theorem dX8_init_19 : decode cX8_init 19 = .ok (.aload_n 0, 1) := by decide +kernel
theorem dX8_init_20 : decode cX8_init 20 = .ok (.bipush 9, 2) := by decide +kernel
theorem dX8_init_22 : decode cX8_init 22 = .ok (.newarray .int, 2) := by decide +kernel
theorem dX8_init_24 : decode cX8_init 24 = .ok (.putfield 16, 3) := by decide +kernel
theorem dX8_init_27 : decode cX8_init 27 = .ok (.aload_n 0, 1) := by decide +kernel
theorem dX8_init_28 : decode cX8_init 28 = .ok (.bipush 9, 2) := by decide +kernel
theorem dX8_init_30 : decode cX8_init 30 = .ok (.newarray .int, 2) := by decide +kernel
theorem dX8_init_32 : decode cX8_init 32 = .ok (.putfield 19, 3) := by decide +kernel
theorem dX8_init_35 : decode cX8_init 35 = .ok (.aload_n 0, 1) := by decide +kernel
theorem dX8_init_36 : decode cX8_init 36 = .ok (.bipush 9, 2) := by decide +kernel
theorem dX8_init_38 : decode cX8_init 38 = .ok (.newarray .int, 2) := by decide +kernel
theorem dX8_init_40 : decode cX8_init 40 = .ok (.putfield 22, 3) := by decide +kernel
theorem dX8_init_43 : decode cX8_init 43 = .ok (.aload_n 0, 1) := by decide +kernel
theorem dX8_init_44 : decode cX8_init 44 = .ok (.bipush 9, 2) := by decide +kernel
theorem dX8_init_46 : decode cX8_init 46 = .ok (.newarray .int, 2) := by decide +kernel
theorem dX8_init_48 : decode cX8_init 48 = .ok (.putfield 25, 3) := by decide +kernel
theorem dX8_init_51 : decode cX8_init 51 = .ok (.aload_n 0, 1) := by decide +kernel
theorem dX8_init_52 : decode cX8_init 52 = .ok (.bipush 9, 2) := by decide +kernel
theorem dX8_init_54 : decode cX8_init 54 = .ok (.newarray .int, 2) := by decide +kernel
theorem dX8_init_56 : decode cX8_init 56 = .ok (.putfield 28, 3) := by decide +kernel
theorem dX8_init_59 : decode cX8_init 59 = .ok (.aload_n 0, 1) := by decide +kernel
theorem dX8_init_60 : decode cX8_init 60 = .ok (.bipush 9, 2) := by decide +kernel
theorem dX8_init_62 : decode cX8_init 62 = .ok (.newarray .int, 2) := by decide +kernel
theorem dX8_init_64 : decode cX8_init 64 = .ok (.putfield 31, 3) := by decide +kernel
theorem dX8_init_67 : decode cX8_init 67 = .ok (.aload_n 0, 1) := by decide +kernel
theorem dX8_init_68 : decode cX8_init 68 = .ok (.bipush 9, 2) := by decide +kernel
theorem dX8_init_70 : decode cX8_init 70 = .ok (.newarray .int, 2) := by decide +kernel
theorem dX8_init_72 : decode cX8_init 72 = .ok (.putfield 34, 3) := by decide +kernel
theorem dX8_init_75 : decode cX8_init 75 = .ok (.aload_n 0, 1) := by decide +kernel
theorem dX8_init_76 : decode cX8_init 76 = .ok (.sipush 400, 3) := by decide +kernel
theorem dX8_init_79 : decode cX8_init 79 = .ok (.newarray .int, 2) := by decide +kernel
theorem dX8_init_81 : decode cX8_init 81 = .ok (.putfield 37, 3) := by decide +kernel
theorem dX8_init_84 : decode cX8_init 84 = .ok (.aload_n 0, 1) := by decide +kernel
theorem dX8_init_85 : decode cX8_init 85 = .ok (.sipush 400, 3) := by decide +kernel
theorem dX8_init_88 : decode cX8_init 88 = .ok (.newarray .boolean, 2) := by decide +kernel
theorem dX8_init_90 : decode cX8_init 90 = .ok (.putfield 40, 3) := by decide +kernel
theorem dX8_init_93 : decode cX8_init 93 = .ok (.aload_n 0, 1) := by decide +kernel
theorem dX8_init_94 : decode cX8_init 94 = .ok (.bipush 72, 2) := by decide +kernel
theorem dX8_init_96 : decode cX8_init 96 = .ok (.newarray .int, 2) := by decide +kernel
theorem dX8_init_98 : decode cX8_init 98 = .ok (.putfield 44, 3) := by decide +kernel
theorem dX8_init_101 : decode cX8_init 101 = .ok (.aload_n 0, 1) := by decide +kernel
theorem dX8_init_102 : decode cX8_init 102 = .ok (.bipush 72, 2) := by decide +kernel
theorem dX8_init_104 : decode cX8_init 104 = .ok (.newarray .boolean, 2) := by decide +kernel
theorem dX8_init_106 : decode cX8_init 106 = .ok (.putfield 47, 3) := by decide +kernel
theorem dX8_init_109 : decode cX8_init 109 = .ok (.aload_n 0, 1) := by decide +kernel
theorem dX8_init_110 : decode cX8_init 110 = .ok (.bipush 8, 2) := by decide +kernel
theorem dX8_init_112 : decode cX8_init 112 = .ok (.newarray .int, 2) := by decide +kernel
theorem dX8_init_114 : decode cX8_init 114 = .ok (.putfield 50, 3) := by decide +kernel
theorem dX8_init_117 : decode cX8_init 117 = .ok (.aload_n 0, 1) := by decide +kernel
theorem dX8_init_118 : decode cX8_init 118 = .ok (.iconst 2, 1) := by decide +kernel
theorem dX8_init_119 : decode cX8_init 119 = .ok (.newarray .int, 2) := by decide +kernel
theorem dX8_init_121 : decode cX8_init 121 = .ok (.putfield 53, 3) := by decide +kernel
theorem dX8_init_124 : decode cX8_init 124 = .ok (.aload_n 0, 1) := by decide +kernel
theorem dX8_init_125 : decode cX8_init 125 = .ok (.bipush 8, 2) := by decide +kernel
theorem dX8_init_127 : decode cX8_init 127 = .ok (.newarray .int, 2) := by decide +kernel
theorem dX8_init_129 : decode cX8_init 129 = .ok (.putfield 56, 3) := by decide +kernel
theorem dX8_init_132 : decode cX8_init 132 = .ok (.aload_n 0, 1) := by decide +kernel
theorem dX8_init_133 : decode cX8_init 133 = .ok (.bipush 8, 2) := by decide +kernel
theorem dX8_init_135 : decode cX8_init 135 = .ok (.newarray .int, 2) := by decide +kernel
theorem dX8_init_137 : decode cX8_init 137 = .ok (.putfield 59, 3) := by decide +kernel
theorem dX8_init_140 : decode cX8_init 140 = .ok (.aload_n 0, 1) := by decide +kernel
theorem dX8_init_141 : decode cX8_init 141 = .ok (.bipush 8, 2) := by decide +kernel
theorem dX8_init_143 : decode cX8_init 143 = .ok (.newarray .int, 2) := by decide +kernel
theorem dX8_init_145 : decode cX8_init 145 = .ok (.putfield 62, 3) := by decide +kernel
theorem dX8_init_148 : decode cX8_init 148 = .ok (.aload_n 0, 1) := by decide +kernel
theorem dX8_init_149 : decode cX8_init 149 = .ok (.bipush 64, 2) := by decide +kernel
theorem dX8_init_151 : decode cX8_init 151 = .ok (.newarray .int, 2) := by decide +kernel
theorem dX8_init_153 : decode cX8_init 153 = .ok (.putfield 65, 3) := by decide +kernel
theorem dX8_init_156 : decode cX8_init 156 = .ok (.aload_n 0, 1) := by decide +kernel
theorem dX8_init_157 : decode cX8_init 157 = .ok (.bipush 8, 2) := by decide +kernel
theorem dX8_init_159 : decode cX8_init 159 = .ok (.newarray .int, 2) := by decide +kernel
theorem dX8_init_161 : decode cX8_init 161 = .ok (.putfield 68, 3) := by decide +kernel
theorem dX8_init_164 : decode cX8_init 164 = .ok (.aload_n 0, 1) := by decide +kernel
theorem dX8_init_165 : decode cX8_init 165 = .ok (.iconst 4, 1) := by decide +kernel
theorem dX8_init_166 : decode cX8_init 166 = .ok (.newarray .boolean, 2) := by decide +kernel
theorem dX8_init_168 : decode cX8_init 168 = .ok (.putfield 71, 3) := by decide +kernel
theorem dX8_init_171 : decode cX8_init 171 = .ok (.aload_n 0, 1) := by decide +kernel
theorem dX8_init_172 : decode cX8_init 172 = .ok (.iconst 4, 1) := by decide +kernel
theorem dX8_init_173 : decode cX8_init 173 = .ok (.newarray .int, 2) := by decide +kernel
theorem dX8_init_175 : decode cX8_init 175 = .ok (.putfield 74, 3) := by decide +kernel
theorem dX8_init_178 : decode cX8_init 178 = .ok (.aload_n 0, 1) := by decide +kernel
theorem dX8_init_179 : decode cX8_init 179 = .ok (.iconst 4, 1) := by decide +kernel
theorem dX8_init_180 : decode cX8_init 180 = .ok (.newarray .int, 2) := by decide +kernel
theorem dX8_init_182 : decode cX8_init 182 = .ok (.putfield 77, 3) := by decide +kernel
theorem dX8_init_185 : decode cX8_init 185 = .ok (.aload_n 0, 1) := by decide +kernel
theorem dX8_init_186 : decode cX8_init 186 = .ok (.sipush 240, 3) := by decide +kernel
theorem dX8_init_189 : decode cX8_init 189 = .ok (.newarray .int, 2) := by decide +kernel
theorem dX8_init_191 : decode cX8_init 191 = .ok (.putfield 80, 3) := by decide +kernel
theorem dX8_init_194 : decode cX8_init 194 = .ok (.aload_n 0, 1) := by decide +kernel
theorem dX8_init_195 : decode cX8_init 195 = .ok (.bipush 60, 2) := by decide +kernel
theorem dX8_init_197 : decode cX8_init 197 = .ok (.newarray .int, 2) := by decide +kernel
theorem dX8_init_199 : decode cX8_init 199 = .ok (.putfield 83, 3) := by decide +kernel
theorem dX8_init_202 : decode cX8_init 202 = .ok (.aload_n 0, 1) := by decide +kernel
theorem dX8_init_203 : decode cX8_init 203 = .ok (.iconst 1, 1) := by decide +kernel
theorem dX8_init_204 : decode cX8_init 204 = .ok (.putfield 86, 3) := by decide +kernel
theorem dX8_init_207 : decode cX8_init 207 = .ok (.aload_n 0, 1) := by decide +kernel
theorem dX8_init_208 : decode cX8_init 208 = .ok (.iconst 2, 1) := by decide +kernel
theorem dX8_init_209 : decode cX8_init 209 = .ok (.putfield 90, 3) := by decide +kernel
theorem dX8_init_212 : decode cX8_init 212 = .ok (.aload_n 0, 1) := by decide +kernel
theorem dX8_init_213 : decode cX8_init 213 = .ok (.iconst 2, 1) := by decide +kernel
theorem dX8_init_214 : decode cX8_init 214 = .ok (.putfield 93, 3) := by decide +kernel
theorem dX8_init_217 : decode cX8_init 217 = .ok (.return_, 1) := by decide +kernel
theorem dX8_in_0 : decode cX8_in 0 = .ok (.iload_n 0, 1) := by decide +kernel
theorem dX8_in_1 : decode cX8_in 1 = .ok (.iload_n 1, 1) := by decide +kernel
theorem dX8_in_2 : decode cX8_in 2 = .ok (.if_icmp .lt 12, 3) := by decide +kernel
theorem dX8_in_5 : decode cX8_in 5 = .ok (.iload_n 0, 1) := by decide +kernel
theorem dX8_in_6 : decode cX8_in 6 = .ok (.iload_n 2, 1) := by decide +kernel
theorem dX8_in_7 : decode cX8_in 7 = .ok (.if_icmp .gt 7, 3) := by decide +kernel
theorem dX8_in_10 : decode cX8_in 10 = .ok (.iconst 1, 1) := by decide +kernel
theorem dX8_in_11 : decode cX8_in 11 = .ok (.goto 4, 3) := by decide +kernel
theorem dX8_in_14 : decode cX8_in 14 = .ok (.iconst 0, 1) := by decide +kernel
theorem dX8_in_15 : decode cX8_in 15 = .ok (.ireturn, 1) := by decide +kernel
theorem dX8_isIn_0 : decode cX8_isIn 0 = .ok (.iload_n 0, 1) := by decide +kernel
theorem dX8_isIn_1 : decode cX8_isIn 1 = .ok (.iload_n 1, 1) := by decide +kernel
theorem dX8_isIn_2 : decode cX8_isIn 2 = .ok (.ishr, 1) := by decide +kernel
theorem dX8_isIn_3 : decode cX8_isIn 3 = .ok (.iconst 1, 1) := by decide +kernel
theorem dX8_isIn_4 : decode cX8_isIn 4 = .ok (.iand, 1) := by decide +kernel
theorem dX8_isIn_5 : decode cX8_isIn 5 = .ok (.iconst 1, 1) := by decide +kernel
theorem dX8_isIn_6 : decode cX8_isIn 6 = .ok (.if_icmp .ne 7, 3) := by decide +kernel
theorem dX8_isIn_9 : decode cX8_isIn 9 = .ok (.iconst 1, 1) := by decide +kernel
theorem dX8_isIn_10 : decode cX8_isIn 10 = .ok (.goto 4, 3) := by decide +kernel
theorem dX8_isIn_13 : decode cX8_isIn 13 = .ok (.iconst 0, 1) := by decide +kernel
theorem dX8_isIn_14 : decode cX8_isIn 14 = .ok (.ireturn, 1) := by decide +kernel
theorem dX8_ones_0 : decode cX8_ones 0 = .ok (.iconst 0, 1) := by decide +kernel
theorem dX8_ones_1 : decode cX8_ones 1 = .ok (.istore_n 1, 1) := by decide +kernel
theorem dX8_ones_2 : decode cX8_ones 2 = .ok (.iconst 0, 1) := by decide +kernel
theorem dX8_ones_3 : decode cX8_ones 3 = .ok (.istore_n 2, 1) := by decide +kernel
theorem dX8_ones_4 : decode cX8_ones 4 = .ok (.iload_n 2, 1) := by decide +kernel
theorem dX8_ones_5 : decode cX8_ones 5 = .ok (.bipush 8, 2) := by decide +kernel
theorem dX8_ones_7 : decode cX8_ones 7 = .ok (.if_icmp .ge 17, 3) := by decide +kernel
theorem dX8_ones_10 : decode cX8_ones 10 = .ok (.iload_n 1, 1) := by decide +kernel
theorem dX8_ones_11 : decode cX8_ones 11 = .ok (.iload_n 0, 1) := by decide +kernel
theorem dX8_ones_12 : decode cX8_ones 12 = .ok (.iload_n 2, 1) := by decide +kernel
theorem dX8_ones_13 : decode cX8_ones 13 = .ok (.ishr, 1) := by decide +kernel
theorem dX8_ones_14 : decode cX8_ones 14 = .ok (.iconst 1, 1) := by decide +kernel
theorem dX8_ones_15 : decode cX8_ones 15 = .ok (.iand, 1) := by decide +kernel
theorem dX8_ones_16 : decode cX8_ones 16 = .ok (.iadd, 1) := by decide +kernel
theorem dX8_ones_17 : decode cX8_ones 17 = .ok (.istore_n 1, 1) := by decide +kernel
theorem dX8_ones_18 : decode cX8_ones 18 = .ok (.iinc 2 1, 3) := by decide +kernel
theorem dX8_ones_21 : decode cX8_ones 21 = .ok (.goto (-17), 3) := by decide +kernel
theorem dX8_ones_24 : decode cX8_ones 24 = .ok (.iload_n 1, 1) := by decide +kernel
theorem dX8_ones_25 : decode cX8_ones 25 = .ok (.ireturn, 1) := by decide +kernel
theorem dX8_no_0 : decode cX8_no 0 = .ok (.ldc2_w 96, 3) := by decide +kernel
theorem dX8_no_3 : decode cX8_no 3 = .ok (.iload_n 0, 1) := by decide +kernel
theorem dX8_no_4 : decode cX8_no 4 = .ok (.i2l, 1) := by decide +kernel
theorem dX8_no_5 : decode cX8_no 5 = .ok (.lsub, 1) := by decide +kernel
theorem dX8_no_6 : decode cX8_no 6 = .ok (.lreturn, 1) := by decide +kernel
theorem dX8_lowest_0 : decode cX8_lowest 0 = .ok (.lload_n 0, 1) := by decide +kernel
theorem dX8_lowest_1 : decode cX8_lowest 1 = .ok (.lstore 5, 2) := by decide +kernel
theorem dX8_lowest_3 : decode cX8_lowest 3 = .ok (.lload_n 2, 1) := by decide +kernel
theorem dX8_lowest_4 : decode cX8_lowest 4 = .ok (.lstore 7, 2) := by decide +kernel
theorem dX8_lowest_6 : decode cX8_lowest 6 = .ok (.lload 7, 2) := by decide +kernel
theorem dX8_lowest_8 : decode cX8_lowest 8 = .ok (.lconst 0, 1) := by decide +kernel
theorem dX8_lowest_9 : decode cX8_lowest 9 = .ok (.lcmp, 1) := by decide +kernel
theorem dX8_lowest_10 : decode cX8_lowest 10 = .ok (.ifCond .eq 21, 3) := by decide +kernel
theorem dX8_lowest_13 : decode cX8_lowest 13 = .ok (.lload 5, 2) := by decide +kernel
theorem dX8_lowest_15 : decode cX8_lowest 15 = .ok (.lload 7, 2) := by decide +kernel
theorem dX8_lowest_17 : decode cX8_lowest 17 = .ok (.lrem, 1) := by decide +kernel
theorem dX8_lowest_18 : decode cX8_lowest 18 = .ok (.lstore 9, 2) := by decide +kernel
theorem dX8_lowest_20 : decode cX8_lowest 20 = .ok (.lload 7, 2) := by decide +kernel
theorem dX8_lowest_22 : decode cX8_lowest 22 = .ok (.lstore 5, 2) := by decide +kernel
theorem dX8_lowest_24 : decode cX8_lowest 24 = .ok (.lload 9, 2) := by decide +kernel
theorem dX8_lowest_26 : decode cX8_lowest 26 = .ok (.lstore 7, 2) := by decide +kernel
theorem dX8_lowest_28 : decode cX8_lowest 28 = .ok (.goto (-22), 3) := by decide +kernel
theorem dX8_lowest_31 : decode cX8_lowest 31 = .ok (.iload 4, 2) := by decide +kernel
theorem dX8_lowest_33 : decode cX8_lowest 33 = .ok (.ifCond .ne 10, 3) := by decide +kernel
theorem dX8_lowest_36 : decode cX8_lowest 36 = .ok (.lload_n 0, 1) := by decide +kernel
theorem dX8_lowest_37 : decode cX8_lowest 37 = .ok (.lload 5, 2) := by decide +kernel
theorem dX8_lowest_39 : decode cX8_lowest 39 = .ok (.ldiv, 1) := by decide +kernel
theorem dX8_lowest_40 : decode cX8_lowest 40 = .ok (.goto 7, 3) := by decide +kernel
theorem dX8_lowest_43 : decode cX8_lowest 43 = .ok (.lload_n 2, 1) := by decide +kernel
theorem dX8_lowest_44 : decode cX8_lowest 44 = .ok (.lload 5, 2) := by decide +kernel
theorem dX8_lowest_46 : decode cX8_lowest 46 = .ok (.ldiv, 1) := by decide +kernel
theorem dX8_lowest_47 : decode cX8_lowest 47 = .ok (.lreturn, 1) := by decide +kernel
theorem dX8_isText_0 : decode cX8_isText 0 = .ok (.iload_n 0, 1) := by decide +kernel
theorem dX8_isText_1 : decode cX8_isText 1 = .ok (.iconst 0, 1) := by decide +kernel
theorem dX8_isText_2 : decode cX8_isText 2 = .ok (.iconst 1, 1) := by decide +kernel
theorem dX8_isText_3 : decode cX8_isText 3 = .ok (.invokestatic 98, 3) := by decide +kernel
theorem dX8_isText_6 : decode cX8_isText 6 = .ok (.ireturn, 1) := by decide +kernel
theorem dX8_isHour_0 : decode cX8_isHour 0 = .ok (.iload_n 0, 1) := by decide +kernel
theorem dX8_isHour_1 : decode cX8_isHour 1 = .ok (.iconst 0, 1) := by decide +kernel
theorem dX8_isHour_2 : decode cX8_isHour 2 = .ok (.bipush 49, 2) := by decide +kernel
theorem dX8_isHour_4 : decode cX8_isHour 4 = .ok (.invokestatic 98, 3) := by decide +kernel
theorem dX8_isHour_7 : decode cX8_isHour 7 = .ok (.ireturn, 1) := by decide +kernel
theorem dX8_type_0 : decode cX8_type 0 = .ok (.iload_n 1, 1) := by decide +kernel
theorem dX8_type_1 : decode cX8_type 1 = .ok (.invokestatic 102, 3) := by decide +kernel
theorem dX8_type_4 : decode cX8_type 4 = .ok (.ifCond .eq 14, 3) := by decide +kernel
theorem dX8_type_7 : decode cX8_type 7 = .ok (.iload_n 2, 1) := by decide +kernel
theorem dX8_type_8 : decode cX8_type 8 = .ok (.iconst 0, 1) := by decide +kernel
theorem dX8_type_9 : decode cX8_type 9 = .ok (.sipush 255, 3) := by decide +kernel
theorem dX8_type_12 : decode cX8_type 12 = .ok (.invokestatic 98, 3) := by decide +kernel
theorem dX8_type_15 : decode cX8_type 15 = .ok (.ifCond .ne 6, 3) := by decide +kernel
theorem dX8_type_18 : decode cX8_type 18 = .ok (.bipush (-2), 2) := by decide +kernel
theorem dX8_type_20 : decode cX8_type 20 = .ok (.ireturn, 1) := by decide +kernel
theorem dX8_type_21 : decode cX8_type 21 = .ok (.aload_n 0, 1) := by decide +kernel
theorem dX8_type_22 : decode cX8_type 22 = .ok (.getfield 7, 3) := by decide +kernel
theorem dX8_type_25 : decode cX8_type 25 = .ok (.iload_n 1, 1) := by decide +kernel
theorem dX8_type_26 : decode cX8_type 26 = .ok (.iaload, 1) := by decide +kernel
theorem dX8_type_27 : decode cX8_type 27 = .ok (.bipush 39, 2) := by decide +kernel
theorem dX8_type_29 : decode cX8_type 29 = .ok (.if_icmp .ne 6, 3) := by decide +kernel
theorem dX8_type_32 : decode cX8_type 32 = .ok (.bipush (-4), 2) := by decide +kernel
theorem dX8_type_34 : decode cX8_type 34 = .ok (.ireturn, 1) := by decide +kernel
theorem dX8_type_35 : decode cX8_type 35 = .ok (.aload_n 0, 1) := by decide +kernel
theorem dX8_type_36 : decode cX8_type 36 = .ok (.getfield 13, 3) := by decide +kernel
theorem dX8_type_39 : decode cX8_type 39 = .ok (.bipush 39, 2) := by decide +kernel
theorem dX8_type_41 : decode cX8_type 41 = .ok (.iload_n 1, 1) := by decide +kernel
theorem dX8_type_42 : decode cX8_type 42 = .ok (.imul, 1) := by decide +kernel
theorem dX8_type_43 : decode cX8_type 43 = .ok (.aload_n 0, 1) := by decide +kernel
theorem dX8_type_44 : decode cX8_type 44 = .ok (.getfield 7, 3) := by decide +kernel
theorem dX8_type_47 : decode cX8_type 47 = .ok (.iload_n 1, 1) := by decide +kernel
theorem dX8_type_48 : decode cX8_type 48 = .ok (.iaload, 1) := by decide +kernel
theorem dX8_type_49 : decode cX8_type 49 = .ok (.iadd, 1) := by decide +kernel
theorem dX8_type_50 : decode cX8_type 50 = .ok (.iload_n 2, 1) := by decide +kernel
theorem dX8_type_51 : decode cX8_type 51 = .ok (.iastore, 1) := by decide +kernel
theorem dX8_type_52 : decode cX8_type 52 = .ok (.aload_n 0, 1) := by decide +kernel
theorem dX8_type_53 : decode cX8_type 53 = .ok (.getfield 7, 3) := by decide +kernel
theorem dX8_type_56 : decode cX8_type 56 = .ok (.iload_n 1, 1) := by decide +kernel
theorem dX8_type_57 : decode cX8_type 57 = .ok (.dup2, 1) := by decide +kernel
theorem dX8_type_58 : decode cX8_type 58 = .ok (.iaload, 1) := by decide +kernel
theorem dX8_type_59 : decode cX8_type 59 = .ok (.iconst 1, 1) := by decide +kernel
theorem dX8_type_60 : decode cX8_type 60 = .ok (.iadd, 1) := by decide +kernel
theorem dX8_type_61 : decode cX8_type 61 = .ok (.iastore, 1) := by decide +kernel
theorem dX8_type_62 : decode cX8_type 62 = .ok (.aload_n 0, 1) := by decide +kernel
theorem dX8_type_63 : decode cX8_type 63 = .ok (.getfield 7, 3) := by decide +kernel
theorem dX8_type_66 : decode cX8_type 66 = .ok (.iload_n 1, 1) := by decide +kernel
theorem dX8_type_67 : decode cX8_type 67 = .ok (.iaload, 1) := by decide +kernel
theorem dX8_type_68 : decode cX8_type 68 = .ok (.ireturn, 1) := by decide +kernel
theorem dX8_wipe_0 : decode cX8_wipe 0 = .ok (.iload_n 1, 1) := by decide +kernel
theorem dX8_wipe_1 : decode cX8_wipe 1 = .ok (.invokestatic 102, 3) := by decide +kernel
theorem dX8_wipe_4 : decode cX8_wipe 4 = .ok (.ifCond .ne 6, 3) := by decide +kernel
theorem dX8_wipe_7 : decode cX8_wipe 7 = .ok (.bipush (-2), 2) := by decide +kernel
theorem dX8_wipe_9 : decode cX8_wipe 9 = .ok (.ireturn, 1) := by decide +kernel
theorem dX8_wipe_10 : decode cX8_wipe 10 = .ok (.aload_n 0, 1) := by decide +kernel
theorem dX8_wipe_11 : decode cX8_wipe 11 = .ok (.getfield 7, 3) := by decide +kernel
theorem dX8_wipe_14 : decode cX8_wipe 14 = .ok (.iload_n 1, 1) := by decide +kernel
theorem dX8_wipe_15 : decode cX8_wipe 15 = .ok (.iaload, 1) := by decide +kernel
theorem dX8_wipe_16 : decode cX8_wipe 16 = .ok (.istore_n 2, 1) := by decide +kernel
theorem dX8_wipe_17 : decode cX8_wipe 17 = .ok (.aload_n 0, 1) := by decide +kernel
theorem dX8_wipe_18 : decode cX8_wipe 18 = .ok (.getfield 7, 3) := by decide +kernel
theorem dX8_wipe_21 : decode cX8_wipe 21 = .ok (.iload_n 1, 1) := by decide +kernel
theorem dX8_wipe_22 : decode cX8_wipe 22 = .ok (.iconst 0, 1) := by decide +kernel
theorem dX8_wipe_23 : decode cX8_wipe 23 = .ok (.iastore, 1) := by decide +kernel
theorem dX8_wipe_24 : decode cX8_wipe 24 = .ok (.iload_n 2, 1) := by decide +kernel
theorem dX8_wipe_25 : decode cX8_wipe 25 = .ok (.ireturn, 1) := by decide +kernel
theorem dX8_undo_0 : decode cX8_undo 0 = .ok (.iload_n 1, 1) := by decide +kernel
theorem dX8_undo_1 : decode cX8_undo 1 = .ok (.invokestatic 102, 3) := by decide +kernel
theorem dX8_undo_4 : decode cX8_undo 4 = .ok (.ifCond .ne 6, 3) := by decide +kernel
theorem dX8_undo_7 : decode cX8_undo 7 = .ok (.bipush (-2), 2) := by decide +kernel
theorem dX8_undo_9 : decode cX8_undo 9 = .ok (.ireturn, 1) := by decide +kernel
theorem dX8_undo_10 : decode cX8_undo 10 = .ok (.aload_n 0, 1) := by decide +kernel
theorem dX8_undo_11 : decode cX8_undo 11 = .ok (.getfield 7, 3) := by decide +kernel
theorem dX8_undo_14 : decode cX8_undo 14 = .ok (.iload_n 1, 1) := by decide +kernel
theorem dX8_undo_15 : decode cX8_undo 15 = .ok (.iaload, 1) := by decide +kernel
theorem dX8_undo_16 : decode cX8_undo 16 = .ok (.ifCond .ne 6, 3) := by decide +kernel
theorem dX8_undo_19 : decode cX8_undo 19 = .ok (.bipush (-3), 2) := by decide +kernel
theorem dX8_undo_21 : decode cX8_undo 21 = .ok (.ireturn, 1) := by decide +kernel
theorem dX8_undo_22 : decode cX8_undo 22 = .ok (.aload_n 0, 1) := by decide +kernel
theorem dX8_undo_23 : decode cX8_undo 23 = .ok (.getfield 7, 3) := by decide +kernel
theorem dX8_undo_26 : decode cX8_undo 26 = .ok (.iload_n 1, 1) := by decide +kernel
theorem dX8_undo_27 : decode cX8_undo 27 = .ok (.dup2, 1) := by decide +kernel
theorem dX8_undo_28 : decode cX8_undo 28 = .ok (.iaload, 1) := by decide +kernel
theorem dX8_undo_29 : decode cX8_undo 29 = .ok (.iconst 1, 1) := by decide +kernel
theorem dX8_undo_30 : decode cX8_undo 30 = .ok (.isub, 1) := by decide +kernel
theorem dX8_undo_31 : decode cX8_undo 31 = .ok (.iastore, 1) := by decide +kernel
theorem dX8_undo_32 : decode cX8_undo 32 = .ok (.aload_n 0, 1) := by decide +kernel
theorem dX8_undo_33 : decode cX8_undo 33 = .ok (.getfield 7, 3) := by decide +kernel
theorem dX8_undo_36 : decode cX8_undo 36 = .ok (.iload_n 1, 1) := by decide +kernel
theorem dX8_undo_37 : decode cX8_undo 37 = .ok (.iaload, 1) := by decide +kernel
theorem dX8_undo_38 : decode cX8_undo 38 = .ok (.ireturn, 1) := by decide +kernel
theorem dX8_byteAt_0 : decode cX8_byteAt 0 = .ok (.iload_n 2, 1) := by decide +kernel
theorem dX8_byteAt_1 : decode cX8_byteAt 1 = .ok (.aload_n 0, 1) := by decide +kernel
theorem dX8_byteAt_2 : decode cX8_byteAt 2 = .ok (.getfield 7, 3) := by decide +kernel
theorem dX8_byteAt_5 : decode cX8_byteAt 5 = .ok (.iload_n 1, 1) := by decide +kernel
theorem dX8_byteAt_6 : decode cX8_byteAt 6 = .ok (.iaload, 1) := by decide +kernel
theorem dX8_byteAt_7 : decode cX8_byteAt 7 = .ok (.if_icmp .ge 17, 3) := by decide +kernel
theorem dX8_byteAt_10 : decode cX8_byteAt 10 = .ok (.aload_n 0, 1) := by decide +kernel
theorem dX8_byteAt_11 : decode cX8_byteAt 11 = .ok (.getfield 13, 3) := by decide +kernel
theorem dX8_byteAt_14 : decode cX8_byteAt 14 = .ok (.bipush 39, 2) := by decide +kernel
theorem dX8_byteAt_16 : decode cX8_byteAt 16 = .ok (.iload_n 1, 1) := by decide +kernel
theorem dX8_byteAt_17 : decode cX8_byteAt 17 = .ok (.imul, 1) := by decide +kernel
theorem dX8_byteAt_18 : decode cX8_byteAt 18 = .ok (.iload_n 2, 1) := by decide +kernel
theorem dX8_byteAt_19 : decode cX8_byteAt 19 = .ok (.iadd, 1) := by decide +kernel
theorem dX8_byteAt_20 : decode cX8_byteAt 20 = .ok (.iaload, 1) := by decide +kernel
theorem dX8_byteAt_21 : decode cX8_byteAt 21 = .ok (.goto 4, 3) := by decide +kernel
theorem dX8_byteAt_24 : decode cX8_byteAt 24 = .ok (.iconst (-1), 1) := by decide +kernel
theorem dX8_byteAt_25 : decode cX8_byteAt 25 = .ok (.ireturn, 1) := by decide +kernel
theorem dX8_figureAt_0 : decode cX8_figureAt 0 = .ok (.aload_n 0, 1) := by decide +kernel
theorem dX8_figureAt_1 : decode cX8_figureAt 1 = .ok (.iload_n 1, 1) := by decide +kernel
theorem dX8_figureAt_2 : decode cX8_figureAt 2 = .ok (.iload_n 2, 1) := by decide +kernel
theorem dX8_figureAt_3 : decode cX8_figureAt 3 = .ok (.invokevirtual 106, 3) := by decide +kernel
theorem dX8_figureAt_6 : decode cX8_figureAt 6 = .ok (.bipush 48, 2) := by decide +kernel
theorem dX8_figureAt_8 : decode cX8_figureAt 8 = .ok (.isub, 1) := by decide +kernel
theorem dX8_figureAt_9 : decode cX8_figureAt 9 = .ok (.istore 4, 2) := by decide +kernel
theorem dX8_figureAt_11 : decode cX8_figureAt 11 = .ok (.iload 4, 2) := by decide +kernel
theorem dX8_figureAt_13 : decode cX8_figureAt 13 = .ok (.iconst 0, 1) := by decide +kernel
theorem dX8_figureAt_14 : decode cX8_figureAt 14 = .ok (.iload_n 3, 1) := by decide +kernel
theorem dX8_figureAt_15 : decode cX8_figureAt 15 = .ok (.invokestatic 98, 3) := by decide +kernel
theorem dX8_figureAt_18 : decode cX8_figureAt 18 = .ok (.ifCond .eq 8, 3) := by decide +kernel
theorem dX8_figureAt_21 : decode cX8_figureAt 21 = .ok (.iload 4, 2) := by decide +kernel
theorem dX8_figureAt_23 : decode cX8_figureAt 23 = .ok (.goto 4, 3) := by decide +kernel
theorem dX8_figureAt_26 : decode cX8_figureAt 26 = .ok (.iconst (-1), 1) := by decide +kernel
theorem dX8_figureAt_27 : decode cX8_figureAt 27 = .ok (.ireturn, 1) := by decide +kernel
theorem dX8_readsSleeper_0 : decode cX8_readsSleeper 0 = .ok (.aload_n 0, 1) := by decide +kernel
theorem dX8_readsSleeper_1 : decode cX8_readsSleeper 1 = .ok (.iconst 0, 1) := by decide +kernel
theorem dX8_readsSleeper_2 : decode cX8_readsSleeper 2 = .ok (.iload_n 2, 1) := by decide +kernel
theorem dX8_readsSleeper_3 : decode cX8_readsSleeper 3 = .ok (.bipush 9, 2) := by decide +kernel
theorem dX8_readsSleeper_5 : decode cX8_readsSleeper 5 = .ok (.invokevirtual 110, 3) := by decide +kernel
theorem dX8_readsSleeper_8 : decode cX8_readsSleeper 8 = .ok (.istore_n 3, 1) := by decide +kernel
theorem dX8_readsSleeper_9 : decode cX8_readsSleeper 9 = .ok (.aload_n 0, 1) := by decide +kernel
theorem dX8_readsSleeper_10 : decode cX8_readsSleeper 10 = .ok (.iconst 0, 1) := by decide +kernel
theorem dX8_readsSleeper_11 : decode cX8_readsSleeper 11 = .ok (.iload_n 2, 1) := by decide +kernel
theorem dX8_readsSleeper_12 : decode cX8_readsSleeper 12 = .ok (.iconst 1, 1) := by decide +kernel
theorem dX8_readsSleeper_13 : decode cX8_readsSleeper 13 = .ok (.iadd, 1) := by decide +kernel
theorem dX8_readsSleeper_14 : decode cX8_readsSleeper 14 = .ok (.bipush 9, 2) := by decide +kernel
theorem dX8_readsSleeper_16 : decode cX8_readsSleeper 16 = .ok (.invokevirtual 110, 3) := by decide +kernel
theorem dX8_readsSleeper_19 : decode cX8_readsSleeper 19 = .ok (.istore 4, 2) := by decide +kernel
theorem dX8_readsSleeper_21 : decode cX8_readsSleeper 21 = .ok (.aload_n 0, 1) := by decide +kernel
theorem dX8_readsSleeper_22 : decode cX8_readsSleeper 22 = .ok (.iconst 0, 1) := by decide +kernel
theorem dX8_readsSleeper_23 : decode cX8_readsSleeper 23 = .ok (.iload_n 2, 1) := by decide +kernel
theorem dX8_readsSleeper_24 : decode cX8_readsSleeper 24 = .ok (.iconst 2, 1) := by decide +kernel
theorem dX8_readsSleeper_25 : decode cX8_readsSleeper 25 = .ok (.iadd, 1) := by decide +kernel
theorem dX8_readsSleeper_26 : decode cX8_readsSleeper 26 = .ok (.iconst 3, 1) := by decide +kernel
theorem dX8_readsSleeper_27 : decode cX8_readsSleeper 27 = .ok (.invokevirtual 110, 3) := by decide +kernel
theorem dX8_readsSleeper_30 : decode cX8_readsSleeper 30 = .ok (.istore 5, 2) := by decide +kernel
theorem dX8_readsSleeper_32 : decode cX8_readsSleeper 32 = .ok (.aload_n 0, 1) := by decide +kernel
theorem dX8_readsSleeper_33 : decode cX8_readsSleeper 33 = .ok (.iconst 0, 1) := by decide +kernel
theorem dX8_readsSleeper_34 : decode cX8_readsSleeper 34 = .ok (.iload_n 2, 1) := by decide +kernel
theorem dX8_readsSleeper_35 : decode cX8_readsSleeper 35 = .ok (.iconst 3, 1) := by decide +kernel
theorem dX8_readsSleeper_36 : decode cX8_readsSleeper 36 = .ok (.iadd, 1) := by decide +kernel
theorem dX8_readsSleeper_37 : decode cX8_readsSleeper 37 = .ok (.invokevirtual 106, 3) := by decide +kernel
theorem dX8_readsSleeper_40 : decode cX8_readsSleeper 40 = .ok (.istore 6, 2) := by decide +kernel
theorem dX8_readsSleeper_42 : decode cX8_readsSleeper 42 = .ok (.iload 6, 2) := by decide +kernel
theorem dX8_readsSleeper_44 : decode cX8_readsSleeper 44 = .ok (.bipush 121, 2) := by decide +kernel
theorem dX8_readsSleeper_46 : decode cX8_readsSleeper 46 = .ok (.if_icmp .ne 7, 3) := by decide +kernel
theorem dX8_readsSleeper_49 : decode cX8_readsSleeper 49 = .ok (.iconst 0, 1) := by decide +kernel
theorem dX8_readsSleeper_50 : decode cX8_readsSleeper 50 = .ok (.goto 37, 3) := by decide +kernel
theorem dX8_readsSleeper_53 : decode cX8_readsSleeper 53 = .ok (.iload 6, 2) := by decide +kernel
theorem dX8_readsSleeper_55 : decode cX8_readsSleeper 55 = .ok (.bipush 111, 2) := by decide +kernel
theorem dX8_readsSleeper_57 : decode cX8_readsSleeper 57 = .ok (.if_icmp .ne 7, 3) := by decide +kernel
theorem dX8_readsSleeper_60 : decode cX8_readsSleeper 60 = .ok (.iconst 1, 1) := by decide +kernel
theorem dX8_readsSleeper_61 : decode cX8_readsSleeper 61 = .ok (.goto 26, 3) := by decide +kernel
theorem dX8_readsSleeper_64 : decode cX8_readsSleeper 64 = .ok (.iload 6, 2) := by decide +kernel
theorem dX8_readsSleeper_66 : decode cX8_readsSleeper 66 = .ok (.bipush 119, 2) := by decide +kernel
theorem dX8_readsSleeper_68 : decode cX8_readsSleeper 68 = .ok (.if_icmp .ne 7, 3) := by decide +kernel
theorem dX8_readsSleeper_71 : decode cX8_readsSleeper 71 = .ok (.iconst 2, 1) := by decide +kernel
theorem dX8_readsSleeper_72 : decode cX8_readsSleeper 72 = .ok (.goto 15, 3) := by decide +kernel
theorem dX8_readsSleeper_75 : decode cX8_readsSleeper 75 = .ok (.iload 6, 2) := by decide +kernel
theorem dX8_readsSleeper_77 : decode cX8_readsSleeper 77 = .ok (.bipush 105, 2) := by decide +kernel
theorem dX8_readsSleeper_79 : decode cX8_readsSleeper 79 = .ok (.if_icmp .ne 7, 3) := by decide +kernel
theorem dX8_readsSleeper_82 : decode cX8_readsSleeper 82 = .ok (.iconst 3, 1) := by decide +kernel
theorem dX8_readsSleeper_83 : decode cX8_readsSleeper 83 = .ok (.goto 4, 3) := by decide +kernel
theorem dX8_readsSleeper_86 : decode cX8_readsSleeper 86 = .ok (.iconst (-1), 1) := by decide +kernel
theorem dX8_readsSleeper_87 : decode cX8_readsSleeper 87 = .ok (.istore 7, 2) := by decide +kernel
theorem dX8_readsSleeper_89 : decode cX8_readsSleeper 89 = .ok (.iload_n 3, 1) := by decide +kernel
theorem dX8_readsSleeper_90 : decode cX8_readsSleeper 90 = .ok (.iconst (-1), 1) := by decide +kernel
theorem dX8_readsSleeper_91 : decode cX8_readsSleeper 91 = .ok (.if_icmp .ne 5, 3) := by decide +kernel
theorem dX8_readsSleeper_94 : decode cX8_readsSleeper 94 = .ok (.iconst 0, 1) := by decide +kernel
theorem dX8_readsSleeper_95 : decode cX8_readsSleeper 95 = .ok (.ireturn, 1) := by decide +kernel
theorem dX8_readsSleeper_96 : decode cX8_readsSleeper 96 = .ok (.iload 4, 2) := by decide +kernel
theorem dX8_readsSleeper_98 : decode cX8_readsSleeper 98 = .ok (.iconst (-1), 1) := by decide +kernel
theorem dX8_readsSleeper_99 : decode cX8_readsSleeper 99 = .ok (.if_icmp .ne 5, 3) := by decide +kernel
theorem dX8_readsSleeper_102 : decode cX8_readsSleeper 102 = .ok (.iconst 1, 1) := by decide +kernel
theorem dX8_readsSleeper_103 : decode cX8_readsSleeper 103 = .ok (.ireturn, 1) := by decide +kernel
theorem dX8_readsSleeper_104 : decode cX8_readsSleeper 104 = .ok (.iload 5, 2) := by decide +kernel
theorem dX8_readsSleeper_106 : decode cX8_readsSleeper 106 = .ok (.iconst (-1), 1) := by decide +kernel
theorem dX8_readsSleeper_107 : decode cX8_readsSleeper 107 = .ok (.if_icmp .ne 5, 3) := by decide +kernel
theorem dX8_readsSleeper_110 : decode cX8_readsSleeper 110 = .ok (.iconst 2, 1) := by decide +kernel
theorem dX8_readsSleeper_111 : decode cX8_readsSleeper 111 = .ok (.ireturn, 1) := by decide +kernel
theorem dX8_readsSleeper_112 : decode cX8_readsSleeper 112 = .ok (.iload 7, 2) := by decide +kernel
theorem dX8_readsSleeper_114 : decode cX8_readsSleeper 114 = .ok (.iconst (-1), 1) := by decide +kernel
theorem dX8_readsSleeper_115 : decode cX8_readsSleeper 115 = .ok (.if_icmp .ne 5, 3) := by decide +kernel
theorem dX8_readsSleeper_118 : decode cX8_readsSleeper 118 = .ok (.iconst 3, 1) := by decide +kernel
theorem dX8_readsSleeper_119 : decode cX8_readsSleeper 119 = .ok (.ireturn, 1) := by decide +kernel
theorem dX8_readsSleeper_120 : decode cX8_readsSleeper 120 = .ok (.aload_n 0, 1) := by decide +kernel
theorem dX8_readsSleeper_121 : decode cX8_readsSleeper 121 = .ok (.getfield 16, 3) := by decide +kernel
theorem dX8_readsSleeper_124 : decode cX8_readsSleeper 124 = .ok (.iload_n 1, 1) := by decide +kernel
theorem dX8_readsSleeper_125 : decode cX8_readsSleeper 125 = .ok (.iload_n 3, 1) := by decide +kernel
theorem dX8_readsSleeper_126 : decode cX8_readsSleeper 126 = .ok (.iastore, 1) := by decide +kernel
theorem dX8_readsSleeper_127 : decode cX8_readsSleeper 127 = .ok (.aload_n 0, 1) := by decide +kernel
theorem dX8_readsSleeper_128 : decode cX8_readsSleeper 128 = .ok (.getfield 19, 3) := by decide +kernel
theorem dX8_readsSleeper_131 : decode cX8_readsSleeper 131 = .ok (.iload_n 1, 1) := by decide +kernel
theorem dX8_readsSleeper_132 : decode cX8_readsSleeper 132 = .ok (.iload 4, 2) := by decide +kernel
theorem dX8_readsSleeper_134 : decode cX8_readsSleeper 134 = .ok (.iastore, 1) := by decide +kernel
theorem dX8_readsSleeper_135 : decode cX8_readsSleeper 135 = .ok (.aload_n 0, 1) := by decide +kernel
theorem dX8_readsSleeper_136 : decode cX8_readsSleeper 136 = .ok (.getfield 22, 3) := by decide +kernel
theorem dX8_readsSleeper_139 : decode cX8_readsSleeper 139 = .ok (.iload_n 1, 1) := by decide +kernel
theorem dX8_readsSleeper_140 : decode cX8_readsSleeper 140 = .ok (.iload 5, 2) := by decide +kernel
theorem dX8_readsSleeper_142 : decode cX8_readsSleeper 142 = .ok (.iastore, 1) := by decide +kernel
theorem dX8_readsSleeper_143 : decode cX8_readsSleeper 143 = .ok (.aload_n 0, 1) := by decide +kernel
theorem dX8_readsSleeper_144 : decode cX8_readsSleeper 144 = .ok (.getfield 25, 3) := by decide +kernel
theorem dX8_readsSleeper_147 : decode cX8_readsSleeper 147 = .ok (.iload_n 1, 1) := by decide +kernel
theorem dX8_readsSleeper_148 : decode cX8_readsSleeper 148 = .ok (.iload 7, 2) := by decide +kernel
theorem dX8_readsSleeper_150 : decode cX8_readsSleeper 150 = .ok (.iastore, 1) := by decide +kernel
theorem dX8_readsSleeper_151 : decode cX8_readsSleeper 151 = .ok (.iconst 4, 1) := by decide +kernel
theorem dX8_readsSleeper_152 : decode cX8_readsSleeper 152 = .ok (.ireturn, 1) := by decide +kernel
theorem dX8_readsDeed_0 : decode cX8_readsDeed 0 = .ok (.aload_n 0, 1) := by decide +kernel
theorem dX8_readsDeed_1 : decode cX8_readsDeed 1 = .ok (.iconst 1, 1) := by decide +kernel
theorem dX8_readsDeed_2 : decode cX8_readsDeed 2 = .ok (.iload_n 2, 1) := by decide +kernel
theorem dX8_readsDeed_3 : decode cX8_readsDeed 3 = .ok (.iconst 4, 1) := by decide +kernel
theorem dX8_readsDeed_4 : decode cX8_readsDeed 4 = .ok (.invokevirtual 110, 3) := by decide +kernel
theorem dX8_readsDeed_7 : decode cX8_readsDeed 7 = .ok (.istore_n 3, 1) := by decide +kernel
theorem dX8_readsDeed_8 : decode cX8_readsDeed 8 = .ok (.aload_n 0, 1) := by decide +kernel
theorem dX8_readsDeed_9 : decode cX8_readsDeed 9 = .ok (.iconst 1, 1) := by decide +kernel
theorem dX8_readsDeed_10 : decode cX8_readsDeed 10 = .ok (.iload_n 2, 1) := by decide +kernel
theorem dX8_readsDeed_11 : decode cX8_readsDeed 11 = .ok (.iconst 1, 1) := by decide +kernel
theorem dX8_readsDeed_12 : decode cX8_readsDeed 12 = .ok (.iadd, 1) := by decide +kernel
theorem dX8_readsDeed_13 : decode cX8_readsDeed 13 = .ok (.bipush 9, 2) := by decide +kernel
theorem dX8_readsDeed_15 : decode cX8_readsDeed 15 = .ok (.invokevirtual 110, 3) := by decide +kernel
theorem dX8_readsDeed_18 : decode cX8_readsDeed 18 = .ok (.istore 4, 2) := by decide +kernel
theorem dX8_readsDeed_20 : decode cX8_readsDeed 20 = .ok (.aload_n 0, 1) := by decide +kernel
theorem dX8_readsDeed_21 : decode cX8_readsDeed 21 = .ok (.iconst 1, 1) := by decide +kernel
theorem dX8_readsDeed_22 : decode cX8_readsDeed 22 = .ok (.iload_n 2, 1) := by decide +kernel
theorem dX8_readsDeed_23 : decode cX8_readsDeed 23 = .ok (.iconst 2, 1) := by decide +kernel
theorem dX8_readsDeed_24 : decode cX8_readsDeed 24 = .ok (.iadd, 1) := by decide +kernel
theorem dX8_readsDeed_25 : decode cX8_readsDeed 25 = .ok (.bipush 9, 2) := by decide +kernel
theorem dX8_readsDeed_27 : decode cX8_readsDeed 27 = .ok (.invokevirtual 110, 3) := by decide +kernel
theorem dX8_readsDeed_30 : decode cX8_readsDeed 30 = .ok (.istore 5, 2) := by decide +kernel
theorem dX8_readsDeed_32 : decode cX8_readsDeed 32 = .ok (.aload_n 0, 1) := by decide +kernel
theorem dX8_readsDeed_33 : decode cX8_readsDeed 33 = .ok (.iconst 1, 1) := by decide +kernel
theorem dX8_readsDeed_34 : decode cX8_readsDeed 34 = .ok (.iload_n 2, 1) := by decide +kernel
theorem dX8_readsDeed_35 : decode cX8_readsDeed 35 = .ok (.iconst 3, 1) := by decide +kernel
theorem dX8_readsDeed_36 : decode cX8_readsDeed 36 = .ok (.iadd, 1) := by decide +kernel
theorem dX8_readsDeed_37 : decode cX8_readsDeed 37 = .ok (.invokevirtual 106, 3) := by decide +kernel
theorem dX8_readsDeed_40 : decode cX8_readsDeed 40 = .ok (.istore 6, 2) := by decide +kernel
theorem dX8_readsDeed_42 : decode cX8_readsDeed 42 = .ok (.iload 6, 2) := by decide +kernel
theorem dX8_readsDeed_44 : decode cX8_readsDeed 44 = .ok (.bipush 107, 2) := by decide +kernel
theorem dX8_readsDeed_46 : decode cX8_readsDeed 46 = .ok (.if_icmp .ne 7, 3) := by decide +kernel
theorem dX8_readsDeed_49 : decode cX8_readsDeed 49 = .ok (.iconst 0, 1) := by decide +kernel
theorem dX8_readsDeed_50 : decode cX8_readsDeed 50 = .ok (.goto 37, 3) := by decide +kernel
theorem dX8_readsDeed_53 : decode cX8_readsDeed 53 = .ok (.iload 6, 2) := by decide +kernel
theorem dX8_readsDeed_55 : decode cX8_readsDeed 55 = .ok (.bipush 118, 2) := by decide +kernel
theorem dX8_readsDeed_57 : decode cX8_readsDeed 57 = .ok (.if_icmp .ne 7, 3) := by decide +kernel
theorem dX8_readsDeed_60 : decode cX8_readsDeed 60 = .ok (.iconst 1, 1) := by decide +kernel
theorem dX8_readsDeed_61 : decode cX8_readsDeed 61 = .ok (.goto 26, 3) := by decide +kernel
theorem dX8_readsDeed_64 : decode cX8_readsDeed 64 = .ok (.iload 6, 2) := by decide +kernel
theorem dX8_readsDeed_66 : decode cX8_readsDeed 66 = .ok (.bipush 102, 2) := by decide +kernel
theorem dX8_readsDeed_68 : decode cX8_readsDeed 68 = .ok (.if_icmp .ne 7, 3) := by decide +kernel
theorem dX8_readsDeed_71 : decode cX8_readsDeed 71 = .ok (.iconst 2, 1) := by decide +kernel
theorem dX8_readsDeed_72 : decode cX8_readsDeed 72 = .ok (.goto 15, 3) := by decide +kernel
theorem dX8_readsDeed_75 : decode cX8_readsDeed 75 = .ok (.iload 6, 2) := by decide +kernel
theorem dX8_readsDeed_77 : decode cX8_readsDeed 77 = .ok (.bipush 100, 2) := by decide +kernel
theorem dX8_readsDeed_79 : decode cX8_readsDeed 79 = .ok (.if_icmp .ne 7, 3) := by decide +kernel
theorem dX8_readsDeed_82 : decode cX8_readsDeed 82 = .ok (.iconst 3, 1) := by decide +kernel
theorem dX8_readsDeed_83 : decode cX8_readsDeed 83 = .ok (.goto 4, 3) := by decide +kernel
theorem dX8_readsDeed_86 : decode cX8_readsDeed 86 = .ok (.iconst (-1), 1) := by decide +kernel
theorem dX8_readsDeed_87 : decode cX8_readsDeed 87 = .ok (.istore 7, 2) := by decide +kernel
theorem dX8_readsDeed_89 : decode cX8_readsDeed 89 = .ok (.iload_n 3, 1) := by decide +kernel
theorem dX8_readsDeed_90 : decode cX8_readsDeed 90 = .ok (.iconst (-1), 1) := by decide +kernel
theorem dX8_readsDeed_91 : decode cX8_readsDeed 91 = .ok (.if_icmp .ne 5, 3) := by decide +kernel
theorem dX8_readsDeed_94 : decode cX8_readsDeed 94 = .ok (.iconst 0, 1) := by decide +kernel
theorem dX8_readsDeed_95 : decode cX8_readsDeed 95 = .ok (.ireturn, 1) := by decide +kernel
theorem dX8_readsDeed_96 : decode cX8_readsDeed 96 = .ok (.iload 4, 2) := by decide +kernel
theorem dX8_readsDeed_98 : decode cX8_readsDeed 98 = .ok (.iconst (-1), 1) := by decide +kernel
theorem dX8_readsDeed_99 : decode cX8_readsDeed 99 = .ok (.if_icmp .ne 5, 3) := by decide +kernel
theorem dX8_readsDeed_102 : decode cX8_readsDeed 102 = .ok (.iconst 1, 1) := by decide +kernel
theorem dX8_readsDeed_103 : decode cX8_readsDeed 103 = .ok (.ireturn, 1) := by decide +kernel
theorem dX8_readsDeed_104 : decode cX8_readsDeed 104 = .ok (.iload 5, 2) := by decide +kernel
theorem dX8_readsDeed_106 : decode cX8_readsDeed 106 = .ok (.iconst (-1), 1) := by decide +kernel
theorem dX8_readsDeed_107 : decode cX8_readsDeed 107 = .ok (.if_icmp .ne 5, 3) := by decide +kernel
theorem dX8_readsDeed_110 : decode cX8_readsDeed 110 = .ok (.iconst 2, 1) := by decide +kernel
theorem dX8_readsDeed_111 : decode cX8_readsDeed 111 = .ok (.ireturn, 1) := by decide +kernel
theorem dX8_readsDeed_112 : decode cX8_readsDeed 112 = .ok (.iload 7, 2) := by decide +kernel
theorem dX8_readsDeed_114 : decode cX8_readsDeed 114 = .ok (.iconst (-1), 1) := by decide +kernel
theorem dX8_readsDeed_115 : decode cX8_readsDeed 115 = .ok (.if_icmp .ne 5, 3) := by decide +kernel
theorem dX8_readsDeed_118 : decode cX8_readsDeed 118 = .ok (.iconst 3, 1) := by decide +kernel
theorem dX8_readsDeed_119 : decode cX8_readsDeed 119 = .ok (.ireturn, 1) := by decide +kernel
theorem dX8_readsDeed_120 : decode cX8_readsDeed 120 = .ok (.aload_n 0, 1) := by decide +kernel
theorem dX8_readsDeed_121 : decode cX8_readsDeed 121 = .ok (.getfield 28, 3) := by decide +kernel
theorem dX8_readsDeed_124 : decode cX8_readsDeed 124 = .ok (.iload_n 1, 1) := by decide +kernel
theorem dX8_readsDeed_125 : decode cX8_readsDeed 125 = .ok (.bipush 10, 2) := by decide +kernel
theorem dX8_readsDeed_127 : decode cX8_readsDeed 127 = .ok (.iload_n 3, 1) := by decide +kernel
theorem dX8_readsDeed_128 : decode cX8_readsDeed 128 = .ok (.imul, 1) := by decide +kernel
theorem dX8_readsDeed_129 : decode cX8_readsDeed 129 = .ok (.iload 4, 2) := by decide +kernel
theorem dX8_readsDeed_131 : decode cX8_readsDeed 131 = .ok (.iadd, 1) := by decide +kernel
theorem dX8_readsDeed_132 : decode cX8_readsDeed 132 = .ok (.iastore, 1) := by decide +kernel
theorem dX8_readsDeed_133 : decode cX8_readsDeed 133 = .ok (.aload_n 0, 1) := by decide +kernel
theorem dX8_readsDeed_134 : decode cX8_readsDeed 134 = .ok (.getfield 31, 3) := by decide +kernel
theorem dX8_readsDeed_137 : decode cX8_readsDeed 137 = .ok (.iload_n 1, 1) := by decide +kernel
theorem dX8_readsDeed_138 : decode cX8_readsDeed 138 = .ok (.iload 5, 2) := by decide +kernel
theorem dX8_readsDeed_140 : decode cX8_readsDeed 140 = .ok (.iastore, 1) := by decide +kernel
theorem dX8_readsDeed_141 : decode cX8_readsDeed 141 = .ok (.aload_n 0, 1) := by decide +kernel
theorem dX8_readsDeed_142 : decode cX8_readsDeed 142 = .ok (.getfield 34, 3) := by decide +kernel
theorem dX8_readsDeed_145 : decode cX8_readsDeed 145 = .ok (.iload_n 1, 1) := by decide +kernel
theorem dX8_readsDeed_146 : decode cX8_readsDeed 146 = .ok (.iload 7, 2) := by decide +kernel
theorem dX8_readsDeed_148 : decode cX8_readsDeed 148 = .ok (.iastore, 1) := by decide +kernel
theorem dX8_readsDeed_149 : decode cX8_readsDeed 149 = .ok (.iconst 4, 1) := by decide +kernel
theorem dX8_readsDeed_150 : decode cX8_readsDeed 150 = .ok (.ireturn, 1) := by decide +kernel
theorem dX8_readsParts_0 : decode cX8_readsParts 0 = .ok (.iconst 0, 1) := by decide +kernel
theorem dX8_readsParts_1 : decode cX8_readsParts 1 = .ok (.istore_n 2, 1) := by decide +kernel
theorem dX8_readsParts_2 : decode cX8_readsParts 2 = .ok (.iconst 0, 1) := by decide +kernel
theorem dX8_readsParts_3 : decode cX8_readsParts 3 = .ok (.istore_n 3, 1) := by decide +kernel
theorem dX8_readsParts_4 : decode cX8_readsParts 4 = .ok (.aload_n 0, 1) := by decide +kernel
theorem dX8_readsParts_5 : decode cX8_readsParts 5 = .ok (.iload_n 1, 1) := by decide +kernel
theorem dX8_readsParts_6 : decode cX8_readsParts 6 = .ok (.ifCond .ne 7, 3) := by decide +kernel
theorem dX8_readsParts_9 : decode cX8_readsParts 9 = .ok (.iconst 0, 1) := by decide +kernel
theorem dX8_readsParts_10 : decode cX8_readsParts 10 = .ok (.goto 7, 3) := by decide +kernel
theorem dX8_readsParts_13 : decode cX8_readsParts 13 = .ok (.aload_n 0, 1) := by decide +kernel
theorem dX8_readsParts_14 : decode cX8_readsParts 14 = .ok (.getfield 114, 3) := by decide +kernel
theorem dX8_readsParts_17 : decode cX8_readsParts 17 = .ok (.putfield 114, 3) := by decide +kernel
theorem dX8_readsParts_20 : decode cX8_readsParts 20 = .ok (.aload_n 0, 1) := by decide +kernel
theorem dX8_readsParts_21 : decode cX8_readsParts 21 = .ok (.iload_n 1, 1) := by decide +kernel
theorem dX8_readsParts_22 : decode cX8_readsParts 22 = .ok (.iconst 1, 1) := by decide +kernel
theorem dX8_readsParts_23 : decode cX8_readsParts 23 = .ok (.if_icmp .ne 7, 3) := by decide +kernel
theorem dX8_readsParts_26 : decode cX8_readsParts 26 = .ok (.iconst 0, 1) := by decide +kernel
theorem dX8_readsParts_27 : decode cX8_readsParts 27 = .ok (.goto 7, 3) := by decide +kernel
theorem dX8_readsParts_30 : decode cX8_readsParts 30 = .ok (.aload_n 0, 1) := by decide +kernel
theorem dX8_readsParts_31 : decode cX8_readsParts 31 = .ok (.getfield 117, 3) := by decide +kernel
theorem dX8_readsParts_34 : decode cX8_readsParts 34 = .ok (.putfield 117, 3) := by decide +kernel
theorem dX8_readsParts_37 : decode cX8_readsParts 37 = .ok (.iload_n 3, 1) := by decide +kernel
theorem dX8_readsParts_38 : decode cX8_readsParts 38 = .ok (.aload_n 0, 1) := by decide +kernel
theorem dX8_readsParts_39 : decode cX8_readsParts 39 = .ok (.getfield 7, 3) := by decide +kernel
theorem dX8_readsParts_42 : decode cX8_readsParts 42 = .ok (.iload_n 1, 1) := by decide +kernel
theorem dX8_readsParts_43 : decode cX8_readsParts 43 = .ok (.iaload, 1) := by decide +kernel
theorem dX8_readsParts_44 : decode cX8_readsParts 44 = .ok (.if_icmp .lt 7, 3) := by decide +kernel
theorem dX8_readsParts_47 : decode cX8_readsParts 47 = .ok (.iload_n 3, 1) := by decide +kernel
theorem dX8_readsParts_48 : decode cX8_readsParts 48 = .ok (.ifCond .le 115, 3) := by decide +kernel
theorem dX8_readsParts_51 : decode cX8_readsParts 51 = .ok (.iload_n 2, 1) := by decide +kernel
theorem dX8_readsParts_52 : decode cX8_readsParts 52 = .ok (.bipush 8, 2) := by decide +kernel
theorem dX8_readsParts_54 : decode cX8_readsParts 54 = .ok (.if_icmp .ne 7, 3) := by decide +kernel
theorem dX8_readsParts_57 : decode cX8_readsParts 57 = .ok (.iconst 0, 1) := by decide +kernel
theorem dX8_readsParts_58 : decode cX8_readsParts 58 = .ok (.goto 22, 3) := by decide +kernel
theorem dX8_readsParts_61 : decode cX8_readsParts 61 = .ok (.iload_n 1, 1) := by decide +kernel
theorem dX8_readsParts_62 : decode cX8_readsParts 62 = .ok (.ifCond .ne 12, 3) := by decide +kernel
theorem dX8_readsParts_65 : decode cX8_readsParts 65 = .ok (.aload_n 0, 1) := by decide +kernel
theorem dX8_readsParts_66 : decode cX8_readsParts 66 = .ok (.iload_n 2, 1) := by decide +kernel
theorem dX8_readsParts_67 : decode cX8_readsParts 67 = .ok (.iload_n 3, 1) := by decide +kernel
theorem dX8_readsParts_68 : decode cX8_readsParts 68 = .ok (.invokevirtual 120, 3) := by decide +kernel
theorem dX8_readsParts_71 : decode cX8_readsParts 71 = .ok (.goto 9, 3) := by decide +kernel
theorem dX8_readsParts_74 : decode cX8_readsParts 74 = .ok (.aload_n 0, 1) := by decide +kernel
theorem dX8_readsParts_75 : decode cX8_readsParts 75 = .ok (.iload_n 2, 1) := by decide +kernel
theorem dX8_readsParts_76 : decode cX8_readsParts 76 = .ok (.iload_n 3, 1) := by decide +kernel
theorem dX8_readsParts_77 : decode cX8_readsParts 77 = .ok (.invokevirtual 123, 3) := by decide +kernel
theorem dX8_readsParts_80 : decode cX8_readsParts 80 = .ok (.istore 4, 2) := by decide +kernel
theorem dX8_readsParts_82 : decode cX8_readsParts 82 = .ok (.iload 4, 2) := by decide +kernel
theorem dX8_readsParts_84 : decode cX8_readsParts 84 = .ok (.iconst 4, 1) := by decide +kernel
theorem dX8_readsParts_85 : decode cX8_readsParts 85 = .ok (.if_icmp .ge 8, 3) := by decide +kernel
theorem dX8_readsParts_88 : decode cX8_readsParts 88 = .ok (.iload_n 3, 1) := by decide +kernel
theorem dX8_readsParts_89 : decode cX8_readsParts 89 = .ok (.iload 4, 2) := by decide +kernel
theorem dX8_readsParts_91 : decode cX8_readsParts 91 = .ok (.iadd, 1) := by decide +kernel
theorem dX8_readsParts_92 : decode cX8_readsParts 92 = .ok (.ireturn, 1) := by decide +kernel
theorem dX8_readsParts_93 : decode cX8_readsParts 93 = .ok (.iinc 2 1, 3) := by decide +kernel
theorem dX8_readsParts_96 : decode cX8_readsParts 96 = .ok (.iinc 3 4, 3) := by decide +kernel
theorem dX8_readsParts_99 : decode cX8_readsParts 99 = .ok (.iload_n 3, 1) := by decide +kernel
theorem dX8_readsParts_100 : decode cX8_readsParts 100 = .ok (.aload_n 0, 1) := by decide +kernel
theorem dX8_readsParts_101 : decode cX8_readsParts 101 = .ok (.getfield 7, 3) := by decide +kernel
theorem dX8_readsParts_104 : decode cX8_readsParts 104 = .ok (.iload_n 1, 1) := by decide +kernel
theorem dX8_readsParts_105 : decode cX8_readsParts 105 = .ok (.iaload, 1) := by decide +kernel
theorem dX8_readsParts_106 : decode cX8_readsParts 106 = .ok (.if_icmp .ne 38, 3) := by decide +kernel
theorem dX8_readsParts_109 : decode cX8_readsParts 109 = .ok (.aload_n 0, 1) := by decide +kernel
theorem dX8_readsParts_110 : decode cX8_readsParts 110 = .ok (.iload_n 1, 1) := by decide +kernel
theorem dX8_readsParts_111 : decode cX8_readsParts 111 = .ok (.ifCond .ne 7, 3) := by decide +kernel
theorem dX8_readsParts_114 : decode cX8_readsParts 114 = .ok (.iload_n 2, 1) := by decide +kernel
theorem dX8_readsParts_115 : decode cX8_readsParts 115 = .ok (.goto 7, 3) := by decide +kernel
theorem dX8_readsParts_118 : decode cX8_readsParts 118 = .ok (.aload_n 0, 1) := by decide +kernel
theorem dX8_readsParts_119 : decode cX8_readsParts 119 = .ok (.getfield 114, 3) := by decide +kernel
theorem dX8_readsParts_122 : decode cX8_readsParts 122 = .ok (.putfield 114, 3) := by decide +kernel
theorem dX8_readsParts_125 : decode cX8_readsParts 125 = .ok (.aload_n 0, 1) := by decide +kernel
theorem dX8_readsParts_126 : decode cX8_readsParts 126 = .ok (.iload_n 1, 1) := by decide +kernel
theorem dX8_readsParts_127 : decode cX8_readsParts 127 = .ok (.iconst 1, 1) := by decide +kernel
theorem dX8_readsParts_128 : decode cX8_readsParts 128 = .ok (.if_icmp .ne 7, 3) := by decide +kernel
theorem dX8_readsParts_131 : decode cX8_readsParts 131 = .ok (.iload_n 2, 1) := by decide +kernel
theorem dX8_readsParts_132 : decode cX8_readsParts 132 = .ok (.goto 7, 3) := by decide +kernel
theorem dX8_readsParts_135 : decode cX8_readsParts 135 = .ok (.aload_n 0, 1) := by decide +kernel
theorem dX8_readsParts_136 : decode cX8_readsParts 136 = .ok (.getfield 117, 3) := by decide +kernel
theorem dX8_readsParts_139 : decode cX8_readsParts 139 = .ok (.putfield 117, 3) := by decide +kernel
theorem dX8_readsParts_142 : decode cX8_readsParts 142 = .ok (.iconst (-1), 1) := by decide +kernel
theorem dX8_readsParts_143 : decode cX8_readsParts 143 = .ok (.ireturn, 1) := by decide +kernel
theorem dX8_readsParts_144 : decode cX8_readsParts 144 = .ok (.aload_n 0, 1) := by decide +kernel
theorem dX8_readsParts_145 : decode cX8_readsParts 145 = .ok (.iload_n 1, 1) := by decide +kernel
theorem dX8_readsParts_146 : decode cX8_readsParts 146 = .ok (.iload_n 3, 1) := by decide +kernel
theorem dX8_readsParts_147 : decode cX8_readsParts 147 = .ok (.invokevirtual 106, 3) := by decide +kernel
theorem dX8_readsParts_150 : decode cX8_readsParts 150 = .ok (.bipush 59, 2) := by decide +kernel
theorem dX8_readsParts_152 : decode cX8_readsParts 152 = .ok (.if_icmp .eq 5, 3) := by decide +kernel
theorem dX8_readsParts_155 : decode cX8_readsParts 155 = .ok (.iload_n 3, 1) := by decide +kernel
theorem dX8_readsParts_156 : decode cX8_readsParts 156 = .ok (.ireturn, 1) := by decide +kernel
theorem dX8_readsParts_157 : decode cX8_readsParts 157 = .ok (.iinc 3 1, 3) := by decide +kernel
theorem dX8_readsParts_160 : decode cX8_readsParts 160 = .ok (.goto (-123), 3) := by decide +kernel
theorem dX8_readsParts_163 : decode cX8_readsParts 163 = .ok (.iconst (-1), 1) := by decide +kernel
theorem dX8_readsParts_164 : decode cX8_readsParts 164 = .ok (.ireturn, 1) := by decide +kernel
theorem dX8_faultOf_0 : decode cX8_faultOf 0 = .ok (.aload_n 0, 1) := by decide +kernel
theorem dX8_faultOf_1 : decode cX8_faultOf 1 = .ok (.iconst 0, 1) := by decide +kernel
theorem dX8_faultOf_2 : decode cX8_faultOf 2 = .ok (.invokevirtual 126, 3) := by decide +kernel
theorem dX8_faultOf_5 : decode cX8_faultOf 5 = .ok (.istore_n 2, 1) := by decide +kernel
theorem dX8_faultOf_6 : decode cX8_faultOf 6 = .ok (.aload_n 0, 1) := by decide +kernel
theorem dX8_faultOf_7 : decode cX8_faultOf 7 = .ok (.iconst 1, 1) := by decide +kernel
theorem dX8_faultOf_8 : decode cX8_faultOf 8 = .ok (.invokevirtual 126, 3) := by decide +kernel
theorem dX8_faultOf_11 : decode cX8_faultOf 11 = .ok (.istore_n 3, 1) := by decide +kernel
theorem dX8_faultOf_12 : decode cX8_faultOf 12 = .ok (.iload_n 1, 1) := by decide +kernel
theorem dX8_faultOf_13 : decode cX8_faultOf 13 = .ok (.ifCond .ne 7, 3) := by decide +kernel
theorem dX8_faultOf_16 : decode cX8_faultOf 16 = .ok (.iload_n 2, 1) := by decide +kernel
theorem dX8_faultOf_17 : decode cX8_faultOf 17 = .ok (.goto 4, 3) := by decide +kernel
theorem dX8_faultOf_20 : decode cX8_faultOf 20 = .ok (.iload_n 3, 1) := by decide +kernel
theorem dX8_faultOf_21 : decode cX8_faultOf 21 = .ok (.ireturn, 1) := by decide +kernel
theorem dX8_reads_0 : decode cX8_reads 0 = .ok (.aload_n 0, 1) := by decide +kernel
theorem dX8_reads_1 : decode cX8_reads 1 = .ok (.iconst 0, 1) := by decide +kernel
theorem dX8_reads_2 : decode cX8_reads 2 = .ok (.invokevirtual 130, 3) := by decide +kernel
theorem dX8_reads_5 : decode cX8_reads 5 = .ok (.istore_n 1, 1) := by decide +kernel
theorem dX8_reads_6 : decode cX8_reads 6 = .ok (.return_, 1) := by decide +kernel
theorem dX8_fault_0 : decode cX8_fault 0 = .ok (.iload_n 1, 1) := by decide +kernel
theorem dX8_fault_1 : decode cX8_fault 1 = .ok (.invokestatic 102, 3) := by decide +kernel
theorem dX8_fault_4 : decode cX8_fault 4 = .ok (.ifCond .eq 11, 3) := by decide +kernel
theorem dX8_fault_7 : decode cX8_fault 7 = .ok (.aload_n 0, 1) := by decide +kernel
theorem dX8_fault_8 : decode cX8_fault 8 = .ok (.iload_n 1, 1) := by decide +kernel
theorem dX8_fault_9 : decode cX8_fault 9 = .ok (.invokevirtual 130, 3) := by decide +kernel
theorem dX8_fault_12 : decode cX8_fault 12 = .ok (.goto 5, 3) := by decide +kernel
theorem dX8_fault_15 : decode cX8_fault 15 = .ok (.bipush (-2), 2) := by decide +kernel
theorem dX8_fault_17 : decode cX8_fault 17 = .ok (.ireturn, 1) := by decide +kernel
theorem dX8_isSleeper_0 : decode cX8_isSleeper 0 = .ok (.aload_n 0, 1) := by decide +kernel
theorem dX8_isSleeper_1 : decode cX8_isSleeper 1 = .ok (.invokevirtual 133, 3) := by decide +kernel
theorem dX8_isSleeper_4 : decode cX8_isSleeper 4 = .ok (.iload_n 1, 1) := by decide +kernel
theorem dX8_isSleeper_5 : decode cX8_isSleeper 5 = .ok (.iconst 0, 1) := by decide +kernel
theorem dX8_isSleeper_6 : decode cX8_isSleeper 6 = .ok (.aload_n 0, 1) := by decide +kernel
theorem dX8_isSleeper_7 : decode cX8_isSleeper 7 = .ok (.getfield 114, 3) := by decide +kernel
theorem dX8_isSleeper_10 : decode cX8_isSleeper 10 = .ok (.iconst 1, 1) := by decide +kernel
theorem dX8_isSleeper_11 : decode cX8_isSleeper 11 = .ok (.isub, 1) := by decide +kernel
theorem dX8_isSleeper_12 : decode cX8_isSleeper 12 = .ok (.invokestatic 98, 3) := by decide +kernel
theorem dX8_isSleeper_15 : decode cX8_isSleeper 15 = .ok (.ireturn, 1) := by decide +kernel
theorem dX8_isDeed_0 : decode cX8_isDeed 0 = .ok (.aload_n 0, 1) := by decide +kernel
theorem dX8_isDeed_1 : decode cX8_isDeed 1 = .ok (.invokevirtual 133, 3) := by decide +kernel
theorem dX8_isDeed_4 : decode cX8_isDeed 4 = .ok (.iload_n 1, 1) := by decide +kernel
theorem dX8_isDeed_5 : decode cX8_isDeed 5 = .ok (.iconst 0, 1) := by decide +kernel
theorem dX8_isDeed_6 : decode cX8_isDeed 6 = .ok (.aload_n 0, 1) := by decide +kernel
theorem dX8_isDeed_7 : decode cX8_isDeed 7 = .ok (.getfield 117, 3) := by decide +kernel
theorem dX8_isDeed_10 : decode cX8_isDeed 10 = .ok (.iconst 1, 1) := by decide +kernel
theorem dX8_isDeed_11 : decode cX8_isDeed 11 = .ok (.isub, 1) := by decide +kernel
theorem dX8_isDeed_12 : decode cX8_isDeed 12 = .ok (.invokestatic 98, 3) := by decide +kernel
theorem dX8_isDeed_15 : decode cX8_isDeed 15 = .ok (.ireturn, 1) := by decide +kernel
theorem dX8_sleeperOf_0 : decode cX8_sleeperOf 0 = .ok (.iload_n 2, 1) := by decide +kernel
theorem dX8_sleeperOf_1 : decode cX8_sleeperOf 1 = .ok (.ifCond .ne 12, 3) := by decide +kernel
theorem dX8_sleeperOf_4 : decode cX8_sleeperOf 4 = .ok (.aload_n 0, 1) := by decide +kernel
theorem dX8_sleeperOf_5 : decode cX8_sleeperOf 5 = .ok (.getfield 16, 3) := by decide +kernel
theorem dX8_sleeperOf_8 : decode cX8_sleeperOf 8 = .ok (.iload_n 1, 1) := by decide +kernel
theorem dX8_sleeperOf_9 : decode cX8_sleeperOf 9 = .ok (.iaload, 1) := by decide +kernel
theorem dX8_sleeperOf_10 : decode cX8_sleeperOf 10 = .ok (.goto 37, 3) := by decide +kernel
theorem dX8_sleeperOf_13 : decode cX8_sleeperOf 13 = .ok (.iload_n 2, 1) := by decide +kernel
theorem dX8_sleeperOf_14 : decode cX8_sleeperOf 14 = .ok (.iconst 1, 1) := by decide +kernel
theorem dX8_sleeperOf_15 : decode cX8_sleeperOf 15 = .ok (.if_icmp .ne 12, 3) := by decide +kernel
theorem dX8_sleeperOf_18 : decode cX8_sleeperOf 18 = .ok (.aload_n 0, 1) := by decide +kernel
theorem dX8_sleeperOf_19 : decode cX8_sleeperOf 19 = .ok (.getfield 19, 3) := by decide +kernel
theorem dX8_sleeperOf_22 : decode cX8_sleeperOf 22 = .ok (.iload_n 1, 1) := by decide +kernel
theorem dX8_sleeperOf_23 : decode cX8_sleeperOf 23 = .ok (.iaload, 1) := by decide +kernel
theorem dX8_sleeperOf_24 : decode cX8_sleeperOf 24 = .ok (.goto 23, 3) := by decide +kernel
theorem dX8_sleeperOf_27 : decode cX8_sleeperOf 27 = .ok (.iload_n 2, 1) := by decide +kernel
theorem dX8_sleeperOf_28 : decode cX8_sleeperOf 28 = .ok (.iconst 2, 1) := by decide +kernel
theorem dX8_sleeperOf_29 : decode cX8_sleeperOf 29 = .ok (.if_icmp .ne 12, 3) := by decide +kernel
theorem dX8_sleeperOf_32 : decode cX8_sleeperOf 32 = .ok (.aload_n 0, 1) := by decide +kernel
theorem dX8_sleeperOf_33 : decode cX8_sleeperOf 33 = .ok (.getfield 22, 3) := by decide +kernel
theorem dX8_sleeperOf_36 : decode cX8_sleeperOf 36 = .ok (.iload_n 1, 1) := by decide +kernel
theorem dX8_sleeperOf_37 : decode cX8_sleeperOf 37 = .ok (.iaload, 1) := by decide +kernel
theorem dX8_sleeperOf_38 : decode cX8_sleeperOf 38 = .ok (.goto 9, 3) := by decide +kernel
theorem dX8_sleeperOf_41 : decode cX8_sleeperOf 41 = .ok (.aload_n 0, 1) := by decide +kernel
theorem dX8_sleeperOf_42 : decode cX8_sleeperOf 42 = .ok (.getfield 25, 3) := by decide +kernel
theorem dX8_sleeperOf_45 : decode cX8_sleeperOf 45 = .ok (.iload_n 1, 1) := by decide +kernel
theorem dX8_sleeperOf_46 : decode cX8_sleeperOf 46 = .ok (.iaload, 1) := by decide +kernel
theorem dX8_sleeperOf_47 : decode cX8_sleeperOf 47 = .ok (.ireturn, 1) := by decide +kernel
theorem dX8_sleeper_0 : decode cX8_sleeper 0 = .ok (.aload_n 0, 1) := by decide +kernel
theorem dX8_sleeper_1 : decode cX8_sleeper 1 = .ok (.iload_n 1, 1) := by decide +kernel
theorem dX8_sleeper_2 : decode cX8_sleeper 2 = .ok (.invokevirtual 136, 3) := by decide +kernel
theorem dX8_sleeper_5 : decode cX8_sleeper 5 = .ok (.ifCond .eq 21, 3) := by decide +kernel
theorem dX8_sleeper_8 : decode cX8_sleeper 8 = .ok (.iload_n 2, 1) := by decide +kernel
theorem dX8_sleeper_9 : decode cX8_sleeper 9 = .ok (.iconst 0, 1) := by decide +kernel
theorem dX8_sleeper_10 : decode cX8_sleeper 10 = .ok (.iconst 3, 1) := by decide +kernel
theorem dX8_sleeper_11 : decode cX8_sleeper 11 = .ok (.invokestatic 98, 3) := by decide +kernel
theorem dX8_sleeper_14 : decode cX8_sleeper 14 = .ok (.ifCond .eq 12, 3) := by decide +kernel
theorem dX8_sleeper_17 : decode cX8_sleeper 17 = .ok (.aload_n 0, 1) := by decide +kernel
theorem dX8_sleeper_18 : decode cX8_sleeper 18 = .ok (.iload_n 1, 1) := by decide +kernel
theorem dX8_sleeper_19 : decode cX8_sleeper 19 = .ok (.iload_n 2, 1) := by decide +kernel
theorem dX8_sleeper_20 : decode cX8_sleeper 20 = .ok (.invokevirtual 139, 3) := by decide +kernel
theorem dX8_sleeper_23 : decode cX8_sleeper 23 = .ok (.goto 5, 3) := by decide +kernel
theorem dX8_sleeper_26 : decode cX8_sleeper 26 = .ok (.bipush (-2), 2) := by decide +kernel
theorem dX8_sleeper_28 : decode cX8_sleeper 28 = .ok (.ireturn, 1) := by decide +kernel
theorem dX8_deedOf_0 : decode cX8_deedOf 0 = .ok (.iload_n 2, 1) := by decide +kernel
theorem dX8_deedOf_1 : decode cX8_deedOf 1 = .ok (.ifCond .ne 12, 3) := by decide +kernel
theorem dX8_deedOf_4 : decode cX8_deedOf 4 = .ok (.aload_n 0, 1) := by decide +kernel
theorem dX8_deedOf_5 : decode cX8_deedOf 5 = .ok (.getfield 28, 3) := by decide +kernel
theorem dX8_deedOf_8 : decode cX8_deedOf 8 = .ok (.iload_n 1, 1) := by decide +kernel
theorem dX8_deedOf_9 : decode cX8_deedOf 9 = .ok (.iaload, 1) := by decide +kernel
theorem dX8_deedOf_10 : decode cX8_deedOf 10 = .ok (.goto 23, 3) := by decide +kernel
theorem dX8_deedOf_13 : decode cX8_deedOf 13 = .ok (.iload_n 2, 1) := by decide +kernel
theorem dX8_deedOf_14 : decode cX8_deedOf 14 = .ok (.iconst 1, 1) := by decide +kernel
theorem dX8_deedOf_15 : decode cX8_deedOf 15 = .ok (.if_icmp .ne 12, 3) := by decide +kernel
theorem dX8_deedOf_18 : decode cX8_deedOf 18 = .ok (.aload_n 0, 1) := by decide +kernel
theorem dX8_deedOf_19 : decode cX8_deedOf 19 = .ok (.getfield 31, 3) := by decide +kernel
theorem dX8_deedOf_22 : decode cX8_deedOf 22 = .ok (.iload_n 1, 1) := by decide +kernel
theorem dX8_deedOf_23 : decode cX8_deedOf 23 = .ok (.iaload, 1) := by decide +kernel
theorem dX8_deedOf_24 : decode cX8_deedOf 24 = .ok (.goto 9, 3) := by decide +kernel
theorem dX8_deedOf_27 : decode cX8_deedOf 27 = .ok (.aload_n 0, 1) := by decide +kernel
theorem dX8_deedOf_28 : decode cX8_deedOf 28 = .ok (.getfield 34, 3) := by decide +kernel
theorem dX8_deedOf_31 : decode cX8_deedOf 31 = .ok (.iload_n 1, 1) := by decide +kernel
theorem dX8_deedOf_32 : decode cX8_deedOf 32 = .ok (.iaload, 1) := by decide +kernel
theorem dX8_deedOf_33 : decode cX8_deedOf 33 = .ok (.ireturn, 1) := by decide +kernel
theorem dX8_deed_0 : decode cX8_deed 0 = .ok (.aload_n 0, 1) := by decide +kernel
theorem dX8_deed_1 : decode cX8_deed 1 = .ok (.iload_n 1, 1) := by decide +kernel
theorem dX8_deed_2 : decode cX8_deed 2 = .ok (.invokevirtual 142, 3) := by decide +kernel
theorem dX8_deed_5 : decode cX8_deed 5 = .ok (.ifCond .eq 21, 3) := by decide +kernel
theorem dX8_deed_8 : decode cX8_deed 8 = .ok (.iload_n 2, 1) := by decide +kernel
theorem dX8_deed_9 : decode cX8_deed 9 = .ok (.iconst 0, 1) := by decide +kernel
theorem dX8_deed_10 : decode cX8_deed 10 = .ok (.iconst 2, 1) := by decide +kernel
theorem dX8_deed_11 : decode cX8_deed 11 = .ok (.invokestatic 98, 3) := by decide +kernel
theorem dX8_deed_14 : decode cX8_deed 14 = .ok (.ifCond .eq 12, 3) := by decide +kernel
theorem dX8_deed_17 : decode cX8_deed 17 = .ok (.aload_n 0, 1) := by decide +kernel
theorem dX8_deed_18 : decode cX8_deed 18 = .ok (.iload_n 1, 1) := by decide +kernel
theorem dX8_deed_19 : decode cX8_deed 19 = .ok (.iload_n 2, 1) := by decide +kernel
theorem dX8_deed_20 : decode cX8_deed 20 = .ok (.invokevirtual 145, 3) := by decide +kernel
theorem dX8_deed_23 : decode cX8_deed 23 = .ok (.goto 5, 3) := by decide +kernel
theorem dX8_deed_26 : decode cX8_deed 26 = .ok (.bipush (-2), 2) := by decide +kernel
theorem dX8_deed_28 : decode cX8_deed 28 = .ok (.ireturn, 1) := by decide +kernel
theorem dX8_law_0 : decode cX8_law 0 = .ok (.iload_n 1, 1) := by decide +kernel
theorem dX8_law_1 : decode cX8_law 1 = .ok (.iconst 0, 1) := by decide +kernel
theorem dX8_law_2 : decode cX8_law 2 = .ok (.iconst 2, 1) := by decide +kernel
theorem dX8_law_3 : decode cX8_law 3 = .ok (.invokestatic 98, 3) := by decide +kernel
theorem dX8_law_6 : decode cX8_law 6 = .ok (.ifCond .eq 32, 3) := by decide +kernel
theorem dX8_law_9 : decode cX8_law 9 = .ok (.iload_n 2, 1) := by decide +kernel
theorem dX8_law_10 : decode cX8_law 10 = .ok (.iload_n 1, 1) := by decide +kernel
theorem dX8_law_11 : decode cX8_law 11 = .ok (.iconst 2, 1) := by decide +kernel
theorem dX8_law_12 : decode cX8_law 12 = .ok (.if_icmp .ne 7, 3) := by decide +kernel
theorem dX8_law_15 : decode cX8_law 15 = .ok (.iconst 1, 1) := by decide +kernel
theorem dX8_law_16 : decode cX8_law 16 = .ok (.goto 4, 3) := by decide +kernel
theorem dX8_law_19 : decode cX8_law 19 = .ok (.iconst 0, 1) := by decide +kernel
theorem dX8_law_20 : decode cX8_law 20 = .ok (.iload_n 1, 1) := by decide +kernel
theorem dX8_law_21 : decode cX8_law 21 = .ok (.iconst 2, 1) := by decide +kernel
theorem dX8_law_22 : decode cX8_law 22 = .ok (.if_icmp .ne 8, 3) := by decide +kernel
theorem dX8_law_25 : decode cX8_law 25 = .ok (.bipush 8, 2) := by decide +kernel
theorem dX8_law_27 : decode cX8_law 27 = .ok (.goto 5, 3) := by decide +kernel
theorem dX8_law_30 : decode cX8_law 30 = .ok (.bipush 9, 2) := by decide +kernel
theorem dX8_law_32 : decode cX8_law 32 = .ok (.invokestatic 98, 3) := by decide +kernel
theorem dX8_law_35 : decode cX8_law 35 = .ok (.ifCond .ne 6, 3) := by decide +kernel
theorem dX8_law_38 : decode cX8_law 38 = .ok (.bipush (-2), 2) := by decide +kernel
theorem dX8_law_40 : decode cX8_law 40 = .ok (.ireturn, 1) := by decide +kernel
theorem dX8_law_41 : decode cX8_law 41 = .ok (.iload_n 1, 1) := by decide +kernel
theorem dX8_law_42 : decode cX8_law 42 = .ok (.ifCond .ne 10, 3) := by decide +kernel
theorem dX8_law_45 : decode cX8_law 45 = .ok (.aload_n 0, 1) := by decide +kernel
theorem dX8_law_46 : decode cX8_law 46 = .ok (.getfield 86, 3) := by decide +kernel
theorem dX8_law_49 : decode cX8_law 49 = .ok (.goto 19, 3) := by decide +kernel
theorem dX8_law_52 : decode cX8_law 52 = .ok (.iload_n 1, 1) := by decide +kernel
theorem dX8_law_53 : decode cX8_law 53 = .ok (.iconst 1, 1) := by decide +kernel
theorem dX8_law_54 : decode cX8_law 54 = .ok (.if_icmp .ne 10, 3) := by decide +kernel
theorem dX8_law_57 : decode cX8_law 57 = .ok (.aload_n 0, 1) := by decide +kernel
theorem dX8_law_58 : decode cX8_law 58 = .ok (.getfield 90, 3) := by decide +kernel
theorem dX8_law_61 : decode cX8_law 61 = .ok (.goto 7, 3) := by decide +kernel
theorem dX8_law_64 : decode cX8_law 64 = .ok (.aload_n 0, 1) := by decide +kernel
theorem dX8_law_65 : decode cX8_law 65 = .ok (.getfield 93, 3) := by decide +kernel
theorem dX8_law_68 : decode cX8_law 68 = .ok (.istore_n 3, 1) := by decide +kernel
theorem dX8_law_69 : decode cX8_law 69 = .ok (.aload_n 0, 1) := by decide +kernel
theorem dX8_law_70 : decode cX8_law 70 = .ok (.iload_n 1, 1) := by decide +kernel
theorem dX8_law_71 : decode cX8_law 71 = .ok (.ifCond .ne 7, 3) := by decide +kernel
theorem dX8_law_74 : decode cX8_law 74 = .ok (.iload_n 2, 1) := by decide +kernel
theorem dX8_law_75 : decode cX8_law 75 = .ok (.goto 7, 3) := by decide +kernel
theorem dX8_law_78 : decode cX8_law 78 = .ok (.aload_n 0, 1) := by decide +kernel
theorem dX8_law_79 : decode cX8_law 79 = .ok (.getfield 86, 3) := by decide +kernel
theorem dX8_law_82 : decode cX8_law 82 = .ok (.putfield 86, 3) := by decide +kernel
theorem dX8_law_85 : decode cX8_law 85 = .ok (.aload_n 0, 1) := by decide +kernel
theorem dX8_law_86 : decode cX8_law 86 = .ok (.iload_n 1, 1) := by decide +kernel
theorem dX8_law_87 : decode cX8_law 87 = .ok (.iconst 1, 1) := by decide +kernel
theorem dX8_law_88 : decode cX8_law 88 = .ok (.if_icmp .ne 7, 3) := by decide +kernel
theorem dX8_law_91 : decode cX8_law 91 = .ok (.iload_n 2, 1) := by decide +kernel
theorem dX8_law_92 : decode cX8_law 92 = .ok (.goto 7, 3) := by decide +kernel
theorem dX8_law_95 : decode cX8_law 95 = .ok (.aload_n 0, 1) := by decide +kernel
theorem dX8_law_96 : decode cX8_law 96 = .ok (.getfield 90, 3) := by decide +kernel
theorem dX8_law_99 : decode cX8_law 99 = .ok (.putfield 90, 3) := by decide +kernel
theorem dX8_law_102 : decode cX8_law 102 = .ok (.aload_n 0, 1) := by decide +kernel
theorem dX8_law_103 : decode cX8_law 103 = .ok (.iload_n 1, 1) := by decide +kernel
theorem dX8_law_104 : decode cX8_law 104 = .ok (.iconst 2, 1) := by decide +kernel
theorem dX8_law_105 : decode cX8_law 105 = .ok (.if_icmp .ne 7, 3) := by decide +kernel
theorem dX8_law_108 : decode cX8_law 108 = .ok (.iload_n 2, 1) := by decide +kernel
theorem dX8_law_109 : decode cX8_law 109 = .ok (.goto 7, 3) := by decide +kernel
theorem dX8_law_112 : decode cX8_law 112 = .ok (.aload_n 0, 1) := by decide +kernel
theorem dX8_law_113 : decode cX8_law 113 = .ok (.getfield 93, 3) := by decide +kernel
theorem dX8_law_116 : decode cX8_law 116 = .ok (.putfield 93, 3) := by decide +kernel
theorem dX8_law_119 : decode cX8_law 119 = .ok (.iload_n 3, 1) := by decide +kernel
theorem dX8_law_120 : decode cX8_law 120 = .ok (.ireturn, 1) := by decide +kernel
theorem dX8_rowOf_0 : decode cX8_rowOf 0 = .ok (.iload_n 0, 1) := by decide +kernel
theorem dX8_rowOf_1 : decode cX8_rowOf 1 = .ok (.bipush 6, 2) := by decide +kernel
theorem dX8_rowOf_3 : decode cX8_rowOf 3 = .ok (.irem, 1) := by decide +kernel
theorem dX8_rowOf_4 : decode cX8_rowOf 4 = .ok (.istore_n 1, 1) := by decide +kernel
theorem dX8_rowOf_5 : decode cX8_rowOf 5 = .ok (.iload_n 1, 1) := by decide +kernel
theorem dX8_rowOf_6 : decode cX8_rowOf 6 = .ok (.ifCond .ne 7, 3) := by decide +kernel
theorem dX8_rowOf_9 : decode cX8_rowOf 9 = .ok (.iconst 1, 1) := by decide +kernel
theorem dX8_rowOf_10 : decode cX8_rowOf 10 = .ok (.goto 41, 3) := by decide +kernel
theorem dX8_rowOf_13 : decode cX8_rowOf 13 = .ok (.iload_n 1, 1) := by decide +kernel
theorem dX8_rowOf_14 : decode cX8_rowOf 14 = .ok (.iconst 1, 1) := by decide +kernel
theorem dX8_rowOf_15 : decode cX8_rowOf 15 = .ok (.if_icmp .ne 7, 3) := by decide +kernel
theorem dX8_rowOf_18 : decode cX8_rowOf 18 = .ok (.iconst 3, 1) := by decide +kernel
theorem dX8_rowOf_19 : decode cX8_rowOf 19 = .ok (.goto 32, 3) := by decide +kernel
theorem dX8_rowOf_22 : decode cX8_rowOf 22 = .ok (.iload_n 1, 1) := by decide +kernel
theorem dX8_rowOf_23 : decode cX8_rowOf 23 = .ok (.iconst 2, 1) := by decide +kernel
theorem dX8_rowOf_24 : decode cX8_rowOf 24 = .ok (.if_icmp .ne 7, 3) := by decide +kernel
theorem dX8_rowOf_27 : decode cX8_rowOf 27 = .ok (.iconst 5, 1) := by decide +kernel
theorem dX8_rowOf_28 : decode cX8_rowOf 28 = .ok (.goto 23, 3) := by decide +kernel
theorem dX8_rowOf_31 : decode cX8_rowOf 31 = .ok (.iload_n 1, 1) := by decide +kernel
theorem dX8_rowOf_32 : decode cX8_rowOf 32 = .ok (.iconst 3, 1) := by decide +kernel
theorem dX8_rowOf_33 : decode cX8_rowOf 33 = .ok (.if_icmp .ne 8, 3) := by decide +kernel
theorem dX8_rowOf_36 : decode cX8_rowOf 36 = .ok (.bipush 6, 2) := by decide +kernel
theorem dX8_rowOf_38 : decode cX8_rowOf 38 = .ok (.goto 13, 3) := by decide +kernel
theorem dX8_rowOf_41 : decode cX8_rowOf 41 = .ok (.iload_n 1, 1) := by decide +kernel
theorem dX8_rowOf_42 : decode cX8_rowOf 42 = .ok (.iconst 4, 1) := by decide +kernel
theorem dX8_rowOf_43 : decode cX8_rowOf 43 = .ok (.if_icmp .ne 7, 3) := by decide +kernel
theorem dX8_rowOf_46 : decode cX8_rowOf 46 = .ok (.iconst 4, 1) := by decide +kernel
theorem dX8_rowOf_47 : decode cX8_rowOf 47 = .ok (.goto 4, 3) := by decide +kernel
theorem dX8_rowOf_50 : decode cX8_rowOf 50 = .ok (.iconst 2, 1) := by decide +kernel
theorem dX8_rowOf_51 : decode cX8_rowOf 51 = .ok (.ireturn, 1) := by decide +kernel
theorem dX8_deepNow_0 : decode cX8_deepNow 0 = .ok (.iload_n 2, 1) := by decide +kernel
theorem dX8_deepNow_1 : decode cX8_deepNow 1 = .ok (.invokestatic 148, 3) := by decide +kernel
theorem dX8_deepNow_4 : decode cX8_deepNow 4 = .ok (.aload_n 0, 1) := by decide +kernel
theorem dX8_deepNow_5 : decode cX8_deepNow 5 = .ok (.getfield 22, 3) := by decide +kernel
theorem dX8_deepNow_8 : decode cX8_deepNow 8 = .ok (.iload_n 1, 1) := by decide +kernel
theorem dX8_deepNow_9 : decode cX8_deepNow 9 = .ok (.iaload, 1) := by decide +kernel
theorem dX8_deepNow_10 : decode cX8_deepNow 10 = .ok (.iadd, 1) := by decide +kernel
theorem dX8_deepNow_11 : decode cX8_deepNow 11 = .ok (.istore_n 3, 1) := by decide +kernel
theorem dX8_deepNow_12 : decode cX8_deepNow 12 = .ok (.aload_n 0, 1) := by decide +kernel
theorem dX8_deepNow_13 : decode cX8_deepNow 13 = .ok (.getfield 25, 3) := by decide +kernel
theorem dX8_deepNow_16 : decode cX8_deepNow 16 = .ok (.iload_n 1, 1) := by decide +kernel
theorem dX8_deepNow_17 : decode cX8_deepNow 17 = .ok (.iaload, 1) := by decide +kernel
theorem dX8_deepNow_18 : decode cX8_deepNow 18 = .ok (.ifCond .ne 9, 3) := by decide +kernel
theorem dX8_deepNow_21 : decode cX8_deepNow 21 = .ok (.iload_n 3, 1) := by decide +kernel
theorem dX8_deepNow_22 : decode cX8_deepNow 22 = .ok (.iconst 1, 1) := by decide +kernel
theorem dX8_deepNow_23 : decode cX8_deepNow 23 = .ok (.iadd, 1) := by decide +kernel
theorem dX8_deepNow_24 : decode cX8_deepNow 24 = .ok (.goto 52, 3) := by decide +kernel
theorem dX8_deepNow_27 : decode cX8_deepNow 27 = .ok (.aload_n 0, 1) := by decide +kernel
theorem dX8_deepNow_28 : decode cX8_deepNow 28 = .ok (.getfield 25, 3) := by decide +kernel
theorem dX8_deepNow_31 : decode cX8_deepNow 31 = .ok (.iload_n 1, 1) := by decide +kernel
theorem dX8_deepNow_32 : decode cX8_deepNow 32 = .ok (.iaload, 1) := by decide +kernel
theorem dX8_deepNow_33 : decode cX8_deepNow 33 = .ok (.iconst 1, 1) := by decide +kernel
theorem dX8_deepNow_34 : decode cX8_deepNow 34 = .ok (.if_icmp .ne 18, 3) := by decide +kernel
theorem dX8_deepNow_37 : decode cX8_deepNow 37 = .ok (.iload_n 3, 1) := by decide +kernel
theorem dX8_deepNow_38 : decode cX8_deepNow 38 = .ok (.iconst 3, 1) := by decide +kernel
theorem dX8_deepNow_39 : decode cX8_deepNow 39 = .ok (.if_icmp .le 9, 3) := by decide +kernel
theorem dX8_deepNow_42 : decode cX8_deepNow 42 = .ok (.iload_n 3, 1) := by decide +kernel
theorem dX8_deepNow_43 : decode cX8_deepNow 43 = .ok (.iconst 2, 1) := by decide +kernel
theorem dX8_deepNow_44 : decode cX8_deepNow 44 = .ok (.isub, 1) := by decide +kernel
theorem dX8_deepNow_45 : decode cX8_deepNow 45 = .ok (.goto 31, 3) := by decide +kernel
theorem dX8_deepNow_48 : decode cX8_deepNow 48 = .ok (.iconst 1, 1) := by decide +kernel
theorem dX8_deepNow_49 : decode cX8_deepNow 49 = .ok (.goto 27, 3) := by decide +kernel
theorem dX8_deepNow_52 : decode cX8_deepNow 52 = .ok (.aload_n 0, 1) := by decide +kernel
theorem dX8_deepNow_53 : decode cX8_deepNow 53 = .ok (.getfield 25, 3) := by decide +kernel
theorem dX8_deepNow_56 : decode cX8_deepNow 56 = .ok (.iload_n 1, 1) := by decide +kernel
theorem dX8_deepNow_57 : decode cX8_deepNow 57 = .ok (.iaload, 1) := by decide +kernel
theorem dX8_deepNow_58 : decode cX8_deepNow 58 = .ok (.iconst 2, 1) := by decide +kernel
theorem dX8_deepNow_59 : decode cX8_deepNow 59 = .ok (.if_icmp .ne 16, 3) := by decide +kernel
theorem dX8_deepNow_62 : decode cX8_deepNow 62 = .ok (.iload_n 3, 1) := by decide +kernel
theorem dX8_deepNow_63 : decode cX8_deepNow 63 = .ok (.iconst 3, 1) := by decide +kernel
theorem dX8_deepNow_64 : decode cX8_deepNow 64 = .ok (.if_icmp .ge 7, 3) := by decide +kernel
theorem dX8_deepNow_67 : decode cX8_deepNow 67 = .ok (.iload_n 3, 1) := by decide +kernel
theorem dX8_deepNow_68 : decode cX8_deepNow 68 = .ok (.goto 8, 3) := by decide +kernel
theorem dX8_deepNow_71 : decode cX8_deepNow 71 = .ok (.iconst 3, 1) := by decide +kernel
theorem dX8_deepNow_72 : decode cX8_deepNow 72 = .ok (.goto 4, 3) := by decide +kernel
theorem dX8_deepNow_75 : decode cX8_deepNow 75 = .ok (.iconst 0, 1) := by decide +kernel
theorem dX8_deepNow_76 : decode cX8_deepNow 76 = .ok (.ireturn, 1) := by decide +kernel
theorem dX8_loudOf_0 : decode cX8_loudOf 0 = .ok (.aload_n 0, 1) := by decide +kernel
theorem dX8_loudOf_1 : decode cX8_loudOf 1 = .ok (.getfield 34, 3) := by decide +kernel
theorem dX8_loudOf_4 : decode cX8_loudOf 4 = .ok (.iload_n 1, 1) := by decide +kernel
theorem dX8_loudOf_5 : decode cX8_loudOf 5 = .ok (.iaload, 1) := by decide +kernel
theorem dX8_loudOf_6 : decode cX8_loudOf 6 = .ok (.ifCond .ne 8, 3) := by decide +kernel
theorem dX8_loudOf_9 : decode cX8_loudOf 9 = .ok (.bipush 6, 2) := by decide +kernel
theorem dX8_loudOf_11 : decode cX8_loudOf 11 = .ok (.goto 33, 3) := by decide +kernel
theorem dX8_loudOf_14 : decode cX8_loudOf 14 = .ok (.aload_n 0, 1) := by decide +kernel
theorem dX8_loudOf_15 : decode cX8_loudOf 15 = .ok (.getfield 34, 3) := by decide +kernel
theorem dX8_loudOf_18 : decode cX8_loudOf 18 = .ok (.iload_n 1, 1) := by decide +kernel
theorem dX8_loudOf_19 : decode cX8_loudOf 19 = .ok (.iaload, 1) := by decide +kernel
theorem dX8_loudOf_20 : decode cX8_loudOf 20 = .ok (.iconst 1, 1) := by decide +kernel
theorem dX8_loudOf_21 : decode cX8_loudOf 21 = .ok (.if_icmp .ne 7, 3) := by decide +kernel
theorem dX8_loudOf_24 : decode cX8_loudOf 24 = .ok (.iconst 4, 1) := by decide +kernel
theorem dX8_loudOf_25 : decode cX8_loudOf 25 = .ok (.goto 19, 3) := by decide +kernel
theorem dX8_loudOf_28 : decode cX8_loudOf 28 = .ok (.aload_n 0, 1) := by decide +kernel
theorem dX8_loudOf_29 : decode cX8_loudOf 29 = .ok (.getfield 34, 3) := by decide +kernel
theorem dX8_loudOf_32 : decode cX8_loudOf 32 = .ok (.iload_n 1, 1) := by decide +kernel
theorem dX8_loudOf_33 : decode cX8_loudOf 33 = .ok (.iaload, 1) := by decide +kernel
theorem dX8_loudOf_34 : decode cX8_loudOf 34 = .ok (.iconst 2, 1) := by decide +kernel
theorem dX8_loudOf_35 : decode cX8_loudOf 35 = .ok (.if_icmp .ne 8, 3) := by decide +kernel
theorem dX8_loudOf_38 : decode cX8_loudOf 38 = .ok (.bipush 9, 2) := by decide +kernel
theorem dX8_loudOf_40 : decode cX8_loudOf 40 = .ok (.goto 4, 3) := by decide +kernel
theorem dX8_loudOf_43 : decode cX8_loudOf 43 = .ok (.iconst 3, 1) := by decide +kernel
theorem dX8_loudOf_44 : decode cX8_loudOf 44 = .ok (.istore_n 3, 1) := by decide +kernel
theorem dX8_loudOf_45 : decode cX8_loudOf 45 = .ok (.aload_n 0, 1) := by decide +kernel
theorem dX8_loudOf_46 : decode cX8_loudOf 46 = .ok (.getfield 31, 3) := by decide +kernel
theorem dX8_loudOf_49 : decode cX8_loudOf 49 = .ok (.iload_n 1, 1) := by decide +kernel
theorem dX8_loudOf_50 : decode cX8_loudOf 50 = .ok (.iaload, 1) := by decide +kernel
theorem dX8_loudOf_51 : decode cX8_loudOf 51 = .ok (.aload_n 0, 1) := by decide +kernel
theorem dX8_loudOf_52 : decode cX8_loudOf 52 = .ok (.getfield 16, 3) := by decide +kernel
theorem dX8_loudOf_55 : decode cX8_loudOf 55 = .ok (.iload_n 2, 1) := by decide +kernel
theorem dX8_loudOf_56 : decode cX8_loudOf 56 = .ok (.iaload, 1) := by decide +kernel
theorem dX8_loudOf_57 : decode cX8_loudOf 57 = .ok (.if_icmp .ge 19, 3) := by decide +kernel
theorem dX8_loudOf_60 : decode cX8_loudOf 60 = .ok (.aload_n 0, 1) := by decide +kernel
theorem dX8_loudOf_61 : decode cX8_loudOf 61 = .ok (.getfield 16, 3) := by decide +kernel
theorem dX8_loudOf_64 : decode cX8_loudOf 64 = .ok (.iload_n 2, 1) := by decide +kernel
theorem dX8_loudOf_65 : decode cX8_loudOf 65 = .ok (.iaload, 1) := by decide +kernel
theorem dX8_loudOf_66 : decode cX8_loudOf 66 = .ok (.aload_n 0, 1) := by decide +kernel
theorem dX8_loudOf_67 : decode cX8_loudOf 67 = .ok (.getfield 31, 3) := by decide +kernel
theorem dX8_loudOf_70 : decode cX8_loudOf 70 = .ok (.iload_n 1, 1) := by decide +kernel
theorem dX8_loudOf_71 : decode cX8_loudOf 71 = .ok (.iaload, 1) := by decide +kernel
theorem dX8_loudOf_72 : decode cX8_loudOf 72 = .ok (.isub, 1) := by decide +kernel
theorem dX8_loudOf_73 : decode cX8_loudOf 73 = .ok (.goto 16, 3) := by decide +kernel
theorem dX8_loudOf_76 : decode cX8_loudOf 76 = .ok (.aload_n 0, 1) := by decide +kernel
theorem dX8_loudOf_77 : decode cX8_loudOf 77 = .ok (.getfield 31, 3) := by decide +kernel
theorem dX8_loudOf_80 : decode cX8_loudOf 80 = .ok (.iload_n 1, 1) := by decide +kernel
theorem dX8_loudOf_81 : decode cX8_loudOf 81 = .ok (.iaload, 1) := by decide +kernel
theorem dX8_loudOf_82 : decode cX8_loudOf 82 = .ok (.aload_n 0, 1) := by decide +kernel
theorem dX8_loudOf_83 : decode cX8_loudOf 83 = .ok (.getfield 16, 3) := by decide +kernel
theorem dX8_loudOf_86 : decode cX8_loudOf 86 = .ok (.iload_n 2, 1) := by decide +kernel
theorem dX8_loudOf_87 : decode cX8_loudOf 87 = .ok (.iaload, 1) := by decide +kernel
theorem dX8_loudOf_88 : decode cX8_loudOf 88 = .ok (.isub, 1) := by decide +kernel
theorem dX8_loudOf_89 : decode cX8_loudOf 89 = .ok (.istore 4, 2) := by decide +kernel
theorem dX8_loudOf_91 : decode cX8_loudOf 91 = .ok (.iload_n 3, 1) := by decide +kernel
theorem dX8_loudOf_92 : decode cX8_loudOf 92 = .ok (.iload 4, 2) := by decide +kernel
theorem dX8_loudOf_94 : decode cX8_loudOf 94 = .ok (.if_icmp .le 10, 3) := by decide +kernel
theorem dX8_loudOf_97 : decode cX8_loudOf 97 = .ok (.iload_n 3, 1) := by decide +kernel
theorem dX8_loudOf_98 : decode cX8_loudOf 98 = .ok (.iload 4, 2) := by decide +kernel
theorem dX8_loudOf_100 : decode cX8_loudOf 100 = .ok (.isub, 1) := by decide +kernel
theorem dX8_loudOf_101 : decode cX8_loudOf 101 = .ok (.goto 4, 3) := by decide +kernel
theorem dX8_loudOf_104 : decode cX8_loudOf 104 = .ok (.iconst 0, 1) := by decide +kernel
theorem dX8_loudOf_105 : decode cX8_loudOf 105 = .ok (.ireturn, 1) := by decide +kernel
theorem dX8_sleeps_0 : decode cX8_sleeps 0 = .ok (.aload_n 0, 1) := by decide +kernel
theorem dX8_sleeps_1 : decode cX8_sleeps 1 = .ok (.getfield 19, 3) := by decide +kernel
theorem dX8_sleeps_4 : decode cX8_sleeps 4 = .ok (.iload_n 1, 1) := by decide +kernel
theorem dX8_sleeps_5 : decode cX8_sleeps 5 = .ok (.iaload, 1) := by decide +kernel
theorem dX8_sleeps_6 : decode cX8_sleeps 6 = .ok (.istore_n 2, 1) := by decide +kernel
theorem dX8_sleeps_7 : decode cX8_sleeps 7 = .ok (.aload_n 0, 1) := by decide +kernel
theorem dX8_sleeps_8 : decode cX8_sleeps 8 = .ok (.getfield 50, 3) := by decide +kernel
theorem dX8_sleeps_11 : decode cX8_sleeps 11 = .ok (.iload_n 1, 1) := by decide +kernel
theorem dX8_sleeps_12 : decode cX8_sleeps 12 = .ok (.iconst 0, 1) := by decide +kernel
theorem dX8_sleeps_13 : decode cX8_sleeps 13 = .ok (.iastore, 1) := by decide +kernel
theorem dX8_sleeps_14 : decode cX8_sleeps 14 = .ok (.iconst 0, 1) := by decide +kernel
theorem dX8_sleeps_15 : decode cX8_sleeps 15 = .ok (.istore_n 3, 1) := by decide +kernel
theorem dX8_sleeps_16 : decode cX8_sleeps 16 = .ok (.iload_n 3, 1) := by decide +kernel
theorem dX8_sleeps_17 : decode cX8_sleeps 17 = .ok (.bipush 50, 2) := by decide +kernel
theorem dX8_sleeps_19 : decode cX8_sleeps 19 = .ok (.if_icmp .ge 218, 3) := by decide +kernel
theorem dX8_sleeps_22 : decode cX8_sleeps 22 = .ok (.iload_n 3, 1) := by decide +kernel
theorem dX8_sleeps_23 : decode cX8_sleeps 23 = .ok (.iload_n 2, 1) := by decide +kernel
theorem dX8_sleeps_24 : decode cX8_sleeps 24 = .ok (.if_icmp .ge 7, 3) := by decide +kernel
theorem dX8_sleeps_27 : decode cX8_sleeps 27 = .ok (.iconst 0, 1) := by decide +kernel
theorem dX8_sleeps_28 : decode cX8_sleeps 28 = .ok (.goto 11, 3) := by decide +kernel
theorem dX8_sleeps_31 : decode cX8_sleeps 31 = .ok (.aload_n 0, 1) := by decide +kernel
theorem dX8_sleeps_32 : decode cX8_sleeps 32 = .ok (.iload_n 1, 1) := by decide +kernel
theorem dX8_sleeps_33 : decode cX8_sleeps 33 = .ok (.iload_n 3, 1) := by decide +kernel
theorem dX8_sleeps_34 : decode cX8_sleeps 34 = .ok (.iload_n 2, 1) := by decide +kernel
theorem dX8_sleeps_35 : decode cX8_sleeps 35 = .ok (.isub, 1) := by decide +kernel
theorem dX8_sleeps_36 : decode cX8_sleeps 36 = .ok (.invokevirtual 151, 3) := by decide +kernel
theorem dX8_sleeps_39 : decode cX8_sleeps 39 = .ok (.istore 4, 2) := by decide +kernel
theorem dX8_sleeps_41 : decode cX8_sleeps 41 = .ok (.aload_n 0, 1) := by decide +kernel
theorem dX8_sleeps_42 : decode cX8_sleeps 42 = .ok (.getfield 37, 3) := by decide +kernel
theorem dX8_sleeps_45 : decode cX8_sleeps 45 = .ok (.bipush 50, 2) := by decide +kernel
theorem dX8_sleeps_47 : decode cX8_sleeps 47 = .ok (.iload_n 1, 1) := by decide +kernel
theorem dX8_sleeps_48 : decode cX8_sleeps 48 = .ok (.imul, 1) := by decide +kernel
theorem dX8_sleeps_49 : decode cX8_sleeps 49 = .ok (.iload_n 3, 1) := by decide +kernel
theorem dX8_sleeps_50 : decode cX8_sleeps 50 = .ok (.iadd, 1) := by decide +kernel
theorem dX8_sleeps_51 : decode cX8_sleeps 51 = .ok (.iload 4, 2) := by decide +kernel
theorem dX8_sleeps_53 : decode cX8_sleeps 53 = .ok (.iastore, 1) := by decide +kernel
theorem dX8_sleeps_54 : decode cX8_sleeps 54 = .ok (.aload_n 0, 1) := by decide +kernel
theorem dX8_sleeps_55 : decode cX8_sleeps 55 = .ok (.getfield 40, 3) := by decide +kernel
theorem dX8_sleeps_58 : decode cX8_sleeps 58 = .ok (.bipush 50, 2) := by decide +kernel
theorem dX8_sleeps_60 : decode cX8_sleeps 60 = .ok (.iload_n 1, 1) := by decide +kernel
theorem dX8_sleeps_61 : decode cX8_sleeps 61 = .ok (.imul, 1) := by decide +kernel
theorem dX8_sleeps_62 : decode cX8_sleeps 62 = .ok (.iload_n 3, 1) := by decide +kernel
theorem dX8_sleeps_63 : decode cX8_sleeps 63 = .ok (.iadd, 1) := by decide +kernel
theorem dX8_sleeps_64 : decode cX8_sleeps 64 = .ok (.iconst 0, 1) := by decide +kernel
theorem dX8_sleeps_65 : decode cX8_sleeps 65 = .ok (.bastore, 1) := by decide +kernel
theorem dX8_sleeps_66 : decode cX8_sleeps 66 = .ok (.iconst 0, 1) := by decide +kernel
theorem dX8_sleeps_67 : decode cX8_sleeps 67 = .ok (.istore 5, 2) := by decide +kernel
theorem dX8_sleeps_69 : decode cX8_sleeps 69 = .ok (.iload 5, 2) := by decide +kernel
theorem dX8_sleeps_71 : decode cX8_sleeps 71 = .ok (.aload_n 0, 1) := by decide +kernel
theorem dX8_sleeps_72 : decode cX8_sleeps 72 = .ok (.getfield 117, 3) := by decide +kernel
theorem dX8_sleeps_75 : decode cX8_sleeps 75 = .ok (.if_icmp .ge 156, 3) := by decide +kernel
theorem dX8_sleeps_78 : decode cX8_sleeps 78 = .ok (.aload_n 0, 1) := by decide +kernel
theorem dX8_sleeps_79 : decode cX8_sleeps 79 = .ok (.getfield 28, 3) := by decide +kernel
theorem dX8_sleeps_82 : decode cX8_sleeps 82 = .ok (.iload 5, 2) := by decide +kernel
theorem dX8_sleeps_84 : decode cX8_sleeps 84 = .ok (.iaload, 1) := by decide +kernel
theorem dX8_sleeps_85 : decode cX8_sleeps 85 = .ok (.iload_n 3, 1) := by decide +kernel
theorem dX8_sleeps_86 : decode cX8_sleeps 86 = .ok (.if_icmp .ne 139, 3) := by decide +kernel
theorem dX8_sleeps_89 : decode cX8_sleeps 89 = .ok (.aload_n 0, 1) := by decide +kernel
theorem dX8_sleeps_90 : decode cX8_sleeps 90 = .ok (.getfield 154, 3) := by decide +kernel
theorem dX8_sleeps_93 : decode cX8_sleeps 93 = .ok (.iload 5, 2) := by decide +kernel
theorem dX8_sleeps_95 : decode cX8_sleeps 95 = .ok (.invokestatic 157, 3) := by decide +kernel
theorem dX8_sleeps_98 : decode cX8_sleeps 98 = .ok (.ifCond .ne 127, 3) := by decide +kernel
theorem dX8_sleeps_101 : decode cX8_sleeps 101 = .ok (.aload_n 0, 1) := by decide +kernel
theorem dX8_sleeps_102 : decode cX8_sleeps 102 = .ok (.iload 5, 2) := by decide +kernel
theorem dX8_sleeps_104 : decode cX8_sleeps 104 = .ok (.iload_n 1, 1) := by decide +kernel
theorem dX8_sleeps_105 : decode cX8_sleeps 105 = .ok (.invokevirtual 161, 3) := by decide +kernel
theorem dX8_sleeps_108 : decode cX8_sleeps 108 = .ok (.istore 6, 2) := by decide +kernel
theorem dX8_sleeps_110 : decode cX8_sleeps 110 = .ok (.iload 6, 2) := by decide +kernel
theorem dX8_sleeps_112 : decode cX8_sleeps 112 = .ok (.ifCond .ne 7, 3) := by decide +kernel
theorem dX8_sleeps_115 : decode cX8_sleeps 115 = .ok (.iconst 0, 1) := by decide +kernel
theorem dX8_sleeps_116 : decode cX8_sleeps 116 = .ok (.goto 26, 3) := by decide +kernel
theorem dX8_sleeps_119 : decode cX8_sleeps 119 = .ok (.iload 4, 2) := by decide +kernel
theorem dX8_sleeps_121 : decode cX8_sleeps 121 = .ok (.ifCond .ne 7, 3) := by decide +kernel
theorem dX8_sleeps_124 : decode cX8_sleeps 124 = .ok (.iconst 1, 1) := by decide +kernel
theorem dX8_sleeps_125 : decode cX8_sleeps 125 = .ok (.goto 17, 3) := by decide +kernel
theorem dX8_sleeps_128 : decode cX8_sleeps 128 = .ok (.iload 6, 2) := by decide +kernel
theorem dX8_sleeps_130 : decode cX8_sleeps 130 = .ok (.iload 4, 2) := by decide +kernel
theorem dX8_sleeps_132 : decode cX8_sleeps 132 = .ok (.iconst 3, 1) := by decide +kernel
theorem dX8_sleeps_133 : decode cX8_sleeps 133 = .ok (.iadd, 1) := by decide +kernel
theorem dX8_sleeps_134 : decode cX8_sleeps 134 = .ok (.if_icmp .lt 7, 3) := by decide +kernel
theorem dX8_sleeps_137 : decode cX8_sleeps 137 = .ok (.iconst 2, 1) := by decide +kernel
theorem dX8_sleeps_138 : decode cX8_sleeps 138 = .ok (.goto 4, 3) := by decide +kernel
theorem dX8_sleeps_141 : decode cX8_sleeps 141 = .ok (.iconst 3, 1) := by decide +kernel
theorem dX8_sleeps_142 : decode cX8_sleeps 142 = .ok (.istore 7, 2) := by decide +kernel
theorem dX8_sleeps_144 : decode cX8_sleeps 144 = .ok (.aload_n 0, 1) := by decide +kernel
theorem dX8_sleeps_145 : decode cX8_sleeps 145 = .ok (.getfield 44, 3) := by decide +kernel
theorem dX8_sleeps_148 : decode cX8_sleeps 148 = .ok (.bipush 8, 2) := by decide +kernel
theorem dX8_sleeps_150 : decode cX8_sleeps 150 = .ok (.iload 5, 2) := by decide +kernel
theorem dX8_sleeps_152 : decode cX8_sleeps 152 = .ok (.imul, 1) := by decide +kernel
theorem dX8_sleeps_153 : decode cX8_sleeps 153 = .ok (.iload_n 1, 1) := by decide +kernel
theorem dX8_sleeps_154 : decode cX8_sleeps 154 = .ok (.iadd, 1) := by decide +kernel
theorem dX8_sleeps_155 : decode cX8_sleeps 155 = .ok (.iload 7, 2) := by decide +kernel
theorem dX8_sleeps_157 : decode cX8_sleeps 157 = .ok (.iastore, 1) := by decide +kernel
theorem dX8_sleeps_158 : decode cX8_sleeps 158 = .ok (.aload_n 0, 1) := by decide +kernel
theorem dX8_sleeps_159 : decode cX8_sleeps 159 = .ok (.getfield 47, 3) := by decide +kernel
theorem dX8_sleeps_162 : decode cX8_sleeps 162 = .ok (.bipush 8, 2) := by decide +kernel
theorem dX8_sleeps_164 : decode cX8_sleeps 164 = .ok (.iload 5, 2) := by decide +kernel
theorem dX8_sleeps_166 : decode cX8_sleeps 166 = .ok (.imul, 1) := by decide +kernel
theorem dX8_sleeps_167 : decode cX8_sleeps 167 = .ok (.iload_n 1, 1) := by decide +kernel
theorem dX8_sleeps_168 : decode cX8_sleeps 168 = .ok (.iadd, 1) := by decide +kernel
theorem dX8_sleeps_169 : decode cX8_sleeps 169 = .ok (.iload 7, 2) := by decide +kernel
theorem dX8_sleeps_171 : decode cX8_sleeps 171 = .ok (.iconst 3, 1) := by decide +kernel
theorem dX8_sleeps_172 : decode cX8_sleeps 172 = .ok (.if_icmp .ne 16, 3) := by decide +kernel
theorem dX8_sleeps_175 : decode cX8_sleeps 175 = .ok (.iload 4, 2) := by decide +kernel
theorem dX8_sleeps_177 : decode cX8_sleeps 177 = .ok (.aload_n 0, 1) := by decide +kernel
theorem dX8_sleeps_178 : decode cX8_sleeps 178 = .ok (.getfield 86, 3) := by decide +kernel
theorem dX8_sleeps_181 : decode cX8_sleeps 181 = .ok (.if_icmp .lt 7, 3) := by decide +kernel
theorem dX8_sleeps_184 : decode cX8_sleeps 184 = .ok (.iconst 1, 1) := by decide +kernel
theorem dX8_sleeps_185 : decode cX8_sleeps 185 = .ok (.goto 4, 3) := by decide +kernel
theorem dX8_sleeps_188 : decode cX8_sleeps 188 = .ok (.iconst 0, 1) := by decide +kernel
theorem dX8_sleeps_189 : decode cX8_sleeps 189 = .ok (.bastore, 1) := by decide +kernel
theorem dX8_sleeps_190 : decode cX8_sleeps 190 = .ok (.iload 7, 2) := by decide +kernel
theorem dX8_sleeps_192 : decode cX8_sleeps 192 = .ok (.iconst 2, 1) := by decide +kernel
theorem dX8_sleeps_193 : decode cX8_sleeps 193 = .ok (.if_icmp .ne 32, 3) := by decide +kernel
theorem dX8_sleeps_196 : decode cX8_sleeps 196 = .ok (.iconst 0, 1) := by decide +kernel
theorem dX8_sleeps_197 : decode cX8_sleeps 197 = .ok (.istore 4, 2) := by decide +kernel
theorem dX8_sleeps_199 : decode cX8_sleeps 199 = .ok (.iload_n 3, 1) := by decide +kernel
theorem dX8_sleeps_200 : decode cX8_sleeps 200 = .ok (.iconst 3, 1) := by decide +kernel
theorem dX8_sleeps_201 : decode cX8_sleeps 201 = .ok (.iadd, 1) := by decide +kernel
theorem dX8_sleeps_202 : decode cX8_sleeps 202 = .ok (.istore_n 2, 1) := by decide +kernel
theorem dX8_sleeps_203 : decode cX8_sleeps 203 = .ok (.aload_n 0, 1) := by decide +kernel
theorem dX8_sleeps_204 : decode cX8_sleeps 204 = .ok (.getfield 50, 3) := by decide +kernel
theorem dX8_sleeps_207 : decode cX8_sleeps 207 = .ok (.iload_n 1, 1) := by decide +kernel
theorem dX8_sleeps_208 : decode cX8_sleeps 208 = .ok (.dup2, 1) := by decide +kernel
theorem dX8_sleeps_209 : decode cX8_sleeps 209 = .ok (.iaload, 1) := by decide +kernel
theorem dX8_sleeps_210 : decode cX8_sleeps 210 = .ok (.iconst 1, 1) := by decide +kernel
theorem dX8_sleeps_211 : decode cX8_sleeps 211 = .ok (.iadd, 1) := by decide +kernel
theorem dX8_sleeps_212 : decode cX8_sleeps 212 = .ok (.iastore, 1) := by decide +kernel
theorem dX8_sleeps_213 : decode cX8_sleeps 213 = .ok (.aload_n 0, 1) := by decide +kernel
theorem dX8_sleeps_214 : decode cX8_sleeps 214 = .ok (.getfield 40, 3) := by decide +kernel
theorem dX8_sleeps_217 : decode cX8_sleeps 217 = .ok (.bipush 50, 2) := by decide +kernel
theorem dX8_sleeps_219 : decode cX8_sleeps 219 = .ok (.iload_n 1, 1) := by decide +kernel
theorem dX8_sleeps_220 : decode cX8_sleeps 220 = .ok (.imul, 1) := by decide +kernel
theorem dX8_sleeps_221 : decode cX8_sleeps 221 = .ok (.iload_n 3, 1) := by decide +kernel
theorem dX8_sleeps_222 : decode cX8_sleeps 222 = .ok (.iadd, 1) := by decide +kernel
theorem dX8_sleeps_223 : decode cX8_sleeps 223 = .ok (.iconst 1, 1) := by decide +kernel
theorem dX8_sleeps_224 : decode cX8_sleeps 224 = .ok (.bastore, 1) := by decide +kernel
theorem dX8_sleeps_225 : decode cX8_sleeps 225 = .ok (.iinc 5 1, 3) := by decide +kernel
theorem dX8_sleeps_228 : decode cX8_sleeps 228 = .ok (.goto (-159), 3) := by decide +kernel
theorem dX8_sleeps_231 : decode cX8_sleeps 231 = .ok (.iinc 3 1, 3) := by decide +kernel
theorem dX8_sleeps_234 : decode cX8_sleeps 234 = .ok (.goto (-218), 3) := by decide +kernel
theorem dX8_sleeps_237 : decode cX8_sleeps 237 = .ok (.return_, 1) := by decide +kernel
theorem dX8_runs_0 : decode cX8_runs 0 = .ok (.iconst 0, 1) := by decide +kernel
theorem dX8_runs_1 : decode cX8_runs 1 = .ok (.istore_n 1, 1) := by decide +kernel
theorem dX8_runs_2 : decode cX8_runs 2 = .ok (.iload_n 1, 1) := by decide +kernel
theorem dX8_runs_3 : decode cX8_runs 3 = .ok (.bipush 9, 2) := by decide +kernel
theorem dX8_runs_5 : decode cX8_runs 5 = .ok (.if_icmp .ge 47, 3) := by decide +kernel
theorem dX8_runs_8 : decode cX8_runs 8 = .ok (.iconst 0, 1) := by decide +kernel
theorem dX8_runs_9 : decode cX8_runs 9 = .ok (.istore_n 2, 1) := by decide +kernel
theorem dX8_runs_10 : decode cX8_runs 10 = .ok (.iload_n 2, 1) := by decide +kernel
theorem dX8_runs_11 : decode cX8_runs 11 = .ok (.bipush 8, 2) := by decide +kernel
theorem dX8_runs_13 : decode cX8_runs 13 = .ok (.if_icmp .ge 33, 3) := by decide +kernel
theorem dX8_runs_16 : decode cX8_runs 16 = .ok (.aload_n 0, 1) := by decide +kernel
theorem dX8_runs_17 : decode cX8_runs 17 = .ok (.getfield 44, 3) := by decide +kernel
theorem dX8_runs_20 : decode cX8_runs 20 = .ok (.bipush 8, 2) := by decide +kernel
theorem dX8_runs_22 : decode cX8_runs 22 = .ok (.iload_n 1, 1) := by decide +kernel
theorem dX8_runs_23 : decode cX8_runs 23 = .ok (.imul, 1) := by decide +kernel
theorem dX8_runs_24 : decode cX8_runs 24 = .ok (.iload_n 2, 1) := by decide +kernel
theorem dX8_runs_25 : decode cX8_runs 25 = .ok (.iadd, 1) := by decide +kernel
theorem dX8_runs_26 : decode cX8_runs 26 = .ok (.iconst 0, 1) := by decide +kernel
theorem dX8_runs_27 : decode cX8_runs 27 = .ok (.iastore, 1) := by decide +kernel
theorem dX8_runs_28 : decode cX8_runs 28 = .ok (.aload_n 0, 1) := by decide +kernel
theorem dX8_runs_29 : decode cX8_runs 29 = .ok (.getfield 47, 3) := by decide +kernel
theorem dX8_runs_32 : decode cX8_runs 32 = .ok (.bipush 8, 2) := by decide +kernel
theorem dX8_runs_34 : decode cX8_runs 34 = .ok (.iload_n 1, 1) := by decide +kernel
theorem dX8_runs_35 : decode cX8_runs 35 = .ok (.imul, 1) := by decide +kernel
theorem dX8_runs_36 : decode cX8_runs 36 = .ok (.iload_n 2, 1) := by decide +kernel
theorem dX8_runs_37 : decode cX8_runs 37 = .ok (.iadd, 1) := by decide +kernel
theorem dX8_runs_38 : decode cX8_runs 38 = .ok (.iconst 0, 1) := by decide +kernel
theorem dX8_runs_39 : decode cX8_runs 39 = .ok (.bastore, 1) := by decide +kernel
theorem dX8_runs_40 : decode cX8_runs 40 = .ok (.iinc 2 1, 3) := by decide +kernel
theorem dX8_runs_43 : decode cX8_runs 43 = .ok (.goto (-33), 3) := by decide +kernel
theorem dX8_runs_46 : decode cX8_runs 46 = .ok (.iinc 1 1, 3) := by decide +kernel
theorem dX8_runs_49 : decode cX8_runs 49 = .ok (.goto (-47), 3) := by decide +kernel
theorem dX8_runs_52 : decode cX8_runs 52 = .ok (.iconst 0, 1) := by decide +kernel
theorem dX8_runs_53 : decode cX8_runs 53 = .ok (.istore_n 1, 1) := by decide +kernel
theorem dX8_runs_54 : decode cX8_runs 54 = .ok (.iload_n 1, 1) := by decide +kernel
theorem dX8_runs_55 : decode cX8_runs 55 = .ok (.aload_n 0, 1) := by decide +kernel
theorem dX8_runs_56 : decode cX8_runs 56 = .ok (.getfield 114, 3) := by decide +kernel
theorem dX8_runs_59 : decode cX8_runs 59 = .ok (.if_icmp .ge 161, 3) := by decide +kernel
theorem dX8_runs_62 : decode cX8_runs 62 = .ok (.aload_n 0, 1) := by decide +kernel
theorem dX8_runs_63 : decode cX8_runs 63 = .ok (.iload_n 1, 1) := by decide +kernel
theorem dX8_runs_64 : decode cX8_runs 64 = .ok (.invokevirtual 164, 3) := by decide +kernel
theorem dX8_runs_67 : decode cX8_runs 67 = .ok (.iconst 0, 1) := by decide +kernel
theorem dX8_runs_68 : decode cX8_runs 68 = .ok (.istore_n 2, 1) := by decide +kernel
theorem dX8_runs_69 : decode cX8_runs 69 = .ok (.iload_n 2, 1) := by decide +kernel
theorem dX8_runs_70 : decode cX8_runs 70 = .ok (.aload_n 0, 1) := by decide +kernel
theorem dX8_runs_71 : decode cX8_runs 71 = .ok (.getfield 117, 3) := by decide +kernel
theorem dX8_runs_74 : decode cX8_runs 74 = .ok (.if_icmp .ge 140, 3) := by decide +kernel
theorem dX8_runs_77 : decode cX8_runs 77 = .ok (.aload_n 0, 1) := by decide +kernel
theorem dX8_runs_78 : decode cX8_runs 78 = .ok (.getfield 28, 3) := by decide +kernel
theorem dX8_runs_81 : decode cX8_runs 81 = .ok (.iload_n 2, 1) := by decide +kernel
theorem dX8_runs_82 : decode cX8_runs 82 = .ok (.iaload, 1) := by decide +kernel
theorem dX8_runs_83 : decode cX8_runs 83 = .ok (.aload_n 0, 1) := by decide +kernel
theorem dX8_runs_84 : decode cX8_runs 84 = .ok (.getfield 90, 3) := by decide +kernel
theorem dX8_runs_87 : decode cX8_runs 87 = .ok (.isub, 1) := by decide +kernel
theorem dX8_runs_88 : decode cX8_runs 88 = .ok (.ifCond .ge 7, 3) := by decide +kernel
theorem dX8_runs_91 : decode cX8_runs 91 = .ok (.iconst 0, 1) := by decide +kernel
theorem dX8_runs_92 : decode cX8_runs 92 = .ok (.goto 14, 3) := by decide +kernel
theorem dX8_runs_95 : decode cX8_runs 95 = .ok (.aload_n 0, 1) := by decide +kernel
theorem dX8_runs_96 : decode cX8_runs 96 = .ok (.getfield 28, 3) := by decide +kernel
theorem dX8_runs_99 : decode cX8_runs 99 = .ok (.iload_n 2, 1) := by decide +kernel
theorem dX8_runs_100 : decode cX8_runs 100 = .ok (.iaload, 1) := by decide +kernel
theorem dX8_runs_101 : decode cX8_runs 101 = .ok (.aload_n 0, 1) := by decide +kernel
theorem dX8_runs_102 : decode cX8_runs 102 = .ok (.getfield 90, 3) := by decide +kernel
theorem dX8_runs_105 : decode cX8_runs 105 = .ok (.isub, 1) := by decide +kernel
theorem dX8_runs_106 : decode cX8_runs 106 = .ok (.istore_n 3, 1) := by decide +kernel
theorem dX8_runs_107 : decode cX8_runs 107 = .ok (.iload_n 3, 1) := by decide +kernel
theorem dX8_runs_108 : decode cX8_runs 108 = .ok (.aload_n 0, 1) := by decide +kernel
theorem dX8_runs_109 : decode cX8_runs 109 = .ok (.getfield 28, 3) := by decide +kernel
theorem dX8_runs_112 : decode cX8_runs 112 = .ok (.iload_n 2, 1) := by decide +kernel
theorem dX8_runs_113 : decode cX8_runs 113 = .ok (.iaload, 1) := by decide +kernel
theorem dX8_runs_114 : decode cX8_runs 114 = .ok (.if_icmp .gt 53, 3) := by decide +kernel
theorem dX8_runs_117 : decode cX8_runs 117 = .ok (.aload_n 0, 1) := by decide +kernel
theorem dX8_runs_118 : decode cX8_runs 118 = .ok (.getfield 47, 3) := by decide +kernel
theorem dX8_runs_121 : decode cX8_runs 121 = .ok (.bipush 8, 2) := by decide +kernel
theorem dX8_runs_123 : decode cX8_runs 123 = .ok (.iload_n 2, 1) := by decide +kernel
theorem dX8_runs_124 : decode cX8_runs 124 = .ok (.imul, 1) := by decide +kernel
theorem dX8_runs_125 : decode cX8_runs 125 = .ok (.iload_n 1, 1) := by decide +kernel
theorem dX8_runs_126 : decode cX8_runs 126 = .ok (.iadd, 1) := by decide +kernel
theorem dX8_runs_127 : decode cX8_runs 127 = .ok (.aload_n 0, 1) := by decide +kernel
theorem dX8_runs_128 : decode cX8_runs 128 = .ok (.getfield 47, 3) := by decide +kernel
theorem dX8_runs_131 : decode cX8_runs 131 = .ok (.bipush 8, 2) := by decide +kernel
theorem dX8_runs_133 : decode cX8_runs 133 = .ok (.iload_n 2, 1) := by decide +kernel
theorem dX8_runs_134 : decode cX8_runs 134 = .ok (.imul, 1) := by decide +kernel
theorem dX8_runs_135 : decode cX8_runs 135 = .ok (.iload_n 1, 1) := by decide +kernel
theorem dX8_runs_136 : decode cX8_runs 136 = .ok (.iadd, 1) := by decide +kernel
theorem dX8_runs_137 : decode cX8_runs 137 = .ok (.baload, 1) := by decide +kernel
theorem dX8_runs_138 : decode cX8_runs 138 = .ok (.ifCond .eq 21, 3) := by decide +kernel
theorem dX8_runs_141 : decode cX8_runs 141 = .ok (.aload_n 0, 1) := by decide +kernel
theorem dX8_runs_142 : decode cX8_runs 142 = .ok (.getfield 40, 3) := by decide +kernel
theorem dX8_runs_145 : decode cX8_runs 145 = .ok (.bipush 50, 2) := by decide +kernel
theorem dX8_runs_147 : decode cX8_runs 147 = .ok (.iload_n 1, 1) := by decide +kernel
theorem dX8_runs_148 : decode cX8_runs 148 = .ok (.imul, 1) := by decide +kernel
theorem dX8_runs_149 : decode cX8_runs 149 = .ok (.iload_n 3, 1) := by decide +kernel
theorem dX8_runs_150 : decode cX8_runs 150 = .ok (.iadd, 1) := by decide +kernel
theorem dX8_runs_151 : decode cX8_runs 151 = .ok (.baload, 1) := by decide +kernel
theorem dX8_runs_152 : decode cX8_runs 152 = .ok (.ifCond .ne 7, 3) := by decide +kernel
theorem dX8_runs_155 : decode cX8_runs 155 = .ok (.iconst 1, 1) := by decide +kernel
theorem dX8_runs_156 : decode cX8_runs 156 = .ok (.goto 4, 3) := by decide +kernel
theorem dX8_runs_159 : decode cX8_runs 159 = .ok (.iconst 0, 1) := by decide +kernel
theorem dX8_runs_160 : decode cX8_runs 160 = .ok (.bastore, 1) := by decide +kernel
theorem dX8_runs_161 : decode cX8_runs 161 = .ok (.iinc 3 1, 3) := by decide +kernel
theorem dX8_runs_164 : decode cX8_runs 164 = .ok (.goto (-57), 3) := by decide +kernel
theorem dX8_runs_167 : decode cX8_runs 167 = .ok (.aload_n 0, 1) := by decide +kernel
theorem dX8_runs_168 : decode cX8_runs 168 = .ok (.getfield 47, 3) := by decide +kernel
theorem dX8_runs_171 : decode cX8_runs 171 = .ok (.bipush 8, 2) := by decide +kernel
theorem dX8_runs_173 : decode cX8_runs 173 = .ok (.iload_n 2, 1) := by decide +kernel
theorem dX8_runs_174 : decode cX8_runs 174 = .ok (.imul, 1) := by decide +kernel
theorem dX8_runs_175 : decode cX8_runs 175 = .ok (.iload_n 1, 1) := by decide +kernel
theorem dX8_runs_176 : decode cX8_runs 176 = .ok (.iadd, 1) := by decide +kernel
theorem dX8_runs_177 : decode cX8_runs 177 = .ok (.aload_n 0, 1) := by decide +kernel
theorem dX8_runs_178 : decode cX8_runs 178 = .ok (.getfield 47, 3) := by decide +kernel
theorem dX8_runs_181 : decode cX8_runs 181 = .ok (.bipush 8, 2) := by decide +kernel
theorem dX8_runs_183 : decode cX8_runs 183 = .ok (.iload_n 2, 1) := by decide +kernel
theorem dX8_runs_184 : decode cX8_runs 184 = .ok (.imul, 1) := by decide +kernel
theorem dX8_runs_185 : decode cX8_runs 185 = .ok (.iload_n 1, 1) := by decide +kernel
theorem dX8_runs_186 : decode cX8_runs 186 = .ok (.iadd, 1) := by decide +kernel
theorem dX8_runs_187 : decode cX8_runs 187 = .ok (.baload, 1) := by decide +kernel
theorem dX8_runs_188 : decode cX8_runs 188 = .ok (.ifCond .eq 18, 3) := by decide +kernel
theorem dX8_runs_191 : decode cX8_runs 191 = .ok (.aload_n 0, 1) := by decide +kernel
theorem dX8_runs_192 : decode cX8_runs 192 = .ok (.getfield 168, 3) := by decide +kernel
theorem dX8_runs_195 : decode cX8_runs 195 = .ok (.iload_n 1, 1) := by decide +kernel
theorem dX8_runs_196 : decode cX8_runs 196 = .ok (.invokestatic 157, 3) := by decide +kernel
theorem dX8_runs_199 : decode cX8_runs 199 = .ok (.ifCond .ne 7, 3) := by decide +kernel
theorem dX8_runs_202 : decode cX8_runs 202 = .ok (.iconst 1, 1) := by decide +kernel
theorem dX8_runs_203 : decode cX8_runs 203 = .ok (.goto 4, 3) := by decide +kernel
theorem dX8_runs_206 : decode cX8_runs 206 = .ok (.iconst 0, 1) := by decide +kernel
theorem dX8_runs_207 : decode cX8_runs 207 = .ok (.bastore, 1) := by decide +kernel
theorem dX8_runs_208 : decode cX8_runs 208 = .ok (.iinc 2 1, 3) := by decide +kernel
theorem dX8_runs_211 : decode cX8_runs 211 = .ok (.goto (-142), 3) := by decide +kernel
theorem dX8_runs_214 : decode cX8_runs 214 = .ok (.iinc 1 1, 3) := by decide +kernel
theorem dX8_runs_217 : decode cX8_runs 217 = .ok (.goto (-163), 3) := by decide +kernel
theorem dX8_runs_220 : decode cX8_runs 220 = .ok (.return_, 1) := by decide +kernel
theorem dX8_asTold_0 : decode cX8_asTold 0 = .ok (.aload_n 0, 1) := by decide +kernel
theorem dX8_asTold_1 : decode cX8_asTold 1 = .ok (.invokevirtual 133, 3) := by decide +kernel
theorem dX8_asTold_4 : decode cX8_asTold 4 = .ok (.aload_n 0, 1) := by decide +kernel
theorem dX8_asTold_5 : decode cX8_asTold 5 = .ok (.iconst 0, 1) := by decide +kernel
theorem dX8_asTold_6 : decode cX8_asTold 6 = .ok (.putfield 154, 3) := by decide +kernel
