theorem dX7_init_0 : decode cX7_init 0 = .ok (.aload_n 0, 1) := by decide +kernel
theorem dX7_init_1 : decode cX7_init 1 = .ok (.invokespecial 1, 3) := by decide +kernel
theorem dX7_init_4 : decode cX7_init 4 = .ok (.aload_n 0, 1) := by decide +kernel
theorem dX7_init_5 : decode cX7_init 5 = .ok (.iconst 2, 1) := by decide +kernel
theorem dX7_init_6 : decode cX7_init 6 = .ok (.anewarray 7, 3) := by decide +kernel
theorem dX7_init_9 : decode cX7_init 9 = .ok (.putfield 9, 3) := by decide +kernel
theorem dX7_init_12 : decode cX7_init 12 = .ok (.aload_n 0, 1) := by decide +kernel
theorem dX7_init_13 : decode cX7_init 13 = .ok (.bipush 8, 2) := by decide +kernel
theorem dX7_init_15 : decode cX7_init 15 = .ok (.anewarray 15, 3) := by decide +kernel
theorem dX7_init_18 : decode cX7_init 18 = .ok (.putfield 17, 3) := by decide +kernel
theorem dX7_init_21 : decode cX7_init 21 = .ok (.aload_n 0, 1) := by decide +kernel
theorem dX7_init_22 : decode cX7_init 22 = .ok (.new 21, 3) := by decide +kernel
theorem dX7_init_25 : decode cX7_init 25 = .ok (.dup, 1) := by decide +kernel
theorem dX7_init_26 : decode cX7_init 26 = .ok (.invokespecial 23, 3) := by decide +kernel
theorem dX7_init_29 : decode cX7_init 29 = .ok (.putfield 24, 3) := by decide +kernel
theorem dX7_init_32 : decode cX7_init 32 = .ok (.aload_n 0, 1) := by decide +kernel
theorem dX7_init_33 : decode cX7_init 33 = .ok (.iconst 3, 1) := by decide +kernel
theorem dX7_init_34 : decode cX7_init 34 = .ok (.newarray .int, 2) := by decide +kernel
theorem dX7_init_36 : decode cX7_init 36 = .ok (.dup, 1) := by decide +kernel
theorem dX7_init_37 : decode cX7_init 37 = .ok (.iconst 0, 1) := by decide +kernel
theorem dX7_init_38 : decode cX7_init 38 = .ok (.iconst 1, 1) := by decide +kernel
theorem dX7_init_39 : decode cX7_init 39 = .ok (.iastore, 1) := by decide +kernel
theorem dX7_init_40 : decode cX7_init 40 = .ok (.dup, 1) := by decide +kernel
theorem dX7_init_41 : decode cX7_init 41 = .ok (.iconst 1, 1) := by decide +kernel
theorem dX7_init_42 : decode cX7_init 42 = .ok (.iconst 2, 1) := by decide +kernel
theorem dX7_init_43 : decode cX7_init 43 = .ok (.iastore, 1) := by decide +kernel
theorem dX7_init_44 : decode cX7_init 44 = .ok (.dup, 1) := by decide +kernel
theorem dX7_init_45 : decode cX7_init 45 = .ok (.iconst 2, 1) := by decide +kernel
theorem dX7_init_46 : decode cX7_init 46 = .ok (.iconst 2, 1) := by decide +kernel
theorem dX7_init_47 : decode cX7_init 47 = .ok (.iastore, 1) := by decide +kernel
theorem dX7_init_48 : decode cX7_init 48 = .ok (.putfield 28, 3) := by decide +kernel
theorem dX7_init_51 : decode cX7_init 51 = .ok (.aload_n 0, 1) := by decide +kernel
theorem dX7_init_52 : decode cX7_init 52 = .ok (.new 32, 3) := by decide +kernel
theorem dX7_init_55 : decode cX7_init 55 = .ok (.dup, 1) := by decide +kernel
theorem dX7_init_56 : decode cX7_init 56 = .ok (.invokespecial 34, 3) := by decide +kernel
theorem dX7_init_59 : decode cX7_init 59 = .ok (.putfield 35, 3) := by decide +kernel
theorem dX7_init_62 : decode cX7_init 62 = .ok (.aload_n 0, 1) := by decide +kernel
theorem dX7_init_63 : decode cX7_init 63 = .ok (.iconst 4, 1) := by decide +kernel
theorem dX7_init_64 : decode cX7_init 64 = .ok (.anewarray 39, 3) := by decide +kernel
theorem dX7_init_67 : decode cX7_init 67 = .ok (.putfield 41, 3) := by decide +kernel
theorem dX7_init_70 : decode cX7_init 70 = .ok (.aload_n 0, 1) := by decide +kernel
theorem dX7_init_71 : decode cX7_init 71 = .ok (.new 15, 3) := by decide +kernel
theorem dX7_init_74 : decode cX7_init 74 = .ok (.dup, 1) := by decide +kernel
theorem dX7_init_75 : decode cX7_init 75 = .ok (.invokespecial 45, 3) := by decide +kernel
theorem dX7_init_78 : decode cX7_init 78 = .ok (.putfield 46, 3) := by decide +kernel
theorem dX7_init_81 : decode cX7_init 81 = .ok (.aload_n 0, 1) := by decide +kernel
theorem dX7_init_82 : decode cX7_init 82 = .ok (.new 21, 3) := by decide +kernel
theorem dX7_init_85 : decode cX7_init 85 = .ok (.dup, 1) := by decide +kernel
theorem dX7_init_86 : decode cX7_init 86 = .ok (.invokespecial 23, 3) := by decide +kernel
theorem dX7_init_89 : decode cX7_init 89 = .ok (.putfield 50, 3) := by decide +kernel
theorem dX7_init_92 : decode cX7_init 92 = .ok (.aload_n 0, 1) := by decide +kernel
theorem dX7_init_93 : decode cX7_init 93 = .ok (.new 53, 3) := by decide +kernel
theorem dX7_init_96 : decode cX7_init 96 = .ok (.dup, 1) := by decide +kernel
theorem dX7_init_97 : decode cX7_init 97 = .ok (.invokespecial 55, 3) := by decide +kernel
theorem dX7_init_100 : decode cX7_init 100 = .ok (.putfield 56, 3) := by decide +kernel
theorem dX7_init_103 : decode cX7_init 103 = .ok (.aload_n 0, 1) := by decide +kernel
theorem dX7_init_104 : decode cX7_init 104 = .ok (.new 60, 3) := by decide +kernel
theorem dX7_init_107 : decode cX7_init 107 = .ok (.dup, 1) := by decide +kernel
theorem dX7_init_108 : decode cX7_init 108 = .ok (.invokespecial 62, 3) := by decide +kernel
theorem dX7_init_111 : decode cX7_init 111 = .ok (.putfield 63, 3) := by decide +kernel
theorem dX7_init_114 : decode cX7_init 114 = .ok (.aload_n 0, 1) := by decide +kernel
theorem dX7_init_115 : decode cX7_init 115 = .ok (.bipush 8, 2) := by decide +kernel
theorem dX7_init_117 : decode cX7_init 117 = .ok (.newarray .long, 2) := by decide +kernel
theorem dX7_init_119 : decode cX7_init 119 = .ok (.putfield 67, 3) := by decide +kernel
theorem dX7_init_122 : decode cX7_init 122 = .ok (.aload_n 0, 1) := by decide +kernel
theorem dX7_init_123 : decode cX7_init 123 = .ok (.bipush 9, 2) := by decide +kernel
theorem dX7_init_125 : decode cX7_init 125 = .ok (.newarray .int, 2) := by decide +kernel
theorem dX7_init_127 : decode cX7_init 127 = .ok (.putfield 71, 3) := by decide +kernel
theorem dX7_init_130 : decode cX7_init 130 = .ok (.aload_n 0, 1) := by decide +kernel
theorem dX7_init_131 : decode cX7_init 131 = .ok (.bipush 9, 2) := by decide +kernel
theorem dX7_init_133 : decode cX7_init 133 = .ok (.newarray .long, 2) := by decide +kernel
theorem dX7_init_135 : decode cX7_init 135 = .ok (.putfield 74, 3) := by decide +kernel
theorem dX7_init_138 : decode cX7_init 138 = .ok (.aload_n 0, 1) := by decide +kernel
theorem dX7_init_139 : decode cX7_init 139 = .ok (.getfield 9, 3) := by decide +kernel
theorem dX7_init_142 : decode cX7_init 142 = .ok (.iconst 0, 1) := by decide +kernel
theorem dX7_init_143 : decode cX7_init 143 = .ok (.new 7, 3) := by decide +kernel
theorem dX7_init_146 : decode cX7_init 146 = .ok (.dup, 1) := by decide +kernel
theorem dX7_init_147 : decode cX7_init 147 = .ok (.bipush 9, 2) := by decide +kernel
theorem dX7_init_149 : decode cX7_init 149 = .ok (.bipush 9, 2) := by decide +kernel
theorem dX7_init_151 : decode cX7_init 151 = .ok (.iconst 3, 1) := by decide +kernel
theorem dX7_init_152 : decode cX7_init 152 = .ok (.ldc 77, 2) := by decide +kernel
theorem dX7_init_154 : decode cX7_init 154 = .ok (.invokespecial 79, 3) := by decide +kernel
theorem dX7_init_157 : decode cX7_init 157 = .ok (.aastore, 1) := by decide +kernel
theorem dX7_init_158 : decode cX7_init 158 = .ok (.aload_n 0, 1) := by decide +kernel
theorem dX7_init_159 : decode cX7_init 159 = .ok (.getfield 9, 3) := by decide +kernel
theorem dX7_init_162 : decode cX7_init 162 = .ok (.iconst 1, 1) := by decide +kernel
theorem dX7_init_163 : decode cX7_init 163 = .ok (.new 7, 3) := by decide +kernel
theorem dX7_init_166 : decode cX7_init 166 = .ok (.dup, 1) := by decide +kernel
theorem dX7_init_167 : decode cX7_init 167 = .ok (.iconst 4, 1) := by decide +kernel
theorem dX7_init_168 : decode cX7_init 168 = .ok (.bipush 9, 2) := by decide +kernel
theorem dX7_init_170 : decode cX7_init 170 = .ok (.bipush 9, 2) := by decide +kernel
theorem dX7_init_172 : decode cX7_init 172 = .ok (.ldc 82, 2) := by decide +kernel
theorem dX7_init_174 : decode cX7_init 174 = .ok (.invokespecial 79, 3) := by decide +kernel
theorem dX7_init_177 : decode cX7_init 177 = .ok (.aastore, 1) := by decide +kernel
theorem dX7_init_178 : decode cX7_init 178 = .ok (.iconst 0, 1) := by decide +kernel
theorem dX7_init_179 : decode cX7_init 179 = .ok (.istore_n 1, 1) := by decide +kernel
theorem dX7_init_180 : decode cX7_init 180 = .ok (.iload_n 1, 1) := by decide +kernel
theorem dX7_init_181 : decode cX7_init 181 = .ok (.bipush 8, 2) := by decide +kernel
theorem dX7_init_183 : decode cX7_init 183 = .ok (.if_icmp .ge 22, 3) := by decide +kernel
theorem dX7_init_186 : decode cX7_init 186 = .ok (.aload_n 0, 1) := by decide +kernel
theorem dX7_init_187 : decode cX7_init 187 = .ok (.getfield 17, 3) := by decide +kernel
theorem dX7_init_190 : decode cX7_init 190 = .ok (.iload_n 1, 1) := by decide +kernel
theorem dX7_init_191 : decode cX7_init 191 = .ok (.new 15, 3) := by decide +kernel
theorem dX7_init_194 : decode cX7_init 194 = .ok (.dup, 1) := by decide +kernel
theorem dX7_init_195 : decode cX7_init 195 = .ok (.invokespecial 45, 3) := by decide +kernel
theorem dX7_init_198 : decode cX7_init 198 = .ok (.aastore, 1) := by decide +kernel
theorem dX7_init_199 : decode cX7_init 199 = .ok (.iinc 1 1, 3) := by decide +kernel
theorem dX7_init_202 : decode cX7_init 202 = .ok (.goto (-22), 3) := by decide +kernel
theorem dX7_init_205 : decode cX7_init 205 = .ok (.iconst 0, 1) := by decide +kernel
theorem dX7_init_206 : decode cX7_init 206 = .ok (.istore_n 1, 1) := by decide +kernel
theorem dX7_init_207 : decode cX7_init 207 = .ok (.iload_n 1, 1) := by decide +kernel
theorem dX7_init_208 : decode cX7_init 208 = .ok (.iconst 4, 1) := by decide +kernel
theorem dX7_init_209 : decode cX7_init 209 = .ok (.if_icmp .ge 22, 3) := by decide +kernel
theorem dX7_init_212 : decode cX7_init 212 = .ok (.aload_n 0, 1) := by decide +kernel
theorem dX7_init_213 : decode cX7_init 213 = .ok (.getfield 41, 3) := by decide +kernel
theorem dX7_init_216 : decode cX7_init 216 = .ok (.iload_n 1, 1) := by decide +kernel
theorem dX7_init_217 : decode cX7_init 217 = .ok (.new 39, 3) := by decide +kernel
theorem dX7_init_220 : decode cX7_init 220 = .ok (.dup, 1) := by decide +kernel
theorem dX7_init_221 : decode cX7_init 221 = .ok (.invokespecial 84, 3) := by decide +kernel
theorem dX7_init_224 : decode cX7_init 224 = .ok (.aastore, 1) := by decide +kernel
theorem dX7_init_225 : decode cX7_init 225 = .ok (.iinc 1 1, 3) := by decide +kernel
theorem dX7_init_228 : decode cX7_init 228 = .ok (.goto (-21), 3) := by decide +kernel
theorem dX7_init_231 : decode cX7_init 231 = .ok (.return_, 1) := by decide +kernel
theorem dX7_within_0 : decode cX7_within 0 = .ok (.iload_n 0, 1) := by decide +kernel
theorem dX7_within_1 : decode cX7_within 1 = .ok (.ifCond .lt 12, 3) := by decide +kernel
theorem dX7_within_4 : decode cX7_within 4 = .ok (.iload_n 0, 1) := by decide +kernel
theorem dX7_within_5 : decode cX7_within 5 = .ok (.iload_n 1, 1) := by decide +kernel
theorem dX7_within_6 : decode cX7_within 6 = .ok (.if_icmp .ge 7, 3) := by decide +kernel
theorem dX7_within_9 : decode cX7_within 9 = .ok (.iconst 1, 1) := by decide +kernel
theorem dX7_within_10 : decode cX7_within 10 = .ok (.goto 4, 3) := by decide +kernel
theorem dX7_within_13 : decode cX7_within 13 = .ok (.iconst 0, 1) := by decide +kernel
theorem dX7_within_14 : decode cX7_within 14 = .ok (.ireturn, 1) := by decide +kernel
theorem dX7_longRefusal_0 : decode cX7_longRefusal 0 = .ok (.ldc2_w 87, 3) := by decide +kernel
theorem dX7_longRefusal_3 : decode cX7_longRefusal 3 = .ok (.iload_n 0, 1) := by decide +kernel
theorem dX7_longRefusal_4 : decode cX7_longRefusal 4 = .ok (.i2l, 1) := by decide +kernel
theorem dX7_longRefusal_5 : decode cX7_longRefusal 5 = .ok (.lsub, 1) := by decide +kernel
theorem dX7_longRefusal_6 : decode cX7_longRefusal 6 = .ok (.lreturn, 1) := by decide +kernel
theorem dX7_type_0 : decode cX7_type 0 = .ok (.iload_n 1, 1) := by decide +kernel
theorem dX7_type_1 : decode cX7_type 1 = .ok (.aload_n 0, 1) := by decide +kernel
theorem dX7_type_2 : decode cX7_type 2 = .ok (.getfield 9, 3) := by decide +kernel
theorem dX7_type_5 : decode cX7_type 5 = .ok (.arraylength, 1) := by decide +kernel
theorem dX7_type_6 : decode cX7_type 6 = .ok (.invokestatic 89, 3) := by decide +kernel
theorem dX7_type_9 : decode cX7_type 9 = .ok (.ifCond .eq 13, 3) := by decide +kernel
theorem dX7_type_12 : decode cX7_type 12 = .ok (.iload_n 2, 1) := by decide +kernel
theorem dX7_type_13 : decode cX7_type 13 = .ok (.sipush 256, 3) := by decide +kernel
theorem dX7_type_16 : decode cX7_type 16 = .ok (.invokestatic 89, 3) := by decide +kernel
theorem dX7_type_19 : decode cX7_type 19 = .ok (.ifCond .ne 6, 3) := by decide +kernel
theorem dX7_type_22 : decode cX7_type 22 = .ok (.bipush (-2), 2) := by decide +kernel
theorem dX7_type_24 : decode cX7_type 24 = .ok (.ireturn, 1) := by decide +kernel
theorem dX7_type_25 : decode cX7_type 25 = .ok (.aload_n 0, 1) := by decide +kernel
theorem dX7_type_26 : decode cX7_type 26 = .ok (.getfield 9, 3) := by decide +kernel
theorem dX7_type_29 : decode cX7_type 29 = .ok (.iload_n 1, 1) := by decide +kernel
theorem dX7_type_30 : decode cX7_type 30 = .ok (.aaload, 1) := by decide +kernel
theorem dX7_type_31 : decode cX7_type 31 = .ok (.astore_n 3, 1) := by decide +kernel
theorem dX7_type_32 : decode cX7_type 32 = .ok (.aload_n 3, 1) := by decide +kernel
theorem dX7_type_33 : decode cX7_type 33 = .ok (.getfield 93, 3) := by decide +kernel
theorem dX7_type_36 : decode cX7_type 36 = .ok (.bipush 39, 2) := by decide +kernel
theorem dX7_type_38 : decode cX7_type 38 = .ok (.if_icmp .lt 6, 3) := by decide +kernel
theorem dX7_type_41 : decode cX7_type 41 = .ok (.bipush (-4), 2) := by decide +kernel
theorem dX7_type_43 : decode cX7_type 43 = .ok (.ireturn, 1) := by decide +kernel
theorem dX7_type_44 : decode cX7_type 44 = .ok (.aload_n 3, 1) := by decide +kernel
theorem dX7_type_45 : decode cX7_type 45 = .ok (.getfield 97, 3) := by decide +kernel
theorem dX7_type_48 : decode cX7_type 48 = .ok (.aload_n 3, 1) := by decide +kernel
theorem dX7_type_49 : decode cX7_type 49 = .ok (.getfield 93, 3) := by decide +kernel
theorem dX7_type_52 : decode cX7_type 52 = .ok (.iload_n 2, 1) := by decide +kernel
theorem dX7_type_53 : decode cX7_type 53 = .ok (.iastore, 1) := by decide +kernel
theorem dX7_type_54 : decode cX7_type 54 = .ok (.aload_n 0, 1) := by decide +kernel
theorem dX7_type_55 : decode cX7_type 55 = .ok (.iload_n 1, 1) := by decide +kernel
theorem dX7_type_56 : decode cX7_type 56 = .ok (.aload_n 3, 1) := by decide +kernel
theorem dX7_type_57 : decode cX7_type 57 = .ok (.getfield 93, 3) := by decide +kernel
theorem dX7_type_60 : decode cX7_type 60 = .ok (.iconst 1, 1) := by decide +kernel
theorem dX7_type_61 : decode cX7_type 61 = .ok (.iadd, 1) := by decide +kernel
theorem dX7_type_62 : decode cX7_type 62 = .ok (.invokevirtual 100, 3) := by decide +kernel
theorem dX7_type_65 : decode cX7_type 65 = .ok (.ireturn, 1) := by decide +kernel
theorem dX7_wipe_0 : decode cX7_wipe 0 = .ok (.iload_n 1, 1) := by decide +kernel
theorem dX7_wipe_1 : decode cX7_wipe 1 = .ok (.aload_n 0, 1) := by decide +kernel
theorem dX7_wipe_2 : decode cX7_wipe 2 = .ok (.getfield 9, 3) := by decide +kernel
theorem dX7_wipe_5 : decode cX7_wipe 5 = .ok (.arraylength, 1) := by decide +kernel
theorem dX7_wipe_6 : decode cX7_wipe 6 = .ok (.invokestatic 89, 3) := by decide +kernel
theorem dX7_wipe_9 : decode cX7_wipe 9 = .ok (.ifCond .ne 6, 3) := by decide +kernel
theorem dX7_wipe_12 : decode cX7_wipe 12 = .ok (.bipush (-2), 2) := by decide +kernel
theorem dX7_wipe_14 : decode cX7_wipe 14 = .ok (.ireturn, 1) := by decide +kernel
theorem dX7_wipe_15 : decode cX7_wipe 15 = .ok (.aload_n 0, 1) := by decide +kernel
theorem dX7_wipe_16 : decode cX7_wipe 16 = .ok (.getfield 9, 3) := by decide +kernel
theorem dX7_wipe_19 : decode cX7_wipe 19 = .ok (.iload_n 1, 1) := by decide +kernel
theorem dX7_wipe_20 : decode cX7_wipe 20 = .ok (.aaload, 1) := by decide +kernel
theorem dX7_wipe_21 : decode cX7_wipe 21 = .ok (.getfield 93, 3) := by decide +kernel
theorem dX7_wipe_24 : decode cX7_wipe 24 = .ok (.istore_n 2, 1) := by decide +kernel
theorem dX7_wipe_25 : decode cX7_wipe 25 = .ok (.aload_n 0, 1) := by decide +kernel
theorem dX7_wipe_26 : decode cX7_wipe 26 = .ok (.iload_n 1, 1) := by decide +kernel
theorem dX7_wipe_27 : decode cX7_wipe 27 = .ok (.iconst 0, 1) := by decide +kernel
theorem dX7_wipe_28 : decode cX7_wipe 28 = .ok (.invokevirtual 100, 3) := by decide +kernel
theorem dX7_wipe_31 : decode cX7_wipe 31 = .ok (.pop, 1) := by decide +kernel
theorem dX7_wipe_32 : decode cX7_wipe 32 = .ok (.iload_n 2, 1) := by decide +kernel
theorem dX7_wipe_33 : decode cX7_wipe 33 = .ok (.ireturn, 1) := by decide +kernel
theorem dX7_undo_0 : decode cX7_undo 0 = .ok (.iload_n 1, 1) := by decide +kernel
theorem dX7_undo_1 : decode cX7_undo 1 = .ok (.aload_n 0, 1) := by decide +kernel
theorem dX7_undo_2 : decode cX7_undo 2 = .ok (.getfield 9, 3) := by decide +kernel
theorem dX7_undo_5 : decode cX7_undo 5 = .ok (.arraylength, 1) := by decide +kernel
theorem dX7_undo_6 : decode cX7_undo 6 = .ok (.invokestatic 89, 3) := by decide +kernel
theorem dX7_undo_9 : decode cX7_undo 9 = .ok (.ifCond .ne 6, 3) := by decide +kernel
theorem dX7_undo_12 : decode cX7_undo 12 = .ok (.bipush (-2), 2) := by decide +kernel
theorem dX7_undo_14 : decode cX7_undo 14 = .ok (.ireturn, 1) := by decide +kernel
theorem dX7_undo_15 : decode cX7_undo 15 = .ok (.aload_n 0, 1) := by decide +kernel
theorem dX7_undo_16 : decode cX7_undo 16 = .ok (.getfield 9, 3) := by decide +kernel
theorem dX7_undo_19 : decode cX7_undo 19 = .ok (.iload_n 1, 1) := by decide +kernel
theorem dX7_undo_20 : decode cX7_undo 20 = .ok (.aaload, 1) := by decide +kernel
theorem dX7_undo_21 : decode cX7_undo 21 = .ok (.getfield 93, 3) := by decide +kernel
theorem dX7_undo_24 : decode cX7_undo 24 = .ok (.istore_n 2, 1) := by decide +kernel
theorem dX7_undo_25 : decode cX7_undo 25 = .ok (.iload_n 2, 1) := by decide +kernel
theorem dX7_undo_26 : decode cX7_undo 26 = .ok (.ifCond .ne 8, 3) := by decide +kernel
theorem dX7_undo_29 : decode cX7_undo 29 = .ok (.bipush (-3), 2) := by decide +kernel
theorem dX7_undo_31 : decode cX7_undo 31 = .ok (.goto 11, 3) := by decide +kernel
theorem dX7_undo_34 : decode cX7_undo 34 = .ok (.aload_n 0, 1) := by decide +kernel
theorem dX7_undo_35 : decode cX7_undo 35 = .ok (.iload_n 1, 1) := by decide +kernel
theorem dX7_undo_36 : decode cX7_undo 36 = .ok (.iload_n 2, 1) := by decide +kernel
theorem dX7_undo_37 : decode cX7_undo 37 = .ok (.iconst 1, 1) := by decide +kernel
theorem dX7_undo_38 : decode cX7_undo 38 = .ok (.isub, 1) := by decide +kernel
theorem dX7_undo_39 : decode cX7_undo 39 = .ok (.invokevirtual 100, 3) := by decide +kernel
theorem dX7_undo_42 : decode cX7_undo 42 = .ok (.ireturn, 1) := by decide +kernel
theorem dX7_fault_0 : decode cX7_fault 0 = .ok (.iload_n 1, 1) := by decide +kernel
theorem dX7_fault_1 : decode cX7_fault 1 = .ok (.aload_n 0, 1) := by decide +kernel
theorem dX7_fault_2 : decode cX7_fault 2 = .ok (.getfield 9, 3) := by decide +kernel
theorem dX7_fault_5 : decode cX7_fault 5 = .ok (.arraylength, 1) := by decide +kernel
theorem dX7_fault_6 : decode cX7_fault 6 = .ok (.invokestatic 89, 3) := by decide +kernel
theorem dX7_fault_9 : decode cX7_fault 9 = .ok (.ifCond .eq 15, 3) := by decide +kernel
theorem dX7_fault_12 : decode cX7_fault 12 = .ok (.aload_n 0, 1) := by decide +kernel
theorem dX7_fault_13 : decode cX7_fault 13 = .ok (.getfield 9, 3) := by decide +kernel
theorem dX7_fault_16 : decode cX7_fault 16 = .ok (.iload_n 1, 1) := by decide +kernel
theorem dX7_fault_17 : decode cX7_fault 17 = .ok (.aaload, 1) := by decide +kernel
theorem dX7_fault_18 : decode cX7_fault 18 = .ok (.invokevirtual 104, 3) := by decide +kernel
theorem dX7_fault_21 : decode cX7_fault 21 = .ok (.goto 5, 3) := by decide +kernel
theorem dX7_fault_24 : decode cX7_fault 24 = .ok (.bipush (-2), 2) := by decide +kernel
theorem dX7_fault_26 : decode cX7_fault 26 = .ok (.ireturn, 1) := by decide +kernel
theorem dX7_resize_0 : decode cX7_resize 0 = .ok (.aload_n 0, 1) := by decide +kernel
theorem dX7_resize_1 : decode cX7_resize 1 = .ok (.getfield 9, 3) := by decide +kernel
theorem dX7_resize_4 : decode cX7_resize 4 = .ok (.iload_n 1, 1) := by decide +kernel
theorem dX7_resize_5 : decode cX7_resize 5 = .ok (.aaload, 1) := by decide +kernel
theorem dX7_resize_6 : decode cX7_resize 6 = .ok (.iload_n 2, 1) := by decide +kernel
theorem dX7_resize_7 : decode cX7_resize 7 = .ok (.putfield 93, 3) := by decide +kernel
theorem dX7_resize_10 : decode cX7_resize 10 = .ok (.iload_n 1, 1) := by decide +kernel
theorem dX7_resize_11 : decode cX7_resize 11 = .ok (.ifCond .ne 16, 3) := by decide +kernel
theorem dX7_resize_14 : decode cX7_resize 14 = .ok (.aload_n 0, 1) := by decide +kernel
theorem dX7_resize_15 : decode cX7_resize 15 = .ok (.aload_n 0, 1) := by decide +kernel
theorem dX7_resize_16 : decode cX7_resize 16 = .ok (.getfield 9, 3) := by decide +kernel
theorem dX7_resize_19 : decode cX7_resize 19 = .ok (.iload_n 1, 1) := by decide +kernel
theorem dX7_resize_20 : decode cX7_resize 20 = .ok (.aaload, 1) := by decide +kernel
theorem dX7_resize_21 : decode cX7_resize 21 = .ok (.invokevirtual 108, 3) := by decide +kernel
theorem dX7_resize_24 : decode cX7_resize 24 = .ok (.goto 13, 3) := by decide +kernel
theorem dX7_resize_27 : decode cX7_resize 27 = .ok (.aload_n 0, 1) := by decide +kernel
theorem dX7_resize_28 : decode cX7_resize 28 = .ok (.aload_n 0, 1) := by decide +kernel
theorem dX7_resize_29 : decode cX7_resize 29 = .ok (.getfield 9, 3) := by decide +kernel
theorem dX7_resize_32 : decode cX7_resize 32 = .ok (.iload_n 1, 1) := by decide +kernel
theorem dX7_resize_33 : decode cX7_resize 33 = .ok (.aaload, 1) := by decide +kernel
theorem dX7_resize_34 : decode cX7_resize 34 = .ok (.invokevirtual 112, 3) := by decide +kernel
theorem dX7_resize_37 : decode cX7_resize 37 = .ok (.iload_n 2, 1) := by decide +kernel
theorem dX7_resize_38 : decode cX7_resize 38 = .ok (.ireturn, 1) := by decide +kernel
theorem dX7_makeBeds_0 : decode cX7_makeBeds 0 = .ok (.aload_n 0, 1) := by decide +kernel
theorem dX7_makeBeds_1 : decode cX7_makeBeds 1 = .ok (.aload_n 1, 1) := by decide +kernel
theorem dX7_makeBeds_2 : decode cX7_makeBeds 2 = .ok (.invokevirtual 115, 3) := by decide +kernel
theorem dX7_makeBeds_5 : decode cX7_makeBeds 5 = .ok (.putfield 118, 3) := by decide +kernel
theorem dX7_makeBeds_8 : decode cX7_makeBeds 8 = .ok (.iconst 0, 1) := by decide +kernel
theorem dX7_makeBeds_9 : decode cX7_makeBeds 9 = .ok (.istore_n 2, 1) := by decide +kernel
theorem dX7_makeBeds_10 : decode cX7_makeBeds 10 = .ok (.iload_n 2, 1) := by decide +kernel
theorem dX7_makeBeds_11 : decode cX7_makeBeds 11 = .ok (.aload_n 0, 1) := by decide +kernel
theorem dX7_makeBeds_12 : decode cX7_makeBeds 12 = .ok (.getfield 118, 3) := by decide +kernel
theorem dX7_makeBeds_15 : decode cX7_makeBeds 15 = .ok (.if_icmp .ge 68, 3) := by decide +kernel
theorem dX7_makeBeds_18 : decode cX7_makeBeds 18 = .ok (.aload_n 0, 1) := by decide +kernel
theorem dX7_makeBeds_19 : decode cX7_makeBeds 19 = .ok (.getfield 17, 3) := by decide +kernel
theorem dX7_makeBeds_22 : decode cX7_makeBeds 22 = .ok (.iload_n 2, 1) := by decide +kernel
theorem dX7_makeBeds_23 : decode cX7_makeBeds 23 = .ok (.aaload, 1) := by decide +kernel
theorem dX7_makeBeds_24 : decode cX7_makeBeds 24 = .ok (.aload_n 1, 1) := by decide +kernel
theorem dX7_makeBeds_25 : decode cX7_makeBeds 25 = .ok (.iload_n 2, 1) := by decide +kernel
theorem dX7_makeBeds_26 : decode cX7_makeBeds 26 = .ok (.iconst 0, 1) := by decide +kernel
theorem dX7_makeBeds_27 : decode cX7_makeBeds 27 = .ok (.invokevirtual 121, 3) := by decide +kernel
theorem dX7_makeBeds_30 : decode cX7_makeBeds 30 = .ok (.putfield 124, 3) := by decide +kernel
theorem dX7_makeBeds_33 : decode cX7_makeBeds 33 = .ok (.aload_n 0, 1) := by decide +kernel
theorem dX7_makeBeds_34 : decode cX7_makeBeds 34 = .ok (.getfield 17, 3) := by decide +kernel
theorem dX7_makeBeds_37 : decode cX7_makeBeds 37 = .ok (.iload_n 2, 1) := by decide +kernel
theorem dX7_makeBeds_38 : decode cX7_makeBeds 38 = .ok (.aaload, 1) := by decide +kernel
theorem dX7_makeBeds_39 : decode cX7_makeBeds 39 = .ok (.aload_n 1, 1) := by decide +kernel
theorem dX7_makeBeds_40 : decode cX7_makeBeds 40 = .ok (.iload_n 2, 1) := by decide +kernel
theorem dX7_makeBeds_41 : decode cX7_makeBeds 41 = .ok (.iconst 1, 1) := by decide +kernel
theorem dX7_makeBeds_42 : decode cX7_makeBeds 42 = .ok (.invokevirtual 121, 3) := by decide +kernel
theorem dX7_makeBeds_45 : decode cX7_makeBeds 45 = .ok (.putfield 127, 3) := by decide +kernel
theorem dX7_makeBeds_48 : decode cX7_makeBeds 48 = .ok (.aload_n 0, 1) := by decide +kernel
theorem dX7_makeBeds_49 : decode cX7_makeBeds 49 = .ok (.getfield 17, 3) := by decide +kernel
theorem dX7_makeBeds_52 : decode cX7_makeBeds 52 = .ok (.iload_n 2, 1) := by decide +kernel
theorem dX7_makeBeds_53 : decode cX7_makeBeds 53 = .ok (.aaload, 1) := by decide +kernel
theorem dX7_makeBeds_54 : decode cX7_makeBeds 54 = .ok (.aload_n 1, 1) := by decide +kernel
theorem dX7_makeBeds_55 : decode cX7_makeBeds 55 = .ok (.iload_n 2, 1) := by decide +kernel
theorem dX7_makeBeds_56 : decode cX7_makeBeds 56 = .ok (.iconst 2, 1) := by decide +kernel
theorem dX7_makeBeds_57 : decode cX7_makeBeds 57 = .ok (.invokevirtual 121, 3) := by decide +kernel
theorem dX7_makeBeds_60 : decode cX7_makeBeds 60 = .ok (.putfield 130, 3) := by decide +kernel
theorem dX7_makeBeds_63 : decode cX7_makeBeds 63 = .ok (.aload_n 0, 1) := by decide +kernel
theorem dX7_makeBeds_64 : decode cX7_makeBeds 64 = .ok (.getfield 17, 3) := by decide +kernel
theorem dX7_makeBeds_67 : decode cX7_makeBeds 67 = .ok (.iload_n 2, 1) := by decide +kernel
theorem dX7_makeBeds_68 : decode cX7_makeBeds 68 = .ok (.aaload, 1) := by decide +kernel
theorem dX7_makeBeds_69 : decode cX7_makeBeds 69 = .ok (.aload_n 1, 1) := by decide +kernel
theorem dX7_makeBeds_70 : decode cX7_makeBeds 70 = .ok (.iload_n 2, 1) := by decide +kernel
theorem dX7_makeBeds_71 : decode cX7_makeBeds 71 = .ok (.invokevirtual 133, 3) := by decide +kernel
theorem dX7_makeBeds_74 : decode cX7_makeBeds 74 = .ok (.putfield 137, 3) := by decide +kernel
theorem dX7_makeBeds_77 : decode cX7_makeBeds 77 = .ok (.iinc 2 1, 3) := by decide +kernel
theorem dX7_makeBeds_80 : decode cX7_makeBeds 80 = .ok (.goto (-70), 3) := by decide +kernel
theorem dX7_makeBeds_83 : decode cX7_makeBeds 83 = .ok (.return_, 1) := by decide +kernel
theorem dX7_tellDeeds_0 : decode cX7_tellDeeds 0 = .ok (.aload_n 1, 1) := by decide +kernel
theorem dX7_tellDeeds_1 : decode cX7_tellDeeds 1 = .ok (.invokevirtual 115, 3) := by decide +kernel
theorem dX7_tellDeeds_4 : decode cX7_tellDeeds 4 = .ok (.istore_n 2, 1) := by decide +kernel
theorem dX7_tellDeeds_5 : decode cX7_tellDeeds 5 = .ok (.aload_n 0, 1) := by decide +kernel
theorem dX7_tellDeeds_6 : decode cX7_tellDeeds 6 = .ok (.getfield 24, 3) := by decide +kernel
theorem dX7_tellDeeds_9 : decode cX7_tellDeeds 9 = .ok (.iconst 0, 1) := by decide +kernel
theorem dX7_tellDeeds_10 : decode cX7_tellDeeds 10 = .ok (.putfield 140, 3) := by decide +kernel
theorem dX7_tellDeeds_13 : decode cX7_tellDeeds 13 = .ok (.iconst 0, 1) := by decide +kernel
theorem dX7_tellDeeds_14 : decode cX7_tellDeeds 14 = .ok (.istore_n 3, 1) := by decide +kernel
theorem dX7_tellDeeds_15 : decode cX7_tellDeeds 15 = .ok (.iload_n 3, 1) := by decide +kernel
theorem dX7_tellDeeds_16 : decode cX7_tellDeeds 16 = .ok (.iload_n 2, 1) := by decide +kernel
theorem dX7_tellDeeds_17 : decode cX7_tellDeeds 17 = .ok (.if_icmp .ge 43, 3) := by decide +kernel
theorem dX7_tellDeeds_20 : decode cX7_tellDeeds 20 = .ok (.aload_n 0, 1) := by decide +kernel
theorem dX7_tellDeeds_21 : decode cX7_tellDeeds 21 = .ok (.getfield 24, 3) := by decide +kernel
theorem dX7_tellDeeds_24 : decode cX7_tellDeeds 24 = .ok (.bipush 10, 2) := by decide +kernel
theorem dX7_tellDeeds_26 : decode cX7_tellDeeds 26 = .ok (.aload_n 1, 1) := by decide +kernel
theorem dX7_tellDeeds_27 : decode cX7_tellDeeds 27 = .ok (.iload_n 3, 1) := by decide +kernel
theorem dX7_tellDeeds_28 : decode cX7_tellDeeds 28 = .ok (.iconst 0, 1) := by decide +kernel
theorem dX7_tellDeeds_29 : decode cX7_tellDeeds 29 = .ok (.invokevirtual 121, 3) := by decide +kernel
theorem dX7_tellDeeds_32 : decode cX7_tellDeeds 32 = .ok (.imul, 1) := by decide +kernel
theorem dX7_tellDeeds_33 : decode cX7_tellDeeds 33 = .ok (.aload_n 1, 1) := by decide +kernel
theorem dX7_tellDeeds_34 : decode cX7_tellDeeds 34 = .ok (.iload_n 3, 1) := by decide +kernel
theorem dX7_tellDeeds_35 : decode cX7_tellDeeds 35 = .ok (.iconst 1, 1) := by decide +kernel
theorem dX7_tellDeeds_36 : decode cX7_tellDeeds 36 = .ok (.invokevirtual 121, 3) := by decide +kernel
theorem dX7_tellDeeds_39 : decode cX7_tellDeeds 39 = .ok (.iadd, 1) := by decide +kernel
theorem dX7_tellDeeds_40 : decode cX7_tellDeeds 40 = .ok (.aload_n 1, 1) := by decide +kernel
theorem dX7_tellDeeds_41 : decode cX7_tellDeeds 41 = .ok (.iload_n 3, 1) := by decide +kernel
theorem dX7_tellDeeds_42 : decode cX7_tellDeeds 42 = .ok (.iconst 2, 1) := by decide +kernel
theorem dX7_tellDeeds_43 : decode cX7_tellDeeds 43 = .ok (.invokevirtual 121, 3) := by decide +kernel
theorem dX7_tellDeeds_46 : decode cX7_tellDeeds 46 = .ok (.aload_n 1, 1) := by decide +kernel
theorem dX7_tellDeeds_47 : decode cX7_tellDeeds 47 = .ok (.iload_n 3, 1) := by decide +kernel
theorem dX7_tellDeeds_48 : decode cX7_tellDeeds 48 = .ok (.invokevirtual 133, 3) := by decide +kernel
theorem dX7_tellDeeds_51 : decode cX7_tellDeeds 51 = .ok (.invokevirtual 141, 3) := by decide +kernel
theorem dX7_tellDeeds_54 : decode cX7_tellDeeds 54 = .ok (.iinc 3 1, 3) := by decide +kernel
theorem dX7_tellDeeds_57 : decode cX7_tellDeeds 57 = .ok (.goto (-42), 3) := by decide +kernel
theorem dX7_tellDeeds_60 : decode cX7_tellDeeds 60 = .ok (.return_, 1) := by decide +kernel
theorem dX7_sleeper_0 : decode cX7_sleeper 0 = .ok (.iload_n 1, 1) := by decide +kernel
theorem dX7_sleeper_1 : decode cX7_sleeper 1 = .ok (.aload_n 0, 1) := by decide +kernel
theorem dX7_sleeper_2 : decode cX7_sleeper 2 = .ok (.getfield 118, 3) := by decide +kernel
theorem dX7_sleeper_5 : decode cX7_sleeper 5 = .ok (.invokestatic 89, 3) := by decide +kernel
theorem dX7_sleeper_8 : decode cX7_sleeper 8 = .ok (.ifCond .ne 6, 3) := by decide +kernel
theorem dX7_sleeper_11 : decode cX7_sleeper 11 = .ok (.bipush (-2), 2) := by decide +kernel
theorem dX7_sleeper_13 : decode cX7_sleeper 13 = .ok (.ireturn, 1) := by decide +kernel
theorem dX7_sleeper_14 : decode cX7_sleeper 14 = .ok (.iload_n 2, 1) := by decide +kernel
theorem dX7_sleeper_15 : decode cX7_sleeper 15 = .ok (.tableswitch 69 0 3 #[29, 39, 49, 59], 29) := by decide +kernel
theorem dX7_sleeper_44 : decode cX7_sleeper 44 = .ok (.aload_n 0, 1) := by decide +kernel
theorem dX7_sleeper_45 : decode cX7_sleeper 45 = .ok (.getfield 17, 3) := by decide +kernel
theorem dX7_sleeper_48 : decode cX7_sleeper 48 = .ok (.iload_n 1, 1) := by decide +kernel
theorem dX7_sleeper_49 : decode cX7_sleeper 49 = .ok (.aaload, 1) := by decide +kernel
theorem dX7_sleeper_50 : decode cX7_sleeper 50 = .ok (.getfield 124, 3) := by decide +kernel
theorem dX7_sleeper_53 : decode cX7_sleeper 53 = .ok (.ireturn, 1) := by decide +kernel
theorem dX7_sleeper_54 : decode cX7_sleeper 54 = .ok (.aload_n 0, 1) := by decide +kernel
theorem dX7_sleeper_55 : decode cX7_sleeper 55 = .ok (.getfield 17, 3) := by decide +kernel
theorem dX7_sleeper_58 : decode cX7_sleeper 58 = .ok (.iload_n 1, 1) := by decide +kernel
theorem dX7_sleeper_59 : decode cX7_sleeper 59 = .ok (.aaload, 1) := by decide +kernel
theorem dX7_sleeper_60 : decode cX7_sleeper 60 = .ok (.getfield 127, 3) := by decide +kernel
theorem dX7_sleeper_63 : decode cX7_sleeper 63 = .ok (.ireturn, 1) := by decide +kernel
theorem dX7_sleeper_64 : decode cX7_sleeper 64 = .ok (.aload_n 0, 1) := by decide +kernel
theorem dX7_sleeper_65 : decode cX7_sleeper 65 = .ok (.getfield 17, 3) := by decide +kernel
theorem dX7_sleeper_68 : decode cX7_sleeper 68 = .ok (.iload_n 1, 1) := by decide +kernel
theorem dX7_sleeper_69 : decode cX7_sleeper 69 = .ok (.aaload, 1) := by decide +kernel
theorem dX7_sleeper_70 : decode cX7_sleeper 70 = .ok (.getfield 130, 3) := by decide +kernel
theorem dX7_sleeper_73 : decode cX7_sleeper 73 = .ok (.ireturn, 1) := by decide +kernel
theorem dX7_sleeper_74 : decode cX7_sleeper 74 = .ok (.aload_n 0, 1) := by decide +kernel
theorem dX7_sleeper_75 : decode cX7_sleeper 75 = .ok (.getfield 17, 3) := by decide +kernel
theorem dX7_sleeper_78 : decode cX7_sleeper 78 = .ok (.iload_n 1, 1) := by decide +kernel
theorem dX7_sleeper_79 : decode cX7_sleeper 79 = .ok (.aaload, 1) := by decide +kernel
theorem dX7_sleeper_80 : decode cX7_sleeper 80 = .ok (.getfield 137, 3) := by decide +kernel
theorem dX7_sleeper_83 : decode cX7_sleeper 83 = .ok (.ireturn, 1) := by decide +kernel
theorem dX7_sleeper_84 : decode cX7_sleeper 84 = .ok (.bipush (-2), 2) := by decide +kernel
theorem dX7_sleeper_86 : decode cX7_sleeper 86 = .ok (.ireturn, 1) := by decide +kernel
theorem dX7_deed_0 : decode cX7_deed 0 = .ok (.iload_n 1, 1) := by decide +kernel
theorem dX7_deed_1 : decode cX7_deed 1 = .ok (.aload_n 0, 1) := by decide +kernel
theorem dX7_deed_2 : decode cX7_deed 2 = .ok (.getfield 24, 3) := by decide +kernel
theorem dX7_deed_5 : decode cX7_deed 5 = .ok (.getfield 140, 3) := by decide +kernel
theorem dX7_deed_8 : decode cX7_deed 8 = .ok (.invokestatic 89, 3) := by decide +kernel
theorem dX7_deed_11 : decode cX7_deed 11 = .ok (.ifCond .ne 6, 3) := by decide +kernel
theorem dX7_deed_14 : decode cX7_deed 14 = .ok (.bipush (-2), 2) := by decide +kernel
theorem dX7_deed_16 : decode cX7_deed 16 = .ok (.ireturn, 1) := by decide +kernel
theorem dX7_deed_17 : decode cX7_deed 17 = .ok (.iload_n 2, 1) := by decide +kernel
theorem dX7_deed_18 : decode cX7_deed 18 = .ok (.tableswitch 56 0 2 #[26, 36, 46], 26) := by decide +kernel
theorem dX7_deed_44 : decode cX7_deed 44 = .ok (.aload_n 0, 1) := by decide +kernel
theorem dX7_deed_45 : decode cX7_deed 45 = .ok (.getfield 24, 3) := by decide +kernel
theorem dX7_deed_48 : decode cX7_deed 48 = .ok (.getfield 145, 3) := by decide +kernel
theorem dX7_deed_51 : decode cX7_deed 51 = .ok (.iload_n 1, 1) := by decide +kernel
theorem dX7_deed_52 : decode cX7_deed 52 = .ok (.iaload, 1) := by decide +kernel
theorem dX7_deed_53 : decode cX7_deed 53 = .ok (.ireturn, 1) := by decide +kernel
theorem dX7_deed_54 : decode cX7_deed 54 = .ok (.aload_n 0, 1) := by decide +kernel
theorem dX7_deed_55 : decode cX7_deed 55 = .ok (.getfield 24, 3) := by decide +kernel
theorem dX7_deed_58 : decode cX7_deed 58 = .ok (.getfield 148, 3) := by decide +kernel
theorem dX7_deed_61 : decode cX7_deed 61 = .ok (.iload_n 1, 1) := by decide +kernel
theorem dX7_deed_62 : decode cX7_deed 62 = .ok (.iaload, 1) := by decide +kernel
theorem dX7_deed_63 : decode cX7_deed 63 = .ok (.ireturn, 1) := by decide +kernel
theorem dX7_deed_64 : decode cX7_deed 64 = .ok (.aload_n 0, 1) := by decide +kernel
theorem dX7_deed_65 : decode cX7_deed 65 = .ok (.getfield 24, 3) := by decide +kernel
theorem dX7_deed_68 : decode cX7_deed 68 = .ok (.getfield 150, 3) := by decide +kernel
theorem dX7_deed_71 : decode cX7_deed 71 = .ok (.iload_n 1, 1) := by decide +kernel
theorem dX7_deed_72 : decode cX7_deed 72 = .ok (.iaload, 1) := by decide +kernel
theorem dX7_deed_73 : decode cX7_deed 73 = .ok (.ireturn, 1) := by decide +kernel
theorem dX7_deed_74 : decode cX7_deed 74 = .ok (.bipush (-2), 2) := by decide +kernel
theorem dX7_deed_76 : decode cX7_deed 76 = .ok (.ireturn, 1) := by decide +kernel
theorem dX7_law_0 : decode cX7_law 0 = .ok (.iload_n 1, 1) := by decide +kernel
theorem dX7_law_1 : decode cX7_law 1 = .ok (.aload_n 0, 1) := by decide +kernel
theorem dX7_law_2 : decode cX7_law 2 = .ok (.getfield 28, 3) := by decide +kernel
theorem dX7_law_5 : decode cX7_law 5 = .ok (.arraylength, 1) := by decide +kernel
theorem dX7_law_6 : decode cX7_law 6 = .ok (.invokestatic 89, 3) := by decide +kernel
theorem dX7_law_9 : decode cX7_law 9 = .ok (.ifCond .eq 21, 3) := by decide +kernel
theorem dX7_law_12 : decode cX7_law 12 = .ok (.iload_n 2, 1) := by decide +kernel
theorem dX7_law_13 : decode cX7_law 13 = .ok (.getstatic 153, 3) := by decide +kernel
theorem dX7_law_16 : decode cX7_law 16 = .ok (.iload_n 1, 1) := by decide +kernel
theorem dX7_law_17 : decode cX7_law 17 = .ok (.iaload, 1) := by decide +kernel
theorem dX7_law_18 : decode cX7_law 18 = .ok (.if_icmp .lt 12, 3) := by decide +kernel
theorem dX7_law_21 : decode cX7_law 21 = .ok (.iload_n 2, 1) := by decide +kernel
theorem dX7_law_22 : decode cX7_law 22 = .ok (.getstatic 156, 3) := by decide +kernel
theorem dX7_law_25 : decode cX7_law 25 = .ok (.iload_n 1, 1) := by decide +kernel
theorem dX7_law_26 : decode cX7_law 26 = .ok (.iaload, 1) := by decide +kernel
theorem dX7_law_27 : decode cX7_law 27 = .ok (.if_icmp .le 6, 3) := by decide +kernel
theorem dX7_law_30 : decode cX7_law 30 = .ok (.bipush (-2), 2) := by decide +kernel
theorem dX7_law_32 : decode cX7_law 32 = .ok (.ireturn, 1) := by decide +kernel
theorem dX7_law_33 : decode cX7_law 33 = .ok (.aload_n 0, 1) := by decide +kernel
theorem dX7_law_34 : decode cX7_law 34 = .ok (.getfield 28, 3) := by decide +kernel
theorem dX7_law_37 : decode cX7_law 37 = .ok (.iload_n 1, 1) := by decide +kernel
theorem dX7_law_38 : decode cX7_law 38 = .ok (.iaload, 1) := by decide +kernel
theorem dX7_law_39 : decode cX7_law 39 = .ok (.istore_n 3, 1) := by decide +kernel
theorem dX7_law_40 : decode cX7_law 40 = .ok (.aload_n 0, 1) := by decide +kernel
theorem dX7_law_41 : decode cX7_law 41 = .ok (.getfield 28, 3) := by decide +kernel
theorem dX7_law_44 : decode cX7_law 44 = .ok (.iload_n 1, 1) := by decide +kernel
theorem dX7_law_45 : decode cX7_law 45 = .ok (.iload_n 2, 1) := by decide +kernel
theorem dX7_law_46 : decode cX7_law 46 = .ok (.iastore, 1) := by decide +kernel
theorem dX7_law_47 : decode cX7_law 47 = .ok (.iload_n 3, 1) := by decide +kernel
theorem dX7_law_48 : decode cX7_law 48 = .ok (.ireturn, 1) := by decide +kernel
theorem dX7_hearAll_0 : decode cX7_hearAll 0 = .ok (.aload_n 0, 1) := by decide +kernel
theorem dX7_hearAll_1 : decode cX7_hearAll 1 = .ok (.getfield 63, 3) := by decide +kernel
theorem dX7_hearAll_4 : decode cX7_hearAll 4 = .ok (.invokevirtual 159, 3) := by decide +kernel
theorem dX7_hearAll_7 : decode cX7_hearAll 7 = .ok (.iconst 0, 1) := by decide +kernel
theorem dX7_hearAll_8 : decode cX7_hearAll 8 = .ok (.istore_n 2, 1) := by decide +kernel
theorem dX7_hearAll_9 : decode cX7_hearAll 9 = .ok (.iload_n 2, 1) := by decide +kernel
theorem dX7_hearAll_10 : decode cX7_hearAll 10 = .ok (.aload_n 0, 1) := by decide +kernel
theorem dX7_hearAll_11 : decode cX7_hearAll 11 = .ok (.getfield 118, 3) := by decide +kernel
theorem dX7_hearAll_14 : decode cX7_hearAll 14 = .ok (.if_icmp .ge 38, 3) := by decide +kernel
theorem dX7_hearAll_17 : decode cX7_hearAll 17 = .ok (.aload_n 0, 1) := by decide +kernel
theorem dX7_hearAll_18 : decode cX7_hearAll 18 = .ok (.getfield 56, 3) := by decide +kernel
theorem dX7_hearAll_21 : decode cX7_hearAll 21 = .ok (.aload_n 0, 1) := by decide +kernel
theorem dX7_hearAll_22 : decode cX7_hearAll 22 = .ok (.getfield 17, 3) := by decide +kernel
theorem dX7_hearAll_25 : decode cX7_hearAll 25 = .ok (.iload_n 2, 1) := by decide +kernel
theorem dX7_hearAll_26 : decode cX7_hearAll 26 = .ok (.aaload, 1) := by decide +kernel
theorem dX7_hearAll_27 : decode cX7_hearAll 27 = .ok (.aload_n 1, 1) := by decide +kernel
theorem dX7_hearAll_28 : decode cX7_hearAll 28 = .ok (.aload_n 0, 1) := by decide +kernel
theorem dX7_hearAll_29 : decode cX7_hearAll 29 = .ok (.getfield 28, 3) := by decide +kernel
theorem dX7_hearAll_32 : decode cX7_hearAll 32 = .ok (.invokevirtual 162, 3) := by decide +kernel
theorem dX7_hearAll_35 : decode cX7_hearAll 35 = .ok (.aload_n 0, 1) := by decide +kernel
theorem dX7_hearAll_36 : decode cX7_hearAll 36 = .ok (.getfield 63, 3) := by decide +kernel
theorem dX7_hearAll_39 : decode cX7_hearAll 39 = .ok (.aload_n 0, 1) := by decide +kernel
theorem dX7_hearAll_40 : decode cX7_hearAll 40 = .ok (.getfield 56, 3) := by decide +kernel
theorem dX7_hearAll_43 : decode cX7_hearAll 43 = .ok (.invokevirtual 166, 3) := by decide +kernel
theorem dX7_hearAll_46 : decode cX7_hearAll 46 = .ok (.iinc 2 1, 3) := by decide +kernel
theorem dX7_hearAll_49 : decode cX7_hearAll 49 = .ok (.goto (-40), 3) := by decide +kernel
theorem dX7_hearAll_52 : decode cX7_hearAll 52 = .ok (.return_, 1) := by decide +kernel
theorem dX7_provenOf_0 : decode cX7_provenOf 0 = .ok (.aload_n 0, 1) := by decide +kernel
theorem dX7_provenOf_1 : decode cX7_provenOf 1 = .ok (.getfield 63, 3) := by decide +kernel
theorem dX7_provenOf_4 : decode cX7_provenOf 4 = .ok (.aload_n 1, 1) := by decide +kernel
theorem dX7_provenOf_5 : decode cX7_provenOf 5 = .ok (.getfield 140, 3) := by decide +kernel
theorem dX7_provenOf_8 : decode cX7_provenOf 8 = .ok (.aload_n 0, 1) := by decide +kernel
theorem dX7_provenOf_9 : decode cX7_provenOf 9 = .ok (.getfield 28, 3) := by decide +kernel
theorem dX7_provenOf_12 : decode cX7_provenOf 12 = .ok (.iconst 2, 1) := by decide +kernel
theorem dX7_provenOf_13 : decode cX7_provenOf 13 = .ok (.iaload, 1) := by decide +kernel
theorem dX7_provenOf_14 : decode cX7_provenOf 14 = .ok (.invokevirtual 169, 3) := by decide +kernel
theorem dX7_provenOf_17 : decode cX7_provenOf 17 = .ok (.ireturn, 1) := by decide +kernel
theorem dX7_depth_0 : decode cX7_depth 0 = .ok (.iload_n 1, 1) := by decide +kernel
theorem dX7_depth_1 : decode cX7_depth 1 = .ok (.bipush 50, 2) := by decide +kernel
theorem dX7_depth_3 : decode cX7_depth 3 = .ok (.invokestatic 89, 3) := by decide +kernel
theorem dX7_depth_6 : decode cX7_depth 6 = .ok (.ifCond .eq 14, 3) := by decide +kernel
theorem dX7_depth_9 : decode cX7_depth 9 = .ok (.iload_n 2, 1) := by decide +kernel
theorem dX7_depth_10 : decode cX7_depth 10 = .ok (.aload_n 0, 1) := by decide +kernel
theorem dX7_depth_11 : decode cX7_depth 11 = .ok (.getfield 118, 3) := by decide +kernel
theorem dX7_depth_14 : decode cX7_depth 14 = .ok (.invokestatic 89, 3) := by decide +kernel
theorem dX7_depth_17 : decode cX7_depth 17 = .ok (.ifCond .ne 6, 3) := by decide +kernel
theorem dX7_depth_20 : decode cX7_depth 20 = .ok (.bipush (-2), 2) := by decide +kernel
theorem dX7_depth_22 : decode cX7_depth 22 = .ok (.ireturn, 1) := by decide +kernel
theorem dX7_depth_23 : decode cX7_depth 23 = .ok (.aload_n 0, 1) := by decide +kernel
theorem dX7_depth_24 : decode cX7_depth 24 = .ok (.getfield 56, 3) := by decide +kernel
theorem dX7_depth_27 : decode cX7_depth 27 = .ok (.iload_n 1, 1) := by decide +kernel
theorem dX7_depth_28 : decode cX7_depth 28 = .ok (.aload_n 0, 1) := by decide +kernel
theorem dX7_depth_29 : decode cX7_depth 29 = .ok (.getfield 17, 3) := by decide +kernel
theorem dX7_depth_32 : decode cX7_depth 32 = .ok (.iload_n 2, 1) := by decide +kernel
theorem dX7_depth_33 : decode cX7_depth 33 = .ok (.aaload, 1) := by decide +kernel
theorem dX7_depth_34 : decode cX7_depth 34 = .ok (.aload_n 0, 1) := by decide +kernel
theorem dX7_depth_35 : decode cX7_depth 35 = .ok (.getfield 24, 3) := by decide +kernel
theorem dX7_depth_38 : decode cX7_depth 38 = .ok (.invokevirtual 172, 3) := by decide +kernel
theorem dX7_depth_41 : decode cX7_depth 41 = .ok (.ireturn, 1) := by decide +kernel
theorem dX7_hears_0 : decode cX7_hears 0 = .ok (.iload_n 1, 1) := by decide +kernel
theorem dX7_hears_1 : decode cX7_hears 1 = .ok (.aload_n 0, 1) := by decide +kernel
theorem dX7_hears_2 : decode cX7_hears 2 = .ok (.getfield 24, 3) := by decide +kernel
theorem dX7_hears_5 : decode cX7_hears 5 = .ok (.getfield 140, 3) := by decide +kernel
theorem dX7_hears_8 : decode cX7_hears 8 = .ok (.invokestatic 89, 3) := by decide +kernel
theorem dX7_hears_11 : decode cX7_hears 11 = .ok (.ifCond .eq 14, 3) := by decide +kernel
theorem dX7_hears_14 : decode cX7_hears 14 = .ok (.iload_n 2, 1) := by decide +kernel
theorem dX7_hears_15 : decode cX7_hears 15 = .ok (.aload_n 0, 1) := by decide +kernel
theorem dX7_hears_16 : decode cX7_hears 16 = .ok (.getfield 118, 3) := by decide +kernel
theorem dX7_hears_19 : decode cX7_hears 19 = .ok (.invokestatic 89, 3) := by decide +kernel
theorem dX7_hears_22 : decode cX7_hears 22 = .ok (.ifCond .ne 6, 3) := by decide +kernel
theorem dX7_hears_25 : decode cX7_hears 25 = .ok (.bipush (-2), 2) := by decide +kernel
theorem dX7_hears_27 : decode cX7_hears 27 = .ok (.ireturn, 1) := by decide +kernel
theorem dX7_hears_28 : decode cX7_hears 28 = .ok (.aload_n 0, 1) := by decide +kernel
theorem dX7_hears_29 : decode cX7_hears 29 = .ok (.getfield 56, 3) := by decide +kernel
theorem dX7_hears_32 : decode cX7_hears 32 = .ok (.aload_n 0, 1) := by decide +kernel
theorem dX7_hears_33 : decode cX7_hears 33 = .ok (.getfield 17, 3) := by decide +kernel
theorem dX7_hears_36 : decode cX7_hears 36 = .ok (.iload_n 2, 1) := by decide +kernel
theorem dX7_hears_37 : decode cX7_hears 37 = .ok (.aaload, 1) := by decide +kernel
theorem dX7_hears_38 : decode cX7_hears 38 = .ok (.aload_n 0, 1) := by decide +kernel
theorem dX7_hears_39 : decode cX7_hears 39 = .ok (.getfield 24, 3) := by decide +kernel
theorem dX7_hears_42 : decode cX7_hears 42 = .ok (.aload_n 0, 1) := by decide +kernel
theorem dX7_hears_43 : decode cX7_hears 43 = .ok (.getfield 28, 3) := by decide +kernel
theorem dX7_hears_46 : decode cX7_hears 46 = .ok (.invokevirtual 162, 3) := by decide +kernel
theorem dX7_hears_49 : decode cX7_hears 49 = .ok (.iload_n 3, 1) := by decide +kernel
theorem dX7_hears_50 : decode cX7_hears 50 = .ok (.tableswitch 58 0 2 #[26, 36, 46], 26) := by decide +kernel
theorem dX7_hears_76 : decode cX7_hears 76 = .ok (.aload_n 0, 1) := by decide +kernel
theorem dX7_hears_77 : decode cX7_hears 77 = .ok (.getfield 56, 3) := by decide +kernel
theorem dX7_hears_80 : decode cX7_hears 80 = .ok (.getfield 176, 3) := by decide +kernel
theorem dX7_hears_83 : decode cX7_hears 83 = .ok (.iload_n 1, 1) := by decide +kernel
theorem dX7_hears_84 : decode cX7_hears 84 = .ok (.iaload, 1) := by decide +kernel
theorem dX7_hears_85 : decode cX7_hears 85 = .ok (.ireturn, 1) := by decide +kernel
theorem dX7_hears_86 : decode cX7_hears 86 = .ok (.aload_n 0, 1) := by decide +kernel
theorem dX7_hears_87 : decode cX7_hears 87 = .ok (.getfield 56, 3) := by decide +kernel
theorem dX7_hears_90 : decode cX7_hears 90 = .ok (.getfield 179, 3) := by decide +kernel
theorem dX7_hears_93 : decode cX7_hears 93 = .ok (.iload_n 1, 1) := by decide +kernel
theorem dX7_hears_94 : decode cX7_hears 94 = .ok (.iaload, 1) := by decide +kernel
theorem dX7_hears_95 : decode cX7_hears 95 = .ok (.ireturn, 1) := by decide +kernel
theorem dX7_hears_96 : decode cX7_hears 96 = .ok (.aload_n 0, 1) := by decide +kernel
theorem dX7_hears_97 : decode cX7_hears 97 = .ok (.getfield 56, 3) := by decide +kernel
theorem dX7_hears_100 : decode cX7_hears 100 = .ok (.getfield 182, 3) := by decide +kernel
theorem dX7_hears_103 : decode cX7_hears 103 = .ok (.iload_n 1, 1) := by decide +kernel
theorem dX7_hears_104 : decode cX7_hears 104 = .ok (.ishr, 1) := by decide +kernel
theorem dX7_hears_105 : decode cX7_hears 105 = .ok (.iconst 1, 1) := by decide +kernel
theorem dX7_hears_106 : decode cX7_hears 106 = .ok (.iand, 1) := by decide +kernel
theorem dX7_hears_107 : decode cX7_hears 107 = .ok (.ireturn, 1) := by decide +kernel
theorem dX7_hears_108 : decode cX7_hears 108 = .ok (.bipush (-2), 2) := by decide +kernel
theorem dX7_hears_110 : decode cX7_hears 110 = .ok (.ireturn, 1) := by decide +kernel
theorem dX7_proof_0 : decode cX7_proof 0 = .ok (.iload_n 1, 1) := by decide +kernel
theorem dX7_proof_1 : decode cX7_proof 1 = .ok (.aload_n 0, 1) := by decide +kernel
theorem dX7_proof_2 : decode cX7_proof 2 = .ok (.getfield 24, 3) := by decide +kernel
theorem dX7_proof_5 : decode cX7_proof 5 = .ok (.getfield 140, 3) := by decide +kernel
theorem dX7_proof_8 : decode cX7_proof 8 = .ok (.invokestatic 89, 3) := by decide +kernel
theorem dX7_proof_11 : decode cX7_proof 11 = .ok (.ifCond .ne 6, 3) := by decide +kernel
theorem dX7_proof_14 : decode cX7_proof 14 = .ok (.bipush (-2), 2) := by decide +kernel
theorem dX7_proof_16 : decode cX7_proof 16 = .ok (.ireturn, 1) := by decide +kernel
theorem dX7_proof_17 : decode cX7_proof 17 = .ok (.aload_n 0, 1) := by decide +kernel
theorem dX7_proof_18 : decode cX7_proof 18 = .ok (.aload_n 0, 1) := by decide +kernel
theorem dX7_proof_19 : decode cX7_proof 19 = .ok (.getfield 24, 3) := by decide +kernel
theorem dX7_proof_22 : decode cX7_proof 22 = .ok (.invokevirtual 185, 3) := by decide +kernel
theorem dX7_proof_25 : decode cX7_proof 25 = .ok (.aload_n 0, 1) := by decide +kernel
theorem dX7_proof_26 : decode cX7_proof 26 = .ok (.getfield 63, 3) := by decide +kernel
theorem dX7_proof_29 : decode cX7_proof 29 = .ok (.iload_n 1, 1) := by decide +kernel
theorem dX7_proof_30 : decode cX7_proof 30 = .ok (.invokevirtual 189, 3) := by decide +kernel
theorem dX7_proof_33 : decode cX7_proof 33 = .ok (.istore_n 3, 1) := by decide +kernel
theorem dX7_proof_34 : decode cX7_proof 34 = .ok (.iconst 0, 1) := by decide +kernel
theorem dX7_proof_35 : decode cX7_proof 35 = .ok (.aload_n 0, 1) := by decide +kernel
theorem dX7_proof_36 : decode cX7_proof 36 = .ok (.getfield 28, 3) := by decide +kernel
theorem dX7_proof_39 : decode cX7_proof 39 = .ok (.iconst 2, 1) := by decide +kernel
theorem dX7_proof_40 : decode cX7_proof 40 = .ok (.iaload, 1) := by decide +kernel
theorem dX7_proof_41 : decode cX7_proof 41 = .ok (.iload_n 3, 1) := by decide +kernel
theorem dX7_proof_42 : decode cX7_proof 42 = .ok (.invokestatic 192, 3) := by decide +kernel
theorem dX7_proof_45 : decode cX7_proof 45 = .ok (.isub, 1) := by decide +kernel
theorem dX7_proof_46 : decode cX7_proof 46 = .ok (.invokestatic 197, 3) := by decide +kernel
theorem dX7_proof_49 : decode cX7_proof 49 = .ok (.istore 4, 2) := by decide +kernel
theorem dX7_proof_51 : decode cX7_proof 51 = .ok (.iload_n 2, 1) := by decide +kernel
theorem dX7_proof_52 : decode cX7_proof 52 = .ok (.tableswitch 44 0 2 #[28, 30, 41], 28) := by decide +kernel
theorem dX7_proof_80 : decode cX7_proof 80 = .ok (.iload_n 3, 1) := by decide +kernel
theorem dX7_proof_81 : decode cX7_proof 81 = .ok (.ireturn, 1) := by decide +kernel
theorem dX7_proof_82 : decode cX7_proof 82 = .ok (.iload 4, 2) := by decide +kernel
theorem dX7_proof_84 : decode cX7_proof 84 = .ok (.ifCond .ne 7, 3) := by decide +kernel
theorem dX7_proof_87 : decode cX7_proof 87 = .ok (.iconst 1, 1) := by decide +kernel
theorem dX7_proof_88 : decode cX7_proof 88 = .ok (.goto 4, 3) := by decide +kernel
theorem dX7_proof_91 : decode cX7_proof 91 = .ok (.iconst 0, 1) := by decide +kernel
theorem dX7_proof_92 : decode cX7_proof 92 = .ok (.ireturn, 1) := by decide +kernel
theorem dX7_proof_93 : decode cX7_proof 93 = .ok (.iload 4, 2) := by decide +kernel
theorem dX7_proof_95 : decode cX7_proof 95 = .ok (.ireturn, 1) := by decide +kernel
theorem dX7_proof_96 : decode cX7_proof 96 = .ok (.bipush (-2), 2) := by decide +kernel
theorem dX7_proof_98 : decode cX7_proof 98 = .ok (.ireturn, 1) := by decide +kernel
theorem dX7_nights_0 : decode cX7_nights 0 = .ok (.iload_n 1, 1) := by decide +kernel
theorem dX7_nights_1 : decode cX7_nights 1 = .ok (.aload_n 0, 1) := by decide +kernel
theorem dX7_nights_2 : decode cX7_nights 2 = .ok (.getfield 118, 3) := by decide +kernel
theorem dX7_nights_5 : decode cX7_nights 5 = .ok (.invokestatic 89, 3) := by decide +kernel
theorem dX7_nights_8 : decode cX7_nights 8 = .ok (.ifCond .ne 6, 3) := by decide +kernel
theorem dX7_nights_11 : decode cX7_nights 11 = .ok (.bipush (-2), 2) := by decide +kernel
theorem dX7_nights_13 : decode cX7_nights 13 = .ok (.ireturn, 1) := by decide +kernel
theorem dX7_nights_14 : decode cX7_nights 14 = .ok (.aload_n 0, 1) := by decide +kernel
theorem dX7_nights_15 : decode cX7_nights 15 = .ok (.getfield 56, 3) := by decide +kernel
theorem dX7_nights_18 : decode cX7_nights 18 = .ok (.aload_n 0, 1) := by decide +kernel
theorem dX7_nights_19 : decode cX7_nights 19 = .ok (.getfield 17, 3) := by decide +kernel
theorem dX7_nights_22 : decode cX7_nights 22 = .ok (.iload_n 1, 1) := by decide +kernel
theorem dX7_nights_23 : decode cX7_nights 23 = .ok (.aaload, 1) := by decide +kernel
theorem dX7_nights_24 : decode cX7_nights 24 = .ok (.aload_n 0, 1) := by decide +kernel
theorem dX7_nights_25 : decode cX7_nights 25 = .ok (.getfield 24, 3) := by decide +kernel
theorem dX7_nights_28 : decode cX7_nights 28 = .ok (.aload_n 0, 1) := by decide +kernel
theorem dX7_nights_29 : decode cX7_nights 29 = .ok (.getfield 28, 3) := by decide +kernel
theorem dX7_nights_32 : decode cX7_nights 32 = .ok (.invokevirtual 162, 3) := by decide +kernel
theorem dX7_nights_35 : decode cX7_nights 35 = .ok (.iload_n 2, 1) := by decide +kernel
theorem dX7_nights_36 : decode cX7_nights 36 = .ok (.lookupswitch 47 #[(0, 28), (1, 36)], 28) := by decide +kernel
theorem dX7_nights_64 : decode cX7_nights 64 = .ok (.aload_n 0, 1) := by decide +kernel
theorem dX7_nights_65 : decode cX7_nights 65 = .ok (.getfield 56, 3) := by decide +kernel
theorem dX7_nights_68 : decode cX7_nights 68 = .ok (.getfield 202, 3) := by decide +kernel
theorem dX7_nights_71 : decode cX7_nights 71 = .ok (.ireturn, 1) := by decide +kernel
theorem dX7_nights_72 : decode cX7_nights 72 = .ok (.aload_n 0, 1) := by decide +kernel
theorem dX7_nights_73 : decode cX7_nights 73 = .ok (.getfield 56, 3) := by decide +kernel
theorem dX7_nights_76 : decode cX7_nights 76 = .ok (.getfield 182, 3) := by decide +kernel
theorem dX7_nights_79 : decode cX7_nights 79 = .ok (.invokestatic 192, 3) := by decide +kernel
theorem dX7_nights_82 : decode cX7_nights 82 = .ok (.ireturn, 1) := by decide +kernel
theorem dX7_nights_83 : decode cX7_nights 83 = .ok (.bipush (-2), 2) := by decide +kernel
theorem dX7_nights_85 : decode cX7_nights 85 = .ok (.ireturn, 1) := by decide +kernel
theorem dX7_best_0 : decode cX7_best 0 = .ok (.iconst (-1), 1) := by decide +kernel
theorem dX7_best_1 : decode cX7_best 1 = .ok (.istore_n 1, 1) := by decide +kernel
theorem dX7_best_2 : decode cX7_best 2 = .ok (.iconst (-1), 1) := by decide +kernel
theorem dX7_best_3 : decode cX7_best 3 = .ok (.istore_n 2, 1) := by decide +kernel
theorem dX7_best_4 : decode cX7_best 4 = .ok (.iconst 0, 1) := by decide +kernel
theorem dX7_best_5 : decode cX7_best 5 = .ok (.istore_n 3, 1) := by decide +kernel
theorem dX7_best_6 : decode cX7_best 6 = .ok (.iload_n 3, 1) := by decide +kernel
theorem dX7_best_7 : decode cX7_best 7 = .ok (.aload_n 0, 1) := by decide +kernel
theorem dX7_best_8 : decode cX7_best 8 = .ok (.getfield 118, 3) := by decide +kernel
theorem dX7_best_11 : decode cX7_best 11 = .ok (.if_icmp .ge 53, 3) := by decide +kernel
theorem dX7_best_14 : decode cX7_best 14 = .ok (.aload_n 0, 1) := by decide +kernel
theorem dX7_best_15 : decode cX7_best 15 = .ok (.getfield 56, 3) := by decide +kernel
theorem dX7_best_18 : decode cX7_best 18 = .ok (.aload_n 0, 1) := by decide +kernel
theorem dX7_best_19 : decode cX7_best 19 = .ok (.getfield 17, 3) := by decide +kernel
theorem dX7_best_22 : decode cX7_best 22 = .ok (.iload_n 3, 1) := by decide +kernel
theorem dX7_best_23 : decode cX7_best 23 = .ok (.aaload, 1) := by decide +kernel
theorem dX7_best_24 : decode cX7_best 24 = .ok (.aload_n 0, 1) := by decide +kernel
theorem dX7_best_25 : decode cX7_best 25 = .ok (.getfield 24, 3) := by decide +kernel
theorem dX7_best_28 : decode cX7_best 28 = .ok (.aload_n 0, 1) := by decide +kernel
theorem dX7_best_29 : decode cX7_best 29 = .ok (.getfield 28, 3) := by decide +kernel
theorem dX7_best_32 : decode cX7_best 32 = .ok (.invokevirtual 162, 3) := by decide +kernel
theorem dX7_best_35 : decode cX7_best 35 = .ok (.aload_n 0, 1) := by decide +kernel
theorem dX7_best_36 : decode cX7_best 36 = .ok (.getfield 56, 3) := by decide +kernel
theorem dX7_best_39 : decode cX7_best 39 = .ok (.getfield 182, 3) := by decide +kernel
theorem dX7_best_42 : decode cX7_best 42 = .ok (.invokestatic 192, 3) := by decide +kernel
theorem dX7_best_45 : decode cX7_best 45 = .ok (.istore 4, 2) := by decide +kernel
theorem dX7_best_47 : decode cX7_best 47 = .ok (.iload 4, 2) := by decide +kernel
theorem dX7_best_49 : decode cX7_best 49 = .ok (.iload_n 2, 1) := by decide +kernel
theorem dX7_best_50 : decode cX7_best 50 = .ok (.if_icmp .le 8, 3) := by decide +kernel
theorem dX7_best_53 : decode cX7_best 53 = .ok (.iload 4, 2) := by decide +kernel
theorem dX7_best_55 : decode cX7_best 55 = .ok (.istore_n 2, 1) := by decide +kernel
theorem dX7_best_56 : decode cX7_best 56 = .ok (.iload_n 3, 1) := by decide +kernel
theorem dX7_best_57 : decode cX7_best 57 = .ok (.istore_n 1, 1) := by decide +kernel
theorem dX7_best_58 : decode cX7_best 58 = .ok (.iinc 3 1, 3) := by decide +kernel
theorem dX7_best_61 : decode cX7_best 61 = .ok (.goto (-55), 3) := by decide +kernel
theorem dX7_best_64 : decode cX7_best 64 = .ok (.iload_n 1, 1) := by decide +kernel
theorem dX7_best_65 : decode cX7_best 65 = .ok (.ireturn, 1) := by decide +kernel
theorem dX7_byAll_0 : decode cX7_byAll 0 = .ok (.aload_n 0, 1) := by decide +kernel
theorem dX7_byAll_1 : decode cX7_byAll 1 = .ok (.getfield 118, 3) := by decide +kernel
theorem dX7_byAll_4 : decode cX7_byAll 4 = .ok (.ifCond .ne 5, 3) := by decide +kernel
theorem dX7_byAll_7 : decode cX7_byAll 7 = .ok (.iconst (-1), 1) := by decide +kernel
theorem dX7_byAll_8 : decode cX7_byAll 8 = .ok (.ireturn, 1) := by decide +kernel
theorem dX7_byAll_9 : decode cX7_byAll 9 = .ok (.iconst 1, 1) := by decide +kernel
theorem dX7_byAll_10 : decode cX7_byAll 10 = .ok (.aload_n 0, 1) := by decide +kernel
theorem dX7_byAll_11 : decode cX7_byAll 11 = .ok (.getfield 24, 3) := by decide +kernel
theorem dX7_byAll_14 : decode cX7_byAll 14 = .ok (.getfield 140, 3) := by decide +kernel
theorem dX7_byAll_17 : decode cX7_byAll 17 = .ok (.ishl, 1) := by decide +kernel
theorem dX7_byAll_18 : decode cX7_byAll 18 = .ok (.iconst 1, 1) := by decide +kernel
theorem dX7_byAll_19 : decode cX7_byAll 19 = .ok (.isub, 1) := by decide +kernel
theorem dX7_byAll_20 : decode cX7_byAll 20 = .ok (.istore_n 1, 1) := by decide +kernel
theorem dX7_byAll_21 : decode cX7_byAll 21 = .ok (.iconst 0, 1) := by decide +kernel
theorem dX7_byAll_22 : decode cX7_byAll 22 = .ok (.istore_n 2, 1) := by decide +kernel
theorem dX7_byAll_23 : decode cX7_byAll 23 = .ok (.iload_n 2, 1) := by decide +kernel
theorem dX7_byAll_24 : decode cX7_byAll 24 = .ok (.aload_n 0, 1) := by decide +kernel
theorem dX7_byAll_25 : decode cX7_byAll 25 = .ok (.getfield 118, 3) := by decide +kernel
theorem dX7_byAll_28 : decode cX7_byAll 28 = .ok (.if_icmp .ge 17, 3) := by decide +kernel
theorem dX7_byAll_31 : decode cX7_byAll 31 = .ok (.iload_n 1, 1) := by decide +kernel
theorem dX7_byAll_32 : decode cX7_byAll 32 = .ok (.aload_n 0, 1) := by decide +kernel
theorem dX7_byAll_33 : decode cX7_byAll 33 = .ok (.iload_n 2, 1) := by decide +kernel
theorem dX7_byAll_34 : decode cX7_byAll 34 = .ok (.invokevirtual 205, 3) := by decide +kernel
theorem dX7_byAll_37 : decode cX7_byAll 37 = .ok (.iand, 1) := by decide +kernel
theorem dX7_byAll_38 : decode cX7_byAll 38 = .ok (.istore_n 1, 1) := by decide +kernel
theorem dX7_byAll_39 : decode cX7_byAll 39 = .ok (.iinc 2 1, 3) := by decide +kernel
theorem dX7_byAll_42 : decode cX7_byAll 42 = .ok (.goto (-19), 3) := by decide +kernel
theorem dX7_byAll_45 : decode cX7_byAll 45 = .ok (.iconst 0, 1) := by decide +kernel
theorem dX7_byAll_46 : decode cX7_byAll 46 = .ok (.istore_n 2, 1) := by decide +kernel
theorem dX7_byAll_47 : decode cX7_byAll 47 = .ok (.iload_n 2, 1) := by decide +kernel
theorem dX7_byAll_48 : decode cX7_byAll 48 = .ok (.aload_n 0, 1) := by decide +kernel
theorem dX7_byAll_49 : decode cX7_byAll 49 = .ok (.getfield 24, 3) := by decide +kernel
theorem dX7_byAll_52 : decode cX7_byAll 52 = .ok (.getfield 140, 3) := by decide +kernel
theorem dX7_byAll_55 : decode cX7_byAll 55 = .ok (.if_icmp .ge 19, 3) := by decide +kernel
theorem dX7_byAll_58 : decode cX7_byAll 58 = .ok (.iload_n 1, 1) := by decide +kernel
theorem dX7_byAll_59 : decode cX7_byAll 59 = .ok (.iload_n 2, 1) := by decide +kernel
theorem dX7_byAll_60 : decode cX7_byAll 60 = .ok (.ishr, 1) := by decide +kernel
theorem dX7_byAll_61 : decode cX7_byAll 61 = .ok (.iconst 1, 1) := by decide +kernel
theorem dX7_byAll_62 : decode cX7_byAll 62 = .ok (.iand, 1) := by decide +kernel
theorem dX7_byAll_63 : decode cX7_byAll 63 = .ok (.ifCond .eq 5, 3) := by decide +kernel
theorem dX7_byAll_66 : decode cX7_byAll 66 = .ok (.iload_n 2, 1) := by decide +kernel
theorem dX7_byAll_67 : decode cX7_byAll 67 = .ok (.ireturn, 1) := by decide +kernel
theorem dX7_byAll_68 : decode cX7_byAll 68 = .ok (.iinc 2 1, 3) := by decide +kernel
theorem dX7_byAll_71 : decode cX7_byAll 71 = .ok (.goto (-24), 3) := by decide +kernel
theorem dX7_byAll_74 : decode cX7_byAll 74 = .ok (.iconst (-1), 1) := by decide +kernel
theorem dX7_byAll_75 : decode cX7_byAll 75 = .ok (.ireturn, 1) := by decide +kernel
theorem dX7_seenBy_0 : decode cX7_seenBy 0 = .ok (.aload_n 0, 1) := by decide +kernel
theorem dX7_seenBy_1 : decode cX7_seenBy 1 = .ok (.getfield 56, 3) := by decide +kernel
theorem dX7_seenBy_4 : decode cX7_seenBy 4 = .ok (.aload_n 0, 1) := by decide +kernel
theorem dX7_seenBy_5 : decode cX7_seenBy 5 = .ok (.getfield 17, 3) := by decide +kernel
theorem dX7_seenBy_8 : decode cX7_seenBy 8 = .ok (.iload_n 1, 1) := by decide +kernel
theorem dX7_seenBy_9 : decode cX7_seenBy 9 = .ok (.aaload, 1) := by decide +kernel
theorem dX7_seenBy_10 : decode cX7_seenBy 10 = .ok (.aload_n 0, 1) := by decide +kernel
theorem dX7_seenBy_11 : decode cX7_seenBy 11 = .ok (.getfield 24, 3) := by decide +kernel
theorem dX7_seenBy_14 : decode cX7_seenBy 14 = .ok (.aload_n 0, 1) := by decide +kernel
theorem dX7_seenBy_15 : decode cX7_seenBy 15 = .ok (.getfield 28, 3) := by decide +kernel
theorem dX7_seenBy_18 : decode cX7_seenBy 18 = .ok (.invokevirtual 162, 3) := by decide +kernel
theorem dX7_seenBy_21 : decode cX7_seenBy 21 = .ok (.iconst 0, 1) := by decide +kernel
theorem dX7_seenBy_22 : decode cX7_seenBy 22 = .ok (.istore_n 2, 1) := by decide +kernel
theorem dX7_seenBy_23 : decode cX7_seenBy 23 = .ok (.iconst 0, 1) := by decide +kernel
theorem dX7_seenBy_24 : decode cX7_seenBy 24 = .ok (.istore_n 3, 1) := by decide +kernel
theorem dX7_seenBy_25 : decode cX7_seenBy 25 = .ok (.iload_n 3, 1) := by decide +kernel
theorem dX7_seenBy_26 : decode cX7_seenBy 26 = .ok (.aload_n 0, 1) := by decide +kernel
theorem dX7_seenBy_27 : decode cX7_seenBy 27 = .ok (.getfield 24, 3) := by decide +kernel
theorem dX7_seenBy_30 : decode cX7_seenBy 30 = .ok (.getfield 140, 3) := by decide +kernel
theorem dX7_seenBy_33 : decode cX7_seenBy 33 = .ok (.if_icmp .ge 41, 3) := by decide +kernel
theorem dX7_seenBy_36 : decode cX7_seenBy 36 = .ok (.aload_n 0, 1) := by decide +kernel
theorem dX7_seenBy_37 : decode cX7_seenBy 37 = .ok (.getfield 56, 3) := by decide +kernel
theorem dX7_seenBy_40 : decode cX7_seenBy 40 = .ok (.getfield 179, 3) := by decide +kernel
theorem dX7_seenBy_43 : decode cX7_seenBy 43 = .ok (.iload_n 3, 1) := by decide +kernel
theorem dX7_seenBy_44 : decode cX7_seenBy 44 = .ok (.iaload, 1) := by decide +kernel
theorem dX7_seenBy_45 : decode cX7_seenBy 45 = .ok (.iconst 1, 1) := by decide +kernel
theorem dX7_seenBy_46 : decode cX7_seenBy 46 = .ok (.if_icmp .eq 16, 3) := by decide +kernel
theorem dX7_seenBy_49 : decode cX7_seenBy 49 = .ok (.aload_n 0, 1) := by decide +kernel
theorem dX7_seenBy_50 : decode cX7_seenBy 50 = .ok (.getfield 56, 3) := by decide +kernel
theorem dX7_seenBy_53 : decode cX7_seenBy 53 = .ok (.getfield 179, 3) := by decide +kernel
theorem dX7_seenBy_56 : decode cX7_seenBy 56 = .ok (.iload_n 3, 1) := by decide +kernel
theorem dX7_seenBy_57 : decode cX7_seenBy 57 = .ok (.iaload, 1) := by decide +kernel
theorem dX7_seenBy_58 : decode cX7_seenBy 58 = .ok (.iconst 2, 1) := by decide +kernel
theorem dX7_seenBy_59 : decode cX7_seenBy 59 = .ok (.if_icmp .ne 9, 3) := by decide +kernel
theorem dX7_seenBy_62 : decode cX7_seenBy 62 = .ok (.iload_n 2, 1) := by decide +kernel
theorem dX7_seenBy_63 : decode cX7_seenBy 63 = .ok (.iconst 1, 1) := by decide +kernel
theorem dX7_seenBy_64 : decode cX7_seenBy 64 = .ok (.iload_n 3, 1) := by decide +kernel
theorem dX7_seenBy_65 : decode cX7_seenBy 65 = .ok (.ishl, 1) := by decide +kernel
theorem dX7_seenBy_66 : decode cX7_seenBy 66 = .ok (.ior, 1) := by decide +kernel
theorem dX7_seenBy_67 : decode cX7_seenBy 67 = .ok (.istore_n 2, 1) := by decide +kernel
theorem dX7_seenBy_68 : decode cX7_seenBy 68 = .ok (.iinc 3 1, 3) := by decide +kernel
theorem dX7_seenBy_71 : decode cX7_seenBy 71 = .ok (.goto (-46), 3) := by decide +kernel
theorem dX7_seenBy_74 : decode cX7_seenBy 74 = .ok (.iload_n 2, 1) := by decide +kernel
theorem dX7_seenBy_75 : decode cX7_seenBy 75 = .ok (.ireturn, 1) := by decide +kernel
theorem dX7_quiet_0 : decode cX7_quiet 0 = .ok (.iload_n 1, 1) := by decide +kernel
theorem dX7_quiet_1 : decode cX7_quiet 1 = .ok (.bipush 10, 2) := by decide +kernel
theorem dX7_quiet_3 : decode cX7_quiet 3 = .ok (.invokestatic 89, 3) := by decide +kernel
theorem dX7_quiet_6 : decode cX7_quiet 6 = .ok (.ifCond .eq 25, 3) := by decide +kernel
theorem dX7_quiet_9 : decode cX7_quiet 9 = .ok (.iload_n 2, 1) := by decide +kernel
theorem dX7_quiet_10 : decode cX7_quiet 10 = .ok (.iconst 4, 1) := by decide +kernel
theorem dX7_quiet_11 : decode cX7_quiet 11 = .ok (.invokestatic 89, 3) := by decide +kernel
theorem dX7_quiet_14 : decode cX7_quiet 14 = .ok (.ifCond .eq 17, 3) := by decide +kernel
theorem dX7_quiet_17 : decode cX7_quiet 17 = .ok (.iload_n 3, 1) := by decide +kernel
theorem dX7_quiet_18 : decode cX7_quiet 18 = .ok (.iconst (-1), 1) := by decide +kernel
theorem dX7_quiet_19 : decode cX7_quiet 19 = .ok (.if_icmp .eq 15, 3) := by decide +kernel
theorem dX7_quiet_22 : decode cX7_quiet 22 = .ok (.iload_n 3, 1) := by decide +kernel
theorem dX7_quiet_23 : decode cX7_quiet 23 = .ok (.bipush 50, 2) := by decide +kernel
theorem dX7_quiet_25 : decode cX7_quiet 25 = .ok (.invokestatic 89, 3) := by decide +kernel
theorem dX7_quiet_28 : decode cX7_quiet 28 = .ok (.ifCond .ne 6, 3) := by decide +kernel
theorem dX7_quiet_31 : decode cX7_quiet 31 = .ok (.bipush (-2), 2) := by decide +kernel
theorem dX7_quiet_33 : decode cX7_quiet 33 = .ok (.ireturn, 1) := by decide +kernel
theorem dX7_quiet_34 : decode cX7_quiet 34 = .ok (.aload_n 0, 1) := by decide +kernel
theorem dX7_quiet_35 : decode cX7_quiet 35 = .ok (.getfield 24, 3) := by decide +kernel
theorem dX7_quiet_38 : decode cX7_quiet 38 = .ok (.getfield 140, 3) := by decide +kernel
theorem dX7_quiet_41 : decode cX7_quiet 41 = .ok (.bipush 8, 2) := by decide +kernel
theorem dX7_quiet_43 : decode cX7_quiet 43 = .ok (.if_icmp .lt 6, 3) := by decide +kernel
theorem dX7_quiet_46 : decode cX7_quiet 46 = .ok (.bipush (-3), 2) := by decide +kernel
theorem dX7_quiet_48 : decode cX7_quiet 48 = .ok (.ireturn, 1) := by decide +kernel
theorem dX7_quiet_49 : decode cX7_quiet 49 = .ok (.iconst 0, 1) := by decide +kernel
theorem dX7_quiet_50 : decode cX7_quiet 50 = .ok (.istore 4, 2) := by decide +kernel
theorem dX7_quiet_52 : decode cX7_quiet 52 = .ok (.iload 4, 2) := by decide +kernel
theorem dX7_quiet_54 : decode cX7_quiet 54 = .ok (.aload_n 0, 1) := by decide +kernel
theorem dX7_quiet_55 : decode cX7_quiet 55 = .ok (.getfield 118, 3) := by decide +kernel
theorem dX7_quiet_58 : decode cX7_quiet 58 = .ok (.if_icmp .ge 40, 3) := by decide +kernel
theorem dX7_quiet_61 : decode cX7_quiet 61 = .ok (.aload_n 0, 1) := by decide +kernel
theorem dX7_quiet_62 : decode cX7_quiet 62 = .ok (.getfield 67, 3) := by decide +kernel
theorem dX7_quiet_65 : decode cX7_quiet 65 = .ok (.iload 4, 2) := by decide +kernel
theorem dX7_quiet_67 : decode cX7_quiet 67 = .ok (.aload_n 0, 1) := by decide +kernel
theorem dX7_quiet_68 : decode cX7_quiet 68 = .ok (.getfield 56, 3) := by decide +kernel
theorem dX7_quiet_71 : decode cX7_quiet 71 = .ok (.aload_n 0, 1) := by decide +kernel
theorem dX7_quiet_72 : decode cX7_quiet 72 = .ok (.getfield 17, 3) := by decide +kernel
theorem dX7_quiet_75 : decode cX7_quiet 75 = .ok (.iload 4, 2) := by decide +kernel
theorem dX7_quiet_77 : decode cX7_quiet 77 = .ok (.aaload, 1) := by decide +kernel
theorem dX7_quiet_78 : decode cX7_quiet 78 = .ok (.aload_n 0, 1) := by decide +kernel
theorem dX7_quiet_79 : decode cX7_quiet 79 = .ok (.getfield 24, 3) := by decide +kernel
theorem dX7_quiet_82 : decode cX7_quiet 82 = .ok (.iload_n 1, 1) := by decide +kernel
theorem dX7_quiet_83 : decode cX7_quiet 83 = .ok (.iload_n 2, 1) := by decide +kernel
theorem dX7_quiet_84 : decode cX7_quiet 84 = .ok (.aload_n 0, 1) := by decide +kernel
theorem dX7_quiet_85 : decode cX7_quiet 85 = .ok (.getfield 28, 3) := by decide +kernel
theorem dX7_quiet_88 : decode cX7_quiet 88 = .ok (.invokevirtual 208, 3) := by decide +kernel
theorem dX7_quiet_91 : decode cX7_quiet 91 = .ok (.lastore, 1) := by decide +kernel
theorem dX7_quiet_92 : decode cX7_quiet 92 = .ok (.iinc 4 1, 3) := by decide +kernel
theorem dX7_quiet_95 : decode cX7_quiet 95 = .ok (.goto (-43), 3) := by decide +kernel
theorem dX7_quiet_98 : decode cX7_quiet 98 = .ok (.iconst 0, 1) := by decide +kernel
theorem dX7_quiet_99 : decode cX7_quiet 99 = .ok (.istore 4, 2) := by decide +kernel
theorem dX7_quiet_101 : decode cX7_quiet 101 = .ok (.iconst 0, 1) := by decide +kernel
theorem dX7_quiet_102 : decode cX7_quiet 102 = .ok (.istore 5, 2) := by decide +kernel
theorem dX7_quiet_104 : decode cX7_quiet 104 = .ok (.iload 5, 2) := by decide +kernel
theorem dX7_quiet_106 : decode cX7_quiet 106 = .ok (.bipush 50, 2) := by decide +kernel
theorem dX7_quiet_108 : decode cX7_quiet 108 = .ok (.if_icmp .ge 36, 3) := by decide +kernel
theorem dX7_quiet_111 : decode cX7_quiet 111 = .ok (.aload_n 0, 1) := by decide +kernel
theorem dX7_quiet_112 : decode cX7_quiet 112 = .ok (.iload 5, 2) := by decide +kernel
theorem dX7_quiet_114 : decode cX7_quiet 114 = .ok (.invokevirtual 211, 3) := by decide +kernel
theorem dX7_quiet_117 : decode cX7_quiet 117 = .ok (.aload_n 0, 1) := by decide +kernel
theorem dX7_quiet_118 : decode cX7_quiet 118 = .ok (.getfield 28, 3) := by decide +kernel
theorem dX7_quiet_121 : decode cX7_quiet 121 = .ok (.iconst 2, 1) := by decide +kernel
theorem dX7_quiet_122 : decode cX7_quiet 122 = .ok (.iaload, 1) := by decide +kernel
theorem dX7_quiet_123 : decode cX7_quiet 123 = .ok (.if_icmp .ge 15, 3) := by decide +kernel
theorem dX7_quiet_126 : decode cX7_quiet 126 = .ok (.iload 4, 2) := by decide +kernel
theorem dX7_quiet_128 : decode cX7_quiet 128 = .ok (.iload_n 3, 1) := by decide +kernel
theorem dX7_quiet_129 : decode cX7_quiet 129 = .ok (.if_icmp .ne 6, 3) := by decide +kernel
theorem dX7_quiet_132 : decode cX7_quiet 132 = .ok (.iload 5, 2) := by decide +kernel
theorem dX7_quiet_134 : decode cX7_quiet 134 = .ok (.ireturn, 1) := by decide +kernel
theorem dX7_quiet_135 : decode cX7_quiet 135 = .ok (.iinc 4 1, 3) := by decide +kernel
theorem dX7_quiet_138 : decode cX7_quiet 138 = .ok (.iinc 5 1, 3) := by decide +kernel
theorem dX7_quiet_141 : decode cX7_quiet 141 = .ok (.goto (-37), 3) := by decide +kernel
theorem dX7_quiet_144 : decode cX7_quiet 144 = .ok (.iload_n 3, 1) := by decide +kernel
theorem dX7_quiet_145 : decode cX7_quiet 145 = .ok (.iconst (-1), 1) := by decide +kernel
theorem dX7_quiet_146 : decode cX7_quiet 146 = .ok (.if_icmp .ne 8, 3) := by decide +kernel
theorem dX7_quiet_149 : decode cX7_quiet 149 = .ok (.iload 4, 2) := by decide +kernel
theorem dX7_quiet_151 : decode cX7_quiet 151 = .ok (.goto 4, 3) := by decide +kernel
theorem dX7_quiet_154 : decode cX7_quiet 154 = .ok (.iconst (-1), 1) := by decide +kernel
theorem dX7_quiet_155 : decode cX7_quiet 155 = .ok (.ireturn, 1) := by decide +kernel
theorem dX7_testifyingIn_0 : decode cX7_testifyingIn 0 = .ok (.iconst 0, 1) := by decide +kernel
theorem dX7_testifyingIn_1 : decode cX7_testifyingIn 1 = .ok (.istore_n 2, 1) := by decide +kernel
theorem dX7_testifyingIn_2 : decode cX7_testifyingIn 2 = .ok (.iconst 0, 1) := by decide +kernel
theorem dX7_testifyingIn_3 : decode cX7_testifyingIn 3 = .ok (.istore_n 3, 1) := by decide +kernel
theorem dX7_testifyingIn_4 : decode cX7_testifyingIn 4 = .ok (.iload_n 3, 1) := by decide +kernel
theorem dX7_testifyingIn_5 : decode cX7_testifyingIn 5 = .ok (.aload_n 0, 1) := by decide +kernel
theorem dX7_testifyingIn_6 : decode cX7_testifyingIn 6 = .ok (.getfield 118, 3) := by decide +kernel
theorem dX7_testifyingIn_9 : decode cX7_testifyingIn 9 = .ok (.if_icmp .ge 23, 3) := by decide +kernel
theorem dX7_testifyingIn_12 : decode cX7_testifyingIn 12 = .ok (.iload_n 2, 1) := by decide +kernel
theorem dX7_testifyingIn_13 : decode cX7_testifyingIn 13 = .ok (.aload_n 0, 1) := by decide +kernel
theorem dX7_testifyingIn_14 : decode cX7_testifyingIn 14 = .ok (.getfield 67, 3) := by decide +kernel
theorem dX7_testifyingIn_17 : decode cX7_testifyingIn 17 = .ok (.iload_n 3, 1) := by decide +kernel
theorem dX7_testifyingIn_18 : decode cX7_testifyingIn 18 = .ok (.laload, 1) := by decide +kernel
theorem dX7_testifyingIn_19 : decode cX7_testifyingIn 19 = .ok (.iload_n 1, 1) := by decide +kernel
theorem dX7_testifyingIn_20 : decode cX7_testifyingIn 20 = .ok (.lshr, 1) := by decide +kernel
theorem dX7_testifyingIn_21 : decode cX7_testifyingIn 21 = .ok (.lconst 1, 1) := by decide +kernel
theorem dX7_testifyingIn_22 : decode cX7_testifyingIn 22 = .ok (.land, 1) := by decide +kernel
theorem dX7_testifyingIn_23 : decode cX7_testifyingIn 23 = .ok (.l2i, 1) := by decide +kernel
theorem dX7_testifyingIn_24 : decode cX7_testifyingIn 24 = .ok (.iadd, 1) := by decide +kernel
theorem dX7_testifyingIn_25 : decode cX7_testifyingIn 25 = .ok (.istore_n 2, 1) := by decide +kernel
theorem dX7_testifyingIn_26 : decode cX7_testifyingIn 26 = .ok (.iinc 3 1, 3) := by decide +kernel
theorem dX7_testifyingIn_29 : decode cX7_testifyingIn 29 = .ok (.goto (-25), 3) := by decide +kernel
theorem dX7_testifyingIn_32 : decode cX7_testifyingIn 32 = .ok (.iload_n 2, 1) := by decide +kernel
theorem dX7_testifyingIn_33 : decode cX7_testifyingIn 33 = .ok (.ireturn, 1) := by decide +kernel
theorem dX7_move_0 : decode cX7_move 0 = .ok (.iload_n 1, 1) := by decide +kernel
theorem dX7_move_1 : decode cX7_move 1 = .ok (.aload_n 0, 1) := by decide +kernel
theorem dX7_move_2 : decode cX7_move 2 = .ok (.getfield 118, 3) := by decide +kernel
theorem dX7_move_5 : decode cX7_move 5 = .ok (.invokestatic 89, 3) := by decide +kernel
theorem dX7_move_8 : decode cX7_move 8 = .ok (.ifCond .eq 11, 3) := by decide +kernel
theorem dX7_move_11 : decode cX7_move 11 = .ok (.iload_n 2, 1) := by decide +kernel
theorem dX7_move_12 : decode cX7_move 12 = .ok (.iconst 2, 1) := by decide +kernel
theorem dX7_move_13 : decode cX7_move 13 = .ok (.invokestatic 89, 3) := by decide +kernel
theorem dX7_move_16 : decode cX7_move 16 = .ok (.ifCond .ne 6, 3) := by decide +kernel
theorem dX7_move_19 : decode cX7_move 19 = .ok (.bipush (-2), 2) := by decide +kernel
theorem dX7_move_21 : decode cX7_move 21 = .ok (.ireturn, 1) := by decide +kernel
theorem dX7_move_22 : decode cX7_move 22 = .ok (.aload_n 0, 1) := by decide +kernel
theorem dX7_move_23 : decode cX7_move 23 = .ok (.aload_n 0, 1) := by decide +kernel
theorem dX7_move_24 : decode cX7_move 24 = .ok (.getfield 24, 3) := by decide +kernel
theorem dX7_move_27 : decode cX7_move 27 = .ok (.invokevirtual 185, 3) := by decide +kernel
theorem dX7_move_30 : decode cX7_move 30 = .ok (.aload_n 0, 1) := by decide +kernel
theorem dX7_move_31 : decode cX7_move 31 = .ok (.getfield 46, 3) := by decide +kernel
theorem dX7_move_34 : decode cX7_move 34 = .ok (.aload_n 0, 1) := by decide +kernel
theorem dX7_move_35 : decode cX7_move 35 = .ok (.getfield 17, 3) := by decide +kernel
theorem dX7_move_38 : decode cX7_move 38 = .ok (.iload_n 1, 1) := by decide +kernel
theorem dX7_move_39 : decode cX7_move 39 = .ok (.aaload, 1) := by decide +kernel
theorem dX7_move_40 : decode cX7_move 40 = .ok (.invokevirtual 214, 3) := by decide +kernel
theorem dX7_move_43 : decode cX7_move 43 = .ok (.iconst 0, 1) := by decide +kernel
theorem dX7_move_44 : decode cX7_move 44 = .ok (.istore_n 3, 1) := by decide +kernel
theorem dX7_move_45 : decode cX7_move 45 = .ok (.iconst (-1), 1) := by decide +kernel
theorem dX7_move_46 : decode cX7_move 46 = .ok (.istore 4, 2) := by decide +kernel
theorem dX7_move_48 : decode cX7_move 48 = .ok (.iconst 0, 1) := by decide +kernel
theorem dX7_move_49 : decode cX7_move 49 = .ok (.istore 5, 2) := by decide +kernel
theorem dX7_move_51 : decode cX7_move 51 = .ok (.iload 5, 2) := by decide +kernel
theorem dX7_move_53 : decode cX7_move 53 = .ok (.bipush 10, 2) := by decide +kernel
theorem dX7_move_55 : decode cX7_move 55 = .ok (.if_icmp .ge 77, 3) := by decide +kernel
theorem dX7_move_58 : decode cX7_move 58 = .ok (.aload_n 0, 1) := by decide +kernel
theorem dX7_move_59 : decode cX7_move 59 = .ok (.getfield 46, 3) := by decide +kernel
theorem dX7_move_62 : decode cX7_move 62 = .ok (.iload 5, 2) := by decide +kernel
theorem dX7_move_64 : decode cX7_move 64 = .ok (.putfield 124, 3) := by decide +kernel
theorem dX7_move_67 : decode cX7_move 67 = .ok (.aload_n 0, 1) := by decide +kernel
theorem dX7_move_68 : decode cX7_move 68 = .ok (.getfield 56, 3) := by decide +kernel
theorem dX7_move_71 : decode cX7_move 71 = .ok (.aload_n 0, 1) := by decide +kernel
theorem dX7_move_72 : decode cX7_move 72 = .ok (.getfield 46, 3) := by decide +kernel
theorem dX7_move_75 : decode cX7_move 75 = .ok (.aload_n 0, 1) := by decide +kernel
theorem dX7_move_76 : decode cX7_move 76 = .ok (.getfield 24, 3) := by decide +kernel
theorem dX7_move_79 : decode cX7_move 79 = .ok (.aload_n 0, 1) := by decide +kernel
theorem dX7_move_80 : decode cX7_move 80 = .ok (.getfield 28, 3) := by decide +kernel
theorem dX7_move_83 : decode cX7_move 83 = .ok (.invokevirtual 162, 3) := by decide +kernel
theorem dX7_move_86 : decode cX7_move 86 = .ok (.aload_n 0, 1) := by decide +kernel
theorem dX7_move_87 : decode cX7_move 87 = .ok (.getfield 63, 3) := by decide +kernel
theorem dX7_move_90 : decode cX7_move 90 = .ok (.getfield 218, 3) := by decide +kernel
theorem dX7_move_93 : decode cX7_move 93 = .ok (.iload_n 1, 1) := by decide +kernel
theorem dX7_move_94 : decode cX7_move 94 = .ok (.aload_n 0, 1) := by decide +kernel
theorem dX7_move_95 : decode cX7_move 95 = .ok (.getfield 56, 3) := by decide +kernel
theorem dX7_move_98 : decode cX7_move 98 = .ok (.getfield 182, 3) := by decide +kernel
theorem dX7_move_101 : decode cX7_move 101 = .ok (.iastore, 1) := by decide +kernel
theorem dX7_move_102 : decode cX7_move 102 = .ok (.aload_n 0, 1) := by decide +kernel
theorem dX7_move_103 : decode cX7_move 103 = .ok (.aload_n 0, 1) := by decide +kernel
theorem dX7_move_104 : decode cX7_move 104 = .ok (.getfield 24, 3) := by decide +kernel
theorem dX7_move_107 : decode cX7_move 107 = .ok (.invokevirtual 221, 3) := by decide +kernel
theorem dX7_move_110 : decode cX7_move 110 = .ok (.istore 6, 2) := by decide +kernel
theorem dX7_move_112 : decode cX7_move 112 = .ok (.iload 6, 2) := by decide +kernel
theorem dX7_move_114 : decode cX7_move 114 = .ok (.iload 4, 2) := by decide +kernel
theorem dX7_move_116 : decode cX7_move 116 = .ok (.if_icmp .le 10, 3) := by decide +kernel
theorem dX7_move_119 : decode cX7_move 119 = .ok (.iload 6, 2) := by decide +kernel
theorem dX7_move_121 : decode cX7_move 121 = .ok (.istore 4, 2) := by decide +kernel
theorem dX7_move_123 : decode cX7_move 123 = .ok (.iload 5, 2) := by decide +kernel
theorem dX7_move_125 : decode cX7_move 125 = .ok (.istore_n 3, 1) := by decide +kernel
theorem dX7_move_126 : decode cX7_move 126 = .ok (.iinc 5 1, 3) := by decide +kernel
theorem dX7_move_129 : decode cX7_move 129 = .ok (.goto (-78), 3) := by decide +kernel
theorem dX7_move_132 : decode cX7_move 132 = .ok (.iload_n 2, 1) := by decide +kernel
theorem dX7_move_133 : decode cX7_move 133 = .ok (.ifCond .ne 7, 3) := by decide +kernel
theorem dX7_move_136 : decode cX7_move 136 = .ok (.iload_n 3, 1) := by decide +kernel
theorem dX7_move_137 : decode cX7_move 137 = .ok (.goto 5, 3) := by decide +kernel
theorem dX7_move_140 : decode cX7_move 140 = .ok (.iload 4, 2) := by decide +kernel
theorem dX7_move_142 : decode cX7_move 142 = .ok (.ireturn, 1) := by decide +kernel
theorem dX7_need_0 : decode cX7_need 0 = .ok (.iload_n 1, 1) := by decide +kernel
theorem dX7_need_1 : decode cX7_need 1 = .ok (.aload_n 0, 1) := by decide +kernel
theorem dX7_need_2 : decode cX7_need 2 = .ok (.getfield 24, 3) := by decide +kernel
theorem dX7_need_5 : decode cX7_need 5 = .ok (.getfield 140, 3) := by decide +kernel
theorem dX7_need_8 : decode cX7_need 8 = .ok (.invokestatic 89, 3) := by decide +kernel
theorem dX7_need_11 : decode cX7_need 11 = .ok (.ifCond .eq 16, 3) := by decide +kernel
theorem dX7_need_14 : decode cX7_need 14 = .ok (.iload_n 2, 1) := by decide +kernel
theorem dX7_need_15 : decode cX7_need 15 = .ok (.iconst (-1), 1) := by decide +kernel
theorem dX7_need_16 : decode cX7_need 16 = .ok (.if_icmp .eq 14, 3) := by decide +kernel
theorem dX7_need_19 : decode cX7_need 19 = .ok (.iload_n 2, 1) := by decide +kernel
theorem dX7_need_20 : decode cX7_need 20 = .ok (.iconst 2, 1) := by decide +kernel
theorem dX7_need_21 : decode cX7_need 21 = .ok (.invokestatic 89, 3) := by decide +kernel
theorem dX7_need_24 : decode cX7_need 24 = .ok (.ifCond .ne 6, 3) := by decide +kernel
theorem dX7_need_27 : decode cX7_need 27 = .ok (.bipush (-2), 2) := by decide +kernel
theorem dX7_need_29 : decode cX7_need 29 = .ok (.ireturn, 1) := by decide +kernel
theorem dX7_need_30 : decode cX7_need 30 = .ok (.aload_n 0, 1) := by decide +kernel
theorem dX7_need_31 : decode cX7_need 31 = .ok (.aload_n 0, 1) := by decide +kernel
theorem dX7_need_32 : decode cX7_need 32 = .ok (.getfield 24, 3) := by decide +kernel
theorem dX7_need_35 : decode cX7_need 35 = .ok (.invokevirtual 185, 3) := by decide +kernel
theorem dX7_need_38 : decode cX7_need 38 = .ok (.aload_n 0, 1) := by decide +kernel
theorem dX7_need_39 : decode cX7_need 39 = .ok (.getfield 63, 3) := by decide +kernel
theorem dX7_need_42 : decode cX7_need 42 = .ok (.iload_n 1, 1) := by decide +kernel
theorem dX7_need_43 : decode cX7_need 43 = .ok (.invokevirtual 189, 3) := by decide +kernel
theorem dX7_need_46 : decode cX7_need 46 = .ok (.istore_n 3, 1) := by decide +kernel
theorem dX7_need_47 : decode cX7_need 47 = .ok (.iconst 0, 1) := by decide +kernel
theorem dX7_need_48 : decode cX7_need 48 = .ok (.iload_n 3, 1) := by decide +kernel
theorem dX7_need_49 : decode cX7_need 49 = .ok (.invokestatic 192, 3) := by decide +kernel
theorem dX7_need_52 : decode cX7_need 52 = .ok (.aload_n 0, 1) := by decide +kernel
theorem dX7_need_53 : decode cX7_need 53 = .ok (.getfield 28, 3) := by decide +kernel
theorem dX7_need_56 : decode cX7_need 56 = .ok (.iconst 2, 1) := by decide +kernel
theorem dX7_need_57 : decode cX7_need 57 = .ok (.iaload, 1) := by decide +kernel
theorem dX7_need_58 : decode cX7_need 58 = .ok (.isub, 1) := by decide +kernel
theorem dX7_need_59 : decode cX7_need 59 = .ok (.iconst 1, 1) := by decide +kernel
theorem dX7_need_60 : decode cX7_need 60 = .ok (.iadd, 1) := by decide +kernel
theorem dX7_need_61 : decode cX7_need 61 = .ok (.invokestatic 197, 3) := by decide +kernel
theorem dX7_need_64 : decode cX7_need 64 = .ok (.istore 4, 2) := by decide +kernel
theorem dX7_need_66 : decode cX7_need 66 = .ok (.iload 4, 2) := by decide +kernel
theorem dX7_need_68 : decode cX7_need 68 = .ok (.iconst 2, 1) := by decide +kernel
theorem dX7_need_69 : decode cX7_need 69 = .ok (.if_icmp .le 5, 3) := by decide +kernel
theorem dX7_need_72 : decode cX7_need 72 = .ok (.iconst (-1), 1) := by decide +kernel
theorem dX7_need_73 : decode cX7_need 73 = .ok (.ireturn, 1) := by decide +kernel
theorem dX7_need_74 : decode cX7_need 74 = .ok (.iload_n 2, 1) := by decide +kernel
theorem dX7_need_75 : decode cX7_need 75 = .ok (.iconst (-1), 1) := by decide +kernel
theorem dX7_need_76 : decode cX7_need 76 = .ok (.if_icmp .ne 6, 3) := by decide +kernel
theorem dX7_need_79 : decode cX7_need 79 = .ok (.iload 4, 2) := by decide +kernel
theorem dX7_need_81 : decode cX7_need 81 = .ok (.ireturn, 1) := by decide +kernel
theorem dX7_need_82 : decode cX7_need 82 = .ok (.iload_n 2, 1) := by decide +kernel
theorem dX7_need_83 : decode cX7_need 83 = .ok (.iload 4, 2) := by decide +kernel
theorem dX7_need_85 : decode cX7_need 85 = .ok (.if_icmp .ge 11, 3) := by decide +kernel
theorem dX7_need_88 : decode cX7_need 88 = .ok (.iload_n 3, 1) := by decide +kernel
theorem dX7_need_89 : decode cX7_need 89 = .ok (.iload_n 2, 1) := by decide +kernel
theorem dX7_need_90 : decode cX7_need 90 = .ok (.invokestatic 224, 3) := by decide +kernel
theorem dX7_need_93 : decode cX7_need 93 = .ok (.goto 4, 3) := by decide +kernel
theorem dX7_need_96 : decode cX7_need 96 = .ok (.iconst (-1), 1) := by decide +kernel
theorem dX7_need_97 : decode cX7_need 97 = .ok (.ireturn, 1) := by decide +kernel
theorem dX7_bitOf_0 : decode cX7_bitOf 0 = .ok (.iload_n 1, 1) := by decide +kernel
theorem dX7_bitOf_1 : decode cX7_bitOf 1 = .ok (.istore_n 2, 1) := by decide +kernel
theorem dX7_bitOf_2 : decode cX7_bitOf 2 = .ok (.iconst 0, 1) := by decide +kernel
theorem dX7_bitOf_3 : decode cX7_bitOf 3 = .ok (.istore_n 3, 1) := by decide +kernel
theorem dX7_bitOf_4 : decode cX7_bitOf 4 = .ok (.iload_n 3, 1) := by decide +kernel
theorem dX7_bitOf_5 : decode cX7_bitOf 5 = .ok (.bipush 8, 2) := by decide +kernel
theorem dX7_bitOf_7 : decode cX7_bitOf 7 = .ok (.if_icmp .ge 26, 3) := by decide +kernel
theorem dX7_bitOf_10 : decode cX7_bitOf 10 = .ok (.iload_n 0, 1) := by decide +kernel
theorem dX7_bitOf_11 : decode cX7_bitOf 11 = .ok (.iload_n 3, 1) := by decide +kernel
theorem dX7_bitOf_12 : decode cX7_bitOf 12 = .ok (.ishr, 1) := by decide +kernel
theorem dX7_bitOf_13 : decode cX7_bitOf 13 = .ok (.iconst 1, 1) := by decide +kernel
theorem dX7_bitOf_14 : decode cX7_bitOf 14 = .ok (.iand, 1) := by decide +kernel
theorem dX7_bitOf_15 : decode cX7_bitOf 15 = .ok (.ifCond .eq 12, 3) := by decide +kernel
theorem dX7_bitOf_18 : decode cX7_bitOf 18 = .ok (.iload_n 2, 1) := by decide +kernel
theorem dX7_bitOf_19 : decode cX7_bitOf 19 = .ok (.ifCond .ne 5, 3) := by decide +kernel
theorem dX7_bitOf_22 : decode cX7_bitOf 22 = .ok (.iload_n 3, 1) := by decide +kernel
theorem dX7_bitOf_23 : decode cX7_bitOf 23 = .ok (.ireturn, 1) := by decide +kernel
theorem dX7_bitOf_24 : decode cX7_bitOf 24 = .ok (.iinc 2 (-1), 3) := by decide +kernel
theorem dX7_bitOf_27 : decode cX7_bitOf 27 = .ok (.iinc 3 1, 3) := by decide +kernel
theorem dX7_bitOf_30 : decode cX7_bitOf 30 = .ok (.goto (-26), 3) := by decide +kernel
theorem dX7_bitOf_33 : decode cX7_bitOf 33 = .ok (.iconst (-1), 1) := by decide +kernel
theorem dX7_bitOf_34 : decode cX7_bitOf 34 = .ok (.ireturn, 1) := by decide +kernel
theorem dX7_feed_0 : decode cX7_feed 0 = .ok (.iload_n 1, 1) := by decide +kernel
theorem dX7_feed_1 : decode cX7_feed 1 = .ok (.aload_n 0, 1) := by decide +kernel
theorem dX7_feed_2 : decode cX7_feed 2 = .ok (.getfield 118, 3) := by decide +kernel
theorem dX7_feed_5 : decode cX7_feed 5 = .ok (.invokestatic 89, 3) := by decide +kernel
theorem dX7_feed_8 : decode cX7_feed 8 = .ok (.ifCond .eq 11, 3) := by decide +kernel
theorem dX7_feed_11 : decode cX7_feed 11 = .ok (.iload_n 2, 1) := by decide +kernel
theorem dX7_feed_12 : decode cX7_feed 12 = .ok (.iconst 2, 1) := by decide +kernel
theorem dX7_feed_13 : decode cX7_feed 13 = .ok (.invokestatic 89, 3) := by decide +kernel
theorem dX7_feed_16 : decode cX7_feed 16 = .ok (.ifCond .ne 6, 3) := by decide +kernel
theorem dX7_feed_19 : decode cX7_feed 19 = .ok (.bipush (-2), 2) := by decide +kernel
theorem dX7_feed_21 : decode cX7_feed 21 = .ok (.ireturn, 1) := by decide +kernel
theorem dX7_feed_22 : decode cX7_feed 22 = .ok (.aload_n 0, 1) := by decide +kernel
theorem dX7_feed_23 : decode cX7_feed 23 = .ok (.getfield 46, 3) := by decide +kernel
theorem dX7_feed_26 : decode cX7_feed 26 = .ok (.aload_n 0, 1) := by decide +kernel
theorem dX7_feed_27 : decode cX7_feed 27 = .ok (.getfield 17, 3) := by decide +kernel
theorem dX7_feed_30 : decode cX7_feed 30 = .ok (.iload_n 1, 1) := by decide +kernel
theorem dX7_feed_31 : decode cX7_feed 31 = .ok (.aaload, 1) := by decide +kernel
theorem dX7_feed_32 : decode cX7_feed 32 = .ok (.invokevirtual 214, 3) := by decide +kernel
theorem dX7_feed_35 : decode cX7_feed 35 = .ok (.iconst 0, 1) := by decide +kernel
theorem dX7_feed_36 : decode cX7_feed 36 = .ok (.istore_n 3, 1) := by decide +kernel
theorem dX7_feed_37 : decode cX7_feed 37 = .ok (.iconst (-1), 1) := by decide +kernel
theorem dX7_feed_38 : decode cX7_feed 38 = .ok (.istore 4, 2) := by decide +kernel
theorem dX7_feed_40 : decode cX7_feed 40 = .ok (.iconst 0, 1) := by decide +kernel
theorem dX7_feed_41 : decode cX7_feed 41 = .ok (.istore 5, 2) := by decide +kernel
theorem dX7_feed_43 : decode cX7_feed 43 = .ok (.iload 5, 2) := by decide +kernel
theorem dX7_feed_45 : decode cX7_feed 45 = .ok (.iconst 4, 1) := by decide +kernel
theorem dX7_feed_46 : decode cX7_feed 46 = .ok (.if_icmp .ge 63, 3) := by decide +kernel
theorem dX7_feed_49 : decode cX7_feed 49 = .ok (.aload_n 0, 1) := by decide +kernel
theorem dX7_feed_50 : decode cX7_feed 50 = .ok (.getfield 46, 3) := by decide +kernel
theorem dX7_feed_53 : decode cX7_feed 53 = .ok (.iload 5, 2) := by decide +kernel
theorem dX7_feed_55 : decode cX7_feed 55 = .ok (.putfield 130, 3) := by decide +kernel
theorem dX7_feed_58 : decode cX7_feed 58 = .ok (.aload_n 0, 1) := by decide +kernel
theorem dX7_feed_59 : decode cX7_feed 59 = .ok (.getfield 56, 3) := by decide +kernel
theorem dX7_feed_62 : decode cX7_feed 62 = .ok (.aload_n 0, 1) := by decide +kernel
theorem dX7_feed_63 : decode cX7_feed 63 = .ok (.getfield 46, 3) := by decide +kernel
theorem dX7_feed_66 : decode cX7_feed 66 = .ok (.aload_n 0, 1) := by decide +kernel
theorem dX7_feed_67 : decode cX7_feed 67 = .ok (.getfield 24, 3) := by decide +kernel
theorem dX7_feed_70 : decode cX7_feed 70 = .ok (.aload_n 0, 1) := by decide +kernel
theorem dX7_feed_71 : decode cX7_feed 71 = .ok (.getfield 28, 3) := by decide +kernel
theorem dX7_feed_74 : decode cX7_feed 74 = .ok (.invokevirtual 162, 3) := by decide +kernel
theorem dX7_feed_77 : decode cX7_feed 77 = .ok (.aload_n 0, 1) := by decide +kernel
theorem dX7_feed_78 : decode cX7_feed 78 = .ok (.getfield 56, 3) := by decide +kernel
theorem dX7_feed_81 : decode cX7_feed 81 = .ok (.getfield 182, 3) := by decide +kernel
theorem dX7_feed_84 : decode cX7_feed 84 = .ok (.invokestatic 192, 3) := by decide +kernel
theorem dX7_feed_87 : decode cX7_feed 87 = .ok (.istore 6, 2) := by decide +kernel
theorem dX7_feed_89 : decode cX7_feed 89 = .ok (.iload 6, 2) := by decide +kernel
theorem dX7_feed_91 : decode cX7_feed 91 = .ok (.iload 4, 2) := by decide +kernel
theorem dX7_feed_93 : decode cX7_feed 93 = .ok (.if_icmp .le 10, 3) := by decide +kernel
theorem dX7_feed_96 : decode cX7_feed 96 = .ok (.iload 6, 2) := by decide +kernel
theorem dX7_feed_98 : decode cX7_feed 98 = .ok (.istore 4, 2) := by decide +kernel
theorem dX7_feed_100 : decode cX7_feed 100 = .ok (.iload 5, 2) := by decide +kernel
theorem dX7_feed_102 : decode cX7_feed 102 = .ok (.istore_n 3, 1) := by decide +kernel
theorem dX7_feed_103 : decode cX7_feed 103 = .ok (.iinc 5 1, 3) := by decide +kernel
theorem dX7_feed_106 : decode cX7_feed 106 = .ok (.goto (-63), 3) := by decide +kernel
theorem dX7_feed_109 : decode cX7_feed 109 = .ok (.iload_n 2, 1) := by decide +kernel
theorem dX7_feed_110 : decode cX7_feed 110 = .ok (.ifCond .ne 7, 3) := by decide +kernel
theorem dX7_feed_113 : decode cX7_feed 113 = .ok (.iload_n 3, 1) := by decide +kernel
theorem dX7_feed_114 : decode cX7_feed 114 = .ok (.goto 5, 3) := by decide +kernel
theorem dX7_feed_117 : decode cX7_feed 117 = .ok (.iload 4, 2) := by decide +kernel
theorem dX7_feed_119 : decode cX7_feed 119 = .ok (.ireturn, 1) := by decide +kernel
theorem dX7_told_0 : decode cX7_told 0 = .ok (.iload_n 1, 1) := by decide +kernel
theorem dX7_told_1 : decode cX7_told 1 = .ok (.iload_n 2, 1) := by decide +kernel
theorem dX7_told_2 : decode cX7_told 2 = .ok (.iload_n 3, 1) := by decide +kernel
theorem dX7_told_3 : decode cX7_told 3 = .ok (.invokestatic 227, 3) := by decide +kernel
theorem dX7_told_6 : decode cX7_told 6 = .ok (.ifCond .ne 6, 3) := by decide +kernel
theorem dX7_told_9 : decode cX7_told 9 = .ok (.bipush (-2), 2) := by decide +kernel
theorem dX7_told_11 : decode cX7_told 11 = .ok (.ireturn, 1) := by decide +kernel
theorem dX7_told_12 : decode cX7_told 12 = .ok (.aload_n 0, 1) := by decide +kernel
theorem dX7_told_13 : decode cX7_told 13 = .ok (.getfield 35, 3) := by decide +kernel
theorem dX7_told_16 : decode cX7_told 16 = .ok (.getfield 231, 3) := by decide +kernel
theorem dX7_told_19 : decode cX7_told 19 = .ok (.bipush 8, 2) := by decide +kernel
theorem dX7_told_21 : decode cX7_told 21 = .ok (.if_icmp .lt 6, 3) := by decide +kernel
theorem dX7_told_24 : decode cX7_told 24 = .ok (.bipush (-4), 2) := by decide +kernel
theorem dX7_told_26 : decode cX7_told 26 = .ok (.ireturn, 1) := by decide +kernel
theorem dX7_told_27 : decode cX7_told 27 = .ok (.aload_n 0, 1) := by decide +kernel
theorem dX7_told_28 : decode cX7_told 28 = .ok (.getfield 35, 3) := by decide +kernel
theorem dX7_told_31 : decode cX7_told 31 = .ok (.iload_n 1, 1) := by decide +kernel
theorem dX7_told_32 : decode cX7_told 32 = .ok (.iload_n 2, 1) := by decide +kernel
theorem dX7_told_33 : decode cX7_told 33 = .ok (.iload_n 3, 1) := by decide +kernel
theorem dX7_told_34 : decode cX7_told 34 = .ok (.invokevirtual 232, 3) := by decide +kernel
theorem dX7_told_37 : decode cX7_told 37 = .ok (.aload_n 0, 1) := by decide +kernel
theorem dX7_told_38 : decode cX7_told 38 = .ok (.getfield 35, 3) := by decide +kernel
theorem dX7_told_41 : decode cX7_told 41 = .ok (.getfield 231, 3) := by decide +kernel
theorem dX7_told_44 : decode cX7_told 44 = .ok (.ireturn, 1) := by decide +kernel
theorem dX7_forget_0 : decode cX7_forget 0 = .ok (.aload_n 0, 1) := by decide +kernel
theorem dX7_forget_1 : decode cX7_forget 1 = .ok (.getfield 35, 3) := by decide +kernel
theorem dX7_forget_4 : decode cX7_forget 4 = .ok (.getfield 231, 3) := by decide +kernel
theorem dX7_forget_7 : decode cX7_forget 7 = .ok (.istore_n 1, 1) := by decide +kernel
theorem dX7_forget_8 : decode cX7_forget 8 = .ok (.aload_n 0, 1) := by decide +kernel
theorem dX7_forget_9 : decode cX7_forget 9 = .ok (.getfield 35, 3) := by decide +kernel
theorem dX7_forget_12 : decode cX7_forget 12 = .ok (.iconst 0, 1) := by decide +kernel
theorem dX7_forget_13 : decode cX7_forget 13 = .ok (.putfield 231, 3) := by decide +kernel
theorem dX7_forget_16 : decode cX7_forget 16 = .ok (.iload_n 1, 1) := by decide +kernel
theorem dX7_forget_17 : decode cX7_forget 17 = .ok (.ireturn, 1) := by decide +kernel
theorem dX7_read_0 : decode cX7_read 0 = .ok (.iload_n 1, 1) := by decide +kernel
theorem dX7_read_1 : decode cX7_read 1 = .ok (.iconst 4, 1) := by decide +kernel
theorem dX7_read_2 : decode cX7_read 2 = .ok (.invokestatic 89, 3) := by decide +kernel
theorem dX7_read_5 : decode cX7_read 5 = .ok (.ifCond .ne 6, 3) := by decide +kernel
theorem dX7_read_8 : decode cX7_read 8 = .ok (.bipush (-2), 2) := by decide +kernel
theorem dX7_read_10 : decode cX7_read 10 = .ok (.ireturn, 1) := by decide +kernel
theorem dX7_read_11 : decode cX7_read 11 = .ok (.aload_n 0, 1) := by decide +kernel
theorem dX7_read_12 : decode cX7_read 12 = .ok (.getfield 41, 3) := by decide +kernel
theorem dX7_read_15 : decode cX7_read 15 = .ok (.iload_n 1, 1) := by decide +kernel
theorem dX7_read_16 : decode cX7_read 16 = .ok (.aaload, 1) := by decide +kernel
theorem dX7_read_17 : decode cX7_read 17 = .ok (.astore_n 2, 1) := by decide +kernel
theorem dX7_read_18 : decode cX7_read 18 = .ok (.aload_n 2, 1) := by decide +kernel
theorem dX7_read_19 : decode cX7_read 19 = .ok (.getfield 233, 3) := by decide +kernel
theorem dX7_read_22 : decode cX7_read 22 = .ok (.ifCond .eq 9, 3) := by decide +kernel
theorem dX7_read_25 : decode cX7_read 25 = .ok (.aload_n 0, 1) := by decide +kernel
theorem dX7_read_26 : decode cX7_read 26 = .ok (.iconst 1, 1) := by decide +kernel
theorem dX7_read_27 : decode cX7_read 27 = .ok (.invokevirtual 237, 3) := by decide +kernel
theorem dX7_read_30 : decode cX7_read 30 = .ok (.ireturn, 1) := by decide +kernel
theorem dX7_read_31 : decode cX7_read 31 = .ok (.aload_n 0, 1) := by decide +kernel
theorem dX7_read_32 : decode cX7_read 32 = .ok (.getfield 35, 3) := by decide +kernel
theorem dX7_read_35 : decode cX7_read 35 = .ok (.getfield 231, 3) := by decide +kernel
theorem dX7_read_38 : decode cX7_read 38 = .ok (.istore_n 3, 1) := by decide +kernel
theorem dX7_read_39 : decode cX7_read 39 = .ok (.iconst 0, 1) := by decide +kernel
theorem dX7_read_40 : decode cX7_read 40 = .ok (.istore 4, 2) := by decide +kernel
theorem dX7_read_42 : decode cX7_read 42 = .ok (.iload 4, 2) := by decide +kernel
theorem dX7_read_44 : decode cX7_read 44 = .ok (.iconst 2, 1) := by decide +kernel
theorem dX7_read_45 : decode cX7_read 45 = .ok (.iadd, 1) := by decide +kernel
theorem dX7_read_46 : decode cX7_read 46 = .ok (.aload_n 2, 1) := by decide +kernel
theorem dX7_read_47 : decode cX7_read 47 = .ok (.getfield 240, 3) := by decide +kernel
theorem dX7_read_50 : decode cX7_read 50 = .ok (.if_icmp .ge 87, 3) := by decide +kernel
theorem dX7_read_53 : decode cX7_read 53 = .ok (.aload_n 0, 1) := by decide +kernel
theorem dX7_read_54 : decode cX7_read 54 = .ok (.getfield 35, 3) := by decide +kernel
theorem dX7_read_57 : decode cX7_read 57 = .ok (.getfield 231, 3) := by decide +kernel
theorem dX7_read_60 : decode cX7_read 60 = .ok (.bipush 8, 2) := by decide +kernel
theorem dX7_read_62 : decode cX7_read 62 = .ok (.if_icmp .ge 75, 3) := by decide +kernel
theorem dX7_read_65 : decode cX7_read 65 = .ok (.aload_n 2, 1) := by decide +kernel
theorem dX7_read_66 : decode cX7_read 66 = .ok (.getfield 241, 3) := by decide +kernel
theorem dX7_read_69 : decode cX7_read 69 = .ok (.iload 4, 2) := by decide +kernel
theorem dX7_read_71 : decode cX7_read 71 = .ok (.iaload, 1) := by decide +kernel
theorem dX7_read_72 : decode cX7_read 72 = .ok (.aload_n 2, 1) := by decide +kernel
theorem dX7_read_73 : decode cX7_read 73 = .ok (.getfield 241, 3) := by decide +kernel
theorem dX7_read_76 : decode cX7_read 76 = .ok (.iload 4, 2) := by decide +kernel
theorem dX7_read_78 : decode cX7_read 78 = .ok (.iconst 1, 1) := by decide +kernel
theorem dX7_read_79 : decode cX7_read 79 = .ok (.iadd, 1) := by decide +kernel
theorem dX7_read_80 : decode cX7_read 80 = .ok (.iaload, 1) := by decide +kernel
theorem dX7_read_81 : decode cX7_read 81 = .ok (.aload_n 2, 1) := by decide +kernel
theorem dX7_read_82 : decode cX7_read 82 = .ok (.getfield 241, 3) := by decide +kernel
theorem dX7_read_85 : decode cX7_read 85 = .ok (.iload 4, 2) := by decide +kernel
theorem dX7_read_87 : decode cX7_read 87 = .ok (.iconst 2, 1) := by decide +kernel
theorem dX7_read_88 : decode cX7_read 88 = .ok (.iadd, 1) := by decide +kernel
theorem dX7_read_89 : decode cX7_read 89 = .ok (.iaload, 1) := by decide +kernel
theorem dX7_read_90 : decode cX7_read 90 = .ok (.invokestatic 227, 3) := by decide +kernel
theorem dX7_read_93 : decode cX7_read 93 = .ok (.ifCond .ne 6, 3) := by decide +kernel
theorem dX7_read_96 : decode cX7_read 96 = .ok (.goto 41, 3) := by decide +kernel
theorem dX7_read_99 : decode cX7_read 99 = .ok (.aload_n 0, 1) := by decide +kernel
theorem dX7_read_100 : decode cX7_read 100 = .ok (.getfield 35, 3) := by decide +kernel
theorem dX7_read_103 : decode cX7_read 103 = .ok (.aload_n 2, 1) := by decide +kernel
theorem dX7_read_104 : decode cX7_read 104 = .ok (.getfield 241, 3) := by decide +kernel
theorem dX7_read_107 : decode cX7_read 107 = .ok (.iload 4, 2) := by decide +kernel
theorem dX7_read_109 : decode cX7_read 109 = .ok (.iaload, 1) := by decide +kernel
theorem dX7_read_110 : decode cX7_read 110 = .ok (.aload_n 2, 1) := by decide +kernel
theorem dX7_read_111 : decode cX7_read 111 = .ok (.getfield 241, 3) := by decide +kernel
theorem dX7_read_114 : decode cX7_read 114 = .ok (.iload 4, 2) := by decide +kernel
theorem dX7_read_116 : decode cX7_read 116 = .ok (.iconst 1, 1) := by decide +kernel
theorem dX7_read_117 : decode cX7_read 117 = .ok (.iadd, 1) := by decide +kernel
theorem dX7_read_118 : decode cX7_read 118 = .ok (.iaload, 1) := by decide +kernel
theorem dX7_read_119 : decode cX7_read 119 = .ok (.aload_n 2, 1) := by decide +kernel
theorem dX7_read_120 : decode cX7_read 120 = .ok (.getfield 241, 3) := by decide +kernel
theorem dX7_read_123 : decode cX7_read 123 = .ok (.iload 4, 2) := by decide +kernel
theorem dX7_read_125 : decode cX7_read 125 = .ok (.iconst 2, 1) := by decide +kernel
theorem dX7_read_126 : decode cX7_read 126 = .ok (.iadd, 1) := by decide +kernel
theorem dX7_read_127 : decode cX7_read 127 = .ok (.iaload, 1) := by decide +kernel
theorem dX7_read_128 : decode cX7_read 128 = .ok (.invokevirtual 232, 3) := by decide +kernel
theorem dX7_read_131 : decode cX7_read 131 = .ok (.iinc 4 3, 3) := by decide +kernel
theorem dX7_read_134 : decode cX7_read 134 = .ok (.goto (-92), 3) := by decide +kernel
theorem dX7_read_137 : decode cX7_read 137 = .ok (.aload_n 0, 1) := by decide +kernel
theorem dX7_read_138 : decode cX7_read 138 = .ok (.getfield 35, 3) := by decide +kernel
theorem dX7_read_141 : decode cX7_read 141 = .ok (.getfield 231, 3) := by decide +kernel
theorem dX7_read_144 : decode cX7_read 144 = .ok (.iload_n 3, 1) := by decide +kernel
theorem dX7_read_145 : decode cX7_read 145 = .ok (.isub, 1) := by decide +kernel
theorem dX7_read_146 : decode cX7_read 146 = .ok (.ireturn, 1) := by decide +kernel
theorem dX7_comesOut_0 : decode cX7_comesOut 0 = .ok (.iconst 0, 1) := by decide +kernel
theorem dX7_comesOut_1 : decode cX7_comesOut 1 = .ok (.istore_n 1, 1) := by decide +kernel
theorem dX7_comesOut_2 : decode cX7_comesOut 2 = .ok (.iload_n 1, 1) := by decide +kernel
theorem dX7_comesOut_3 : decode cX7_comesOut 3 = .ok (.aload_n 0, 1) := by decide +kernel
theorem dX7_comesOut_4 : decode cX7_comesOut 4 = .ok (.getfield 35, 3) := by decide +kernel
theorem dX7_comesOut_7 : decode cX7_comesOut 7 = .ok (.getfield 231, 3) := by decide +kernel
theorem dX7_comesOut_10 : decode cX7_comesOut 10 = .ok (.if_icmp .ge 87, 3) := by decide +kernel
theorem dX7_comesOut_13 : decode cX7_comesOut 13 = .ok (.aload_n 0, 1) := by decide +kernel
theorem dX7_comesOut_14 : decode cX7_comesOut 14 = .ok (.getfield 35, 3) := by decide +kernel
theorem dX7_comesOut_17 : decode cX7_comesOut 17 = .ok (.getfield 244, 3) := by decide +kernel
theorem dX7_comesOut_20 : decode cX7_comesOut 20 = .ok (.iload_n 1, 1) := by decide +kernel
theorem dX7_comesOut_21 : decode cX7_comesOut 21 = .ok (.iaload, 1) := by decide +kernel
theorem dX7_comesOut_22 : decode cX7_comesOut 22 = .ok (.aload_n 0, 1) := by decide +kernel
theorem dX7_comesOut_23 : decode cX7_comesOut 23 = .ok (.getfield 118, 3) := by decide +kernel
theorem dX7_comesOut_26 : decode cX7_comesOut 26 = .ok (.if_icmp .lt 5, 3) := by decide +kernel
theorem dX7_comesOut_29 : decode cX7_comesOut 29 = .ok (.iconst 0, 1) := by decide +kernel
theorem dX7_comesOut_30 : decode cX7_comesOut 30 = .ok (.ireturn, 1) := by decide +kernel
theorem dX7_comesOut_31 : decode cX7_comesOut 31 = .ok (.aload_n 0, 1) := by decide +kernel
theorem dX7_comesOut_32 : decode cX7_comesOut 32 = .ok (.getfield 56, 3) := by decide +kernel
theorem dX7_comesOut_35 : decode cX7_comesOut 35 = .ok (.aload_n 0, 1) := by decide +kernel
theorem dX7_comesOut_36 : decode cX7_comesOut 36 = .ok (.getfield 17, 3) := by decide +kernel
theorem dX7_comesOut_39 : decode cX7_comesOut 39 = .ok (.aload_n 0, 1) := by decide +kernel
theorem dX7_comesOut_40 : decode cX7_comesOut 40 = .ok (.getfield 35, 3) := by decide +kernel
theorem dX7_comesOut_43 : decode cX7_comesOut 43 = .ok (.getfield 244, 3) := by decide +kernel
theorem dX7_comesOut_46 : decode cX7_comesOut 46 = .ok (.iload_n 1, 1) := by decide +kernel
theorem dX7_comesOut_47 : decode cX7_comesOut 47 = .ok (.iaload, 1) := by decide +kernel
theorem dX7_comesOut_48 : decode cX7_comesOut 48 = .ok (.aaload, 1) := by decide +kernel
theorem dX7_comesOut_49 : decode cX7_comesOut 49 = .ok (.aload_n 0, 1) := by decide +kernel
theorem dX7_comesOut_50 : decode cX7_comesOut 50 = .ok (.getfield 50, 3) := by decide +kernel
theorem dX7_comesOut_53 : decode cX7_comesOut 53 = .ok (.aload_n 0, 1) := by decide +kernel
theorem dX7_comesOut_54 : decode cX7_comesOut 54 = .ok (.getfield 28, 3) := by decide +kernel
