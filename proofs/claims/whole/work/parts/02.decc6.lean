theorem dX8_feignOf_141 : decode cX8_feignOf 141 = .ok (.lload 7, 2) := by decide +kernel
theorem dX8_feignOf_143 : decode cX8_feignOf 143 = .ok (.goto 4, 3) := by decide +kernel
theorem dX8_feignOf_146 : decode cX8_feignOf 146 = .ok (.lconst 0, 1) := by decide +kernel
theorem dX8_feignOf_147 : decode cX8_feignOf 147 = .ok (.ladd, 1) := by decide +kernel
theorem dX8_feignOf_148 : decode cX8_feignOf 148 = .ok (.lstore 4, 2) := by decide +kernel
theorem dX8_feignOf_150 : decode cX8_feignOf 150 = .ok (.iinc 6 1, 3) := by decide +kernel
theorem dX8_feignOf_153 : decode cX8_feignOf 153 = .ok (.goto (-111), 3) := by decide +kernel
theorem dX8_feignOf_156 : decode cX8_feignOf 156 = .ok (.iconst 0, 1) := by decide +kernel
theorem dX8_feignOf_157 : decode cX8_feignOf 157 = .ok (.istore 6, 2) := by decide +kernel
theorem dX8_feignOf_159 : decode cX8_feignOf 159 = .ok (.iload 6, 2) := by decide +kernel
theorem dX8_feignOf_161 : decode cX8_feignOf 161 = .ok (.aload_n 0, 1) := by decide +kernel
theorem dX8_feignOf_162 : decode cX8_feignOf 162 = .ok (.getfield 114, 3) := by decide +kernel
theorem dX8_feignOf_165 : decode cX8_feignOf 165 = .ok (.if_icmp .ge 23, 3) := by decide +kernel
theorem dX8_feignOf_168 : decode cX8_feignOf 168 = .ok (.aload_n 0, 1) := by decide +kernel
theorem dX8_feignOf_169 : decode cX8_feignOf 169 = .ok (.getfield 25, 3) := by decide +kernel
theorem dX8_feignOf_172 : decode cX8_feignOf 172 = .ok (.iload 6, 2) := by decide +kernel
theorem dX8_feignOf_174 : decode cX8_feignOf 174 = .ok (.aload_n 0, 1) := by decide +kernel
theorem dX8_feignOf_175 : decode cX8_feignOf 175 = .ok (.getfield 68, 3) := by decide +kernel
theorem dX8_feignOf_178 : decode cX8_feignOf 178 = .ok (.iload 6, 2) := by decide +kernel
theorem dX8_feignOf_180 : decode cX8_feignOf 180 = .ok (.iaload, 1) := by decide +kernel
theorem dX8_feignOf_181 : decode cX8_feignOf 181 = .ok (.iastore, 1) := by decide +kernel
theorem dX8_feignOf_182 : decode cX8_feignOf 182 = .ok (.iinc 6 1, 3) := by decide +kernel
theorem dX8_feignOf_185 : decode cX8_feignOf 185 = .ok (.goto (-26), 3) := by decide +kernel
theorem dX8_feignOf_188 : decode cX8_feignOf 188 = .ok (.lload 4, 2) := by decide +kernel
theorem dX8_feignOf_190 : decode cX8_feignOf 190 = .ok (.lconst 1, 1) := by decide +kernel
theorem dX8_feignOf_191 : decode cX8_feignOf 191 = .ok (.iconst 4, 1) := by decide +kernel
theorem dX8_feignOf_192 : decode cX8_feignOf 192 = .ok (.aload_n 0, 1) := by decide +kernel
theorem dX8_feignOf_193 : decode cX8_feignOf 193 = .ok (.getfield 114, 3) := by decide +kernel
theorem dX8_feignOf_196 : decode cX8_feignOf 196 = .ok (.imul, 1) := by decide +kernel
theorem dX8_feignOf_197 : decode cX8_feignOf 197 = .ok (.lshl, 1) := by decide +kernel
theorem dX8_feignOf_198 : decode cX8_feignOf 198 = .ok (.iload_n 3, 1) := by decide +kernel
theorem dX8_feignOf_199 : decode cX8_feignOf 199 = .ok (.invokestatic 263, 3) := by decide +kernel
theorem dX8_feignOf_202 : decode cX8_feignOf 202 = .ok (.lreturn, 1) := by decide +kernel
theorem dX8_feign_0 : decode cX8_feign 0 = .ok (.iload_n 1, 1) := by decide +kernel
theorem dX8_feign_1 : decode cX8_feign 1 = .ok (.iconst 0, 1) := by decide +kernel
theorem dX8_feign_2 : decode cX8_feign 2 = .ok (.bipush 16, 2) := by decide +kernel
theorem dX8_feign_4 : decode cX8_feign 4 = .ok (.invokestatic 98, 3) := by decide +kernel
theorem dX8_feign_7 : decode cX8_feign 7 = .ok (.ifCond .eq 30, 3) := by decide +kernel
theorem dX8_feign_10 : decode cX8_feign 10 = .ok (.aload_n 0, 1) := by decide +kernel
theorem dX8_feign_11 : decode cX8_feign 11 = .ok (.iload_n 2, 1) := by decide +kernel
theorem dX8_feign_12 : decode cX8_feign 12 = .ok (.invokevirtual 142, 3) := by decide +kernel
theorem dX8_feign_15 : decode cX8_feign 15 = .ok (.ifCond .eq 22, 3) := by decide +kernel
theorem dX8_feign_18 : decode cX8_feign 18 = .ok (.iload_n 3, 1) := by decide +kernel
theorem dX8_feign_19 : decode cX8_feign 19 = .ok (.iconst 0, 1) := by decide +kernel
theorem dX8_feign_20 : decode cX8_feign 20 = .ok (.iconst 1, 1) := by decide +kernel
theorem dX8_feign_21 : decode cX8_feign 21 = .ok (.invokestatic 98, 3) := by decide +kernel
theorem dX8_feign_24 : decode cX8_feign 24 = .ok (.ifCond .eq 13, 3) := by decide +kernel
theorem dX8_feign_27 : decode cX8_feign 27 = .ok (.aload_n 0, 1) := by decide +kernel
theorem dX8_feign_28 : decode cX8_feign 28 = .ok (.iload_n 1, 1) := by decide +kernel
theorem dX8_feign_29 : decode cX8_feign 29 = .ok (.iload_n 2, 1) := by decide +kernel
theorem dX8_feign_30 : decode cX8_feign 30 = .ok (.iload_n 3, 1) := by decide +kernel
theorem dX8_feign_31 : decode cX8_feign 31 = .ok (.invokevirtual 267, 3) := by decide +kernel
theorem dX8_feign_34 : decode cX8_feign 34 = .ok (.goto 8, 3) := by decide +kernel
theorem dX8_feign_37 : decode cX8_feign 37 = .ok (.bipush (-2), 2) := by decide +kernel
theorem dX8_feign_39 : decode cX8_feign 39 = .ok (.invokestatic 271, 3) := by decide +kernel
theorem dX8_feign_42 : decode cX8_feign 42 = .ok (.lreturn, 1) := by decide +kernel
theorem dX8_marksNow_0 : decode cX8_marksNow 0 = .ok (.iconst 0, 1) := by decide +kernel
theorem dX8_marksNow_1 : decode cX8_marksNow 1 = .ok (.istore_n 1, 1) := by decide +kernel
theorem dX8_marksNow_2 : decode cX8_marksNow 2 = .ok (.iconst 0, 1) := by decide +kernel
theorem dX8_marksNow_3 : decode cX8_marksNow 3 = .ok (.istore_n 2, 1) := by decide +kernel
theorem dX8_marksNow_4 : decode cX8_marksNow 4 = .ok (.iload_n 2, 1) := by decide +kernel
theorem dX8_marksNow_5 : decode cX8_marksNow 5 = .ok (.aload_n 0, 1) := by decide +kernel
theorem dX8_marksNow_6 : decode cX8_marksNow 6 = .ok (.getfield 114, 3) := by decide +kernel
theorem dX8_marksNow_9 : decode cX8_marksNow 9 = .ok (.if_icmp .ge 18, 3) := by decide +kernel
theorem dX8_marksNow_12 : decode cX8_marksNow 12 = .ok (.iload_n 1, 1) := by decide +kernel
theorem dX8_marksNow_13 : decode cX8_marksNow 13 = .ok (.aload_n 0, 1) := by decide +kernel
theorem dX8_marksNow_14 : decode cX8_marksNow 14 = .ok (.iload_n 2, 1) := by decide +kernel
theorem dX8_marksNow_15 : decode cX8_marksNow 15 = .ok (.iconst (-1), 1) := by decide +kernel
theorem dX8_marksNow_16 : decode cX8_marksNow 16 = .ok (.invokevirtual 247, 3) := by decide +kernel
theorem dX8_marksNow_19 : decode cX8_marksNow 19 = .ok (.iadd, 1) := by decide +kernel
theorem dX8_marksNow_20 : decode cX8_marksNow 20 = .ok (.istore_n 1, 1) := by decide +kernel
theorem dX8_marksNow_21 : decode cX8_marksNow 21 = .ok (.iinc 2 1, 3) := by decide +kernel
theorem dX8_marksNow_24 : decode cX8_marksNow 24 = .ok (.goto (-20), 3) := by decide +kernel
theorem dX8_marksNow_27 : decode cX8_marksNow 27 = .ok (.iload_n 1, 1) := by decide +kernel
theorem dX8_marksNow_28 : decode cX8_marksNow 28 = .ok (.ireturn, 1) := by decide +kernel
theorem dX8_courtOf_0 : decode cX8_courtOf 0 = .ok (.aload_n 0, 1) := by decide +kernel
theorem dX8_courtOf_1 : decode cX8_courtOf 1 = .ok (.invokevirtual 171, 3) := by decide +kernel
theorem dX8_courtOf_4 : decode cX8_courtOf 4 = .ok (.iload_n 1, 1) := by decide +kernel
theorem dX8_courtOf_5 : decode cX8_courtOf 5 = .ok (.istore 4, 2) := by decide +kernel
theorem dX8_courtOf_7 : decode cX8_courtOf 7 = .ok (.aload_n 0, 1) := by decide +kernel
theorem dX8_courtOf_8 : decode cX8_courtOf 8 = .ok (.iload_n 2, 1) := by decide +kernel
theorem dX8_courtOf_9 : decode cX8_courtOf 9 = .ok (.putfield 117, 3) := by decide +kernel
theorem dX8_courtOf_12 : decode cX8_courtOf 12 = .ok (.iconst 0, 1) := by decide +kernel
theorem dX8_courtOf_13 : decode cX8_courtOf 13 = .ok (.istore 5, 2) := by decide +kernel
theorem dX8_courtOf_15 : decode cX8_courtOf 15 = .ok (.iload 5, 2) := by decide +kernel
theorem dX8_courtOf_17 : decode cX8_courtOf 17 = .ok (.iload_n 2, 1) := by decide +kernel
theorem dX8_courtOf_18 : decode cX8_courtOf 18 = .ok (.if_icmp .ge 89, 3) := by decide +kernel
theorem dX8_courtOf_21 : decode cX8_courtOf 21 = .ok (.ldc_w 275, 3) := by decide +kernel
theorem dX8_courtOf_24 : decode cX8_courtOf 24 = .ok (.iload 4, 2) := by decide +kernel
theorem dX8_courtOf_26 : decode cX8_courtOf 26 = .ok (.imul, 1) := by decide +kernel
theorem dX8_courtOf_27 : decode cX8_courtOf 27 = .ok (.sipush 12345, 3) := by decide +kernel
theorem dX8_courtOf_30 : decode cX8_courtOf 30 = .ok (.iadd, 1) := by decide +kernel
theorem dX8_courtOf_31 : decode cX8_courtOf 31 = .ok (.istore 4, 2) := by decide +kernel
theorem dX8_courtOf_33 : decode cX8_courtOf 33 = .ok (.aload_n 0, 1) := by decide +kernel
theorem dX8_courtOf_34 : decode cX8_courtOf 34 = .ok (.getfield 28, 3) := by decide +kernel
theorem dX8_courtOf_37 : decode cX8_courtOf 37 = .ok (.iload 5, 2) := by decide +kernel
theorem dX8_courtOf_39 : decode cX8_courtOf 39 = .ok (.iload 4, 2) := by decide +kernel
theorem dX8_courtOf_41 : decode cX8_courtOf 41 = .ok (.bipush 16, 2) := by decide +kernel
theorem dX8_courtOf_43 : decode cX8_courtOf 43 = .ok (.iushr, 1) := by decide +kernel
theorem dX8_courtOf_44 : decode cX8_courtOf 44 = .ok (.bipush 50, 2) := by decide +kernel
theorem dX8_courtOf_46 : decode cX8_courtOf 46 = .ok (.irem, 1) := by decide +kernel
theorem dX8_courtOf_47 : decode cX8_courtOf 47 = .ok (.iastore, 1) := by decide +kernel
theorem dX8_courtOf_48 : decode cX8_courtOf 48 = .ok (.ldc_w 275, 3) := by decide +kernel
theorem dX8_courtOf_51 : decode cX8_courtOf 51 = .ok (.iload 4, 2) := by decide +kernel
theorem dX8_courtOf_53 : decode cX8_courtOf 53 = .ok (.imul, 1) := by decide +kernel
theorem dX8_courtOf_54 : decode cX8_courtOf 54 = .ok (.sipush 12345, 3) := by decide +kernel
theorem dX8_courtOf_57 : decode cX8_courtOf 57 = .ok (.iadd, 1) := by decide +kernel
theorem dX8_courtOf_58 : decode cX8_courtOf 58 = .ok (.istore 4, 2) := by decide +kernel
theorem dX8_courtOf_60 : decode cX8_courtOf 60 = .ok (.aload_n 0, 1) := by decide +kernel
theorem dX8_courtOf_61 : decode cX8_courtOf 61 = .ok (.getfield 31, 3) := by decide +kernel
theorem dX8_courtOf_64 : decode cX8_courtOf 64 = .ok (.iload 5, 2) := by decide +kernel
theorem dX8_courtOf_66 : decode cX8_courtOf 66 = .ok (.iload 4, 2) := by decide +kernel
theorem dX8_courtOf_68 : decode cX8_courtOf 68 = .ok (.bipush 16, 2) := by decide +kernel
theorem dX8_courtOf_70 : decode cX8_courtOf 70 = .ok (.iushr, 1) := by decide +kernel
theorem dX8_courtOf_71 : decode cX8_courtOf 71 = .ok (.bipush 10, 2) := by decide +kernel
theorem dX8_courtOf_73 : decode cX8_courtOf 73 = .ok (.irem, 1) := by decide +kernel
theorem dX8_courtOf_74 : decode cX8_courtOf 74 = .ok (.iastore, 1) := by decide +kernel
theorem dX8_courtOf_75 : decode cX8_courtOf 75 = .ok (.ldc_w 275, 3) := by decide +kernel
theorem dX8_courtOf_78 : decode cX8_courtOf 78 = .ok (.iload 4, 2) := by decide +kernel
theorem dX8_courtOf_80 : decode cX8_courtOf 80 = .ok (.imul, 1) := by decide +kernel
theorem dX8_courtOf_81 : decode cX8_courtOf 81 = .ok (.sipush 12345, 3) := by decide +kernel
theorem dX8_courtOf_84 : decode cX8_courtOf 84 = .ok (.iadd, 1) := by decide +kernel
theorem dX8_courtOf_85 : decode cX8_courtOf 85 = .ok (.istore 4, 2) := by decide +kernel
theorem dX8_courtOf_87 : decode cX8_courtOf 87 = .ok (.aload_n 0, 1) := by decide +kernel
theorem dX8_courtOf_88 : decode cX8_courtOf 88 = .ok (.getfield 34, 3) := by decide +kernel
theorem dX8_courtOf_91 : decode cX8_courtOf 91 = .ok (.iload 5, 2) := by decide +kernel
theorem dX8_courtOf_93 : decode cX8_courtOf 93 = .ok (.iload 4, 2) := by decide +kernel
theorem dX8_courtOf_95 : decode cX8_courtOf 95 = .ok (.bipush 16, 2) := by decide +kernel
theorem dX8_courtOf_97 : decode cX8_courtOf 97 = .ok (.iushr, 1) := by decide +kernel
theorem dX8_courtOf_98 : decode cX8_courtOf 98 = .ok (.iconst 4, 1) := by decide +kernel
theorem dX8_courtOf_99 : decode cX8_courtOf 99 = .ok (.irem, 1) := by decide +kernel
theorem dX8_courtOf_100 : decode cX8_courtOf 100 = .ok (.iastore, 1) := by decide +kernel
theorem dX8_courtOf_101 : decode cX8_courtOf 101 = .ok (.iinc 5 1, 3) := by decide +kernel
theorem dX8_courtOf_104 : decode cX8_courtOf 104 = .ok (.goto (-89), 3) := by decide +kernel
theorem dX8_courtOf_107 : decode cX8_courtOf 107 = .ok (.aload_n 0, 1) := by decide +kernel
theorem dX8_courtOf_108 : decode cX8_courtOf 108 = .ok (.invokevirtual 174, 3) := by decide +kernel
theorem dX8_courtOf_111 : decode cX8_courtOf 111 = .ok (.iload_n 3, 1) := by decide +kernel
theorem dX8_courtOf_112 : decode cX8_courtOf 112 = .ok (.ifCond .ne 10, 3) := by decide +kernel
theorem dX8_courtOf_115 : decode cX8_courtOf 115 = .ok (.aload_n 0, 1) := by decide +kernel
theorem dX8_courtOf_116 : decode cX8_courtOf 116 = .ok (.invokevirtual 217, 3) := by decide +kernel
theorem dX8_courtOf_119 : decode cX8_courtOf 119 = .ok (.goto 7, 3) := by decide +kernel
theorem dX8_courtOf_122 : decode cX8_courtOf 122 = .ok (.aload_n 0, 1) := by decide +kernel
theorem dX8_courtOf_123 : decode cX8_courtOf 123 = .ok (.invokevirtual 276, 3) := by decide +kernel
theorem dX8_courtOf_126 : decode cX8_courtOf 126 = .ok (.ireturn, 1) := by decide +kernel
theorem dX8_court_0 : decode cX8_court 0 = .ok (.iload_n 2, 1) := by decide +kernel
theorem dX8_court_1 : decode cX8_court 1 = .ok (.iconst 1, 1) := by decide +kernel
theorem dX8_court_2 : decode cX8_court 2 = .ok (.bipush 8, 2) := by decide +kernel
theorem dX8_court_4 : decode cX8_court 4 = .ok (.invokestatic 98, 3) := by decide +kernel
theorem dX8_court_7 : decode cX8_court 7 = .ok (.ifCond .eq 22, 3) := by decide +kernel
theorem dX8_court_10 : decode cX8_court 10 = .ok (.iload_n 3, 1) := by decide +kernel
theorem dX8_court_11 : decode cX8_court 11 = .ok (.iconst 0, 1) := by decide +kernel
theorem dX8_court_12 : decode cX8_court 12 = .ok (.iconst 1, 1) := by decide +kernel
theorem dX8_court_13 : decode cX8_court 13 = .ok (.invokestatic 98, 3) := by decide +kernel
theorem dX8_court_16 : decode cX8_court 16 = .ok (.ifCond .eq 13, 3) := by decide +kernel
theorem dX8_court_19 : decode cX8_court 19 = .ok (.aload_n 0, 1) := by decide +kernel
theorem dX8_court_20 : decode cX8_court 20 = .ok (.iload_n 1, 1) := by decide +kernel
theorem dX8_court_21 : decode cX8_court 21 = .ok (.iload_n 2, 1) := by decide +kernel
theorem dX8_court_22 : decode cX8_court 22 = .ok (.iload_n 3, 1) := by decide +kernel
theorem dX8_court_23 : decode cX8_court 23 = .ok (.invokevirtual 279, 3) := by decide +kernel
theorem dX8_court_26 : decode cX8_court 26 = .ok (.goto 5, 3) := by decide +kernel
theorem dX8_court_29 : decode cX8_court 29 = .ok (.bipush (-2), 2) := by decide +kernel
theorem dX8_court_31 : decode cX8_court 31 = .ok (.ireturn, 1) := by decide +kernel
theorem dX8_meets_0 : decode cX8_meets 0 = .ok (.aload_n 0, 1) := by decide +kernel
theorem dX8_meets_1 : decode cX8_meets 1 = .ok (.iload_n 1, 1) := by decide +kernel
theorem dX8_meets_2 : decode cX8_meets 2 = .ok (.putfield 282, 3) := by decide +kernel
theorem dX8_meets_5 : decode cX8_meets 5 = .ok (.bipush (-10), 2) := by decide +kernel
theorem dX8_meets_7 : decode cX8_meets 7 = .ok (.iload_n 1, 1) := by decide +kernel
theorem dX8_meets_8 : decode cX8_meets 8 = .ok (.isub, 1) := by decide +kernel
theorem dX8_meets_9 : decode cX8_meets 9 = .ok (.ireturn, 1) := by decide +kernel
theorem dX8_isSheet_0 : decode cX8_isSheet 0 = .ok (.iload_n 0, 1) := by decide +kernel
theorem dX8_isSheet_1 : decode cX8_isSheet 1 = .ok (.iconst 0, 1) := by decide +kernel
theorem dX8_isSheet_2 : decode cX8_isSheet 2 = .ok (.iconst 3, 1) := by decide +kernel
theorem dX8_isSheet_3 : decode cX8_isSheet 3 = .ok (.invokestatic 98, 3) := by decide +kernel
theorem dX8_isSheet_6 : decode cX8_isSheet 6 = .ok (.ireturn, 1) := by decide +kernel
theorem dX8_sheet_0 : decode cX8_sheet 0 = .ok (.iload_n 1, 1) := by decide +kernel
theorem dX8_sheet_1 : decode cX8_sheet 1 = .ok (.invokestatic 238, 3) := by decide +kernel
theorem dX8_sheet_4 : decode cX8_sheet 4 = .ok (.ifCond .eq 18, 3) := by decide +kernel
theorem dX8_sheet_7 : decode cX8_sheet 7 = .ok (.iload_n 2, 1) := by decide +kernel
theorem dX8_sheet_8 : decode cX8_sheet 8 = .ok (.iconst 0, 1) := by decide +kernel
theorem dX8_sheet_9 : decode cX8_sheet 9 = .ok (.iconst 2, 1) := by decide +kernel
theorem dX8_sheet_10 : decode cX8_sheet 10 = .ok (.invokestatic 98, 3) := by decide +kernel
theorem dX8_sheet_13 : decode cX8_sheet 13 = .ok (.ifCond .eq 9, 3) := by decide +kernel
theorem dX8_sheet_16 : decode cX8_sheet 16 = .ok (.iload_n 3, 1) := by decide +kernel
theorem dX8_sheet_17 : decode cX8_sheet 17 = .ok (.bipush 60, 2) := by decide +kernel
theorem dX8_sheet_19 : decode cX8_sheet 19 = .ok (.if_icmp .le 6, 3) := by decide +kernel
theorem dX8_sheet_22 : decode cX8_sheet 22 = .ok (.bipush (-2), 2) := by decide +kernel
theorem dX8_sheet_24 : decode cX8_sheet 24 = .ok (.ireturn, 1) := by decide +kernel
theorem dX8_sheet_25 : decode cX8_sheet 25 = .ok (.iload_n 3, 1) := by decide +kernel
theorem dX8_sheet_26 : decode cX8_sheet 26 = .ok (.ifCond .ge 9, 3) := by decide +kernel
theorem dX8_sheet_29 : decode cX8_sheet 29 = .ok (.aload_n 0, 1) := by decide +kernel
theorem dX8_sheet_30 : decode cX8_sheet 30 = .ok (.iconst 5, 1) := by decide +kernel
theorem dX8_sheet_31 : decode cX8_sheet 31 = .ok (.invokevirtual 241, 3) := by decide +kernel
theorem dX8_sheet_34 : decode cX8_sheet 34 = .ok (.ireturn, 1) := by decide +kernel
theorem dX8_sheet_35 : decode cX8_sheet 35 = .ok (.aload_n 0, 1) := by decide +kernel
theorem dX8_sheet_36 : decode cX8_sheet 36 = .ok (.getfield 71, 3) := by decide +kernel
theorem dX8_sheet_39 : decode cX8_sheet 39 = .ok (.iload_n 1, 1) := by decide +kernel
theorem dX8_sheet_40 : decode cX8_sheet 40 = .ok (.iconst 1, 1) := by decide +kernel
theorem dX8_sheet_41 : decode cX8_sheet 41 = .ok (.bastore, 1) := by decide +kernel
theorem dX8_sheet_42 : decode cX8_sheet 42 = .ok (.aload_n 0, 1) := by decide +kernel
theorem dX8_sheet_43 : decode cX8_sheet 43 = .ok (.getfield 74, 3) := by decide +kernel
theorem dX8_sheet_46 : decode cX8_sheet 46 = .ok (.iload_n 1, 1) := by decide +kernel
theorem dX8_sheet_47 : decode cX8_sheet 47 = .ok (.iload_n 2, 1) := by decide +kernel
theorem dX8_sheet_48 : decode cX8_sheet 48 = .ok (.iastore, 1) := by decide +kernel
theorem dX8_sheet_49 : decode cX8_sheet 49 = .ok (.aload_n 0, 1) := by decide +kernel
theorem dX8_sheet_50 : decode cX8_sheet 50 = .ok (.getfield 77, 3) := by decide +kernel
theorem dX8_sheet_53 : decode cX8_sheet 53 = .ok (.iload_n 1, 1) := by decide +kernel
theorem dX8_sheet_54 : decode cX8_sheet 54 = .ok (.iload_n 3, 1) := by decide +kernel
theorem dX8_sheet_55 : decode cX8_sheet 55 = .ok (.iastore, 1) := by decide +kernel
theorem dX8_sheet_56 : decode cX8_sheet 56 = .ok (.iconst 0, 1) := by decide +kernel
theorem dX8_sheet_57 : decode cX8_sheet 57 = .ok (.istore 4, 2) := by decide +kernel
theorem dX8_sheet_59 : decode cX8_sheet 59 = .ok (.iload 4, 2) := by decide +kernel
theorem dX8_sheet_61 : decode cX8_sheet 61 = .ok (.bipush 60, 2) := by decide +kernel
theorem dX8_sheet_63 : decode cX8_sheet 63 = .ok (.if_icmp .ge 22, 3) := by decide +kernel
theorem dX8_sheet_66 : decode cX8_sheet 66 = .ok (.aload_n 0, 1) := by decide +kernel
theorem dX8_sheet_67 : decode cX8_sheet 67 = .ok (.getfield 80, 3) := by decide +kernel
theorem dX8_sheet_70 : decode cX8_sheet 70 = .ok (.bipush 60, 2) := by decide +kernel
theorem dX8_sheet_72 : decode cX8_sheet 72 = .ok (.iload_n 1, 1) := by decide +kernel
theorem dX8_sheet_73 : decode cX8_sheet 73 = .ok (.imul, 1) := by decide +kernel
theorem dX8_sheet_74 : decode cX8_sheet 74 = .ok (.iload 4, 2) := by decide +kernel
theorem dX8_sheet_76 : decode cX8_sheet 76 = .ok (.iadd, 1) := by decide +kernel
theorem dX8_sheet_77 : decode cX8_sheet 77 = .ok (.iconst 0, 1) := by decide +kernel
theorem dX8_sheet_78 : decode cX8_sheet 78 = .ok (.iastore, 1) := by decide +kernel
theorem dX8_sheet_79 : decode cX8_sheet 79 = .ok (.iinc 4 1, 3) := by decide +kernel
theorem dX8_sheet_82 : decode cX8_sheet 82 = .ok (.goto (-23), 3) := by decide +kernel
theorem dX8_sheet_85 : decode cX8_sheet 85 = .ok (.iload_n 3, 1) := by decide +kernel
theorem dX8_sheet_86 : decode cX8_sheet 86 = .ok (.ireturn, 1) := by decide +kernel
theorem dX8_lose_0 : decode cX8_lose 0 = .ok (.iload_n 1, 1) := by decide +kernel
theorem dX8_lose_1 : decode cX8_lose 1 = .ok (.invokestatic 238, 3) := by decide +kernel
theorem dX8_lose_4 : decode cX8_lose 4 = .ok (.ifCond .ne 6, 3) := by decide +kernel
theorem dX8_lose_7 : decode cX8_lose 7 = .ok (.bipush (-2), 2) := by decide +kernel
theorem dX8_lose_9 : decode cX8_lose 9 = .ok (.ireturn, 1) := by decide +kernel
theorem dX8_lose_10 : decode cX8_lose 10 = .ok (.aload_n 0, 1) := by decide +kernel
theorem dX8_lose_11 : decode cX8_lose 11 = .ok (.getfield 71, 3) := by decide +kernel
theorem dX8_lose_14 : decode cX8_lose 14 = .ok (.iload_n 1, 1) := by decide +kernel
theorem dX8_lose_15 : decode cX8_lose 15 = .ok (.baload, 1) := by decide +kernel
theorem dX8_lose_16 : decode cX8_lose 16 = .ok (.ifCond .ne 9, 3) := by decide +kernel
theorem dX8_lose_19 : decode cX8_lose 19 = .ok (.aload_n 0, 1) := by decide +kernel
theorem dX8_lose_20 : decode cX8_lose 20 = .ok (.iconst 1, 1) := by decide +kernel
theorem dX8_lose_21 : decode cX8_lose 21 = .ok (.invokevirtual 241, 3) := by decide +kernel
theorem dX8_lose_24 : decode cX8_lose 24 = .ok (.ireturn, 1) := by decide +kernel
theorem dX8_lose_25 : decode cX8_lose 25 = .ok (.aload_n 0, 1) := by decide +kernel
theorem dX8_lose_26 : decode cX8_lose 26 = .ok (.getfield 71, 3) := by decide +kernel
theorem dX8_lose_29 : decode cX8_lose 29 = .ok (.iload_n 1, 1) := by decide +kernel
theorem dX8_lose_30 : decode cX8_lose 30 = .ok (.iconst 0, 1) := by decide +kernel
theorem dX8_lose_31 : decode cX8_lose 31 = .ok (.bastore, 1) := by decide +kernel
theorem dX8_lose_32 : decode cX8_lose 32 = .ok (.aload_n 0, 1) := by decide +kernel
theorem dX8_lose_33 : decode cX8_lose 33 = .ok (.getfield 77, 3) := by decide +kernel
theorem dX8_lose_36 : decode cX8_lose 36 = .ok (.iload_n 1, 1) := by decide +kernel
theorem dX8_lose_37 : decode cX8_lose 37 = .ok (.iaload, 1) := by decide +kernel
theorem dX8_lose_38 : decode cX8_lose 38 = .ok (.ireturn, 1) := by decide +kernel
theorem dX8_lacks_0 : decode cX8_lacks 0 = .ok (.aload_n 0, 1) := by decide +kernel
theorem dX8_lacks_1 : decode cX8_lacks 1 = .ok (.getfield 71, 3) := by decide +kernel
theorem dX8_lacks_4 : decode cX8_lacks 4 = .ok (.iload_n 1, 1) := by decide +kernel
theorem dX8_lacks_5 : decode cX8_lacks 5 = .ok (.baload, 1) := by decide +kernel
theorem dX8_lacks_6 : decode cX8_lacks 6 = .ok (.ifCond .ne 7, 3) := by decide +kernel
theorem dX8_lacks_9 : decode cX8_lacks 9 = .ok (.iconst 1, 1) := by decide +kernel
theorem dX8_lacks_10 : decode cX8_lacks 10 = .ok (.goto 38, 3) := by decide +kernel
theorem dX8_lacks_13 : decode cX8_lacks 13 = .ok (.aload_n 0, 1) := by decide +kernel
theorem dX8_lacks_14 : decode cX8_lacks 14 = .ok (.getfield 74, 3) := by decide +kernel
theorem dX8_lacks_17 : decode cX8_lacks 17 = .ok (.iload_n 1, 1) := by decide +kernel
theorem dX8_lacks_18 : decode cX8_lacks 18 = .ok (.iaload, 1) := by decide +kernel
theorem dX8_lacks_19 : decode cX8_lacks 19 = .ok (.iload_n 2, 1) := by decide +kernel
theorem dX8_lacks_20 : decode cX8_lacks 20 = .ok (.if_icmp .eq 7, 3) := by decide +kernel
theorem dX8_lacks_23 : decode cX8_lacks 23 = .ok (.iconst 3, 1) := by decide +kernel
theorem dX8_lacks_24 : decode cX8_lacks 24 = .ok (.goto 24, 3) := by decide +kernel
theorem dX8_lacks_27 : decode cX8_lacks 27 = .ok (.iload_n 3, 1) := by decide +kernel
theorem dX8_lacks_28 : decode cX8_lacks 28 = .ok (.iconst 0, 1) := by decide +kernel
theorem dX8_lacks_29 : decode cX8_lacks 29 = .ok (.aload_n 0, 1) := by decide +kernel
theorem dX8_lacks_30 : decode cX8_lacks 30 = .ok (.getfield 77, 3) := by decide +kernel
theorem dX8_lacks_33 : decode cX8_lacks 33 = .ok (.iload_n 1, 1) := by decide +kernel
theorem dX8_lacks_34 : decode cX8_lacks 34 = .ok (.iaload, 1) := by decide +kernel
theorem dX8_lacks_35 : decode cX8_lacks 35 = .ok (.iconst 1, 1) := by decide +kernel
theorem dX8_lacks_36 : decode cX8_lacks 36 = .ok (.isub, 1) := by decide +kernel
theorem dX8_lacks_37 : decode cX8_lacks 37 = .ok (.invokestatic 98, 3) := by decide +kernel
theorem dX8_lacks_40 : decode cX8_lacks 40 = .ok (.ifCond .eq 7, 3) := by decide +kernel
theorem dX8_lacks_43 : decode cX8_lacks 43 = .ok (.iconst 0, 1) := by decide +kernel
theorem dX8_lacks_44 : decode cX8_lacks 44 = .ok (.goto 4, 3) := by decide +kernel
theorem dX8_lacks_47 : decode cX8_lacks 47 = .ok (.iconst 2, 1) := by decide +kernel
theorem dX8_lacks_48 : decode cX8_lacks 48 = .ok (.ireturn, 1) := by decide +kernel
theorem dX8_keep_0 : decode cX8_keep 0 = .ok (.aload_n 0, 1) := by decide +kernel
theorem dX8_keep_1 : decode cX8_keep 1 = .ok (.getfield 80, 3) := by decide +kernel
theorem dX8_keep_4 : decode cX8_keep 4 = .ok (.bipush 60, 2) := by decide +kernel
theorem dX8_keep_6 : decode cX8_keep 6 = .ok (.iload_n 1, 1) := by decide +kernel
theorem dX8_keep_7 : decode cX8_keep 7 = .ok (.imul, 1) := by decide +kernel
theorem dX8_keep_8 : decode cX8_keep 8 = .ok (.iload_n 2, 1) := by decide +kernel
theorem dX8_keep_9 : decode cX8_keep 9 = .ok (.iadd, 1) := by decide +kernel
theorem dX8_keep_10 : decode cX8_keep 10 = .ok (.aload_n 0, 1) := by decide +kernel
theorem dX8_keep_11 : decode cX8_keep 11 = .ok (.getfield 74, 3) := by decide +kernel
theorem dX8_keep_14 : decode cX8_keep 14 = .ok (.iload_n 1, 1) := by decide +kernel
theorem dX8_keep_15 : decode cX8_keep 15 = .ok (.iaload, 1) := by decide +kernel
theorem dX8_keep_16 : decode cX8_keep 16 = .ok (.ifCond .ne 8, 3) := by decide +kernel
theorem dX8_keep_19 : decode cX8_keep 19 = .ok (.iload_n 3, 1) := by decide +kernel
theorem dX8_keep_20 : decode cX8_keep 20 = .ok (.i2b, 1) := by decide +kernel
theorem dX8_keep_21 : decode cX8_keep 21 = .ok (.goto 19, 3) := by decide +kernel
theorem dX8_keep_24 : decode cX8_keep 24 = .ok (.aload_n 0, 1) := by decide +kernel
theorem dX8_keep_25 : decode cX8_keep 25 = .ok (.getfield 74, 3) := by decide +kernel
theorem dX8_keep_28 : decode cX8_keep 28 = .ok (.iload_n 1, 1) := by decide +kernel
theorem dX8_keep_29 : decode cX8_keep 29 = .ok (.iaload, 1) := by decide +kernel
theorem dX8_keep_30 : decode cX8_keep 30 = .ok (.iconst 1, 1) := by decide +kernel
theorem dX8_keep_31 : decode cX8_keep 31 = .ok (.if_icmp .ne 8, 3) := by decide +kernel
theorem dX8_keep_34 : decode cX8_keep 34 = .ok (.iload_n 3, 1) := by decide +kernel
theorem dX8_keep_35 : decode cX8_keep 35 = .ok (.i2s, 1) := by decide +kernel
theorem dX8_keep_36 : decode cX8_keep 36 = .ok (.goto 4, 3) := by decide +kernel
theorem dX8_keep_39 : decode cX8_keep 39 = .ok (.iload_n 3, 1) := by decide +kernel
theorem dX8_keep_40 : decode cX8_keep 40 = .ok (.iastore, 1) := by decide +kernel
theorem dX8_keep_41 : decode cX8_keep 41 = .ok (.return_, 1) := by decide +kernel
theorem dX8_put_0 : decode cX8_put 0 = .ok (.iload_n 1, 1) := by decide +kernel
theorem dX8_put_1 : decode cX8_put 1 = .ok (.invokestatic 238, 3) := by decide +kernel
theorem dX8_put_4 : decode cX8_put 4 = .ok (.ifCond .eq 12, 3) := by decide +kernel
theorem dX8_put_7 : decode cX8_put 7 = .ok (.iload_n 2, 1) := by decide +kernel
theorem dX8_put_8 : decode cX8_put 8 = .ok (.iconst 0, 1) := by decide +kernel
theorem dX8_put_9 : decode cX8_put 9 = .ok (.iconst 2, 1) := by decide +kernel
theorem dX8_put_10 : decode cX8_put 10 = .ok (.invokestatic 98, 3) := by decide +kernel
theorem dX8_put_13 : decode cX8_put 13 = .ok (.ifCond .ne 6, 3) := by decide +kernel
theorem dX8_put_16 : decode cX8_put 16 = .ok (.bipush (-2), 2) := by decide +kernel
theorem dX8_put_18 : decode cX8_put 18 = .ok (.ireturn, 1) := by decide +kernel
theorem dX8_put_19 : decode cX8_put 19 = .ok (.aload_n 0, 1) := by decide +kernel
theorem dX8_put_20 : decode cX8_put 20 = .ok (.iload_n 1, 1) := by decide +kernel
theorem dX8_put_21 : decode cX8_put 21 = .ok (.iload_n 2, 1) := by decide +kernel
theorem dX8_put_22 : decode cX8_put 22 = .ok (.iload_n 3, 1) := by decide +kernel
theorem dX8_put_23 : decode cX8_put 23 = .ok (.invokevirtual 285, 3) := by decide +kernel
theorem dX8_put_26 : decode cX8_put 26 = .ok (.istore 5, 2) := by decide +kernel
theorem dX8_put_28 : decode cX8_put 28 = .ok (.iload 5, 2) := by decide +kernel
theorem dX8_put_30 : decode cX8_put 30 = .ok (.ifCond .le 10, 3) := by decide +kernel
theorem dX8_put_33 : decode cX8_put 33 = .ok (.aload_n 0, 1) := by decide +kernel
theorem dX8_put_34 : decode cX8_put 34 = .ok (.iload 5, 2) := by decide +kernel
theorem dX8_put_36 : decode cX8_put 36 = .ok (.invokevirtual 241, 3) := by decide +kernel
theorem dX8_put_39 : decode cX8_put 39 = .ok (.ireturn, 1) := by decide +kernel
theorem dX8_put_40 : decode cX8_put 40 = .ok (.aload_n 0, 1) := by decide +kernel
theorem dX8_put_41 : decode cX8_put 41 = .ok (.iload_n 1, 1) := by decide +kernel
theorem dX8_put_42 : decode cX8_put 42 = .ok (.iload_n 3, 1) := by decide +kernel
theorem dX8_put_43 : decode cX8_put 43 = .ok (.iload 4, 2) := by decide +kernel
theorem dX8_put_45 : decode cX8_put 45 = .ok (.invokevirtual 288, 3) := by decide +kernel
theorem dX8_put_48 : decode cX8_put 48 = .ok (.iconst 1, 1) := by decide +kernel
theorem dX8_put_49 : decode cX8_put 49 = .ok (.ireturn, 1) := by decide +kernel
theorem dX8_get_0 : decode cX8_get 0 = .ok (.iload_n 1, 1) := by decide +kernel
theorem dX8_get_1 : decode cX8_get 1 = .ok (.invokestatic 238, 3) := by decide +kernel
theorem dX8_get_4 : decode cX8_get 4 = .ok (.ifCond .eq 12, 3) := by decide +kernel
theorem dX8_get_7 : decode cX8_get 7 = .ok (.iload_n 2, 1) := by decide +kernel
theorem dX8_get_8 : decode cX8_get 8 = .ok (.iconst 0, 1) := by decide +kernel
theorem dX8_get_9 : decode cX8_get 9 = .ok (.iconst 2, 1) := by decide +kernel
theorem dX8_get_10 : decode cX8_get 10 = .ok (.invokestatic 98, 3) := by decide +kernel
theorem dX8_get_13 : decode cX8_get 13 = .ok (.ifCond .ne 7, 3) := by decide +kernel
theorem dX8_get_16 : decode cX8_get 16 = .ok (.ldc_w 292, 3) := by decide +kernel
theorem dX8_get_19 : decode cX8_get 19 = .ok (.ireturn, 1) := by decide +kernel
theorem dX8_get_20 : decode cX8_get 20 = .ok (.aload_n 0, 1) := by decide +kernel
theorem dX8_get_21 : decode cX8_get 21 = .ok (.iload_n 1, 1) := by decide +kernel
theorem dX8_get_22 : decode cX8_get 22 = .ok (.iload_n 2, 1) := by decide +kernel
theorem dX8_get_23 : decode cX8_get 23 = .ok (.iload_n 3, 1) := by decide +kernel
theorem dX8_get_24 : decode cX8_get 24 = .ok (.invokevirtual 285, 3) := by decide +kernel
theorem dX8_get_27 : decode cX8_get 27 = .ok (.istore 4, 2) := by decide +kernel
theorem dX8_get_29 : decode cX8_get 29 = .ok (.iload 4, 2) := by decide +kernel
theorem dX8_get_31 : decode cX8_get 31 = .ok (.ifCond .le 13, 3) := by decide +kernel
theorem dX8_get_34 : decode cX8_get 34 = .ok (.aload_n 0, 1) := by decide +kernel
theorem dX8_get_35 : decode cX8_get 35 = .ok (.iload 4, 2) := by decide +kernel
theorem dX8_get_37 : decode cX8_get 37 = .ok (.putfield 282, 3) := by decide +kernel
theorem dX8_get_40 : decode cX8_get 40 = .ok (.ldc_w 292, 3) := by decide +kernel
theorem dX8_get_43 : decode cX8_get 43 = .ok (.ireturn, 1) := by decide +kernel
theorem dX8_get_44 : decode cX8_get 44 = .ok (.aload_n 0, 1) := by decide +kernel
theorem dX8_get_45 : decode cX8_get 45 = .ok (.getfield 80, 3) := by decide +kernel
theorem dX8_get_48 : decode cX8_get 48 = .ok (.bipush 60, 2) := by decide +kernel
theorem dX8_get_50 : decode cX8_get 50 = .ok (.iload_n 1, 1) := by decide +kernel
theorem dX8_get_51 : decode cX8_get 51 = .ok (.imul, 1) := by decide +kernel
theorem dX8_get_52 : decode cX8_get 52 = .ok (.iload_n 3, 1) := by decide +kernel
theorem dX8_get_53 : decode cX8_get 53 = .ok (.iadd, 1) := by decide +kernel
theorem dX8_get_54 : decode cX8_get 54 = .ok (.iaload, 1) := by decide +kernel
theorem dX8_get_55 : decode cX8_get 55 = .ok (.ireturn, 1) := by decide +kernel
theorem dX8_copy_0 : decode cX8_copy 0 = .ok (.iload_n 1, 1) := by decide +kernel
theorem dX8_copy_1 : decode cX8_copy 1 = .ok (.invokestatic 238, 3) := by decide +kernel
theorem dX8_copy_4 : decode cX8_copy 4 = .ok (.ifCond .eq 10, 3) := by decide +kernel
theorem dX8_copy_7 : decode cX8_copy 7 = .ok (.iload_n 3, 1) := by decide +kernel
theorem dX8_copy_8 : decode cX8_copy 8 = .ok (.invokestatic 238, 3) := by decide +kernel
theorem dX8_copy_11 : decode cX8_copy 11 = .ok (.ifCond .ne 6, 3) := by decide +kernel
theorem dX8_copy_14 : decode cX8_copy 14 = .ok (.bipush (-2), 2) := by decide +kernel
theorem dX8_copy_16 : decode cX8_copy 16 = .ok (.ireturn, 1) := by decide +kernel
theorem dX8_copy_17 : decode cX8_copy 17 = .ok (.aload_n 0, 1) := by decide +kernel
theorem dX8_copy_18 : decode cX8_copy 18 = .ok (.getfield 71, 3) := by decide +kernel
theorem dX8_copy_21 : decode cX8_copy 21 = .ok (.iload_n 1, 1) := by decide +kernel
theorem dX8_copy_22 : decode cX8_copy 22 = .ok (.baload, 1) := by decide +kernel
theorem dX8_copy_23 : decode cX8_copy 23 = .ok (.ifCond .eq 12, 3) := by decide +kernel
theorem dX8_copy_26 : decode cX8_copy 26 = .ok (.aload_n 0, 1) := by decide +kernel
theorem dX8_copy_27 : decode cX8_copy 27 = .ok (.getfield 71, 3) := by decide +kernel
theorem dX8_copy_30 : decode cX8_copy 30 = .ok (.iload_n 3, 1) := by decide +kernel
theorem dX8_copy_31 : decode cX8_copy 31 = .ok (.baload, 1) := by decide +kernel
theorem dX8_copy_32 : decode cX8_copy 32 = .ok (.ifCond .ne 9, 3) := by decide +kernel
theorem dX8_copy_35 : decode cX8_copy 35 = .ok (.aload_n 0, 1) := by decide +kernel
theorem dX8_copy_36 : decode cX8_copy 36 = .ok (.iconst 1, 1) := by decide +kernel
theorem dX8_copy_37 : decode cX8_copy 37 = .ok (.invokevirtual 241, 3) := by decide +kernel
theorem dX8_copy_40 : decode cX8_copy 40 = .ok (.ireturn, 1) := by decide +kernel
theorem dX8_copy_41 : decode cX8_copy 41 = .ok (.aload_n 0, 1) := by decide +kernel
theorem dX8_copy_42 : decode cX8_copy 42 = .ok (.getfield 74, 3) := by decide +kernel
theorem dX8_copy_45 : decode cX8_copy 45 = .ok (.iload_n 1, 1) := by decide +kernel
theorem dX8_copy_46 : decode cX8_copy 46 = .ok (.iaload, 1) := by decide +kernel
theorem dX8_copy_47 : decode cX8_copy 47 = .ok (.aload_n 0, 1) := by decide +kernel
theorem dX8_copy_48 : decode cX8_copy 48 = .ok (.getfield 74, 3) := by decide +kernel
theorem dX8_copy_51 : decode cX8_copy 51 = .ok (.iload_n 3, 1) := by decide +kernel
theorem dX8_copy_52 : decode cX8_copy 52 = .ok (.iaload, 1) := by decide +kernel
theorem dX8_copy_53 : decode cX8_copy 53 = .ok (.if_icmp .eq 9, 3) := by decide +kernel
theorem dX8_copy_56 : decode cX8_copy 56 = .ok (.aload_n 0, 1) := by decide +kernel
theorem dX8_copy_57 : decode cX8_copy 57 = .ok (.iconst 4, 1) := by decide +kernel
theorem dX8_copy_58 : decode cX8_copy 58 = .ok (.invokevirtual 241, 3) := by decide +kernel
theorem dX8_copy_61 : decode cX8_copy 61 = .ok (.ireturn, 1) := by decide +kernel
theorem dX8_copy_62 : decode cX8_copy 62 = .ok (.iload_n 2, 1) := by decide +kernel
theorem dX8_copy_63 : decode cX8_copy 63 = .ok (.ifCond .lt 48, 3) := by decide +kernel
theorem dX8_copy_66 : decode cX8_copy 66 = .ok (.iload 4, 2) := by decide +kernel
theorem dX8_copy_68 : decode cX8_copy 68 = .ok (.ifCond .lt 43, 3) := by decide +kernel
theorem dX8_copy_71 : decode cX8_copy 71 = .ok (.iload 5, 2) := by decide +kernel
theorem dX8_copy_73 : decode cX8_copy 73 = .ok (.ifCond .lt 38, 3) := by decide +kernel
theorem dX8_copy_76 : decode cX8_copy 76 = .ok (.iload_n 2, 1) := by decide +kernel
theorem dX8_copy_77 : decode cX8_copy 77 = .ok (.i2l, 1) := by decide +kernel
theorem dX8_copy_78 : decode cX8_copy 78 = .ok (.iload 5, 2) := by decide +kernel
theorem dX8_copy_80 : decode cX8_copy 80 = .ok (.i2l, 1) := by decide +kernel
theorem dX8_copy_81 : decode cX8_copy 81 = .ok (.ladd, 1) := by decide +kernel
theorem dX8_copy_82 : decode cX8_copy 82 = .ok (.aload_n 0, 1) := by decide +kernel
theorem dX8_copy_83 : decode cX8_copy 83 = .ok (.getfield 77, 3) := by decide +kernel
theorem dX8_copy_86 : decode cX8_copy 86 = .ok (.iload_n 1, 1) := by decide +kernel
theorem dX8_copy_87 : decode cX8_copy 87 = .ok (.iaload, 1) := by decide +kernel
theorem dX8_copy_88 : decode cX8_copy 88 = .ok (.i2l, 1) := by decide +kernel
theorem dX8_copy_89 : decode cX8_copy 89 = .ok (.lcmp, 1) := by decide +kernel
theorem dX8_copy_90 : decode cX8_copy 90 = .ok (.ifCond .gt 21, 3) := by decide +kernel
theorem dX8_copy_93 : decode cX8_copy 93 = .ok (.iload 4, 2) := by decide +kernel
theorem dX8_copy_95 : decode cX8_copy 95 = .ok (.i2l, 1) := by decide +kernel
theorem dX8_copy_96 : decode cX8_copy 96 = .ok (.iload 5, 2) := by decide +kernel
theorem dX8_copy_98 : decode cX8_copy 98 = .ok (.i2l, 1) := by decide +kernel
theorem dX8_copy_99 : decode cX8_copy 99 = .ok (.ladd, 1) := by decide +kernel
theorem dX8_copy_100 : decode cX8_copy 100 = .ok (.aload_n 0, 1) := by decide +kernel
theorem dX8_copy_101 : decode cX8_copy 101 = .ok (.getfield 77, 3) := by decide +kernel
theorem dX8_copy_104 : decode cX8_copy 104 = .ok (.iload_n 3, 1) := by decide +kernel
theorem dX8_copy_105 : decode cX8_copy 105 = .ok (.iaload, 1) := by decide +kernel
theorem dX8_copy_106 : decode cX8_copy 106 = .ok (.i2l, 1) := by decide +kernel
theorem dX8_copy_107 : decode cX8_copy 107 = .ok (.lcmp, 1) := by decide +kernel
theorem dX8_copy_108 : decode cX8_copy 108 = .ok (.ifCond .le 9, 3) := by decide +kernel
theorem dX8_copy_111 : decode cX8_copy 111 = .ok (.aload_n 0, 1) := by decide +kernel
theorem dX8_copy_112 : decode cX8_copy 112 = .ok (.iconst 2, 1) := by decide +kernel
theorem dX8_copy_113 : decode cX8_copy 113 = .ok (.invokevirtual 241, 3) := by decide +kernel
theorem dX8_copy_116 : decode cX8_copy 116 = .ok (.ireturn, 1) := by decide +kernel
theorem dX8_copy_117 : decode cX8_copy 117 = .ok (.iconst 0, 1) := by decide +kernel
theorem dX8_copy_118 : decode cX8_copy 118 = .ok (.istore 6, 2) := by decide +kernel
theorem dX8_copy_120 : decode cX8_copy 120 = .ok (.iload 6, 2) := by decide +kernel
theorem dX8_copy_122 : decode cX8_copy 122 = .ok (.iload 5, 2) := by decide +kernel
theorem dX8_copy_124 : decode cX8_copy 124 = .ok (.if_icmp .ge 30, 3) := by decide +kernel
theorem dX8_copy_127 : decode cX8_copy 127 = .ok (.aload_n 0, 1) := by decide +kernel
theorem dX8_copy_128 : decode cX8_copy 128 = .ok (.getfield 83, 3) := by decide +kernel
theorem dX8_copy_131 : decode cX8_copy 131 = .ok (.iload 6, 2) := by decide +kernel
theorem dX8_copy_133 : decode cX8_copy 133 = .ok (.aload_n 0, 1) := by decide +kernel
theorem dX8_copy_134 : decode cX8_copy 134 = .ok (.getfield 80, 3) := by decide +kernel
theorem dX8_copy_137 : decode cX8_copy 137 = .ok (.bipush 60, 2) := by decide +kernel
theorem dX8_copy_139 : decode cX8_copy 139 = .ok (.iload_n 1, 1) := by decide +kernel
theorem dX8_copy_140 : decode cX8_copy 140 = .ok (.imul, 1) := by decide +kernel
theorem dX8_copy_141 : decode cX8_copy 141 = .ok (.iload_n 2, 1) := by decide +kernel
theorem dX8_copy_142 : decode cX8_copy 142 = .ok (.iadd, 1) := by decide +kernel
theorem dX8_copy_143 : decode cX8_copy 143 = .ok (.iload 6, 2) := by decide +kernel
theorem dX8_copy_145 : decode cX8_copy 145 = .ok (.iadd, 1) := by decide +kernel
theorem dX8_copy_146 : decode cX8_copy 146 = .ok (.iaload, 1) := by decide +kernel
theorem dX8_copy_147 : decode cX8_copy 147 = .ok (.iastore, 1) := by decide +kernel
theorem dX8_copy_148 : decode cX8_copy 148 = .ok (.iinc 6 1, 3) := by decide +kernel
theorem dX8_copy_151 : decode cX8_copy 151 = .ok (.goto (-31), 3) := by decide +kernel
theorem dX8_copy_154 : decode cX8_copy 154 = .ok (.iconst 0, 1) := by decide +kernel
theorem dX8_copy_155 : decode cX8_copy 155 = .ok (.istore 6, 2) := by decide +kernel
theorem dX8_copy_157 : decode cX8_copy 157 = .ok (.iload 6, 2) := by decide +kernel
theorem dX8_copy_159 : decode cX8_copy 159 = .ok (.iload 5, 2) := by decide +kernel
theorem dX8_copy_161 : decode cX8_copy 161 = .ok (.if_icmp .ge 31, 3) := by decide +kernel
theorem dX8_copy_164 : decode cX8_copy 164 = .ok (.aload_n 0, 1) := by decide +kernel
theorem dX8_copy_165 : decode cX8_copy 165 = .ok (.getfield 80, 3) := by decide +kernel
theorem dX8_copy_168 : decode cX8_copy 168 = .ok (.bipush 60, 2) := by decide +kernel
theorem dX8_copy_170 : decode cX8_copy 170 = .ok (.iload_n 3, 1) := by decide +kernel
theorem dX8_copy_171 : decode cX8_copy 171 = .ok (.imul, 1) := by decide +kernel
theorem dX8_copy_172 : decode cX8_copy 172 = .ok (.iload 4, 2) := by decide +kernel
theorem dX8_copy_174 : decode cX8_copy 174 = .ok (.iadd, 1) := by decide +kernel
theorem dX8_copy_175 : decode cX8_copy 175 = .ok (.iload 6, 2) := by decide +kernel
theorem dX8_copy_177 : decode cX8_copy 177 = .ok (.iadd, 1) := by decide +kernel
theorem dX8_copy_178 : decode cX8_copy 178 = .ok (.aload_n 0, 1) := by decide +kernel
theorem dX8_copy_179 : decode cX8_copy 179 = .ok (.getfield 83, 3) := by decide +kernel
theorem dX8_copy_182 : decode cX8_copy 182 = .ok (.iload 6, 2) := by decide +kernel
theorem dX8_copy_184 : decode cX8_copy 184 = .ok (.iaload, 1) := by decide +kernel
theorem dX8_copy_185 : decode cX8_copy 185 = .ok (.iastore, 1) := by decide +kernel
theorem dX8_copy_186 : decode cX8_copy 186 = .ok (.iinc 6 1, 3) := by decide +kernel
theorem dX8_copy_189 : decode cX8_copy 189 = .ok (.goto (-32), 3) := by decide +kernel
theorem dX8_copy_192 : decode cX8_copy 192 = .ok (.iconst 1, 1) := by decide +kernel
theorem dX8_copy_193 : decode cX8_copy 193 = .ok (.ireturn, 1) := by decide +kernel
theorem dX8_write_0 : decode cX8_write 0 = .ok (.aload_n 0, 1) := by decide +kernel
theorem dX8_write_1 : decode cX8_write 1 = .ok (.iload_n 1, 1) := by decide +kernel
theorem dX8_write_2 : decode cX8_write 2 = .ok (.invokevirtual 136, 3) := by decide +kernel
theorem dX8_write_5 : decode cX8_write 5 = .ok (.ifCond .eq 10, 3) := by decide +kernel
theorem dX8_write_8 : decode cX8_write 8 = .ok (.iload_n 2, 1) := by decide +kernel
theorem dX8_write_9 : decode cX8_write 9 = .ok (.invokestatic 238, 3) := by decide +kernel
theorem dX8_write_12 : decode cX8_write 12 = .ok (.ifCond .ne 6, 3) := by decide +kernel
theorem dX8_write_15 : decode cX8_write 15 = .ok (.bipush (-2), 2) := by decide +kernel
theorem dX8_write_17 : decode cX8_write 17 = .ok (.ireturn, 1) := by decide +kernel
theorem dX8_write_18 : decode cX8_write 18 = .ok (.aload_n 0, 1) := by decide +kernel
theorem dX8_write_19 : decode cX8_write 19 = .ok (.getfield 71, 3) := by decide +kernel
theorem dX8_write_22 : decode cX8_write 22 = .ok (.iload_n 2, 1) := by decide +kernel
theorem dX8_write_23 : decode cX8_write 23 = .ok (.baload, 1) := by decide +kernel
theorem dX8_write_24 : decode cX8_write 24 = .ok (.ifCond .ne 9, 3) := by decide +kernel
theorem dX8_write_27 : decode cX8_write 27 = .ok (.aload_n 0, 1) := by decide +kernel
theorem dX8_write_28 : decode cX8_write 28 = .ok (.iconst 1, 1) := by decide +kernel
theorem dX8_write_29 : decode cX8_write 29 = .ok (.invokevirtual 241, 3) := by decide +kernel
theorem dX8_write_32 : decode cX8_write 32 = .ok (.ireturn, 1) := by decide +kernel
theorem dX8_write_33 : decode cX8_write 33 = .ok (.iconst 0, 1) := by decide +kernel
theorem dX8_write_34 : decode cX8_write 34 = .ok (.istore_n 3, 1) := by decide +kernel
theorem dX8_write_35 : decode cX8_write 35 = .ok (.iload_n 3, 1) := by decide +kernel
theorem dX8_write_36 : decode cX8_write 36 = .ok (.aload_n 0, 1) := by decide +kernel
theorem dX8_write_37 : decode cX8_write 37 = .ok (.getfield 77, 3) := by decide +kernel
theorem dX8_write_40 : decode cX8_write 40 = .ok (.iload_n 2, 1) := by decide +kernel
theorem dX8_write_41 : decode cX8_write 41 = .ok (.iaload, 1) := by decide +kernel
theorem dX8_write_42 : decode cX8_write 42 = .ok (.if_icmp .ge 27, 3) := by decide +kernel
theorem dX8_write_45 : decode cX8_write 45 = .ok (.iload_n 3, 1) := by decide +kernel
theorem dX8_write_46 : decode cX8_write 46 = .ok (.bipush 50, 2) := by decide +kernel
theorem dX8_write_48 : decode cX8_write 48 = .ok (.if_icmp .ge 21, 3) := by decide +kernel
theorem dX8_write_51 : decode cX8_write 51 = .ok (.aload_n 0, 1) := by decide +kernel
theorem dX8_write_52 : decode cX8_write 52 = .ok (.iload_n 2, 1) := by decide +kernel
theorem dX8_write_53 : decode cX8_write 53 = .ok (.iload_n 3, 1) := by decide +kernel
theorem dX8_write_54 : decode cX8_write 54 = .ok (.aload_n 0, 1) := by decide +kernel
theorem dX8_write_55 : decode cX8_write 55 = .ok (.iload_n 3, 1) := by decide +kernel
theorem dX8_write_56 : decode cX8_write 56 = .ok (.iload_n 1, 1) := by decide +kernel
theorem dX8_write_57 : decode cX8_write 57 = .ok (.invokevirtual 183, 3) := by decide +kernel
theorem dX8_write_60 : decode cX8_write 60 = .ok (.invokevirtual 288, 3) := by decide +kernel
theorem dX8_write_63 : decode cX8_write 63 = .ok (.iinc 3 1, 3) := by decide +kernel
theorem dX8_write_66 : decode cX8_write 66 = .ok (.goto (-31), 3) := by decide +kernel
theorem dX8_write_69 : decode cX8_write 69 = .ok (.iload_n 3, 1) := by decide +kernel
theorem dX8_write_70 : decode cX8_write 70 = .ok (.ireturn, 1) := by decide +kernel
theorem dX8_wakingsNow_0 : decode cX8_wakingsNow 0 = .ok (.iconst 0, 1) := by decide +kernel
theorem dX8_wakingsNow_1 : decode cX8_wakingsNow 1 = .ok (.istore_n 1, 1) := by decide +kernel
theorem dX8_wakingsNow_2 : decode cX8_wakingsNow 2 = .ok (.iconst 0, 1) := by decide +kernel
theorem dX8_wakingsNow_3 : decode cX8_wakingsNow 3 = .ok (.istore_n 2, 1) := by decide +kernel
theorem dX8_wakingsNow_4 : decode cX8_wakingsNow 4 = .ok (.iload_n 2, 1) := by decide +kernel
theorem dX8_wakingsNow_5 : decode cX8_wakingsNow 5 = .ok (.aload_n 0, 1) := by decide +kernel
theorem dX8_wakingsNow_6 : decode cX8_wakingsNow 6 = .ok (.getfield 114, 3) := by decide +kernel
theorem dX8_wakingsNow_9 : decode cX8_wakingsNow 9 = .ok (.if_icmp .ge 18, 3) := by decide +kernel
theorem dX8_wakingsNow_12 : decode cX8_wakingsNow 12 = .ok (.iload_n 1, 1) := by decide +kernel
theorem dX8_wakingsNow_13 : decode cX8_wakingsNow 13 = .ok (.aload_n 0, 1) := by decide +kernel
theorem dX8_wakingsNow_14 : decode cX8_wakingsNow 14 = .ok (.getfield 50, 3) := by decide +kernel
theorem dX8_wakingsNow_17 : decode cX8_wakingsNow 17 = .ok (.iload_n 2, 1) := by decide +kernel
theorem dX8_wakingsNow_18 : decode cX8_wakingsNow 18 = .ok (.iaload, 1) := by decide +kernel
theorem dX8_wakingsNow_19 : decode cX8_wakingsNow 19 = .ok (.iadd, 1) := by decide +kernel
theorem dX8_wakingsNow_20 : decode cX8_wakingsNow 20 = .ok (.istore_n 1, 1) := by decide +kernel
theorem dX8_wakingsNow_21 : decode cX8_wakingsNow 21 = .ok (.iinc 2 1, 3) := by decide +kernel
theorem dX8_wakingsNow_24 : decode cX8_wakingsNow 24 = .ok (.goto (-20), 3) := by decide +kernel
theorem dX8_wakingsNow_27 : decode cX8_wakingsNow 27 = .ok (.iload_n 1, 1) := by decide +kernel
theorem dX8_wakingsNow_28 : decode cX8_wakingsNow 28 = .ok (.ireturn, 1) := by decide +kernel
theorem dX8_sumOf_0 : decode cX8_sumOf 0 = .ok (.aload_n 0, 1) := by decide +kernel
theorem dX8_sumOf_1 : decode cX8_sumOf 1 = .ok (.invokevirtual 177, 3) := by decide +kernel
theorem dX8_sumOf_4 : decode cX8_sumOf 4 = .ok (.iload_n 1, 1) := by decide +kernel
theorem dX8_sumOf_5 : decode cX8_sumOf 5 = .ok (.ifCond .ne 10, 3) := by decide +kernel
theorem dX8_sumOf_8 : decode cX8_sumOf 8 = .ok (.aload_n 0, 1) := by decide +kernel
theorem dX8_sumOf_9 : decode cX8_sumOf 9 = .ok (.getfield 114, 3) := by decide +kernel
theorem dX8_sumOf_12 : decode cX8_sumOf 12 = .ok (.goto 43, 3) := by decide +kernel
theorem dX8_sumOf_15 : decode cX8_sumOf 15 = .ok (.iload_n 1, 1) := by decide +kernel
theorem dX8_sumOf_16 : decode cX8_sumOf 16 = .ok (.iconst 1, 1) := by decide +kernel
theorem dX8_sumOf_17 : decode cX8_sumOf 17 = .ok (.if_icmp .ne 10, 3) := by decide +kernel
theorem dX8_sumOf_20 : decode cX8_sumOf 20 = .ok (.aload_n 0, 1) := by decide +kernel
theorem dX8_sumOf_21 : decode cX8_sumOf 21 = .ok (.getfield 117, 3) := by decide +kernel
theorem dX8_sumOf_24 : decode cX8_sumOf 24 = .ok (.goto 31, 3) := by decide +kernel
theorem dX8_sumOf_27 : decode cX8_sumOf 27 = .ok (.iload_n 1, 1) := by decide +kernel
theorem dX8_sumOf_28 : decode cX8_sumOf 28 = .ok (.iconst 4, 1) := by decide +kernel
theorem dX8_sumOf_29 : decode cX8_sumOf 29 = .ok (.if_icmp .ne 10, 3) := by decide +kernel
theorem dX8_sumOf_32 : decode cX8_sumOf 32 = .ok (.aload_n 0, 1) := by decide +kernel
theorem dX8_sumOf_33 : decode cX8_sumOf 33 = .ok (.invokevirtual 217, 3) := by decide +kernel
theorem dX8_sumOf_36 : decode cX8_sumOf 36 = .ok (.goto 19, 3) := by decide +kernel
theorem dX8_sumOf_39 : decode cX8_sumOf 39 = .ok (.iload_n 1, 1) := by decide +kernel
theorem dX8_sumOf_40 : decode cX8_sumOf 40 = .ok (.iconst 5, 1) := by decide +kernel
theorem dX8_sumOf_41 : decode cX8_sumOf 41 = .ok (.if_icmp .ne 10, 3) := by decide +kernel
theorem dX8_sumOf_44 : decode cX8_sumOf 44 = .ok (.aload_n 0, 1) := by decide +kernel
theorem dX8_sumOf_45 : decode cX8_sumOf 45 = .ok (.invokevirtual 276, 3) := by decide +kernel
theorem dX8_sumOf_48 : decode cX8_sumOf 48 = .ok (.goto 7, 3) := by decide +kernel
theorem dX8_sumOf_51 : decode cX8_sumOf 51 = .ok (.aload_n 0, 1) := by decide +kernel
theorem dX8_sumOf_52 : decode cX8_sumOf 52 = .ok (.invokevirtual 293, 3) := by decide +kernel
theorem dX8_sumOf_55 : decode cX8_sumOf 55 = .ok (.ireturn, 1) := by decide +kernel
theorem dX8_count_0 : decode cX8_count 0 = .ok (.iload_n 1, 1) := by decide +kernel
theorem dX8_count_1 : decode cX8_count 1 = .ok (.tableswitch 76 0 8 #[51, 51, 57, 57, 51, 51, 51, 66, 71], 51) := by decide +kernel
theorem dX8_count_52 : decode cX8_count 52 = .ok (.aload_n 0, 1) := by decide +kernel
theorem dX8_count_53 : decode cX8_count 53 = .ok (.iload_n 1, 1) := by decide +kernel
theorem dX8_count_54 : decode cX8_count 54 = .ok (.invokevirtual 296, 3) := by decide +kernel
theorem dX8_count_57 : decode cX8_count 57 = .ok (.ireturn, 1) := by decide +kernel
theorem dX8_count_58 : decode cX8_count 58 = .ok (.aload_n 0, 1) := by decide +kernel
theorem dX8_count_59 : decode cX8_count 59 = .ok (.getfield 7, 3) := by decide +kernel
theorem dX8_count_62 : decode cX8_count 62 = .ok (.iload_n 1, 1) := by decide +kernel
theorem dX8_count_63 : decode cX8_count 63 = .ok (.iconst 2, 1) := by decide +kernel
theorem dX8_count_64 : decode cX8_count 64 = .ok (.isub, 1) := by decide +kernel
theorem dX8_count_65 : decode cX8_count 65 = .ok (.iaload, 1) := by decide +kernel
theorem dX8_count_66 : decode cX8_count 66 = .ok (.ireturn, 1) := by decide +kernel
theorem dX8_count_67 : decode cX8_count 67 = .ok (.aload_n 0, 1) := by decide +kernel
theorem dX8_count_68 : decode cX8_count 68 = .ok (.getfield 235, 3) := by decide +kernel
theorem dX8_count_71 : decode cX8_count 71 = .ok (.ireturn, 1) := by decide +kernel
theorem dX8_count_72 : decode cX8_count 72 = .ok (.aload_n 0, 1) := by decide +kernel
theorem dX8_count_73 : decode cX8_count 73 = .ok (.getfield 282, 3) := by decide +kernel
theorem dX8_count_76 : decode cX8_count 76 = .ok (.ireturn, 1) := by decide +kernel
theorem dX8_count_77 : decode cX8_count 77 = .ok (.bipush (-2), 2) := by decide +kernel
theorem dX8_count_79 : decode cX8_count 79 = .ok (.ireturn, 1) := by decide +kernel
theorem dX8_sleeperDigest_0 : decode cX8_sleeperDigest 0 = .ok (.lload_n 1, 1) := by decide +kernel
theorem dX8_sleeperDigest_1 : decode cX8_sleeperDigest 1 = .ok (.lstore 4, 2) := by decide +kernel
theorem dX8_sleeperDigest_3 : decode cX8_sleeperDigest 3 = .ok (.iconst 0, 1) := by decide +kernel
theorem dX8_sleeperDigest_4 : decode cX8_sleeperDigest 4 = .ok (.istore 6, 2) := by decide +kernel
theorem dX8_sleeperDigest_6 : decode cX8_sleeperDigest 6 = .ok (.iload 6, 2) := by decide +kernel
theorem dX8_sleeperDigest_8 : decode cX8_sleeperDigest 8 = .ok (.iconst 4, 1) := by decide +kernel
theorem dX8_sleeperDigest_9 : decode cX8_sleeperDigest 9 = .ok (.if_icmp .ge 26, 3) := by decide +kernel
theorem dX8_sleeperDigest_12 : decode cX8_sleeperDigest 12 = .ok (.ldc2_w 299, 3) := by decide +kernel
theorem dX8_sleeperDigest_15 : decode cX8_sleeperDigest 15 = .ok (.lload 4, 2) := by decide +kernel
theorem dX8_sleeperDigest_17 : decode cX8_sleeperDigest 17 = .ok (.lmul, 1) := by decide +kernel
theorem dX8_sleeperDigest_18 : decode cX8_sleeperDigest 18 = .ok (.aload_n 0, 1) := by decide +kernel
theorem dX8_sleeperDigest_19 : decode cX8_sleeperDigest 19 = .ok (.iload_n 3, 1) := by decide +kernel
theorem dX8_sleeperDigest_20 : decode cX8_sleeperDigest 20 = .ok (.iload 6, 2) := by decide +kernel
theorem dX8_sleeperDigest_22 : decode cX8_sleeperDigest 22 = .ok (.invokevirtual 139, 3) := by decide +kernel
theorem dX8_sleeperDigest_25 : decode cX8_sleeperDigest 25 = .ok (.i2l, 1) := by decide +kernel
theorem dX8_sleeperDigest_26 : decode cX8_sleeperDigest 26 = .ok (.ladd, 1) := by decide +kernel
theorem dX8_sleeperDigest_27 : decode cX8_sleeperDigest 27 = .ok (.lstore 4, 2) := by decide +kernel
theorem dX8_sleeperDigest_29 : decode cX8_sleeperDigest 29 = .ok (.iinc 6 1, 3) := by decide +kernel
theorem dX8_sleeperDigest_32 : decode cX8_sleeperDigest 32 = .ok (.goto (-26), 3) := by decide +kernel
theorem dX8_sleeperDigest_35 : decode cX8_sleeperDigest 35 = .ok (.ldc2_w 299, 3) := by decide +kernel
theorem dX8_sleeperDigest_38 : decode cX8_sleeperDigest 38 = .ok (.lload 4, 2) := by decide +kernel
theorem dX8_sleeperDigest_40 : decode cX8_sleeperDigest 40 = .ok (.lmul, 1) := by decide +kernel
theorem dX8_sleeperDigest_41 : decode cX8_sleeperDigest 41 = .ok (.aload_n 0, 1) := by decide +kernel
theorem dX8_sleeperDigest_42 : decode cX8_sleeperDigest 42 = .ok (.iconst 5, 1) := by decide +kernel
theorem dX8_sleeperDigest_43 : decode cX8_sleeperDigest 43 = .ok (.iload_n 3, 1) := by decide +kernel
theorem dX8_sleeperDigest_44 : decode cX8_sleeperDigest 44 = .ok (.invokevirtual 183, 3) := by decide +kernel
theorem dX8_sleeperDigest_47 : decode cX8_sleeperDigest 47 = .ok (.i2l, 1) := by decide +kernel
theorem dX8_sleeperDigest_48 : decode cX8_sleeperDigest 48 = .ok (.ladd, 1) := by decide +kernel
theorem dX8_sleeperDigest_49 : decode cX8_sleeperDigest 49 = .ok (.lstore 4, 2) := by decide +kernel
theorem dX8_sleeperDigest_51 : decode cX8_sleeperDigest 51 = .ok (.ldc2_w 299, 3) := by decide +kernel
theorem dX8_sleeperDigest_54 : decode cX8_sleeperDigest 54 = .ok (.lload 4, 2) := by decide +kernel
theorem dX8_sleeperDigest_56 : decode cX8_sleeperDigest 56 = .ok (.lmul, 1) := by decide +kernel
theorem dX8_sleeperDigest_57 : decode cX8_sleeperDigest 57 = .ok (.aload_n 0, 1) := by decide +kernel
theorem dX8_sleeperDigest_58 : decode cX8_sleeperDigest 58 = .ok (.bipush 20, 2) := by decide +kernel
theorem dX8_sleeperDigest_60 : decode cX8_sleeperDigest 60 = .ok (.iload_n 3, 1) := by decide +kernel
theorem dX8_sleeperDigest_61 : decode cX8_sleeperDigest 61 = .ok (.invokevirtual 183, 3) := by decide +kernel
theorem dX8_sleeperDigest_64 : decode cX8_sleeperDigest 64 = .ok (.i2l, 1) := by decide +kernel
theorem dX8_sleeperDigest_65 : decode cX8_sleeperDigest 65 = .ok (.ladd, 1) := by decide +kernel
theorem dX8_sleeperDigest_66 : decode cX8_sleeperDigest 66 = .ok (.lstore 4, 2) := by decide +kernel
theorem dX8_sleeperDigest_68 : decode cX8_sleeperDigest 68 = .ok (.ldc2_w 299, 3) := by decide +kernel
theorem dX8_sleeperDigest_71 : decode cX8_sleeperDigest 71 = .ok (.lload 4, 2) := by decide +kernel
theorem dX8_sleeperDigest_73 : decode cX8_sleeperDigest 73 = .ok (.lmul, 1) := by decide +kernel
theorem dX8_sleeperDigest_74 : decode cX8_sleeperDigest 74 = .ok (.aload_n 0, 1) := by decide +kernel
theorem dX8_sleeperDigest_75 : decode cX8_sleeperDigest 75 = .ok (.bipush 49, 2) := by decide +kernel
theorem dX8_sleeperDigest_77 : decode cX8_sleeperDigest 77 = .ok (.iload_n 3, 1) := by decide +kernel
theorem dX8_sleeperDigest_78 : decode cX8_sleeperDigest 78 = .ok (.invokevirtual 183, 3) := by decide +kernel
theorem dX8_sleeperDigest_81 : decode cX8_sleeperDigest 81 = .ok (.i2l, 1) := by decide +kernel
theorem dX8_sleeperDigest_82 : decode cX8_sleeperDigest 82 = .ok (.ladd, 1) := by decide +kernel
theorem dX8_sleeperDigest_83 : decode cX8_sleeperDigest 83 = .ok (.lstore 4, 2) := by decide +kernel
theorem dX8_sleeperDigest_85 : decode cX8_sleeperDigest 85 = .ok (.ldc2_w 299, 3) := by decide +kernel
theorem dX8_sleeperDigest_88 : decode cX8_sleeperDigest 88 = .ok (.lload 4, 2) := by decide +kernel
theorem dX8_sleeperDigest_90 : decode cX8_sleeperDigest 90 = .ok (.lmul, 1) := by decide +kernel
theorem dX8_sleeperDigest_91 : decode cX8_sleeperDigest 91 = .ok (.aload_n 0, 1) := by decide +kernel
theorem dX8_sleeperDigest_92 : decode cX8_sleeperDigest 92 = .ok (.iload_n 3, 1) := by decide +kernel
theorem dX8_sleeperDigest_93 : decode cX8_sleeperDigest 93 = .ok (.iconst 0, 1) := by decide +kernel
theorem dX8_sleeperDigest_94 : decode cX8_sleeperDigest 94 = .ok (.invokevirtual 201, 3) := by decide +kernel
theorem dX8_sleeperDigest_97 : decode cX8_sleeperDigest 97 = .ok (.i2l, 1) := by decide +kernel
theorem dX8_sleeperDigest_98 : decode cX8_sleeperDigest 98 = .ok (.ladd, 1) := by decide +kernel
theorem dX8_sleeperDigest_99 : decode cX8_sleeperDigest 99 = .ok (.lstore 4, 2) := by decide +kernel
theorem dX8_sleeperDigest_101 : decode cX8_sleeperDigest 101 = .ok (.ldc2_w 299, 3) := by decide +kernel
theorem dX8_sleeperDigest_104 : decode cX8_sleeperDigest 104 = .ok (.lload 4, 2) := by decide +kernel
theorem dX8_sleeperDigest_106 : decode cX8_sleeperDigest 106 = .ok (.lmul, 1) := by decide +kernel
theorem dX8_sleeperDigest_107 : decode cX8_sleeperDigest 107 = .ok (.aload_n 0, 1) := by decide +kernel
theorem dX8_sleeperDigest_108 : decode cX8_sleeperDigest 108 = .ok (.iload_n 3, 1) := by decide +kernel
theorem dX8_sleeperDigest_109 : decode cX8_sleeperDigest 109 = .ok (.iconst 1, 1) := by decide +kernel
theorem dX8_sleeperDigest_110 : decode cX8_sleeperDigest 110 = .ok (.invokevirtual 201, 3) := by decide +kernel
theorem dX8_sleeperDigest_113 : decode cX8_sleeperDigest 113 = .ok (.i2l, 1) := by decide +kernel
theorem dX8_sleeperDigest_114 : decode cX8_sleeperDigest 114 = .ok (.ladd, 1) := by decide +kernel
theorem dX8_sleeperDigest_115 : decode cX8_sleeperDigest 115 = .ok (.lstore 4, 2) := by decide +kernel
theorem dX8_sleeperDigest_117 : decode cX8_sleeperDigest 117 = .ok (.ldc2_w 299, 3) := by decide +kernel
theorem dX8_sleeperDigest_120 : decode cX8_sleeperDigest 120 = .ok (.lload 4, 2) := by decide +kernel
theorem dX8_sleeperDigest_122 : decode cX8_sleeperDigest 122 = .ok (.lmul, 1) := by decide +kernel
theorem dX8_sleeperDigest_123 : decode cX8_sleeperDigest 123 = .ok (.aload_n 0, 1) := by decide +kernel
theorem dX8_sleeperDigest_124 : decode cX8_sleeperDigest 124 = .ok (.iload_n 3, 1) := by decide +kernel
theorem dX8_sleeperDigest_125 : decode cX8_sleeperDigest 125 = .ok (.iconst 0, 1) := by decide +kernel
theorem dX8_sleeperDigest_126 : decode cX8_sleeperDigest 126 = .ok (.invokevirtual 220, 3) := by decide +kernel
theorem dX8_sleeperDigest_129 : decode cX8_sleeperDigest 129 = .ok (.i2l, 1) := by decide +kernel
theorem dX8_sleeperDigest_130 : decode cX8_sleeperDigest 130 = .ok (.ladd, 1) := by decide +kernel
theorem dX8_sleeperDigest_131 : decode cX8_sleeperDigest 131 = .ok (.lstore 4, 2) := by decide +kernel
theorem dX8_sleeperDigest_133 : decode cX8_sleeperDigest 133 = .ok (.ldc2_w 299, 3) := by decide +kernel
theorem dX8_sleeperDigest_136 : decode cX8_sleeperDigest 136 = .ok (.lload 4, 2) := by decide +kernel
theorem dX8_sleeperDigest_138 : decode cX8_sleeperDigest 138 = .ok (.lmul, 1) := by decide +kernel
theorem dX8_sleeperDigest_139 : decode cX8_sleeperDigest 139 = .ok (.aload_n 0, 1) := by decide +kernel
theorem dX8_sleeperDigest_140 : decode cX8_sleeperDigest 140 = .ok (.iload_n 3, 1) := by decide +kernel
theorem dX8_sleeperDigest_141 : decode cX8_sleeperDigest 141 = .ok (.iconst 1, 1) := by decide +kernel
theorem dX8_sleeperDigest_142 : decode cX8_sleeperDigest 142 = .ok (.invokevirtual 220, 3) := by decide +kernel
theorem dX8_sleeperDigest_145 : decode cX8_sleeperDigest 145 = .ok (.i2l, 1) := by decide +kernel
theorem dX8_sleeperDigest_146 : decode cX8_sleeperDigest 146 = .ok (.ladd, 1) := by decide +kernel
theorem dX8_sleeperDigest_147 : decode cX8_sleeperDigest 147 = .ok (.lstore 4, 2) := by decide +kernel
theorem dX8_sleeperDigest_149 : decode cX8_sleeperDigest 149 = .ok (.ldc2_w 299, 3) := by decide +kernel
theorem dX8_sleeperDigest_152 : decode cX8_sleeperDigest 152 = .ok (.lload 4, 2) := by decide +kernel
theorem dX8_sleeperDigest_154 : decode cX8_sleeperDigest 154 = .ok (.lmul, 1) := by decide +kernel
theorem dX8_sleeperDigest_155 : decode cX8_sleeperDigest 155 = .ok (.aload_n 0, 1) := by decide +kernel
theorem dX8_sleeperDigest_156 : decode cX8_sleeperDigest 156 = .ok (.iload_n 3, 1) := by decide +kernel
theorem dX8_sleeperDigest_157 : decode cX8_sleeperDigest 157 = .ok (.iconst 0, 1) := by decide +kernel
theorem dX8_sleeperDigest_158 : decode cX8_sleeperDigest 158 = .ok (.invokevirtual 232, 3) := by decide +kernel
theorem dX8_sleeperDigest_161 : decode cX8_sleeperDigest 161 = .ok (.i2l, 1) := by decide +kernel
theorem dX8_sleeperDigest_162 : decode cX8_sleeperDigest 162 = .ok (.ladd, 1) := by decide +kernel
theorem dX8_sleeperDigest_163 : decode cX8_sleeperDigest 163 = .ok (.lstore 4, 2) := by decide +kernel
theorem dX8_sleeperDigest_165 : decode cX8_sleeperDigest 165 = .ok (.ldc2_w 299, 3) := by decide +kernel
theorem dX8_sleeperDigest_168 : decode cX8_sleeperDigest 168 = .ok (.lload 4, 2) := by decide +kernel
theorem dX8_sleeperDigest_170 : decode cX8_sleeperDigest 170 = .ok (.lmul, 1) := by decide +kernel
theorem dX8_sleeperDigest_171 : decode cX8_sleeperDigest 171 = .ok (.aload_n 0, 1) := by decide +kernel
theorem dX8_sleeperDigest_172 : decode cX8_sleeperDigest 172 = .ok (.iload_n 3, 1) := by decide +kernel
theorem dX8_sleeperDigest_173 : decode cX8_sleeperDigest 173 = .ok (.iconst 1, 1) := by decide +kernel
theorem dX8_sleeperDigest_174 : decode cX8_sleeperDigest 174 = .ok (.invokevirtual 232, 3) := by decide +kernel
theorem dX8_sleeperDigest_177 : decode cX8_sleeperDigest 177 = .ok (.i2l, 1) := by decide +kernel
theorem dX8_sleeperDigest_178 : decode cX8_sleeperDigest 178 = .ok (.ladd, 1) := by decide +kernel
theorem dX8_sleeperDigest_179 : decode cX8_sleeperDigest 179 = .ok (.lreturn, 1) := by decide +kernel
theorem dX8_deedDigest_0 : decode cX8_deedDigest 0 = .ok (.lload_n 1, 1) := by decide +kernel
theorem dX8_deedDigest_1 : decode cX8_deedDigest 1 = .ok (.lstore 4, 2) := by decide +kernel
theorem dX8_deedDigest_3 : decode cX8_deedDigest 3 = .ok (.iconst 0, 1) := by decide +kernel
theorem dX8_deedDigest_4 : decode cX8_deedDigest 4 = .ok (.istore 6, 2) := by decide +kernel
theorem dX8_deedDigest_6 : decode cX8_deedDigest 6 = .ok (.iload 6, 2) := by decide +kernel
theorem dX8_deedDigest_8 : decode cX8_deedDigest 8 = .ok (.iconst 3, 1) := by decide +kernel
theorem dX8_deedDigest_9 : decode cX8_deedDigest 9 = .ok (.if_icmp .ge 26, 3) := by decide +kernel
theorem dX8_deedDigest_12 : decode cX8_deedDigest 12 = .ok (.ldc2_w 299, 3) := by decide +kernel
theorem dX8_deedDigest_15 : decode cX8_deedDigest 15 = .ok (.lload 4, 2) := by decide +kernel
theorem dX8_deedDigest_17 : decode cX8_deedDigest 17 = .ok (.lmul, 1) := by decide +kernel
theorem dX8_deedDigest_18 : decode cX8_deedDigest 18 = .ok (.aload_n 0, 1) := by decide +kernel
theorem dX8_deedDigest_19 : decode cX8_deedDigest 19 = .ok (.iload_n 3, 1) := by decide +kernel
theorem dX8_deedDigest_20 : decode cX8_deedDigest 20 = .ok (.iload 6, 2) := by decide +kernel
theorem dX8_deedDigest_22 : decode cX8_deedDigest 22 = .ok (.invokevirtual 145, 3) := by decide +kernel
theorem dX8_deedDigest_25 : decode cX8_deedDigest 25 = .ok (.i2l, 1) := by decide +kernel
theorem dX8_deedDigest_26 : decode cX8_deedDigest 26 = .ok (.ladd, 1) := by decide +kernel
theorem dX8_deedDigest_27 : decode cX8_deedDigest 27 = .ok (.lstore 4, 2) := by decide +kernel
theorem dX8_deedDigest_29 : decode cX8_deedDigest 29 = .ok (.iinc 6 1, 3) := by decide +kernel
theorem dX8_deedDigest_32 : decode cX8_deedDigest 32 = .ok (.goto (-26), 3) := by decide +kernel
theorem dX8_deedDigest_35 : decode cX8_deedDigest 35 = .ok (.iconst 0, 1) := by decide +kernel
theorem dX8_deedDigest_36 : decode cX8_deedDigest 36 = .ok (.istore 6, 2) := by decide +kernel
theorem dX8_deedDigest_38 : decode cX8_deedDigest 38 = .ok (.iload 6, 2) := by decide +kernel
theorem dX8_deedDigest_40 : decode cX8_deedDigest 40 = .ok (.iconst 3, 1) := by decide +kernel
theorem dX8_deedDigest_41 : decode cX8_deedDigest 41 = .ok (.if_icmp .ge 26, 3) := by decide +kernel
theorem dX8_deedDigest_44 : decode cX8_deedDigest 44 = .ok (.ldc2_w 299, 3) := by decide +kernel
theorem dX8_deedDigest_47 : decode cX8_deedDigest 47 = .ok (.lload 4, 2) := by decide +kernel
theorem dX8_deedDigest_49 : decode cX8_deedDigest 49 = .ok (.lmul, 1) := by decide +kernel
theorem dX8_deedDigest_50 : decode cX8_deedDigest 50 = .ok (.aload_n 0, 1) := by decide +kernel
theorem dX8_deedDigest_51 : decode cX8_deedDigest 51 = .ok (.iload_n 3, 1) := by decide +kernel
theorem dX8_deedDigest_52 : decode cX8_deedDigest 52 = .ok (.iload 6, 2) := by decide +kernel
theorem dX8_deedDigest_54 : decode cX8_deedDigest 54 = .ok (.invokevirtual 195, 3) := by decide +kernel
theorem dX8_deedDigest_57 : decode cX8_deedDigest 57 = .ok (.i2l, 1) := by decide +kernel
theorem dX8_deedDigest_58 : decode cX8_deedDigest 58 = .ok (.ladd, 1) := by decide +kernel
theorem dX8_deedDigest_59 : decode cX8_deedDigest 59 = .ok (.lstore 4, 2) := by decide +kernel
theorem dX8_deedDigest_61 : decode cX8_deedDigest 61 = .ok (.iinc 6 1, 3) := by decide +kernel
theorem dX8_deedDigest_64 : decode cX8_deedDigest 64 = .ok (.goto (-26), 3) := by decide +kernel
theorem dX8_deedDigest_67 : decode cX8_deedDigest 67 = .ok (.ldc2_w 299, 3) := by decide +kernel
theorem dX8_deedDigest_70 : decode cX8_deedDigest 70 = .ok (.lload 4, 2) := by decide +kernel
theorem dX8_deedDigest_72 : decode cX8_deedDigest 72 = .ok (.lmul, 1) := by decide +kernel
theorem dX8_deedDigest_73 : decode cX8_deedDigest 73 = .ok (.aload_n 0, 1) := by decide +kernel
theorem dX8_deedDigest_74 : decode cX8_deedDigest 74 = .ok (.iload_n 3, 1) := by decide +kernel
theorem dX8_deedDigest_75 : decode cX8_deedDigest 75 = .ok (.invokevirtual 257, 3) := by decide +kernel
theorem dX8_deedDigest_78 : decode cX8_deedDigest 78 = .ok (.i2l, 1) := by decide +kernel
theorem dX8_deedDigest_79 : decode cX8_deedDigest 79 = .ok (.ladd, 1) := by decide +kernel
theorem dX8_deedDigest_80 : decode cX8_deedDigest 80 = .ok (.lstore 4, 2) := by decide +kernel
theorem dX8_deedDigest_82 : decode cX8_deedDigest 82 = .ok (.aload_n 0, 1) := by decide +kernel
theorem dX8_deedDigest_83 : decode cX8_deedDigest 83 = .ok (.iload_n 3, 1) := by decide +kernel
theorem dX8_deedDigest_84 : decode cX8_deedDigest 84 = .ok (.invokevirtual 226, 3) := by decide +kernel
theorem dX8_deedDigest_87 : decode cX8_deedDigest 87 = .ok (.istore 6, 2) := by decide +kernel
theorem dX8_deedDigest_89 : decode cX8_deedDigest 89 = .ok (.ldc2_w 299, 3) := by decide +kernel
theorem dX8_deedDigest_92 : decode cX8_deedDigest 92 = .ok (.lload 4, 2) := by decide +kernel
theorem dX8_deedDigest_94 : decode cX8_deedDigest 94 = .ok (.lmul, 1) := by decide +kernel
theorem dX8_deedDigest_95 : decode cX8_deedDigest 95 = .ok (.iload 6, 2) := by decide +kernel
theorem dX8_deedDigest_97 : decode cX8_deedDigest 97 = .ok (.i2l, 1) := by decide +kernel
theorem dX8_deedDigest_98 : decode cX8_deedDigest 98 = .ok (.ladd, 1) := by decide +kernel
theorem dX8_deedDigest_99 : decode cX8_deedDigest 99 = .ok (.lstore 4, 2) := by decide +kernel
theorem dX8_deedDigest_101 : decode cX8_deedDigest 101 = .ok (.ldc2_w 299, 3) := by decide +kernel
theorem dX8_deedDigest_104 : decode cX8_deedDigest 104 = .ok (.lload 4, 2) := by decide +kernel
theorem dX8_deedDigest_106 : decode cX8_deedDigest 106 = .ok (.lmul, 1) := by decide +kernel
theorem dX8_deedDigest_107 : decode cX8_deedDigest 107 = .ok (.aload_n 0, 1) := by decide +kernel
theorem dX8_deedDigest_108 : decode cX8_deedDigest 108 = .ok (.iload 6, 2) := by decide +kernel
theorem dX8_deedDigest_110 : decode cX8_deedDigest 110 = .ok (.iconst 0, 1) := by decide +kernel
theorem dX8_deedDigest_111 : decode cX8_deedDigest 111 = .ok (.invokevirtual 229, 3) := by decide +kernel
theorem dX8_deedDigest_114 : decode cX8_deedDigest 114 = .ok (.i2l, 1) := by decide +kernel
theorem dX8_deedDigest_115 : decode cX8_deedDigest 115 = .ok (.ladd, 1) := by decide +kernel
theorem dX8_deedDigest_116 : decode cX8_deedDigest 116 = .ok (.lstore 4, 2) := by decide +kernel
theorem dX8_deedDigest_118 : decode cX8_deedDigest 118 = .ok (.ldc2_w 299, 3) := by decide +kernel
theorem dX8_deedDigest_121 : decode cX8_deedDigest 121 = .ok (.lload 4, 2) := by decide +kernel
theorem dX8_deedDigest_123 : decode cX8_deedDigest 123 = .ok (.lmul, 1) := by decide +kernel
theorem dX8_deedDigest_124 : decode cX8_deedDigest 124 = .ok (.aload_n 0, 1) := by decide +kernel
theorem dX8_deedDigest_125 : decode cX8_deedDigest 125 = .ok (.iconst 5, 1) := by decide +kernel
theorem dX8_deedDigest_126 : decode cX8_deedDigest 126 = .ok (.iload_n 3, 1) := by decide +kernel
theorem dX8_deedDigest_127 : decode cX8_deedDigest 127 = .ok (.iconst 0, 1) := by decide +kernel
theorem dX8_deedDigest_128 : decode cX8_deedDigest 128 = .ok (.invokevirtual 267, 3) := by decide +kernel
theorem dX8_deedDigest_131 : decode cX8_deedDigest 131 = .ok (.ladd, 1) := by decide +kernel
theorem dX8_deedDigest_132 : decode cX8_deedDigest 132 = .ok (.lstore 4, 2) := by decide +kernel
theorem dX8_deedDigest_134 : decode cX8_deedDigest 134 = .ok (.ldc2_w 299, 3) := by decide +kernel
theorem dX8_deedDigest_137 : decode cX8_deedDigest 137 = .ok (.lload 4, 2) := by decide +kernel
theorem dX8_deedDigest_139 : decode cX8_deedDigest 139 = .ok (.lmul, 1) := by decide +kernel
theorem dX8_deedDigest_140 : decode cX8_deedDigest 140 = .ok (.aload_n 0, 1) := by decide +kernel
theorem dX8_deedDigest_141 : decode cX8_deedDigest 141 = .ok (.iconst 5, 1) := by decide +kernel
theorem dX8_deedDigest_142 : decode cX8_deedDigest 142 = .ok (.iload_n 3, 1) := by decide +kernel
theorem dX8_deedDigest_143 : decode cX8_deedDigest 143 = .ok (.iconst 1, 1) := by decide +kernel
theorem dX8_deedDigest_144 : decode cX8_deedDigest 144 = .ok (.invokevirtual 267, 3) := by decide +kernel
theorem dX8_deedDigest_147 : decode cX8_deedDigest 147 = .ok (.ladd, 1) := by decide +kernel
theorem dX8_deedDigest_148 : decode cX8_deedDigest 148 = .ok (.lstore 4, 2) := by decide +kernel
theorem dX8_deedDigest_150 : decode cX8_deedDigest 150 = .ok (.iconst 0, 1) := by decide +kernel
theorem dX8_deedDigest_151 : decode cX8_deedDigest 151 = .ok (.istore 7, 2) := by decide +kernel
theorem dX8_deedDigest_153 : decode cX8_deedDigest 153 = .ok (.iload 7, 2) := by decide +kernel
theorem dX8_deedDigest_155 : decode cX8_deedDigest 155 = .ok (.aload_n 0, 1) := by decide +kernel
theorem dX8_deedDigest_156 : decode cX8_deedDigest 156 = .ok (.getfield 114, 3) := by decide +kernel
theorem dX8_deedDigest_159 : decode cX8_deedDigest 159 = .ok (.if_icmp .ge 43, 3) := by decide +kernel
theorem dX8_deedDigest_162 : decode cX8_deedDigest 162 = .ok (.iconst 0, 1) := by decide +kernel
theorem dX8_deedDigest_163 : decode cX8_deedDigest 163 = .ok (.istore 8, 2) := by decide +kernel
theorem dX8_deedDigest_165 : decode cX8_deedDigest 165 = .ok (.iload 8, 2) := by decide +kernel
theorem dX8_deedDigest_167 : decode cX8_deedDigest 167 = .ok (.iconst 3, 1) := by decide +kernel
theorem dX8_deedDigest_168 : decode cX8_deedDigest 168 = .ok (.if_icmp .ge 28, 3) := by decide +kernel
theorem dX8_deedDigest_171 : decode cX8_deedDigest 171 = .ok (.ldc2_w 299, 3) := by decide +kernel
theorem dX8_deedDigest_174 : decode cX8_deedDigest 174 = .ok (.lload 4, 2) := by decide +kernel
theorem dX8_deedDigest_176 : decode cX8_deedDigest 176 = .ok (.lmul, 1) := by decide +kernel
theorem dX8_deedDigest_177 : decode cX8_deedDigest 177 = .ok (.aload_n 0, 1) := by decide +kernel
theorem dX8_deedDigest_178 : decode cX8_deedDigest 178 = .ok (.iload_n 3, 1) := by decide +kernel
theorem dX8_deedDigest_179 : decode cX8_deedDigest 179 = .ok (.iload 7, 2) := by decide +kernel
theorem dX8_deedDigest_181 : decode cX8_deedDigest 181 = .ok (.iload 8, 2) := by decide +kernel
theorem dX8_deedDigest_183 : decode cX8_deedDigest 183 = .ok (.invokevirtual 186, 3) := by decide +kernel
theorem dX8_deedDigest_186 : decode cX8_deedDigest 186 = .ok (.i2l, 1) := by decide +kernel
theorem dX8_deedDigest_187 : decode cX8_deedDigest 187 = .ok (.ladd, 1) := by decide +kernel
theorem dX8_deedDigest_188 : decode cX8_deedDigest 188 = .ok (.lstore 4, 2) := by decide +kernel
theorem dX8_deedDigest_190 : decode cX8_deedDigest 190 = .ok (.iinc 8 1, 3) := by decide +kernel
theorem dX8_deedDigest_193 : decode cX8_deedDigest 193 = .ok (.goto (-28), 3) := by decide +kernel
theorem dX8_deedDigest_196 : decode cX8_deedDigest 196 = .ok (.iinc 7 1, 3) := by decide +kernel
theorem dX8_deedDigest_199 : decode cX8_deedDigest 199 = .ok (.goto (-46), 3) := by decide +kernel
theorem dX8_deedDigest_202 : decode cX8_deedDigest 202 = .ok (.lload 4, 2) := by decide +kernel
theorem dX8_deedDigest_204 : decode cX8_deedDigest 204 = .ok (.lreturn, 1) := by decide +kernel
theorem dX8_digest_0 : decode cX8_digest 0 = .ok (.ldc2_w 301, 3) := by decide +kernel
theorem dX8_digest_3 : decode cX8_digest 3 = .ok (.lstore_n 1, 1) := by decide +kernel
theorem dX8_digest_4 : decode cX8_digest 4 = .ok (.iconst 0, 1) := by decide +kernel
theorem dX8_digest_5 : decode cX8_digest 5 = .ok (.istore_n 3, 1) := by decide +kernel
theorem dX8_digest_6 : decode cX8_digest 6 = .ok (.iload_n 3, 1) := by decide +kernel
theorem dX8_digest_7 : decode cX8_digest 7 = .ok (.bipush 8, 2) := by decide +kernel
theorem dX8_digest_9 : decode cX8_digest 9 = .ok (.if_icmp .ge 22, 3) := by decide +kernel
theorem dX8_digest_12 : decode cX8_digest 12 = .ok (.ldc2_w 299, 3) := by decide +kernel
theorem dX8_digest_15 : decode cX8_digest 15 = .ok (.lload_n 1, 1) := by decide +kernel
theorem dX8_digest_16 : decode cX8_digest 16 = .ok (.lmul, 1) := by decide +kernel
theorem dX8_digest_17 : decode cX8_digest 17 = .ok (.aload_n 0, 1) := by decide +kernel
theorem dX8_digest_18 : decode cX8_digest 18 = .ok (.iload_n 3, 1) := by decide +kernel
theorem dX8_digest_19 : decode cX8_digest 19 = .ok (.invokevirtual 303, 3) := by decide +kernel
theorem dX8_digest_22 : decode cX8_digest 22 = .ok (.i2l, 1) := by decide +kernel
theorem dX8_digest_23 : decode cX8_digest 23 = .ok (.ladd, 1) := by decide +kernel
theorem dX8_digest_24 : decode cX8_digest 24 = .ok (.lstore_n 1, 1) := by decide +kernel
theorem dX8_digest_25 : decode cX8_digest 25 = .ok (.iinc 3 1, 3) := by decide +kernel
theorem dX8_digest_28 : decode cX8_digest 28 = .ok (.goto (-22), 3) := by decide +kernel
theorem dX8_digest_31 : decode cX8_digest 31 = .ok (.ldc2_w 299, 3) := by decide +kernel
theorem dX8_digest_34 : decode cX8_digest 34 = .ok (.lload_n 1, 1) := by decide +kernel
theorem dX8_digest_35 : decode cX8_digest 35 = .ok (.lmul, 1) := by decide +kernel
theorem dX8_digest_36 : decode cX8_digest 36 = .ok (.aload_n 0, 1) := by decide +kernel
theorem dX8_digest_37 : decode cX8_digest 37 = .ok (.iconst 0, 1) := by decide +kernel
theorem dX8_digest_38 : decode cX8_digest 38 = .ok (.invokevirtual 130, 3) := by decide +kernel
theorem dX8_digest_41 : decode cX8_digest 41 = .ok (.i2l, 1) := by decide +kernel
theorem dX8_digest_42 : decode cX8_digest 42 = .ok (.ladd, 1) := by decide +kernel
theorem dX8_digest_43 : decode cX8_digest 43 = .ok (.lstore_n 1, 1) := by decide +kernel
theorem dX8_digest_44 : decode cX8_digest 44 = .ok (.ldc2_w 299, 3) := by decide +kernel
theorem dX8_digest_47 : decode cX8_digest 47 = .ok (.lload_n 1, 1) := by decide +kernel
theorem dX8_digest_48 : decode cX8_digest 48 = .ok (.lmul, 1) := by decide +kernel
theorem dX8_digest_49 : decode cX8_digest 49 = .ok (.aload_n 0, 1) := by decide +kernel
theorem dX8_digest_50 : decode cX8_digest 50 = .ok (.iconst 1, 1) := by decide +kernel
theorem dX8_digest_51 : decode cX8_digest 51 = .ok (.invokevirtual 130, 3) := by decide +kernel
theorem dX8_digest_54 : decode cX8_digest 54 = .ok (.i2l, 1) := by decide +kernel
theorem dX8_digest_55 : decode cX8_digest 55 = .ok (.ladd, 1) := by decide +kernel
theorem dX8_digest_56 : decode cX8_digest 56 = .ok (.lstore_n 1, 1) := by decide +kernel
theorem dX8_digest_57 : decode cX8_digest 57 = .ok (.iconst 0, 1) := by decide +kernel
theorem dX8_digest_58 : decode cX8_digest 58 = .ok (.istore_n 3, 1) := by decide +kernel
theorem dX8_digest_59 : decode cX8_digest 59 = .ok (.iload_n 3, 1) := by decide +kernel
theorem dX8_digest_60 : decode cX8_digest 60 = .ok (.aload_n 0, 1) := by decide +kernel
theorem dX8_digest_61 : decode cX8_digest 61 = .ok (.getfield 114, 3) := by decide +kernel
theorem dX8_digest_64 : decode cX8_digest 64 = .ok (.if_icmp .ge 16, 3) := by decide +kernel
theorem dX8_digest_67 : decode cX8_digest 67 = .ok (.aload_n 0, 1) := by decide +kernel
theorem dX8_digest_68 : decode cX8_digest 68 = .ok (.lload_n 1, 1) := by decide +kernel
theorem dX8_digest_69 : decode cX8_digest 69 = .ok (.iload_n 3, 1) := by decide +kernel
theorem dX8_digest_70 : decode cX8_digest 70 = .ok (.invokevirtual 306, 3) := by decide +kernel
theorem dX8_digest_73 : decode cX8_digest 73 = .ok (.lstore_n 1, 1) := by decide +kernel
theorem dX8_digest_74 : decode cX8_digest 74 = .ok (.iinc 3 1, 3) := by decide +kernel
theorem dX8_digest_77 : decode cX8_digest 77 = .ok (.goto (-18), 3) := by decide +kernel
theorem dX8_digest_80 : decode cX8_digest 80 = .ok (.iconst 0, 1) := by decide +kernel
theorem dX8_digest_81 : decode cX8_digest 81 = .ok (.istore_n 3, 1) := by decide +kernel
theorem dX8_digest_82 : decode cX8_digest 82 = .ok (.iload_n 3, 1) := by decide +kernel
theorem dX8_digest_83 : decode cX8_digest 83 = .ok (.aload_n 0, 1) := by decide +kernel
theorem dX8_digest_84 : decode cX8_digest 84 = .ok (.getfield 117, 3) := by decide +kernel
theorem dX8_digest_87 : decode cX8_digest 87 = .ok (.if_icmp .ge 16, 3) := by decide +kernel
theorem dX8_digest_90 : decode cX8_digest 90 = .ok (.aload_n 0, 1) := by decide +kernel
theorem dX8_digest_91 : decode cX8_digest 91 = .ok (.lload_n 1, 1) := by decide +kernel
theorem dX8_digest_92 : decode cX8_digest 92 = .ok (.iload_n 3, 1) := by decide +kernel
theorem dX8_digest_93 : decode cX8_digest 93 = .ok (.invokevirtual 310, 3) := by decide +kernel
theorem dX8_digest_96 : decode cX8_digest 96 = .ok (.lstore_n 1, 1) := by decide +kernel
theorem dX8_digest_97 : decode cX8_digest 97 = .ok (.iinc 3 1, 3) := by decide +kernel
theorem dX8_digest_100 : decode cX8_digest 100 = .ok (.goto (-18), 3) := by decide +kernel
theorem dX8_digest_103 : decode cX8_digest 103 = .ok (.iconst 0, 1) := by decide +kernel
theorem dX8_digest_104 : decode cX8_digest 104 = .ok (.istore_n 3, 1) := by decide +kernel
theorem dX8_digest_105 : decode cX8_digest 105 = .ok (.iload_n 3, 1) := by decide +kernel
theorem dX8_digest_106 : decode cX8_digest 106 = .ok (.iconst 4, 1) := by decide +kernel
theorem dX8_digest_107 : decode cX8_digest 107 = .ok (.if_icmp .ge 39, 3) := by decide +kernel
theorem dX8_digest_110 : decode cX8_digest 110 = .ok (.ldc2_w 299, 3) := by decide +kernel
theorem dX8_digest_113 : decode cX8_digest 113 = .ok (.lload_n 1, 1) := by decide +kernel
theorem dX8_digest_114 : decode cX8_digest 114 = .ok (.lmul, 1) := by decide +kernel
theorem dX8_digest_115 : decode cX8_digest 115 = .ok (.aload_n 0, 1) := by decide +kernel
theorem dX8_digest_116 : decode cX8_digest 116 = .ok (.iconst 4, 1) := by decide +kernel
theorem dX8_digest_117 : decode cX8_digest 117 = .ok (.iload_n 3, 1) := by decide +kernel
theorem dX8_digest_118 : decode cX8_digest 118 = .ok (.iconst (-1), 1) := by decide +kernel
theorem dX8_digest_119 : decode cX8_digest 119 = .ok (.invokevirtual 214, 3) := by decide +kernel
theorem dX8_digest_122 : decode cX8_digest 122 = .ok (.i2l, 1) := by decide +kernel
theorem dX8_digest_123 : decode cX8_digest 123 = .ok (.ladd, 1) := by decide +kernel
theorem dX8_digest_124 : decode cX8_digest 124 = .ok (.lstore_n 1, 1) := by decide +kernel
theorem dX8_digest_125 : decode cX8_digest 125 = .ok (.ldc2_w 299, 3) := by decide +kernel
theorem dX8_digest_128 : decode cX8_digest 128 = .ok (.lload_n 1, 1) := by decide +kernel
theorem dX8_digest_129 : decode cX8_digest 129 = .ok (.lmul, 1) := by decide +kernel
theorem dX8_digest_130 : decode cX8_digest 130 = .ok (.aload_n 0, 1) := by decide +kernel
theorem dX8_digest_131 : decode cX8_digest 131 = .ok (.iconst 4, 1) := by decide +kernel
theorem dX8_digest_132 : decode cX8_digest 132 = .ok (.iload_n 3, 1) := by decide +kernel
theorem dX8_digest_133 : decode cX8_digest 133 = .ok (.iconst 0, 1) := by decide +kernel
theorem dX8_digest_134 : decode cX8_digest 134 = .ok (.invokevirtual 214, 3) := by decide +kernel
theorem dX8_digest_137 : decode cX8_digest 137 = .ok (.i2l, 1) := by decide +kernel
theorem dX8_digest_138 : decode cX8_digest 138 = .ok (.ladd, 1) := by decide +kernel
theorem dX8_digest_139 : decode cX8_digest 139 = .ok (.lstore_n 1, 1) := by decide +kernel
theorem dX8_digest_140 : decode cX8_digest 140 = .ok (.iinc 3 1, 3) := by decide +kernel
theorem dX8_digest_143 : decode cX8_digest 143 = .ok (.goto (-38), 3) := by decide +kernel
theorem dX8_digest_146 : decode cX8_digest 146 = .ok (.ldc2_w 299, 3) := by decide +kernel
theorem dX8_digest_149 : decode cX8_digest 149 = .ok (.lload_n 1, 1) := by decide +kernel
theorem dX8_digest_150 : decode cX8_digest 150 = .ok (.lmul, 1) := by decide +kernel
theorem dX8_digest_151 : decode cX8_digest 151 = .ok (.aload_n 0, 1) := by decide +kernel
theorem dX8_digest_152 : decode cX8_digest 152 = .ok (.invokevirtual 204, 3) := by decide +kernel
theorem dX8_digest_155 : decode cX8_digest 155 = .ok (.i2l, 1) := by decide +kernel
theorem dX8_digest_156 : decode cX8_digest 156 = .ok (.ladd, 1) := by decide +kernel
theorem dX8_digest_157 : decode cX8_digest 157 = .ok (.lstore_n 1, 1) := by decide +kernel
theorem dX8_digest_158 : decode cX8_digest 158 = .ok (.ldc2_w 299, 3) := by decide +kernel
theorem dX8_digest_161 : decode cX8_digest 161 = .ok (.lload_n 1, 1) := by decide +kernel
theorem dX8_digest_162 : decode cX8_digest 162 = .ok (.lmul, 1) := by decide +kernel
theorem dX8_digest_163 : decode cX8_digest 163 = .ok (.aload_n 0, 1) := by decide +kernel
theorem dX8_digest_164 : decode cX8_digest 164 = .ok (.invokevirtual 208, 3) := by decide +kernel
theorem dX8_digest_167 : decode cX8_digest 167 = .ok (.i2l, 1) := by decide +kernel
theorem dX8_digest_168 : decode cX8_digest 168 = .ok (.ladd, 1) := by decide +kernel
theorem dX8_digest_169 : decode cX8_digest 169 = .ok (.lstore_n 1, 1) := by decide +kernel
theorem dX8_digest_170 : decode cX8_digest 170 = .ok (.ldc2_w 299, 3) := by decide +kernel
theorem dX8_digest_173 : decode cX8_digest 173 = .ok (.lload_n 1, 1) := by decide +kernel
theorem dX8_digest_174 : decode cX8_digest 174 = .ok (.lmul, 1) := by decide +kernel
theorem dX8_digest_175 : decode cX8_digest 175 = .ok (.aload_n 0, 1) := by decide +kernel
theorem dX8_digest_176 : decode cX8_digest 176 = .ok (.invokevirtual 254, 3) := by decide +kernel
theorem dX8_digest_179 : decode cX8_digest 179 = .ok (.i2l, 1) := by decide +kernel
theorem dX8_digest_180 : decode cX8_digest 180 = .ok (.ladd, 1) := by decide +kernel
theorem dX8_digest_181 : decode cX8_digest 181 = .ok (.lstore_n 1, 1) := by decide +kernel
theorem dX8_digest_182 : decode cX8_digest 182 = .ok (.ldc2_w 299, 3) := by decide +kernel
theorem dX8_digest_185 : decode cX8_digest 185 = .ok (.lload_n 1, 1) := by decide +kernel
theorem dX8_digest_186 : decode cX8_digest 186 = .ok (.lmul, 1) := by decide +kernel
theorem dX8_digest_187 : decode cX8_digest 187 = .ok (.aload_n 0, 1) := by decide +kernel
theorem dX8_digest_188 : decode cX8_digest 188 = .ok (.invokevirtual 260, 3) := by decide +kernel
theorem dX8_digest_191 : decode cX8_digest 191 = .ok (.i2l, 1) := by decide +kernel
theorem dX8_digest_192 : decode cX8_digest 192 = .ok (.ladd, 1) := by decide +kernel
theorem dX8_digest_193 : decode cX8_digest 193 = .ok (.lstore_n 1, 1) := by decide +kernel
theorem dX8_digest_194 : decode cX8_digest 194 = .ok (.ldc2_w 299, 3) := by decide +kernel
theorem dX8_digest_197 : decode cX8_digest 197 = .ok (.lload_n 1, 1) := by decide +kernel
theorem dX8_digest_198 : decode cX8_digest 198 = .ok (.lmul, 1) := by decide +kernel
theorem dX8_digest_199 : decode cX8_digest 199 = .ok (.aload_n 0, 1) := by decide +kernel
theorem dX8_digest_200 : decode cX8_digest 200 = .ok (.bipush 7, 2) := by decide +kernel
theorem dX8_digest_202 : decode cX8_digest 202 = .ok (.bipush 8, 2) := by decide +kernel
theorem dX8_digest_204 : decode cX8_digest 204 = .ok (.iconst 0, 1) := by decide +kernel
theorem dX8_digest_205 : decode cX8_digest 205 = .ok (.invokevirtual 279, 3) := by decide +kernel
theorem dX8_digest_208 : decode cX8_digest 208 = .ok (.i2l, 1) := by decide +kernel
theorem dX8_digest_209 : decode cX8_digest 209 = .ok (.ladd, 1) := by decide +kernel
theorem dX8_digest_210 : decode cX8_digest 210 = .ok (.lstore_n 1, 1) := by decide +kernel
theorem dX8_digest_211 : decode cX8_digest 211 = .ok (.ldc2_w 299, 3) := by decide +kernel
theorem dX8_digest_214 : decode cX8_digest 214 = .ok (.lload_n 1, 1) := by decide +kernel
theorem dX8_digest_215 : decode cX8_digest 215 = .ok (.lmul, 1) := by decide +kernel
theorem dX8_digest_216 : decode cX8_digest 216 = .ok (.aload_n 0, 1) := by decide +kernel
theorem dX8_digest_217 : decode cX8_digest 217 = .ok (.bipush 7, 2) := by decide +kernel
theorem dX8_digest_219 : decode cX8_digest 219 = .ok (.bipush 8, 2) := by decide +kernel
theorem dX8_digest_221 : decode cX8_digest 221 = .ok (.iconst 1, 1) := by decide +kernel
theorem dX8_digest_222 : decode cX8_digest 222 = .ok (.invokevirtual 279, 3) := by decide +kernel
theorem dX8_digest_225 : decode cX8_digest 225 = .ok (.i2l, 1) := by decide +kernel
theorem dX8_digest_226 : decode cX8_digest 226 = .ok (.ladd, 1) := by decide +kernel
theorem dX8_digest_227 : decode cX8_digest 227 = .ok (.lreturn, 1) := by decide +kernel
