theorem dX7_comesOut_57 : decode cX7_comesOut 57 = .ok (.invokevirtual 162, 3) := by decide +kernel
theorem dX7_comesOut_60 : decode cX7_comesOut 60 = .ok (.aload_n 0, 1) := by decide +kernel
theorem dX7_comesOut_61 : decode cX7_comesOut 61 = .ok (.getfield 56, 3) := by decide +kernel
theorem dX7_comesOut_64 : decode cX7_comesOut 64 = .ok (.getfield 247, 3) := by decide +kernel
theorem dX7_comesOut_67 : decode cX7_comesOut 67 = .ok (.aload_n 0, 1) := by decide +kernel
theorem dX7_comesOut_68 : decode cX7_comesOut 68 = .ok (.getfield 35, 3) := by decide +kernel
theorem dX7_comesOut_71 : decode cX7_comesOut 71 = .ok (.getfield 250, 3) := by decide +kernel
theorem dX7_comesOut_74 : decode cX7_comesOut 74 = .ok (.iload_n 1, 1) := by decide +kernel
theorem dX7_comesOut_75 : decode cX7_comesOut 75 = .ok (.iaload, 1) := by decide +kernel
theorem dX7_comesOut_76 : decode cX7_comesOut 76 = .ok (.iaload, 1) := by decide +kernel
theorem dX7_comesOut_77 : decode cX7_comesOut 77 = .ok (.aload_n 0, 1) := by decide +kernel
theorem dX7_comesOut_78 : decode cX7_comesOut 78 = .ok (.getfield 35, 3) := by decide +kernel
theorem dX7_comesOut_81 : decode cX7_comesOut 81 = .ok (.getfield 251, 3) := by decide +kernel
theorem dX7_comesOut_84 : decode cX7_comesOut 84 = .ok (.iload_n 1, 1) := by decide +kernel
theorem dX7_comesOut_85 : decode cX7_comesOut 85 = .ok (.iaload, 1) := by decide +kernel
theorem dX7_comesOut_86 : decode cX7_comesOut 86 = .ok (.if_icmp .eq 5, 3) := by decide +kernel
theorem dX7_comesOut_89 : decode cX7_comesOut 89 = .ok (.iconst 0, 1) := by decide +kernel
theorem dX7_comesOut_90 : decode cX7_comesOut 90 = .ok (.ireturn, 1) := by decide +kernel
theorem dX7_comesOut_91 : decode cX7_comesOut 91 = .ok (.iinc 1 1, 3) := by decide +kernel
theorem dX7_comesOut_94 : decode cX7_comesOut 94 = .ok (.goto (-92), 3) := by decide +kernel
theorem dX7_comesOut_97 : decode cX7_comesOut 97 = .ok (.iconst 1, 1) := by decide +kernel
theorem dX7_comesOut_98 : decode cX7_comesOut 98 = .ok (.ireturn, 1) := by decide +kernel
theorem dX7_never_0 : decode cX7_never 0 = .ok (.iconst 0, 1) := by decide +kernel
theorem dX7_never_1 : decode cX7_never 1 = .ok (.istore_n 1, 1) := by decide +kernel
theorem dX7_never_2 : decode cX7_never 2 = .ok (.iconst 0, 1) := by decide +kernel
theorem dX7_never_3 : decode cX7_never 3 = .ok (.istore_n 2, 1) := by decide +kernel
theorem dX7_never_4 : decode cX7_never 4 = .ok (.iload_n 2, 1) := by decide +kernel
theorem dX7_never_5 : decode cX7_never 5 = .ok (.aload_n 0, 1) := by decide +kernel
theorem dX7_never_6 : decode cX7_never 6 = .ok (.getfield 24, 3) := by decide +kernel
theorem dX7_never_9 : decode cX7_never 9 = .ok (.getfield 140, 3) := by decide +kernel
theorem dX7_never_12 : decode cX7_never 12 = .ok (.if_icmp .ge 34, 3) := by decide +kernel
theorem dX7_never_15 : decode cX7_never 15 = .ok (.aload_n 0, 1) := by decide +kernel
theorem dX7_never_16 : decode cX7_never 16 = .ok (.getfield 50, 3) := by decide +kernel
theorem dX7_never_19 : decode cX7_never 19 = .ok (.aload_n 0, 1) := by decide +kernel
theorem dX7_never_20 : decode cX7_never 20 = .ok (.getfield 24, 3) := by decide +kernel
theorem dX7_never_23 : decode cX7_never 23 = .ok (.iload_n 2, 1) := by decide +kernel
theorem dX7_never_24 : decode cX7_never 24 = .ok (.invokevirtual 254, 3) := by decide +kernel
theorem dX7_never_27 : decode cX7_never 27 = .ok (.aload_n 0, 1) := by decide +kernel
theorem dX7_never_28 : decode cX7_never 28 = .ok (.invokevirtual 257, 3) := by decide +kernel
theorem dX7_never_31 : decode cX7_never 31 = .ok (.ifCond .eq 9, 3) := by decide +kernel
theorem dX7_never_34 : decode cX7_never 34 = .ok (.iload_n 1, 1) := by decide +kernel
theorem dX7_never_35 : decode cX7_never 35 = .ok (.iconst 1, 1) := by decide +kernel
theorem dX7_never_36 : decode cX7_never 36 = .ok (.iload_n 2, 1) := by decide +kernel
theorem dX7_never_37 : decode cX7_never 37 = .ok (.ishl, 1) := by decide +kernel
theorem dX7_never_38 : decode cX7_never 38 = .ok (.ior, 1) := by decide +kernel
theorem dX7_never_39 : decode cX7_never 39 = .ok (.istore_n 1, 1) := by decide +kernel
theorem dX7_never_40 : decode cX7_never 40 = .ok (.iinc 2 1, 3) := by decide +kernel
theorem dX7_never_43 : decode cX7_never 43 = .ok (.goto (-39), 3) := by decide +kernel
theorem dX7_never_46 : decode cX7_never 46 = .ok (.iload_n 1, 1) := by decide +kernel
theorem dX7_never_47 : decode cX7_never 47 = .ok (.ireturn, 1) := by decide +kernel
theorem dX7_place_0 : decode cX7_place 0 = .ok (.iload_n 1, 1) := by decide +kernel
theorem dX7_place_1 : decode cX7_place 1 = .ok (.aload_n 0, 1) := by decide +kernel
theorem dX7_place_2 : decode cX7_place 2 = .ok (.getfield 24, 3) := by decide +kernel
theorem dX7_place_5 : decode cX7_place 5 = .ok (.getfield 140, 3) := by decide +kernel
theorem dX7_place_8 : decode cX7_place 8 = .ok (.invokestatic 89, 3) := by decide +kernel
theorem dX7_place_11 : decode cX7_place 11 = .ok (.ifCond .ne 6, 3) := by decide +kernel
theorem dX7_place_14 : decode cX7_place 14 = .ok (.bipush (-2), 2) := by decide +kernel
theorem dX7_place_16 : decode cX7_place 16 = .ok (.ireturn, 1) := by decide +kernel
theorem dX7_place_17 : decode cX7_place 17 = .ok (.aload_n 0, 1) := by decide +kernel
theorem dX7_place_18 : decode cX7_place 18 = .ok (.getfield 50, 3) := by decide +kernel
theorem dX7_place_21 : decode cX7_place 21 = .ok (.aload_n 0, 1) := by decide +kernel
theorem dX7_place_22 : decode cX7_place 22 = .ok (.getfield 24, 3) := by decide +kernel
theorem dX7_place_25 : decode cX7_place 25 = .ok (.iconst (-1), 1) := by decide +kernel
theorem dX7_place_26 : decode cX7_place 26 = .ok (.invokevirtual 254, 3) := by decide +kernel
theorem dX7_place_29 : decode cX7_place 29 = .ok (.iconst 0, 1) := by decide +kernel
theorem dX7_place_30 : decode cX7_place 30 = .ok (.istore_n 2, 1) := by decide +kernel
theorem dX7_place_31 : decode cX7_place 31 = .ok (.iconst 0, 1) := by decide +kernel
theorem dX7_place_32 : decode cX7_place 32 = .ok (.istore_n 3, 1) := by decide +kernel
theorem dX7_place_33 : decode cX7_place 33 = .ok (.iload_n 3, 1) := by decide +kernel
theorem dX7_place_34 : decode cX7_place 34 = .ok (.bipush 10, 2) := by decide +kernel
theorem dX7_place_36 : decode cX7_place 36 = .ok (.if_icmp .ge 32, 3) := by decide +kernel
theorem dX7_place_39 : decode cX7_place 39 = .ok (.aload_n 0, 1) := by decide +kernel
theorem dX7_place_40 : decode cX7_place 40 = .ok (.getfield 50, 3) := by decide +kernel
theorem dX7_place_43 : decode cX7_place 43 = .ok (.getfield 148, 3) := by decide +kernel
theorem dX7_place_46 : decode cX7_place 46 = .ok (.iload_n 1, 1) := by decide +kernel
theorem dX7_place_47 : decode cX7_place 47 = .ok (.iload_n 3, 1) := by decide +kernel
theorem dX7_place_48 : decode cX7_place 48 = .ok (.iastore, 1) := by decide +kernel
theorem dX7_place_49 : decode cX7_place 49 = .ok (.aload_n 0, 1) := by decide +kernel
theorem dX7_place_50 : decode cX7_place 50 = .ok (.invokevirtual 257, 3) := by decide +kernel
theorem dX7_place_53 : decode cX7_place 53 = .ok (.ifCond .eq 9, 3) := by decide +kernel
theorem dX7_place_56 : decode cX7_place 56 = .ok (.iload_n 2, 1) := by decide +kernel
theorem dX7_place_57 : decode cX7_place 57 = .ok (.iconst 1, 1) := by decide +kernel
theorem dX7_place_58 : decode cX7_place 58 = .ok (.iload_n 3, 1) := by decide +kernel
theorem dX7_place_59 : decode cX7_place 59 = .ok (.ishl, 1) := by decide +kernel
theorem dX7_place_60 : decode cX7_place 60 = .ok (.ior, 1) := by decide +kernel
theorem dX7_place_61 : decode cX7_place 61 = .ok (.istore_n 2, 1) := by decide +kernel
theorem dX7_place_62 : decode cX7_place 62 = .ok (.iinc 3 1, 3) := by decide +kernel
theorem dX7_place_65 : decode cX7_place 65 = .ok (.goto (-32), 3) := by decide +kernel
theorem dX7_place_68 : decode cX7_place 68 = .ok (.iload_n 2, 1) := by decide +kernel
theorem dX7_place_69 : decode cX7_place 69 = .ok (.ireturn, 1) := by decide +kernel
theorem dX7_ask_0 : decode cX7_ask 0 = .ok (.aload_n 0, 1) := by decide +kernel
theorem dX7_ask_1 : decode cX7_ask 1 = .ok (.invokevirtual 261, 3) := by decide +kernel
theorem dX7_ask_4 : decode cX7_ask 4 = .ok (.istore_n 1, 1) := by decide +kernel
theorem dX7_ask_5 : decode cX7_ask 5 = .ok (.iconst (-1), 1) := by decide +kernel
theorem dX7_ask_6 : decode cX7_ask 6 = .ok (.istore_n 2, 1) := by decide +kernel
theorem dX7_ask_7 : decode cX7_ask 7 = .ok (.bipush 9, 2) := by decide +kernel
theorem dX7_ask_9 : decode cX7_ask 9 = .ok (.istore_n 3, 1) := by decide +kernel
theorem dX7_ask_10 : decode cX7_ask 10 = .ok (.iconst 0, 1) := by decide +kernel
theorem dX7_ask_11 : decode cX7_ask 11 = .ok (.istore 4, 2) := by decide +kernel
theorem dX7_ask_13 : decode cX7_ask 13 = .ok (.iload 4, 2) := by decide +kernel
theorem dX7_ask_15 : decode cX7_ask 15 = .ok (.aload_n 0, 1) := by decide +kernel
theorem dX7_ask_16 : decode cX7_ask 16 = .ok (.getfield 118, 3) := by decide +kernel
theorem dX7_ask_19 : decode cX7_ask 19 = .ok (.if_icmp .ge 30, 3) := by decide +kernel
theorem dX7_ask_22 : decode cX7_ask 22 = .ok (.aload_n 0, 1) := by decide +kernel
theorem dX7_ask_23 : decode cX7_ask 23 = .ok (.iload 4, 2) := by decide +kernel
theorem dX7_ask_25 : decode cX7_ask 25 = .ok (.iload_n 1, 1) := by decide +kernel
theorem dX7_ask_26 : decode cX7_ask 26 = .ok (.invokevirtual 264, 3) := by decide +kernel
theorem dX7_ask_29 : decode cX7_ask 29 = .ok (.istore 5, 2) := by decide +kernel
theorem dX7_ask_31 : decode cX7_ask 31 = .ok (.iload 5, 2) := by decide +kernel
theorem dX7_ask_33 : decode cX7_ask 33 = .ok (.iload_n 3, 1) := by decide +kernel
theorem dX7_ask_34 : decode cX7_ask 34 = .ok (.if_icmp .ge 9, 3) := by decide +kernel
theorem dX7_ask_37 : decode cX7_ask 37 = .ok (.iload 5, 2) := by decide +kernel
theorem dX7_ask_39 : decode cX7_ask 39 = .ok (.istore_n 3, 1) := by decide +kernel
theorem dX7_ask_40 : decode cX7_ask 40 = .ok (.iload 4, 2) := by decide +kernel
theorem dX7_ask_42 : decode cX7_ask 42 = .ok (.istore_n 2, 1) := by decide +kernel
theorem dX7_ask_43 : decode cX7_ask 43 = .ok (.iinc 4 1, 3) := by decide +kernel
theorem dX7_ask_46 : decode cX7_ask 46 = .ok (.goto (-33), 3) := by decide +kernel
theorem dX7_ask_49 : decode cX7_ask 49 = .ok (.iload_n 2, 1) := by decide +kernel
theorem dX7_ask_50 : decode cX7_ask 50 = .ok (.ireturn, 1) := by decide +kernel
theorem dX7_mostAlike_0 : decode cX7_mostAlike 0 = .ok (.aload_n 0, 1) := by decide +kernel
theorem dX7_mostAlike_1 : decode cX7_mostAlike 1 = .ok (.getfield 71, 3) := by decide +kernel
theorem dX7_mostAlike_4 : decode cX7_mostAlike 4 = .ok (.iconst 0, 1) := by decide +kernel
theorem dX7_mostAlike_5 : decode cX7_mostAlike 5 = .ok (.invokestatic 267, 3) := by decide +kernel
theorem dX7_mostAlike_8 : decode cX7_mostAlike 8 = .ok (.iconst 0, 1) := by decide +kernel
theorem dX7_mostAlike_9 : decode cX7_mostAlike 9 = .ok (.istore_n 3, 1) := by decide +kernel
theorem dX7_mostAlike_10 : decode cX7_mostAlike 10 = .ok (.iconst 0, 1) := by decide +kernel
theorem dX7_mostAlike_11 : decode cX7_mostAlike 11 = .ok (.istore 4, 2) := by decide +kernel
theorem dX7_mostAlike_13 : decode cX7_mostAlike 13 = .ok (.iload 4, 2) := by decide +kernel
theorem dX7_mostAlike_15 : decode cX7_mostAlike 15 = .ok (.aload_n 0, 1) := by decide +kernel
theorem dX7_mostAlike_16 : decode cX7_mostAlike 16 = .ok (.getfield 24, 3) := by decide +kernel
theorem dX7_mostAlike_19 : decode cX7_mostAlike 19 = .ok (.getfield 140, 3) := by decide +kernel
theorem dX7_mostAlike_22 : decode cX7_mostAlike 22 = .ok (.if_icmp .ge 85, 3) := by decide +kernel
theorem dX7_mostAlike_25 : decode cX7_mostAlike 25 = .ok (.iload_n 2, 1) := by decide +kernel
theorem dX7_mostAlike_26 : decode cX7_mostAlike 26 = .ok (.iload 4, 2) := by decide +kernel
theorem dX7_mostAlike_28 : decode cX7_mostAlike 28 = .ok (.ishr, 1) := by decide +kernel
theorem dX7_mostAlike_29 : decode cX7_mostAlike 29 = .ok (.iconst 1, 1) := by decide +kernel
theorem dX7_mostAlike_30 : decode cX7_mostAlike 30 = .ok (.iand, 1) := by decide +kernel
theorem dX7_mostAlike_31 : decode cX7_mostAlike 31 = .ok (.ifCond .eq 70, 3) := by decide +kernel
theorem dX7_mostAlike_34 : decode cX7_mostAlike 34 = .ok (.aload_n 0, 1) := by decide +kernel
theorem dX7_mostAlike_35 : decode cX7_mostAlike 35 = .ok (.getfield 50, 3) := by decide +kernel
theorem dX7_mostAlike_38 : decode cX7_mostAlike 38 = .ok (.aload_n 0, 1) := by decide +kernel
theorem dX7_mostAlike_39 : decode cX7_mostAlike 39 = .ok (.getfield 24, 3) := by decide +kernel
theorem dX7_mostAlike_42 : decode cX7_mostAlike 42 = .ok (.iload 4, 2) := by decide +kernel
theorem dX7_mostAlike_44 : decode cX7_mostAlike 44 = .ok (.invokevirtual 254, 3) := by decide +kernel
theorem dX7_mostAlike_47 : decode cX7_mostAlike 47 = .ok (.aload_n 0, 1) := by decide +kernel
theorem dX7_mostAlike_48 : decode cX7_mostAlike 48 = .ok (.getfield 56, 3) := by decide +kernel
theorem dX7_mostAlike_51 : decode cX7_mostAlike 51 = .ok (.aload_n 0, 1) := by decide +kernel
theorem dX7_mostAlike_52 : decode cX7_mostAlike 52 = .ok (.getfield 17, 3) := by decide +kernel
theorem dX7_mostAlike_55 : decode cX7_mostAlike 55 = .ok (.iload_n 1, 1) := by decide +kernel
theorem dX7_mostAlike_56 : decode cX7_mostAlike 56 = .ok (.aaload, 1) := by decide +kernel
theorem dX7_mostAlike_57 : decode cX7_mostAlike 57 = .ok (.aload_n 0, 1) := by decide +kernel
theorem dX7_mostAlike_58 : decode cX7_mostAlike 58 = .ok (.getfield 50, 3) := by decide +kernel
theorem dX7_mostAlike_61 : decode cX7_mostAlike 61 = .ok (.aload_n 0, 1) := by decide +kernel
theorem dX7_mostAlike_62 : decode cX7_mostAlike 62 = .ok (.getfield 28, 3) := by decide +kernel
theorem dX7_mostAlike_65 : decode cX7_mostAlike 65 = .ok (.invokevirtual 162, 3) := by decide +kernel
theorem dX7_mostAlike_68 : decode cX7_mostAlike 68 = .ok (.aload_n 0, 1) := by decide +kernel
theorem dX7_mostAlike_69 : decode cX7_mostAlike 69 = .ok (.getfield 71, 3) := by decide +kernel
theorem dX7_mostAlike_72 : decode cX7_mostAlike 72 = .ok (.aload_n 0, 1) := by decide +kernel
theorem dX7_mostAlike_73 : decode cX7_mostAlike 73 = .ok (.getfield 56, 3) := by decide +kernel
theorem dX7_mostAlike_76 : decode cX7_mostAlike 76 = .ok (.getfield 273, 3) := by decide +kernel
theorem dX7_mostAlike_79 : decode cX7_mostAlike 79 = .ok (.dup2, 1) := by decide +kernel
theorem dX7_mostAlike_80 : decode cX7_mostAlike 80 = .ok (.iaload, 1) := by decide +kernel
theorem dX7_mostAlike_81 : decode cX7_mostAlike 81 = .ok (.iconst 1, 1) := by decide +kernel
theorem dX7_mostAlike_82 : decode cX7_mostAlike 82 = .ok (.iadd, 1) := by decide +kernel
theorem dX7_mostAlike_83 : decode cX7_mostAlike 83 = .ok (.iastore, 1) := by decide +kernel
theorem dX7_mostAlike_84 : decode cX7_mostAlike 84 = .ok (.iload_n 3, 1) := by decide +kernel
theorem dX7_mostAlike_85 : decode cX7_mostAlike 85 = .ok (.aload_n 0, 1) := by decide +kernel
theorem dX7_mostAlike_86 : decode cX7_mostAlike 86 = .ok (.getfield 71, 3) := by decide +kernel
theorem dX7_mostAlike_89 : decode cX7_mostAlike 89 = .ok (.aload_n 0, 1) := by decide +kernel
theorem dX7_mostAlike_90 : decode cX7_mostAlike 90 = .ok (.getfield 56, 3) := by decide +kernel
theorem dX7_mostAlike_93 : decode cX7_mostAlike 93 = .ok (.getfield 273, 3) := by decide +kernel
theorem dX7_mostAlike_96 : decode cX7_mostAlike 96 = .ok (.iaload, 1) := by decide +kernel
theorem dX7_mostAlike_97 : decode cX7_mostAlike 97 = .ok (.invokestatic 197, 3) := by decide +kernel
theorem dX7_mostAlike_100 : decode cX7_mostAlike 100 = .ok (.istore_n 3, 1) := by decide +kernel
theorem dX7_mostAlike_101 : decode cX7_mostAlike 101 = .ok (.iinc 4 1, 3) := by decide +kernel
theorem dX7_mostAlike_104 : decode cX7_mostAlike 104 = .ok (.goto (-91), 3) := by decide +kernel
theorem dX7_mostAlike_107 : decode cX7_mostAlike 107 = .ok (.iload_n 3, 1) := by decide +kernel
theorem dX7_mostAlike_108 : decode cX7_mostAlike 108 = .ok (.ireturn, 1) := by decide +kernel
theorem dX7_feign_0 : decode cX7_feign 0 = .ok (.iload_n 1, 1) := by decide +kernel
theorem dX7_feign_1 : decode cX7_feign 1 = .ok (.bipush 17, 2) := by decide +kernel
theorem dX7_feign_3 : decode cX7_feign 3 = .ok (.invokestatic 89, 3) := by decide +kernel
theorem dX7_feign_6 : decode cX7_feign 6 = .ok (.ifCond .eq 25, 3) := by decide +kernel
theorem dX7_feign_9 : decode cX7_feign 9 = .ok (.iload_n 2, 1) := by decide +kernel
theorem dX7_feign_10 : decode cX7_feign 10 = .ok (.aload_n 0, 1) := by decide +kernel
theorem dX7_feign_11 : decode cX7_feign 11 = .ok (.getfield 24, 3) := by decide +kernel
theorem dX7_feign_14 : decode cX7_feign 14 = .ok (.getfield 140, 3) := by decide +kernel
theorem dX7_feign_17 : decode cX7_feign 17 = .ok (.invokestatic 89, 3) := by decide +kernel
theorem dX7_feign_20 : decode cX7_feign 20 = .ok (.ifCond .eq 11, 3) := by decide +kernel
theorem dX7_feign_23 : decode cX7_feign 23 = .ok (.iload_n 3, 1) := by decide +kernel
theorem dX7_feign_24 : decode cX7_feign 24 = .ok (.iconst 2, 1) := by decide +kernel
theorem dX7_feign_25 : decode cX7_feign 25 = .ok (.invokestatic 89, 3) := by decide +kernel
theorem dX7_feign_28 : decode cX7_feign 28 = .ok (.ifCond .ne 9, 3) := by decide +kernel
theorem dX7_feign_31 : decode cX7_feign 31 = .ok (.bipush (-2), 2) := by decide +kernel
theorem dX7_feign_33 : decode cX7_feign 33 = .ok (.invokestatic 275, 3) := by decide +kernel
theorem dX7_feign_36 : decode cX7_feign 36 = .ok (.lreturn, 1) := by decide +kernel
theorem dX7_feign_37 : decode cX7_feign 37 = .ok (.aload_n 0, 1) := by decide +kernel
theorem dX7_feign_38 : decode cX7_feign 38 = .ok (.aload_n 0, 1) := by decide +kernel
theorem dX7_feign_39 : decode cX7_feign 39 = .ok (.getfield 24, 3) := by decide +kernel
theorem dX7_feign_42 : decode cX7_feign 42 = .ok (.invokevirtual 185, 3) := by decide +kernel
theorem dX7_feign_45 : decode cX7_feign 45 = .ok (.aload_n 0, 1) := by decide +kernel
theorem dX7_feign_46 : decode cX7_feign 46 = .ok (.getfield 63, 3) := by decide +kernel
theorem dX7_feign_49 : decode cX7_feign 49 = .ok (.iload_n 2, 1) := by decide +kernel
theorem dX7_feign_50 : decode cX7_feign 50 = .ok (.invokevirtual 189, 3) := by decide +kernel
theorem dX7_feign_53 : decode cX7_feign 53 = .ok (.invokestatic 192, 3) := by decide +kernel
theorem dX7_feign_56 : decode cX7_feign 56 = .ok (.istore 4, 2) := by decide +kernel
theorem dX7_feign_58 : decode cX7_feign 58 = .ok (.aload_n 0, 1) := by decide +kernel
theorem dX7_feign_59 : decode cX7_feign 59 = .ok (.iload 4, 2) := by decide +kernel
theorem dX7_feign_61 : decode cX7_feign 61 = .ok (.iload_n 1, 1) := by decide +kernel
theorem dX7_feign_62 : decode cX7_feign 62 = .ok (.invokevirtual 279, 3) := by decide +kernel
theorem dX7_feign_65 : decode cX7_feign 65 = .ok (.lconst 0, 1) := by decide +kernel
theorem dX7_feign_66 : decode cX7_feign 66 = .ok (.lstore 5, 2) := by decide +kernel
theorem dX7_feign_68 : decode cX7_feign 68 = .ok (.aload_n 0, 1) := by decide +kernel
theorem dX7_feign_69 : decode cX7_feign 69 = .ok (.getfield 28, 3) := by decide +kernel
theorem dX7_feign_72 : decode cX7_feign 72 = .ok (.iconst 2, 1) := by decide +kernel
theorem dX7_feign_73 : decode cX7_feign 73 = .ok (.iaload, 1) := by decide +kernel
theorem dX7_feign_74 : decode cX7_feign 74 = .ok (.istore 7, 2) := by decide +kernel
theorem dX7_feign_76 : decode cX7_feign 76 = .ok (.iload 7, 2) := by decide +kernel
theorem dX7_feign_78 : decode cX7_feign 78 = .ok (.iload 4, 2) := by decide +kernel
theorem dX7_feign_80 : decode cX7_feign 80 = .ok (.if_icmp .gt 21, 3) := by decide +kernel
theorem dX7_feign_83 : decode cX7_feign 83 = .ok (.lload 5, 2) := by decide +kernel
theorem dX7_feign_85 : decode cX7_feign 85 = .ok (.aload_n 0, 1) := by decide +kernel
theorem dX7_feign_86 : decode cX7_feign 86 = .ok (.getfield 74, 3) := by decide +kernel
theorem dX7_feign_89 : decode cX7_feign 89 = .ok (.iload 7, 2) := by decide +kernel
theorem dX7_feign_91 : decode cX7_feign 91 = .ok (.laload, 1) := by decide +kernel
theorem dX7_feign_92 : decode cX7_feign 92 = .ok (.ladd, 1) := by decide +kernel
theorem dX7_feign_93 : decode cX7_feign 93 = .ok (.lstore 5, 2) := by decide +kernel
theorem dX7_feign_95 : decode cX7_feign 95 = .ok (.iinc 7 1, 3) := by decide +kernel
theorem dX7_feign_98 : decode cX7_feign 98 = .ok (.goto (-22), 3) := by decide +kernel
theorem dX7_feign_101 : decode cX7_feign 101 = .ok (.lconst 1, 1) := by decide +kernel
theorem dX7_feign_102 : decode cX7_feign 102 = .ok (.iconst 4, 1) := by decide +kernel
theorem dX7_feign_103 : decode cX7_feign 103 = .ok (.iload 4, 2) := by decide +kernel
theorem dX7_feign_105 : decode cX7_feign 105 = .ok (.imul, 1) := by decide +kernel
theorem dX7_feign_106 : decode cX7_feign 106 = .ok (.lshl, 1) := by decide +kernel
theorem dX7_feign_107 : decode cX7_feign 107 = .ok (.lstore 7, 2) := by decide +kernel
theorem dX7_feign_109 : decode cX7_feign 109 = .ok (.iconst 0, 1) := by decide +kernel
theorem dX7_feign_110 : decode cX7_feign 110 = .ok (.istore 9, 2) := by decide +kernel
theorem dX7_feign_112 : decode cX7_feign 112 = .ok (.iload 9, 2) := by decide +kernel
theorem dX7_feign_114 : decode cX7_feign 114 = .ok (.bipush 32, 2) := by decide +kernel
theorem dX7_feign_116 : decode cX7_feign 116 = .ok (.if_icmp .ge 37, 3) := by decide +kernel
theorem dX7_feign_119 : decode cX7_feign 119 = .ok (.lload 7, 2) := by decide +kernel
theorem dX7_feign_121 : decode cX7_feign 121 = .ok (.lconst 1, 1) := by decide +kernel
theorem dX7_feign_122 : decode cX7_feign 122 = .ok (.lcmp, 1) := by decide +kernel
theorem dX7_feign_123 : decode cX7_feign 123 = .ok (.ifCond .le 30, 3) := by decide +kernel
theorem dX7_feign_126 : decode cX7_feign 126 = .ok (.lload 5, 2) := by decide +kernel
theorem dX7_feign_128 : decode cX7_feign 128 = .ok (.lconst 1, 1) := by decide +kernel
theorem dX7_feign_129 : decode cX7_feign 129 = .ok (.land, 1) := by decide +kernel
theorem dX7_feign_130 : decode cX7_feign 130 = .ok (.lconst 0, 1) := by decide +kernel
theorem dX7_feign_131 : decode cX7_feign 131 = .ok (.lcmp, 1) := by decide +kernel
theorem dX7_feign_132 : decode cX7_feign 132 = .ok (.ifCond .ne 21, 3) := by decide +kernel
theorem dX7_feign_135 : decode cX7_feign 135 = .ok (.lload 5, 2) := by decide +kernel
theorem dX7_feign_137 : decode cX7_feign 137 = .ok (.iconst 1, 1) := by decide +kernel
theorem dX7_feign_138 : decode cX7_feign 138 = .ok (.lshr, 1) := by decide +kernel
theorem dX7_feign_139 : decode cX7_feign 139 = .ok (.lstore 5, 2) := by decide +kernel
theorem dX7_feign_141 : decode cX7_feign 141 = .ok (.lload 7, 2) := by decide +kernel
theorem dX7_feign_143 : decode cX7_feign 143 = .ok (.iconst 1, 1) := by decide +kernel
theorem dX7_feign_144 : decode cX7_feign 144 = .ok (.lshr, 1) := by decide +kernel
theorem dX7_feign_145 : decode cX7_feign 145 = .ok (.lstore 7, 2) := by decide +kernel
theorem dX7_feign_147 : decode cX7_feign 147 = .ok (.iinc 9 1, 3) := by decide +kernel
theorem dX7_feign_150 : decode cX7_feign 150 = .ok (.goto (-38), 3) := by decide +kernel
theorem dX7_feign_153 : decode cX7_feign 153 = .ok (.iload_n 3, 1) := by decide +kernel
theorem dX7_feign_154 : decode cX7_feign 154 = .ok (.ifCond .ne 8, 3) := by decide +kernel
theorem dX7_feign_157 : decode cX7_feign 157 = .ok (.lload 5, 2) := by decide +kernel
theorem dX7_feign_159 : decode cX7_feign 159 = .ok (.goto 5, 3) := by decide +kernel
theorem dX7_feign_162 : decode cX7_feign 162 = .ok (.lload 7, 2) := by decide +kernel
theorem dX7_feign_164 : decode cX7_feign 164 = .ok (.lreturn, 1) := by decide +kernel
theorem dX7_spreadWays_0 : decode cX7_spreadWays 0 = .ok (.aload_n 0, 1) := by decide +kernel
theorem dX7_spreadWays_1 : decode cX7_spreadWays 1 = .ok (.getfield 74, 3) := by decide +kernel
theorem dX7_spreadWays_4 : decode cX7_spreadWays 4 = .ok (.lconst 0, 1) := by decide +kernel
theorem dX7_spreadWays_5 : decode cX7_spreadWays 5 = .ok (.invokestatic 283, 3) := by decide +kernel
theorem dX7_spreadWays_8 : decode cX7_spreadWays 8 = .ok (.aload_n 0, 1) := by decide +kernel
theorem dX7_spreadWays_9 : decode cX7_spreadWays 9 = .ok (.getfield 74, 3) := by decide +kernel
theorem dX7_spreadWays_12 : decode cX7_spreadWays 12 = .ok (.iconst 0, 1) := by decide +kernel
theorem dX7_spreadWays_13 : decode cX7_spreadWays 13 = .ok (.lconst 1, 1) := by decide +kernel
theorem dX7_spreadWays_14 : decode cX7_spreadWays 14 = .ok (.lastore, 1) := by decide +kernel
theorem dX7_spreadWays_15 : decode cX7_spreadWays 15 = .ok (.iconst 1, 1) := by decide +kernel
theorem dX7_spreadWays_16 : decode cX7_spreadWays 16 = .ok (.istore_n 3, 1) := by decide +kernel
theorem dX7_spreadWays_17 : decode cX7_spreadWays 17 = .ok (.iload_n 3, 1) := by decide +kernel
theorem dX7_spreadWays_18 : decode cX7_spreadWays 18 = .ok (.iload_n 1, 1) := by decide +kernel
theorem dX7_spreadWays_19 : decode cX7_spreadWays 19 = .ok (.if_icmp .gt 73, 3) := by decide +kernel
theorem dX7_spreadWays_22 : decode cX7_spreadWays 22 = .ok (.iload_n 3, 1) := by decide +kernel
theorem dX7_spreadWays_23 : decode cX7_spreadWays 23 = .ok (.bipush 8, 2) := by decide +kernel
theorem dX7_spreadWays_25 : decode cX7_spreadWays 25 = .ok (.if_icmp .gt 67, 3) := by decide +kernel
theorem dX7_spreadWays_28 : decode cX7_spreadWays 28 = .ok (.iload_n 3, 1) := by decide +kernel
theorem dX7_spreadWays_29 : decode cX7_spreadWays 29 = .ok (.istore 4, 2) := by decide +kernel
theorem dX7_spreadWays_31 : decode cX7_spreadWays 31 = .ok (.iload 4, 2) := by decide +kernel
theorem dX7_spreadWays_33 : decode cX7_spreadWays 33 = .ok (.ifCond .le 42, 3) := by decide +kernel
theorem dX7_spreadWays_36 : decode cX7_spreadWays 36 = .ok (.aload_n 0, 1) := by decide +kernel
theorem dX7_spreadWays_37 : decode cX7_spreadWays 37 = .ok (.getfield 74, 3) := by decide +kernel
theorem dX7_spreadWays_40 : decode cX7_spreadWays 40 = .ok (.iload 4, 2) := by decide +kernel
theorem dX7_spreadWays_42 : decode cX7_spreadWays 42 = .ok (.aload_n 0, 1) := by decide +kernel
theorem dX7_spreadWays_43 : decode cX7_spreadWays 43 = .ok (.getfield 74, 3) := by decide +kernel
theorem dX7_spreadWays_46 : decode cX7_spreadWays 46 = .ok (.iload 4, 2) := by decide +kernel
theorem dX7_spreadWays_48 : decode cX7_spreadWays 48 = .ok (.laload, 1) := by decide +kernel
theorem dX7_spreadWays_49 : decode cX7_spreadWays 49 = .ok (.iload_n 2, 1) := by decide +kernel
theorem dX7_spreadWays_50 : decode cX7_spreadWays 50 = .ok (.i2l, 1) := by decide +kernel
theorem dX7_spreadWays_51 : decode cX7_spreadWays 51 = .ok (.lmul, 1) := by decide +kernel
theorem dX7_spreadWays_52 : decode cX7_spreadWays 52 = .ok (.aload_n 0, 1) := by decide +kernel
theorem dX7_spreadWays_53 : decode cX7_spreadWays 53 = .ok (.getfield 74, 3) := by decide +kernel
theorem dX7_spreadWays_56 : decode cX7_spreadWays 56 = .ok (.iload 4, 2) := by decide +kernel
theorem dX7_spreadWays_58 : decode cX7_spreadWays 58 = .ok (.iconst 1, 1) := by decide +kernel
theorem dX7_spreadWays_59 : decode cX7_spreadWays 59 = .ok (.isub, 1) := by decide +kernel
theorem dX7_spreadWays_60 : decode cX7_spreadWays 60 = .ok (.laload, 1) := by decide +kernel
theorem dX7_spreadWays_61 : decode cX7_spreadWays 61 = .ok (.bipush 16, 2) := by decide +kernel
theorem dX7_spreadWays_63 : decode cX7_spreadWays 63 = .ok (.iload_n 2, 1) := by decide +kernel
theorem dX7_spreadWays_64 : decode cX7_spreadWays 64 = .ok (.isub, 1) := by decide +kernel
theorem dX7_spreadWays_65 : decode cX7_spreadWays 65 = .ok (.i2l, 1) := by decide +kernel
theorem dX7_spreadWays_66 : decode cX7_spreadWays 66 = .ok (.lmul, 1) := by decide +kernel
theorem dX7_spreadWays_67 : decode cX7_spreadWays 67 = .ok (.ladd, 1) := by decide +kernel
theorem dX7_spreadWays_68 : decode cX7_spreadWays 68 = .ok (.lastore, 1) := by decide +kernel
theorem dX7_spreadWays_69 : decode cX7_spreadWays 69 = .ok (.iinc 4 (-1), 3) := by decide +kernel
theorem dX7_spreadWays_72 : decode cX7_spreadWays 72 = .ok (.goto (-41), 3) := by decide +kernel
theorem dX7_spreadWays_75 : decode cX7_spreadWays 75 = .ok (.aload_n 0, 1) := by decide +kernel
theorem dX7_spreadWays_76 : decode cX7_spreadWays 76 = .ok (.getfield 74, 3) := by decide +kernel
theorem dX7_spreadWays_79 : decode cX7_spreadWays 79 = .ok (.iconst 0, 1) := by decide +kernel
theorem dX7_spreadWays_80 : decode cX7_spreadWays 80 = .ok (.dup2, 1) := by decide +kernel
theorem dX7_spreadWays_81 : decode cX7_spreadWays 81 = .ok (.laload, 1) := by decide +kernel
theorem dX7_spreadWays_82 : decode cX7_spreadWays 82 = .ok (.iload_n 2, 1) := by decide +kernel
theorem dX7_spreadWays_83 : decode cX7_spreadWays 83 = .ok (.i2l, 1) := by decide +kernel
theorem dX7_spreadWays_84 : decode cX7_spreadWays 84 = .ok (.lmul, 1) := by decide +kernel
theorem dX7_spreadWays_85 : decode cX7_spreadWays 85 = .ok (.lastore, 1) := by decide +kernel
theorem dX7_spreadWays_86 : decode cX7_spreadWays 86 = .ok (.iinc 3 1, 3) := by decide +kernel
theorem dX7_spreadWays_89 : decode cX7_spreadWays 89 = .ok (.goto (-72), 3) := by decide +kernel
theorem dX7_spreadWays_92 : decode cX7_spreadWays 92 = .ok (.return_, 1) := by decide +kernel
theorem dX7_court_0 : decode cX7_court 0 = .ok (.iload_n 2, 1) := by decide +kernel
theorem dX7_court_1 : decode cX7_court 1 = .ok (.iconst 1, 1) := by decide +kernel
theorem dX7_court_2 : decode cX7_court 2 = .ok (.if_icmp .lt 17, 3) := by decide +kernel
theorem dX7_court_5 : decode cX7_court 5 = .ok (.iload_n 2, 1) := by decide +kernel
theorem dX7_court_6 : decode cX7_court 6 = .ok (.bipush 8, 2) := by decide +kernel
theorem dX7_court_8 : decode cX7_court 8 = .ok (.if_icmp .gt 11, 3) := by decide +kernel
theorem dX7_court_11 : decode cX7_court 11 = .ok (.iload_n 3, 1) := by decide +kernel
theorem dX7_court_12 : decode cX7_court 12 = .ok (.iconst 2, 1) := by decide +kernel
theorem dX7_court_13 : decode cX7_court 13 = .ok (.invokestatic 89, 3) := by decide +kernel
theorem dX7_court_16 : decode cX7_court 16 = .ok (.ifCond .ne 6, 3) := by decide +kernel
theorem dX7_court_19 : decode cX7_court 19 = .ok (.bipush (-2), 2) := by decide +kernel
theorem dX7_court_21 : decode cX7_court 21 = .ok (.ireturn, 1) := by decide +kernel
theorem dX7_court_22 : decode cX7_court 22 = .ok (.aload_n 0, 1) := by decide +kernel
theorem dX7_court_23 : decode cX7_court 23 = .ok (.getfield 50, 3) := by decide +kernel
theorem dX7_court_26 : decode cX7_court 26 = .ok (.iconst 0, 1) := by decide +kernel
theorem dX7_court_27 : decode cX7_court 27 = .ok (.putfield 140, 3) := by decide +kernel
theorem dX7_court_30 : decode cX7_court 30 = .ok (.iload_n 1, 1) := by decide +kernel
theorem dX7_court_31 : decode cX7_court 31 = .ok (.istore 4, 2) := by decide +kernel
theorem dX7_court_33 : decode cX7_court 33 = .ok (.iconst 0, 1) := by decide +kernel
theorem dX7_court_34 : decode cX7_court 34 = .ok (.istore 5, 2) := by decide +kernel
theorem dX7_court_36 : decode cX7_court 36 = .ok (.iload 5, 2) := by decide +kernel
theorem dX7_court_38 : decode cX7_court 38 = .ok (.iload_n 2, 1) := by decide +kernel
theorem dX7_court_39 : decode cX7_court 39 = .ok (.if_icmp .ge 61, 3) := by decide +kernel
theorem dX7_court_42 : decode cX7_court 42 = .ok (.iload 4, 2) := by decide +kernel
theorem dX7_court_44 : decode cX7_court 44 = .ok (.invokestatic 286, 3) := by decide +kernel
theorem dX7_court_47 : decode cX7_court 47 = .ok (.istore 4, 2) := by decide +kernel
theorem dX7_court_49 : decode cX7_court 49 = .ok (.iload 4, 2) := by decide +kernel
theorem dX7_court_51 : decode cX7_court 51 = .ok (.invokestatic 286, 3) := by decide +kernel
theorem dX7_court_54 : decode cX7_court 54 = .ok (.istore 6, 2) := by decide +kernel
theorem dX7_court_56 : decode cX7_court 56 = .ok (.iload 6, 2) := by decide +kernel
theorem dX7_court_58 : decode cX7_court 58 = .ok (.invokestatic 286, 3) := by decide +kernel
theorem dX7_court_61 : decode cX7_court 61 = .ok (.istore 7, 2) := by decide +kernel
theorem dX7_court_63 : decode cX7_court 63 = .ok (.aload_n 0, 1) := by decide +kernel
theorem dX7_court_64 : decode cX7_court 64 = .ok (.getfield 50, 3) := by decide +kernel
theorem dX7_court_67 : decode cX7_court 67 = .ok (.iload 4, 2) := by decide +kernel
theorem dX7_court_69 : decode cX7_court 69 = .ok (.bipush 50, 2) := by decide +kernel
theorem dX7_court_71 : decode cX7_court 71 = .ok (.invokestatic 289, 3) := by decide +kernel
theorem dX7_court_74 : decode cX7_court 74 = .ok (.iload 6, 2) := by decide +kernel
theorem dX7_court_76 : decode cX7_court 76 = .ok (.bipush 10, 2) := by decide +kernel
theorem dX7_court_78 : decode cX7_court 78 = .ok (.invokestatic 289, 3) := by decide +kernel
theorem dX7_court_81 : decode cX7_court 81 = .ok (.iload 7, 2) := by decide +kernel
theorem dX7_court_83 : decode cX7_court 83 = .ok (.iconst 4, 1) := by decide +kernel
theorem dX7_court_84 : decode cX7_court 84 = .ok (.invokestatic 289, 3) := by decide +kernel
theorem dX7_court_87 : decode cX7_court 87 = .ok (.invokevirtual 141, 3) := by decide +kernel
theorem dX7_court_90 : decode cX7_court 90 = .ok (.iload 7, 2) := by decide +kernel
theorem dX7_court_92 : decode cX7_court 92 = .ok (.istore 4, 2) := by decide +kernel
theorem dX7_court_94 : decode cX7_court 94 = .ok (.iinc 5 1, 3) := by decide +kernel
theorem dX7_court_97 : decode cX7_court 97 = .ok (.goto (-61), 3) := by decide +kernel
theorem dX7_court_100 : decode cX7_court 100 = .ok (.aload_n 0, 1) := by decide +kernel
theorem dX7_court_101 : decode cX7_court 101 = .ok (.aload_n 0, 1) := by decide +kernel
theorem dX7_court_102 : decode cX7_court 102 = .ok (.getfield 50, 3) := by decide +kernel
theorem dX7_court_105 : decode cX7_court 105 = .ok (.invokevirtual 185, 3) := by decide +kernel
theorem dX7_court_108 : decode cX7_court 108 = .ok (.iload_n 3, 1) := by decide +kernel
theorem dX7_court_109 : decode cX7_court 109 = .ok (.ifCond .ne 14, 3) := by decide +kernel
theorem dX7_court_112 : decode cX7_court 112 = .ok (.aload_n 0, 1) := by decide +kernel
theorem dX7_court_113 : decode cX7_court 113 = .ok (.aload_n 0, 1) := by decide +kernel
theorem dX7_court_114 : decode cX7_court 114 = .ok (.getfield 50, 3) := by decide +kernel
theorem dX7_court_117 : decode cX7_court 117 = .ok (.invokevirtual 221, 3) := by decide +kernel
theorem dX7_court_120 : decode cX7_court 120 = .ok (.goto 10, 3) := by decide +kernel
theorem dX7_court_123 : decode cX7_court 123 = .ok (.aload_n 0, 1) := by decide +kernel
theorem dX7_court_124 : decode cX7_court 124 = .ok (.getfield 63, 3) := by decide +kernel
theorem dX7_court_127 : decode cX7_court 127 = .ok (.getfield 292, 3) := by decide +kernel
theorem dX7_court_130 : decode cX7_court 130 = .ok (.ireturn, 1) := by decide +kernel
theorem dX7_nextSeed_0 : decode cX7_nextSeed 0 = .ok (.ldc_w 293, 3) := by decide +kernel
theorem dX7_nextSeed_3 : decode cX7_nextSeed 3 = .ok (.iload_n 0, 1) := by decide +kernel
theorem dX7_nextSeed_4 : decode cX7_nextSeed 4 = .ok (.imul, 1) := by decide +kernel
theorem dX7_nextSeed_5 : decode cX7_nextSeed 5 = .ok (.sipush 12345, 3) := by decide +kernel
theorem dX7_nextSeed_8 : decode cX7_nextSeed 8 = .ok (.iadd, 1) := by decide +kernel
theorem dX7_nextSeed_9 : decode cX7_nextSeed 9 = .ok (.ireturn, 1) := by decide +kernel
theorem dX7_lot_0 : decode cX7_lot 0 = .ok (.iload_n 1, 1) := by decide +kernel
theorem dX7_lot_1 : decode cX7_lot 1 = .ok (.ifCond .le 12, 3) := by decide +kernel
theorem dX7_lot_4 : decode cX7_lot 4 = .ok (.iload_n 0, 1) := by decide +kernel
theorem dX7_lot_5 : decode cX7_lot 5 = .ok (.bipush 16, 2) := by decide +kernel
theorem dX7_lot_7 : decode cX7_lot 7 = .ok (.iushr, 1) := by decide +kernel
theorem dX7_lot_8 : decode cX7_lot 8 = .ok (.iload_n 1, 1) := by decide +kernel
theorem dX7_lot_9 : decode cX7_lot 9 = .ok (.irem, 1) := by decide +kernel
theorem dX7_lot_10 : decode cX7_lot 10 = .ok (.goto 4, 3) := by decide +kernel
theorem dX7_lot_13 : decode cX7_lot 13 = .ok (.iconst 0, 1) := by decide +kernel
theorem dX7_lot_14 : decode cX7_lot 14 = .ok (.ireturn, 1) := by decide +kernel
theorem dX7_found_0 : decode cX7_found 0 = .ok (.aload_n 0, 1) := by decide +kernel
theorem dX7_found_1 : decode cX7_found 1 = .ok (.iload_n 1, 1) := by decide +kernel
theorem dX7_found_2 : decode cX7_found 2 = .ok (.putfield 294, 3) := by decide +kernel
theorem dX7_found_5 : decode cX7_found 5 = .ok (.bipush (-10), 2) := by decide +kernel
theorem dX7_found_7 : decode cX7_found 7 = .ok (.iload_n 1, 1) := by decide +kernel
theorem dX7_found_8 : decode cX7_found 8 = .ok (.isub, 1) := by decide +kernel
theorem dX7_found_9 : decode cX7_found 9 = .ok (.ireturn, 1) := by decide +kernel
theorem dX7_sheet_0 : decode cX7_sheet 0 = .ok (.iload_n 1, 1) := by decide +kernel
theorem dX7_sheet_1 : decode cX7_sheet 1 = .ok (.iconst 4, 1) := by decide +kernel
theorem dX7_sheet_2 : decode cX7_sheet 2 = .ok (.invokestatic 89, 3) := by decide +kernel
theorem dX7_sheet_5 : decode cX7_sheet 5 = .ok (.ifCond .eq 17, 3) := by decide +kernel
theorem dX7_sheet_8 : decode cX7_sheet 8 = .ok (.iload_n 2, 1) := by decide +kernel
theorem dX7_sheet_9 : decode cX7_sheet 9 = .ok (.iconst 3, 1) := by decide +kernel
theorem dX7_sheet_10 : decode cX7_sheet 10 = .ok (.invokestatic 89, 3) := by decide +kernel
theorem dX7_sheet_13 : decode cX7_sheet 13 = .ok (.ifCond .eq 9, 3) := by decide +kernel
theorem dX7_sheet_16 : decode cX7_sheet 16 = .ok (.iload_n 3, 1) := by decide +kernel
theorem dX7_sheet_17 : decode cX7_sheet 17 = .ok (.bipush 60, 2) := by decide +kernel
theorem dX7_sheet_19 : decode cX7_sheet 19 = .ok (.if_icmp .le 6, 3) := by decide +kernel
theorem dX7_sheet_22 : decode cX7_sheet 22 = .ok (.bipush (-2), 2) := by decide +kernel
theorem dX7_sheet_24 : decode cX7_sheet 24 = .ok (.ireturn, 1) := by decide +kernel
theorem dX7_sheet_25 : decode cX7_sheet 25 = .ok (.iload_n 3, 1) := by decide +kernel
theorem dX7_sheet_26 : decode cX7_sheet 26 = .ok (.ifCond .ge 9, 3) := by decide +kernel
theorem dX7_sheet_29 : decode cX7_sheet 29 = .ok (.aload_n 0, 1) := by decide +kernel
theorem dX7_sheet_30 : decode cX7_sheet 30 = .ok (.iconst 5, 1) := by decide +kernel
theorem dX7_sheet_31 : decode cX7_sheet 31 = .ok (.invokevirtual 237, 3) := by decide +kernel
theorem dX7_sheet_34 : decode cX7_sheet 34 = .ok (.ireturn, 1) := by decide +kernel
theorem dX7_sheet_35 : decode cX7_sheet 35 = .ok (.aload_n 0, 1) := by decide +kernel
theorem dX7_sheet_36 : decode cX7_sheet 36 = .ok (.getfield 41, 3) := by decide +kernel
theorem dX7_sheet_39 : decode cX7_sheet 39 = .ok (.iload_n 1, 1) := by decide +kernel
theorem dX7_sheet_40 : decode cX7_sheet 40 = .ok (.aaload, 1) := by decide +kernel
theorem dX7_sheet_41 : decode cX7_sheet 41 = .ok (.iload_n 2, 1) := by decide +kernel
theorem dX7_sheet_42 : decode cX7_sheet 42 = .ok (.iload_n 3, 1) := by decide +kernel
theorem dX7_sheet_43 : decode cX7_sheet 43 = .ok (.invokevirtual 297, 3) := by decide +kernel
theorem dX7_sheet_46 : decode cX7_sheet 46 = .ok (.iload_n 3, 1) := by decide +kernel
theorem dX7_sheet_47 : decode cX7_sheet 47 = .ok (.ireturn, 1) := by decide +kernel
theorem dX7_lose_0 : decode cX7_lose 0 = .ok (.iload_n 1, 1) := by decide +kernel
theorem dX7_lose_1 : decode cX7_lose 1 = .ok (.iconst 4, 1) := by decide +kernel
theorem dX7_lose_2 : decode cX7_lose 2 = .ok (.invokestatic 89, 3) := by decide +kernel
theorem dX7_lose_5 : decode cX7_lose 5 = .ok (.ifCond .ne 6, 3) := by decide +kernel
theorem dX7_lose_8 : decode cX7_lose 8 = .ok (.bipush (-2), 2) := by decide +kernel
theorem dX7_lose_10 : decode cX7_lose 10 = .ok (.ireturn, 1) := by decide +kernel
theorem dX7_lose_11 : decode cX7_lose 11 = .ok (.aload_n 0, 1) := by decide +kernel
theorem dX7_lose_12 : decode cX7_lose 12 = .ok (.getfield 41, 3) := by decide +kernel
theorem dX7_lose_15 : decode cX7_lose 15 = .ok (.iload_n 1, 1) := by decide +kernel
theorem dX7_lose_16 : decode cX7_lose 16 = .ok (.aaload, 1) := by decide +kernel
theorem dX7_lose_17 : decode cX7_lose 17 = .ok (.getfield 233, 3) := by decide +kernel
theorem dX7_lose_20 : decode cX7_lose 20 = .ok (.ifCond .eq 9, 3) := by decide +kernel
theorem dX7_lose_23 : decode cX7_lose 23 = .ok (.aload_n 0, 1) := by decide +kernel
theorem dX7_lose_24 : decode cX7_lose 24 = .ok (.iconst 1, 1) := by decide +kernel
theorem dX7_lose_25 : decode cX7_lose 25 = .ok (.invokevirtual 237, 3) := by decide +kernel
theorem dX7_lose_28 : decode cX7_lose 28 = .ok (.ireturn, 1) := by decide +kernel
theorem dX7_lose_29 : decode cX7_lose 29 = .ok (.aload_n 0, 1) := by decide +kernel
theorem dX7_lose_30 : decode cX7_lose 30 = .ok (.getfield 41, 3) := by decide +kernel
theorem dX7_lose_33 : decode cX7_lose 33 = .ok (.iload_n 1, 1) := by decide +kernel
theorem dX7_lose_34 : decode cX7_lose 34 = .ok (.aaload, 1) := by decide +kernel
theorem dX7_lose_35 : decode cX7_lose 35 = .ok (.iconst 1, 1) := by decide +kernel
theorem dX7_lose_36 : decode cX7_lose 36 = .ok (.putfield 233, 3) := by decide +kernel
theorem dX7_lose_39 : decode cX7_lose 39 = .ok (.aload_n 0, 1) := by decide +kernel
theorem dX7_lose_40 : decode cX7_lose 40 = .ok (.getfield 41, 3) := by decide +kernel
theorem dX7_lose_43 : decode cX7_lose 43 = .ok (.iload_n 1, 1) := by decide +kernel
theorem dX7_lose_44 : decode cX7_lose 44 = .ok (.aaload, 1) := by decide +kernel
theorem dX7_lose_45 : decode cX7_lose 45 = .ok (.getfield 240, 3) := by decide +kernel
theorem dX7_lose_48 : decode cX7_lose 48 = .ok (.ireturn, 1) := by decide +kernel
theorem dX7_findingAt_0 : decode cX7_findingAt 0 = .ok (.aload_n 1, 1) := by decide +kernel
theorem dX7_findingAt_1 : decode cX7_findingAt 1 = .ok (.getfield 233, 3) := by decide +kernel
theorem dX7_findingAt_4 : decode cX7_findingAt 4 = .ok (.ifCond .eq 5, 3) := by decide +kernel
theorem dX7_findingAt_7 : decode cX7_findingAt 7 = .ok (.iconst 1, 1) := by decide +kernel
theorem dX7_findingAt_8 : decode cX7_findingAt 8 = .ok (.ireturn, 1) := by decide +kernel
theorem dX7_findingAt_9 : decode cX7_findingAt 9 = .ok (.aload_n 1, 1) := by decide +kernel
theorem dX7_findingAt_10 : decode cX7_findingAt 10 = .ok (.getfield 300, 3) := by decide +kernel
theorem dX7_findingAt_13 : decode cX7_findingAt 13 = .ok (.iload_n 2, 1) := by decide +kernel
theorem dX7_findingAt_14 : decode cX7_findingAt 14 = .ok (.if_icmp .eq 5, 3) := by decide +kernel
theorem dX7_findingAt_17 : decode cX7_findingAt 17 = .ok (.iconst 3, 1) := by decide +kernel
theorem dX7_findingAt_18 : decode cX7_findingAt 18 = .ok (.ireturn, 1) := by decide +kernel
theorem dX7_findingAt_19 : decode cX7_findingAt 19 = .ok (.iload_n 3, 1) := by decide +kernel
theorem dX7_findingAt_20 : decode cX7_findingAt 20 = .ok (.aload_n 1, 1) := by decide +kernel
theorem dX7_findingAt_21 : decode cX7_findingAt 21 = .ok (.getfield 240, 3) := by decide +kernel
theorem dX7_findingAt_24 : decode cX7_findingAt 24 = .ok (.invokestatic 89, 3) := by decide +kernel
theorem dX7_findingAt_27 : decode cX7_findingAt 27 = .ok (.ifCond .eq 7, 3) := by decide +kernel
theorem dX7_findingAt_30 : decode cX7_findingAt 30 = .ok (.iconst 0, 1) := by decide +kernel
theorem dX7_findingAt_31 : decode cX7_findingAt 31 = .ok (.goto 4, 3) := by decide +kernel
theorem dX7_findingAt_34 : decode cX7_findingAt 34 = .ok (.iconst 2, 1) := by decide +kernel
theorem dX7_findingAt_35 : decode cX7_findingAt 35 = .ok (.ireturn, 1) := by decide +kernel
theorem dX7_put_0 : decode cX7_put 0 = .ok (.iload_n 1, 1) := by decide +kernel
theorem dX7_put_1 : decode cX7_put 1 = .ok (.iconst 4, 1) := by decide +kernel
theorem dX7_put_2 : decode cX7_put 2 = .ok (.invokestatic 89, 3) := by decide +kernel
theorem dX7_put_5 : decode cX7_put 5 = .ok (.ifCond .eq 11, 3) := by decide +kernel
theorem dX7_put_8 : decode cX7_put 8 = .ok (.iload_n 2, 1) := by decide +kernel
theorem dX7_put_9 : decode cX7_put 9 = .ok (.iconst 3, 1) := by decide +kernel
theorem dX7_put_10 : decode cX7_put 10 = .ok (.invokestatic 89, 3) := by decide +kernel
theorem dX7_put_13 : decode cX7_put 13 = .ok (.ifCond .ne 6, 3) := by decide +kernel
theorem dX7_put_16 : decode cX7_put 16 = .ok (.bipush (-2), 2) := by decide +kernel
theorem dX7_put_18 : decode cX7_put 18 = .ok (.ireturn, 1) := by decide +kernel
theorem dX7_put_19 : decode cX7_put 19 = .ok (.aload_n 0, 1) := by decide +kernel
theorem dX7_put_20 : decode cX7_put 20 = .ok (.aload_n 0, 1) := by decide +kernel
theorem dX7_put_21 : decode cX7_put 21 = .ok (.getfield 41, 3) := by decide +kernel
theorem dX7_put_24 : decode cX7_put 24 = .ok (.iload_n 1, 1) := by decide +kernel
theorem dX7_put_25 : decode cX7_put 25 = .ok (.aaload, 1) := by decide +kernel
theorem dX7_put_26 : decode cX7_put 26 = .ok (.iload_n 2, 1) := by decide +kernel
theorem dX7_put_27 : decode cX7_put 27 = .ok (.iload_n 3, 1) := by decide +kernel
theorem dX7_put_28 : decode cX7_put 28 = .ok (.invokevirtual 303, 3) := by decide +kernel
theorem dX7_put_31 : decode cX7_put 31 = .ok (.istore 5, 2) := by decide +kernel
theorem dX7_put_33 : decode cX7_put 33 = .ok (.iload 5, 2) := by decide +kernel
theorem dX7_put_35 : decode cX7_put 35 = .ok (.ifCond .eq 10, 3) := by decide +kernel
theorem dX7_put_38 : decode cX7_put 38 = .ok (.aload_n 0, 1) := by decide +kernel
theorem dX7_put_39 : decode cX7_put 39 = .ok (.iload 5, 2) := by decide +kernel
theorem dX7_put_41 : decode cX7_put 41 = .ok (.invokevirtual 237, 3) := by decide +kernel
theorem dX7_put_44 : decode cX7_put 44 = .ok (.ireturn, 1) := by decide +kernel
theorem dX7_put_45 : decode cX7_put 45 = .ok (.aload_n 0, 1) := by decide +kernel
theorem dX7_put_46 : decode cX7_put 46 = .ok (.getfield 41, 3) := by decide +kernel
theorem dX7_put_49 : decode cX7_put 49 = .ok (.iload_n 1, 1) := by decide +kernel
theorem dX7_put_50 : decode cX7_put 50 = .ok (.aaload, 1) := by decide +kernel
theorem dX7_put_51 : decode cX7_put 51 = .ok (.iload_n 3, 1) := by decide +kernel
theorem dX7_put_52 : decode cX7_put 52 = .ok (.iload 4, 2) := by decide +kernel
theorem dX7_put_54 : decode cX7_put 54 = .ok (.invokevirtual 307, 3) := by decide +kernel
theorem dX7_put_57 : decode cX7_put 57 = .ok (.iconst 1, 1) := by decide +kernel
theorem dX7_put_58 : decode cX7_put 58 = .ok (.ireturn, 1) := by decide +kernel
theorem dX7_get_0 : decode cX7_get 0 = .ok (.iload_n 1, 1) := by decide +kernel
theorem dX7_get_1 : decode cX7_get 1 = .ok (.iconst 4, 1) := by decide +kernel
theorem dX7_get_2 : decode cX7_get 2 = .ok (.invokestatic 89, 3) := by decide +kernel
theorem dX7_get_5 : decode cX7_get 5 = .ok (.ifCond .eq 11, 3) := by decide +kernel
theorem dX7_get_8 : decode cX7_get 8 = .ok (.iload_n 2, 1) := by decide +kernel
theorem dX7_get_9 : decode cX7_get 9 = .ok (.iconst 3, 1) := by decide +kernel
theorem dX7_get_10 : decode cX7_get 10 = .ok (.invokestatic 89, 3) := by decide +kernel
theorem dX7_get_13 : decode cX7_get 13 = .ok (.ifCond .ne 7, 3) := by decide +kernel
theorem dX7_get_16 : decode cX7_get 16 = .ok (.ldc_w 310, 3) := by decide +kernel
theorem dX7_get_19 : decode cX7_get 19 = .ok (.ireturn, 1) := by decide +kernel
theorem dX7_get_20 : decode cX7_get 20 = .ok (.aload_n 0, 1) := by decide +kernel
theorem dX7_get_21 : decode cX7_get 21 = .ok (.aload_n 0, 1) := by decide +kernel
theorem dX7_get_22 : decode cX7_get 22 = .ok (.getfield 41, 3) := by decide +kernel
theorem dX7_get_25 : decode cX7_get 25 = .ok (.iload_n 1, 1) := by decide +kernel
theorem dX7_get_26 : decode cX7_get 26 = .ok (.aaload, 1) := by decide +kernel
theorem dX7_get_27 : decode cX7_get 27 = .ok (.iload_n 2, 1) := by decide +kernel
theorem dX7_get_28 : decode cX7_get 28 = .ok (.iload_n 3, 1) := by decide +kernel
theorem dX7_get_29 : decode cX7_get 29 = .ok (.invokevirtual 303, 3) := by decide +kernel
theorem dX7_get_32 : decode cX7_get 32 = .ok (.istore 4, 2) := by decide +kernel
theorem dX7_get_34 : decode cX7_get 34 = .ok (.iload 4, 2) := by decide +kernel
theorem dX7_get_36 : decode cX7_get 36 = .ok (.ifCond .eq 13, 3) := by decide +kernel
theorem dX7_get_39 : decode cX7_get 39 = .ok (.aload_n 0, 1) := by decide +kernel
theorem dX7_get_40 : decode cX7_get 40 = .ok (.iload 4, 2) := by decide +kernel
theorem dX7_get_42 : decode cX7_get 42 = .ok (.putfield 294, 3) := by decide +kernel
theorem dX7_get_45 : decode cX7_get 45 = .ok (.ldc_w 310, 3) := by decide +kernel
theorem dX7_get_48 : decode cX7_get 48 = .ok (.ireturn, 1) := by decide +kernel
theorem dX7_get_49 : decode cX7_get 49 = .ok (.aload_n 0, 1) := by decide +kernel
theorem dX7_get_50 : decode cX7_get 50 = .ok (.getfield 41, 3) := by decide +kernel
theorem dX7_get_53 : decode cX7_get 53 = .ok (.iload_n 1, 1) := by decide +kernel
theorem dX7_get_54 : decode cX7_get 54 = .ok (.aaload, 1) := by decide +kernel
theorem dX7_get_55 : decode cX7_get 55 = .ok (.getfield 241, 3) := by decide +kernel
theorem dX7_get_58 : decode cX7_get 58 = .ok (.iload_n 3, 1) := by decide +kernel
theorem dX7_get_59 : decode cX7_get 59 = .ok (.iaload, 1) := by decide +kernel
theorem dX7_get_60 : decode cX7_get 60 = .ok (.ireturn, 1) := by decide +kernel
theorem dX7_copy_0 : decode cX7_copy 0 = .ok (.iload_n 1, 1) := by decide +kernel
theorem dX7_copy_1 : decode cX7_copy 1 = .ok (.iconst 4, 1) := by decide +kernel
theorem dX7_copy_2 : decode cX7_copy 2 = .ok (.invokestatic 89, 3) := by decide +kernel
theorem dX7_copy_5 : decode cX7_copy 5 = .ok (.ifCond .eq 11, 3) := by decide +kernel
theorem dX7_copy_8 : decode cX7_copy 8 = .ok (.iload_n 3, 1) := by decide +kernel
theorem dX7_copy_9 : decode cX7_copy 9 = .ok (.iconst 4, 1) := by decide +kernel
theorem dX7_copy_10 : decode cX7_copy 10 = .ok (.invokestatic 89, 3) := by decide +kernel
theorem dX7_copy_13 : decode cX7_copy 13 = .ok (.ifCond .ne 6, 3) := by decide +kernel
theorem dX7_copy_16 : decode cX7_copy 16 = .ok (.bipush (-2), 2) := by decide +kernel
theorem dX7_copy_18 : decode cX7_copy 18 = .ok (.ireturn, 1) := by decide +kernel
theorem dX7_copy_19 : decode cX7_copy 19 = .ok (.aload_n 0, 1) := by decide +kernel
theorem dX7_copy_20 : decode cX7_copy 20 = .ok (.getfield 41, 3) := by decide +kernel
theorem dX7_copy_23 : decode cX7_copy 23 = .ok (.iload_n 1, 1) := by decide +kernel
theorem dX7_copy_24 : decode cX7_copy 24 = .ok (.aaload, 1) := by decide +kernel
theorem dX7_copy_25 : decode cX7_copy 25 = .ok (.astore 6, 2) := by decide +kernel
theorem dX7_copy_27 : decode cX7_copy 27 = .ok (.aload_n 0, 1) := by decide +kernel
theorem dX7_copy_28 : decode cX7_copy 28 = .ok (.getfield 41, 3) := by decide +kernel
theorem dX7_copy_31 : decode cX7_copy 31 = .ok (.iload_n 3, 1) := by decide +kernel
theorem dX7_copy_32 : decode cX7_copy 32 = .ok (.aaload, 1) := by decide +kernel
theorem dX7_copy_33 : decode cX7_copy 33 = .ok (.astore 7, 2) := by decide +kernel
theorem dX7_copy_35 : decode cX7_copy 35 = .ok (.aload 6, 2) := by decide +kernel
theorem dX7_copy_37 : decode cX7_copy 37 = .ok (.getfield 233, 3) := by decide +kernel
theorem dX7_copy_40 : decode cX7_copy 40 = .ok (.ifCond .ne 11, 3) := by decide +kernel
theorem dX7_copy_43 : decode cX7_copy 43 = .ok (.aload 7, 2) := by decide +kernel
theorem dX7_copy_45 : decode cX7_copy 45 = .ok (.getfield 233, 3) := by decide +kernel
theorem dX7_copy_48 : decode cX7_copy 48 = .ok (.ifCond .eq 9, 3) := by decide +kernel
theorem dX7_copy_51 : decode cX7_copy 51 = .ok (.aload_n 0, 1) := by decide +kernel
theorem dX7_copy_52 : decode cX7_copy 52 = .ok (.iconst 1, 1) := by decide +kernel
theorem dX7_copy_53 : decode cX7_copy 53 = .ok (.invokevirtual 237, 3) := by decide +kernel
theorem dX7_copy_56 : decode cX7_copy 56 = .ok (.ireturn, 1) := by decide +kernel
theorem dX7_copy_57 : decode cX7_copy 57 = .ok (.aload 6, 2) := by decide +kernel
theorem dX7_copy_59 : decode cX7_copy 59 = .ok (.getfield 300, 3) := by decide +kernel
theorem dX7_copy_62 : decode cX7_copy 62 = .ok (.aload 7, 2) := by decide +kernel
theorem dX7_copy_64 : decode cX7_copy 64 = .ok (.getfield 300, 3) := by decide +kernel
theorem dX7_copy_67 : decode cX7_copy 67 = .ok (.if_icmp .eq 9, 3) := by decide +kernel
theorem dX7_copy_70 : decode cX7_copy 70 = .ok (.aload_n 0, 1) := by decide +kernel
theorem dX7_copy_71 : decode cX7_copy 71 = .ok (.iconst 4, 1) := by decide +kernel
theorem dX7_copy_72 : decode cX7_copy 72 = .ok (.invokevirtual 237, 3) := by decide +kernel
theorem dX7_copy_75 : decode cX7_copy 75 = .ok (.ireturn, 1) := by decide +kernel
theorem dX7_copy_76 : decode cX7_copy 76 = .ok (.aload 6, 2) := by decide +kernel
theorem dX7_copy_78 : decode cX7_copy 78 = .ok (.iload_n 2, 1) := by decide +kernel
theorem dX7_copy_79 : decode cX7_copy 79 = .ok (.iload 5, 2) := by decide +kernel
theorem dX7_copy_81 : decode cX7_copy 81 = .ok (.invokestatic 311, 3) := by decide +kernel
theorem dX7_copy_84 : decode cX7_copy 84 = .ok (.ifCond .eq 15, 3) := by decide +kernel
theorem dX7_copy_87 : decode cX7_copy 87 = .ok (.aload 7, 2) := by decide +kernel
theorem dX7_copy_89 : decode cX7_copy 89 = .ok (.iload 4, 2) := by decide +kernel
theorem dX7_copy_91 : decode cX7_copy 91 = .ok (.iload 5, 2) := by decide +kernel
theorem dX7_copy_93 : decode cX7_copy 93 = .ok (.invokestatic 311, 3) := by decide +kernel
theorem dX7_copy_96 : decode cX7_copy 96 = .ok (.ifCond .ne 9, 3) := by decide +kernel
theorem dX7_copy_99 : decode cX7_copy 99 = .ok (.aload_n 0, 1) := by decide +kernel
theorem dX7_copy_100 : decode cX7_copy 100 = .ok (.iconst 2, 1) := by decide +kernel
theorem dX7_copy_101 : decode cX7_copy 101 = .ok (.invokevirtual 237, 3) := by decide +kernel
theorem dX7_copy_104 : decode cX7_copy 104 = .ok (.ireturn, 1) := by decide +kernel
theorem dX7_copy_105 : decode cX7_copy 105 = .ok (.aload 6, 2) := by decide +kernel
theorem dX7_copy_107 : decode cX7_copy 107 = .ok (.getfield 241, 3) := by decide +kernel
theorem dX7_copy_110 : decode cX7_copy 110 = .ok (.iload_n 2, 1) := by decide +kernel
theorem dX7_copy_111 : decode cX7_copy 111 = .ok (.aload 7, 2) := by decide +kernel
theorem dX7_copy_113 : decode cX7_copy 113 = .ok (.getfield 241, 3) := by decide +kernel
theorem dX7_copy_116 : decode cX7_copy 116 = .ok (.iload 4, 2) := by decide +kernel
theorem dX7_copy_118 : decode cX7_copy 118 = .ok (.iload 5, 2) := by decide +kernel
theorem dX7_copy_120 : decode cX7_copy 120 = .ok (.invokestatic 315, 3) := by decide +kernel
theorem dX7_copy_123 : decode cX7_copy 123 = .ok (.iconst 1, 1) := by decide +kernel
theorem dX7_copy_124 : decode cX7_copy 124 = .ok (.ireturn, 1) := by decide +kernel
theorem dX7_holds_0 : decode cX7_holds 0 = .ok (.iload_n 1, 1) := by decide +kernel
theorem dX7_holds_1 : decode cX7_holds 1 = .ok (.ifCond .lt 29, 3) := by decide +kernel
theorem dX7_holds_4 : decode cX7_holds 4 = .ok (.iload_n 2, 1) := by decide +kernel
theorem dX7_holds_5 : decode cX7_holds 5 = .ok (.ifCond .lt 25, 3) := by decide +kernel
theorem dX7_holds_8 : decode cX7_holds 8 = .ok (.iload_n 1, 1) := by decide +kernel
theorem dX7_holds_9 : decode cX7_holds 9 = .ok (.aload_n 0, 1) := by decide +kernel
theorem dX7_holds_10 : decode cX7_holds 10 = .ok (.getfield 240, 3) := by decide +kernel
theorem dX7_holds_13 : decode cX7_holds 13 = .ok (.if_icmp .gt 17, 3) := by decide +kernel
theorem dX7_holds_16 : decode cX7_holds 16 = .ok (.iload_n 2, 1) := by decide +kernel
theorem dX7_holds_17 : decode cX7_holds 17 = .ok (.aload_n 0, 1) := by decide +kernel
theorem dX7_holds_18 : decode cX7_holds 18 = .ok (.getfield 240, 3) := by decide +kernel
theorem dX7_holds_21 : decode cX7_holds 21 = .ok (.iload_n 1, 1) := by decide +kernel
theorem dX7_holds_22 : decode cX7_holds 22 = .ok (.isub, 1) := by decide +kernel
theorem dX7_holds_23 : decode cX7_holds 23 = .ok (.if_icmp .gt 7, 3) := by decide +kernel
theorem dX7_holds_26 : decode cX7_holds 26 = .ok (.iconst 1, 1) := by decide +kernel
theorem dX7_holds_27 : decode cX7_holds 27 = .ok (.goto 4, 3) := by decide +kernel
theorem dX7_holds_30 : decode cX7_holds 30 = .ok (.iconst 0, 1) := by decide +kernel
theorem dX7_holds_31 : decode cX7_holds 31 = .ok (.ireturn, 1) := by decide +kernel
theorem dX7_write_0 : decode cX7_write 0 = .ok (.iload_n 1, 1) := by decide +kernel
theorem dX7_write_1 : decode cX7_write 1 = .ok (.aload_n 0, 1) := by decide +kernel
theorem dX7_write_2 : decode cX7_write 2 = .ok (.getfield 118, 3) := by decide +kernel
theorem dX7_write_5 : decode cX7_write 5 = .ok (.invokestatic 89, 3) := by decide +kernel
theorem dX7_write_8 : decode cX7_write 8 = .ok (.ifCond .eq 11, 3) := by decide +kernel
theorem dX7_write_11 : decode cX7_write 11 = .ok (.iload_n 2, 1) := by decide +kernel
theorem dX7_write_12 : decode cX7_write 12 = .ok (.iconst 4, 1) := by decide +kernel
theorem dX7_write_13 : decode cX7_write 13 = .ok (.invokestatic 89, 3) := by decide +kernel
theorem dX7_write_16 : decode cX7_write 16 = .ok (.ifCond .ne 6, 3) := by decide +kernel
theorem dX7_write_19 : decode cX7_write 19 = .ok (.bipush (-2), 2) := by decide +kernel
theorem dX7_write_21 : decode cX7_write 21 = .ok (.ireturn, 1) := by decide +kernel
theorem dX7_write_22 : decode cX7_write 22 = .ok (.aload_n 0, 1) := by decide +kernel
theorem dX7_write_23 : decode cX7_write 23 = .ok (.getfield 41, 3) := by decide +kernel
theorem dX7_write_26 : decode cX7_write 26 = .ok (.iload_n 2, 1) := by decide +kernel
theorem dX7_write_27 : decode cX7_write 27 = .ok (.aaload, 1) := by decide +kernel
theorem dX7_write_28 : decode cX7_write 28 = .ok (.astore_n 3, 1) := by decide +kernel
theorem dX7_write_29 : decode cX7_write 29 = .ok (.aload_n 3, 1) := by decide +kernel
theorem dX7_write_30 : decode cX7_write 30 = .ok (.getfield 233, 3) := by decide +kernel
theorem dX7_write_33 : decode cX7_write 33 = .ok (.ifCond .eq 9, 3) := by decide +kernel
theorem dX7_write_36 : decode cX7_write 36 = .ok (.aload_n 0, 1) := by decide +kernel
theorem dX7_write_37 : decode cX7_write 37 = .ok (.iconst 1, 1) := by decide +kernel
theorem dX7_write_38 : decode cX7_write 38 = .ok (.invokevirtual 237, 3) := by decide +kernel
theorem dX7_write_41 : decode cX7_write 41 = .ok (.ireturn, 1) := by decide +kernel
theorem dX7_write_42 : decode cX7_write 42 = .ok (.bipush 50, 2) := by decide +kernel
theorem dX7_write_44 : decode cX7_write 44 = .ok (.aload_n 3, 1) := by decide +kernel
theorem dX7_write_45 : decode cX7_write 45 = .ok (.getfield 240, 3) := by decide +kernel
theorem dX7_write_48 : decode cX7_write 48 = .ok (.invokestatic 321, 3) := by decide +kernel
theorem dX7_write_51 : decode cX7_write 51 = .ok (.istore 4, 2) := by decide +kernel
theorem dX7_write_53 : decode cX7_write 53 = .ok (.iconst 0, 1) := by decide +kernel
theorem dX7_write_54 : decode cX7_write 54 = .ok (.istore 5, 2) := by decide +kernel
theorem dX7_write_56 : decode cX7_write 56 = .ok (.iload 5, 2) := by decide +kernel
theorem dX7_write_58 : decode cX7_write 58 = .ok (.iload 4, 2) := by decide +kernel
theorem dX7_write_60 : decode cX7_write 60 = .ok (.if_icmp .ge 34, 3) := by decide +kernel
theorem dX7_write_63 : decode cX7_write 63 = .ok (.aload_n 3, 1) := by decide +kernel
theorem dX7_write_64 : decode cX7_write 64 = .ok (.iload 5, 2) := by decide +kernel
theorem dX7_write_66 : decode cX7_write 66 = .ok (.aload_n 0, 1) := by decide +kernel
theorem dX7_write_67 : decode cX7_write 67 = .ok (.getfield 56, 3) := by decide +kernel
theorem dX7_write_70 : decode cX7_write 70 = .ok (.iload 5, 2) := by decide +kernel
theorem dX7_write_72 : decode cX7_write 72 = .ok (.aload_n 0, 1) := by decide +kernel
theorem dX7_write_73 : decode cX7_write 73 = .ok (.getfield 17, 3) := by decide +kernel
theorem dX7_write_76 : decode cX7_write 76 = .ok (.iload_n 1, 1) := by decide +kernel
theorem dX7_write_77 : decode cX7_write 77 = .ok (.aaload, 1) := by decide +kernel
theorem dX7_write_78 : decode cX7_write 78 = .ok (.aload_n 0, 1) := by decide +kernel
theorem dX7_write_79 : decode cX7_write 79 = .ok (.getfield 24, 3) := by decide +kernel
theorem dX7_write_82 : decode cX7_write 82 = .ok (.invokevirtual 172, 3) := by decide +kernel
theorem dX7_write_85 : decode cX7_write 85 = .ok (.invokevirtual 307, 3) := by decide +kernel
theorem dX7_write_88 : decode cX7_write 88 = .ok (.iinc 5 1, 3) := by decide +kernel
theorem dX7_write_91 : decode cX7_write 91 = .ok (.goto (-35), 3) := by decide +kernel
theorem dX7_write_94 : decode cX7_write 94 = .ok (.iload 4, 2) := by decide +kernel
theorem dX7_write_96 : decode cX7_write 96 = .ok (.ireturn, 1) := by decide +kernel
theorem dX7_count_0 : decode cX7_count 0 = .ok (.aload_n 0, 1) := by decide +kernel
theorem dX7_count_1 : decode cX7_count 1 = .ok (.aload_n 0, 1) := by decide +kernel
theorem dX7_count_2 : decode cX7_count 2 = .ok (.getfield 24, 3) := by decide +kernel
theorem dX7_count_5 : decode cX7_count 5 = .ok (.invokevirtual 185, 3) := by decide +kernel
theorem dX7_count_8 : decode cX7_count 8 = .ok (.iload_n 1, 1) := by decide +kernel
theorem dX7_count_9 : decode cX7_count 9 = .ok (.tableswitch 122 0 8 #[51, 56, 64, 74, 84, 93, 101, 109, 117], 51) := by decide +kernel
theorem dX7_count_60 : decode cX7_count 60 = .ok (.aload_n 0, 1) := by decide +kernel
theorem dX7_count_61 : decode cX7_count 61 = .ok (.getfield 118, 3) := by decide +kernel
theorem dX7_count_64 : decode cX7_count 64 = .ok (.ireturn, 1) := by decide +kernel
theorem dX7_count_65 : decode cX7_count 65 = .ok (.aload_n 0, 1) := by decide +kernel
theorem dX7_count_66 : decode cX7_count 66 = .ok (.getfield 24, 3) := by decide +kernel
theorem dX7_count_69 : decode cX7_count 69 = .ok (.getfield 140, 3) := by decide +kernel
theorem dX7_count_72 : decode cX7_count 72 = .ok (.ireturn, 1) := by decide +kernel
theorem dX7_count_73 : decode cX7_count 73 = .ok (.aload_n 0, 1) := by decide +kernel
theorem dX7_count_74 : decode cX7_count 74 = .ok (.getfield 9, 3) := by decide +kernel
theorem dX7_count_77 : decode cX7_count 77 = .ok (.iconst 0, 1) := by decide +kernel
theorem dX7_count_78 : decode cX7_count 78 = .ok (.aaload, 1) := by decide +kernel
theorem dX7_count_79 : decode cX7_count 79 = .ok (.getfield 93, 3) := by decide +kernel
theorem dX7_count_82 : decode cX7_count 82 = .ok (.ireturn, 1) := by decide +kernel
theorem dX7_count_83 : decode cX7_count 83 = .ok (.aload_n 0, 1) := by decide +kernel
theorem dX7_count_84 : decode cX7_count 84 = .ok (.getfield 9, 3) := by decide +kernel
theorem dX7_count_87 : decode cX7_count 87 = .ok (.iconst 1, 1) := by decide +kernel
theorem dX7_count_88 : decode cX7_count 88 = .ok (.aaload, 1) := by decide +kernel
theorem dX7_count_89 : decode cX7_count 89 = .ok (.getfield 93, 3) := by decide +kernel
theorem dX7_count_92 : decode cX7_count 92 = .ok (.ireturn, 1) := by decide +kernel
theorem dX7_count_93 : decode cX7_count 93 = .ok (.aload_n 0, 1) := by decide +kernel
theorem dX7_count_94 : decode cX7_count 94 = .ok (.aload_n 0, 1) := by decide +kernel
theorem dX7_count_95 : decode cX7_count 95 = .ok (.getfield 24, 3) := by decide +kernel
theorem dX7_count_98 : decode cX7_count 98 = .ok (.invokevirtual 221, 3) := by decide +kernel
theorem dX7_count_101 : decode cX7_count 101 = .ok (.ireturn, 1) := by decide +kernel
theorem dX7_count_102 : decode cX7_count 102 = .ok (.aload_n 0, 1) := by decide +kernel
theorem dX7_count_103 : decode cX7_count 103 = .ok (.getfield 63, 3) := by decide +kernel
theorem dX7_count_106 : decode cX7_count 106 = .ok (.getfield 292, 3) := by decide +kernel
theorem dX7_count_109 : decode cX7_count 109 = .ok (.ireturn, 1) := by decide +kernel
theorem dX7_count_110 : decode cX7_count 110 = .ok (.aload_n 0, 1) := by decide +kernel
theorem dX7_count_111 : decode cX7_count 111 = .ok (.getfield 63, 3) := by decide +kernel
theorem dX7_count_114 : decode cX7_count 114 = .ok (.getfield 324, 3) := by decide +kernel
theorem dX7_count_117 : decode cX7_count 117 = .ok (.ireturn, 1) := by decide +kernel
theorem dX7_count_118 : decode cX7_count 118 = .ok (.aload_n 0, 1) := by decide +kernel
theorem dX7_count_119 : decode cX7_count 119 = .ok (.getfield 35, 3) := by decide +kernel
theorem dX7_count_122 : decode cX7_count 122 = .ok (.getfield 231, 3) := by decide +kernel
theorem dX7_count_125 : decode cX7_count 125 = .ok (.ireturn, 1) := by decide +kernel
theorem dX7_count_126 : decode cX7_count 126 = .ok (.aload_n 0, 1) := by decide +kernel
theorem dX7_count_127 : decode cX7_count 127 = .ok (.getfield 294, 3) := by decide +kernel
theorem dX7_count_130 : decode cX7_count 130 = .ok (.ireturn, 1) := by decide +kernel
theorem dX7_count_131 : decode cX7_count 131 = .ok (.bipush (-2), 2) := by decide +kernel
theorem dX7_count_133 : decode cX7_count 133 = .ok (.ireturn, 1) := by decide +kernel
theorem dX7_digest_0 : decode cX7_digest 0 = .ok (.ldc2_w 325, 3) := by decide +kernel
theorem dX7_digest_3 : decode cX7_digest 3 = .ok (.lstore_n 1, 1) := by decide +kernel
theorem dX7_digest_4 : decode cX7_digest 4 = .ok (.iconst 0, 1) := by decide +kernel
theorem dX7_digest_5 : decode cX7_digest 5 = .ok (.istore_n 3, 1) := by decide +kernel
theorem dX7_digest_6 : decode cX7_digest 6 = .ok (.iload_n 3, 1) := by decide +kernel
theorem dX7_digest_7 : decode cX7_digest 7 = .ok (.bipush 8, 2) := by decide +kernel
theorem dX7_digest_9 : decode cX7_digest 9 = .ok (.if_icmp .ge 22, 3) := by decide +kernel
theorem dX7_digest_12 : decode cX7_digest 12 = .ok (.ldc2_w 327, 3) := by decide +kernel
theorem dX7_digest_15 : decode cX7_digest 15 = .ok (.lload_n 1, 1) := by decide +kernel
theorem dX7_digest_16 : decode cX7_digest 16 = .ok (.lmul, 1) := by decide +kernel
theorem dX7_digest_17 : decode cX7_digest 17 = .ok (.aload_n 0, 1) := by decide +kernel
theorem dX7_digest_18 : decode cX7_digest 18 = .ok (.iload_n 3, 1) := by decide +kernel
theorem dX7_digest_19 : decode cX7_digest 19 = .ok (.invokevirtual 329, 3) := by decide +kernel
theorem dX7_digest_22 : decode cX7_digest 22 = .ok (.i2l, 1) := by decide +kernel
theorem dX7_digest_23 : decode cX7_digest 23 = .ok (.ladd, 1) := by decide +kernel
theorem dX7_digest_24 : decode cX7_digest 24 = .ok (.lstore_n 1, 1) := by decide +kernel
theorem dX7_digest_25 : decode cX7_digest 25 = .ok (.iinc 3 1, 3) := by decide +kernel
theorem dX7_digest_28 : decode cX7_digest 28 = .ok (.goto (-22), 3) := by decide +kernel
theorem dX7_digest_31 : decode cX7_digest 31 = .ok (.iconst 0, 1) := by decide +kernel
theorem dX7_digest_32 : decode cX7_digest 32 = .ok (.istore_n 3, 1) := by decide +kernel
theorem dX7_digest_33 : decode cX7_digest 33 = .ok (.iload_n 3, 1) := by decide +kernel
theorem dX7_digest_34 : decode cX7_digest 34 = .ok (.aload_n 0, 1) := by decide +kernel
theorem dX7_digest_35 : decode cX7_digest 35 = .ok (.getfield 9, 3) := by decide +kernel
theorem dX7_digest_38 : decode cX7_digest 38 = .ok (.arraylength, 1) := by decide +kernel
theorem dX7_digest_39 : decode cX7_digest 39 = .ok (.if_icmp .ge 22, 3) := by decide +kernel
theorem dX7_digest_42 : decode cX7_digest 42 = .ok (.ldc2_w 327, 3) := by decide +kernel
theorem dX7_digest_45 : decode cX7_digest 45 = .ok (.lload_n 1, 1) := by decide +kernel
theorem dX7_digest_46 : decode cX7_digest 46 = .ok (.lmul, 1) := by decide +kernel
theorem dX7_digest_47 : decode cX7_digest 47 = .ok (.aload_n 0, 1) := by decide +kernel
theorem dX7_digest_48 : decode cX7_digest 48 = .ok (.iload_n 3, 1) := by decide +kernel
theorem dX7_digest_49 : decode cX7_digest 49 = .ok (.invokevirtual 332, 3) := by decide +kernel
theorem dX7_digest_52 : decode cX7_digest 52 = .ok (.i2l, 1) := by decide +kernel
theorem dX7_digest_53 : decode cX7_digest 53 = .ok (.ladd, 1) := by decide +kernel
theorem dX7_digest_54 : decode cX7_digest 54 = .ok (.lstore_n 1, 1) := by decide +kernel
theorem dX7_digest_55 : decode cX7_digest 55 = .ok (.iinc 3 1, 3) := by decide +kernel
theorem dX7_digest_58 : decode cX7_digest 58 = .ok (.goto (-25), 3) := by decide +kernel
theorem dX7_digest_61 : decode cX7_digest 61 = .ok (.iconst 0, 1) := by decide +kernel
theorem dX7_digest_62 : decode cX7_digest 62 = .ok (.istore_n 3, 1) := by decide +kernel
theorem dX7_digest_63 : decode cX7_digest 63 = .ok (.iload_n 3, 1) := by decide +kernel
theorem dX7_digest_64 : decode cX7_digest 64 = .ok (.aload_n 0, 1) := by decide +kernel
theorem dX7_digest_65 : decode cX7_digest 65 = .ok (.getfield 118, 3) := by decide +kernel
theorem dX7_digest_68 : decode cX7_digest 68 = .ok (.if_icmp .ge 16, 3) := by decide +kernel
theorem dX7_digest_71 : decode cX7_digest 71 = .ok (.aload_n 0, 1) := by decide +kernel
theorem dX7_digest_72 : decode cX7_digest 72 = .ok (.lload_n 1, 1) := by decide +kernel
theorem dX7_digest_73 : decode cX7_digest 73 = .ok (.iload_n 3, 1) := by decide +kernel
theorem dX7_digest_74 : decode cX7_digest 74 = .ok (.invokevirtual 335, 3) := by decide +kernel
theorem dX7_digest_77 : decode cX7_digest 77 = .ok (.lstore_n 1, 1) := by decide +kernel
theorem dX7_digest_78 : decode cX7_digest 78 = .ok (.iinc 3 1, 3) := by decide +kernel
theorem dX7_digest_81 : decode cX7_digest 81 = .ok (.goto (-18), 3) := by decide +kernel
theorem dX7_digest_84 : decode cX7_digest 84 = .ok (.iconst 0, 1) := by decide +kernel
theorem dX7_digest_85 : decode cX7_digest 85 = .ok (.istore_n 3, 1) := by decide +kernel
theorem dX7_digest_86 : decode cX7_digest 86 = .ok (.iload_n 3, 1) := by decide +kernel
theorem dX7_digest_87 : decode cX7_digest 87 = .ok (.aload_n 0, 1) := by decide +kernel
theorem dX7_digest_88 : decode cX7_digest 88 = .ok (.getfield 24, 3) := by decide +kernel
theorem dX7_digest_91 : decode cX7_digest 91 = .ok (.getfield 140, 3) := by decide +kernel
theorem dX7_digest_94 : decode cX7_digest 94 = .ok (.if_icmp .ge 16, 3) := by decide +kernel
theorem dX7_digest_97 : decode cX7_digest 97 = .ok (.aload_n 0, 1) := by decide +kernel
theorem dX7_digest_98 : decode cX7_digest 98 = .ok (.lload_n 1, 1) := by decide +kernel
theorem dX7_digest_99 : decode cX7_digest 99 = .ok (.iload_n 3, 1) := by decide +kernel
theorem dX7_digest_100 : decode cX7_digest 100 = .ok (.invokevirtual 339, 3) := by decide +kernel
theorem dX7_digest_103 : decode cX7_digest 103 = .ok (.lstore_n 1, 1) := by decide +kernel
theorem dX7_digest_104 : decode cX7_digest 104 = .ok (.iinc 3 1, 3) := by decide +kernel
theorem dX7_digest_107 : decode cX7_digest 107 = .ok (.goto (-21), 3) := by decide +kernel
theorem dX7_digest_110 : decode cX7_digest 110 = .ok (.iconst 0, 1) := by decide +kernel
theorem dX7_digest_111 : decode cX7_digest 111 = .ok (.istore_n 3, 1) := by decide +kernel
theorem dX7_digest_112 : decode cX7_digest 112 = .ok (.iload_n 3, 1) := by decide +kernel
theorem dX7_digest_113 : decode cX7_digest 113 = .ok (.iconst 4, 1) := by decide +kernel
theorem dX7_digest_114 : decode cX7_digest 114 = .ok (.if_icmp .ge 39, 3) := by decide +kernel
theorem dX7_digest_117 : decode cX7_digest 117 = .ok (.ldc2_w 327, 3) := by decide +kernel
theorem dX7_digest_120 : decode cX7_digest 120 = .ok (.lload_n 1, 1) := by decide +kernel
theorem dX7_digest_121 : decode cX7_digest 121 = .ok (.lmul, 1) := by decide +kernel
theorem dX7_digest_122 : decode cX7_digest 122 = .ok (.aload_n 0, 1) := by decide +kernel
theorem dX7_digest_123 : decode cX7_digest 123 = .ok (.iconst 4, 1) := by decide +kernel
theorem dX7_digest_124 : decode cX7_digest 124 = .ok (.iload_n 3, 1) := by decide +kernel
theorem dX7_digest_125 : decode cX7_digest 125 = .ok (.iconst (-1), 1) := by decide +kernel
theorem dX7_digest_126 : decode cX7_digest 126 = .ok (.invokevirtual 342, 3) := by decide +kernel
theorem dX7_digest_129 : decode cX7_digest 129 = .ok (.i2l, 1) := by decide +kernel
theorem dX7_digest_130 : decode cX7_digest 130 = .ok (.ladd, 1) := by decide +kernel
theorem dX7_digest_131 : decode cX7_digest 131 = .ok (.lstore_n 1, 1) := by decide +kernel
theorem dX7_digest_132 : decode cX7_digest 132 = .ok (.ldc2_w 327, 3) := by decide +kernel
theorem dX7_digest_135 : decode cX7_digest 135 = .ok (.lload_n 1, 1) := by decide +kernel
theorem dX7_digest_136 : decode cX7_digest 136 = .ok (.lmul, 1) := by decide +kernel
theorem dX7_digest_137 : decode cX7_digest 137 = .ok (.aload_n 0, 1) := by decide +kernel
theorem dX7_digest_138 : decode cX7_digest 138 = .ok (.iconst 4, 1) := by decide +kernel
theorem dX7_digest_139 : decode cX7_digest 139 = .ok (.iload_n 3, 1) := by decide +kernel
theorem dX7_digest_140 : decode cX7_digest 140 = .ok (.iconst 0, 1) := by decide +kernel
theorem dX7_digest_141 : decode cX7_digest 141 = .ok (.invokevirtual 342, 3) := by decide +kernel
theorem dX7_digest_144 : decode cX7_digest 144 = .ok (.i2l, 1) := by decide +kernel
theorem dX7_digest_145 : decode cX7_digest 145 = .ok (.ladd, 1) := by decide +kernel
theorem dX7_digest_146 : decode cX7_digest 146 = .ok (.lstore_n 1, 1) := by decide +kernel
theorem dX7_digest_147 : decode cX7_digest 147 = .ok (.iinc 3 1, 3) := by decide +kernel
theorem dX7_digest_150 : decode cX7_digest 150 = .ok (.goto (-38), 3) := by decide +kernel
theorem dX7_digest_153 : decode cX7_digest 153 = .ok (.ldc2_w 327, 3) := by decide +kernel
theorem dX7_digest_156 : decode cX7_digest 156 = .ok (.lload_n 1, 1) := by decide +kernel
theorem dX7_digest_157 : decode cX7_digest 157 = .ok (.lmul, 1) := by decide +kernel
theorem dX7_digest_158 : decode cX7_digest 158 = .ok (.aload_n 0, 1) := by decide +kernel
theorem dX7_digest_159 : decode cX7_digest 159 = .ok (.invokevirtual 346, 3) := by decide +kernel
theorem dX7_digest_162 : decode cX7_digest 162 = .ok (.i2l, 1) := by decide +kernel
theorem dX7_digest_163 : decode cX7_digest 163 = .ok (.ladd, 1) := by decide +kernel
theorem dX7_digest_164 : decode cX7_digest 164 = .ok (.lstore_n 1, 1) := by decide +kernel
theorem dX7_digest_165 : decode cX7_digest 165 = .ok (.ldc2_w 327, 3) := by decide +kernel
theorem dX7_digest_168 : decode cX7_digest 168 = .ok (.lload_n 1, 1) := by decide +kernel
theorem dX7_digest_169 : decode cX7_digest 169 = .ok (.lmul, 1) := by decide +kernel
theorem dX7_digest_170 : decode cX7_digest 170 = .ok (.aload_n 0, 1) := by decide +kernel
theorem dX7_digest_171 : decode cX7_digest 171 = .ok (.invokevirtual 349, 3) := by decide +kernel
theorem dX7_digest_174 : decode cX7_digest 174 = .ok (.i2l, 1) := by decide +kernel
theorem dX7_digest_175 : decode cX7_digest 175 = .ok (.ladd, 1) := by decide +kernel
theorem dX7_digest_176 : decode cX7_digest 176 = .ok (.lstore_n 1, 1) := by decide +kernel
theorem dX7_digest_177 : decode cX7_digest 177 = .ok (.ldc2_w 327, 3) := by decide +kernel
theorem dX7_digest_180 : decode cX7_digest 180 = .ok (.lload_n 1, 1) := by decide +kernel
theorem dX7_digest_181 : decode cX7_digest 181 = .ok (.lmul, 1) := by decide +kernel
theorem dX7_digest_182 : decode cX7_digest 182 = .ok (.aload_n 0, 1) := by decide +kernel
theorem dX7_digest_183 : decode cX7_digest 183 = .ok (.invokevirtual 261, 3) := by decide +kernel
theorem dX7_digest_186 : decode cX7_digest 186 = .ok (.i2l, 1) := by decide +kernel
theorem dX7_digest_187 : decode cX7_digest 187 = .ok (.ladd, 1) := by decide +kernel
theorem dX7_digest_188 : decode cX7_digest 188 = .ok (.lstore_n 1, 1) := by decide +kernel
theorem dX7_digest_189 : decode cX7_digest 189 = .ok (.ldc2_w 327, 3) := by decide +kernel
theorem dX7_digest_192 : decode cX7_digest 192 = .ok (.lload_n 1, 1) := by decide +kernel
theorem dX7_digest_193 : decode cX7_digest 193 = .ok (.lmul, 1) := by decide +kernel
theorem dX7_digest_194 : decode cX7_digest 194 = .ok (.aload_n 0, 1) := by decide +kernel
theorem dX7_digest_195 : decode cX7_digest 195 = .ok (.invokevirtual 352, 3) := by decide +kernel
theorem dX7_digest_198 : decode cX7_digest 198 = .ok (.i2l, 1) := by decide +kernel
theorem dX7_digest_199 : decode cX7_digest 199 = .ok (.ladd, 1) := by decide +kernel
theorem dX7_digest_200 : decode cX7_digest 200 = .ok (.lstore_n 1, 1) := by decide +kernel
theorem dX7_digest_201 : decode cX7_digest 201 = .ok (.ldc2_w 327, 3) := by decide +kernel
theorem dX7_digest_204 : decode cX7_digest 204 = .ok (.lload_n 1, 1) := by decide +kernel
theorem dX7_digest_205 : decode cX7_digest 205 = .ok (.lmul, 1) := by decide +kernel
theorem dX7_digest_206 : decode cX7_digest 206 = .ok (.aload_n 0, 1) := by decide +kernel
theorem dX7_digest_207 : decode cX7_digest 207 = .ok (.bipush 7, 2) := by decide +kernel
theorem dX7_digest_209 : decode cX7_digest 209 = .ok (.bipush 8, 2) := by decide +kernel
theorem dX7_digest_211 : decode cX7_digest 211 = .ok (.iconst 0, 1) := by decide +kernel
theorem dX7_digest_212 : decode cX7_digest 212 = .ok (.invokevirtual 355, 3) := by decide +kernel
theorem dX7_digest_215 : decode cX7_digest 215 = .ok (.i2l, 1) := by decide +kernel
theorem dX7_digest_216 : decode cX7_digest 216 = .ok (.ladd, 1) := by decide +kernel
theorem dX7_digest_217 : decode cX7_digest 217 = .ok (.lstore_n 1, 1) := by decide +kernel
theorem dX7_digest_218 : decode cX7_digest 218 = .ok (.ldc2_w 327, 3) := by decide +kernel
theorem dX7_digest_221 : decode cX7_digest 221 = .ok (.lload_n 1, 1) := by decide +kernel
theorem dX7_digest_222 : decode cX7_digest 222 = .ok (.lmul, 1) := by decide +kernel
theorem dX7_digest_223 : decode cX7_digest 223 = .ok (.aload_n 0, 1) := by decide +kernel
theorem dX7_digest_224 : decode cX7_digest 224 = .ok (.bipush 7, 2) := by decide +kernel
theorem dX7_digest_226 : decode cX7_digest 226 = .ok (.bipush 8, 2) := by decide +kernel
theorem dX7_digest_228 : decode cX7_digest 228 = .ok (.iconst 1, 1) := by decide +kernel
theorem dX7_digest_229 : decode cX7_digest 229 = .ok (.invokevirtual 355, 3) := by decide +kernel
theorem dX7_digest_232 : decode cX7_digest 232 = .ok (.i2l, 1) := by decide +kernel
theorem dX7_digest_233 : decode cX7_digest 233 = .ok (.ladd, 1) := by decide +kernel
theorem dX7_digest_234 : decode cX7_digest 234 = .ok (.lreturn, 1) := by decide +kernel
theorem dX7_digestSleeper_0 : decode cX7_digestSleeper 0 = .ok (.lload_n 1, 1) := by decide +kernel
theorem dX7_digestSleeper_1 : decode cX7_digestSleeper 1 = .ok (.lstore 4, 2) := by decide +kernel
theorem dX7_digestSleeper_3 : decode cX7_digestSleeper 3 = .ok (.iconst 0, 1) := by decide +kernel
theorem dX7_digestSleeper_4 : decode cX7_digestSleeper 4 = .ok (.istore 6, 2) := by decide +kernel
theorem dX7_digestSleeper_6 : decode cX7_digestSleeper 6 = .ok (.iload 6, 2) := by decide +kernel
theorem dX7_digestSleeper_8 : decode cX7_digestSleeper 8 = .ok (.iconst 4, 1) := by decide +kernel
theorem dX7_digestSleeper_9 : decode cX7_digestSleeper 9 = .ok (.if_icmp .ge 26, 3) := by decide +kernel
theorem dX7_digestSleeper_12 : decode cX7_digestSleeper 12 = .ok (.ldc2_w 327, 3) := by decide +kernel
theorem dX7_digestSleeper_15 : decode cX7_digestSleeper 15 = .ok (.lload 4, 2) := by decide +kernel
theorem dX7_digestSleeper_17 : decode cX7_digestSleeper 17 = .ok (.lmul, 1) := by decide +kernel
theorem dX7_digestSleeper_18 : decode cX7_digestSleeper 18 = .ok (.aload_n 0, 1) := by decide +kernel
theorem dX7_digestSleeper_19 : decode cX7_digestSleeper 19 = .ok (.iload_n 3, 1) := by decide +kernel
theorem dX7_digestSleeper_20 : decode cX7_digestSleeper 20 = .ok (.iload 6, 2) := by decide +kernel
theorem dX7_digestSleeper_22 : decode cX7_digestSleeper 22 = .ok (.invokevirtual 358, 3) := by decide +kernel
theorem dX7_digestSleeper_25 : decode cX7_digestSleeper 25 = .ok (.i2l, 1) := by decide +kernel
theorem dX7_digestSleeper_26 : decode cX7_digestSleeper 26 = .ok (.ladd, 1) := by decide +kernel
theorem dX7_digestSleeper_27 : decode cX7_digestSleeper 27 = .ok (.lstore 4, 2) := by decide +kernel
theorem dX7_digestSleeper_29 : decode cX7_digestSleeper 29 = .ok (.iinc 6 1, 3) := by decide +kernel
theorem dX7_digestSleeper_32 : decode cX7_digestSleeper 32 = .ok (.goto (-26), 3) := by decide +kernel
theorem dX7_digestSleeper_35 : decode cX7_digestSleeper 35 = .ok (.ldc2_w 327, 3) := by decide +kernel
theorem dX7_digestSleeper_38 : decode cX7_digestSleeper 38 = .ok (.lload 4, 2) := by decide +kernel
theorem dX7_digestSleeper_40 : decode cX7_digestSleeper 40 = .ok (.lmul, 1) := by decide +kernel
theorem dX7_digestSleeper_41 : decode cX7_digestSleeper 41 = .ok (.aload_n 0, 1) := by decide +kernel
theorem dX7_digestSleeper_42 : decode cX7_digestSleeper 42 = .ok (.iconst 5, 1) := by decide +kernel
theorem dX7_digestSleeper_43 : decode cX7_digestSleeper 43 = .ok (.iload_n 3, 1) := by decide +kernel
theorem dX7_digestSleeper_44 : decode cX7_digestSleeper 44 = .ok (.invokevirtual 361, 3) := by decide +kernel
theorem dX7_digestSleeper_47 : decode cX7_digestSleeper 47 = .ok (.i2l, 1) := by decide +kernel
theorem dX7_digestSleeper_48 : decode cX7_digestSleeper 48 = .ok (.ladd, 1) := by decide +kernel
theorem dX7_digestSleeper_49 : decode cX7_digestSleeper 49 = .ok (.lstore 4, 2) := by decide +kernel
theorem dX7_digestSleeper_51 : decode cX7_digestSleeper 51 = .ok (.ldc2_w 327, 3) := by decide +kernel
theorem dX7_digestSleeper_54 : decode cX7_digestSleeper 54 = .ok (.lload 4, 2) := by decide +kernel
theorem dX7_digestSleeper_56 : decode cX7_digestSleeper 56 = .ok (.lmul, 1) := by decide +kernel
theorem dX7_digestSleeper_57 : decode cX7_digestSleeper 57 = .ok (.aload_n 0, 1) := by decide +kernel
theorem dX7_digestSleeper_58 : decode cX7_digestSleeper 58 = .ok (.bipush 20, 2) := by decide +kernel
theorem dX7_digestSleeper_60 : decode cX7_digestSleeper 60 = .ok (.iload_n 3, 1) := by decide +kernel
theorem dX7_digestSleeper_61 : decode cX7_digestSleeper 61 = .ok (.invokevirtual 361, 3) := by decide +kernel
theorem dX7_digestSleeper_64 : decode cX7_digestSleeper 64 = .ok (.i2l, 1) := by decide +kernel
theorem dX7_digestSleeper_65 : decode cX7_digestSleeper 65 = .ok (.ladd, 1) := by decide +kernel
theorem dX7_digestSleeper_66 : decode cX7_digestSleeper 66 = .ok (.lstore 4, 2) := by decide +kernel
theorem dX7_digestSleeper_68 : decode cX7_digestSleeper 68 = .ok (.ldc2_w 327, 3) := by decide +kernel
theorem dX7_digestSleeper_71 : decode cX7_digestSleeper 71 = .ok (.lload 4, 2) := by decide +kernel
theorem dX7_digestSleeper_73 : decode cX7_digestSleeper 73 = .ok (.lmul, 1) := by decide +kernel
theorem dX7_digestSleeper_74 : decode cX7_digestSleeper 74 = .ok (.aload_n 0, 1) := by decide +kernel
theorem dX7_digestSleeper_75 : decode cX7_digestSleeper 75 = .ok (.bipush 49, 2) := by decide +kernel
theorem dX7_digestSleeper_77 : decode cX7_digestSleeper 77 = .ok (.iload_n 3, 1) := by decide +kernel
theorem dX7_digestSleeper_78 : decode cX7_digestSleeper 78 = .ok (.invokevirtual 361, 3) := by decide +kernel
theorem dX7_digestSleeper_81 : decode cX7_digestSleeper 81 = .ok (.i2l, 1) := by decide +kernel
theorem dX7_digestSleeper_82 : decode cX7_digestSleeper 82 = .ok (.ladd, 1) := by decide +kernel
theorem dX7_digestSleeper_83 : decode cX7_digestSleeper 83 = .ok (.lstore 4, 2) := by decide +kernel
theorem dX7_digestSleeper_85 : decode cX7_digestSleeper 85 = .ok (.ldc2_w 327, 3) := by decide +kernel
theorem dX7_digestSleeper_88 : decode cX7_digestSleeper 88 = .ok (.lload 4, 2) := by decide +kernel
theorem dX7_digestSleeper_90 : decode cX7_digestSleeper 90 = .ok (.lmul, 1) := by decide +kernel
theorem dX7_digestSleeper_91 : decode cX7_digestSleeper 91 = .ok (.aload_n 0, 1) := by decide +kernel
theorem dX7_digestSleeper_92 : decode cX7_digestSleeper 92 = .ok (.iload_n 3, 1) := by decide +kernel
theorem dX7_digestSleeper_93 : decode cX7_digestSleeper 93 = .ok (.iconst 0, 1) := by decide +kernel
theorem dX7_digestSleeper_94 : decode cX7_digestSleeper 94 = .ok (.invokevirtual 364, 3) := by decide +kernel
theorem dX7_digestSleeper_97 : decode cX7_digestSleeper 97 = .ok (.i2l, 1) := by decide +kernel
theorem dX7_digestSleeper_98 : decode cX7_digestSleeper 98 = .ok (.ladd, 1) := by decide +kernel
theorem dX7_digestSleeper_99 : decode cX7_digestSleeper 99 = .ok (.lstore 4, 2) := by decide +kernel
theorem dX7_digestSleeper_101 : decode cX7_digestSleeper 101 = .ok (.ldc2_w 327, 3) := by decide +kernel
theorem dX7_digestSleeper_104 : decode cX7_digestSleeper 104 = .ok (.lload 4, 2) := by decide +kernel
theorem dX7_digestSleeper_106 : decode cX7_digestSleeper 106 = .ok (.lmul, 1) := by decide +kernel
theorem dX7_digestSleeper_107 : decode cX7_digestSleeper 107 = .ok (.aload_n 0, 1) := by decide +kernel
theorem dX7_digestSleeper_108 : decode cX7_digestSleeper 108 = .ok (.iload_n 3, 1) := by decide +kernel
theorem dX7_digestSleeper_109 : decode cX7_digestSleeper 109 = .ok (.iconst 1, 1) := by decide +kernel
theorem dX7_digestSleeper_110 : decode cX7_digestSleeper 110 = .ok (.invokevirtual 364, 3) := by decide +kernel
theorem dX7_digestSleeper_113 : decode cX7_digestSleeper 113 = .ok (.i2l, 1) := by decide +kernel
theorem dX7_digestSleeper_114 : decode cX7_digestSleeper 114 = .ok (.ladd, 1) := by decide +kernel
theorem dX7_digestSleeper_115 : decode cX7_digestSleeper 115 = .ok (.lstore 4, 2) := by decide +kernel
theorem dX7_digestSleeper_117 : decode cX7_digestSleeper 117 = .ok (.ldc2_w 327, 3) := by decide +kernel
theorem dX7_digestSleeper_120 : decode cX7_digestSleeper 120 = .ok (.lload 4, 2) := by decide +kernel
theorem dX7_digestSleeper_122 : decode cX7_digestSleeper 122 = .ok (.lmul, 1) := by decide +kernel
theorem dX7_digestSleeper_123 : decode cX7_digestSleeper 123 = .ok (.aload_n 0, 1) := by decide +kernel
theorem dX7_digestSleeper_124 : decode cX7_digestSleeper 124 = .ok (.iload_n 3, 1) := by decide +kernel
theorem dX7_digestSleeper_125 : decode cX7_digestSleeper 125 = .ok (.iconst 0, 1) := by decide +kernel
theorem dX7_digestSleeper_126 : decode cX7_digestSleeper 126 = .ok (.invokevirtual 367, 3) := by decide +kernel
theorem dX7_digestSleeper_129 : decode cX7_digestSleeper 129 = .ok (.i2l, 1) := by decide +kernel
theorem dX7_digestSleeper_130 : decode cX7_digestSleeper 130 = .ok (.ladd, 1) := by decide +kernel
theorem dX7_digestSleeper_131 : decode cX7_digestSleeper 131 = .ok (.lstore 4, 2) := by decide +kernel
theorem dX7_digestSleeper_133 : decode cX7_digestSleeper 133 = .ok (.ldc2_w 327, 3) := by decide +kernel
theorem dX7_digestSleeper_136 : decode cX7_digestSleeper 136 = .ok (.lload 4, 2) := by decide +kernel
theorem dX7_digestSleeper_138 : decode cX7_digestSleeper 138 = .ok (.lmul, 1) := by decide +kernel
theorem dX7_digestSleeper_139 : decode cX7_digestSleeper 139 = .ok (.aload_n 0, 1) := by decide +kernel
theorem dX7_digestSleeper_140 : decode cX7_digestSleeper 140 = .ok (.iload_n 3, 1) := by decide +kernel
theorem dX7_digestSleeper_141 : decode cX7_digestSleeper 141 = .ok (.iconst 1, 1) := by decide +kernel
theorem dX7_digestSleeper_142 : decode cX7_digestSleeper 142 = .ok (.invokevirtual 367, 3) := by decide +kernel
theorem dX7_digestSleeper_145 : decode cX7_digestSleeper 145 = .ok (.i2l, 1) := by decide +kernel
theorem dX7_digestSleeper_146 : decode cX7_digestSleeper 146 = .ok (.ladd, 1) := by decide +kernel
theorem dX7_digestSleeper_147 : decode cX7_digestSleeper 147 = .ok (.lstore 4, 2) := by decide +kernel
theorem dX7_digestSleeper_149 : decode cX7_digestSleeper 149 = .ok (.ldc2_w 327, 3) := by decide +kernel
theorem dX7_digestSleeper_152 : decode cX7_digestSleeper 152 = .ok (.lload 4, 2) := by decide +kernel
theorem dX7_digestSleeper_154 : decode cX7_digestSleeper 154 = .ok (.lmul, 1) := by decide +kernel
theorem dX7_digestSleeper_155 : decode cX7_digestSleeper 155 = .ok (.aload_n 0, 1) := by decide +kernel
theorem dX7_digestSleeper_156 : decode cX7_digestSleeper 156 = .ok (.iload_n 3, 1) := by decide +kernel
theorem dX7_digestSleeper_157 : decode cX7_digestSleeper 157 = .ok (.iconst 0, 1) := by decide +kernel
theorem dX7_digestSleeper_158 : decode cX7_digestSleeper 158 = .ok (.invokevirtual 370, 3) := by decide +kernel
theorem dX7_digestSleeper_161 : decode cX7_digestSleeper 161 = .ok (.i2l, 1) := by decide +kernel
theorem dX7_digestSleeper_162 : decode cX7_digestSleeper 162 = .ok (.ladd, 1) := by decide +kernel
theorem dX7_digestSleeper_163 : decode cX7_digestSleeper 163 = .ok (.lstore 4, 2) := by decide +kernel
theorem dX7_digestSleeper_165 : decode cX7_digestSleeper 165 = .ok (.ldc2_w 327, 3) := by decide +kernel
theorem dX7_digestSleeper_168 : decode cX7_digestSleeper 168 = .ok (.lload 4, 2) := by decide +kernel
theorem dX7_digestSleeper_170 : decode cX7_digestSleeper 170 = .ok (.lmul, 1) := by decide +kernel
theorem dX7_digestSleeper_171 : decode cX7_digestSleeper 171 = .ok (.aload_n 0, 1) := by decide +kernel
theorem dX7_digestSleeper_172 : decode cX7_digestSleeper 172 = .ok (.iload_n 3, 1) := by decide +kernel
theorem dX7_digestSleeper_173 : decode cX7_digestSleeper 173 = .ok (.iconst 1, 1) := by decide +kernel
theorem dX7_digestSleeper_174 : decode cX7_digestSleeper 174 = .ok (.invokevirtual 370, 3) := by decide +kernel
theorem dX7_digestSleeper_177 : decode cX7_digestSleeper 177 = .ok (.i2l, 1) := by decide +kernel
theorem dX7_digestSleeper_178 : decode cX7_digestSleeper 178 = .ok (.ladd, 1) := by decide +kernel
theorem dX7_digestSleeper_179 : decode cX7_digestSleeper 179 = .ok (.lreturn, 1) := by decide +kernel
theorem dX7_digestDeed_0 : decode cX7_digestDeed 0 = .ok (.lload_n 1, 1) := by decide +kernel
theorem dX7_digestDeed_1 : decode cX7_digestDeed 1 = .ok (.lstore 4, 2) := by decide +kernel
theorem dX7_digestDeed_3 : decode cX7_digestDeed 3 = .ok (.iconst 0, 1) := by decide +kernel
theorem dX7_digestDeed_4 : decode cX7_digestDeed 4 = .ok (.istore 6, 2) := by decide +kernel
theorem dX7_digestDeed_6 : decode cX7_digestDeed 6 = .ok (.iload 6, 2) := by decide +kernel
theorem dX7_digestDeed_8 : decode cX7_digestDeed 8 = .ok (.iconst 3, 1) := by decide +kernel
theorem dX7_digestDeed_9 : decode cX7_digestDeed 9 = .ok (.if_icmp .ge 26, 3) := by decide +kernel
theorem dX7_digestDeed_12 : decode cX7_digestDeed 12 = .ok (.ldc2_w 327, 3) := by decide +kernel
theorem dX7_digestDeed_15 : decode cX7_digestDeed 15 = .ok (.lload 4, 2) := by decide +kernel
theorem dX7_digestDeed_17 : decode cX7_digestDeed 17 = .ok (.lmul, 1) := by decide +kernel
theorem dX7_digestDeed_18 : decode cX7_digestDeed 18 = .ok (.aload_n 0, 1) := by decide +kernel
theorem dX7_digestDeed_19 : decode cX7_digestDeed 19 = .ok (.iload_n 3, 1) := by decide +kernel
theorem dX7_digestDeed_20 : decode cX7_digestDeed 20 = .ok (.iload 6, 2) := by decide +kernel
theorem dX7_digestDeed_22 : decode cX7_digestDeed 22 = .ok (.invokevirtual 373, 3) := by decide +kernel
theorem dX7_digestDeed_25 : decode cX7_digestDeed 25 = .ok (.i2l, 1) := by decide +kernel
theorem dX7_digestDeed_26 : decode cX7_digestDeed 26 = .ok (.ladd, 1) := by decide +kernel
theorem dX7_digestDeed_27 : decode cX7_digestDeed 27 = .ok (.lstore 4, 2) := by decide +kernel
theorem dX7_digestDeed_29 : decode cX7_digestDeed 29 = .ok (.iinc 6 1, 3) := by decide +kernel
theorem dX7_digestDeed_32 : decode cX7_digestDeed 32 = .ok (.goto (-26), 3) := by decide +kernel
theorem dX7_digestDeed_35 : decode cX7_digestDeed 35 = .ok (.iconst 0, 1) := by decide +kernel
theorem dX7_digestDeed_36 : decode cX7_digestDeed 36 = .ok (.istore 6, 2) := by decide +kernel
theorem dX7_digestDeed_38 : decode cX7_digestDeed 38 = .ok (.iload 6, 2) := by decide +kernel
theorem dX7_digestDeed_40 : decode cX7_digestDeed 40 = .ok (.iconst 3, 1) := by decide +kernel
theorem dX7_digestDeed_41 : decode cX7_digestDeed 41 = .ok (.if_icmp .ge 26, 3) := by decide +kernel
theorem dX7_digestDeed_44 : decode cX7_digestDeed 44 = .ok (.ldc2_w 327, 3) := by decide +kernel
theorem dX7_digestDeed_47 : decode cX7_digestDeed 47 = .ok (.lload 4, 2) := by decide +kernel
theorem dX7_digestDeed_49 : decode cX7_digestDeed 49 = .ok (.lmul, 1) := by decide +kernel
theorem dX7_digestDeed_50 : decode cX7_digestDeed 50 = .ok (.aload_n 0, 1) := by decide +kernel
theorem dX7_digestDeed_51 : decode cX7_digestDeed 51 = .ok (.iload_n 3, 1) := by decide +kernel
theorem dX7_digestDeed_52 : decode cX7_digestDeed 52 = .ok (.iload 6, 2) := by decide +kernel
theorem dX7_digestDeed_54 : decode cX7_digestDeed 54 = .ok (.invokevirtual 376, 3) := by decide +kernel
theorem dX7_digestDeed_57 : decode cX7_digestDeed 57 = .ok (.i2l, 1) := by decide +kernel
theorem dX7_digestDeed_58 : decode cX7_digestDeed 58 = .ok (.ladd, 1) := by decide +kernel
theorem dX7_digestDeed_59 : decode cX7_digestDeed 59 = .ok (.lstore 4, 2) := by decide +kernel
theorem dX7_digestDeed_61 : decode cX7_digestDeed 61 = .ok (.iinc 6 1, 3) := by decide +kernel
theorem dX7_digestDeed_64 : decode cX7_digestDeed 64 = .ok (.goto (-26), 3) := by decide +kernel
theorem dX7_digestDeed_67 : decode cX7_digestDeed 67 = .ok (.ldc2_w 327, 3) := by decide +kernel
theorem dX7_digestDeed_70 : decode cX7_digestDeed 70 = .ok (.lload 4, 2) := by decide +kernel
theorem dX7_digestDeed_72 : decode cX7_digestDeed 72 = .ok (.lmul, 1) := by decide +kernel
theorem dX7_digestDeed_73 : decode cX7_digestDeed 73 = .ok (.aload_n 0, 1) := by decide +kernel
theorem dX7_digestDeed_74 : decode cX7_digestDeed 74 = .ok (.iload_n 3, 1) := by decide +kernel
theorem dX7_digestDeed_75 : decode cX7_digestDeed 75 = .ok (.invokevirtual 379, 3) := by decide +kernel
theorem dX7_digestDeed_78 : decode cX7_digestDeed 78 = .ok (.i2l, 1) := by decide +kernel
theorem dX7_digestDeed_79 : decode cX7_digestDeed 79 = .ok (.ladd, 1) := by decide +kernel
theorem dX7_digestDeed_80 : decode cX7_digestDeed 80 = .ok (.lstore 4, 2) := by decide +kernel
theorem dX7_digestDeed_82 : decode cX7_digestDeed 82 = .ok (.ldc2_w 327, 3) := by decide +kernel
theorem dX7_digestDeed_85 : decode cX7_digestDeed 85 = .ok (.lload 4, 2) := by decide +kernel
theorem dX7_digestDeed_87 : decode cX7_digestDeed 87 = .ok (.lmul, 1) := by decide +kernel
theorem dX7_digestDeed_88 : decode cX7_digestDeed 88 = .ok (.aload_n 0, 1) := by decide +kernel
theorem dX7_digestDeed_89 : decode cX7_digestDeed 89 = .ok (.iload_n 3, 1) := by decide +kernel
theorem dX7_digestDeed_90 : decode cX7_digestDeed 90 = .ok (.iconst (-1), 1) := by decide +kernel
theorem dX7_digestDeed_91 : decode cX7_digestDeed 91 = .ok (.invokevirtual 382, 3) := by decide +kernel
theorem dX7_digestDeed_94 : decode cX7_digestDeed 94 = .ok (.i2l, 1) := by decide +kernel
theorem dX7_digestDeed_95 : decode cX7_digestDeed 95 = .ok (.ladd, 1) := by decide +kernel
theorem dX7_digestDeed_96 : decode cX7_digestDeed 96 = .ok (.lstore 4, 2) := by decide +kernel
theorem dX7_digestDeed_98 : decode cX7_digestDeed 98 = .ok (.ldc2_w 327, 3) := by decide +kernel
theorem dX7_digestDeed_101 : decode cX7_digestDeed 101 = .ok (.lload 4, 2) := by decide +kernel
theorem dX7_digestDeed_103 : decode cX7_digestDeed 103 = .ok (.lmul, 1) := by decide +kernel
theorem dX7_digestDeed_104 : decode cX7_digestDeed 104 = .ok (.aload_n 0, 1) := by decide +kernel
theorem dX7_digestDeed_105 : decode cX7_digestDeed 105 = .ok (.iload_n 3, 1) := by decide +kernel
theorem dX7_digestDeed_106 : decode cX7_digestDeed 106 = .ok (.iconst 0, 1) := by decide +kernel
theorem dX7_digestDeed_107 : decode cX7_digestDeed 107 = .ok (.invokevirtual 382, 3) := by decide +kernel
theorem dX7_digestDeed_110 : decode cX7_digestDeed 110 = .ok (.i2l, 1) := by decide +kernel
theorem dX7_digestDeed_111 : decode cX7_digestDeed 111 = .ok (.ladd, 1) := by decide +kernel
theorem dX7_digestDeed_112 : decode cX7_digestDeed 112 = .ok (.lstore 4, 2) := by decide +kernel
theorem dX7_digestDeed_114 : decode cX7_digestDeed 114 = .ok (.ldc2_w 327, 3) := by decide +kernel
theorem dX7_digestDeed_117 : decode cX7_digestDeed 117 = .ok (.lload 4, 2) := by decide +kernel
theorem dX7_digestDeed_119 : decode cX7_digestDeed 119 = .ok (.lmul, 1) := by decide +kernel
theorem dX7_digestDeed_120 : decode cX7_digestDeed 120 = .ok (.aload_n 0, 1) := by decide +kernel
theorem dX7_digestDeed_121 : decode cX7_digestDeed 121 = .ok (.iconst 5, 1) := by decide +kernel
theorem dX7_digestDeed_122 : decode cX7_digestDeed 122 = .ok (.iload_n 3, 1) := by decide +kernel
theorem dX7_digestDeed_123 : decode cX7_digestDeed 123 = .ok (.iconst 0, 1) := by decide +kernel
theorem dX7_digestDeed_124 : decode cX7_digestDeed 124 = .ok (.invokevirtual 385, 3) := by decide +kernel
theorem dX7_digestDeed_127 : decode cX7_digestDeed 127 = .ok (.ladd, 1) := by decide +kernel
theorem dX7_digestDeed_128 : decode cX7_digestDeed 128 = .ok (.lstore 4, 2) := by decide +kernel
theorem dX7_digestDeed_130 : decode cX7_digestDeed 130 = .ok (.ldc2_w 327, 3) := by decide +kernel
theorem dX7_digestDeed_133 : decode cX7_digestDeed 133 = .ok (.lload 4, 2) := by decide +kernel
theorem dX7_digestDeed_135 : decode cX7_digestDeed 135 = .ok (.lmul, 1) := by decide +kernel
theorem dX7_digestDeed_136 : decode cX7_digestDeed 136 = .ok (.aload_n 0, 1) := by decide +kernel
theorem dX7_digestDeed_137 : decode cX7_digestDeed 137 = .ok (.iconst 5, 1) := by decide +kernel
theorem dX7_digestDeed_138 : decode cX7_digestDeed 138 = .ok (.iload_n 3, 1) := by decide +kernel
theorem dX7_digestDeed_139 : decode cX7_digestDeed 139 = .ok (.iconst 1, 1) := by decide +kernel
theorem dX7_digestDeed_140 : decode cX7_digestDeed 140 = .ok (.invokevirtual 385, 3) := by decide +kernel
theorem dX7_digestDeed_143 : decode cX7_digestDeed 143 = .ok (.ladd, 1) := by decide +kernel
theorem dX7_digestDeed_144 : decode cX7_digestDeed 144 = .ok (.lstore 4, 2) := by decide +kernel
theorem dX7_digestDeed_146 : decode cX7_digestDeed 146 = .ok (.iconst 0, 1) := by decide +kernel
theorem dX7_digestDeed_147 : decode cX7_digestDeed 147 = .ok (.istore 6, 2) := by decide +kernel
theorem dX7_digestDeed_149 : decode cX7_digestDeed 149 = .ok (.iload 6, 2) := by decide +kernel
theorem dX7_digestDeed_151 : decode cX7_digestDeed 151 = .ok (.aload_n 0, 1) := by decide +kernel
theorem dX7_digestDeed_152 : decode cX7_digestDeed 152 = .ok (.getfield 118, 3) := by decide +kernel
theorem dX7_digestDeed_155 : decode cX7_digestDeed 155 = .ok (.if_icmp .ge 43, 3) := by decide +kernel
theorem dX7_digestDeed_158 : decode cX7_digestDeed 158 = .ok (.iconst 0, 1) := by decide +kernel
theorem dX7_digestDeed_159 : decode cX7_digestDeed 159 = .ok (.istore 7, 2) := by decide +kernel
theorem dX7_digestDeed_161 : decode cX7_digestDeed 161 = .ok (.iload 7, 2) := by decide +kernel
theorem dX7_digestDeed_163 : decode cX7_digestDeed 163 = .ok (.iconst 3, 1) := by decide +kernel
theorem dX7_digestDeed_164 : decode cX7_digestDeed 164 = .ok (.if_icmp .ge 28, 3) := by decide +kernel
theorem dX7_digestDeed_167 : decode cX7_digestDeed 167 = .ok (.ldc2_w 327, 3) := by decide +kernel
theorem dX7_digestDeed_170 : decode cX7_digestDeed 170 = .ok (.lload 4, 2) := by decide +kernel
theorem dX7_digestDeed_172 : decode cX7_digestDeed 172 = .ok (.lmul, 1) := by decide +kernel
theorem dX7_digestDeed_173 : decode cX7_digestDeed 173 = .ok (.aload_n 0, 1) := by decide +kernel
theorem dX7_digestDeed_174 : decode cX7_digestDeed 174 = .ok (.iload_n 3, 1) := by decide +kernel
theorem dX7_digestDeed_175 : decode cX7_digestDeed 175 = .ok (.iload 6, 2) := by decide +kernel
theorem dX7_digestDeed_177 : decode cX7_digestDeed 177 = .ok (.iload 7, 2) := by decide +kernel
theorem dX7_digestDeed_179 : decode cX7_digestDeed 179 = .ok (.invokevirtual 389, 3) := by decide +kernel
theorem dX7_digestDeed_182 : decode cX7_digestDeed 182 = .ok (.i2l, 1) := by decide +kernel
theorem dX7_digestDeed_183 : decode cX7_digestDeed 183 = .ok (.ladd, 1) := by decide +kernel
theorem dX7_digestDeed_184 : decode cX7_digestDeed 184 = .ok (.lstore 4, 2) := by decide +kernel
theorem dX7_digestDeed_186 : decode cX7_digestDeed 186 = .ok (.iinc 7 1, 3) := by decide +kernel
theorem dX7_digestDeed_189 : decode cX7_digestDeed 189 = .ok (.goto (-28), 3) := by decide +kernel
theorem dX7_digestDeed_192 : decode cX7_digestDeed 192 = .ok (.iinc 6 1, 3) := by decide +kernel
theorem dX7_digestDeed_195 : decode cX7_digestDeed 195 = .ok (.goto (-46), 3) := by decide +kernel
theorem dX7_digestDeed_198 : decode cX7_digestDeed 198 = .ok (.lload 4, 2) := by decide +kernel
theorem dX7_digestDeed_200 : decode cX7_digestDeed 200 = .ok (.lreturn, 1) := by decide +kernel
