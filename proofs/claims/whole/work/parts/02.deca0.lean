theorem dX0_init_0 : decode cX0_init 0 = .ok (.aload_n 0, 1) := by decide +kernel
theorem dX0_init_1 : decode cX0_init 1 = .ok (.invokespecial 3, 3) := by decide +kernel
theorem dX0_init_4 : decode cX0_init 4 = .ok (.aload_n 0, 1) := by decide +kernel
theorem dX0_init_5 : decode cX0_init 5 = .ok (.bipush 8, 2) := by decide +kernel
theorem dX0_init_7 : decode cX0_init 7 = .ok (.newarray .int, 2) := by decide +kernel
theorem dX0_init_9 : decode cX0_init 9 = .ok (.putfield 9, 3) := by decide +kernel
theorem dX0_init_12 : decode cX0_init 12 = .ok (.aload_n 0, 1) := by decide +kernel
theorem dX0_init_13 : decode cX0_init 13 = .ok (.bipush 8, 2) := by decide +kernel
theorem dX0_init_15 : decode cX0_init 15 = .ok (.newarray .int, 2) := by decide +kernel
theorem dX0_init_17 : decode cX0_init 17 = .ok (.putfield 15, 3) := by decide +kernel
theorem dX0_init_20 : decode cX0_init 20 = .ok (.aload_n 0, 1) := by decide +kernel
theorem dX0_init_21 : decode cX0_init 21 = .ok (.bipush 8, 2) := by decide +kernel
theorem dX0_init_23 : decode cX0_init 23 = .ok (.newarray .int, 2) := by decide +kernel
theorem dX0_init_25 : decode cX0_init 25 = .ok (.putfield 18, 3) := by decide +kernel
theorem dX0_init_28 : decode cX0_init 28 = .ok (.aload_n 0, 1) := by decide +kernel
theorem dX0_init_29 : decode cX0_init 29 = .ok (.bipush 8, 2) := by decide +kernel
theorem dX0_init_31 : decode cX0_init 31 = .ok (.newarray .int, 2) := by decide +kernel
theorem dX0_init_33 : decode cX0_init 33 = .ok (.putfield 21, 3) := by decide +kernel
theorem dX0_init_36 : decode cX0_init 36 = .ok (.return_, 1) := by decide +kernel
theorem dX0_add_0 : decode cX0_add 0 = .ok (.aload_n 0, 1) := by decide +kernel
theorem dX0_add_1 : decode cX0_add 1 = .ok (.getfield 24, 3) := by decide +kernel
theorem dX0_add_4 : decode cX0_add 4 = .ok (.bipush 8, 2) := by decide +kernel
theorem dX0_add_6 : decode cX0_add 6 = .ok (.if_icmp .lt 4, 3) := by decide +kernel
theorem dX0_add_9 : decode cX0_add 9 = .ok (.return_, 1) := by decide +kernel
theorem dX0_add_10 : decode cX0_add 10 = .ok (.aload_n 0, 1) := by decide +kernel
theorem dX0_add_11 : decode cX0_add 11 = .ok (.getfield 9, 3) := by decide +kernel
theorem dX0_add_14 : decode cX0_add 14 = .ok (.aload_n 0, 1) := by decide +kernel
theorem dX0_add_15 : decode cX0_add 15 = .ok (.getfield 24, 3) := by decide +kernel
theorem dX0_add_18 : decode cX0_add 18 = .ok (.iload_n 1, 1) := by decide +kernel
theorem dX0_add_19 : decode cX0_add 19 = .ok (.iastore, 1) := by decide +kernel
theorem dX0_add_20 : decode cX0_add 20 = .ok (.aload_n 0, 1) := by decide +kernel
theorem dX0_add_21 : decode cX0_add 21 = .ok (.getfield 15, 3) := by decide +kernel
theorem dX0_add_24 : decode cX0_add 24 = .ok (.aload_n 0, 1) := by decide +kernel
theorem dX0_add_25 : decode cX0_add 25 = .ok (.getfield 24, 3) := by decide +kernel
theorem dX0_add_28 : decode cX0_add 28 = .ok (.iload_n 2, 1) := by decide +kernel
theorem dX0_add_29 : decode cX0_add 29 = .ok (.iastore, 1) := by decide +kernel
theorem dX0_add_30 : decode cX0_add 30 = .ok (.aload_n 0, 1) := by decide +kernel
theorem dX0_add_31 : decode cX0_add 31 = .ok (.getfield 18, 3) := by decide +kernel
theorem dX0_add_34 : decode cX0_add 34 = .ok (.aload_n 0, 1) := by decide +kernel
theorem dX0_add_35 : decode cX0_add 35 = .ok (.getfield 24, 3) := by decide +kernel
theorem dX0_add_38 : decode cX0_add 38 = .ok (.iload_n 3, 1) := by decide +kernel
theorem dX0_add_39 : decode cX0_add 39 = .ok (.iastore, 1) := by decide +kernel
theorem dX0_add_40 : decode cX0_add 40 = .ok (.aload_n 0, 1) := by decide +kernel
theorem dX0_add_41 : decode cX0_add 41 = .ok (.getfield 24, 3) := by decide +kernel
theorem dX0_add_44 : decode cX0_add 44 = .ok (.istore 4, 2) := by decide +kernel
theorem dX0_add_46 : decode cX0_add 46 = .ok (.iload 4, 2) := by decide +kernel
theorem dX0_add_48 : decode cX0_add 48 = .ok (.ifCond .le 43, 3) := by decide +kernel
theorem dX0_add_51 : decode cX0_add 51 = .ok (.aload_n 0, 1) := by decide +kernel
theorem dX0_add_52 : decode cX0_add 52 = .ok (.getfield 9, 3) := by decide +kernel
theorem dX0_add_55 : decode cX0_add 55 = .ok (.aload_n 0, 1) := by decide +kernel
theorem dX0_add_56 : decode cX0_add 56 = .ok (.getfield 21, 3) := by decide +kernel
theorem dX0_add_59 : decode cX0_add 59 = .ok (.iload 4, 2) := by decide +kernel
theorem dX0_add_61 : decode cX0_add 61 = .ok (.iconst 1, 1) := by decide +kernel
theorem dX0_add_62 : decode cX0_add 62 = .ok (.isub, 1) := by decide +kernel
theorem dX0_add_63 : decode cX0_add 63 = .ok (.iaload, 1) := by decide +kernel
theorem dX0_add_64 : decode cX0_add 64 = .ok (.iaload, 1) := by decide +kernel
theorem dX0_add_65 : decode cX0_add 65 = .ok (.iload_n 1, 1) := by decide +kernel
theorem dX0_add_66 : decode cX0_add 66 = .ok (.if_icmp .le 25, 3) := by decide +kernel
theorem dX0_add_69 : decode cX0_add 69 = .ok (.aload_n 0, 1) := by decide +kernel
theorem dX0_add_70 : decode cX0_add 70 = .ok (.getfield 21, 3) := by decide +kernel
theorem dX0_add_73 : decode cX0_add 73 = .ok (.iload 4, 2) := by decide +kernel
theorem dX0_add_75 : decode cX0_add 75 = .ok (.aload_n 0, 1) := by decide +kernel
theorem dX0_add_76 : decode cX0_add 76 = .ok (.getfield 21, 3) := by decide +kernel
theorem dX0_add_79 : decode cX0_add 79 = .ok (.iload 4, 2) := by decide +kernel
theorem dX0_add_81 : decode cX0_add 81 = .ok (.iconst 1, 1) := by decide +kernel
theorem dX0_add_82 : decode cX0_add 82 = .ok (.isub, 1) := by decide +kernel
theorem dX0_add_83 : decode cX0_add 83 = .ok (.iaload, 1) := by decide +kernel
theorem dX0_add_84 : decode cX0_add 84 = .ok (.iastore, 1) := by decide +kernel
theorem dX0_add_85 : decode cX0_add 85 = .ok (.iinc 4 (-1), 3) := by decide +kernel
theorem dX0_add_88 : decode cX0_add 88 = .ok (.goto (-42), 3) := by decide +kernel
theorem dX0_add_91 : decode cX0_add 91 = .ok (.aload_n 0, 1) := by decide +kernel
theorem dX0_add_92 : decode cX0_add 92 = .ok (.getfield 21, 3) := by decide +kernel
theorem dX0_add_95 : decode cX0_add 95 = .ok (.iload 4, 2) := by decide +kernel
theorem dX0_add_97 : decode cX0_add 97 = .ok (.aload_n 0, 1) := by decide +kernel
theorem dX0_add_98 : decode cX0_add 98 = .ok (.getfield 24, 3) := by decide +kernel
theorem dX0_add_101 : decode cX0_add 101 = .ok (.iastore, 1) := by decide +kernel
theorem dX0_add_102 : decode cX0_add 102 = .ok (.aload_n 0, 1) := by decide +kernel
theorem dX0_add_103 : decode cX0_add 103 = .ok (.dup, 1) := by decide +kernel
theorem dX0_add_104 : decode cX0_add 104 = .ok (.getfield 24, 3) := by decide +kernel
theorem dX0_add_107 : decode cX0_add 107 = .ok (.iconst 1, 1) := by decide +kernel
theorem dX0_add_108 : decode cX0_add 108 = .ok (.iadd, 1) := by decide +kernel
theorem dX0_add_109 : decode cX0_add 109 = .ok (.putfield 24, 3) := by decide +kernel
theorem dX0_add_112 : decode cX0_add 112 = .ok (.return_, 1) := by decide +kernel
theorem dX0_become_0 : decode cX0_become 0 = .ok (.aload_n 0, 1) := by decide +kernel
theorem dX0_become_1 : decode cX0_become 1 = .ok (.iconst 0, 1) := by decide +kernel
theorem dX0_become_2 : decode cX0_become 2 = .ok (.putfield 24, 3) := by decide +kernel
theorem dX0_become_5 : decode cX0_become 5 = .ok (.iconst 0, 1) := by decide +kernel
theorem dX0_become_6 : decode cX0_become 6 = .ok (.istore_n 3, 1) := by decide +kernel
theorem dX0_become_7 : decode cX0_become 7 = .ok (.iload_n 3, 1) := by decide +kernel
theorem dX0_become_8 : decode cX0_become 8 = .ok (.aload_n 1, 1) := by decide +kernel
theorem dX0_become_9 : decode cX0_become 9 = .ok (.getfield 24, 3) := by decide +kernel
theorem dX0_become_12 : decode cX0_become 12 = .ok (.if_icmp .ge 36, 3) := by decide +kernel
theorem dX0_become_15 : decode cX0_become 15 = .ok (.iload_n 3, 1) := by decide +kernel
theorem dX0_become_16 : decode cX0_become 16 = .ok (.iload_n 2, 1) := by decide +kernel
theorem dX0_become_17 : decode cX0_become 17 = .ok (.if_icmp .eq 25, 3) := by decide +kernel
theorem dX0_become_20 : decode cX0_become 20 = .ok (.aload_n 0, 1) := by decide +kernel
theorem dX0_become_21 : decode cX0_become 21 = .ok (.aload_n 1, 1) := by decide +kernel
theorem dX0_become_22 : decode cX0_become 22 = .ok (.getfield 9, 3) := by decide +kernel
theorem dX0_become_25 : decode cX0_become 25 = .ok (.iload_n 3, 1) := by decide +kernel
theorem dX0_become_26 : decode cX0_become 26 = .ok (.iaload, 1) := by decide +kernel
theorem dX0_become_27 : decode cX0_become 27 = .ok (.aload_n 1, 1) := by decide +kernel
theorem dX0_become_28 : decode cX0_become 28 = .ok (.getfield 15, 3) := by decide +kernel
theorem dX0_become_31 : decode cX0_become 31 = .ok (.iload_n 3, 1) := by decide +kernel
theorem dX0_become_32 : decode cX0_become 32 = .ok (.iaload, 1) := by decide +kernel
theorem dX0_become_33 : decode cX0_become 33 = .ok (.aload_n 1, 1) := by decide +kernel
theorem dX0_become_34 : decode cX0_become 34 = .ok (.getfield 18, 3) := by decide +kernel
theorem dX0_become_37 : decode cX0_become 37 = .ok (.iload_n 3, 1) := by decide +kernel
theorem dX0_become_38 : decode cX0_become 38 = .ok (.iaload, 1) := by decide +kernel
theorem dX0_become_39 : decode cX0_become 39 = .ok (.invokevirtual 28, 3) := by decide +kernel
theorem dX0_become_42 : decode cX0_become 42 = .ok (.iinc 3 1, 3) := by decide +kernel
theorem dX0_become_45 : decode cX0_become 45 = .ok (.goto (-38), 3) := by decide +kernel
theorem dX0_become_48 : decode cX0_become 48 = .ok (.return_, 1) := by decide +kernel
theorem dX1_init_0 : decode cX1_init 0 = .ok (.aload_n 0, 1) := by decide +kernel
theorem dX1_init_1 : decode cX1_init 1 = .ok (.invokespecial 3, 3) := by decide +kernel
theorem dX1_init_4 : decode cX1_init 4 = .ok (.aload_n 0, 1) := by decide +kernel
theorem dX1_init_5 : decode cX1_init 5 = .ok (.bipush 8, 2) := by decide +kernel
theorem dX1_init_7 : decode cX1_init 7 = .ok (.newarray .int, 2) := by decide +kernel
theorem dX1_init_9 : decode cX1_init 9 = .ok (.putfield 9, 3) := by decide +kernel
theorem dX1_init_12 : decode cX1_init 12 = .ok (.return_, 1) := by decide +kernel
theorem dX1_open_0 : decode cX1_open 0 = .ok (.aload_n 0, 1) := by decide +kernel
theorem dX1_open_1 : decode cX1_open 1 = .ok (.iconst 0, 1) := by decide +kernel
theorem dX1_open_2 : decode cX1_open 2 = .ok (.putfield 15, 3) := by decide +kernel
theorem dX1_open_5 : decode cX1_open 5 = .ok (.aload_n 0, 1) := by decide +kernel
theorem dX1_open_6 : decode cX1_open 6 = .ok (.iconst 0, 1) := by decide +kernel
theorem dX1_open_7 : decode cX1_open 7 = .ok (.putfield 19, 3) := by decide +kernel
theorem dX1_open_10 : decode cX1_open 10 = .ok (.aload_n 0, 1) := by decide +kernel
theorem dX1_open_11 : decode cX1_open 11 = .ok (.iconst 0, 1) := by decide +kernel
theorem dX1_open_12 : decode cX1_open 12 = .ok (.putfield 22, 3) := by decide +kernel
theorem dX1_open_15 : decode cX1_open 15 = .ok (.return_, 1) := by decide +kernel
theorem dX1_add_0 : decode cX1_add 0 = .ok (.aload_n 0, 1) := by decide +kernel
theorem dX1_add_1 : decode cX1_add 1 = .ok (.getfield 15, 3) := by decide +kernel
theorem dX1_add_4 : decode cX1_add 4 = .ok (.bipush 8, 2) := by decide +kernel
theorem dX1_add_6 : decode cX1_add 6 = .ok (.if_icmp .ge 52, 3) := by decide +kernel
theorem dX1_add_9 : decode cX1_add 9 = .ok (.aload_n 0, 1) := by decide +kernel
theorem dX1_add_10 : decode cX1_add 10 = .ok (.getfield 9, 3) := by decide +kernel
theorem dX1_add_13 : decode cX1_add 13 = .ok (.aload_n 0, 1) := by decide +kernel
theorem dX1_add_14 : decode cX1_add 14 = .ok (.getfield 15, 3) := by decide +kernel
theorem dX1_add_17 : decode cX1_add 17 = .ok (.aload_n 1, 1) := by decide +kernel
theorem dX1_add_18 : decode cX1_add 18 = .ok (.getfield 25, 3) := by decide +kernel
theorem dX1_add_21 : decode cX1_add 21 = .ok (.iastore, 1) := by decide +kernel
theorem dX1_add_22 : decode cX1_add 22 = .ok (.aload_n 0, 1) := by decide +kernel
theorem dX1_add_23 : decode cX1_add 23 = .ok (.dup, 1) := by decide +kernel
theorem dX1_add_24 : decode cX1_add 24 = .ok (.getfield 19, 3) := by decide +kernel
theorem dX1_add_27 : decode cX1_add 27 = .ok (.aload_n 1, 1) := by decide +kernel
theorem dX1_add_28 : decode cX1_add 28 = .ok (.getfield 30, 3) := by decide +kernel
theorem dX1_add_31 : decode cX1_add 31 = .ok (.iadd, 1) := by decide +kernel
theorem dX1_add_32 : decode cX1_add 32 = .ok (.putfield 19, 3) := by decide +kernel
theorem dX1_add_35 : decode cX1_add 35 = .ok (.aload_n 0, 1) := by decide +kernel
theorem dX1_add_36 : decode cX1_add 36 = .ok (.dup, 1) := by decide +kernel
theorem dX1_add_37 : decode cX1_add 37 = .ok (.getfield 22, 3) := by decide +kernel
theorem dX1_add_40 : decode cX1_add 40 = .ok (.aload_n 1, 1) := by decide +kernel
theorem dX1_add_41 : decode cX1_add 41 = .ok (.getfield 31, 3) := by decide +kernel
theorem dX1_add_44 : decode cX1_add 44 = .ok (.iadd, 1) := by decide +kernel
theorem dX1_add_45 : decode cX1_add 45 = .ok (.putfield 22, 3) := by decide +kernel
theorem dX1_add_48 : decode cX1_add 48 = .ok (.aload_n 0, 1) := by decide +kernel
theorem dX1_add_49 : decode cX1_add 49 = .ok (.dup, 1) := by decide +kernel
theorem dX1_add_50 : decode cX1_add 50 = .ok (.getfield 15, 3) := by decide +kernel
theorem dX1_add_53 : decode cX1_add 53 = .ok (.iconst 1, 1) := by decide +kernel
theorem dX1_add_54 : decode cX1_add 54 = .ok (.iadd, 1) := by decide +kernel
theorem dX1_add_55 : decode cX1_add 55 = .ok (.putfield 15, 3) := by decide +kernel
theorem dX1_add_58 : decode cX1_add 58 = .ok (.return_, 1) := by decide +kernel
theorem dX1_witnesses_0 : decode cX1_witnesses 0 = .ok (.iconst 0, 1) := by decide +kernel
theorem dX1_witnesses_1 : decode cX1_witnesses 1 = .ok (.istore_n 2, 1) := by decide +kernel
theorem dX1_witnesses_2 : decode cX1_witnesses 2 = .ok (.iconst 0, 1) := by decide +kernel
theorem dX1_witnesses_3 : decode cX1_witnesses 3 = .ok (.istore_n 3, 1) := by decide +kernel
theorem dX1_witnesses_4 : decode cX1_witnesses 4 = .ok (.iload_n 3, 1) := by decide +kernel
theorem dX1_witnesses_5 : decode cX1_witnesses 5 = .ok (.aload_n 0, 1) := by decide +kernel
theorem dX1_witnesses_6 : decode cX1_witnesses 6 = .ok (.getfield 15, 3) := by decide +kernel
theorem dX1_witnesses_9 : decode cX1_witnesses 9 = .ok (.if_icmp .ge 24, 3) := by decide +kernel
theorem dX1_witnesses_12 : decode cX1_witnesses 12 = .ok (.iload_n 2, 1) := by decide +kernel
theorem dX1_witnesses_13 : decode cX1_witnesses 13 = .ok (.aload_n 0, 1) := by decide +kernel
theorem dX1_witnesses_14 : decode cX1_witnesses 14 = .ok (.getfield 9, 3) := by decide +kernel
theorem dX1_witnesses_17 : decode cX1_witnesses 17 = .ok (.iload_n 3, 1) := by decide +kernel
theorem dX1_witnesses_18 : decode cX1_witnesses 18 = .ok (.iaload, 1) := by decide +kernel
theorem dX1_witnesses_19 : decode cX1_witnesses 19 = .ok (.iload_n 1, 1) := by decide +kernel
theorem dX1_witnesses_20 : decode cX1_witnesses 20 = .ok (.ishr, 1) := by decide +kernel
theorem dX1_witnesses_21 : decode cX1_witnesses 21 = .ok (.iconst 1, 1) := by decide +kernel
theorem dX1_witnesses_22 : decode cX1_witnesses 22 = .ok (.iand, 1) := by decide +kernel
theorem dX1_witnesses_23 : decode cX1_witnesses 23 = .ok (.iload_n 3, 1) := by decide +kernel
theorem dX1_witnesses_24 : decode cX1_witnesses 24 = .ok (.ishl, 1) := by decide +kernel
theorem dX1_witnesses_25 : decode cX1_witnesses 25 = .ok (.ior, 1) := by decide +kernel
theorem dX1_witnesses_26 : decode cX1_witnesses 26 = .ok (.istore_n 2, 1) := by decide +kernel
theorem dX1_witnesses_27 : decode cX1_witnesses 27 = .ok (.iinc 3 1, 3) := by decide +kernel
theorem dX1_witnesses_30 : decode cX1_witnesses 30 = .ok (.goto (-26), 3) := by decide +kernel
theorem dX1_witnesses_33 : decode cX1_witnesses 33 = .ok (.iload_n 2, 1) := by decide +kernel
theorem dX1_witnesses_34 : decode cX1_witnesses 34 = .ok (.ireturn, 1) := by decide +kernel
theorem dX1_provenOf_0 : decode cX1_provenOf 0 = .ok (.iconst 0, 1) := by decide +kernel
theorem dX1_provenOf_1 : decode cX1_provenOf 1 = .ok (.istore_n 3, 1) := by decide +kernel
theorem dX1_provenOf_2 : decode cX1_provenOf 2 = .ok (.iconst 0, 1) := by decide +kernel
theorem dX1_provenOf_3 : decode cX1_provenOf 3 = .ok (.istore 4, 2) := by decide +kernel
theorem dX1_provenOf_5 : decode cX1_provenOf 5 = .ok (.iload 4, 2) := by decide +kernel
theorem dX1_provenOf_7 : decode cX1_provenOf 7 = .ok (.iload_n 1, 1) := by decide +kernel
theorem dX1_provenOf_8 : decode cX1_provenOf 8 = .ok (.if_icmp .ge 25, 3) := by decide +kernel
theorem dX1_provenOf_11 : decode cX1_provenOf 11 = .ok (.aload_n 0, 1) := by decide +kernel
theorem dX1_provenOf_12 : decode cX1_provenOf 12 = .ok (.iload 4, 2) := by decide +kernel
theorem dX1_provenOf_14 : decode cX1_provenOf 14 = .ok (.invokevirtual 32, 3) := by decide +kernel
theorem dX1_provenOf_17 : decode cX1_provenOf 17 = .ok (.invokestatic 36, 3) := by decide +kernel
theorem dX1_provenOf_20 : decode cX1_provenOf 20 = .ok (.iload_n 2, 1) := by decide +kernel
theorem dX1_provenOf_21 : decode cX1_provenOf 21 = .ok (.if_icmp .lt 6, 3) := by decide +kernel
theorem dX1_provenOf_24 : decode cX1_provenOf 24 = .ok (.iinc 3 1, 3) := by decide +kernel
theorem dX1_provenOf_27 : decode cX1_provenOf 27 = .ok (.iinc 4 1, 3) := by decide +kernel
theorem dX1_provenOf_30 : decode cX1_provenOf 30 = .ok (.goto (-25), 3) := by decide +kernel
theorem dX1_provenOf_33 : decode cX1_provenOf 33 = .ok (.iload_n 3, 1) := by decide +kernel
theorem dX1_provenOf_34 : decode cX1_provenOf 34 = .ok (.ireturn, 1) := by decide +kernel
theorem dX2_init_0 : decode cX2_init 0 = .ok (.aload_n 0, 1) := by decide +kernel
theorem dX2_init_1 : decode cX2_init 1 = .ok (.invokespecial 3, 3) := by decide +kernel
theorem dX2_init_4 : decode cX2_init 4 = .ok (.aload_n 0, 1) := by decide +kernel
theorem dX2_init_5 : decode cX2_init 5 = .ok (.bipush 8, 2) := by decide +kernel
theorem dX2_init_7 : decode cX2_init 7 = .ok (.newarray .int, 2) := by decide +kernel
theorem dX2_init_9 : decode cX2_init 9 = .ok (.putfield 9, 3) := by decide +kernel
theorem dX2_init_12 : decode cX2_init 12 = .ok (.aload_n 0, 1) := by decide +kernel
theorem dX2_init_13 : decode cX2_init 13 = .ok (.bipush 8, 2) := by decide +kernel
theorem dX2_init_15 : decode cX2_init 15 = .ok (.newarray .int, 2) := by decide +kernel
theorem dX2_init_17 : decode cX2_init 17 = .ok (.putfield 15, 3) := by decide +kernel
theorem dX2_init_20 : decode cX2_init 20 = .ok (.aload_n 0, 1) := by decide +kernel
theorem dX2_init_21 : decode cX2_init 21 = .ok (.bipush 8, 2) := by decide +kernel
theorem dX2_init_23 : decode cX2_init 23 = .ok (.newarray .int, 2) := by decide +kernel
theorem dX2_init_25 : decode cX2_init 25 = .ok (.putfield 18, 3) := by decide +kernel
theorem dX2_init_28 : decode cX2_init 28 = .ok (.aload_n 0, 1) := by decide +kernel
theorem dX2_init_29 : decode cX2_init 29 = .ok (.iconst 4, 1) := by decide +kernel
theorem dX2_init_30 : decode cX2_init 30 = .ok (.newarray .int, 2) := by decide +kernel
theorem dX2_init_32 : decode cX2_init 32 = .ok (.putfield 21, 3) := by decide +kernel
theorem dX2_init_35 : decode cX2_init 35 = .ok (.return_, 1) := by decide +kernel
theorem dX2_pass_0 : decode cX2_pass 0 = .ok (.aload_n 0, 1) := by decide +kernel
theorem dX2_pass_1 : decode cX2_pass 1 = .ok (.aload_n 1, 1) := by decide +kernel
theorem dX2_pass_2 : decode cX2_pass 2 = .ok (.invokevirtual 24, 3) := by decide +kernel
theorem dX2_pass_5 : decode cX2_pass 5 = .ok (.iconst 0, 1) := by decide +kernel
theorem dX2_pass_6 : decode cX2_pass 6 = .ok (.istore 4, 2) := by decide +kernel
theorem dX2_pass_8 : decode cX2_pass 8 = .ok (.iload 4, 2) := by decide +kernel
theorem dX2_pass_10 : decode cX2_pass 10 = .ok (.aload_n 2, 1) := by decide +kernel
theorem dX2_pass_11 : decode cX2_pass 11 = .ok (.getfield 28, 3) := by decide +kernel
theorem dX2_pass_14 : decode cX2_pass 14 = .ok (.if_icmp .ge 22, 3) := by decide +kernel
theorem dX2_pass_17 : decode cX2_pass 17 = .ok (.aload_n 0, 1) := by decide +kernel
theorem dX2_pass_18 : decode cX2_pass 18 = .ok (.aload_n 1, 1) := by decide +kernel
theorem dX2_pass_19 : decode cX2_pass 19 = .ok (.aload_n 2, 1) := by decide +kernel
theorem dX2_pass_20 : decode cX2_pass 20 = .ok (.aload_n 2, 1) := by decide +kernel
theorem dX2_pass_21 : decode cX2_pass 21 = .ok (.getfield 34, 3) := by decide +kernel
theorem dX2_pass_24 : decode cX2_pass 24 = .ok (.iload 4, 2) := by decide +kernel
theorem dX2_pass_26 : decode cX2_pass 26 = .ok (.iaload, 1) := by decide +kernel
theorem dX2_pass_27 : decode cX2_pass 27 = .ok (.invokevirtual 37, 3) := by decide +kernel
theorem dX2_pass_30 : decode cX2_pass 30 = .ok (.iinc 4 1, 3) := by decide +kernel
theorem dX2_pass_33 : decode cX2_pass 33 = .ok (.goto (-25), 3) := by decide +kernel
theorem dX2_pass_36 : decode cX2_pass 36 = .ok (.aload_n 0, 1) := by decide +kernel
theorem dX2_pass_37 : decode cX2_pass 37 = .ok (.iconst 0, 1) := by decide +kernel
theorem dX2_pass_38 : decode cX2_pass 38 = .ok (.putfield 41, 3) := by decide +kernel
theorem dX2_pass_41 : decode cX2_pass 41 = .ok (.iconst 0, 1) := by decide +kernel
theorem dX2_pass_42 : decode cX2_pass 42 = .ok (.istore 4, 2) := by decide +kernel
theorem dX2_pass_44 : decode cX2_pass 44 = .ok (.iload 4, 2) := by decide +kernel
theorem dX2_pass_46 : decode cX2_pass 46 = .ok (.aload_n 2, 1) := by decide +kernel
theorem dX2_pass_47 : decode cX2_pass 47 = .ok (.getfield 28, 3) := by decide +kernel
theorem dX2_pass_50 : decode cX2_pass 50 = .ok (.if_icmp .ge 51, 3) := by decide +kernel
theorem dX2_pass_53 : decode cX2_pass 53 = .ok (.aload_n 0, 1) := by decide +kernel
theorem dX2_pass_54 : decode cX2_pass 54 = .ok (.aload_n 0, 1) := by decide +kernel
theorem dX2_pass_55 : decode cX2_pass 55 = .ok (.getfield 18, 3) := by decide +kernel
theorem dX2_pass_58 : decode cX2_pass 58 = .ok (.iload 4, 2) := by decide +kernel
theorem dX2_pass_60 : decode cX2_pass 60 = .ok (.iaload, 1) := by decide +kernel
theorem dX2_pass_61 : decode cX2_pass 61 = .ok (.aload_n 0, 1) := by decide +kernel
theorem dX2_pass_62 : decode cX2_pass 62 = .ok (.getfield 15, 3) := by decide +kernel
theorem dX2_pass_65 : decode cX2_pass 65 = .ok (.iload 4, 2) := by decide +kernel
theorem dX2_pass_67 : decode cX2_pass 67 = .ok (.iaload, 1) := by decide +kernel
theorem dX2_pass_68 : decode cX2_pass 68 = .ok (.aload_n 2, 1) := by decide +kernel
theorem dX2_pass_69 : decode cX2_pass 69 = .ok (.getfield 44, 3) := by decide +kernel
theorem dX2_pass_72 : decode cX2_pass 72 = .ok (.iload 4, 2) := by decide +kernel
theorem dX2_pass_74 : decode cX2_pass 74 = .ok (.iaload, 1) := by decide +kernel
theorem dX2_pass_75 : decode cX2_pass 75 = .ok (.aload_n 3, 1) := by decide +kernel
theorem dX2_pass_76 : decode cX2_pass 76 = .ok (.invokevirtual 47, 3) := by decide +kernel
theorem dX2_pass_79 : decode cX2_pass 79 = .ok (.ifCond .eq 16, 3) := by decide +kernel
theorem dX2_pass_82 : decode cX2_pass 82 = .ok (.aload_n 0, 1) := by decide +kernel
theorem dX2_pass_83 : decode cX2_pass 83 = .ok (.dup, 1) := by decide +kernel
theorem dX2_pass_84 : decode cX2_pass 84 = .ok (.getfield 41, 3) := by decide +kernel
theorem dX2_pass_87 : decode cX2_pass 87 = .ok (.iconst 1, 1) := by decide +kernel
theorem dX2_pass_88 : decode cX2_pass 88 = .ok (.iload 4, 2) := by decide +kernel
theorem dX2_pass_90 : decode cX2_pass 90 = .ok (.ishl, 1) := by decide +kernel
theorem dX2_pass_91 : decode cX2_pass 91 = .ok (.ior, 1) := by decide +kernel
theorem dX2_pass_92 : decode cX2_pass 92 = .ok (.putfield 41, 3) := by decide +kernel
theorem dX2_pass_95 : decode cX2_pass 95 = .ok (.iinc 4 1, 3) := by decide +kernel
theorem dX2_pass_98 : decode cX2_pass 98 = .ok (.goto (-54), 3) := by decide +kernel
theorem dX2_pass_101 : decode cX2_pass 101 = .ok (.return_, 1) := by decide +kernel
theorem dX2_hoursFor_0 : decode cX2_hoursFor 0 = .ok (.aload_n 0, 1) := by decide +kernel
theorem dX2_hoursFor_1 : decode cX2_hoursFor 1 = .ok (.aload_n 1, 1) := by decide +kernel
theorem dX2_hoursFor_2 : decode cX2_hoursFor 2 = .ok (.invokevirtual 24, 3) := by decide +kernel
theorem dX2_hoursFor_5 : decode cX2_hoursFor 5 = .ok (.aload_n 1, 1) := by decide +kernel
theorem dX2_hoursFor_6 : decode cX2_hoursFor 6 = .ok (.getfield 51, 3) := by decide +kernel
theorem dX2_hoursFor_9 : decode cX2_hoursFor 9 = .ok (.iload_n 3, 1) := by decide +kernel
theorem dX2_hoursFor_10 : decode cX2_hoursFor 10 = .ok (.iload 4, 2) := by decide +kernel
theorem dX2_hoursFor_12 : decode cX2_hoursFor 12 = .ok (.invokestatic 56, 3) := by decide +kernel
theorem dX2_hoursFor_15 : decode cX2_hoursFor 15 = .ok (.istore 6, 2) := by decide +kernel
theorem dX2_hoursFor_17 : decode cX2_hoursFor 17 = .ok (.lconst 0, 1) := by decide +kernel
theorem dX2_hoursFor_18 : decode cX2_hoursFor 18 = .ok (.lstore 7, 2) := by decide +kernel
theorem dX2_hoursFor_20 : decode cX2_hoursFor 20 = .ok (.iconst 0, 1) := by decide +kernel
theorem dX2_hoursFor_21 : decode cX2_hoursFor 21 = .ok (.istore 9, 2) := by decide +kernel
theorem dX2_hoursFor_23 : decode cX2_hoursFor 23 = .ok (.iconst 0, 1) := by decide +kernel
theorem dX2_hoursFor_24 : decode cX2_hoursFor 24 = .ok (.istore 10, 2) := by decide +kernel
theorem dX2_hoursFor_26 : decode cX2_hoursFor 26 = .ok (.iload 10, 2) := by decide +kernel
theorem dX2_hoursFor_28 : decode cX2_hoursFor 28 = .ok (.bipush 50, 2) := by decide +kernel
theorem dX2_hoursFor_30 : decode cX2_hoursFor 30 = .ok (.if_icmp .ge 96, 3) := by decide +kernel
theorem dX2_hoursFor_33 : decode cX2_hoursFor 33 = .ok (.iload 9, 2) := by decide +kernel
theorem dX2_hoursFor_35 : decode cX2_hoursFor 35 = .ok (.aload_n 2, 1) := by decide +kernel
theorem dX2_hoursFor_36 : decode cX2_hoursFor 36 = .ok (.getfield 28, 3) := by decide +kernel
theorem dX2_hoursFor_39 : decode cX2_hoursFor 39 = .ok (.if_icmp .ge 39, 3) := by decide +kernel
theorem dX2_hoursFor_42 : decode cX2_hoursFor 42 = .ok (.aload_n 2, 1) := by decide +kernel
theorem dX2_hoursFor_43 : decode cX2_hoursFor 43 = .ok (.getfield 44, 3) := by decide +kernel
theorem dX2_hoursFor_46 : decode cX2_hoursFor 46 = .ok (.aload_n 2, 1) := by decide +kernel
theorem dX2_hoursFor_47 : decode cX2_hoursFor 47 = .ok (.getfield 34, 3) := by decide +kernel
theorem dX2_hoursFor_50 : decode cX2_hoursFor 50 = .ok (.iload 9, 2) := by decide +kernel
theorem dX2_hoursFor_52 : decode cX2_hoursFor 52 = .ok (.iaload, 1) := by decide +kernel
theorem dX2_hoursFor_53 : decode cX2_hoursFor 53 = .ok (.iaload, 1) := by decide +kernel
theorem dX2_hoursFor_54 : decode cX2_hoursFor 54 = .ok (.iload 10, 2) := by decide +kernel
theorem dX2_hoursFor_56 : decode cX2_hoursFor 56 = .ok (.if_icmp .ne 22, 3) := by decide +kernel
theorem dX2_hoursFor_59 : decode cX2_hoursFor 59 = .ok (.aload_n 0, 1) := by decide +kernel
theorem dX2_hoursFor_60 : decode cX2_hoursFor 60 = .ok (.aload_n 1, 1) := by decide +kernel
theorem dX2_hoursFor_61 : decode cX2_hoursFor 61 = .ok (.aload_n 2, 1) := by decide +kernel
theorem dX2_hoursFor_62 : decode cX2_hoursFor 62 = .ok (.aload_n 2, 1) := by decide +kernel
theorem dX2_hoursFor_63 : decode cX2_hoursFor 63 = .ok (.getfield 34, 3) := by decide +kernel
theorem dX2_hoursFor_66 : decode cX2_hoursFor 66 = .ok (.iload 9, 2) := by decide +kernel
theorem dX2_hoursFor_68 : decode cX2_hoursFor 68 = .ok (.iaload, 1) := by decide +kernel
theorem dX2_hoursFor_69 : decode cX2_hoursFor 69 = .ok (.invokevirtual 37, 3) := by decide +kernel
theorem dX2_hoursFor_72 : decode cX2_hoursFor 72 = .ok (.iinc 9 1, 3) := by decide +kernel
theorem dX2_hoursFor_75 : decode cX2_hoursFor 75 = .ok (.goto (-42), 3) := by decide +kernel
theorem dX2_hoursFor_78 : decode cX2_hoursFor 78 = .ok (.aload_n 1, 1) := by decide +kernel
theorem dX2_hoursFor_79 : decode cX2_hoursFor 79 = .ok (.iload 10, 2) := by decide +kernel
theorem dX2_hoursFor_81 : decode cX2_hoursFor 81 = .ok (.aload_n 0, 1) := by decide +kernel
theorem dX2_hoursFor_82 : decode cX2_hoursFor 82 = .ok (.getfield 60, 3) := by decide +kernel
theorem dX2_hoursFor_85 : decode cX2_hoursFor 85 = .ok (.isub, 1) := by decide +kernel
theorem dX2_hoursFor_86 : decode cX2_hoursFor 86 = .ok (.invokevirtual 63, 3) := by decide +kernel
theorem dX2_hoursFor_89 : decode cX2_hoursFor 89 = .ok (.istore 11, 2) := by decide +kernel
theorem dX2_hoursFor_91 : decode cX2_hoursFor 91 = .ok (.aload_n 0, 1) := by decide +kernel
theorem dX2_hoursFor_92 : decode cX2_hoursFor 92 = .ok (.iload 6, 2) := by decide +kernel
theorem dX2_hoursFor_94 : decode cX2_hoursFor 94 = .ok (.iload 11, 2) := by decide +kernel
theorem dX2_hoursFor_96 : decode cX2_hoursFor 96 = .ok (.invokestatic 67, 3) := by decide +kernel
theorem dX2_hoursFor_99 : decode cX2_hoursFor 99 = .ok (.iload 11, 2) := by decide +kernel
theorem dX2_hoursFor_101 : decode cX2_hoursFor 101 = .ok (.iload 10, 2) := by decide +kernel
theorem dX2_hoursFor_103 : decode cX2_hoursFor 103 = .ok (.aload 5, 2) := by decide +kernel
theorem dX2_hoursFor_105 : decode cX2_hoursFor 105 = .ok (.invokevirtual 47, 3) := by decide +kernel
theorem dX2_hoursFor_108 : decode cX2_hoursFor 108 = .ok (.ifCond .eq 12, 3) := by decide +kernel
theorem dX2_hoursFor_111 : decode cX2_hoursFor 111 = .ok (.lload 7, 2) := by decide +kernel
theorem dX2_hoursFor_113 : decode cX2_hoursFor 113 = .ok (.lconst 1, 1) := by decide +kernel
theorem dX2_hoursFor_114 : decode cX2_hoursFor 114 = .ok (.iload 10, 2) := by decide +kernel
theorem dX2_hoursFor_116 : decode cX2_hoursFor 116 = .ok (.lshl, 1) := by decide +kernel
theorem dX2_hoursFor_117 : decode cX2_hoursFor 117 = .ok (.lor, 1) := by decide +kernel
theorem dX2_hoursFor_118 : decode cX2_hoursFor 118 = .ok (.lstore 7, 2) := by decide +kernel
theorem dX2_hoursFor_120 : decode cX2_hoursFor 120 = .ok (.iinc 10 1, 3) := by decide +kernel
theorem dX2_hoursFor_123 : decode cX2_hoursFor 123 = .ok (.goto (-97), 3) := by decide +kernel
theorem dX2_hoursFor_126 : decode cX2_hoursFor 126 = .ok (.lload 7, 2) := by decide +kernel
theorem dX2_hoursFor_128 : decode cX2_hoursFor 128 = .ok (.lreturn, 1) := by decide +kernel
theorem dX2_deepIn_0 : decode cX2_deepIn 0 = .ok (.aload_n 0, 1) := by decide +kernel
theorem dX2_deepIn_1 : decode cX2_deepIn 1 = .ok (.aload_n 2, 1) := by decide +kernel
theorem dX2_deepIn_2 : decode cX2_deepIn 2 = .ok (.invokevirtual 24, 3) := by decide +kernel
theorem dX2_deepIn_5 : decode cX2_deepIn 5 = .ok (.iconst 0, 1) := by decide +kernel
theorem dX2_deepIn_6 : decode cX2_deepIn 6 = .ok (.istore 4, 2) := by decide +kernel
theorem dX2_deepIn_8 : decode cX2_deepIn 8 = .ok (.iload 4, 2) := by decide +kernel
theorem dX2_deepIn_10 : decode cX2_deepIn 10 = .ok (.aload_n 3, 1) := by decide +kernel
theorem dX2_deepIn_11 : decode cX2_deepIn 11 = .ok (.getfield 28, 3) := by decide +kernel
theorem dX2_deepIn_14 : decode cX2_deepIn 14 = .ok (.if_icmp .ge 38, 3) := by decide +kernel
theorem dX2_deepIn_17 : decode cX2_deepIn 17 = .ok (.aload_n 3, 1) := by decide +kernel
theorem dX2_deepIn_18 : decode cX2_deepIn 18 = .ok (.getfield 44, 3) := by decide +kernel
theorem dX2_deepIn_21 : decode cX2_deepIn 21 = .ok (.aload_n 3, 1) := by decide +kernel
theorem dX2_deepIn_22 : decode cX2_deepIn 22 = .ok (.getfield 34, 3) := by decide +kernel
theorem dX2_deepIn_25 : decode cX2_deepIn 25 = .ok (.iload 4, 2) := by decide +kernel
theorem dX2_deepIn_27 : decode cX2_deepIn 27 = .ok (.iaload, 1) := by decide +kernel
theorem dX2_deepIn_28 : decode cX2_deepIn 28 = .ok (.iaload, 1) := by decide +kernel
theorem dX2_deepIn_29 : decode cX2_deepIn 29 = .ok (.iload_n 1, 1) := by decide +kernel
theorem dX2_deepIn_30 : decode cX2_deepIn 30 = .ok (.if_icmp .ge 22, 3) := by decide +kernel
theorem dX2_deepIn_33 : decode cX2_deepIn 33 = .ok (.aload_n 0, 1) := by decide +kernel
theorem dX2_deepIn_34 : decode cX2_deepIn 34 = .ok (.aload_n 2, 1) := by decide +kernel
theorem dX2_deepIn_35 : decode cX2_deepIn 35 = .ok (.aload_n 3, 1) := by decide +kernel
theorem dX2_deepIn_36 : decode cX2_deepIn 36 = .ok (.aload_n 3, 1) := by decide +kernel
theorem dX2_deepIn_37 : decode cX2_deepIn 37 = .ok (.getfield 34, 3) := by decide +kernel
theorem dX2_deepIn_40 : decode cX2_deepIn 40 = .ok (.iload 4, 2) := by decide +kernel
theorem dX2_deepIn_42 : decode cX2_deepIn 42 = .ok (.iaload, 1) := by decide +kernel
theorem dX2_deepIn_43 : decode cX2_deepIn 43 = .ok (.invokevirtual 37, 3) := by decide +kernel
theorem dX2_deepIn_46 : decode cX2_deepIn 46 = .ok (.iinc 4 1, 3) := by decide +kernel
theorem dX2_deepIn_49 : decode cX2_deepIn 49 = .ok (.goto (-41), 3) := by decide +kernel
theorem dX2_deepIn_52 : decode cX2_deepIn 52 = .ok (.aload_n 2, 1) := by decide +kernel
theorem dX2_deepIn_53 : decode cX2_deepIn 53 = .ok (.iload_n 1, 1) := by decide +kernel
theorem dX2_deepIn_54 : decode cX2_deepIn 54 = .ok (.aload_n 0, 1) := by decide +kernel
theorem dX2_deepIn_55 : decode cX2_deepIn 55 = .ok (.getfield 60, 3) := by decide +kernel
theorem dX2_deepIn_58 : decode cX2_deepIn 58 = .ok (.isub, 1) := by decide +kernel
theorem dX2_deepIn_59 : decode cX2_deepIn 59 = .ok (.invokevirtual 63, 3) := by decide +kernel
theorem dX2_deepIn_62 : decode cX2_deepIn 62 = .ok (.ireturn, 1) := by decide +kernel
theorem dX2_lieDown_0 : decode cX2_lieDown 0 = .ok (.aload_n 0, 1) := by decide +kernel
theorem dX2_lieDown_1 : decode cX2_lieDown 1 = .ok (.aload_n 1, 1) := by decide +kernel
theorem dX2_lieDown_2 : decode cX2_lieDown 2 = .ok (.getfield 71, 3) := by decide +kernel
theorem dX2_lieDown_5 : decode cX2_lieDown 5 = .ok (.putfield 60, 3) := by decide +kernel
theorem dX2_lieDown_8 : decode cX2_lieDown 8 = .ok (.aload_n 0, 1) := by decide +kernel
theorem dX2_lieDown_9 : decode cX2_lieDown 9 = .ok (.lconst 0, 1) := by decide +kernel
theorem dX2_lieDown_10 : decode cX2_lieDown 10 = .ok (.putfield 74, 3) := by decide +kernel
theorem dX2_lieDown_13 : decode cX2_lieDown 13 = .ok (.aload_n 0, 1) := by decide +kernel
theorem dX2_lieDown_14 : decode cX2_lieDown 14 = .ok (.iconst 0, 1) := by decide +kernel
theorem dX2_lieDown_15 : decode cX2_lieDown 15 = .ok (.putfield 78, 3) := by decide +kernel
theorem dX2_lieDown_18 : decode cX2_lieDown 18 = .ok (.aload_n 0, 1) := by decide +kernel
theorem dX2_lieDown_19 : decode cX2_lieDown 19 = .ok (.iconst 0, 1) := by decide +kernel
theorem dX2_lieDown_20 : decode cX2_lieDown 20 = .ok (.putfield 81, 3) := by decide +kernel
theorem dX2_lieDown_23 : decode cX2_lieDown 23 = .ok (.aload_n 0, 1) := by decide +kernel
theorem dX2_lieDown_24 : decode cX2_lieDown 24 = .ok (.getfield 21, 3) := by decide +kernel
theorem dX2_lieDown_27 : decode cX2_lieDown 27 = .ok (.iconst 0, 1) := by decide +kernel
theorem dX2_lieDown_28 : decode cX2_lieDown 28 = .ok (.invokestatic 84, 3) := by decide +kernel
theorem dX2_lieDown_31 : decode cX2_lieDown 31 = .ok (.return_, 1) := by decide +kernel
theorem dX2_meet_0 : decode cX2_meet 0 = .ok (.aload_n 2, 1) := by decide +kernel
theorem dX2_meet_1 : decode cX2_meet 1 = .ok (.getfield 44, 3) := by decide +kernel
theorem dX2_meet_4 : decode cX2_meet 4 = .ok (.iload_n 3, 1) := by decide +kernel
theorem dX2_meet_5 : decode cX2_meet 5 = .ok (.iaload, 1) := by decide +kernel
theorem dX2_meet_6 : decode cX2_meet 6 = .ok (.istore 4, 2) := by decide +kernel
theorem dX2_meet_8 : decode cX2_meet 8 = .ok (.aload_n 0, 1) := by decide +kernel
theorem dX2_meet_9 : decode cX2_meet 9 = .ok (.getfield 9, 3) := by decide +kernel
theorem dX2_meet_12 : decode cX2_meet 12 = .ok (.iload_n 3, 1) := by decide +kernel
theorem dX2_meet_13 : decode cX2_meet 13 = .ok (.aload_n 1, 1) := by decide +kernel
theorem dX2_meet_14 : decode cX2_meet 14 = .ok (.getfield 51, 3) := by decide +kernel
theorem dX2_meet_17 : decode cX2_meet 17 = .ok (.aload_n 2, 1) := by decide +kernel
theorem dX2_meet_18 : decode cX2_meet 18 = .ok (.getfield 90, 3) := by decide +kernel
theorem dX2_meet_21 : decode cX2_meet 21 = .ok (.iload_n 3, 1) := by decide +kernel
theorem dX2_meet_22 : decode cX2_meet 22 = .ok (.iaload, 1) := by decide +kernel
theorem dX2_meet_23 : decode cX2_meet 23 = .ok (.aload_n 2, 1) := by decide +kernel
theorem dX2_meet_24 : decode cX2_meet 24 = .ok (.getfield 92, 3) := by decide +kernel
theorem dX2_meet_27 : decode cX2_meet 27 = .ok (.iload_n 3, 1) := by decide +kernel
theorem dX2_meet_28 : decode cX2_meet 28 = .ok (.iaload, 1) := by decide +kernel
theorem dX2_meet_29 : decode cX2_meet 29 = .ok (.invokestatic 56, 3) := by decide +kernel
theorem dX2_meet_32 : decode cX2_meet 32 = .ok (.iastore, 1) := by decide +kernel
theorem dX2_meet_33 : decode cX2_meet 33 = .ok (.aload_n 0, 1) := by decide +kernel
theorem dX2_meet_34 : decode cX2_meet 34 = .ok (.getfield 15, 3) := by decide +kernel
theorem dX2_meet_37 : decode cX2_meet 37 = .ok (.iload_n 3, 1) := by decide +kernel
theorem dX2_meet_38 : decode cX2_meet 38 = .ok (.aload_n 1, 1) := by decide +kernel
theorem dX2_meet_39 : decode cX2_meet 39 = .ok (.iload 4, 2) := by decide +kernel
theorem dX2_meet_41 : decode cX2_meet 41 = .ok (.aload_n 0, 1) := by decide +kernel
theorem dX2_meet_42 : decode cX2_meet 42 = .ok (.getfield 60, 3) := by decide +kernel
theorem dX2_meet_45 : decode cX2_meet 45 = .ok (.isub, 1) := by decide +kernel
theorem dX2_meet_46 : decode cX2_meet 46 = .ok (.invokevirtual 63, 3) := by decide +kernel
theorem dX2_meet_49 : decode cX2_meet 49 = .ok (.iastore, 1) := by decide +kernel
theorem dX2_meet_50 : decode cX2_meet 50 = .ok (.aload_n 0, 1) := by decide +kernel
theorem dX2_meet_51 : decode cX2_meet 51 = .ok (.getfield 18, 3) := by decide +kernel
theorem dX2_meet_54 : decode cX2_meet 54 = .ok (.iload_n 3, 1) := by decide +kernel
theorem dX2_meet_55 : decode cX2_meet 55 = .ok (.aload_n 0, 1) := by decide +kernel
theorem dX2_meet_56 : decode cX2_meet 56 = .ok (.getfield 9, 3) := by decide +kernel
theorem dX2_meet_59 : decode cX2_meet 59 = .ok (.iload_n 3, 1) := by decide +kernel
theorem dX2_meet_60 : decode cX2_meet 60 = .ok (.iaload, 1) := by decide +kernel
theorem dX2_meet_61 : decode cX2_meet 61 = .ok (.aload_n 0, 1) := by decide +kernel
theorem dX2_meet_62 : decode cX2_meet 62 = .ok (.getfield 15, 3) := by decide +kernel
theorem dX2_meet_65 : decode cX2_meet 65 = .ok (.iload_n 3, 1) := by decide +kernel
theorem dX2_meet_66 : decode cX2_meet 66 = .ok (.iaload, 1) := by decide +kernel
theorem dX2_meet_67 : decode cX2_meet 67 = .ok (.invokestatic 67, 3) := by decide +kernel
theorem dX2_meet_70 : decode cX2_meet 70 = .ok (.iastore, 1) := by decide +kernel
theorem dX2_meet_71 : decode cX2_meet 71 = .ok (.aload_n 0, 1) := by decide +kernel
theorem dX2_meet_72 : decode cX2_meet 72 = .ok (.getfield 18, 3) := by decide +kernel
theorem dX2_meet_75 : decode cX2_meet 75 = .ok (.iload_n 3, 1) := by decide +kernel
theorem dX2_meet_76 : decode cX2_meet 76 = .ok (.iaload, 1) := by decide +kernel
theorem dX2_meet_77 : decode cX2_meet 77 = .ok (.iconst 3, 1) := by decide +kernel
theorem dX2_meet_78 : decode cX2_meet 78 = .ok (.if_icmp .ne 28, 3) := by decide +kernel
theorem dX2_meet_81 : decode cX2_meet 81 = .ok (.aload_n 0, 1) := by decide +kernel
theorem dX2_meet_82 : decode cX2_meet 82 = .ok (.dup, 1) := by decide +kernel
theorem dX2_meet_83 : decode cX2_meet 83 = .ok (.getfield 78, 3) := by decide +kernel
theorem dX2_meet_86 : decode cX2_meet 86 = .ok (.iconst 1, 1) := by decide +kernel
theorem dX2_meet_87 : decode cX2_meet 87 = .ok (.iadd, 1) := by decide +kernel
theorem dX2_meet_88 : decode cX2_meet 88 = .ok (.putfield 78, 3) := by decide +kernel
theorem dX2_meet_91 : decode cX2_meet 91 = .ok (.aload_n 0, 1) := by decide +kernel
theorem dX2_meet_92 : decode cX2_meet 92 = .ok (.getfield 21, 3) := by decide +kernel
theorem dX2_meet_95 : decode cX2_meet 95 = .ok (.aload_n 2, 1) := by decide +kernel
theorem dX2_meet_96 : decode cX2_meet 96 = .ok (.getfield 92, 3) := by decide +kernel
theorem dX2_meet_99 : decode cX2_meet 99 = .ok (.iload_n 3, 1) := by decide +kernel
theorem dX2_meet_100 : decode cX2_meet 100 = .ok (.iaload, 1) := by decide +kernel
theorem dX2_meet_101 : decode cX2_meet 101 = .ok (.dup2, 1) := by decide +kernel
theorem dX2_meet_102 : decode cX2_meet 102 = .ok (.iaload, 1) := by decide +kernel
theorem dX2_meet_103 : decode cX2_meet 103 = .ok (.iconst 1, 1) := by decide +kernel
theorem dX2_meet_104 : decode cX2_meet 104 = .ok (.iadd, 1) := by decide +kernel
theorem dX2_meet_105 : decode cX2_meet 105 = .ok (.iastore, 1) := by decide +kernel
theorem dX2_meet_106 : decode cX2_meet 106 = .ok (.aload_n 0, 1) := by decide +kernel
theorem dX2_meet_107 : decode cX2_meet 107 = .ok (.getfield 18, 3) := by decide +kernel
theorem dX2_meet_110 : decode cX2_meet 110 = .ok (.iload_n 3, 1) := by decide +kernel
theorem dX2_meet_111 : decode cX2_meet 111 = .ok (.iaload, 1) := by decide +kernel
theorem dX2_meet_112 : decode cX2_meet 112 = .ok (.iconst 2, 1) := by decide +kernel
theorem dX2_meet_113 : decode cX2_meet 113 = .ok (.if_icmp .ne 34, 3) := by decide +kernel
theorem dX2_meet_116 : decode cX2_meet 116 = .ok (.aload_n 0, 1) := by decide +kernel
theorem dX2_meet_117 : decode cX2_meet 117 = .ok (.dup, 1) := by decide +kernel
theorem dX2_meet_118 : decode cX2_meet 118 = .ok (.getfield 81, 3) := by decide +kernel
theorem dX2_meet_121 : decode cX2_meet 121 = .ok (.iconst 1, 1) := by decide +kernel
theorem dX2_meet_122 : decode cX2_meet 122 = .ok (.iadd, 1) := by decide +kernel
theorem dX2_meet_123 : decode cX2_meet 123 = .ok (.putfield 81, 3) := by decide +kernel
theorem dX2_meet_126 : decode cX2_meet 126 = .ok (.aload_n 0, 1) := by decide +kernel
theorem dX2_meet_127 : decode cX2_meet 127 = .ok (.dup, 1) := by decide +kernel
theorem dX2_meet_128 : decode cX2_meet 128 = .ok (.getfield 74, 3) := by decide +kernel
theorem dX2_meet_131 : decode cX2_meet 131 = .ok (.lconst 1, 1) := by decide +kernel
theorem dX2_meet_132 : decode cX2_meet 132 = .ok (.iload 4, 2) := by decide +kernel
theorem dX2_meet_134 : decode cX2_meet 134 = .ok (.lshl, 1) := by decide +kernel
theorem dX2_meet_135 : decode cX2_meet 135 = .ok (.lor, 1) := by decide +kernel
theorem dX2_meet_136 : decode cX2_meet 136 = .ok (.putfield 74, 3) := by decide +kernel
theorem dX2_meet_139 : decode cX2_meet 139 = .ok (.aload_n 0, 1) := by decide +kernel
theorem dX2_meet_140 : decode cX2_meet 140 = .ok (.iload 4, 2) := by decide +kernel
theorem dX2_meet_142 : decode cX2_meet 142 = .ok (.iconst 3, 1) := by decide +kernel
theorem dX2_meet_143 : decode cX2_meet 143 = .ok (.iadd, 1) := by decide +kernel
theorem dX2_meet_144 : decode cX2_meet 144 = .ok (.putfield 60, 3) := by decide +kernel
theorem dX2_meet_147 : decode cX2_meet 147 = .ok (.return_, 1) := by decide +kernel
theorem dX2_loudAt_0 : decode cX2_loudAt 0 = .ok (.iconst 0, 1) := by decide +kernel
theorem dX2_loudAt_1 : decode cX2_loudAt 1 = .ok (.getstatic 95, 3) := by decide +kernel
theorem dX2_loudAt_4 : decode cX2_loudAt 4 = .ok (.iload_n 2, 1) := by decide +kernel
theorem dX2_loudAt_5 : decode cX2_loudAt 5 = .ok (.iaload, 1) := by decide +kernel
theorem dX2_loudAt_6 : decode cX2_loudAt 6 = .ok (.iload_n 0, 1) := by decide +kernel
theorem dX2_loudAt_7 : decode cX2_loudAt 7 = .ok (.iload_n 1, 1) := by decide +kernel
theorem dX2_loudAt_8 : decode cX2_loudAt 8 = .ok (.isub, 1) := by decide +kernel
theorem dX2_loudAt_9 : decode cX2_loudAt 9 = .ok (.invokestatic 98, 3) := by decide +kernel
theorem dX2_loudAt_12 : decode cX2_loudAt 12 = .ok (.isub, 1) := by decide +kernel
theorem dX2_loudAt_13 : decode cX2_loudAt 13 = .ok (.invokestatic 103, 3) := by decide +kernel
theorem dX2_loudAt_16 : decode cX2_loudAt 16 = .ok (.ireturn, 1) := by decide +kernel
theorem dX2_fateBy_0 : decode cX2_fateBy 0 = .ok (.iload_n 0, 1) := by decide +kernel
theorem dX2_fateBy_1 : decode cX2_fateBy 1 = .ok (.ifCond .ne 5, 3) := by decide +kernel
theorem dX2_fateBy_4 : decode cX2_fateBy 4 = .ok (.iconst 0, 1) := by decide +kernel
theorem dX2_fateBy_5 : decode cX2_fateBy 5 = .ok (.ireturn, 1) := by decide +kernel
theorem dX2_fateBy_6 : decode cX2_fateBy 6 = .ok (.iload_n 1, 1) := by decide +kernel
theorem dX2_fateBy_7 : decode cX2_fateBy 7 = .ok (.ifCond .ne 5, 3) := by decide +kernel
theorem dX2_fateBy_10 : decode cX2_fateBy 10 = .ok (.iconst 1, 1) := by decide +kernel
theorem dX2_fateBy_11 : decode cX2_fateBy 11 = .ok (.ireturn, 1) := by decide +kernel
theorem dX2_fateBy_12 : decode cX2_fateBy 12 = .ok (.iload_n 0, 1) := by decide +kernel
theorem dX2_fateBy_13 : decode cX2_fateBy 13 = .ok (.iload_n 1, 1) := by decide +kernel
theorem dX2_fateBy_14 : decode cX2_fateBy 14 = .ok (.iconst 3, 1) := by decide +kernel
theorem dX2_fateBy_15 : decode cX2_fateBy 15 = .ok (.iadd, 1) := by decide +kernel
theorem dX2_fateBy_16 : decode cX2_fateBy 16 = .ok (.if_icmp .lt 7, 3) := by decide +kernel
theorem dX2_fateBy_19 : decode cX2_fateBy 19 = .ok (.iconst 2, 1) := by decide +kernel
theorem dX2_fateBy_20 : decode cX2_fateBy 20 = .ok (.goto 4, 3) := by decide +kernel
theorem dX2_fateBy_23 : decode cX2_fateBy 23 = .ok (.iconst 3, 1) := by decide +kernel
theorem dX2_fateBy_24 : decode cX2_fateBy 24 = .ok (.ireturn, 1) := by decide +kernel
theorem dX2_testifies_0 : decode cX2_testifies 0 = .ok (.iload_n 1, 1) := by decide +kernel
theorem dX2_testifies_1 : decode cX2_testifies 1 = .ok (.iconst 3, 1) := by decide +kernel
theorem dX2_testifies_2 : decode cX2_testifies 2 = .ok (.if_icmp .ne 27, 3) := by decide +kernel
theorem dX2_testifies_5 : decode cX2_testifies 5 = .ok (.iload_n 2, 1) := by decide +kernel
theorem dX2_testifies_6 : decode cX2_testifies 6 = .ok (.aload 4, 2) := by decide +kernel
theorem dX2_testifies_8 : decode cX2_testifies 8 = .ok (.iconst 0, 1) := by decide +kernel
theorem dX2_testifies_9 : decode cX2_testifies 9 = .ok (.iaload, 1) := by decide +kernel
theorem dX2_testifies_10 : decode cX2_testifies 10 = .ok (.if_icmp .lt 19, 3) := by decide +kernel
theorem dX2_testifies_13 : decode cX2_testifies 13 = .ok (.aload_n 0, 1) := by decide +kernel
theorem dX2_testifies_14 : decode cX2_testifies 14 = .ok (.iload_n 3, 1) := by decide +kernel
theorem dX2_testifies_15 : decode cX2_testifies 15 = .ok (.aload 4, 2) := by decide +kernel
theorem dX2_testifies_17 : decode cX2_testifies 17 = .ok (.iconst 1, 1) := by decide +kernel
theorem dX2_testifies_18 : decode cX2_testifies 18 = .ok (.iaload, 1) := by decide +kernel
theorem dX2_testifies_19 : decode cX2_testifies 19 = .ok (.invokevirtual 106, 3) := by decide +kernel
theorem dX2_testifies_22 : decode cX2_testifies 22 = .ok (.ifCond .ne 7, 3) := by decide +kernel
theorem dX2_testifies_25 : decode cX2_testifies 25 = .ok (.iconst 1, 1) := by decide +kernel
theorem dX2_testifies_26 : decode cX2_testifies 26 = .ok (.goto 4, 3) := by decide +kernel
theorem dX2_testifies_29 : decode cX2_testifies 29 = .ok (.iconst 0, 1) := by decide +kernel
theorem dX2_testifies_30 : decode cX2_testifies 30 = .ok (.ireturn, 1) := by decide +kernel
theorem dX2_wokenOfLate_0 : decode cX2_wokenOfLate 0 = .ok (.iconst 0, 1) := by decide +kernel
theorem dX2_wokenOfLate_1 : decode cX2_wokenOfLate 1 = .ok (.iload_n 1, 1) := by decide +kernel
theorem dX2_wokenOfLate_2 : decode cX2_wokenOfLate 2 = .ok (.iload_n 2, 1) := by decide +kernel
theorem dX2_wokenOfLate_3 : decode cX2_wokenOfLate 3 = .ok (.isub, 1) := by decide +kernel
theorem dX2_wokenOfLate_4 : decode cX2_wokenOfLate 4 = .ok (.invokestatic 103, 3) := by decide +kernel
theorem dX2_wokenOfLate_7 : decode cX2_wokenOfLate 7 = .ok (.istore_n 3, 1) := by decide +kernel
theorem dX2_wokenOfLate_8 : decode cX2_wokenOfLate 8 = .ok (.lconst 1, 1) := by decide +kernel
theorem dX2_wokenOfLate_9 : decode cX2_wokenOfLate 9 = .ok (.iload_n 1, 1) := by decide +kernel
theorem dX2_wokenOfLate_10 : decode cX2_wokenOfLate 10 = .ok (.iload_n 3, 1) := by decide +kernel
theorem dX2_wokenOfLate_11 : decode cX2_wokenOfLate 11 = .ok (.isub, 1) := by decide +kernel
theorem dX2_wokenOfLate_12 : decode cX2_wokenOfLate 12 = .ok (.iconst 1, 1) := by decide +kernel
theorem dX2_wokenOfLate_13 : decode cX2_wokenOfLate 13 = .ok (.iadd, 1) := by decide +kernel
theorem dX2_wokenOfLate_14 : decode cX2_wokenOfLate 14 = .ok (.lshl, 1) := by decide +kernel
theorem dX2_wokenOfLate_15 : decode cX2_wokenOfLate 15 = .ok (.lconst 1, 1) := by decide +kernel
theorem dX2_wokenOfLate_16 : decode cX2_wokenOfLate 16 = .ok (.lsub, 1) := by decide +kernel
theorem dX2_wokenOfLate_17 : decode cX2_wokenOfLate 17 = .ok (.lstore 4, 2) := by decide +kernel
theorem dX2_wokenOfLate_19 : decode cX2_wokenOfLate 19 = .ok (.aload_n 0, 1) := by decide +kernel
theorem dX2_wokenOfLate_20 : decode cX2_wokenOfLate 20 = .ok (.getfield 74, 3) := by decide +kernel
theorem dX2_wokenOfLate_23 : decode cX2_wokenOfLate 23 = .ok (.iload_n 3, 1) := by decide +kernel
theorem dX2_wokenOfLate_24 : decode cX2_wokenOfLate 24 = .ok (.lshr, 1) := by decide +kernel
theorem dX2_wokenOfLate_25 : decode cX2_wokenOfLate 25 = .ok (.lload 4, 2) := by decide +kernel
theorem dX2_wokenOfLate_27 : decode cX2_wokenOfLate 27 = .ok (.land, 1) := by decide +kernel
theorem dX2_wokenOfLate_28 : decode cX2_wokenOfLate 28 = .ok (.lconst 0, 1) := by decide +kernel
theorem dX2_wokenOfLate_29 : decode cX2_wokenOfLate 29 = .ok (.lcmp, 1) := by decide +kernel
theorem dX2_wokenOfLate_30 : decode cX2_wokenOfLate 30 = .ok (.ifCond .eq 7, 3) := by decide +kernel
theorem dX2_wokenOfLate_33 : decode cX2_wokenOfLate 33 = .ok (.iconst 1, 1) := by decide +kernel
theorem dX2_wokenOfLate_34 : decode cX2_wokenOfLate 34 = .ok (.goto 4, 3) := by decide +kernel
theorem dX2_wokenOfLate_37 : decode cX2_wokenOfLate 37 = .ok (.iconst 0, 1) := by decide +kernel
theorem dX2_wokenOfLate_38 : decode cX2_wokenOfLate 38 = .ok (.ireturn, 1) := by decide +kernel
theorem dX3_init_0 : decode cX3_init 0 = .ok (.aload_n 0, 1) := by decide +kernel
theorem dX3_init_1 : decode cX3_init 1 = .ok (.invokespecial 3, 3) := by decide +kernel
theorem dX3_init_4 : decode cX3_init 4 = .ok (.aload_n 0, 1) := by decide +kernel
theorem dX3_init_5 : decode cX3_init 5 = .ok (.bipush 60, 2) := by decide +kernel
theorem dX3_init_7 : decode cX3_init 7 = .ok (.newarray .int, 2) := by decide +kernel
theorem dX3_init_9 : decode cX3_init 9 = .ok (.putfield 9, 3) := by decide +kernel
theorem dX3_init_12 : decode cX3_init 12 = .ok (.aload_n 0, 1) := by decide +kernel
theorem dX3_init_13 : decode cX3_init 13 = .ok (.iconst 1, 1) := by decide +kernel
theorem dX3_init_14 : decode cX3_init 14 = .ok (.putfield 15, 3) := by decide +kernel
theorem dX3_init_17 : decode cX3_init 17 = .ok (.return_, 1) := by decide +kernel
theorem dX3_renew_0 : decode cX3_renew 0 = .ok (.aload_n 0, 1) := by decide +kernel
theorem dX3_renew_1 : decode cX3_renew 1 = .ok (.iconst 0, 1) := by decide +kernel
theorem dX3_renew_2 : decode cX3_renew 2 = .ok (.putfield 15, 3) := by decide +kernel
theorem dX3_renew_5 : decode cX3_renew 5 = .ok (.aload_n 0, 1) := by decide +kernel
theorem dX3_renew_6 : decode cX3_renew 6 = .ok (.iload_n 1, 1) := by decide +kernel
theorem dX3_renew_7 : decode cX3_renew 7 = .ok (.putfield 19, 3) := by decide +kernel
theorem dX3_renew_10 : decode cX3_renew 10 = .ok (.aload_n 0, 1) := by decide +kernel
theorem dX3_renew_11 : decode cX3_renew 11 = .ok (.iload_n 2, 1) := by decide +kernel
theorem dX3_renew_12 : decode cX3_renew 12 = .ok (.putfield 23, 3) := by decide +kernel
theorem dX3_renew_15 : decode cX3_renew 15 = .ok (.aload_n 0, 1) := by decide +kernel
theorem dX3_renew_16 : decode cX3_renew 16 = .ok (.getfield 9, 3) := by decide +kernel
theorem dX3_renew_19 : decode cX3_renew 19 = .ok (.iconst 0, 1) := by decide +kernel
theorem dX3_renew_20 : decode cX3_renew 20 = .ok (.invokestatic 26, 3) := by decide +kernel
theorem dX3_renew_23 : decode cX3_renew 23 = .ok (.return_, 1) := by decide +kernel
theorem dX3_enter_0 : decode cX3_enter 0 = .ok (.aload_n 0, 1) := by decide +kernel
theorem dX3_enter_1 : decode cX3_enter 1 = .ok (.getfield 19, 3) := by decide +kernel
theorem dX3_enter_4 : decode cX3_enter 4 = .ok (.ifCond .ne 14, 3) := by decide +kernel
theorem dX3_enter_7 : decode cX3_enter 7 = .ok (.aload_n 0, 1) := by decide +kernel
theorem dX3_enter_8 : decode cX3_enter 8 = .ok (.getfield 9, 3) := by decide +kernel
theorem dX3_enter_11 : decode cX3_enter 11 = .ok (.iload_n 1, 1) := by decide +kernel
theorem dX3_enter_12 : decode cX3_enter 12 = .ok (.iload_n 2, 1) := by decide +kernel
theorem dX3_enter_13 : decode cX3_enter 13 = .ok (.i2b, 1) := by decide +kernel
theorem dX3_enter_14 : decode cX3_enter 14 = .ok (.iastore, 1) := by decide +kernel
theorem dX3_enter_15 : decode cX3_enter 15 = .ok (.goto 23, 3) := by decide +kernel
theorem dX3_enter_18 : decode cX3_enter 18 = .ok (.aload_n 0, 1) := by decide +kernel
theorem dX3_enter_19 : decode cX3_enter 19 = .ok (.getfield 9, 3) := by decide +kernel
theorem dX3_enter_22 : decode cX3_enter 22 = .ok (.iload_n 1, 1) := by decide +kernel
theorem dX3_enter_23 : decode cX3_enter 23 = .ok (.aload_n 0, 1) := by decide +kernel
theorem dX3_enter_24 : decode cX3_enter 24 = .ok (.getfield 19, 3) := by decide +kernel
theorem dX3_enter_27 : decode cX3_enter 27 = .ok (.iconst 1, 1) := by decide +kernel
theorem dX3_enter_28 : decode cX3_enter 28 = .ok (.if_icmp .ne 8, 3) := by decide +kernel
theorem dX3_enter_31 : decode cX3_enter 31 = .ok (.iload_n 2, 1) := by decide +kernel
theorem dX3_enter_32 : decode cX3_enter 32 = .ok (.i2s, 1) := by decide +kernel
theorem dX3_enter_33 : decode cX3_enter 33 = .ok (.goto 4, 3) := by decide +kernel
theorem dX3_enter_36 : decode cX3_enter 36 = .ok (.iload_n 2, 1) := by decide +kernel
theorem dX3_enter_37 : decode cX3_enter 37 = .ok (.iastore, 1) := by decide +kernel
theorem dX3_enter_38 : decode cX3_enter 38 = .ok (.return_, 1) := by decide +kernel
theorem dX4_init_0 : decode cX4_init 0 = .ok (.aload_n 0, 1) := by decide +kernel
theorem dX4_init_1 : decode cX4_init 1 = .ok (.invokespecial 3, 3) := by decide +kernel
theorem dX4_init_4 : decode cX4_init 4 = .ok (.return_, 1) := by decide +kernel
theorem dX4_become_0 : decode cX4_become 0 = .ok (.aload_n 0, 1) := by decide +kernel
theorem dX4_become_1 : decode cX4_become 1 = .ok (.aload_n 1, 1) := by decide +kernel
theorem dX4_become_2 : decode cX4_become 2 = .ok (.getfield 9, 3) := by decide +kernel
theorem dX4_become_5 : decode cX4_become 5 = .ok (.putfield 9, 3) := by decide +kernel
theorem dX4_become_8 : decode cX4_become 8 = .ok (.aload_n 0, 1) := by decide +kernel
theorem dX4_become_9 : decode cX4_become 9 = .ok (.aload_n 1, 1) := by decide +kernel
theorem dX4_become_10 : decode cX4_become 10 = .ok (.getfield 15, 3) := by decide +kernel
theorem dX4_become_13 : decode cX4_become 13 = .ok (.putfield 15, 3) := by decide +kernel
theorem dX4_become_16 : decode cX4_become 16 = .ok (.aload_n 0, 1) := by decide +kernel
theorem dX4_become_17 : decode cX4_become 17 = .ok (.aload_n 1, 1) := by decide +kernel
theorem dX4_become_18 : decode cX4_become 18 = .ok (.getfield 18, 3) := by decide +kernel
theorem dX4_become_21 : decode cX4_become 21 = .ok (.putfield 18, 3) := by decide +kernel
theorem dX4_become_24 : decode cX4_become 24 = .ok (.aload_n 0, 1) := by decide +kernel
theorem dX4_become_25 : decode cX4_become 25 = .ok (.aload_n 1, 1) := by decide +kernel
theorem dX4_become_26 : decode cX4_become 26 = .ok (.getfield 21, 3) := by decide +kernel
theorem dX4_become_29 : decode cX4_become 29 = .ok (.putfield 21, 3) := by decide +kernel
theorem dX4_become_32 : decode cX4_become 32 = .ok (.return_, 1) := by decide +kernel
theorem dX4_deepAfter_0 : decode cX4_deepAfter 0 = .ok (.iload_n 1, 1) := by decide +kernel
theorem dX4_deepAfter_1 : decode cX4_deepAfter 1 = .ok (.ifCond .lt 11, 3) := by decide +kernel
theorem dX4_deepAfter_4 : decode cX4_deepAfter 4 = .ok (.aload_n 0, 1) := by decide +kernel
theorem dX4_deepAfter_5 : decode cX4_deepAfter 5 = .ok (.getfield 21, 3) := by decide +kernel
theorem dX4_deepAfter_8 : decode cX4_deepAfter 8 = .ok (.iconst 3, 1) := by decide +kernel
theorem dX4_deepAfter_9 : decode cX4_deepAfter 9 = .ok (.if_icmp .ne 5, 3) := by decide +kernel
theorem dX4_deepAfter_12 : decode cX4_deepAfter 12 = .ok (.iconst 0, 1) := by decide +kernel
theorem dX4_deepAfter_13 : decode cX4_deepAfter 13 = .ok (.ireturn, 1) := by decide +kernel
theorem dX4_deepAfter_14 : decode cX4_deepAfter 14 = .ok (.getstatic 24, 3) := by decide +kernel
theorem dX4_deepAfter_17 : decode cX4_deepAfter 17 = .ok (.iload_n 1, 1) := by decide +kernel
theorem dX4_deepAfter_18 : decode cX4_deepAfter 18 = .ok (.getstatic 24, 3) := by decide +kernel
theorem dX4_deepAfter_21 : decode cX4_deepAfter 21 = .ok (.arraylength, 1) := by decide +kernel
theorem dX4_deepAfter_22 : decode cX4_deepAfter 22 = .ok (.irem, 1) := by decide +kernel
theorem dX4_deepAfter_23 : decode cX4_deepAfter 23 = .ok (.iaload, 1) := by decide +kernel
theorem dX4_deepAfter_24 : decode cX4_deepAfter 24 = .ok (.aload_n 0, 1) := by decide +kernel
theorem dX4_deepAfter_25 : decode cX4_deepAfter 25 = .ok (.getfield 18, 3) := by decide +kernel
theorem dX4_deepAfter_28 : decode cX4_deepAfter 28 = .ok (.iadd, 1) := by decide +kernel
theorem dX4_deepAfter_29 : decode cX4_deepAfter 29 = .ok (.istore_n 2, 1) := by decide +kernel
theorem dX4_deepAfter_30 : decode cX4_deepAfter 30 = .ok (.aload_n 0, 1) := by decide +kernel
theorem dX4_deepAfter_31 : decode cX4_deepAfter 31 = .ok (.getfield 21, 3) := by decide +kernel
theorem dX4_deepAfter_34 : decode cX4_deepAfter 34 = .ok (.tableswitch 44 0 2 #[26, 30, 38], 26) := by decide +kernel
theorem dX4_deepAfter_60 : decode cX4_deepAfter 60 = .ok (.iload_n 2, 1) := by decide +kernel
theorem dX4_deepAfter_61 : decode cX4_deepAfter 61 = .ok (.iconst 1, 1) := by decide +kernel
theorem dX4_deepAfter_62 : decode cX4_deepAfter 62 = .ok (.iadd, 1) := by decide +kernel
theorem dX4_deepAfter_63 : decode cX4_deepAfter 63 = .ok (.ireturn, 1) := by decide +kernel
theorem dX4_deepAfter_64 : decode cX4_deepAfter 64 = .ok (.iconst 1, 1) := by decide +kernel
theorem dX4_deepAfter_65 : decode cX4_deepAfter 65 = .ok (.iload_n 2, 1) := by decide +kernel
theorem dX4_deepAfter_66 : decode cX4_deepAfter 66 = .ok (.iconst 2, 1) := by decide +kernel
theorem dX4_deepAfter_67 : decode cX4_deepAfter 67 = .ok (.isub, 1) := by decide +kernel
theorem dX4_deepAfter_68 : decode cX4_deepAfter 68 = .ok (.invokestatic 28, 3) := by decide +kernel
theorem dX4_deepAfter_71 : decode cX4_deepAfter 71 = .ok (.ireturn, 1) := by decide +kernel
theorem dX4_deepAfter_72 : decode cX4_deepAfter 72 = .ok (.iconst 3, 1) := by decide +kernel
theorem dX4_deepAfter_73 : decode cX4_deepAfter 73 = .ok (.iload_n 2, 1) := by decide +kernel
theorem dX4_deepAfter_74 : decode cX4_deepAfter 74 = .ok (.invokestatic 34, 3) := by decide +kernel
theorem dX4_deepAfter_77 : decode cX4_deepAfter 77 = .ok (.ireturn, 1) := by decide +kernel
theorem dX4_deepAfter_78 : decode cX4_deepAfter 78 = .ok (.iload_n 2, 1) := by decide +kernel
theorem dX4_deepAfter_79 : decode cX4_deepAfter 79 = .ok (.ireturn, 1) := by decide +kernel
theorem dX5_init_0 : decode cX5_init 0 = .ok (.aload_n 0, 1) := by decide +kernel
theorem dX5_init_1 : decode cX5_init 1 = .ok (.invokespecial 3, 3) := by decide +kernel
theorem dX5_init_4 : decode cX5_init 4 = .ok (.aload_n 0, 1) := by decide +kernel
theorem dX5_init_5 : decode cX5_init 5 = .ok (.bipush 8, 2) := by decide +kernel
theorem dX5_init_7 : decode cX5_init 7 = .ok (.newarray .int, 2) := by decide +kernel
theorem dX5_init_9 : decode cX5_init 9 = .ok (.putfield 9, 3) := by decide +kernel
theorem dX5_init_12 : decode cX5_init 12 = .ok (.aload_n 0, 1) := by decide +kernel
theorem dX5_init_13 : decode cX5_init 13 = .ok (.bipush 8, 2) := by decide +kernel
theorem dX5_init_15 : decode cX5_init 15 = .ok (.newarray .int, 2) := by decide +kernel
theorem dX5_init_17 : decode cX5_init 17 = .ok (.putfield 15, 3) := by decide +kernel
theorem dX5_init_20 : decode cX5_init 20 = .ok (.aload_n 0, 1) := by decide +kernel
theorem dX5_init_21 : decode cX5_init 21 = .ok (.bipush 8, 2) := by decide +kernel
theorem dX5_init_23 : decode cX5_init 23 = .ok (.newarray .int, 2) := by decide +kernel
theorem dX5_init_25 : decode cX5_init 25 = .ok (.putfield 18, 3) := by decide +kernel
theorem dX5_init_28 : decode cX5_init 28 = .ok (.return_, 1) := by decide +kernel
theorem dX5_mayBe_0 : decode cX5_mayBe 0 = .ok (.iload_n 0, 1) := by decide +kernel
theorem dX5_mayBe_1 : decode cX5_mayBe 1 = .ok (.bipush 8, 2) := by decide +kernel
theorem dX5_mayBe_3 : decode cX5_mayBe 3 = .ok (.invokestatic 21, 3) := by decide +kernel
theorem dX5_mayBe_6 : decode cX5_mayBe 6 = .ok (.ifCond .eq 24, 3) := by decide +kernel
theorem dX5_mayBe_9 : decode cX5_mayBe 9 = .ok (.iload_n 1, 1) := by decide +kernel
theorem dX5_mayBe_10 : decode cX5_mayBe 10 = .ok (.iconst 4, 1) := by decide +kernel
theorem dX5_mayBe_11 : decode cX5_mayBe 11 = .ok (.invokestatic 21, 3) := by decide +kernel
theorem dX5_mayBe_14 : decode cX5_mayBe 14 = .ok (.ifCond .eq 16, 3) := by decide +kernel
theorem dX5_mayBe_17 : decode cX5_mayBe 17 = .ok (.iload_n 2, 1) := by decide +kernel
theorem dX5_mayBe_18 : decode cX5_mayBe 18 = .ok (.bipush 9, 2) := by decide +kernel
theorem dX5_mayBe_20 : decode cX5_mayBe 20 = .ok (.invokestatic 21, 3) := by decide +kernel
theorem dX5_mayBe_23 : decode cX5_mayBe 23 = .ok (.ifCond .eq 7, 3) := by decide +kernel
theorem dX5_mayBe_26 : decode cX5_mayBe 26 = .ok (.iconst 1, 1) := by decide +kernel
theorem dX5_mayBe_27 : decode cX5_mayBe 27 = .ok (.goto 4, 3) := by decide +kernel
theorem dX5_mayBe_30 : decode cX5_mayBe 30 = .ok (.iconst 0, 1) := by decide +kernel
theorem dX5_mayBe_31 : decode cX5_mayBe 31 = .ok (.ireturn, 1) := by decide +kernel
theorem dX5_add_0 : decode cX5_add 0 = .ok (.aload_n 0, 1) := by decide +kernel
theorem dX5_add_1 : decode cX5_add 1 = .ok (.getfield 25, 3) := by decide +kernel
theorem dX5_add_4 : decode cX5_add 4 = .ok (.bipush 8, 2) := by decide +kernel
theorem dX5_add_6 : decode cX5_add 6 = .ok (.if_icmp .ge 43, 3) := by decide +kernel
theorem dX5_add_9 : decode cX5_add 9 = .ok (.aload_n 0, 1) := by decide +kernel
theorem dX5_add_10 : decode cX5_add 10 = .ok (.getfield 9, 3) := by decide +kernel
theorem dX5_add_13 : decode cX5_add 13 = .ok (.aload_n 0, 1) := by decide +kernel
theorem dX5_add_14 : decode cX5_add 14 = .ok (.getfield 25, 3) := by decide +kernel
theorem dX5_add_17 : decode cX5_add 17 = .ok (.iload_n 1, 1) := by decide +kernel
theorem dX5_add_18 : decode cX5_add 18 = .ok (.iastore, 1) := by decide +kernel
theorem dX5_add_19 : decode cX5_add 19 = .ok (.aload_n 0, 1) := by decide +kernel
theorem dX5_add_20 : decode cX5_add 20 = .ok (.getfield 15, 3) := by decide +kernel
theorem dX5_add_23 : decode cX5_add 23 = .ok (.aload_n 0, 1) := by decide +kernel
theorem dX5_add_24 : decode cX5_add 24 = .ok (.getfield 25, 3) := by decide +kernel
theorem dX5_add_27 : decode cX5_add 27 = .ok (.iload_n 2, 1) := by decide +kernel
theorem dX5_add_28 : decode cX5_add 28 = .ok (.iastore, 1) := by decide +kernel
theorem dX5_add_29 : decode cX5_add 29 = .ok (.aload_n 0, 1) := by decide +kernel
theorem dX5_add_30 : decode cX5_add 30 = .ok (.getfield 18, 3) := by decide +kernel
theorem dX5_add_33 : decode cX5_add 33 = .ok (.aload_n 0, 1) := by decide +kernel
theorem dX5_add_34 : decode cX5_add 34 = .ok (.getfield 25, 3) := by decide +kernel
theorem dX5_add_37 : decode cX5_add 37 = .ok (.iload_n 3, 1) := by decide +kernel
theorem dX5_add_38 : decode cX5_add 38 = .ok (.iastore, 1) := by decide +kernel
theorem dX5_add_39 : decode cX5_add 39 = .ok (.aload_n 0, 1) := by decide +kernel
theorem dX5_add_40 : decode cX5_add 40 = .ok (.dup, 1) := by decide +kernel
theorem dX5_add_41 : decode cX5_add 41 = .ok (.getfield 25, 3) := by decide +kernel
theorem dX5_add_44 : decode cX5_add 44 = .ok (.iconst 1, 1) := by decide +kernel
theorem dX5_add_45 : decode cX5_add 45 = .ok (.iadd, 1) := by decide +kernel
theorem dX5_add_46 : decode cX5_add 46 = .ok (.putfield 25, 3) := by decide +kernel
theorem dX5_add_49 : decode cX5_add 49 = .ok (.return_, 1) := by decide +kernel
theorem dX6_init_0 : decode cX6_init 0 = .ok (.aload_n 0, 1) := by decide +kernel
theorem dX6_init_1 : decode cX6_init 1 = .ok (.invokespecial 3, 3) := by decide +kernel
theorem dX6_init_4 : decode cX6_init 4 = .ok (.aload_n 0, 1) := by decide +kernel
theorem dX6_init_5 : decode cX6_init 5 = .ok (.bipush 39, 2) := by decide +kernel
theorem dX6_init_7 : decode cX6_init 7 = .ok (.newarray .int, 2) := by decide +kernel
theorem dX6_init_9 : decode cX6_init 9 = .ok (.putfield 9, 3) := by decide +kernel
theorem dX6_init_12 : decode cX6_init 12 = .ok (.aload_n 0, 1) := by decide +kernel
theorem dX6_init_13 : decode cX6_init 13 = .ok (.iconst 3, 1) := by decide +kernel
theorem dX6_init_14 : decode cX6_init 14 = .ok (.newarray .int, 2) := by decide +kernel
theorem dX6_init_16 : decode cX6_init 16 = .ok (.putfield 15, 3) := by decide +kernel
theorem dX6_init_19 : decode cX6_init 19 = .ok (.aload_n 0, 1) := by decide +kernel
theorem dX6_init_20 : decode cX6_init 20 = .ok (.getfield 15, 3) := by decide +kernel
theorem dX6_init_23 : decode cX6_init 23 = .ok (.iconst 0, 1) := by decide +kernel
theorem dX6_init_24 : decode cX6_init 24 = .ok (.iload_n 1, 1) := by decide +kernel
theorem dX6_init_25 : decode cX6_init 25 = .ok (.iastore, 1) := by decide +kernel
theorem dX6_init_26 : decode cX6_init 26 = .ok (.aload_n 0, 1) := by decide +kernel
theorem dX6_init_27 : decode cX6_init 27 = .ok (.getfield 15, 3) := by decide +kernel
theorem dX6_init_30 : decode cX6_init 30 = .ok (.iconst 1, 1) := by decide +kernel
theorem dX6_init_31 : decode cX6_init 31 = .ok (.iload_n 2, 1) := by decide +kernel
theorem dX6_init_32 : decode cX6_init 32 = .ok (.iastore, 1) := by decide +kernel
theorem dX6_init_33 : decode cX6_init 33 = .ok (.aload_n 0, 1) := by decide +kernel
theorem dX6_init_34 : decode cX6_init 34 = .ok (.getfield 15, 3) := by decide +kernel
theorem dX6_init_37 : decode cX6_init 37 = .ok (.iconst 2, 1) := by decide +kernel
theorem dX6_init_38 : decode cX6_init 38 = .ok (.iload_n 3, 1) := by decide +kernel
theorem dX6_init_39 : decode cX6_init 39 = .ok (.iastore, 1) := by decide +kernel
theorem dX6_init_40 : decode cX6_init 40 = .ok (.aload_n 0, 1) := by decide +kernel
theorem dX6_init_41 : decode cX6_init 41 = .ok (.aload 4, 2) := by decide +kernel
theorem dX6_init_43 : decode cX6_init 43 = .ok (.putfield 18, 3) := by decide +kernel
theorem dX6_init_46 : decode cX6_init 46 = .ok (.return_, 1) := by decide +kernel
theorem dX6_fits_0 : decode cX6_fits 0 = .ok (.aload_n 0, 1) := by decide +kernel
theorem dX6_fits_1 : decode cX6_fits 1 = .ok (.getfield 9, 3) := by decide +kernel
theorem dX6_fits_4 : decode cX6_fits 4 = .ok (.iload_n 1, 1) := by decide +kernel
theorem dX6_fits_5 : decode cX6_fits 5 = .ok (.iaload, 1) := by decide +kernel
theorem dX6_fits_6 : decode cX6_fits 6 = .ok (.istore_n 2, 1) := by decide +kernel
theorem dX6_fits_7 : decode cX6_fits 7 = .ok (.iload_n 1, 1) := by decide +kernel
theorem dX6_fits_8 : decode cX6_fits 8 = .ok (.iconst 5, 1) := by decide +kernel
theorem dX6_fits_9 : decode cX6_fits 9 = .ok (.irem, 1) := by decide +kernel
theorem dX6_fits_10 : decode cX6_fits 10 = .ok (.istore_n 3, 1) := by decide +kernel
theorem dX6_fits_11 : decode cX6_fits 11 = .ok (.iload_n 3, 1) := by decide +kernel
theorem dX6_fits_12 : decode cX6_fits 12 = .ok (.iconst 3, 1) := by decide +kernel
theorem dX6_fits_13 : decode cX6_fits 13 = .ok (.if_icmp .ge 28, 3) := by decide +kernel
theorem dX6_fits_16 : decode cX6_fits 16 = .ok (.iload_n 2, 1) := by decide +kernel
theorem dX6_fits_17 : decode cX6_fits 17 = .ok (.bipush 48, 2) := by decide +kernel
theorem dX6_fits_19 : decode cX6_fits 19 = .ok (.if_icmp .lt 20, 3) := by decide +kernel
theorem dX6_fits_22 : decode cX6_fits 22 = .ok (.iload_n 2, 1) := by decide +kernel
theorem dX6_fits_23 : decode cX6_fits 23 = .ok (.bipush 48, 2) := by decide +kernel
theorem dX6_fits_25 : decode cX6_fits 25 = .ok (.aload_n 0, 1) := by decide +kernel
theorem dX6_fits_26 : decode cX6_fits 26 = .ok (.getfield 15, 3) := by decide +kernel
theorem dX6_fits_29 : decode cX6_fits 29 = .ok (.iload_n 3, 1) := by decide +kernel
theorem dX6_fits_30 : decode cX6_fits 30 = .ok (.iaload, 1) := by decide +kernel
theorem dX6_fits_31 : decode cX6_fits 31 = .ok (.iadd, 1) := by decide +kernel
theorem dX6_fits_32 : decode cX6_fits 32 = .ok (.if_icmp .gt 7, 3) := by decide +kernel
theorem dX6_fits_35 : decode cX6_fits 35 = .ok (.iconst 1, 1) := by decide +kernel
theorem dX6_fits_36 : decode cX6_fits 36 = .ok (.goto 4, 3) := by decide +kernel
theorem dX6_fits_39 : decode cX6_fits 39 = .ok (.iconst 0, 1) := by decide +kernel
theorem dX6_fits_40 : decode cX6_fits 40 = .ok (.ireturn, 1) := by decide +kernel
theorem dX6_fits_41 : decode cX6_fits 41 = .ok (.iload_n 3, 1) := by decide +kernel
theorem dX6_fits_42 : decode cX6_fits 42 = .ok (.iconst 3, 1) := by decide +kernel
theorem dX6_fits_43 : decode cX6_fits 43 = .ok (.if_icmp .ne 23, 3) := by decide +kernel
theorem dX6_fits_46 : decode cX6_fits 46 = .ok (.aload_n 0, 1) := by decide +kernel
theorem dX6_fits_47 : decode cX6_fits 47 = .ok (.getfield 18, 3) := by decide +kernel
theorem dX6_fits_50 : decode cX6_fits 50 = .ok (.iload_n 2, 1) := by decide +kernel
theorem dX6_fits_51 : decode cX6_fits 51 = .ok (.i2c, 1) := by decide +kernel
theorem dX6_fits_52 : decode cX6_fits 52 = .ok (.invokevirtual 22, 3) := by decide +kernel
theorem dX6_fits_55 : decode cX6_fits 55 = .ok (.ifCond .lt 7, 3) := by decide +kernel
theorem dX6_fits_58 : decode cX6_fits 58 = .ok (.iconst 1, 1) := by decide +kernel
theorem dX6_fits_59 : decode cX6_fits 59 = .ok (.goto 18, 3) := by decide +kernel
theorem dX6_fits_62 : decode cX6_fits 62 = .ok (.iconst 0, 1) := by decide +kernel
theorem dX6_fits_63 : decode cX6_fits 63 = .ok (.goto 14, 3) := by decide +kernel
theorem dX6_fits_66 : decode cX6_fits 66 = .ok (.iload_n 2, 1) := by decide +kernel
theorem dX6_fits_67 : decode cX6_fits 67 = .ok (.bipush 59, 2) := by decide +kernel
theorem dX6_fits_69 : decode cX6_fits 69 = .ok (.if_icmp .ne 7, 3) := by decide +kernel
theorem dX6_fits_72 : decode cX6_fits 72 = .ok (.iconst 1, 1) := by decide +kernel
theorem dX6_fits_73 : decode cX6_fits 73 = .ok (.goto 4, 3) := by decide +kernel
theorem dX6_fits_76 : decode cX6_fits 76 = .ok (.iconst 0, 1) := by decide +kernel
theorem dX6_fits_77 : decode cX6_fits 77 = .ok (.ireturn, 1) := by decide +kernel
theorem dX6_firstFault_0 : decode cX6_firstFault 0 = .ok (.iconst 0, 1) := by decide +kernel
theorem dX6_firstFault_1 : decode cX6_firstFault 1 = .ok (.istore_n 1, 1) := by decide +kernel
theorem dX6_firstFault_2 : decode cX6_firstFault 2 = .ok (.iload_n 1, 1) := by decide +kernel
theorem dX6_firstFault_3 : decode cX6_firstFault 3 = .ok (.aload_n 0, 1) := by decide +kernel
theorem dX6_firstFault_4 : decode cX6_firstFault 4 = .ok (.getfield 28, 3) := by decide +kernel
theorem dX6_firstFault_7 : decode cX6_firstFault 7 = .ok (.if_icmp .ge 25, 3) := by decide +kernel
theorem dX6_firstFault_10 : decode cX6_firstFault 10 = .ok (.iload_n 1, 1) := by decide +kernel
theorem dX6_firstFault_11 : decode cX6_firstFault 11 = .ok (.bipush 39, 2) := by decide +kernel
theorem dX6_firstFault_13 : decode cX6_firstFault 13 = .ok (.if_icmp .ge 19, 3) := by decide +kernel
theorem dX6_firstFault_16 : decode cX6_firstFault 16 = .ok (.aload_n 0, 1) := by decide +kernel
theorem dX6_firstFault_17 : decode cX6_firstFault 17 = .ok (.iload_n 1, 1) := by decide +kernel
theorem dX6_firstFault_18 : decode cX6_firstFault 18 = .ok (.invokevirtual 32, 3) := by decide +kernel
theorem dX6_firstFault_21 : decode cX6_firstFault 21 = .ok (.ifCond .ne 5, 3) := by decide +kernel
theorem dX6_firstFault_24 : decode cX6_firstFault 24 = .ok (.iload_n 1, 1) := by decide +kernel
theorem dX6_firstFault_25 : decode cX6_firstFault 25 = .ok (.ireturn, 1) := by decide +kernel
theorem dX6_firstFault_26 : decode cX6_firstFault 26 = .ok (.iinc 1 1, 3) := by decide +kernel
theorem dX6_firstFault_29 : decode cX6_firstFault 29 = .ok (.goto (-27), 3) := by decide +kernel
theorem dX6_firstFault_32 : decode cX6_firstFault 32 = .ok (.aload_n 0, 1) := by decide +kernel
theorem dX6_firstFault_33 : decode cX6_firstFault 33 = .ok (.getfield 28, 3) := by decide +kernel
theorem dX6_firstFault_36 : decode cX6_firstFault 36 = .ok (.ifCond .eq 13, 3) := by decide +kernel
theorem dX6_firstFault_39 : decode cX6_firstFault 39 = .ok (.aload_n 0, 1) := by decide +kernel
theorem dX6_firstFault_40 : decode cX6_firstFault 40 = .ok (.getfield 28, 3) := by decide +kernel
theorem dX6_firstFault_43 : decode cX6_firstFault 43 = .ok (.iconst 5, 1) := by decide +kernel
theorem dX6_firstFault_44 : decode cX6_firstFault 44 = .ok (.irem, 1) := by decide +kernel
theorem dX6_firstFault_45 : decode cX6_firstFault 45 = .ok (.iconst 4, 1) := by decide +kernel
theorem dX6_firstFault_46 : decode cX6_firstFault 46 = .ok (.if_icmp .ne 7, 3) := by decide +kernel
theorem dX6_firstFault_49 : decode cX6_firstFault 49 = .ok (.iconst (-1), 1) := by decide +kernel
theorem dX6_firstFault_50 : decode cX6_firstFault 50 = .ok (.goto 7, 3) := by decide +kernel
theorem dX6_firstFault_53 : decode cX6_firstFault 53 = .ok (.aload_n 0, 1) := by decide +kernel
theorem dX6_firstFault_54 : decode cX6_firstFault 54 = .ok (.getfield 28, 3) := by decide +kernel
theorem dX6_firstFault_57 : decode cX6_firstFault 57 = .ok (.ireturn, 1) := by decide +kernel
theorem dX6_units_0 : decode cX6_units 0 = .ok (.aload_n 0, 1) := by decide +kernel
theorem dX6_units_1 : decode cX6_units 1 = .ok (.invokevirtual 36, 3) := by decide +kernel
theorem dX6_units_4 : decode cX6_units 4 = .ok (.iconst (-1), 1) := by decide +kernel
theorem dX6_units_5 : decode cX6_units 5 = .ok (.if_icmp .ne 19, 3) := by decide +kernel
theorem dX6_units_8 : decode cX6_units 8 = .ok (.bipush 8, 2) := by decide +kernel
theorem dX6_units_10 : decode cX6_units 10 = .ok (.aload_n 0, 1) := by decide +kernel
theorem dX6_units_11 : decode cX6_units 11 = .ok (.getfield 28, 3) := by decide +kernel
theorem dX6_units_14 : decode cX6_units 14 = .ok (.iconst 1, 1) := by decide +kernel
theorem dX6_units_15 : decode cX6_units 15 = .ok (.iadd, 1) := by decide +kernel
theorem dX6_units_16 : decode cX6_units 16 = .ok (.iconst 5, 1) := by decide +kernel
theorem dX6_units_17 : decode cX6_units 17 = .ok (.idiv, 1) := by decide +kernel
theorem dX6_units_18 : decode cX6_units 18 = .ok (.invokestatic 40, 3) := by decide +kernel
theorem dX6_units_21 : decode cX6_units 21 = .ok (.goto 4, 3) := by decide +kernel
theorem dX6_units_24 : decode cX6_units 24 = .ok (.iconst 0, 1) := by decide +kernel
theorem dX6_units_25 : decode cX6_units 25 = .ok (.ireturn, 1) := by decide +kernel
theorem dX6_figure_0 : decode cX6_figure 0 = .ok (.aload_n 0, 1) := by decide +kernel
theorem dX6_figure_1 : decode cX6_figure 1 = .ok (.getfield 9, 3) := by decide +kernel
theorem dX6_figure_4 : decode cX6_figure 4 = .ok (.iload_n 1, 1) := by decide +kernel
theorem dX6_figure_5 : decode cX6_figure 5 = .ok (.iconst 5, 1) := by decide +kernel
theorem dX6_figure_6 : decode cX6_figure 6 = .ok (.imul, 1) := by decide +kernel
theorem dX6_figure_7 : decode cX6_figure 7 = .ok (.iload_n 2, 1) := by decide +kernel
theorem dX6_figure_8 : decode cX6_figure 8 = .ok (.iadd, 1) := by decide +kernel
theorem dX6_figure_9 : decode cX6_figure 9 = .ok (.iaload, 1) := by decide +kernel
theorem dX6_figure_10 : decode cX6_figure 10 = .ok (.bipush 48, 2) := by decide +kernel
theorem dX6_figure_12 : decode cX6_figure 12 = .ok (.isub, 1) := by decide +kernel
theorem dX6_figure_13 : decode cX6_figure 13 = .ok (.ireturn, 1) := by decide +kernel
theorem dX6_letter_0 : decode cX6_letter 0 = .ok (.aload_n 0, 1) := by decide +kernel
theorem dX6_letter_1 : decode cX6_letter 1 = .ok (.getfield 18, 3) := by decide +kernel
theorem dX6_letter_4 : decode cX6_letter 4 = .ok (.aload_n 0, 1) := by decide +kernel
theorem dX6_letter_5 : decode cX6_letter 5 = .ok (.getfield 9, 3) := by decide +kernel
theorem dX6_letter_8 : decode cX6_letter 8 = .ok (.iload_n 1, 1) := by decide +kernel
theorem dX6_letter_9 : decode cX6_letter 9 = .ok (.iconst 5, 1) := by decide +kernel
theorem dX6_letter_10 : decode cX6_letter 10 = .ok (.imul, 1) := by decide +kernel
theorem dX6_letter_11 : decode cX6_letter 11 = .ok (.iconst 3, 1) := by decide +kernel
theorem dX6_letter_12 : decode cX6_letter 12 = .ok (.iadd, 1) := by decide +kernel
theorem dX6_letter_13 : decode cX6_letter 13 = .ok (.iaload, 1) := by decide +kernel
theorem dX6_letter_14 : decode cX6_letter 14 = .ok (.i2c, 1) := by decide +kernel
theorem dX6_letter_15 : decode cX6_letter 15 = .ok (.invokevirtual 22, 3) := by decide +kernel
theorem dX6_letter_18 : decode cX6_letter 18 = .ok (.ireturn, 1) := by decide +kernel
theorem dJ11_isValidCodePoint_9a6ad_0 : decode cJ11_isValidCodePoint_9a6ad 0 = .ok (.iload_n 0, 1) := by decide +kernel
theorem dJ11_isValidCodePoint_9a6ad_1 : decode cJ11_isValidCodePoint_9a6ad 1 = .ok (.bipush 16, 2) := by decide +kernel
theorem dJ11_isValidCodePoint_9a6ad_3 : decode cJ11_isValidCodePoint_9a6ad 3 = .ok (.iushr, 1) := by decide +kernel
theorem dJ11_isValidCodePoint_9a6ad_4 : decode cJ11_isValidCodePoint_9a6ad 4 = .ok (.istore_n 1, 1) := by decide +kernel
theorem dJ11_isValidCodePoint_9a6ad_5 : decode cJ11_isValidCodePoint_9a6ad 5 = .ok (.iload_n 1, 1) := by decide +kernel
theorem dJ11_isValidCodePoint_9a6ad_6 : decode cJ11_isValidCodePoint_9a6ad 6 = .ok (.bipush 17, 2) := by decide +kernel
theorem dJ11_isValidCodePoint_9a6ad_8 : decode cJ11_isValidCodePoint_9a6ad 8 = .ok (.if_icmp .ge 7, 3) := by decide +kernel
theorem dJ11_isValidCodePoint_9a6ad_11 : decode cJ11_isValidCodePoint_9a6ad 11 = .ok (.iconst 1, 1) := by decide +kernel
theorem dJ11_isValidCodePoint_9a6ad_12 : decode cJ11_isValidCodePoint_9a6ad 12 = .ok (.goto 4, 3) := by decide +kernel
theorem dJ11_isValidCodePoint_9a6ad_15 : decode cJ11_isValidCodePoint_9a6ad 15 = .ok (.iconst 0, 1) := by decide +kernel
theorem dJ11_isValidCodePoint_9a6ad_16 : decode cJ11_isValidCodePoint_9a6ad 16 = .ok (.ireturn, 1) := by decide +kernel
theorem dJ11_highSurrogate_5068e_0 : decode cJ11_highSurrogate_5068e 0 = .ok (.iload_n 0, 1) := by decide +kernel
theorem dJ11_highSurrogate_5068e_1 : decode cJ11_highSurrogate_5068e 1 = .ok (.bipush 10, 2) := by decide +kernel
theorem dJ11_highSurrogate_5068e_3 : decode cJ11_highSurrogate_5068e 3 = .ok (.iushr, 1) := by decide +kernel
theorem dJ11_highSurrogate_5068e_4 : decode cJ11_highSurrogate_5068e 4 = .ok (.ldc 110, 2) := by decide +kernel
theorem dJ11_highSurrogate_5068e_6 : decode cJ11_highSurrogate_5068e 6 = .ok (.iadd, 1) := by decide +kernel
theorem dJ11_highSurrogate_5068e_7 : decode cJ11_highSurrogate_5068e 7 = .ok (.i2c, 1) := by decide +kernel
theorem dJ11_highSurrogate_5068e_8 : decode cJ11_highSurrogate_5068e 8 = .ok (.ireturn, 1) := by decide +kernel
theorem dJ11_lowSurrogate_5068e_0 : decode cJ11_lowSurrogate_5068e 0 = .ok (.iload_n 0, 1) := by decide +kernel
theorem dJ11_lowSurrogate_5068e_1 : decode cJ11_lowSurrogate_5068e 1 = .ok (.sipush 1023, 3) := by decide +kernel
theorem dJ11_lowSurrogate_5068e_4 : decode cJ11_lowSurrogate_5068e 4 = .ok (.iand, 1) := by decide +kernel
theorem dJ11_lowSurrogate_5068e_5 : decode cJ11_lowSurrogate_5068e 5 = .ok (.ldc 76, 2) := by decide +kernel
theorem dJ11_lowSurrogate_5068e_7 : decode cJ11_lowSurrogate_5068e 7 = .ok (.iadd, 1) := by decide +kernel
theorem dJ11_lowSurrogate_5068e_8 : decode cJ11_lowSurrogate_5068e 8 = .ok (.i2c, 1) := by decide +kernel
theorem dJ11_lowSurrogate_5068e_9 : decode cJ11_lowSurrogate_5068e 9 = .ok (.ireturn, 1) := by decide +kernel
theorem dJ6_bitCount_0f7a4_0 : decode cJ6_bitCount_0f7a4 0 = .ok (.iload_n 0, 1) := by decide +kernel
theorem dJ6_bitCount_0f7a4_1 : decode cJ6_bitCount_0f7a4 1 = .ok (.iload_n 0, 1) := by decide +kernel
theorem dJ6_bitCount_0f7a4_2 : decode cJ6_bitCount_0f7a4 2 = .ok (.iconst 1, 1) := by decide +kernel
theorem dJ6_bitCount_0f7a4_3 : decode cJ6_bitCount_0f7a4 3 = .ok (.iushr, 1) := by decide +kernel
theorem dJ6_bitCount_0f7a4_4 : decode cJ6_bitCount_0f7a4 4 = .ok (.ldc_w 265, 3) := by decide +kernel
theorem dJ6_bitCount_0f7a4_7 : decode cJ6_bitCount_0f7a4 7 = .ok (.iand, 1) := by decide +kernel
theorem dJ6_bitCount_0f7a4_8 : decode cJ6_bitCount_0f7a4 8 = .ok (.isub, 1) := by decide +kernel
theorem dJ6_bitCount_0f7a4_9 : decode cJ6_bitCount_0f7a4 9 = .ok (.istore_n 0, 1) := by decide +kernel
theorem dJ6_bitCount_0f7a4_10 : decode cJ6_bitCount_0f7a4 10 = .ok (.iload_n 0, 1) := by decide +kernel
theorem dJ6_bitCount_0f7a4_11 : decode cJ6_bitCount_0f7a4 11 = .ok (.ldc_w 266, 3) := by decide +kernel
theorem dJ6_bitCount_0f7a4_14 : decode cJ6_bitCount_0f7a4 14 = .ok (.iand, 1) := by decide +kernel
theorem dJ6_bitCount_0f7a4_15 : decode cJ6_bitCount_0f7a4 15 = .ok (.iload_n 0, 1) := by decide +kernel
theorem dJ6_bitCount_0f7a4_16 : decode cJ6_bitCount_0f7a4 16 = .ok (.iconst 2, 1) := by decide +kernel
theorem dJ6_bitCount_0f7a4_17 : decode cJ6_bitCount_0f7a4 17 = .ok (.iushr, 1) := by decide +kernel
theorem dJ6_bitCount_0f7a4_18 : decode cJ6_bitCount_0f7a4 18 = .ok (.ldc_w 266, 3) := by decide +kernel
theorem dJ6_bitCount_0f7a4_21 : decode cJ6_bitCount_0f7a4 21 = .ok (.iand, 1) := by decide +kernel
theorem dJ6_bitCount_0f7a4_22 : decode cJ6_bitCount_0f7a4 22 = .ok (.iadd, 1) := by decide +kernel
theorem dJ6_bitCount_0f7a4_23 : decode cJ6_bitCount_0f7a4 23 = .ok (.istore_n 0, 1) := by decide +kernel
theorem dJ6_bitCount_0f7a4_24 : decode cJ6_bitCount_0f7a4 24 = .ok (.iload_n 0, 1) := by decide +kernel
theorem dJ6_bitCount_0f7a4_25 : decode cJ6_bitCount_0f7a4 25 = .ok (.iload_n 0, 1) := by decide +kernel
theorem dJ6_bitCount_0f7a4_26 : decode cJ6_bitCount_0f7a4 26 = .ok (.iconst 4, 1) := by decide +kernel
theorem dJ6_bitCount_0f7a4_27 : decode cJ6_bitCount_0f7a4 27 = .ok (.iushr, 1) := by decide +kernel
theorem dJ6_bitCount_0f7a4_28 : decode cJ6_bitCount_0f7a4 28 = .ok (.iadd, 1) := by decide +kernel
theorem dJ6_bitCount_0f7a4_29 : decode cJ6_bitCount_0f7a4 29 = .ok (.ldc_w 267, 3) := by decide +kernel
theorem dJ6_bitCount_0f7a4_32 : decode cJ6_bitCount_0f7a4 32 = .ok (.iand, 1) := by decide +kernel
theorem dJ6_bitCount_0f7a4_33 : decode cJ6_bitCount_0f7a4 33 = .ok (.istore_n 0, 1) := by decide +kernel
theorem dJ6_bitCount_0f7a4_34 : decode cJ6_bitCount_0f7a4 34 = .ok (.iload_n 0, 1) := by decide +kernel
theorem dJ6_bitCount_0f7a4_35 : decode cJ6_bitCount_0f7a4 35 = .ok (.iload_n 0, 1) := by decide +kernel
theorem dJ6_bitCount_0f7a4_36 : decode cJ6_bitCount_0f7a4 36 = .ok (.bipush 8, 2) := by decide +kernel
theorem dJ6_bitCount_0f7a4_38 : decode cJ6_bitCount_0f7a4 38 = .ok (.iushr, 1) := by decide +kernel
theorem dJ6_bitCount_0f7a4_39 : decode cJ6_bitCount_0f7a4 39 = .ok (.iadd, 1) := by decide +kernel
theorem dJ6_bitCount_0f7a4_40 : decode cJ6_bitCount_0f7a4 40 = .ok (.istore_n 0, 1) := by decide +kernel
theorem dJ6_bitCount_0f7a4_41 : decode cJ6_bitCount_0f7a4 41 = .ok (.iload_n 0, 1) := by decide +kernel
theorem dJ6_bitCount_0f7a4_42 : decode cJ6_bitCount_0f7a4 42 = .ok (.iload_n 0, 1) := by decide +kernel
theorem dJ6_bitCount_0f7a4_43 : decode cJ6_bitCount_0f7a4 43 = .ok (.bipush 16, 2) := by decide +kernel
theorem dJ6_bitCount_0f7a4_45 : decode cJ6_bitCount_0f7a4 45 = .ok (.iushr, 1) := by decide +kernel
theorem dJ6_bitCount_0f7a4_46 : decode cJ6_bitCount_0f7a4 46 = .ok (.iadd, 1) := by decide +kernel
theorem dJ6_bitCount_0f7a4_47 : decode cJ6_bitCount_0f7a4 47 = .ok (.istore_n 0, 1) := by decide +kernel
theorem dJ6_bitCount_0f7a4_48 : decode cJ6_bitCount_0f7a4 48 = .ok (.iload_n 0, 1) := by decide +kernel
theorem dJ6_bitCount_0f7a4_49 : decode cJ6_bitCount_0f7a4 49 = .ok (.bipush 63, 2) := by decide +kernel
theorem dJ6_bitCount_0f7a4_51 : decode cJ6_bitCount_0f7a4 51 = .ok (.iand, 1) := by decide +kernel
theorem dJ6_bitCount_0f7a4_52 : decode cJ6_bitCount_0f7a4 52 = .ok (.ireturn, 1) := by decide +kernel
theorem dJ9_abs_0f7a4_0 : decode cJ9_abs_0f7a4 0 = .ok (.iload_n 0, 1) := by decide +kernel
theorem dJ9_abs_0f7a4_1 : decode cJ9_abs_0f7a4 1 = .ok (.ifCond .ge 8, 3) := by decide +kernel
theorem dJ9_abs_0f7a4_4 : decode cJ9_abs_0f7a4 4 = .ok (.iload_n 0, 1) := by decide +kernel
theorem dJ9_abs_0f7a4_5 : decode cJ9_abs_0f7a4 5 = .ok (.ineg, 1) := by decide +kernel
theorem dJ9_abs_0f7a4_6 : decode cJ9_abs_0f7a4 6 = .ok (.goto 4, 3) := by decide +kernel
theorem dJ9_abs_0f7a4_9 : decode cJ9_abs_0f7a4 9 = .ok (.iload_n 0, 1) := by decide +kernel
theorem dJ9_abs_0f7a4_10 : decode cJ9_abs_0f7a4 10 = .ok (.ireturn, 1) := by decide +kernel
theorem dJ9_max_7cf53_0 : decode cJ9_max_7cf53 0 = .ok (.iload_n 0, 1) := by decide +kernel
theorem dJ9_max_7cf53_1 : decode cJ9_max_7cf53 1 = .ok (.iload_n 1, 1) := by decide +kernel
theorem dJ9_max_7cf53_2 : decode cJ9_max_7cf53 2 = .ok (.if_icmp .lt 7, 3) := by decide +kernel
theorem dJ9_max_7cf53_5 : decode cJ9_max_7cf53 5 = .ok (.iload_n 0, 1) := by decide +kernel
theorem dJ9_max_7cf53_6 : decode cJ9_max_7cf53 6 = .ok (.goto 4, 3) := by decide +kernel
theorem dJ9_max_7cf53_9 : decode cJ9_max_7cf53 9 = .ok (.iload_n 1, 1) := by decide +kernel
theorem dJ9_max_7cf53_10 : decode cJ9_max_7cf53 10 = .ok (.ireturn, 1) := by decide +kernel
theorem dJ9_min_7cf53_0 : decode cJ9_min_7cf53 0 = .ok (.iload_n 0, 1) := by decide +kernel
theorem dJ9_min_7cf53_1 : decode cJ9_min_7cf53 1 = .ok (.iload_n 1, 1) := by decide +kernel
theorem dJ9_min_7cf53_2 : decode cJ9_min_7cf53 2 = .ok (.if_icmp .gt 7, 3) := by decide +kernel
theorem dJ9_min_7cf53_5 : decode cJ9_min_7cf53 5 = .ok (.iload_n 0, 1) := by decide +kernel
theorem dJ9_min_7cf53_6 : decode cJ9_min_7cf53 6 = .ok (.goto 4, 3) := by decide +kernel
theorem dJ9_min_7cf53_9 : decode cJ9_min_7cf53 9 = .ok (.iload_n 1, 1) := by decide +kernel
theorem dJ9_min_7cf53_10 : decode cJ9_min_7cf53 10 = .ok (.ireturn, 1) := by decide +kernel
theorem dJ0_length_8abf5_0 : decode cJ0_length_8abf5 0 = .ok (.aload_n 0, 1) := by decide +kernel
theorem dJ0_length_8abf5_1 : decode cJ0_length_8abf5 1 = .ok (.getfield 9, 3) := by decide +kernel
theorem dJ0_length_8abf5_4 : decode cJ0_length_8abf5 4 = .ok (.arraylength, 1) := by decide +kernel
theorem dJ0_length_8abf5_5 : decode cJ0_length_8abf5 5 = .ok (.aload_n 0, 1) := by decide +kernel
theorem dJ0_length_8abf5_6 : decode cJ0_length_8abf5 6 = .ok (.invokevirtual 335, 3) := by decide +kernel
theorem dJ0_length_8abf5_9 : decode cJ0_length_8abf5 9 = .ok (.ishr, 1) := by decide +kernel
theorem dJ0_length_8abf5_10 : decode cJ0_length_8abf5 10 = .ok (.ireturn, 1) := by decide +kernel
theorem dJ0_indexOf_0f7a4_0 : decode cJ0_indexOf_0f7a4 0 = .ok (.aload_n 0, 1) := by decide +kernel
theorem dJ0_indexOf_0f7a4_1 : decode cJ0_indexOf_0f7a4 1 = .ok (.iload_n 1, 1) := by decide +kernel
theorem dJ0_indexOf_0f7a4_2 : decode cJ0_indexOf_0f7a4 2 = .ok (.iconst 0, 1) := by decide +kernel
theorem dJ0_indexOf_0f7a4_3 : decode cJ0_indexOf_0f7a4 3 = .ok (.invokevirtual 633, 3) := by decide +kernel
theorem dJ0_indexOf_0f7a4_6 : decode cJ0_indexOf_0f7a4 6 = .ok (.ireturn, 1) := by decide +kernel
theorem dJ0_indexOf_7cf53_0 : decode cJ0_indexOf_7cf53 0 = .ok (.aload_n 0, 1) := by decide +kernel
theorem dJ0_indexOf_7cf53_1 : decode cJ0_indexOf_7cf53 1 = .ok (.invokevirtual 492, 3) := by decide +kernel
theorem dJ0_indexOf_7cf53_4 : decode cJ0_indexOf_7cf53 4 = .ok (.ifCond .eq 19, 3) := by decide +kernel
theorem dJ0_indexOf_7cf53_7 : decode cJ0_indexOf_7cf53 7 = .ok (.aload_n 0, 1) := by decide +kernel
theorem dJ0_indexOf_7cf53_8 : decode cJ0_indexOf_7cf53 8 = .ok (.getfield 9, 3) := by decide +kernel
theorem dJ0_indexOf_7cf53_11 : decode cJ0_indexOf_7cf53 11 = .ok (.iload_n 1, 1) := by decide +kernel
theorem dJ0_indexOf_7cf53_12 : decode cJ0_indexOf_7cf53 12 = .ok (.iload_n 2, 1) := by decide +kernel
theorem dJ0_indexOf_7cf53_13 : decode cJ0_indexOf_7cf53 13 = .ok (.aload_n 0, 1) := by decide +kernel
theorem dJ0_indexOf_7cf53_14 : decode cJ0_indexOf_7cf53 14 = .ok (.invokevirtual 505, 3) := by decide +kernel
theorem dJ0_indexOf_7cf53_17 : decode cJ0_indexOf_7cf53 17 = .ok (.invokestatic 637, 3) := by decide +kernel
theorem dJ0_indexOf_7cf53_20 : decode cJ0_indexOf_7cf53 20 = .ok (.goto 16, 3) := by decide +kernel
theorem dJ0_indexOf_7cf53_23 : decode cJ0_indexOf_7cf53 23 = .ok (.aload_n 0, 1) := by decide +kernel
theorem dJ0_indexOf_7cf53_24 : decode cJ0_indexOf_7cf53 24 = .ok (.getfield 9, 3) := by decide +kernel
theorem dJ0_indexOf_7cf53_27 : decode cJ0_indexOf_7cf53 27 = .ok (.iload_n 1, 1) := by decide +kernel
theorem dJ0_indexOf_7cf53_28 : decode cJ0_indexOf_7cf53 28 = .ok (.iload_n 2, 1) := by decide +kernel
theorem dJ0_indexOf_7cf53_29 : decode cJ0_indexOf_7cf53 29 = .ok (.aload_n 0, 1) := by decide +kernel
theorem dJ0_indexOf_7cf53_30 : decode cJ0_indexOf_7cf53 30 = .ok (.invokevirtual 505, 3) := by decide +kernel
theorem dJ0_indexOf_7cf53_33 : decode cJ0_indexOf_7cf53 33 = .ok (.invokestatic 640, 3) := by decide +kernel
theorem dJ0_indexOf_7cf53_36 : decode cJ0_indexOf_7cf53 36 = .ok (.ireturn, 1) := by decide +kernel
theorem dJ0_coder_7d493_0 : decode cJ0_coder_7d493 0 = .ok (.getstatic 38, 3) := by decide +kernel
theorem dJ0_coder_7d493_3 : decode cJ0_coder_7d493 3 = .ok (.ifCond .eq 10, 3) := by decide +kernel
theorem dJ0_coder_7d493_6 : decode cJ0_coder_7d493 6 = .ok (.aload_n 0, 1) := by decide +kernel
theorem dJ0_coder_7d493_7 : decode cJ0_coder_7d493 7 = .ok (.getfield 15, 3) := by decide +kernel
theorem dJ0_coder_7d493_10 : decode cJ0_coder_7d493 10 = .ok (.goto 4, 3) := by decide +kernel
theorem dJ0_coder_7d493_13 : decode cJ0_coder_7d493 13 = .ok (.iconst 1, 1) := by decide +kernel
theorem dJ0_coder_7d493_14 : decode cJ0_coder_7d493 14 = .ok (.ireturn, 1) := by decide +kernel
theorem dJ0_isLatin1_aae02_0 : decode cJ0_isLatin1_aae02 0 = .ok (.getstatic 38, 3) := by decide +kernel
theorem dJ0_isLatin1_aae02_3 : decode cJ0_isLatin1_aae02 3 = .ok (.ifCond .eq 14, 3) := by decide +kernel
theorem dJ0_isLatin1_aae02_6 : decode cJ0_isLatin1_aae02 6 = .ok (.aload_n 0, 1) := by decide +kernel
theorem dJ0_isLatin1_aae02_7 : decode cJ0_isLatin1_aae02 7 = .ok (.getfield 15, 3) := by decide +kernel
theorem dJ0_isLatin1_aae02_10 : decode cJ0_isLatin1_aae02 10 = .ok (.ifCond .ne 7, 3) := by decide +kernel
theorem dJ0_isLatin1_aae02_13 : decode cJ0_isLatin1_aae02 13 = .ok (.iconst 1, 1) := by decide +kernel
theorem dJ0_isLatin1_aae02_14 : decode cJ0_isLatin1_aae02 14 = .ok (.goto 4, 3) := by decide +kernel
theorem dJ0_isLatin1_aae02_17 : decode cJ0_isLatin1_aae02 17 = .ok (.iconst 0, 1) := by decide +kernel
theorem dJ0_isLatin1_aae02_18 : decode cJ0_isLatin1_aae02 18 = .ok (.ireturn, 1) := by decide +kernel
theorem dJ0_checkBoundsBeginEnd_23922_0 : decode cJ0_checkBoundsBeginEnd_23922 0 = .ok (.iload_n 0, 1) := by decide +kernel
theorem dJ0_checkBoundsBeginEnd_23922_1 : decode cJ0_checkBoundsBeginEnd_23922 1 = .ok (.iload_n 1, 1) := by decide +kernel
theorem dJ0_checkBoundsBeginEnd_23922_2 : decode cJ0_checkBoundsBeginEnd_23922 2 = .ok (.iload_n 2, 1) := by decide +kernel
theorem dJ0_checkBoundsBeginEnd_23922_3 : decode cJ0_checkBoundsBeginEnd_23922 3 = .ok (.getstatic 1053, 3) := by decide +kernel
theorem dJ0_checkBoundsBeginEnd_23922_6 : decode cJ0_checkBoundsBeginEnd_23922 6 = .ok (.invokestatic 1062, 3) := by decide +kernel
theorem dJ0_checkBoundsBeginEnd_23922_9 : decode cJ0_checkBoundsBeginEnd_23922 9 = .ok (.pop, 1) := by decide +kernel
theorem dJ0_checkBoundsBeginEnd_23922_10 : decode cJ0_checkBoundsBeginEnd_23922 10 = .ok (.return_, 1) := by decide +kernel
theorem dJ1_canEncode_9a6ad_0 : decode cJ1_canEncode_9a6ad 0 = .ok (.iload_n 0, 1) := by decide +kernel
theorem dJ1_canEncode_9a6ad_1 : decode cJ1_canEncode_9a6ad 1 = .ok (.ifCond .lt 14, 3) := by decide +kernel
theorem dJ1_canEncode_9a6ad_4 : decode cJ1_canEncode_9a6ad 4 = .ok (.iload_n 0, 1) := by decide +kernel
theorem dJ1_canEncode_9a6ad_5 : decode cJ1_canEncode_9a6ad 5 = .ok (.sipush 255, 3) := by decide +kernel
theorem dJ1_canEncode_9a6ad_8 : decode cJ1_canEncode_9a6ad 8 = .ok (.if_icmp .gt 7, 3) := by decide +kernel
theorem dJ1_canEncode_9a6ad_11 : decode cJ1_canEncode_9a6ad 11 = .ok (.iconst 1, 1) := by decide +kernel
theorem dJ1_canEncode_9a6ad_12 : decode cJ1_canEncode_9a6ad 12 = .ok (.goto 4, 3) := by decide +kernel
theorem dJ1_canEncode_9a6ad_15 : decode cJ1_canEncode_9a6ad 15 = .ok (.iconst 0, 1) := by decide +kernel
theorem dJ1_canEncode_9a6ad_16 : decode cJ1_canEncode_9a6ad 16 = .ok (.ireturn, 1) := by decide +kernel
theorem dJ1_indexOf_4cfef_0 : decode cJ1_indexOf_4cfef 0 = .ok (.iload_n 1, 1) := by decide +kernel
theorem dJ1_indexOf_4cfef_1 : decode cJ1_indexOf_4cfef 1 = .ok (.invokestatic 88, 3) := by decide +kernel
theorem dJ1_indexOf_4cfef_4 : decode cJ1_indexOf_4cfef 4 = .ok (.ifCond .ne 5, 3) := by decide +kernel
theorem dJ1_indexOf_4cfef_7 : decode cJ1_indexOf_4cfef 7 = .ok (.iconst (-1), 1) := by decide +kernel
theorem dJ1_indexOf_4cfef_8 : decode cJ1_indexOf_4cfef 8 = .ok (.ireturn, 1) := by decide +kernel
theorem dJ1_indexOf_4cfef_9 : decode cJ1_indexOf_4cfef 9 = .ok (.iload_n 2, 1) := by decide +kernel
theorem dJ1_indexOf_4cfef_10 : decode cJ1_indexOf_4cfef 10 = .ok (.iconst 0, 1) := by decide +kernel
theorem dJ1_indexOf_4cfef_11 : decode cJ1_indexOf_4cfef 11 = .ok (.invokestatic 92, 3) := by decide +kernel
theorem dJ1_indexOf_4cfef_14 : decode cJ1_indexOf_4cfef 14 = .ok (.istore_n 2, 1) := by decide +kernel
theorem dJ1_indexOf_4cfef_15 : decode cJ1_indexOf_4cfef 15 = .ok (.iload_n 3, 1) := by decide +kernel
theorem dJ1_indexOf_4cfef_16 : decode cJ1_indexOf_4cfef 16 = .ok (.aload_n 0, 1) := by decide +kernel
theorem dJ1_indexOf_4cfef_17 : decode cJ1_indexOf_4cfef 17 = .ok (.arraylength, 1) := by decide +kernel
theorem dJ1_indexOf_4cfef_18 : decode cJ1_indexOf_4cfef 18 = .ok (.invokestatic 38, 3) := by decide +kernel
theorem dJ1_indexOf_4cfef_21 : decode cJ1_indexOf_4cfef 21 = .ok (.istore_n 3, 1) := by decide +kernel
theorem dJ1_indexOf_4cfef_22 : decode cJ1_indexOf_4cfef 22 = .ok (.iload_n 2, 1) := by decide +kernel
theorem dJ1_indexOf_4cfef_23 : decode cJ1_indexOf_4cfef 23 = .ok (.iload_n 3, 1) := by decide +kernel
theorem dJ1_indexOf_4cfef_24 : decode cJ1_indexOf_4cfef 24 = .ok (.if_icmp .lt 5, 3) := by decide +kernel
theorem dJ1_indexOf_4cfef_27 : decode cJ1_indexOf_4cfef 27 = .ok (.iconst (-1), 1) := by decide +kernel
theorem dJ1_indexOf_4cfef_28 : decode cJ1_indexOf_4cfef 28 = .ok (.ireturn, 1) := by decide +kernel
theorem dJ1_indexOf_4cfef_29 : decode cJ1_indexOf_4cfef 29 = .ok (.aload_n 0, 1) := by decide +kernel
theorem dJ1_indexOf_4cfef_30 : decode cJ1_indexOf_4cfef 30 = .ok (.iload_n 1, 1) := by decide +kernel
theorem dJ1_indexOf_4cfef_31 : decode cJ1_indexOf_4cfef 31 = .ok (.iload_n 2, 1) := by decide +kernel
theorem dJ1_indexOf_4cfef_32 : decode cJ1_indexOf_4cfef 32 = .ok (.iload_n 3, 1) := by decide +kernel
theorem dJ1_indexOf_4cfef_33 : decode cJ1_indexOf_4cfef 33 = .ok (.invokestatic 95, 3) := by decide +kernel
theorem dJ1_indexOf_4cfef_36 : decode cJ1_indexOf_4cfef 36 = .ok (.ireturn, 1) := by decide +kernel
theorem dJ1_indexOfChar_4cfef_0 : decode cJ1_indexOfChar_4cfef 0 = .ok (.iload_n 1, 1) := by decide +kernel
theorem dJ1_indexOfChar_4cfef_1 : decode cJ1_indexOfChar_4cfef 1 = .ok (.i2b, 1) := by decide +kernel
theorem dJ1_indexOfChar_4cfef_2 : decode cJ1_indexOfChar_4cfef 2 = .ok (.istore 4, 2) := by decide +kernel
theorem dJ1_indexOfChar_4cfef_4 : decode cJ1_indexOfChar_4cfef 4 = .ok (.iload_n 2, 1) := by decide +kernel
theorem dJ1_indexOfChar_4cfef_5 : decode cJ1_indexOfChar_4cfef 5 = .ok (.istore 5, 2) := by decide +kernel
theorem dJ1_indexOfChar_4cfef_7 : decode cJ1_indexOfChar_4cfef 7 = .ok (.iload 5, 2) := by decide +kernel
theorem dJ1_indexOfChar_4cfef_9 : decode cJ1_indexOfChar_4cfef 9 = .ok (.iload_n 3, 1) := by decide +kernel
theorem dJ1_indexOfChar_4cfef_10 : decode cJ1_indexOfChar_4cfef 10 = .ok (.if_icmp .ge 21, 3) := by decide +kernel
theorem dJ1_indexOfChar_4cfef_13 : decode cJ1_indexOfChar_4cfef 13 = .ok (.aload_n 0, 1) := by decide +kernel
theorem dJ1_indexOfChar_4cfef_14 : decode cJ1_indexOfChar_4cfef 14 = .ok (.iload 5, 2) := by decide +kernel
theorem dJ1_indexOfChar_4cfef_16 : decode cJ1_indexOfChar_4cfef 16 = .ok (.baload, 1) := by decide +kernel
theorem dJ1_indexOfChar_4cfef_17 : decode cJ1_indexOfChar_4cfef 17 = .ok (.iload 4, 2) := by decide +kernel
theorem dJ1_indexOfChar_4cfef_19 : decode cJ1_indexOfChar_4cfef 19 = .ok (.if_icmp .ne 6, 3) := by decide +kernel
theorem dJ1_indexOfChar_4cfef_22 : decode cJ1_indexOfChar_4cfef 22 = .ok (.iload 5, 2) := by decide +kernel
theorem dJ1_indexOfChar_4cfef_24 : decode cJ1_indexOfChar_4cfef 24 = .ok (.ireturn, 1) := by decide +kernel
theorem dJ1_indexOfChar_4cfef_25 : decode cJ1_indexOfChar_4cfef 25 = .ok (.iinc 5 1, 3) := by decide +kernel
theorem dJ1_indexOfChar_4cfef_28 : decode cJ1_indexOfChar_4cfef 28 = .ok (.goto (-21), 3) := by decide +kernel
theorem dJ1_indexOfChar_4cfef_31 : decode cJ1_indexOfChar_4cfef 31 = .ok (.iconst (-1), 1) := by decide +kernel
theorem dJ1_indexOfChar_4cfef_32 : decode cJ1_indexOfChar_4cfef 32 = .ok (.ireturn, 1) := by decide +kernel
theorem dJ2_getChar_3b067_0 : decode cJ2_getChar_3b067 0 = .ok (.getstatic 44, 3) := by decide +kernel
theorem dJ2_getChar_3b067_3 : decode cJ2_getChar_3b067 3 = .ok (.ifCond .ne 25, 3) := by decide +kernel
theorem dJ2_getChar_3b067_6 : decode cJ2_getChar_3b067 6 = .ok (.iload_n 1, 1) := by decide +kernel
theorem dJ2_getChar_3b067_7 : decode cJ2_getChar_3b067 7 = .ok (.ifCond .lt 11, 3) := by decide +kernel
theorem dJ2_getChar_3b067_10 : decode cJ2_getChar_3b067 10 = .ok (.iload_n 1, 1) := by decide +kernel
theorem dJ2_getChar_3b067_11 : decode cJ2_getChar_3b067 11 = .ok (.aload_n 0, 1) := by decide +kernel
theorem dJ2_getChar_3b067_12 : decode cJ2_getChar_3b067 12 = .ok (.invokestatic 48, 3) := by decide +kernel
theorem dJ2_getChar_3b067_15 : decode cJ2_getChar_3b067 15 = .ok (.if_icmp .lt 13, 3) := by decide +kernel
theorem dJ2_getChar_3b067_18 : decode cJ2_getChar_3b067 18 = .ok (.new 52, 3) := by decide +kernel
theorem dJ2_getChar_3b067_21 : decode cJ2_getChar_3b067 21 = .ok (.dup, 1) := by decide +kernel
theorem dJ2_getChar_3b067_22 : decode cJ2_getChar_3b067 22 = .ok (.ldc 54, 2) := by decide +kernel
theorem dJ2_getChar_3b067_24 : decode cJ2_getChar_3b067 24 = .ok (.invokespecial 56, 3) := by decide +kernel
theorem dJ2_getChar_3b067_27 : decode cJ2_getChar_3b067 27 = .ok (.athrow, 1) := by decide +kernel
theorem dJ2_getChar_3b067_28 : decode cJ2_getChar_3b067 28 = .ok (.iload_n 1, 1) := by decide +kernel
theorem dJ2_getChar_3b067_29 : decode cJ2_getChar_3b067 29 = .ok (.iconst 1, 1) := by decide +kernel
theorem dJ2_getChar_3b067_30 : decode cJ2_getChar_3b067 30 = .ok (.ishl, 1) := by decide +kernel
theorem dJ2_getChar_3b067_31 : decode cJ2_getChar_3b067 31 = .ok (.istore_n 1, 1) := by decide +kernel
theorem dJ2_getChar_3b067_32 : decode cJ2_getChar_3b067 32 = .ok (.aload_n 0, 1) := by decide +kernel
theorem dJ2_getChar_3b067_33 : decode cJ2_getChar_3b067 33 = .ok (.iload_n 1, 1) := by decide +kernel
theorem dJ2_getChar_3b067_34 : decode cJ2_getChar_3b067 34 = .ok (.iinc 1 1, 3) := by decide +kernel
theorem dJ2_getChar_3b067_37 : decode cJ2_getChar_3b067 37 = .ok (.baload, 1) := by decide +kernel
theorem dJ2_getChar_3b067_38 : decode cJ2_getChar_3b067 38 = .ok (.sipush 255, 3) := by decide +kernel
theorem dJ2_getChar_3b067_41 : decode cJ2_getChar_3b067 41 = .ok (.iand, 1) := by decide +kernel
theorem dJ2_getChar_3b067_42 : decode cJ2_getChar_3b067 42 = .ok (.getstatic 59, 3) := by decide +kernel
theorem dJ2_getChar_3b067_45 : decode cJ2_getChar_3b067 45 = .ok (.ishl, 1) := by decide +kernel
theorem dJ2_getChar_3b067_46 : decode cJ2_getChar_3b067 46 = .ok (.aload_n 0, 1) := by decide +kernel
theorem dJ2_getChar_3b067_47 : decode cJ2_getChar_3b067 47 = .ok (.iload_n 1, 1) := by decide +kernel
theorem dJ2_getChar_3b067_48 : decode cJ2_getChar_3b067 48 = .ok (.baload, 1) := by decide +kernel
theorem dJ2_getChar_3b067_49 : decode cJ2_getChar_3b067 49 = .ok (.sipush 255, 3) := by decide +kernel
theorem dJ2_getChar_3b067_52 : decode cJ2_getChar_3b067 52 = .ok (.iand, 1) := by decide +kernel
theorem dJ2_getChar_3b067_53 : decode cJ2_getChar_3b067 53 = .ok (.getstatic 63, 3) := by decide +kernel
theorem dJ2_getChar_3b067_56 : decode cJ2_getChar_3b067 56 = .ok (.ishl, 1) := by decide +kernel
theorem dJ2_getChar_3b067_57 : decode cJ2_getChar_3b067 57 = .ok (.ior, 1) := by decide +kernel
theorem dJ2_getChar_3b067_58 : decode cJ2_getChar_3b067 58 = .ok (.i2c, 1) := by decide +kernel
theorem dJ2_getChar_3b067_59 : decode cJ2_getChar_3b067 59 = .ok (.ireturn, 1) := by decide +kernel
theorem dJ2_length_9d52b_0 : decode cJ2_length_9d52b 0 = .ok (.aload_n 0, 1) := by decide +kernel
theorem dJ2_length_9d52b_1 : decode cJ2_length_9d52b 1 = .ok (.arraylength, 1) := by decide +kernel
theorem dJ2_length_9d52b_2 : decode cJ2_length_9d52b 2 = .ok (.iconst 1, 1) := by decide +kernel
theorem dJ2_length_9d52b_3 : decode cJ2_length_9d52b 3 = .ok (.ishr, 1) := by decide +kernel
theorem dJ2_length_9d52b_4 : decode cJ2_length_9d52b 4 = .ok (.ireturn, 1) := by decide +kernel
theorem dJ2_indexOf_4cfef_0 : decode cJ2_indexOf_4cfef 0 = .ok (.iload_n 2, 1) := by decide +kernel
theorem dJ2_indexOf_4cfef_1 : decode cJ2_indexOf_4cfef 1 = .ok (.iconst 0, 1) := by decide +kernel
theorem dJ2_indexOf_4cfef_2 : decode cJ2_indexOf_4cfef 2 = .ok (.invokestatic 224, 3) := by decide +kernel
theorem dJ2_indexOf_4cfef_5 : decode cJ2_indexOf_4cfef 5 = .ok (.istore_n 2, 1) := by decide +kernel
theorem dJ2_indexOf_4cfef_6 : decode cJ2_indexOf_4cfef 6 = .ok (.iload_n 3, 1) := by decide +kernel
theorem dJ2_indexOf_4cfef_7 : decode cJ2_indexOf_4cfef 7 = .ok (.aload_n 0, 1) := by decide +kernel
theorem dJ2_indexOf_4cfef_8 : decode cJ2_indexOf_4cfef 8 = .ok (.arraylength, 1) := by decide +kernel
theorem dJ2_indexOf_4cfef_9 : decode cJ2_indexOf_4cfef 9 = .ok (.iconst 1, 1) := by decide +kernel
theorem dJ2_indexOf_4cfef_10 : decode cJ2_indexOf_4cfef 10 = .ok (.ishr, 1) := by decide +kernel
theorem dJ2_indexOf_4cfef_11 : decode cJ2_indexOf_4cfef 11 = .ok (.invokestatic 183, 3) := by decide +kernel
theorem dJ2_indexOf_4cfef_14 : decode cJ2_indexOf_4cfef 14 = .ok (.istore_n 3, 1) := by decide +kernel
theorem dJ2_indexOf_4cfef_15 : decode cJ2_indexOf_4cfef 15 = .ok (.iload_n 2, 1) := by decide +kernel
theorem dJ2_indexOf_4cfef_16 : decode cJ2_indexOf_4cfef 16 = .ok (.iload_n 3, 1) := by decide +kernel
theorem dJ2_indexOf_4cfef_17 : decode cJ2_indexOf_4cfef 17 = .ok (.if_icmp .lt 5, 3) := by decide +kernel
theorem dJ2_indexOf_4cfef_20 : decode cJ2_indexOf_4cfef 20 = .ok (.iconst (-1), 1) := by decide +kernel
theorem dJ2_indexOf_4cfef_21 : decode cJ2_indexOf_4cfef 21 = .ok (.ireturn, 1) := by decide +kernel
theorem dJ2_indexOf_4cfef_22 : decode cJ2_indexOf_4cfef 22 = .ok (.iload_n 1, 1) := by decide +kernel
theorem dJ2_indexOf_4cfef_23 : decode cJ2_indexOf_4cfef 23 = .ok (.ldc 227, 2) := by decide +kernel
theorem dJ2_indexOf_4cfef_25 : decode cJ2_indexOf_4cfef 25 = .ok (.if_icmp .ge 11, 3) := by decide +kernel
theorem dJ2_indexOf_4cfef_28 : decode cJ2_indexOf_4cfef 28 = .ok (.aload_n 0, 1) := by decide +kernel
theorem dJ2_indexOf_4cfef_29 : decode cJ2_indexOf_4cfef 29 = .ok (.iload_n 1, 1) := by decide +kernel
theorem dJ2_indexOf_4cfef_30 : decode cJ2_indexOf_4cfef 30 = .ok (.iload_n 2, 1) := by decide +kernel
theorem dJ2_indexOf_4cfef_31 : decode cJ2_indexOf_4cfef 31 = .ok (.iload_n 3, 1) := by decide +kernel
theorem dJ2_indexOf_4cfef_32 : decode cJ2_indexOf_4cfef 32 = .ok (.invokestatic 228, 3) := by decide +kernel
theorem dJ2_indexOf_4cfef_35 : decode cJ2_indexOf_4cfef 35 = .ok (.ireturn, 1) := by decide +kernel
theorem dJ2_indexOf_4cfef_36 : decode cJ2_indexOf_4cfef 36 = .ok (.aload_n 0, 1) := by decide +kernel
theorem dJ2_indexOf_4cfef_37 : decode cJ2_indexOf_4cfef 37 = .ok (.iload_n 1, 1) := by decide +kernel
theorem dJ2_indexOf_4cfef_38 : decode cJ2_indexOf_4cfef 38 = .ok (.iload_n 2, 1) := by decide +kernel
theorem dJ2_indexOf_4cfef_39 : decode cJ2_indexOf_4cfef 39 = .ok (.iload_n 3, 1) := by decide +kernel
theorem dJ2_indexOf_4cfef_40 : decode cJ2_indexOf_4cfef 40 = .ok (.invokestatic 232, 3) := by decide +kernel
theorem dJ2_indexOf_4cfef_43 : decode cJ2_indexOf_4cfef 43 = .ok (.ireturn, 1) := by decide +kernel
theorem dJ2_indexOfChar_4cfef_0 : decode cJ2_indexOfChar_4cfef 0 = .ok (.iload_n 2, 1) := by decide +kernel
theorem dJ2_indexOfChar_4cfef_1 : decode cJ2_indexOfChar_4cfef 1 = .ok (.iload_n 3, 1) := by decide +kernel
theorem dJ2_indexOfChar_4cfef_2 : decode cJ2_indexOfChar_4cfef 2 = .ok (.aload_n 0, 1) := by decide +kernel
theorem dJ2_indexOfChar_4cfef_3 : decode cJ2_indexOfChar_4cfef 3 = .ok (.invokestatic 96, 3) := by decide +kernel
theorem dJ2_indexOfChar_4cfef_6 : decode cJ2_indexOfChar_4cfef 6 = .ok (.aload_n 0, 1) := by decide +kernel
theorem dJ2_indexOfChar_4cfef_7 : decode cJ2_indexOfChar_4cfef 7 = .ok (.iload_n 1, 1) := by decide +kernel
theorem dJ2_indexOfChar_4cfef_8 : decode cJ2_indexOfChar_4cfef 8 = .ok (.iload_n 2, 1) := by decide +kernel
theorem dJ2_indexOfChar_4cfef_9 : decode cJ2_indexOfChar_4cfef 9 = .ok (.iload_n 3, 1) := by decide +kernel
theorem dJ2_indexOfChar_4cfef_10 : decode cJ2_indexOfChar_4cfef 10 = .ok (.invokestatic 244, 3) := by decide +kernel
theorem dJ2_indexOfChar_4cfef_13 : decode cJ2_indexOfChar_4cfef 13 = .ok (.ireturn, 1) := by decide +kernel
theorem dJ2_indexOfCharUnsafe_4cfef_0 : decode cJ2_indexOfCharUnsafe_4cfef 0 = .ok (.iload_n 2, 1) := by decide +kernel
theorem dJ2_indexOfCharUnsafe_4cfef_1 : decode cJ2_indexOfCharUnsafe_4cfef 1 = .ok (.istore 4, 2) := by decide +kernel
theorem dJ2_indexOfCharUnsafe_4cfef_3 : decode cJ2_indexOfCharUnsafe_4cfef 3 = .ok (.iload 4, 2) := by decide +kernel
theorem dJ2_indexOfCharUnsafe_4cfef_5 : decode cJ2_indexOfCharUnsafe_4cfef 5 = .ok (.iload_n 3, 1) := by decide +kernel
theorem dJ2_indexOfCharUnsafe_4cfef_6 : decode cJ2_indexOfCharUnsafe_4cfef 6 = .ok (.if_icmp .ge 22, 3) := by decide +kernel
theorem dJ2_indexOfCharUnsafe_4cfef_9 : decode cJ2_indexOfCharUnsafe_4cfef 9 = .ok (.aload_n 0, 1) := by decide +kernel
theorem dJ2_indexOfCharUnsafe_4cfef_10 : decode cJ2_indexOfCharUnsafe_4cfef 10 = .ok (.iload 4, 2) := by decide +kernel
theorem dJ2_indexOfCharUnsafe_4cfef_12 : decode cJ2_indexOfCharUnsafe_4cfef 12 = .ok (.invokestatic 71, 3) := by decide +kernel
theorem dJ2_indexOfCharUnsafe_4cfef_15 : decode cJ2_indexOfCharUnsafe_4cfef 15 = .ok (.iload_n 1, 1) := by decide +kernel
theorem dJ2_indexOfCharUnsafe_4cfef_16 : decode cJ2_indexOfCharUnsafe_4cfef 16 = .ok (.if_icmp .ne 6, 3) := by decide +kernel
theorem dJ2_indexOfCharUnsafe_4cfef_19 : decode cJ2_indexOfCharUnsafe_4cfef 19 = .ok (.iload 4, 2) := by decide +kernel
theorem dJ2_indexOfCharUnsafe_4cfef_21 : decode cJ2_indexOfCharUnsafe_4cfef 21 = .ok (.ireturn, 1) := by decide +kernel
theorem dJ2_indexOfCharUnsafe_4cfef_22 : decode cJ2_indexOfCharUnsafe_4cfef 22 = .ok (.iinc 4 1, 3) := by decide +kernel
theorem dJ2_indexOfCharUnsafe_4cfef_25 : decode cJ2_indexOfCharUnsafe_4cfef 25 = .ok (.goto (-22), 3) := by decide +kernel
theorem dJ2_indexOfCharUnsafe_4cfef_28 : decode cJ2_indexOfCharUnsafe_4cfef 28 = .ok (.iconst (-1), 1) := by decide +kernel
theorem dJ2_indexOfCharUnsafe_4cfef_29 : decode cJ2_indexOfCharUnsafe_4cfef 29 = .ok (.ireturn, 1) := by decide +kernel
theorem dJ2_indexOfSupplementary_4cfef_0 : decode cJ2_indexOfSupplementary_4cfef 0 = .ok (.iload_n 1, 1) := by decide +kernel
theorem dJ2_indexOfSupplementary_4cfef_1 : decode cJ2_indexOfSupplementary_4cfef 1 = .ok (.invokestatic 164, 3) := by decide +kernel
theorem dJ2_indexOfSupplementary_4cfef_4 : decode cJ2_indexOfSupplementary_4cfef 4 = .ok (.ifCond .eq 65, 3) := by decide +kernel
theorem dJ2_indexOfSupplementary_4cfef_7 : decode cJ2_indexOfSupplementary_4cfef 7 = .ok (.iload_n 1, 1) := by decide +kernel
theorem dJ2_indexOfSupplementary_4cfef_8 : decode cJ2_indexOfSupplementary_4cfef 8 = .ok (.invokestatic 157, 3) := by decide +kernel
theorem dJ2_indexOfSupplementary_4cfef_11 : decode cJ2_indexOfSupplementary_4cfef 11 = .ok (.istore 4, 2) := by decide +kernel
theorem dJ2_indexOfSupplementary_4cfef_13 : decode cJ2_indexOfSupplementary_4cfef 13 = .ok (.iload_n 1, 1) := by decide +kernel
theorem dJ2_indexOfSupplementary_4cfef_14 : decode cJ2_indexOfSupplementary_4cfef 14 = .ok (.invokestatic 161, 3) := by decide +kernel
theorem dJ2_indexOfSupplementary_4cfef_17 : decode cJ2_indexOfSupplementary_4cfef 17 = .ok (.istore 5, 2) := by decide +kernel
theorem dJ2_indexOfSupplementary_4cfef_19 : decode cJ2_indexOfSupplementary_4cfef 19 = .ok (.iload_n 2, 1) := by decide +kernel
theorem dJ2_indexOfSupplementary_4cfef_20 : decode cJ2_indexOfSupplementary_4cfef 20 = .ok (.iload_n 3, 1) := by decide +kernel
theorem dJ2_indexOfSupplementary_4cfef_21 : decode cJ2_indexOfSupplementary_4cfef 21 = .ok (.aload_n 0, 1) := by decide +kernel
theorem dJ2_indexOfSupplementary_4cfef_22 : decode cJ2_indexOfSupplementary_4cfef 22 = .ok (.invokestatic 96, 3) := by decide +kernel
theorem dJ2_indexOfSupplementary_4cfef_25 : decode cJ2_indexOfSupplementary_4cfef 25 = .ok (.iload_n 2, 1) := by decide +kernel
theorem dJ2_indexOfSupplementary_4cfef_26 : decode cJ2_indexOfSupplementary_4cfef 26 = .ok (.istore 6, 2) := by decide +kernel
theorem dJ2_indexOfSupplementary_4cfef_28 : decode cJ2_indexOfSupplementary_4cfef 28 = .ok (.iload 6, 2) := by decide +kernel
theorem dJ2_indexOfSupplementary_4cfef_30 : decode cJ2_indexOfSupplementary_4cfef 30 = .ok (.iload_n 3, 1) := by decide +kernel
theorem dJ2_indexOfSupplementary_4cfef_31 : decode cJ2_indexOfSupplementary_4cfef 31 = .ok (.iconst 1, 1) := by decide +kernel
theorem dJ2_indexOfSupplementary_4cfef_32 : decode cJ2_indexOfSupplementary_4cfef 32 = .ok (.isub, 1) := by decide +kernel
theorem dJ2_indexOfSupplementary_4cfef_33 : decode cJ2_indexOfSupplementary_4cfef 33 = .ok (.if_icmp .ge 36, 3) := by decide +kernel
theorem dJ2_indexOfSupplementary_4cfef_36 : decode cJ2_indexOfSupplementary_4cfef 36 = .ok (.aload_n 0, 1) := by decide +kernel
theorem dJ2_indexOfSupplementary_4cfef_37 : decode cJ2_indexOfSupplementary_4cfef 37 = .ok (.iload 6, 2) := by decide +kernel
theorem dJ2_indexOfSupplementary_4cfef_39 : decode cJ2_indexOfSupplementary_4cfef 39 = .ok (.invokestatic 71, 3) := by decide +kernel
theorem dJ2_indexOfSupplementary_4cfef_42 : decode cJ2_indexOfSupplementary_4cfef 42 = .ok (.iload 4, 2) := by decide +kernel
theorem dJ2_indexOfSupplementary_4cfef_44 : decode cJ2_indexOfSupplementary_4cfef 44 = .ok (.if_icmp .ne 19, 3) := by decide +kernel
theorem dJ2_indexOfSupplementary_4cfef_47 : decode cJ2_indexOfSupplementary_4cfef 47 = .ok (.aload_n 0, 1) := by decide +kernel
theorem dJ2_indexOfSupplementary_4cfef_48 : decode cJ2_indexOfSupplementary_4cfef 48 = .ok (.iload 6, 2) := by decide +kernel
theorem dJ2_indexOfSupplementary_4cfef_50 : decode cJ2_indexOfSupplementary_4cfef 50 = .ok (.iconst 1, 1) := by decide +kernel
theorem dJ2_indexOfSupplementary_4cfef_51 : decode cJ2_indexOfSupplementary_4cfef 51 = .ok (.iadd, 1) := by decide +kernel
theorem dJ2_indexOfSupplementary_4cfef_52 : decode cJ2_indexOfSupplementary_4cfef 52 = .ok (.invokestatic 71, 3) := by decide +kernel
theorem dJ2_indexOfSupplementary_4cfef_55 : decode cJ2_indexOfSupplementary_4cfef 55 = .ok (.iload 5, 2) := by decide +kernel
theorem dJ2_indexOfSupplementary_4cfef_57 : decode cJ2_indexOfSupplementary_4cfef 57 = .ok (.if_icmp .ne 6, 3) := by decide +kernel
