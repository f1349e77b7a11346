theorem dX8_asTold_9 : decode cX8_asTold 9 = .ok (.aload_n 0, 1) := by decide +kernel
theorem dX8_asTold_10 : decode cX8_asTold 10 = .ok (.iconst 0, 1) := by decide +kernel
theorem dX8_asTold_11 : decode cX8_asTold 11 = .ok (.putfield 168, 3) := by decide +kernel
theorem dX8_asTold_14 : decode cX8_asTold 14 = .ok (.return_, 1) := by decide +kernel
theorem dX8_runsTold_0 : decode cX8_runsTold 0 = .ok (.aload_n 0, 1) := by decide +kernel
theorem dX8_runsTold_1 : decode cX8_runsTold 1 = .ok (.invokevirtual 171, 3) := by decide +kernel
theorem dX8_runsTold_4 : decode cX8_runsTold 4 = .ok (.aload_n 0, 1) := by decide +kernel
theorem dX8_runsTold_5 : decode cX8_runsTold 5 = .ok (.invokevirtual 174, 3) := by decide +kernel
theorem dX8_runsTold_8 : decode cX8_runsTold 8 = .ok (.return_, 1) := by decide +kernel
theorem dX8_depthOf_0 : decode cX8_depthOf 0 = .ok (.aload_n 0, 1) := by decide +kernel
theorem dX8_depthOf_1 : decode cX8_depthOf 1 = .ok (.invokevirtual 177, 3) := by decide +kernel
theorem dX8_depthOf_4 : decode cX8_depthOf 4 = .ok (.aload_n 0, 1) := by decide +kernel
theorem dX8_depthOf_5 : decode cX8_depthOf 5 = .ok (.getfield 37, 3) := by decide +kernel
theorem dX8_depthOf_8 : decode cX8_depthOf 8 = .ok (.bipush 50, 2) := by decide +kernel
theorem dX8_depthOf_10 : decode cX8_depthOf 10 = .ok (.iload_n 2, 1) := by decide +kernel
theorem dX8_depthOf_11 : decode cX8_depthOf 11 = .ok (.imul, 1) := by decide +kernel
theorem dX8_depthOf_12 : decode cX8_depthOf 12 = .ok (.iload_n 1, 1) := by decide +kernel
theorem dX8_depthOf_13 : decode cX8_depthOf 13 = .ok (.iadd, 1) := by decide +kernel
theorem dX8_depthOf_14 : decode cX8_depthOf 14 = .ok (.iaload, 1) := by decide +kernel
theorem dX8_depthOf_15 : decode cX8_depthOf 15 = .ok (.ireturn, 1) := by decide +kernel
theorem dX8_depth_0 : decode cX8_depth 0 = .ok (.iload_n 1, 1) := by decide +kernel
theorem dX8_depth_1 : decode cX8_depth 1 = .ok (.invokestatic 180, 3) := by decide +kernel
theorem dX8_depth_4 : decode cX8_depth 4 = .ok (.ifCond .eq 20, 3) := by decide +kernel
theorem dX8_depth_7 : decode cX8_depth 7 = .ok (.aload_n 0, 1) := by decide +kernel
theorem dX8_depth_8 : decode cX8_depth 8 = .ok (.iload_n 2, 1) := by decide +kernel
theorem dX8_depth_9 : decode cX8_depth 9 = .ok (.invokevirtual 136, 3) := by decide +kernel
theorem dX8_depth_12 : decode cX8_depth 12 = .ok (.ifCond .eq 12, 3) := by decide +kernel
theorem dX8_depth_15 : decode cX8_depth 15 = .ok (.aload_n 0, 1) := by decide +kernel
theorem dX8_depth_16 : decode cX8_depth 16 = .ok (.iload_n 1, 1) := by decide +kernel
theorem dX8_depth_17 : decode cX8_depth 17 = .ok (.iload_n 2, 1) := by decide +kernel
theorem dX8_depth_18 : decode cX8_depth 18 = .ok (.invokevirtual 183, 3) := by decide +kernel
theorem dX8_depth_21 : decode cX8_depth 21 = .ok (.goto 5, 3) := by decide +kernel
theorem dX8_depth_24 : decode cX8_depth 24 = .ok (.bipush (-2), 2) := by decide +kernel
theorem dX8_depth_26 : decode cX8_depth 26 = .ok (.ireturn, 1) := by decide +kernel
theorem dX8_hearsOf_0 : decode cX8_hearsOf 0 = .ok (.aload_n 0, 1) := by decide +kernel
theorem dX8_hearsOf_1 : decode cX8_hearsOf 1 = .ok (.invokevirtual 177, 3) := by decide +kernel
theorem dX8_hearsOf_4 : decode cX8_hearsOf 4 = .ok (.iload_n 3, 1) := by decide +kernel
theorem dX8_hearsOf_5 : decode cX8_hearsOf 5 = .ok (.ifCond .ne 12, 3) := by decide +kernel
theorem dX8_hearsOf_8 : decode cX8_hearsOf 8 = .ok (.aload_n 0, 1) := by decide +kernel
theorem dX8_hearsOf_9 : decode cX8_hearsOf 9 = .ok (.iload_n 1, 1) := by decide +kernel
theorem dX8_hearsOf_10 : decode cX8_hearsOf 10 = .ok (.iload_n 2, 1) := by decide +kernel
theorem dX8_hearsOf_11 : decode cX8_hearsOf 11 = .ok (.invokevirtual 161, 3) := by decide +kernel
theorem dX8_hearsOf_14 : decode cX8_hearsOf 14 = .ok (.goto 41, 3) := by decide +kernel
theorem dX8_hearsOf_17 : decode cX8_hearsOf 17 = .ok (.iload_n 3, 1) := by decide +kernel
theorem dX8_hearsOf_18 : decode cX8_hearsOf 18 = .ok (.iconst 1, 1) := by decide +kernel
theorem dX8_hearsOf_19 : decode cX8_hearsOf 19 = .ok (.if_icmp .ne 17, 3) := by decide +kernel
theorem dX8_hearsOf_22 : decode cX8_hearsOf 22 = .ok (.aload_n 0, 1) := by decide +kernel
theorem dX8_hearsOf_23 : decode cX8_hearsOf 23 = .ok (.getfield 44, 3) := by decide +kernel
theorem dX8_hearsOf_26 : decode cX8_hearsOf 26 = .ok (.bipush 8, 2) := by decide +kernel
theorem dX8_hearsOf_28 : decode cX8_hearsOf 28 = .ok (.iload_n 1, 1) := by decide +kernel
theorem dX8_hearsOf_29 : decode cX8_hearsOf 29 = .ok (.imul, 1) := by decide +kernel
theorem dX8_hearsOf_30 : decode cX8_hearsOf 30 = .ok (.iload_n 2, 1) := by decide +kernel
theorem dX8_hearsOf_31 : decode cX8_hearsOf 31 = .ok (.iadd, 1) := by decide +kernel
theorem dX8_hearsOf_32 : decode cX8_hearsOf 32 = .ok (.iaload, 1) := by decide +kernel
theorem dX8_hearsOf_33 : decode cX8_hearsOf 33 = .ok (.goto 22, 3) := by decide +kernel
theorem dX8_hearsOf_36 : decode cX8_hearsOf 36 = .ok (.aload_n 0, 1) := by decide +kernel
theorem dX8_hearsOf_37 : decode cX8_hearsOf 37 = .ok (.getfield 47, 3) := by decide +kernel
theorem dX8_hearsOf_40 : decode cX8_hearsOf 40 = .ok (.bipush 8, 2) := by decide +kernel
theorem dX8_hearsOf_42 : decode cX8_hearsOf 42 = .ok (.iload_n 1, 1) := by decide +kernel
theorem dX8_hearsOf_43 : decode cX8_hearsOf 43 = .ok (.imul, 1) := by decide +kernel
theorem dX8_hearsOf_44 : decode cX8_hearsOf 44 = .ok (.iload_n 2, 1) := by decide +kernel
theorem dX8_hearsOf_45 : decode cX8_hearsOf 45 = .ok (.iadd, 1) := by decide +kernel
theorem dX8_hearsOf_46 : decode cX8_hearsOf 46 = .ok (.baload, 1) := by decide +kernel
theorem dX8_hearsOf_47 : decode cX8_hearsOf 47 = .ok (.ifCond .eq 7, 3) := by decide +kernel
theorem dX8_hearsOf_50 : decode cX8_hearsOf 50 = .ok (.iconst 1, 1) := by decide +kernel
theorem dX8_hearsOf_51 : decode cX8_hearsOf 51 = .ok (.goto 4, 3) := by decide +kernel
theorem dX8_hearsOf_54 : decode cX8_hearsOf 54 = .ok (.iconst 0, 1) := by decide +kernel
theorem dX8_hearsOf_55 : decode cX8_hearsOf 55 = .ok (.ireturn, 1) := by decide +kernel
theorem dX8_hears_0 : decode cX8_hears 0 = .ok (.aload_n 0, 1) := by decide +kernel
theorem dX8_hears_1 : decode cX8_hears 1 = .ok (.iload_n 1, 1) := by decide +kernel
theorem dX8_hears_2 : decode cX8_hears 2 = .ok (.invokevirtual 142, 3) := by decide +kernel
theorem dX8_hears_5 : decode cX8_hears 5 = .ok (.ifCond .eq 30, 3) := by decide +kernel
theorem dX8_hears_8 : decode cX8_hears 8 = .ok (.aload_n 0, 1) := by decide +kernel
theorem dX8_hears_9 : decode cX8_hears 9 = .ok (.iload_n 2, 1) := by decide +kernel
theorem dX8_hears_10 : decode cX8_hears 10 = .ok (.invokevirtual 136, 3) := by decide +kernel
theorem dX8_hears_13 : decode cX8_hears 13 = .ok (.ifCond .eq 22, 3) := by decide +kernel
theorem dX8_hears_16 : decode cX8_hears 16 = .ok (.iload_n 3, 1) := by decide +kernel
theorem dX8_hears_17 : decode cX8_hears 17 = .ok (.iconst 0, 1) := by decide +kernel
theorem dX8_hears_18 : decode cX8_hears 18 = .ok (.iconst 2, 1) := by decide +kernel
theorem dX8_hears_19 : decode cX8_hears 19 = .ok (.invokestatic 98, 3) := by decide +kernel
theorem dX8_hears_22 : decode cX8_hears 22 = .ok (.ifCond .eq 13, 3) := by decide +kernel
theorem dX8_hears_25 : decode cX8_hears 25 = .ok (.aload_n 0, 1) := by decide +kernel
theorem dX8_hears_26 : decode cX8_hears 26 = .ok (.iload_n 1, 1) := by decide +kernel
theorem dX8_hears_27 : decode cX8_hears 27 = .ok (.iload_n 2, 1) := by decide +kernel
theorem dX8_hears_28 : decode cX8_hears 28 = .ok (.iload_n 3, 1) := by decide +kernel
theorem dX8_hears_29 : decode cX8_hears 29 = .ok (.invokevirtual 186, 3) := by decide +kernel
theorem dX8_hears_32 : decode cX8_hears 32 = .ok (.goto 5, 3) := by decide +kernel
theorem dX8_hears_35 : decode cX8_hears 35 = .ok (.bipush (-2), 2) := by decide +kernel
theorem dX8_hears_37 : decode cX8_hears 37 = .ok (.ireturn, 1) := by decide +kernel
theorem dX8_whoNow_0 : decode cX8_whoNow 0 = .ok (.iconst 0, 1) := by decide +kernel
theorem dX8_whoNow_1 : decode cX8_whoNow 1 = .ok (.istore_n 2, 1) := by decide +kernel
theorem dX8_whoNow_2 : decode cX8_whoNow 2 = .ok (.iconst 0, 1) := by decide +kernel
theorem dX8_whoNow_3 : decode cX8_whoNow 3 = .ok (.istore_n 3, 1) := by decide +kernel
theorem dX8_whoNow_4 : decode cX8_whoNow 4 = .ok (.iload_n 3, 1) := by decide +kernel
theorem dX8_whoNow_5 : decode cX8_whoNow 5 = .ok (.aload_n 0, 1) := by decide +kernel
theorem dX8_whoNow_6 : decode cX8_whoNow 6 = .ok (.getfield 114, 3) := by decide +kernel
theorem dX8_whoNow_9 : decode cX8_whoNow 9 = .ok (.if_icmp .ge 33, 3) := by decide +kernel
theorem dX8_whoNow_12 : decode cX8_whoNow 12 = .ok (.iload_n 2, 1) := by decide +kernel
theorem dX8_whoNow_13 : decode cX8_whoNow 13 = .ok (.aload_n 0, 1) := by decide +kernel
theorem dX8_whoNow_14 : decode cX8_whoNow 14 = .ok (.getfield 47, 3) := by decide +kernel
theorem dX8_whoNow_17 : decode cX8_whoNow 17 = .ok (.bipush 8, 2) := by decide +kernel
theorem dX8_whoNow_19 : decode cX8_whoNow 19 = .ok (.iload_n 1, 1) := by decide +kernel
theorem dX8_whoNow_20 : decode cX8_whoNow 20 = .ok (.imul, 1) := by decide +kernel
theorem dX8_whoNow_21 : decode cX8_whoNow 21 = .ok (.iload_n 3, 1) := by decide +kernel
theorem dX8_whoNow_22 : decode cX8_whoNow 22 = .ok (.iadd, 1) := by decide +kernel
theorem dX8_whoNow_23 : decode cX8_whoNow 23 = .ok (.baload, 1) := by decide +kernel
theorem dX8_whoNow_24 : decode cX8_whoNow 24 = .ok (.ifCond .eq 9, 3) := by decide +kernel
theorem dX8_whoNow_27 : decode cX8_whoNow 27 = .ok (.iconst 1, 1) := by decide +kernel
theorem dX8_whoNow_28 : decode cX8_whoNow 28 = .ok (.iload_n 3, 1) := by decide +kernel
theorem dX8_whoNow_29 : decode cX8_whoNow 29 = .ok (.ishl, 1) := by decide +kernel
theorem dX8_whoNow_30 : decode cX8_whoNow 30 = .ok (.goto 4, 3) := by decide +kernel
theorem dX8_whoNow_33 : decode cX8_whoNow 33 = .ok (.iconst 0, 1) := by decide +kernel
theorem dX8_whoNow_34 : decode cX8_whoNow 34 = .ok (.ior, 1) := by decide +kernel
theorem dX8_whoNow_35 : decode cX8_whoNow 35 = .ok (.istore_n 2, 1) := by decide +kernel
theorem dX8_whoNow_36 : decode cX8_whoNow 36 = .ok (.iinc 3 1, 3) := by decide +kernel
theorem dX8_whoNow_39 : decode cX8_whoNow 39 = .ok (.goto (-35), 3) := by decide +kernel
theorem dX8_whoNow_42 : decode cX8_whoNow 42 = .ok (.iload_n 2, 1) := by decide +kernel
theorem dX8_whoNow_43 : decode cX8_whoNow 43 = .ok (.ireturn, 1) := by decide +kernel
theorem dX8_isProven_0 : decode cX8_isProven 0 = .ok (.aload_n 0, 1) := by decide +kernel
theorem dX8_isProven_1 : decode cX8_isProven 1 = .ok (.getfield 154, 3) := by decide +kernel
theorem dX8_isProven_4 : decode cX8_isProven 4 = .ok (.iload_n 1, 1) := by decide +kernel
theorem dX8_isProven_5 : decode cX8_isProven 5 = .ok (.invokestatic 157, 3) := by decide +kernel
theorem dX8_isProven_8 : decode cX8_isProven 8 = .ok (.ifCond .ne 22, 3) := by decide +kernel
theorem dX8_isProven_11 : decode cX8_isProven 11 = .ok (.aload_n 0, 1) := by decide +kernel
theorem dX8_isProven_12 : decode cX8_isProven 12 = .ok (.iload_n 1, 1) := by decide +kernel
theorem dX8_isProven_13 : decode cX8_isProven 13 = .ok (.invokevirtual 189, 3) := by decide +kernel
theorem dX8_isProven_16 : decode cX8_isProven 16 = .ok (.invokestatic 192, 3) := by decide +kernel
theorem dX8_isProven_19 : decode cX8_isProven 19 = .ok (.aload_n 0, 1) := by decide +kernel
theorem dX8_isProven_20 : decode cX8_isProven 20 = .ok (.getfield 93, 3) := by decide +kernel
theorem dX8_isProven_23 : decode cX8_isProven 23 = .ok (.if_icmp .lt 7, 3) := by decide +kernel
theorem dX8_isProven_26 : decode cX8_isProven 26 = .ok (.iconst 1, 1) := by decide +kernel
theorem dX8_isProven_27 : decode cX8_isProven 27 = .ok (.goto 4, 3) := by decide +kernel
theorem dX8_isProven_30 : decode cX8_isProven 30 = .ok (.iconst 0, 1) := by decide +kernel
theorem dX8_isProven_31 : decode cX8_isProven 31 = .ok (.ireturn, 1) := by decide +kernel
theorem dX8_proofOf_0 : decode cX8_proofOf 0 = .ok (.aload_n 0, 1) := by decide +kernel
theorem dX8_proofOf_1 : decode cX8_proofOf 1 = .ok (.invokevirtual 177, 3) := by decide +kernel
theorem dX8_proofOf_4 : decode cX8_proofOf 4 = .ok (.aload_n 0, 1) := by decide +kernel
theorem dX8_proofOf_5 : decode cX8_proofOf 5 = .ok (.iload_n 1, 1) := by decide +kernel
theorem dX8_proofOf_6 : decode cX8_proofOf 6 = .ok (.invokevirtual 189, 3) := by decide +kernel
theorem dX8_proofOf_9 : decode cX8_proofOf 9 = .ok (.invokestatic 192, 3) := by decide +kernel
theorem dX8_proofOf_12 : decode cX8_proofOf 12 = .ok (.istore_n 3, 1) := by decide +kernel
theorem dX8_proofOf_13 : decode cX8_proofOf 13 = .ok (.iload_n 2, 1) := by decide +kernel
theorem dX8_proofOf_14 : decode cX8_proofOf 14 = .ok (.ifCond .ne 11, 3) := by decide +kernel
theorem dX8_proofOf_17 : decode cX8_proofOf 17 = .ok (.aload_n 0, 1) := by decide +kernel
theorem dX8_proofOf_18 : decode cX8_proofOf 18 = .ok (.iload_n 1, 1) := by decide +kernel
theorem dX8_proofOf_19 : decode cX8_proofOf 19 = .ok (.invokevirtual 189, 3) := by decide +kernel
theorem dX8_proofOf_22 : decode cX8_proofOf 22 = .ok (.goto 42, 3) := by decide +kernel
theorem dX8_proofOf_25 : decode cX8_proofOf 25 = .ok (.iload_n 2, 1) := by decide +kernel
theorem dX8_proofOf_26 : decode cX8_proofOf 26 = .ok (.iconst 1, 1) := by decide +kernel
theorem dX8_proofOf_27 : decode cX8_proofOf 27 = .ok (.if_icmp .ne 19, 3) := by decide +kernel
theorem dX8_proofOf_30 : decode cX8_proofOf 30 = .ok (.iload_n 3, 1) := by decide +kernel
theorem dX8_proofOf_31 : decode cX8_proofOf 31 = .ok (.aload_n 0, 1) := by decide +kernel
theorem dX8_proofOf_32 : decode cX8_proofOf 32 = .ok (.getfield 93, 3) := by decide +kernel
theorem dX8_proofOf_35 : decode cX8_proofOf 35 = .ok (.if_icmp .lt 7, 3) := by decide +kernel
theorem dX8_proofOf_38 : decode cX8_proofOf 38 = .ok (.iconst 1, 1) := by decide +kernel
theorem dX8_proofOf_39 : decode cX8_proofOf 39 = .ok (.goto 25, 3) := by decide +kernel
theorem dX8_proofOf_42 : decode cX8_proofOf 42 = .ok (.iconst 0, 1) := by decide +kernel
theorem dX8_proofOf_43 : decode cX8_proofOf 43 = .ok (.goto 21, 3) := by decide +kernel
theorem dX8_proofOf_46 : decode cX8_proofOf 46 = .ok (.iload_n 3, 1) := by decide +kernel
theorem dX8_proofOf_47 : decode cX8_proofOf 47 = .ok (.aload_n 0, 1) := by decide +kernel
theorem dX8_proofOf_48 : decode cX8_proofOf 48 = .ok (.getfield 93, 3) := by decide +kernel
theorem dX8_proofOf_51 : decode cX8_proofOf 51 = .ok (.if_icmp .lt 7, 3) := by decide +kernel
theorem dX8_proofOf_54 : decode cX8_proofOf 54 = .ok (.iconst 0, 1) := by decide +kernel
theorem dX8_proofOf_55 : decode cX8_proofOf 55 = .ok (.goto 9, 3) := by decide +kernel
theorem dX8_proofOf_58 : decode cX8_proofOf 58 = .ok (.aload_n 0, 1) := by decide +kernel
theorem dX8_proofOf_59 : decode cX8_proofOf 59 = .ok (.getfield 93, 3) := by decide +kernel
theorem dX8_proofOf_62 : decode cX8_proofOf 62 = .ok (.iload_n 3, 1) := by decide +kernel
theorem dX8_proofOf_63 : decode cX8_proofOf 63 = .ok (.isub, 1) := by decide +kernel
theorem dX8_proofOf_64 : decode cX8_proofOf 64 = .ok (.ireturn, 1) := by decide +kernel
theorem dX8_proof_0 : decode cX8_proof 0 = .ok (.aload_n 0, 1) := by decide +kernel
theorem dX8_proof_1 : decode cX8_proof 1 = .ok (.iload_n 1, 1) := by decide +kernel
theorem dX8_proof_2 : decode cX8_proof 2 = .ok (.invokevirtual 142, 3) := by decide +kernel
theorem dX8_proof_5 : decode cX8_proof 5 = .ok (.ifCond .eq 21, 3) := by decide +kernel
theorem dX8_proof_8 : decode cX8_proof 8 = .ok (.iload_n 2, 1) := by decide +kernel
theorem dX8_proof_9 : decode cX8_proof 9 = .ok (.iconst 0, 1) := by decide +kernel
theorem dX8_proof_10 : decode cX8_proof 10 = .ok (.iconst 2, 1) := by decide +kernel
theorem dX8_proof_11 : decode cX8_proof 11 = .ok (.invokestatic 98, 3) := by decide +kernel
theorem dX8_proof_14 : decode cX8_proof 14 = .ok (.ifCond .eq 12, 3) := by decide +kernel
theorem dX8_proof_17 : decode cX8_proof 17 = .ok (.aload_n 0, 1) := by decide +kernel
theorem dX8_proof_18 : decode cX8_proof 18 = .ok (.iload_n 1, 1) := by decide +kernel
theorem dX8_proof_19 : decode cX8_proof 19 = .ok (.iload_n 2, 1) := by decide +kernel
theorem dX8_proof_20 : decode cX8_proof 20 = .ok (.invokevirtual 195, 3) := by decide +kernel
theorem dX8_proof_23 : decode cX8_proof 23 = .ok (.goto 5, 3) := by decide +kernel
theorem dX8_proof_26 : decode cX8_proof 26 = .ok (.bipush (-2), 2) := by decide +kernel
theorem dX8_proof_28 : decode cX8_proof 28 = .ok (.ireturn, 1) := by decide +kernel
theorem dX8_manyOf_0 : decode cX8_manyOf 0 = .ok (.iconst 0, 1) := by decide +kernel
theorem dX8_manyOf_1 : decode cX8_manyOf 1 = .ok (.istore_n 2, 1) := by decide +kernel
theorem dX8_manyOf_2 : decode cX8_manyOf 2 = .ok (.iconst 0, 1) := by decide +kernel
theorem dX8_manyOf_3 : decode cX8_manyOf 3 = .ok (.istore_n 3, 1) := by decide +kernel
theorem dX8_manyOf_4 : decode cX8_manyOf 4 = .ok (.iload_n 3, 1) := by decide +kernel
theorem dX8_manyOf_5 : decode cX8_manyOf 5 = .ok (.aload_n 0, 1) := by decide +kernel
theorem dX8_manyOf_6 : decode cX8_manyOf 6 = .ok (.getfield 117, 3) := by decide +kernel
theorem dX8_manyOf_9 : decode cX8_manyOf 9 = .ok (.if_icmp .ge 31, 3) := by decide +kernel
theorem dX8_manyOf_12 : decode cX8_manyOf 12 = .ok (.iload_n 2, 1) := by decide +kernel
theorem dX8_manyOf_13 : decode cX8_manyOf 13 = .ok (.aload_n 0, 1) := by decide +kernel
theorem dX8_manyOf_14 : decode cX8_manyOf 14 = .ok (.getfield 47, 3) := by decide +kernel
theorem dX8_manyOf_17 : decode cX8_manyOf 17 = .ok (.bipush 8, 2) := by decide +kernel
theorem dX8_manyOf_19 : decode cX8_manyOf 19 = .ok (.iload_n 3, 1) := by decide +kernel
theorem dX8_manyOf_20 : decode cX8_manyOf 20 = .ok (.imul, 1) := by decide +kernel
theorem dX8_manyOf_21 : decode cX8_manyOf 21 = .ok (.iload_n 1, 1) := by decide +kernel
theorem dX8_manyOf_22 : decode cX8_manyOf 22 = .ok (.iadd, 1) := by decide +kernel
theorem dX8_manyOf_23 : decode cX8_manyOf 23 = .ok (.baload, 1) := by decide +kernel
theorem dX8_manyOf_24 : decode cX8_manyOf 24 = .ok (.ifCond .eq 7, 3) := by decide +kernel
theorem dX8_manyOf_27 : decode cX8_manyOf 27 = .ok (.iconst 1, 1) := by decide +kernel
theorem dX8_manyOf_28 : decode cX8_manyOf 28 = .ok (.goto 4, 3) := by decide +kernel
theorem dX8_manyOf_31 : decode cX8_manyOf 31 = .ok (.iconst 0, 1) := by decide +kernel
theorem dX8_manyOf_32 : decode cX8_manyOf 32 = .ok (.iadd, 1) := by decide +kernel
theorem dX8_manyOf_33 : decode cX8_manyOf 33 = .ok (.istore_n 2, 1) := by decide +kernel
theorem dX8_manyOf_34 : decode cX8_manyOf 34 = .ok (.iinc 3 1, 3) := by decide +kernel
theorem dX8_manyOf_37 : decode cX8_manyOf 37 = .ok (.goto (-33), 3) := by decide +kernel
theorem dX8_manyOf_40 : decode cX8_manyOf 40 = .ok (.iload_n 2, 1) := by decide +kernel
theorem dX8_manyOf_41 : decode cX8_manyOf 41 = .ok (.ireturn, 1) := by decide +kernel
theorem dX8_nightsOf_0 : decode cX8_nightsOf 0 = .ok (.aload_n 0, 1) := by decide +kernel
theorem dX8_nightsOf_1 : decode cX8_nightsOf 1 = .ok (.invokevirtual 177, 3) := by decide +kernel
theorem dX8_nightsOf_4 : decode cX8_nightsOf 4 = .ok (.iload_n 2, 1) := by decide +kernel
theorem dX8_nightsOf_5 : decode cX8_nightsOf 5 = .ok (.ifCond .ne 12, 3) := by decide +kernel
theorem dX8_nightsOf_8 : decode cX8_nightsOf 8 = .ok (.aload_n 0, 1) := by decide +kernel
theorem dX8_nightsOf_9 : decode cX8_nightsOf 9 = .ok (.getfield 50, 3) := by decide +kernel
theorem dX8_nightsOf_12 : decode cX8_nightsOf 12 = .ok (.iload_n 1, 1) := by decide +kernel
theorem dX8_nightsOf_13 : decode cX8_nightsOf 13 = .ok (.iaload, 1) := by decide +kernel
theorem dX8_nightsOf_14 : decode cX8_nightsOf 14 = .ok (.goto 8, 3) := by decide +kernel
theorem dX8_nightsOf_17 : decode cX8_nightsOf 17 = .ok (.aload_n 0, 1) := by decide +kernel
theorem dX8_nightsOf_18 : decode cX8_nightsOf 18 = .ok (.iload_n 1, 1) := by decide +kernel
theorem dX8_nightsOf_19 : decode cX8_nightsOf 19 = .ok (.invokevirtual 198, 3) := by decide +kernel
theorem dX8_nightsOf_22 : decode cX8_nightsOf 22 = .ok (.ireturn, 1) := by decide +kernel
theorem dX8_nights_0 : decode cX8_nights 0 = .ok (.aload_n 0, 1) := by decide +kernel
theorem dX8_nights_1 : decode cX8_nights 1 = .ok (.iload_n 1, 1) := by decide +kernel
theorem dX8_nights_2 : decode cX8_nights 2 = .ok (.invokevirtual 136, 3) := by decide +kernel
theorem dX8_nights_5 : decode cX8_nights 5 = .ok (.ifCond .eq 21, 3) := by decide +kernel
theorem dX8_nights_8 : decode cX8_nights 8 = .ok (.iload_n 2, 1) := by decide +kernel
theorem dX8_nights_9 : decode cX8_nights 9 = .ok (.iconst 0, 1) := by decide +kernel
theorem dX8_nights_10 : decode cX8_nights 10 = .ok (.iconst 1, 1) := by decide +kernel
theorem dX8_nights_11 : decode cX8_nights 11 = .ok (.invokestatic 98, 3) := by decide +kernel
theorem dX8_nights_14 : decode cX8_nights 14 = .ok (.ifCond .eq 12, 3) := by decide +kernel
theorem dX8_nights_17 : decode cX8_nights 17 = .ok (.aload_n 0, 1) := by decide +kernel
theorem dX8_nights_18 : decode cX8_nights 18 = .ok (.iload_n 1, 1) := by decide +kernel
theorem dX8_nights_19 : decode cX8_nights 19 = .ok (.iload_n 2, 1) := by decide +kernel
theorem dX8_nights_20 : decode cX8_nights 20 = .ok (.invokevirtual 201, 3) := by decide +kernel
theorem dX8_nights_23 : decode cX8_nights 23 = .ok (.goto 5, 3) := by decide +kernel
theorem dX8_nights_26 : decode cX8_nights 26 = .ok (.bipush (-2), 2) := by decide +kernel
theorem dX8_nights_28 : decode cX8_nights 28 = .ok (.ireturn, 1) := by decide +kernel
theorem dX8_bestNow_0 : decode cX8_bestNow 0 = .ok (.aload_n 0, 1) := by decide +kernel
theorem dX8_bestNow_1 : decode cX8_bestNow 1 = .ok (.invokevirtual 177, 3) := by decide +kernel
theorem dX8_bestNow_4 : decode cX8_bestNow 4 = .ok (.iconst (-1), 1) := by decide +kernel
theorem dX8_bestNow_5 : decode cX8_bestNow 5 = .ok (.istore_n 1, 1) := by decide +kernel
theorem dX8_bestNow_6 : decode cX8_bestNow 6 = .ok (.iconst 0, 1) := by decide +kernel
theorem dX8_bestNow_7 : decode cX8_bestNow 7 = .ok (.istore_n 2, 1) := by decide +kernel
theorem dX8_bestNow_8 : decode cX8_bestNow 8 = .ok (.iload_n 2, 1) := by decide +kernel
theorem dX8_bestNow_9 : decode cX8_bestNow 9 = .ok (.aload_n 0, 1) := by decide +kernel
theorem dX8_bestNow_10 : decode cX8_bestNow 10 = .ok (.getfield 114, 3) := by decide +kernel
theorem dX8_bestNow_13 : decode cX8_bestNow 13 = .ok (.if_icmp .ge 33, 3) := by decide +kernel
theorem dX8_bestNow_16 : decode cX8_bestNow 16 = .ok (.iload_n 1, 1) := by decide +kernel
theorem dX8_bestNow_17 : decode cX8_bestNow 17 = .ok (.iconst (-1), 1) := by decide +kernel
theorem dX8_bestNow_18 : decode cX8_bestNow 18 = .ok (.if_icmp .eq 16, 3) := by decide +kernel
theorem dX8_bestNow_21 : decode cX8_bestNow 21 = .ok (.aload_n 0, 1) := by decide +kernel
theorem dX8_bestNow_22 : decode cX8_bestNow 22 = .ok (.iload_n 2, 1) := by decide +kernel
theorem dX8_bestNow_23 : decode cX8_bestNow 23 = .ok (.invokevirtual 198, 3) := by decide +kernel
theorem dX8_bestNow_26 : decode cX8_bestNow 26 = .ok (.aload_n 0, 1) := by decide +kernel
theorem dX8_bestNow_27 : decode cX8_bestNow 27 = .ok (.iload_n 1, 1) := by decide +kernel
theorem dX8_bestNow_28 : decode cX8_bestNow 28 = .ok (.invokevirtual 198, 3) := by decide +kernel
theorem dX8_bestNow_31 : decode cX8_bestNow 31 = .ok (.if_icmp .le 7, 3) := by decide +kernel
theorem dX8_bestNow_34 : decode cX8_bestNow 34 = .ok (.iload_n 2, 1) := by decide +kernel
theorem dX8_bestNow_35 : decode cX8_bestNow 35 = .ok (.goto 4, 3) := by decide +kernel
theorem dX8_bestNow_38 : decode cX8_bestNow 38 = .ok (.iload_n 1, 1) := by decide +kernel
theorem dX8_bestNow_39 : decode cX8_bestNow 39 = .ok (.istore_n 1, 1) := by decide +kernel
theorem dX8_bestNow_40 : decode cX8_bestNow 40 = .ok (.iinc 2 1, 3) := by decide +kernel
theorem dX8_bestNow_43 : decode cX8_bestNow 43 = .ok (.goto (-35), 3) := by decide +kernel
theorem dX8_bestNow_46 : decode cX8_bestNow 46 = .ok (.iload_n 1, 1) := by decide +kernel
theorem dX8_bestNow_47 : decode cX8_bestNow 47 = .ok (.ireturn, 1) := by decide +kernel
theorem dX8_best_0 : decode cX8_best 0 = .ok (.aload_n 0, 1) := by decide +kernel
theorem dX8_best_1 : decode cX8_best 1 = .ok (.invokevirtual 204, 3) := by decide +kernel
theorem dX8_best_4 : decode cX8_best 4 = .ok (.ireturn, 1) := by decide +kernel
theorem dX8_byAllNow_0 : decode cX8_byAllNow 0 = .ok (.aload_n 0, 1) := by decide +kernel
theorem dX8_byAllNow_1 : decode cX8_byAllNow 1 = .ok (.invokevirtual 177, 3) := by decide +kernel
theorem dX8_byAllNow_4 : decode cX8_byAllNow 4 = .ok (.iconst 0, 1) := by decide +kernel
theorem dX8_byAllNow_5 : decode cX8_byAllNow 5 = .ok (.istore_n 1, 1) := by decide +kernel
theorem dX8_byAllNow_6 : decode cX8_byAllNow 6 = .ok (.iload_n 1, 1) := by decide +kernel
theorem dX8_byAllNow_7 : decode cX8_byAllNow 7 = .ok (.aload_n 0, 1) := by decide +kernel
theorem dX8_byAllNow_8 : decode cX8_byAllNow 8 = .ok (.getfield 117, 3) := by decide +kernel
theorem dX8_byAllNow_11 : decode cX8_byAllNow 11 = .ok (.if_icmp .ge 69, 3) := by decide +kernel
theorem dX8_byAllNow_14 : decode cX8_byAllNow 14 = .ok (.aload_n 0, 1) := by decide +kernel
theorem dX8_byAllNow_15 : decode cX8_byAllNow 15 = .ok (.getfield 114, 3) := by decide +kernel
theorem dX8_byAllNow_18 : decode cX8_byAllNow 18 = .ok (.ifCond .le 62, 3) := by decide +kernel
theorem dX8_byAllNow_21 : decode cX8_byAllNow 21 = .ok (.iconst 1, 1) := by decide +kernel
theorem dX8_byAllNow_22 : decode cX8_byAllNow 22 = .ok (.istore_n 2, 1) := by decide +kernel
theorem dX8_byAllNow_23 : decode cX8_byAllNow 23 = .ok (.iconst 0, 1) := by decide +kernel
theorem dX8_byAllNow_24 : decode cX8_byAllNow 24 = .ok (.istore_n 3, 1) := by decide +kernel
theorem dX8_byAllNow_25 : decode cX8_byAllNow 25 = .ok (.iload_n 3, 1) := by decide +kernel
theorem dX8_byAllNow_26 : decode cX8_byAllNow 26 = .ok (.aload_n 0, 1) := by decide +kernel
theorem dX8_byAllNow_27 : decode cX8_byAllNow 27 = .ok (.getfield 114, 3) := by decide +kernel
theorem dX8_byAllNow_30 : decode cX8_byAllNow 30 = .ok (.if_icmp .ge 38, 3) := by decide +kernel
theorem dX8_byAllNow_33 : decode cX8_byAllNow 33 = .ok (.iload_n 2, 1) := by decide +kernel
theorem dX8_byAllNow_34 : decode cX8_byAllNow 34 = .ok (.ifCond .eq 26, 3) := by decide +kernel
theorem dX8_byAllNow_37 : decode cX8_byAllNow 37 = .ok (.aload_n 0, 1) := by decide +kernel
theorem dX8_byAllNow_38 : decode cX8_byAllNow 38 = .ok (.getfield 44, 3) := by decide +kernel
theorem dX8_byAllNow_41 : decode cX8_byAllNow 41 = .ok (.bipush 8, 2) := by decide +kernel
theorem dX8_byAllNow_43 : decode cX8_byAllNow 43 = .ok (.iload_n 1, 1) := by decide +kernel
theorem dX8_byAllNow_44 : decode cX8_byAllNow 44 = .ok (.imul, 1) := by decide +kernel
theorem dX8_byAllNow_45 : decode cX8_byAllNow 45 = .ok (.iload_n 3, 1) := by decide +kernel
theorem dX8_byAllNow_46 : decode cX8_byAllNow 46 = .ok (.iadd, 1) := by decide +kernel
theorem dX8_byAllNow_47 : decode cX8_byAllNow 47 = .ok (.iaload, 1) := by decide +kernel
theorem dX8_byAllNow_48 : decode cX8_byAllNow 48 = .ok (.iconst 1, 1) := by decide +kernel
theorem dX8_byAllNow_49 : decode cX8_byAllNow 49 = .ok (.iconst 2, 1) := by decide +kernel
theorem dX8_byAllNow_50 : decode cX8_byAllNow 50 = .ok (.invokestatic 98, 3) := by decide +kernel
theorem dX8_byAllNow_53 : decode cX8_byAllNow 53 = .ok (.ifCond .eq 7, 3) := by decide +kernel
theorem dX8_byAllNow_56 : decode cX8_byAllNow 56 = .ok (.iconst 1, 1) := by decide +kernel
theorem dX8_byAllNow_57 : decode cX8_byAllNow 57 = .ok (.goto 4, 3) := by decide +kernel
theorem dX8_byAllNow_60 : decode cX8_byAllNow 60 = .ok (.iconst 0, 1) := by decide +kernel
theorem dX8_byAllNow_61 : decode cX8_byAllNow 61 = .ok (.istore_n 2, 1) := by decide +kernel
theorem dX8_byAllNow_62 : decode cX8_byAllNow 62 = .ok (.iinc 3 1, 3) := by decide +kernel
theorem dX8_byAllNow_65 : decode cX8_byAllNow 65 = .ok (.goto (-40), 3) := by decide +kernel
theorem dX8_byAllNow_68 : decode cX8_byAllNow 68 = .ok (.iload_n 2, 1) := by decide +kernel
theorem dX8_byAllNow_69 : decode cX8_byAllNow 69 = .ok (.ifCond .eq 5, 3) := by decide +kernel
theorem dX8_byAllNow_72 : decode cX8_byAllNow 72 = .ok (.iload_n 1, 1) := by decide +kernel
theorem dX8_byAllNow_73 : decode cX8_byAllNow 73 = .ok (.ireturn, 1) := by decide +kernel
theorem dX8_byAllNow_74 : decode cX8_byAllNow 74 = .ok (.iinc 1 1, 3) := by decide +kernel
theorem dX8_byAllNow_77 : decode cX8_byAllNow 77 = .ok (.goto (-71), 3) := by decide +kernel
theorem dX8_byAllNow_80 : decode cX8_byAllNow 80 = .ok (.iconst (-1), 1) := by decide +kernel
theorem dX8_byAllNow_81 : decode cX8_byAllNow 81 = .ok (.ireturn, 1) := by decide +kernel
theorem dX8_byAll_0 : decode cX8_byAll 0 = .ok (.aload_n 0, 1) := by decide +kernel
theorem dX8_byAll_1 : decode cX8_byAll 1 = .ok (.invokevirtual 208, 3) := by decide +kernel
theorem dX8_byAll_4 : decode cX8_byAll 4 = .ok (.ireturn, 1) := by decide +kernel
theorem dX8_quietOf_0 : decode cX8_quietOf 0 = .ok (.aload_n 0, 1) := by decide +kernel
theorem dX8_quietOf_1 : decode cX8_quietOf 1 = .ok (.invokevirtual 171, 3) := by decide +kernel
theorem dX8_quietOf_4 : decode cX8_quietOf 4 = .ok (.aload_n 0, 1) := by decide +kernel
theorem dX8_quietOf_5 : decode cX8_quietOf 5 = .ok (.getfield 117, 3) := by decide +kernel
theorem dX8_quietOf_8 : decode cX8_quietOf 8 = .ok (.bipush 8, 2) := by decide +kernel
theorem dX8_quietOf_10 : decode cX8_quietOf 10 = .ok (.if_icmp .ne 6, 3) := by decide +kernel
theorem dX8_quietOf_13 : decode cX8_quietOf 13 = .ok (.bipush (-3), 2) := by decide +kernel
theorem dX8_quietOf_15 : decode cX8_quietOf 15 = .ok (.ireturn, 1) := by decide +kernel
theorem dX8_quietOf_16 : decode cX8_quietOf 16 = .ok (.iconst 0, 1) := by decide +kernel
theorem dX8_quietOf_17 : decode cX8_quietOf 17 = .ok (.istore 4, 2) := by decide +kernel
theorem dX8_quietOf_19 : decode cX8_quietOf 19 = .ok (.iconst (-1), 1) := by decide +kernel
theorem dX8_quietOf_20 : decode cX8_quietOf 20 = .ok (.istore 5, 2) := by decide +kernel
theorem dX8_quietOf_22 : decode cX8_quietOf 22 = .ok (.aload_n 0, 1) := by decide +kernel
theorem dX8_quietOf_23 : decode cX8_quietOf 23 = .ok (.getfield 117, 3) := by decide +kernel
theorem dX8_quietOf_26 : decode cX8_quietOf 26 = .ok (.istore 6, 2) := by decide +kernel
theorem dX8_quietOf_28 : decode cX8_quietOf 28 = .ok (.aload_n 0, 1) := by decide +kernel
theorem dX8_quietOf_29 : decode cX8_quietOf 29 = .ok (.dup, 1) := by decide +kernel
theorem dX8_quietOf_30 : decode cX8_quietOf 30 = .ok (.getfield 117, 3) := by decide +kernel
theorem dX8_quietOf_33 : decode cX8_quietOf 33 = .ok (.iconst 1, 1) := by decide +kernel
theorem dX8_quietOf_34 : decode cX8_quietOf 34 = .ok (.iadd, 1) := by decide +kernel
theorem dX8_quietOf_35 : decode cX8_quietOf 35 = .ok (.putfield 117, 3) := by decide +kernel
theorem dX8_quietOf_38 : decode cX8_quietOf 38 = .ok (.aload_n 0, 1) := by decide +kernel
theorem dX8_quietOf_39 : decode cX8_quietOf 39 = .ok (.getfield 31, 3) := by decide +kernel
theorem dX8_quietOf_42 : decode cX8_quietOf 42 = .ok (.iload 6, 2) := by decide +kernel
theorem dX8_quietOf_44 : decode cX8_quietOf 44 = .ok (.iload_n 1, 1) := by decide +kernel
theorem dX8_quietOf_45 : decode cX8_quietOf 45 = .ok (.iastore, 1) := by decide +kernel
theorem dX8_quietOf_46 : decode cX8_quietOf 46 = .ok (.aload_n 0, 1) := by decide +kernel
theorem dX8_quietOf_47 : decode cX8_quietOf 47 = .ok (.getfield 34, 3) := by decide +kernel
theorem dX8_quietOf_50 : decode cX8_quietOf 50 = .ok (.iload 6, 2) := by decide +kernel
theorem dX8_quietOf_52 : decode cX8_quietOf 52 = .ok (.iload_n 2, 1) := by decide +kernel
theorem dX8_quietOf_53 : decode cX8_quietOf 53 = .ok (.iastore, 1) := by decide +kernel
theorem dX8_quietOf_54 : decode cX8_quietOf 54 = .ok (.iconst 0, 1) := by decide +kernel
theorem dX8_quietOf_55 : decode cX8_quietOf 55 = .ok (.istore 7, 2) := by decide +kernel
theorem dX8_quietOf_57 : decode cX8_quietOf 57 = .ok (.iload 7, 2) := by decide +kernel
theorem dX8_quietOf_59 : decode cX8_quietOf 59 = .ok (.bipush 50, 2) := by decide +kernel
theorem dX8_quietOf_61 : decode cX8_quietOf 61 = .ok (.if_icmp .ge 73, 3) := by decide +kernel
theorem dX8_quietOf_64 : decode cX8_quietOf 64 = .ok (.aload_n 0, 1) := by decide +kernel
theorem dX8_quietOf_65 : decode cX8_quietOf 65 = .ok (.getfield 28, 3) := by decide +kernel
theorem dX8_quietOf_68 : decode cX8_quietOf 68 = .ok (.iload 6, 2) := by decide +kernel
theorem dX8_quietOf_70 : decode cX8_quietOf 70 = .ok (.iload 7, 2) := by decide +kernel
theorem dX8_quietOf_72 : decode cX8_quietOf 72 = .ok (.iastore, 1) := by decide +kernel
theorem dX8_quietOf_73 : decode cX8_quietOf 73 = .ok (.aload_n 0, 1) := by decide +kernel
theorem dX8_quietOf_74 : decode cX8_quietOf 74 = .ok (.invokevirtual 174, 3) := by decide +kernel
theorem dX8_quietOf_77 : decode cX8_quietOf 77 = .ok (.aload_n 0, 1) := by decide +kernel
theorem dX8_quietOf_78 : decode cX8_quietOf 78 = .ok (.iload 6, 2) := by decide +kernel
theorem dX8_quietOf_80 : decode cX8_quietOf 80 = .ok (.invokevirtual 211, 3) := by decide +kernel
theorem dX8_quietOf_83 : decode cX8_quietOf 83 = .ok (.ifCond .ne 7, 3) := by decide +kernel
theorem dX8_quietOf_86 : decode cX8_quietOf 86 = .ok (.iconst 1, 1) := by decide +kernel
theorem dX8_quietOf_87 : decode cX8_quietOf 87 = .ok (.goto 4, 3) := by decide +kernel
theorem dX8_quietOf_90 : decode cX8_quietOf 90 = .ok (.iconst 0, 1) := by decide +kernel
theorem dX8_quietOf_91 : decode cX8_quietOf 91 = .ok (.istore 8, 2) := by decide +kernel
theorem dX8_quietOf_93 : decode cX8_quietOf 93 = .ok (.iload 8, 2) := by decide +kernel
theorem dX8_quietOf_95 : decode cX8_quietOf 95 = .ok (.ifCond .eq 14, 3) := by decide +kernel
theorem dX8_quietOf_98 : decode cX8_quietOf 98 = .ok (.iload 4, 2) := by decide +kernel
theorem dX8_quietOf_100 : decode cX8_quietOf 100 = .ok (.iload_n 3, 1) := by decide +kernel
theorem dX8_quietOf_101 : decode cX8_quietOf 101 = .ok (.if_icmp .ne 8, 3) := by decide +kernel
theorem dX8_quietOf_104 : decode cX8_quietOf 104 = .ok (.iload 7, 2) := by decide +kernel
theorem dX8_quietOf_106 : decode cX8_quietOf 106 = .ok (.goto 5, 3) := by decide +kernel
theorem dX8_quietOf_109 : decode cX8_quietOf 109 = .ok (.iload 5, 2) := by decide +kernel
theorem dX8_quietOf_111 : decode cX8_quietOf 111 = .ok (.istore 5, 2) := by decide +kernel
theorem dX8_quietOf_113 : decode cX8_quietOf 113 = .ok (.iload 4, 2) := by decide +kernel
theorem dX8_quietOf_115 : decode cX8_quietOf 115 = .ok (.iload 8, 2) := by decide +kernel
theorem dX8_quietOf_117 : decode cX8_quietOf 117 = .ok (.ifCond .eq 7, 3) := by decide +kernel
theorem dX8_quietOf_120 : decode cX8_quietOf 120 = .ok (.iconst 1, 1) := by decide +kernel
theorem dX8_quietOf_121 : decode cX8_quietOf 121 = .ok (.goto 4, 3) := by decide +kernel
theorem dX8_quietOf_124 : decode cX8_quietOf 124 = .ok (.iconst 0, 1) := by decide +kernel
theorem dX8_quietOf_125 : decode cX8_quietOf 125 = .ok (.iadd, 1) := by decide +kernel
theorem dX8_quietOf_126 : decode cX8_quietOf 126 = .ok (.istore 4, 2) := by decide +kernel
theorem dX8_quietOf_128 : decode cX8_quietOf 128 = .ok (.iinc 7 1, 3) := by decide +kernel
theorem dX8_quietOf_131 : decode cX8_quietOf 131 = .ok (.goto (-74), 3) := by decide +kernel
theorem dX8_quietOf_134 : decode cX8_quietOf 134 = .ok (.aload_n 0, 1) := by decide +kernel
theorem dX8_quietOf_135 : decode cX8_quietOf 135 = .ok (.iload 6, 2) := by decide +kernel
theorem dX8_quietOf_137 : decode cX8_quietOf 137 = .ok (.putfield 117, 3) := by decide +kernel
theorem dX8_quietOf_140 : decode cX8_quietOf 140 = .ok (.iload_n 3, 1) := by decide +kernel
theorem dX8_quietOf_141 : decode cX8_quietOf 141 = .ok (.iconst (-1), 1) := by decide +kernel
theorem dX8_quietOf_142 : decode cX8_quietOf 142 = .ok (.if_icmp .ne 8, 3) := by decide +kernel
theorem dX8_quietOf_145 : decode cX8_quietOf 145 = .ok (.iload 4, 2) := by decide +kernel
theorem dX8_quietOf_147 : decode cX8_quietOf 147 = .ok (.goto 5, 3) := by decide +kernel
theorem dX8_quietOf_150 : decode cX8_quietOf 150 = .ok (.iload 5, 2) := by decide +kernel
theorem dX8_quietOf_152 : decode cX8_quietOf 152 = .ok (.ireturn, 1) := by decide +kernel
theorem dX8_quiet_0 : decode cX8_quiet 0 = .ok (.iload_n 1, 1) := by decide +kernel
theorem dX8_quiet_1 : decode cX8_quiet 1 = .ok (.iconst 0, 1) := by decide +kernel
theorem dX8_quiet_2 : decode cX8_quiet 2 = .ok (.bipush 9, 2) := by decide +kernel
theorem dX8_quiet_4 : decode cX8_quiet 4 = .ok (.invokestatic 98, 3) := by decide +kernel
theorem dX8_quiet_7 : decode cX8_quiet 7 = .ok (.ifCond .eq 32, 3) := by decide +kernel
theorem dX8_quiet_10 : decode cX8_quiet 10 = .ok (.iload_n 2, 1) := by decide +kernel
theorem dX8_quiet_11 : decode cX8_quiet 11 = .ok (.iconst 0, 1) := by decide +kernel
theorem dX8_quiet_12 : decode cX8_quiet 12 = .ok (.iconst 3, 1) := by decide +kernel
theorem dX8_quiet_13 : decode cX8_quiet 13 = .ok (.invokestatic 98, 3) := by decide +kernel
theorem dX8_quiet_16 : decode cX8_quiet 16 = .ok (.ifCond .eq 23, 3) := by decide +kernel
theorem dX8_quiet_19 : decode cX8_quiet 19 = .ok (.iload_n 3, 1) := by decide +kernel
theorem dX8_quiet_20 : decode cX8_quiet 20 = .ok (.iconst (-1), 1) := by decide +kernel
theorem dX8_quiet_21 : decode cX8_quiet 21 = .ok (.bipush 49, 2) := by decide +kernel
theorem dX8_quiet_23 : decode cX8_quiet 23 = .ok (.invokestatic 98, 3) := by decide +kernel
theorem dX8_quiet_26 : decode cX8_quiet 26 = .ok (.ifCond .eq 13, 3) := by decide +kernel
theorem dX8_quiet_29 : decode cX8_quiet 29 = .ok (.aload_n 0, 1) := by decide +kernel
theorem dX8_quiet_30 : decode cX8_quiet 30 = .ok (.iload_n 1, 1) := by decide +kernel
theorem dX8_quiet_31 : decode cX8_quiet 31 = .ok (.iload_n 2, 1) := by decide +kernel
theorem dX8_quiet_32 : decode cX8_quiet 32 = .ok (.iload_n 3, 1) := by decide +kernel
theorem dX8_quiet_33 : decode cX8_quiet 33 = .ok (.invokevirtual 214, 3) := by decide +kernel
theorem dX8_quiet_36 : decode cX8_quiet 36 = .ok (.goto 5, 3) := by decide +kernel
theorem dX8_quiet_39 : decode cX8_quiet 39 = .ok (.bipush (-2), 2) := by decide +kernel
theorem dX8_quiet_41 : decode cX8_quiet 41 = .ok (.ireturn, 1) := by decide +kernel
theorem dX8_provenNow_0 : decode cX8_provenNow 0 = .ok (.iconst 0, 1) := by decide +kernel
theorem dX8_provenNow_1 : decode cX8_provenNow 1 = .ok (.istore_n 1, 1) := by decide +kernel
theorem dX8_provenNow_2 : decode cX8_provenNow 2 = .ok (.iconst 0, 1) := by decide +kernel
theorem dX8_provenNow_3 : decode cX8_provenNow 3 = .ok (.istore_n 2, 1) := by decide +kernel
theorem dX8_provenNow_4 : decode cX8_provenNow 4 = .ok (.iload_n 2, 1) := by decide +kernel
theorem dX8_provenNow_5 : decode cX8_provenNow 5 = .ok (.aload_n 0, 1) := by decide +kernel
theorem dX8_provenNow_6 : decode cX8_provenNow 6 = .ok (.getfield 117, 3) := by decide +kernel
theorem dX8_provenNow_9 : decode cX8_provenNow 9 = .ok (.if_icmp .ge 25, 3) := by decide +kernel
theorem dX8_provenNow_12 : decode cX8_provenNow 12 = .ok (.iload_n 1, 1) := by decide +kernel
theorem dX8_provenNow_13 : decode cX8_provenNow 13 = .ok (.aload_n 0, 1) := by decide +kernel
theorem dX8_provenNow_14 : decode cX8_provenNow 14 = .ok (.iload_n 2, 1) := by decide +kernel
theorem dX8_provenNow_15 : decode cX8_provenNow 15 = .ok (.invokevirtual 211, 3) := by decide +kernel
theorem dX8_provenNow_18 : decode cX8_provenNow 18 = .ok (.ifCond .eq 7, 3) := by decide +kernel
theorem dX8_provenNow_21 : decode cX8_provenNow 21 = .ok (.iconst 1, 1) := by decide +kernel
theorem dX8_provenNow_22 : decode cX8_provenNow 22 = .ok (.goto 4, 3) := by decide +kernel
theorem dX8_provenNow_25 : decode cX8_provenNow 25 = .ok (.iconst 0, 1) := by decide +kernel
theorem dX8_provenNow_26 : decode cX8_provenNow 26 = .ok (.iadd, 1) := by decide +kernel
theorem dX8_provenNow_27 : decode cX8_provenNow 27 = .ok (.istore_n 1, 1) := by decide +kernel
theorem dX8_provenNow_28 : decode cX8_provenNow 28 = .ok (.iinc 2 1, 3) := by decide +kernel
theorem dX8_provenNow_31 : decode cX8_provenNow 31 = .ok (.goto (-27), 3) := by decide +kernel
theorem dX8_provenNow_34 : decode cX8_provenNow 34 = .ok (.iload_n 1, 1) := by decide +kernel
theorem dX8_provenNow_35 : decode cX8_provenNow 35 = .ok (.ireturn, 1) := by decide +kernel
theorem dX8_moveOf_0 : decode cX8_moveOf 0 = .ok (.aload_n 0, 1) := by decide +kernel
theorem dX8_moveOf_1 : decode cX8_moveOf 1 = .ok (.invokevirtual 171, 3) := by decide +kernel
theorem dX8_moveOf_4 : decode cX8_moveOf 4 = .ok (.aload_n 0, 1) := by decide +kernel
theorem dX8_moveOf_5 : decode cX8_moveOf 5 = .ok (.getfield 16, 3) := by decide +kernel
theorem dX8_moveOf_8 : decode cX8_moveOf 8 = .ok (.iload_n 1, 1) := by decide +kernel
theorem dX8_moveOf_9 : decode cX8_moveOf 9 = .ok (.iaload, 1) := by decide +kernel
theorem dX8_moveOf_10 : decode cX8_moveOf 10 = .ok (.istore_n 3, 1) := by decide +kernel
theorem dX8_moveOf_11 : decode cX8_moveOf 11 = .ok (.iconst (-1), 1) := by decide +kernel
theorem dX8_moveOf_12 : decode cX8_moveOf 12 = .ok (.istore 4, 2) := by decide +kernel
theorem dX8_moveOf_14 : decode cX8_moveOf 14 = .ok (.iconst (-1), 1) := by decide +kernel
theorem dX8_moveOf_15 : decode cX8_moveOf 15 = .ok (.istore 5, 2) := by decide +kernel
theorem dX8_moveOf_17 : decode cX8_moveOf 17 = .ok (.iconst 0, 1) := by decide +kernel
theorem dX8_moveOf_18 : decode cX8_moveOf 18 = .ok (.istore 6, 2) := by decide +kernel
theorem dX8_moveOf_20 : decode cX8_moveOf 20 = .ok (.iload 6, 2) := by decide +kernel
theorem dX8_moveOf_22 : decode cX8_moveOf 22 = .ok (.bipush 10, 2) := by decide +kernel
theorem dX8_moveOf_24 : decode cX8_moveOf 24 = .ok (.if_icmp .ge 59, 3) := by decide +kernel
theorem dX8_moveOf_27 : decode cX8_moveOf 27 = .ok (.aload_n 0, 1) := by decide +kernel
theorem dX8_moveOf_28 : decode cX8_moveOf 28 = .ok (.getfield 16, 3) := by decide +kernel
theorem dX8_moveOf_31 : decode cX8_moveOf 31 = .ok (.iload_n 1, 1) := by decide +kernel
theorem dX8_moveOf_32 : decode cX8_moveOf 32 = .ok (.iload 6, 2) := by decide +kernel
theorem dX8_moveOf_34 : decode cX8_moveOf 34 = .ok (.iastore, 1) := by decide +kernel
theorem dX8_moveOf_35 : decode cX8_moveOf 35 = .ok (.aload_n 0, 1) := by decide +kernel
theorem dX8_moveOf_36 : decode cX8_moveOf 36 = .ok (.invokevirtual 174, 3) := by decide +kernel
theorem dX8_moveOf_39 : decode cX8_moveOf 39 = .ok (.aload_n 0, 1) := by decide +kernel
theorem dX8_moveOf_40 : decode cX8_moveOf 40 = .ok (.invokevirtual 217, 3) := by decide +kernel
theorem dX8_moveOf_43 : decode cX8_moveOf 43 = .ok (.istore 7, 2) := by decide +kernel
theorem dX8_moveOf_45 : decode cX8_moveOf 45 = .ok (.iload 7, 2) := by decide +kernel
theorem dX8_moveOf_47 : decode cX8_moveOf 47 = .ok (.iload 5, 2) := by decide +kernel
theorem dX8_moveOf_49 : decode cX8_moveOf 49 = .ok (.if_icmp .le 8, 3) := by decide +kernel
theorem dX8_moveOf_52 : decode cX8_moveOf 52 = .ok (.iload 6, 2) := by decide +kernel
theorem dX8_moveOf_54 : decode cX8_moveOf 54 = .ok (.goto 5, 3) := by decide +kernel
theorem dX8_moveOf_57 : decode cX8_moveOf 57 = .ok (.iload 4, 2) := by decide +kernel
theorem dX8_moveOf_59 : decode cX8_moveOf 59 = .ok (.istore 4, 2) := by decide +kernel
theorem dX8_moveOf_61 : decode cX8_moveOf 61 = .ok (.iload 7, 2) := by decide +kernel
theorem dX8_moveOf_63 : decode cX8_moveOf 63 = .ok (.iload 5, 2) := by decide +kernel
theorem dX8_moveOf_65 : decode cX8_moveOf 65 = .ok (.if_icmp .le 8, 3) := by decide +kernel
theorem dX8_moveOf_68 : decode cX8_moveOf 68 = .ok (.iload 7, 2) := by decide +kernel
theorem dX8_moveOf_70 : decode cX8_moveOf 70 = .ok (.goto 5, 3) := by decide +kernel
theorem dX8_moveOf_73 : decode cX8_moveOf 73 = .ok (.iload 5, 2) := by decide +kernel
theorem dX8_moveOf_75 : decode cX8_moveOf 75 = .ok (.istore 5, 2) := by decide +kernel
theorem dX8_moveOf_77 : decode cX8_moveOf 77 = .ok (.iinc 6 1, 3) := by decide +kernel
theorem dX8_moveOf_80 : decode cX8_moveOf 80 = .ok (.goto (-60), 3) := by decide +kernel
theorem dX8_moveOf_83 : decode cX8_moveOf 83 = .ok (.aload_n 0, 1) := by decide +kernel
theorem dX8_moveOf_84 : decode cX8_moveOf 84 = .ok (.getfield 16, 3) := by decide +kernel
theorem dX8_moveOf_87 : decode cX8_moveOf 87 = .ok (.iload_n 1, 1) := by decide +kernel
theorem dX8_moveOf_88 : decode cX8_moveOf 88 = .ok (.iload_n 3, 1) := by decide +kernel
theorem dX8_moveOf_89 : decode cX8_moveOf 89 = .ok (.iastore, 1) := by decide +kernel
theorem dX8_moveOf_90 : decode cX8_moveOf 90 = .ok (.iload_n 2, 1) := by decide +kernel
theorem dX8_moveOf_91 : decode cX8_moveOf 91 = .ok (.ifCond .ne 8, 3) := by decide +kernel
theorem dX8_moveOf_94 : decode cX8_moveOf 94 = .ok (.iload 4, 2) := by decide +kernel
theorem dX8_moveOf_96 : decode cX8_moveOf 96 = .ok (.goto 5, 3) := by decide +kernel
theorem dX8_moveOf_99 : decode cX8_moveOf 99 = .ok (.iload 5, 2) := by decide +kernel
theorem dX8_moveOf_101 : decode cX8_moveOf 101 = .ok (.ireturn, 1) := by decide +kernel
theorem dX8_move_0 : decode cX8_move 0 = .ok (.aload_n 0, 1) := by decide +kernel
theorem dX8_move_1 : decode cX8_move 1 = .ok (.iload_n 1, 1) := by decide +kernel
theorem dX8_move_2 : decode cX8_move 2 = .ok (.invokevirtual 136, 3) := by decide +kernel
theorem dX8_move_5 : decode cX8_move 5 = .ok (.ifCond .eq 21, 3) := by decide +kernel
theorem dX8_move_8 : decode cX8_move 8 = .ok (.iload_n 2, 1) := by decide +kernel
theorem dX8_move_9 : decode cX8_move 9 = .ok (.iconst 0, 1) := by decide +kernel
theorem dX8_move_10 : decode cX8_move 10 = .ok (.iconst 1, 1) := by decide +kernel
theorem dX8_move_11 : decode cX8_move 11 = .ok (.invokestatic 98, 3) := by decide +kernel
theorem dX8_move_14 : decode cX8_move 14 = .ok (.ifCond .eq 12, 3) := by decide +kernel
theorem dX8_move_17 : decode cX8_move 17 = .ok (.aload_n 0, 1) := by decide +kernel
theorem dX8_move_18 : decode cX8_move 18 = .ok (.iload_n 1, 1) := by decide +kernel
theorem dX8_move_19 : decode cX8_move 19 = .ok (.iload_n 2, 1) := by decide +kernel
theorem dX8_move_20 : decode cX8_move 20 = .ok (.invokevirtual 220, 3) := by decide +kernel
theorem dX8_move_23 : decode cX8_move 23 = .ok (.goto 5, 3) := by decide +kernel
theorem dX8_move_26 : decode cX8_move 26 = .ok (.bipush (-2), 2) := by decide +kernel
theorem dX8_move_28 : decode cX8_move 28 = .ok (.ireturn, 1) := by decide +kernel
theorem dX8_isUnproven_0 : decode cX8_isUnproven 0 = .ok (.aload_n 0, 1) := by decide +kernel
theorem dX8_isUnproven_1 : decode cX8_isUnproven 1 = .ok (.iload_n 2, 1) := by decide +kernel
theorem dX8_isUnproven_2 : decode cX8_isUnproven 2 = .ok (.putfield 168, 3) := by decide +kernel
theorem dX8_isUnproven_5 : decode cX8_isUnproven 5 = .ok (.aload_n 0, 1) := by decide +kernel
theorem dX8_isUnproven_6 : decode cX8_isUnproven 6 = .ok (.invokevirtual 174, 3) := by decide +kernel
theorem dX8_isUnproven_9 : decode cX8_isUnproven 9 = .ok (.aload_n 0, 1) := by decide +kernel
theorem dX8_isUnproven_10 : decode cX8_isUnproven 10 = .ok (.iload_n 1, 1) := by decide +kernel
theorem dX8_isUnproven_11 : decode cX8_isUnproven 11 = .ok (.invokevirtual 211, 3) := by decide +kernel
theorem dX8_isUnproven_14 : decode cX8_isUnproven 14 = .ok (.ifCond .ne 7, 3) := by decide +kernel
theorem dX8_isUnproven_17 : decode cX8_isUnproven 17 = .ok (.iconst 1, 1) := by decide +kernel
theorem dX8_isUnproven_18 : decode cX8_isUnproven 18 = .ok (.goto 4, 3) := by decide +kernel
theorem dX8_isUnproven_21 : decode cX8_isUnproven 21 = .ok (.iconst 0, 1) := by decide +kernel
theorem dX8_isUnproven_22 : decode cX8_isUnproven 22 = .ok (.ireturn, 1) := by decide +kernel
theorem dX8_needBy_0 : decode cX8_needBy 0 = .ok (.aload_n 0, 1) := by decide +kernel
theorem dX8_needBy_1 : decode cX8_needBy 1 = .ok (.invokevirtual 171, 3) := by decide +kernel
theorem dX8_needBy_4 : decode cX8_needBy 4 = .ok (.aload_n 0, 1) := by decide +kernel
theorem dX8_needBy_5 : decode cX8_needBy 5 = .ok (.iload_n 1, 1) := by decide +kernel
theorem dX8_needBy_6 : decode cX8_needBy 6 = .ok (.iconst 0, 1) := by decide +kernel
theorem dX8_needBy_7 : decode cX8_needBy 7 = .ok (.invokevirtual 223, 3) := by decide +kernel
theorem dX8_needBy_10 : decode cX8_needBy 10 = .ok (.ifCond .eq 5, 3) := by decide +kernel
theorem dX8_needBy_13 : decode cX8_needBy 13 = .ok (.iconst 0, 1) := by decide +kernel
theorem dX8_needBy_14 : decode cX8_needBy 14 = .ok (.ireturn, 1) := by decide +kernel
theorem dX8_needBy_15 : decode cX8_needBy 15 = .ok (.iconst 0, 1) := by decide +kernel
theorem dX8_needBy_16 : decode cX8_needBy 16 = .ok (.istore_n 2, 1) := by decide +kernel
theorem dX8_needBy_17 : decode cX8_needBy 17 = .ok (.iload_n 2, 1) := by decide +kernel
theorem dX8_needBy_18 : decode cX8_needBy 18 = .ok (.aload_n 0, 1) := by decide +kernel
theorem dX8_needBy_19 : decode cX8_needBy 19 = .ok (.getfield 114, 3) := by decide +kernel
theorem dX8_needBy_22 : decode cX8_needBy 22 = .ok (.if_icmp .ge 29, 3) := by decide +kernel
theorem dX8_needBy_25 : decode cX8_needBy 25 = .ok (.aload_n 0, 1) := by decide +kernel
theorem dX8_needBy_26 : decode cX8_needBy 26 = .ok (.getfield 53, 3) := by decide +kernel
theorem dX8_needBy_29 : decode cX8_needBy 29 = .ok (.iconst 0, 1) := by decide +kernel
theorem dX8_needBy_30 : decode cX8_needBy 30 = .ok (.iload_n 2, 1) := by decide +kernel
theorem dX8_needBy_31 : decode cX8_needBy 31 = .ok (.iastore, 1) := by decide +kernel
theorem dX8_needBy_32 : decode cX8_needBy 32 = .ok (.aload_n 0, 1) := by decide +kernel
theorem dX8_needBy_33 : decode cX8_needBy 33 = .ok (.iload_n 1, 1) := by decide +kernel
theorem dX8_needBy_34 : decode cX8_needBy 34 = .ok (.iconst 1, 1) := by decide +kernel
theorem dX8_needBy_35 : decode cX8_needBy 35 = .ok (.iload_n 2, 1) := by decide +kernel
theorem dX8_needBy_36 : decode cX8_needBy 36 = .ok (.ishl, 1) := by decide +kernel
theorem dX8_needBy_37 : decode cX8_needBy 37 = .ok (.invokevirtual 223, 3) := by decide +kernel
theorem dX8_needBy_40 : decode cX8_needBy 40 = .ok (.ifCond .eq 5, 3) := by decide +kernel
theorem dX8_needBy_43 : decode cX8_needBy 43 = .ok (.iconst 1, 1) := by decide +kernel
theorem dX8_needBy_44 : decode cX8_needBy 44 = .ok (.ireturn, 1) := by decide +kernel
theorem dX8_needBy_45 : decode cX8_needBy 45 = .ok (.iinc 2 1, 3) := by decide +kernel
theorem dX8_needBy_48 : decode cX8_needBy 48 = .ok (.goto (-31), 3) := by decide +kernel
theorem dX8_needBy_51 : decode cX8_needBy 51 = .ok (.iconst 0, 1) := by decide +kernel
theorem dX8_needBy_52 : decode cX8_needBy 52 = .ok (.istore_n 2, 1) := by decide +kernel
theorem dX8_needBy_53 : decode cX8_needBy 53 = .ok (.iload_n 2, 1) := by decide +kernel
theorem dX8_needBy_54 : decode cX8_needBy 54 = .ok (.aload_n 0, 1) := by decide +kernel
theorem dX8_needBy_55 : decode cX8_needBy 55 = .ok (.getfield 114, 3) := by decide +kernel
theorem dX8_needBy_58 : decode cX8_needBy 58 = .ok (.if_icmp .ge 58, 3) := by decide +kernel
theorem dX8_needBy_61 : decode cX8_needBy 61 = .ok (.iload_n 2, 1) := by decide +kernel
theorem dX8_needBy_62 : decode cX8_needBy 62 = .ok (.iconst 1, 1) := by decide +kernel
theorem dX8_needBy_63 : decode cX8_needBy 63 = .ok (.iadd, 1) := by decide +kernel
theorem dX8_needBy_64 : decode cX8_needBy 64 = .ok (.istore_n 3, 1) := by decide +kernel
theorem dX8_needBy_65 : decode cX8_needBy 65 = .ok (.iload_n 3, 1) := by decide +kernel
theorem dX8_needBy_66 : decode cX8_needBy 66 = .ok (.aload_n 0, 1) := by decide +kernel
theorem dX8_needBy_67 : decode cX8_needBy 67 = .ok (.getfield 114, 3) := by decide +kernel
theorem dX8_needBy_70 : decode cX8_needBy 70 = .ok (.if_icmp .ge 40, 3) := by decide +kernel
theorem dX8_needBy_73 : decode cX8_needBy 73 = .ok (.aload_n 0, 1) := by decide +kernel
theorem dX8_needBy_74 : decode cX8_needBy 74 = .ok (.getfield 53, 3) := by decide +kernel
theorem dX8_needBy_77 : decode cX8_needBy 77 = .ok (.iconst 0, 1) := by decide +kernel
theorem dX8_needBy_78 : decode cX8_needBy 78 = .ok (.iload_n 2, 1) := by decide +kernel
theorem dX8_needBy_79 : decode cX8_needBy 79 = .ok (.iastore, 1) := by decide +kernel
theorem dX8_needBy_80 : decode cX8_needBy 80 = .ok (.aload_n 0, 1) := by decide +kernel
theorem dX8_needBy_81 : decode cX8_needBy 81 = .ok (.getfield 53, 3) := by decide +kernel
theorem dX8_needBy_84 : decode cX8_needBy 84 = .ok (.iconst 1, 1) := by decide +kernel
theorem dX8_needBy_85 : decode cX8_needBy 85 = .ok (.iload_n 3, 1) := by decide +kernel
theorem dX8_needBy_86 : decode cX8_needBy 86 = .ok (.iastore, 1) := by decide +kernel
theorem dX8_needBy_87 : decode cX8_needBy 87 = .ok (.aload_n 0, 1) := by decide +kernel
theorem dX8_needBy_88 : decode cX8_needBy 88 = .ok (.iload_n 1, 1) := by decide +kernel
theorem dX8_needBy_89 : decode cX8_needBy 89 = .ok (.iconst 1, 1) := by decide +kernel
theorem dX8_needBy_90 : decode cX8_needBy 90 = .ok (.iload_n 2, 1) := by decide +kernel
theorem dX8_needBy_91 : decode cX8_needBy 91 = .ok (.ishl, 1) := by decide +kernel
theorem dX8_needBy_92 : decode cX8_needBy 92 = .ok (.iconst 1, 1) := by decide +kernel
theorem dX8_needBy_93 : decode cX8_needBy 93 = .ok (.iload_n 3, 1) := by decide +kernel
theorem dX8_needBy_94 : decode cX8_needBy 94 = .ok (.ishl, 1) := by decide +kernel
theorem dX8_needBy_95 : decode cX8_needBy 95 = .ok (.ior, 1) := by decide +kernel
theorem dX8_needBy_96 : decode cX8_needBy 96 = .ok (.invokevirtual 223, 3) := by decide +kernel
theorem dX8_needBy_99 : decode cX8_needBy 99 = .ok (.ifCond .eq 5, 3) := by decide +kernel
theorem dX8_needBy_102 : decode cX8_needBy 102 = .ok (.iconst 2, 1) := by decide +kernel
theorem dX8_needBy_103 : decode cX8_needBy 103 = .ok (.ireturn, 1) := by decide +kernel
theorem dX8_needBy_104 : decode cX8_needBy 104 = .ok (.iinc 3 1, 3) := by decide +kernel
theorem dX8_needBy_107 : decode cX8_needBy 107 = .ok (.goto (-42), 3) := by decide +kernel
theorem dX8_needBy_110 : decode cX8_needBy 110 = .ok (.iinc 2 1, 3) := by decide +kernel
theorem dX8_needBy_113 : decode cX8_needBy 113 = .ok (.goto (-60), 3) := by decide +kernel
theorem dX8_needBy_116 : decode cX8_needBy 116 = .ok (.iconst (-1), 1) := by decide +kernel
theorem dX8_needBy_117 : decode cX8_needBy 117 = .ok (.ireturn, 1) := by decide +kernel
theorem dX8_ofRow_0 : decode cX8_ofRow 0 = .ok (.iload_n 2, 1) := by decide +kernel
theorem dX8_ofRow_1 : decode cX8_ofRow 1 = .ok (.iconst (-1), 1) := by decide +kernel
theorem dX8_ofRow_2 : decode cX8_ofRow 2 = .ok (.if_icmp .ne 7, 3) := by decide +kernel
theorem dX8_ofRow_5 : decode cX8_ofRow 5 = .ok (.iload_n 1, 1) := by decide +kernel
theorem dX8_ofRow_6 : decode cX8_ofRow 6 = .ok (.goto 18, 3) := by decide +kernel
theorem dX8_ofRow_9 : decode cX8_ofRow 9 = .ok (.iload_n 2, 1) := by decide +kernel
theorem dX8_ofRow_10 : decode cX8_ofRow 10 = .ok (.iload_n 1, 1) := by decide +kernel
theorem dX8_ofRow_11 : decode cX8_ofRow 11 = .ok (.if_icmp .ge 12, 3) := by decide +kernel
theorem dX8_ofRow_14 : decode cX8_ofRow 14 = .ok (.aload_n 0, 1) := by decide +kernel
theorem dX8_ofRow_15 : decode cX8_ofRow 15 = .ok (.getfield 53, 3) := by decide +kernel
theorem dX8_ofRow_18 : decode cX8_ofRow 18 = .ok (.iload_n 2, 1) := by decide +kernel
theorem dX8_ofRow_19 : decode cX8_ofRow 19 = .ok (.iaload, 1) := by decide +kernel
theorem dX8_ofRow_20 : decode cX8_ofRow 20 = .ok (.goto 4, 3) := by decide +kernel
theorem dX8_ofRow_23 : decode cX8_ofRow 23 = .ok (.iconst (-1), 1) := by decide +kernel
theorem dX8_ofRow_24 : decode cX8_ofRow 24 = .ok (.ireturn, 1) := by decide +kernel
theorem dX8_need_0 : decode cX8_need 0 = .ok (.aload_n 0, 1) := by decide +kernel
theorem dX8_need_1 : decode cX8_need 1 = .ok (.iload_n 1, 1) := by decide +kernel
theorem dX8_need_2 : decode cX8_need 2 = .ok (.invokevirtual 142, 3) := by decide +kernel
theorem dX8_need_5 : decode cX8_need 5 = .ok (.ifCond .eq 25, 3) := by decide +kernel
theorem dX8_need_8 : decode cX8_need 8 = .ok (.iload_n 2, 1) := by decide +kernel
theorem dX8_need_9 : decode cX8_need 9 = .ok (.iconst (-1), 1) := by decide +kernel
theorem dX8_need_10 : decode cX8_need 10 = .ok (.iconst 1, 1) := by decide +kernel
theorem dX8_need_11 : decode cX8_need 11 = .ok (.invokestatic 98, 3) := by decide +kernel
theorem dX8_need_14 : decode cX8_need 14 = .ok (.ifCond .eq 16, 3) := by decide +kernel
theorem dX8_need_17 : decode cX8_need 17 = .ok (.aload_n 0, 1) := by decide +kernel
theorem dX8_need_18 : decode cX8_need 18 = .ok (.aload_n 0, 1) := by decide +kernel
theorem dX8_need_19 : decode cX8_need 19 = .ok (.iload_n 1, 1) := by decide +kernel
theorem dX8_need_20 : decode cX8_need 20 = .ok (.invokevirtual 226, 3) := by decide +kernel
theorem dX8_need_23 : decode cX8_need 23 = .ok (.iload_n 2, 1) := by decide +kernel
theorem dX8_need_24 : decode cX8_need 24 = .ok (.invokevirtual 229, 3) := by decide +kernel
theorem dX8_need_27 : decode cX8_need 27 = .ok (.goto 5, 3) := by decide +kernel
theorem dX8_need_30 : decode cX8_need 30 = .ok (.bipush (-2), 2) := by decide +kernel
theorem dX8_need_32 : decode cX8_need 32 = .ok (.ireturn, 1) := by decide +kernel
theorem dX8_feedOf_0 : decode cX8_feedOf 0 = .ok (.aload_n 0, 1) := by decide +kernel
theorem dX8_feedOf_1 : decode cX8_feedOf 1 = .ok (.invokevirtual 171, 3) := by decide +kernel
theorem dX8_feedOf_4 : decode cX8_feedOf 4 = .ok (.aload_n 0, 1) := by decide +kernel
theorem dX8_feedOf_5 : decode cX8_feedOf 5 = .ok (.getfield 22, 3) := by decide +kernel
theorem dX8_feedOf_8 : decode cX8_feedOf 8 = .ok (.iload_n 1, 1) := by decide +kernel
theorem dX8_feedOf_9 : decode cX8_feedOf 9 = .ok (.iaload, 1) := by decide +kernel
theorem dX8_feedOf_10 : decode cX8_feedOf 10 = .ok (.istore_n 3, 1) := by decide +kernel
theorem dX8_feedOf_11 : decode cX8_feedOf 11 = .ok (.iconst (-1), 1) := by decide +kernel
theorem dX8_feedOf_12 : decode cX8_feedOf 12 = .ok (.istore 4, 2) := by decide +kernel
theorem dX8_feedOf_14 : decode cX8_feedOf 14 = .ok (.iconst (-1), 1) := by decide +kernel
theorem dX8_feedOf_15 : decode cX8_feedOf 15 = .ok (.istore 5, 2) := by decide +kernel
theorem dX8_feedOf_17 : decode cX8_feedOf 17 = .ok (.iconst 0, 1) := by decide +kernel
theorem dX8_feedOf_18 : decode cX8_feedOf 18 = .ok (.istore 6, 2) := by decide +kernel
theorem dX8_feedOf_20 : decode cX8_feedOf 20 = .ok (.iload 6, 2) := by decide +kernel
theorem dX8_feedOf_22 : decode cX8_feedOf 22 = .ok (.iconst 4, 1) := by decide +kernel
theorem dX8_feedOf_23 : decode cX8_feedOf 23 = .ok (.if_icmp .ge 60, 3) := by decide +kernel
theorem dX8_feedOf_26 : decode cX8_feedOf 26 = .ok (.aload_n 0, 1) := by decide +kernel
theorem dX8_feedOf_27 : decode cX8_feedOf 27 = .ok (.getfield 22, 3) := by decide +kernel
theorem dX8_feedOf_30 : decode cX8_feedOf 30 = .ok (.iload_n 1, 1) := by decide +kernel
theorem dX8_feedOf_31 : decode cX8_feedOf 31 = .ok (.iload 6, 2) := by decide +kernel
theorem dX8_feedOf_33 : decode cX8_feedOf 33 = .ok (.iastore, 1) := by decide +kernel
theorem dX8_feedOf_34 : decode cX8_feedOf 34 = .ok (.aload_n 0, 1) := by decide +kernel
theorem dX8_feedOf_35 : decode cX8_feedOf 35 = .ok (.invokevirtual 174, 3) := by decide +kernel
theorem dX8_feedOf_38 : decode cX8_feedOf 38 = .ok (.aload_n 0, 1) := by decide +kernel
theorem dX8_feedOf_39 : decode cX8_feedOf 39 = .ok (.iload_n 1, 1) := by decide +kernel
theorem dX8_feedOf_40 : decode cX8_feedOf 40 = .ok (.invokevirtual 198, 3) := by decide +kernel
theorem dX8_feedOf_43 : decode cX8_feedOf 43 = .ok (.istore 7, 2) := by decide +kernel
theorem dX8_feedOf_45 : decode cX8_feedOf 45 = .ok (.iload 7, 2) := by decide +kernel
theorem dX8_feedOf_47 : decode cX8_feedOf 47 = .ok (.iload 5, 2) := by decide +kernel
theorem dX8_feedOf_49 : decode cX8_feedOf 49 = .ok (.if_icmp .le 8, 3) := by decide +kernel
theorem dX8_feedOf_52 : decode cX8_feedOf 52 = .ok (.iload 6, 2) := by decide +kernel
theorem dX8_feedOf_54 : decode cX8_feedOf 54 = .ok (.goto 5, 3) := by decide +kernel
theorem dX8_feedOf_57 : decode cX8_feedOf 57 = .ok (.iload 4, 2) := by decide +kernel
theorem dX8_feedOf_59 : decode cX8_feedOf 59 = .ok (.istore 4, 2) := by decide +kernel
theorem dX8_feedOf_61 : decode cX8_feedOf 61 = .ok (.iload 7, 2) := by decide +kernel
theorem dX8_feedOf_63 : decode cX8_feedOf 63 = .ok (.iload 5, 2) := by decide +kernel
theorem dX8_feedOf_65 : decode cX8_feedOf 65 = .ok (.if_icmp .le 8, 3) := by decide +kernel
theorem dX8_feedOf_68 : decode cX8_feedOf 68 = .ok (.iload 7, 2) := by decide +kernel
theorem dX8_feedOf_70 : decode cX8_feedOf 70 = .ok (.goto 5, 3) := by decide +kernel
theorem dX8_feedOf_73 : decode cX8_feedOf 73 = .ok (.iload 5, 2) := by decide +kernel
theorem dX8_feedOf_75 : decode cX8_feedOf 75 = .ok (.istore 5, 2) := by decide +kernel
theorem dX8_feedOf_77 : decode cX8_feedOf 77 = .ok (.iinc 6 1, 3) := by decide +kernel
theorem dX8_feedOf_80 : decode cX8_feedOf 80 = .ok (.goto (-60), 3) := by decide +kernel
theorem dX8_feedOf_83 : decode cX8_feedOf 83 = .ok (.aload_n 0, 1) := by decide +kernel
theorem dX8_feedOf_84 : decode cX8_feedOf 84 = .ok (.getfield 22, 3) := by decide +kernel
theorem dX8_feedOf_87 : decode cX8_feedOf 87 = .ok (.iload_n 1, 1) := by decide +kernel
theorem dX8_feedOf_88 : decode cX8_feedOf 88 = .ok (.iload_n 3, 1) := by decide +kernel
theorem dX8_feedOf_89 : decode cX8_feedOf 89 = .ok (.iastore, 1) := by decide +kernel
theorem dX8_feedOf_90 : decode cX8_feedOf 90 = .ok (.iload_n 2, 1) := by decide +kernel
theorem dX8_feedOf_91 : decode cX8_feedOf 91 = .ok (.ifCond .ne 8, 3) := by decide +kernel
theorem dX8_feedOf_94 : decode cX8_feedOf 94 = .ok (.iload 4, 2) := by decide +kernel
theorem dX8_feedOf_96 : decode cX8_feedOf 96 = .ok (.goto 5, 3) := by decide +kernel
theorem dX8_feedOf_99 : decode cX8_feedOf 99 = .ok (.iload 5, 2) := by decide +kernel
theorem dX8_feedOf_101 : decode cX8_feedOf 101 = .ok (.ireturn, 1) := by decide +kernel
theorem dX8_feed_0 : decode cX8_feed 0 = .ok (.aload_n 0, 1) := by decide +kernel
theorem dX8_feed_1 : decode cX8_feed 1 = .ok (.iload_n 1, 1) := by decide +kernel
theorem dX8_feed_2 : decode cX8_feed 2 = .ok (.invokevirtual 136, 3) := by decide +kernel
theorem dX8_feed_5 : decode cX8_feed 5 = .ok (.ifCond .eq 21, 3) := by decide +kernel
theorem dX8_feed_8 : decode cX8_feed 8 = .ok (.iload_n 2, 1) := by decide +kernel
theorem dX8_feed_9 : decode cX8_feed 9 = .ok (.iconst 0, 1) := by decide +kernel
theorem dX8_feed_10 : decode cX8_feed 10 = .ok (.iconst 1, 1) := by decide +kernel
theorem dX8_feed_11 : decode cX8_feed 11 = .ok (.invokestatic 98, 3) := by decide +kernel
theorem dX8_feed_14 : decode cX8_feed 14 = .ok (.ifCond .eq 12, 3) := by decide +kernel
theorem dX8_feed_17 : decode cX8_feed 17 = .ok (.aload_n 0, 1) := by decide +kernel
theorem dX8_feed_18 : decode cX8_feed 18 = .ok (.iload_n 1, 1) := by decide +kernel
theorem dX8_feed_19 : decode cX8_feed 19 = .ok (.iload_n 2, 1) := by decide +kernel
theorem dX8_feed_20 : decode cX8_feed 20 = .ok (.invokevirtual 232, 3) := by decide +kernel
theorem dX8_feed_23 : decode cX8_feed 23 = .ok (.goto 5, 3) := by decide +kernel
theorem dX8_feed_26 : decode cX8_feed 26 = .ok (.bipush (-2), 2) := by decide +kernel
theorem dX8_feed_28 : decode cX8_feed 28 = .ok (.ireturn, 1) := by decide +kernel
theorem dX8_told_0 : decode cX8_told 0 = .ok (.iload_n 1, 1) := by decide +kernel
theorem dX8_told_1 : decode cX8_told 1 = .ok (.iconst 0, 1) := by decide +kernel
theorem dX8_told_2 : decode cX8_told 2 = .ok (.bipush 7, 2) := by decide +kernel
theorem dX8_told_4 : decode cX8_told 4 = .ok (.invokestatic 98, 3) := by decide +kernel
theorem dX8_told_7 : decode cX8_told 7 = .ok (.ifCond .eq 22, 3) := by decide +kernel
theorem dX8_told_10 : decode cX8_told 10 = .ok (.iload_n 2, 1) := by decide +kernel
theorem dX8_told_11 : decode cX8_told 11 = .ok (.iconst 0, 1) := by decide +kernel
theorem dX8_told_12 : decode cX8_told 12 = .ok (.iconst 3, 1) := by decide +kernel
theorem dX8_told_13 : decode cX8_told 13 = .ok (.invokestatic 98, 3) := by decide +kernel
theorem dX8_told_16 : decode cX8_told 16 = .ok (.ifCond .eq 13, 3) := by decide +kernel
theorem dX8_told_19 : decode cX8_told 19 = .ok (.iload_n 3, 1) := by decide +kernel
theorem dX8_told_20 : decode cX8_told 20 = .ok (.iconst 0, 1) := by decide +kernel
theorem dX8_told_21 : decode cX8_told 21 = .ok (.bipush 8, 2) := by decide +kernel
theorem dX8_told_23 : decode cX8_told 23 = .ok (.invokestatic 98, 3) := by decide +kernel
theorem dX8_told_26 : decode cX8_told 26 = .ok (.ifCond .ne 6, 3) := by decide +kernel
theorem dX8_told_29 : decode cX8_told 29 = .ok (.bipush (-2), 2) := by decide +kernel
theorem dX8_told_31 : decode cX8_told 31 = .ok (.ireturn, 1) := by decide +kernel
theorem dX8_told_32 : decode cX8_told 32 = .ok (.aload_n 0, 1) := by decide +kernel
theorem dX8_told_33 : decode cX8_told 33 = .ok (.getfield 235, 3) := by decide +kernel
theorem dX8_told_36 : decode cX8_told 36 = .ok (.bipush 8, 2) := by decide +kernel
theorem dX8_told_38 : decode cX8_told 38 = .ok (.if_icmp .ne 6, 3) := by decide +kernel
theorem dX8_told_41 : decode cX8_told 41 = .ok (.bipush (-4), 2) := by decide +kernel
theorem dX8_told_43 : decode cX8_told 43 = .ok (.ireturn, 1) := by decide +kernel
theorem dX8_told_44 : decode cX8_told 44 = .ok (.aload_n 0, 1) := by decide +kernel
theorem dX8_told_45 : decode cX8_told 45 = .ok (.getfield 56, 3) := by decide +kernel
theorem dX8_told_48 : decode cX8_told 48 = .ok (.aload_n 0, 1) := by decide +kernel
theorem dX8_told_49 : decode cX8_told 49 = .ok (.getfield 235, 3) := by decide +kernel
theorem dX8_told_52 : decode cX8_told 52 = .ok (.iload_n 1, 1) := by decide +kernel
theorem dX8_told_53 : decode cX8_told 53 = .ok (.iastore, 1) := by decide +kernel
theorem dX8_told_54 : decode cX8_told 54 = .ok (.aload_n 0, 1) := by decide +kernel
theorem dX8_told_55 : decode cX8_told 55 = .ok (.getfield 59, 3) := by decide +kernel
theorem dX8_told_58 : decode cX8_told 58 = .ok (.aload_n 0, 1) := by decide +kernel
theorem dX8_told_59 : decode cX8_told 59 = .ok (.getfield 235, 3) := by decide +kernel
theorem dX8_told_62 : decode cX8_told 62 = .ok (.iload_n 2, 1) := by decide +kernel
theorem dX8_told_63 : decode cX8_told 63 = .ok (.iastore, 1) := by decide +kernel
theorem dX8_told_64 : decode cX8_told 64 = .ok (.aload_n 0, 1) := by decide +kernel
theorem dX8_told_65 : decode cX8_told 65 = .ok (.getfield 62, 3) := by decide +kernel
theorem dX8_told_68 : decode cX8_told 68 = .ok (.aload_n 0, 1) := by decide +kernel
theorem dX8_told_69 : decode cX8_told 69 = .ok (.getfield 235, 3) := by decide +kernel
theorem dX8_told_72 : decode cX8_told 72 = .ok (.iload_n 3, 1) := by decide +kernel
theorem dX8_told_73 : decode cX8_told 73 = .ok (.iastore, 1) := by decide +kernel
theorem dX8_told_74 : decode cX8_told 74 = .ok (.aload_n 0, 1) := by decide +kernel
theorem dX8_told_75 : decode cX8_told 75 = .ok (.dup, 1) := by decide +kernel
theorem dX8_told_76 : decode cX8_told 76 = .ok (.getfield 235, 3) := by decide +kernel
theorem dX8_told_79 : decode cX8_told 79 = .ok (.iconst 1, 1) := by decide +kernel
theorem dX8_told_80 : decode cX8_told 80 = .ok (.iadd, 1) := by decide +kernel
theorem dX8_told_81 : decode cX8_told 81 = .ok (.putfield 235, 3) := by decide +kernel
theorem dX8_told_84 : decode cX8_told 84 = .ok (.aload_n 0, 1) := by decide +kernel
theorem dX8_told_85 : decode cX8_told 85 = .ok (.getfield 235, 3) := by decide +kernel
theorem dX8_told_88 : decode cX8_told 88 = .ok (.ireturn, 1) := by decide +kernel
theorem dX8_forget_0 : decode cX8_forget 0 = .ok (.aload_n 0, 1) := by decide +kernel
theorem dX8_forget_1 : decode cX8_forget 1 = .ok (.getfield 235, 3) := by decide +kernel
theorem dX8_forget_4 : decode cX8_forget 4 = .ok (.istore_n 1, 1) := by decide +kernel
theorem dX8_forget_5 : decode cX8_forget 5 = .ok (.aload_n 0, 1) := by decide +kernel
theorem dX8_forget_6 : decode cX8_forget 6 = .ok (.iconst 0, 1) := by decide +kernel
theorem dX8_forget_7 : decode cX8_forget 7 = .ok (.putfield 235, 3) := by decide +kernel
theorem dX8_forget_10 : decode cX8_forget 10 = .ok (.iload_n 1, 1) := by decide +kernel
theorem dX8_forget_11 : decode cX8_forget 11 = .ok (.ireturn, 1) := by decide +kernel
theorem dX8_read_0 : decode cX8_read 0 = .ok (.iload_n 1, 1) := by decide +kernel
theorem dX8_read_1 : decode cX8_read 1 = .ok (.invokestatic 238, 3) := by decide +kernel
theorem dX8_read_4 : decode cX8_read 4 = .ok (.ifCond .ne 6, 3) := by decide +kernel
theorem dX8_read_7 : decode cX8_read 7 = .ok (.bipush (-2), 2) := by decide +kernel
theorem dX8_read_9 : decode cX8_read 9 = .ok (.ireturn, 1) := by decide +kernel
theorem dX8_read_10 : decode cX8_read 10 = .ok (.aload_n 0, 1) := by decide +kernel
theorem dX8_read_11 : decode cX8_read 11 = .ok (.getfield 71, 3) := by decide +kernel
theorem dX8_read_14 : decode cX8_read 14 = .ok (.iload_n 1, 1) := by decide +kernel
theorem dX8_read_15 : decode cX8_read 15 = .ok (.baload, 1) := by decide +kernel
theorem dX8_read_16 : decode cX8_read 16 = .ok (.ifCond .ne 9, 3) := by decide +kernel
theorem dX8_read_19 : decode cX8_read 19 = .ok (.aload_n 0, 1) := by decide +kernel
theorem dX8_read_20 : decode cX8_read 20 = .ok (.iconst 1, 1) := by decide +kernel
theorem dX8_read_21 : decode cX8_read 21 = .ok (.invokevirtual 241, 3) := by decide +kernel
theorem dX8_read_24 : decode cX8_read 24 = .ok (.ireturn, 1) := by decide +kernel
theorem dX8_read_25 : decode cX8_read 25 = .ok (.iconst 0, 1) := by decide +kernel
theorem dX8_read_26 : decode cX8_read 26 = .ok (.istore_n 2, 1) := by decide +kernel
theorem dX8_read_27 : decode cX8_read 27 = .ok (.iconst 3, 1) := by decide +kernel
theorem dX8_read_28 : decode cX8_read 28 = .ok (.iload_n 2, 1) := by decide +kernel
theorem dX8_read_29 : decode cX8_read 29 = .ok (.imul, 1) := by decide +kernel
theorem dX8_read_30 : decode cX8_read 30 = .ok (.iconst 2, 1) := by decide +kernel
theorem dX8_read_31 : decode cX8_read 31 = .ok (.iadd, 1) := by decide +kernel
theorem dX8_read_32 : decode cX8_read 32 = .ok (.aload_n 0, 1) := by decide +kernel
theorem dX8_read_33 : decode cX8_read 33 = .ok (.getfield 77, 3) := by decide +kernel
theorem dX8_read_36 : decode cX8_read 36 = .ok (.iload_n 1, 1) := by decide +kernel
theorem dX8_read_37 : decode cX8_read 37 = .ok (.iaload, 1) := by decide +kernel
theorem dX8_read_38 : decode cX8_read 38 = .ok (.if_icmp .ge 59, 3) := by decide +kernel
theorem dX8_read_41 : decode cX8_read 41 = .ok (.aload_n 0, 1) := by decide +kernel
theorem dX8_read_42 : decode cX8_read 42 = .ok (.aload_n 0, 1) := by decide +kernel
theorem dX8_read_43 : decode cX8_read 43 = .ok (.getfield 80, 3) := by decide +kernel
theorem dX8_read_46 : decode cX8_read 46 = .ok (.bipush 60, 2) := by decide +kernel
theorem dX8_read_48 : decode cX8_read 48 = .ok (.iload_n 1, 1) := by decide +kernel
theorem dX8_read_49 : decode cX8_read 49 = .ok (.imul, 1) := by decide +kernel
theorem dX8_read_50 : decode cX8_read 50 = .ok (.iconst 3, 1) := by decide +kernel
theorem dX8_read_51 : decode cX8_read 51 = .ok (.iload_n 2, 1) := by decide +kernel
theorem dX8_read_52 : decode cX8_read 52 = .ok (.imul, 1) := by decide +kernel
theorem dX8_read_53 : decode cX8_read 53 = .ok (.iadd, 1) := by decide +kernel
theorem dX8_read_54 : decode cX8_read 54 = .ok (.iaload, 1) := by decide +kernel
theorem dX8_read_55 : decode cX8_read 55 = .ok (.aload_n 0, 1) := by decide +kernel
theorem dX8_read_56 : decode cX8_read 56 = .ok (.getfield 80, 3) := by decide +kernel
theorem dX8_read_59 : decode cX8_read 59 = .ok (.bipush 60, 2) := by decide +kernel
theorem dX8_read_61 : decode cX8_read 61 = .ok (.iload_n 1, 1) := by decide +kernel
theorem dX8_read_62 : decode cX8_read 62 = .ok (.imul, 1) := by decide +kernel
theorem dX8_read_63 : decode cX8_read 63 = .ok (.iconst 3, 1) := by decide +kernel
theorem dX8_read_64 : decode cX8_read 64 = .ok (.iload_n 2, 1) := by decide +kernel
theorem dX8_read_65 : decode cX8_read 65 = .ok (.imul, 1) := by decide +kernel
theorem dX8_read_66 : decode cX8_read 66 = .ok (.iadd, 1) := by decide +kernel
theorem dX8_read_67 : decode cX8_read 67 = .ok (.iconst 1, 1) := by decide +kernel
theorem dX8_read_68 : decode cX8_read 68 = .ok (.iadd, 1) := by decide +kernel
theorem dX8_read_69 : decode cX8_read 69 = .ok (.iaload, 1) := by decide +kernel
theorem dX8_read_70 : decode cX8_read 70 = .ok (.aload_n 0, 1) := by decide +kernel
theorem dX8_read_71 : decode cX8_read 71 = .ok (.getfield 80, 3) := by decide +kernel
theorem dX8_read_74 : decode cX8_read 74 = .ok (.bipush 60, 2) := by decide +kernel
theorem dX8_read_76 : decode cX8_read 76 = .ok (.iload_n 1, 1) := by decide +kernel
theorem dX8_read_77 : decode cX8_read 77 = .ok (.imul, 1) := by decide +kernel
theorem dX8_read_78 : decode cX8_read 78 = .ok (.iconst 3, 1) := by decide +kernel
theorem dX8_read_79 : decode cX8_read 79 = .ok (.iload_n 2, 1) := by decide +kernel
theorem dX8_read_80 : decode cX8_read 80 = .ok (.imul, 1) := by decide +kernel
theorem dX8_read_81 : decode cX8_read 81 = .ok (.iadd, 1) := by decide +kernel
theorem dX8_read_82 : decode cX8_read 82 = .ok (.iconst 2, 1) := by decide +kernel
theorem dX8_read_83 : decode cX8_read 83 = .ok (.iadd, 1) := by decide +kernel
theorem dX8_read_84 : decode cX8_read 84 = .ok (.iaload, 1) := by decide +kernel
theorem dX8_read_85 : decode cX8_read 85 = .ok (.invokevirtual 244, 3) := by decide +kernel
theorem dX8_read_88 : decode cX8_read 88 = .ok (.ifCond .le 9, 3) := by decide +kernel
theorem dX8_read_91 : decode cX8_read 91 = .ok (.iinc 2 1, 3) := by decide +kernel
theorem dX8_read_94 : decode cX8_read 94 = .ok (.goto (-67), 3) := by decide +kernel
theorem dX8_read_97 : decode cX8_read 97 = .ok (.iload_n 2, 1) := by decide +kernel
theorem dX8_read_98 : decode cX8_read 98 = .ok (.ireturn, 1) := by decide +kernel
theorem dX8_marksOf_0 : decode cX8_marksOf 0 = .ok (.iconst 0, 1) := by decide +kernel
theorem dX8_marksOf_1 : decode cX8_marksOf 1 = .ok (.istore_n 3, 1) := by decide +kernel
theorem dX8_marksOf_2 : decode cX8_marksOf 2 = .ok (.iconst 0, 1) := by decide +kernel
theorem dX8_marksOf_3 : decode cX8_marksOf 3 = .ok (.istore 4, 2) := by decide +kernel
theorem dX8_marksOf_5 : decode cX8_marksOf 5 = .ok (.iload 4, 2) := by decide +kernel
theorem dX8_marksOf_7 : decode cX8_marksOf 7 = .ok (.aload_n 0, 1) := by decide +kernel
theorem dX8_marksOf_8 : decode cX8_marksOf 8 = .ok (.getfield 117, 3) := by decide +kernel
theorem dX8_marksOf_11 : decode cX8_marksOf 11 = .ok (.if_icmp .ge 49, 3) := by decide +kernel
theorem dX8_marksOf_14 : decode cX8_marksOf 14 = .ok (.iload_n 3, 1) := by decide +kernel
theorem dX8_marksOf_15 : decode cX8_marksOf 15 = .ok (.aload_n 0, 1) := by decide +kernel
theorem dX8_marksOf_16 : decode cX8_marksOf 16 = .ok (.getfield 44, 3) := by decide +kernel
theorem dX8_marksOf_19 : decode cX8_marksOf 19 = .ok (.bipush 8, 2) := by decide +kernel
theorem dX8_marksOf_21 : decode cX8_marksOf 21 = .ok (.iload 4, 2) := by decide +kernel
theorem dX8_marksOf_23 : decode cX8_marksOf 23 = .ok (.imul, 1) := by decide +kernel
theorem dX8_marksOf_24 : decode cX8_marksOf 24 = .ok (.iload_n 1, 1) := by decide +kernel
theorem dX8_marksOf_25 : decode cX8_marksOf 25 = .ok (.iadd, 1) := by decide +kernel
theorem dX8_marksOf_26 : decode cX8_marksOf 26 = .ok (.iaload, 1) := by decide +kernel
theorem dX8_marksOf_27 : decode cX8_marksOf 27 = .ok (.iconst 3, 1) := by decide +kernel
theorem dX8_marksOf_28 : decode cX8_marksOf 28 = .ok (.if_icmp .ne 23, 3) := by decide +kernel
theorem dX8_marksOf_31 : decode cX8_marksOf 31 = .ok (.iload_n 2, 1) := by decide +kernel
theorem dX8_marksOf_32 : decode cX8_marksOf 32 = .ok (.iconst (-1), 1) := by decide +kernel
theorem dX8_marksOf_33 : decode cX8_marksOf 33 = .ok (.if_icmp .eq 14, 3) := by decide +kernel
theorem dX8_marksOf_36 : decode cX8_marksOf 36 = .ok (.aload_n 0, 1) := by decide +kernel
theorem dX8_marksOf_37 : decode cX8_marksOf 37 = .ok (.getfield 34, 3) := by decide +kernel
theorem dX8_marksOf_40 : decode cX8_marksOf 40 = .ok (.iload 4, 2) := by decide +kernel
theorem dX8_marksOf_42 : decode cX8_marksOf 42 = .ok (.iaload, 1) := by decide +kernel
theorem dX8_marksOf_43 : decode cX8_marksOf 43 = .ok (.iload_n 2, 1) := by decide +kernel
theorem dX8_marksOf_44 : decode cX8_marksOf 44 = .ok (.if_icmp .ne 7, 3) := by decide +kernel
theorem dX8_marksOf_47 : decode cX8_marksOf 47 = .ok (.iconst 1, 1) := by decide +kernel
theorem dX8_marksOf_48 : decode cX8_marksOf 48 = .ok (.goto 4, 3) := by decide +kernel
theorem dX8_marksOf_51 : decode cX8_marksOf 51 = .ok (.iconst 0, 1) := by decide +kernel
theorem dX8_marksOf_52 : decode cX8_marksOf 52 = .ok (.iadd, 1) := by decide +kernel
theorem dX8_marksOf_53 : decode cX8_marksOf 53 = .ok (.istore_n 3, 1) := by decide +kernel
theorem dX8_marksOf_54 : decode cX8_marksOf 54 = .ok (.iinc 4 1, 3) := by decide +kernel
theorem dX8_marksOf_57 : decode cX8_marksOf 57 = .ok (.goto (-52), 3) := by decide +kernel
theorem dX8_marksOf_60 : decode cX8_marksOf 60 = .ok (.iload_n 3, 1) := by decide +kernel
theorem dX8_marksOf_61 : decode cX8_marksOf 61 = .ok (.ireturn, 1) := by decide +kernel
theorem dX8_isTold_0 : decode cX8_isTold 0 = .ok (.aload_n 0, 1) := by decide +kernel
theorem dX8_isTold_1 : decode cX8_isTold 1 = .ok (.invokevirtual 174, 3) := by decide +kernel
theorem dX8_isTold_4 : decode cX8_isTold 4 = .ok (.iconst 1, 1) := by decide +kernel
theorem dX8_isTold_5 : decode cX8_isTold 5 = .ok (.istore_n 1, 1) := by decide +kernel
theorem dX8_isTold_6 : decode cX8_isTold 6 = .ok (.iconst 0, 1) := by decide +kernel
theorem dX8_isTold_7 : decode cX8_isTold 7 = .ok (.istore_n 2, 1) := by decide +kernel
theorem dX8_isTold_8 : decode cX8_isTold 8 = .ok (.iload_n 2, 1) := by decide +kernel
theorem dX8_isTold_9 : decode cX8_isTold 9 = .ok (.aload_n 0, 1) := by decide +kernel
theorem dX8_isTold_10 : decode cX8_isTold 10 = .ok (.getfield 235, 3) := by decide +kernel
theorem dX8_isTold_13 : decode cX8_isTold 13 = .ok (.if_icmp .ge 57, 3) := by decide +kernel
theorem dX8_isTold_16 : decode cX8_isTold 16 = .ok (.iload_n 1, 1) := by decide +kernel
theorem dX8_isTold_17 : decode cX8_isTold 17 = .ok (.ifCond .eq 53, 3) := by decide +kernel
theorem dX8_isTold_20 : decode cX8_isTold 20 = .ok (.aload_n 0, 1) := by decide +kernel
theorem dX8_isTold_21 : decode cX8_isTold 21 = .ok (.getfield 56, 3) := by decide +kernel
theorem dX8_isTold_24 : decode cX8_isTold 24 = .ok (.iload_n 2, 1) := by decide +kernel
theorem dX8_isTold_25 : decode cX8_isTold 25 = .ok (.iaload, 1) := by decide +kernel
theorem dX8_isTold_26 : decode cX8_isTold 26 = .ok (.aload_n 0, 1) := by decide +kernel
theorem dX8_isTold_27 : decode cX8_isTold 27 = .ok (.getfield 114, 3) := by decide +kernel
theorem dX8_isTold_30 : decode cX8_isTold 30 = .ok (.if_icmp .ge 32, 3) := by decide +kernel
theorem dX8_isTold_33 : decode cX8_isTold 33 = .ok (.aload_n 0, 1) := by decide +kernel
theorem dX8_isTold_34 : decode cX8_isTold 34 = .ok (.aload_n 0, 1) := by decide +kernel
theorem dX8_isTold_35 : decode cX8_isTold 35 = .ok (.getfield 56, 3) := by decide +kernel
theorem dX8_isTold_38 : decode cX8_isTold 38 = .ok (.iload_n 2, 1) := by decide +kernel
theorem dX8_isTold_39 : decode cX8_isTold 39 = .ok (.iaload, 1) := by decide +kernel
theorem dX8_isTold_40 : decode cX8_isTold 40 = .ok (.aload_n 0, 1) := by decide +kernel
theorem dX8_isTold_41 : decode cX8_isTold 41 = .ok (.getfield 59, 3) := by decide +kernel
theorem dX8_isTold_44 : decode cX8_isTold 44 = .ok (.iload_n 2, 1) := by decide +kernel
theorem dX8_isTold_45 : decode cX8_isTold 45 = .ok (.iaload, 1) := by decide +kernel
theorem dX8_isTold_46 : decode cX8_isTold 46 = .ok (.invokevirtual 247, 3) := by decide +kernel
theorem dX8_isTold_49 : decode cX8_isTold 49 = .ok (.aload_n 0, 1) := by decide +kernel
theorem dX8_isTold_50 : decode cX8_isTold 50 = .ok (.getfield 62, 3) := by decide +kernel
theorem dX8_isTold_53 : decode cX8_isTold 53 = .ok (.iload_n 2, 1) := by decide +kernel
theorem dX8_isTold_54 : decode cX8_isTold 54 = .ok (.iaload, 1) := by decide +kernel
theorem dX8_isTold_55 : decode cX8_isTold 55 = .ok (.if_icmp .ne 7, 3) := by decide +kernel
theorem dX8_isTold_58 : decode cX8_isTold 58 = .ok (.iconst 1, 1) := by decide +kernel
theorem dX8_isTold_59 : decode cX8_isTold 59 = .ok (.goto 4, 3) := by decide +kernel
theorem dX8_isTold_62 : decode cX8_isTold 62 = .ok (.iconst 0, 1) := by decide +kernel
theorem dX8_isTold_63 : decode cX8_isTold 63 = .ok (.istore_n 1, 1) := by decide +kernel
theorem dX8_isTold_64 : decode cX8_isTold 64 = .ok (.iinc 2 1, 3) := by decide +kernel
theorem dX8_isTold_67 : decode cX8_isTold 67 = .ok (.goto (-59), 3) := by decide +kernel
theorem dX8_isTold_70 : decode cX8_isTold 70 = .ok (.iload_n 1, 1) := by decide +kernel
theorem dX8_isTold_71 : decode cX8_isTold 71 = .ok (.ireturn, 1) := by decide +kernel
theorem dX8_neverNow_0 : decode cX8_neverNow 0 = .ok (.aload_n 0, 1) := by decide +kernel
theorem dX8_neverNow_1 : decode cX8_neverNow 1 = .ok (.invokevirtual 171, 3) := by decide +kernel
theorem dX8_neverNow_4 : decode cX8_neverNow 4 = .ok (.iconst 0, 1) := by decide +kernel
theorem dX8_neverNow_5 : decode cX8_neverNow 5 = .ok (.istore_n 1, 1) := by decide +kernel
theorem dX8_neverNow_6 : decode cX8_neverNow 6 = .ok (.iconst 0, 1) := by decide +kernel
theorem dX8_neverNow_7 : decode cX8_neverNow 7 = .ok (.istore_n 2, 1) := by decide +kernel
theorem dX8_neverNow_8 : decode cX8_neverNow 8 = .ok (.iload_n 2, 1) := by decide +kernel
theorem dX8_neverNow_9 : decode cX8_neverNow 9 = .ok (.aload_n 0, 1) := by decide +kernel
theorem dX8_neverNow_10 : decode cX8_neverNow 10 = .ok (.getfield 117, 3) := by decide +kernel
theorem dX8_neverNow_13 : decode cX8_neverNow 13 = .ok (.if_icmp .ge 33, 3) := by decide +kernel
theorem dX8_neverNow_16 : decode cX8_neverNow 16 = .ok (.aload_n 0, 1) := by decide +kernel
theorem dX8_neverNow_17 : decode cX8_neverNow 17 = .ok (.iconst 1, 1) := by decide +kernel
theorem dX8_neverNow_18 : decode cX8_neverNow 18 = .ok (.iload_n 2, 1) := by decide +kernel
theorem dX8_neverNow_19 : decode cX8_neverNow 19 = .ok (.ishl, 1) := by decide +kernel
theorem dX8_neverNow_20 : decode cX8_neverNow 20 = .ok (.putfield 154, 3) := by decide +kernel
theorem dX8_neverNow_23 : decode cX8_neverNow 23 = .ok (.iload_n 1, 1) := by decide +kernel
theorem dX8_neverNow_24 : decode cX8_neverNow 24 = .ok (.aload_n 0, 1) := by decide +kernel
theorem dX8_neverNow_25 : decode cX8_neverNow 25 = .ok (.invokevirtual 250, 3) := by decide +kernel
theorem dX8_neverNow_28 : decode cX8_neverNow 28 = .ok (.ifCond .eq 9, 3) := by decide +kernel
theorem dX8_neverNow_31 : decode cX8_neverNow 31 = .ok (.iconst 1, 1) := by decide +kernel
theorem dX8_neverNow_32 : decode cX8_neverNow 32 = .ok (.iload_n 2, 1) := by decide +kernel
theorem dX8_neverNow_33 : decode cX8_neverNow 33 = .ok (.ishl, 1) := by decide +kernel
theorem dX8_neverNow_34 : decode cX8_neverNow 34 = .ok (.goto 4, 3) := by decide +kernel
theorem dX8_neverNow_37 : decode cX8_neverNow 37 = .ok (.iconst 0, 1) := by decide +kernel
theorem dX8_neverNow_38 : decode cX8_neverNow 38 = .ok (.ior, 1) := by decide +kernel
theorem dX8_neverNow_39 : decode cX8_neverNow 39 = .ok (.istore_n 1, 1) := by decide +kernel
theorem dX8_neverNow_40 : decode cX8_neverNow 40 = .ok (.iinc 2 1, 3) := by decide +kernel
theorem dX8_neverNow_43 : decode cX8_neverNow 43 = .ok (.goto (-35), 3) := by decide +kernel
theorem dX8_neverNow_46 : decode cX8_neverNow 46 = .ok (.iload_n 1, 1) := by decide +kernel
theorem dX8_neverNow_47 : decode cX8_neverNow 47 = .ok (.ireturn, 1) := by decide +kernel
theorem dX8_never_0 : decode cX8_never 0 = .ok (.aload_n 0, 1) := by decide +kernel
theorem dX8_never_1 : decode cX8_never 1 = .ok (.invokevirtual 254, 3) := by decide +kernel
theorem dX8_never_4 : decode cX8_never 4 = .ok (.ireturn, 1) := by decide +kernel
theorem dX8_placeOf_0 : decode cX8_placeOf 0 = .ok (.aload_n 0, 1) := by decide +kernel
theorem dX8_placeOf_1 : decode cX8_placeOf 1 = .ok (.invokevirtual 171, 3) := by decide +kernel
theorem dX8_placeOf_4 : decode cX8_placeOf 4 = .ok (.aload_n 0, 1) := by decide +kernel
theorem dX8_placeOf_5 : decode cX8_placeOf 5 = .ok (.getfield 31, 3) := by decide +kernel
theorem dX8_placeOf_8 : decode cX8_placeOf 8 = .ok (.iload_n 1, 1) := by decide +kernel
theorem dX8_placeOf_9 : decode cX8_placeOf 9 = .ok (.iaload, 1) := by decide +kernel
theorem dX8_placeOf_10 : decode cX8_placeOf 10 = .ok (.istore_n 2, 1) := by decide +kernel
theorem dX8_placeOf_11 : decode cX8_placeOf 11 = .ok (.iconst 0, 1) := by decide +kernel
theorem dX8_placeOf_12 : decode cX8_placeOf 12 = .ok (.istore_n 3, 1) := by decide +kernel
theorem dX8_placeOf_13 : decode cX8_placeOf 13 = .ok (.iconst 0, 1) := by decide +kernel
theorem dX8_placeOf_14 : decode cX8_placeOf 14 = .ok (.istore 4, 2) := by decide +kernel
theorem dX8_placeOf_16 : decode cX8_placeOf 16 = .ok (.iload 4, 2) := by decide +kernel
theorem dX8_placeOf_18 : decode cX8_placeOf 18 = .ok (.bipush 10, 2) := by decide +kernel
theorem dX8_placeOf_20 : decode cX8_placeOf 20 = .ok (.if_icmp .ge 35, 3) := by decide +kernel
theorem dX8_placeOf_23 : decode cX8_placeOf 23 = .ok (.aload_n 0, 1) := by decide +kernel
theorem dX8_placeOf_24 : decode cX8_placeOf 24 = .ok (.getfield 31, 3) := by decide +kernel
theorem dX8_placeOf_27 : decode cX8_placeOf 27 = .ok (.iload_n 1, 1) := by decide +kernel
theorem dX8_placeOf_28 : decode cX8_placeOf 28 = .ok (.iload 4, 2) := by decide +kernel
theorem dX8_placeOf_30 : decode cX8_placeOf 30 = .ok (.iastore, 1) := by decide +kernel
theorem dX8_placeOf_31 : decode cX8_placeOf 31 = .ok (.iload_n 3, 1) := by decide +kernel
theorem dX8_placeOf_32 : decode cX8_placeOf 32 = .ok (.aload_n 0, 1) := by decide +kernel
theorem dX8_placeOf_33 : decode cX8_placeOf 33 = .ok (.invokevirtual 250, 3) := by decide +kernel
theorem dX8_placeOf_36 : decode cX8_placeOf 36 = .ok (.ifCond .eq 10, 3) := by decide +kernel
theorem dX8_placeOf_39 : decode cX8_placeOf 39 = .ok (.iconst 1, 1) := by decide +kernel
theorem dX8_placeOf_40 : decode cX8_placeOf 40 = .ok (.iload 4, 2) := by decide +kernel
theorem dX8_placeOf_42 : decode cX8_placeOf 42 = .ok (.ishl, 1) := by decide +kernel
theorem dX8_placeOf_43 : decode cX8_placeOf 43 = .ok (.goto 4, 3) := by decide +kernel
theorem dX8_placeOf_46 : decode cX8_placeOf 46 = .ok (.iconst 0, 1) := by decide +kernel
theorem dX8_placeOf_47 : decode cX8_placeOf 47 = .ok (.ior, 1) := by decide +kernel
theorem dX8_placeOf_48 : decode cX8_placeOf 48 = .ok (.istore_n 3, 1) := by decide +kernel
theorem dX8_placeOf_49 : decode cX8_placeOf 49 = .ok (.iinc 4 1, 3) := by decide +kernel
theorem dX8_placeOf_52 : decode cX8_placeOf 52 = .ok (.goto (-36), 3) := by decide +kernel
theorem dX8_placeOf_55 : decode cX8_placeOf 55 = .ok (.aload_n 0, 1) := by decide +kernel
theorem dX8_placeOf_56 : decode cX8_placeOf 56 = .ok (.getfield 31, 3) := by decide +kernel
theorem dX8_placeOf_59 : decode cX8_placeOf 59 = .ok (.iload_n 1, 1) := by decide +kernel
theorem dX8_placeOf_60 : decode cX8_placeOf 60 = .ok (.iload_n 2, 1) := by decide +kernel
theorem dX8_placeOf_61 : decode cX8_placeOf 61 = .ok (.iastore, 1) := by decide +kernel
theorem dX8_placeOf_62 : decode cX8_placeOf 62 = .ok (.iload_n 3, 1) := by decide +kernel
theorem dX8_placeOf_63 : decode cX8_placeOf 63 = .ok (.ireturn, 1) := by decide +kernel
theorem dX8_place_0 : decode cX8_place 0 = .ok (.aload_n 0, 1) := by decide +kernel
theorem dX8_place_1 : decode cX8_place 1 = .ok (.iload_n 1, 1) := by decide +kernel
theorem dX8_place_2 : decode cX8_place 2 = .ok (.invokevirtual 142, 3) := by decide +kernel
theorem dX8_place_5 : decode cX8_place 5 = .ok (.ifCond .eq 11, 3) := by decide +kernel
theorem dX8_place_8 : decode cX8_place 8 = .ok (.aload_n 0, 1) := by decide +kernel
theorem dX8_place_9 : decode cX8_place 9 = .ok (.iload_n 1, 1) := by decide +kernel
theorem dX8_place_10 : decode cX8_place 10 = .ok (.invokevirtual 257, 3) := by decide +kernel
theorem dX8_place_13 : decode cX8_place 13 = .ok (.goto 5, 3) := by decide +kernel
theorem dX8_place_16 : decode cX8_place 16 = .ok (.bipush (-2), 2) := by decide +kernel
theorem dX8_place_18 : decode cX8_place 18 = .ok (.ireturn, 1) := by decide +kernel
theorem dX8_askNow_0 : decode cX8_askNow 0 = .ok (.aload_n 0, 1) := by decide +kernel
theorem dX8_askNow_1 : decode cX8_askNow 1 = .ok (.invokevirtual 254, 3) := by decide +kernel
theorem dX8_askNow_4 : decode cX8_askNow 4 = .ok (.istore_n 1, 1) := by decide +kernel
theorem dX8_askNow_5 : decode cX8_askNow 5 = .ok (.iconst 0, 1) := by decide +kernel
theorem dX8_askNow_6 : decode cX8_askNow 6 = .ok (.istore_n 2, 1) := by decide +kernel
theorem dX8_askNow_7 : decode cX8_askNow 7 = .ok (.iload_n 2, 1) := by decide +kernel
theorem dX8_askNow_8 : decode cX8_askNow 8 = .ok (.aload_n 0, 1) := by decide +kernel
theorem dX8_askNow_9 : decode cX8_askNow 9 = .ok (.getfield 117, 3) := by decide +kernel
theorem dX8_askNow_12 : decode cX8_askNow 12 = .ok (.if_icmp .ge 53, 3) := by decide +kernel
theorem dX8_askNow_15 : decode cX8_askNow 15 = .ok (.aload_n 0, 1) := by decide +kernel
theorem dX8_askNow_16 : decode cX8_askNow 16 = .ok (.iconst 1, 1) := by decide +kernel
theorem dX8_askNow_17 : decode cX8_askNow 17 = .ok (.iload_n 2, 1) := by decide +kernel
theorem dX8_askNow_18 : decode cX8_askNow 18 = .ok (.ishl, 1) := by decide +kernel
theorem dX8_askNow_19 : decode cX8_askNow 19 = .ok (.putfield 154, 3) := by decide +kernel
theorem dX8_askNow_22 : decode cX8_askNow 22 = .ok (.aload_n 0, 1) := by decide +kernel
theorem dX8_askNow_23 : decode cX8_askNow 23 = .ok (.invokevirtual 174, 3) := by decide +kernel
theorem dX8_askNow_26 : decode cX8_askNow 26 = .ok (.iconst 0, 1) := by decide +kernel
theorem dX8_askNow_27 : decode cX8_askNow 27 = .ok (.istore_n 3, 1) := by decide +kernel
theorem dX8_askNow_28 : decode cX8_askNow 28 = .ok (.iload_n 3, 1) := by decide +kernel
theorem dX8_askNow_29 : decode cX8_askNow 29 = .ok (.aload_n 0, 1) := by decide +kernel
theorem dX8_askNow_30 : decode cX8_askNow 30 = .ok (.getfield 114, 3) := by decide +kernel
theorem dX8_askNow_33 : decode cX8_askNow 33 = .ok (.if_icmp .ge 26, 3) := by decide +kernel
theorem dX8_askNow_36 : decode cX8_askNow 36 = .ok (.aload_n 0, 1) := by decide +kernel
theorem dX8_askNow_37 : decode cX8_askNow 37 = .ok (.getfield 65, 3) := by decide +kernel
theorem dX8_askNow_40 : decode cX8_askNow 40 = .ok (.bipush 8, 2) := by decide +kernel
theorem dX8_askNow_42 : decode cX8_askNow 42 = .ok (.iload_n 2, 1) := by decide +kernel
theorem dX8_askNow_43 : decode cX8_askNow 43 = .ok (.imul, 1) := by decide +kernel
theorem dX8_askNow_44 : decode cX8_askNow 44 = .ok (.iload_n 3, 1) := by decide +kernel
theorem dX8_askNow_45 : decode cX8_askNow 45 = .ok (.iadd, 1) := by decide +kernel
theorem dX8_askNow_46 : decode cX8_askNow 46 = .ok (.aload_n 0, 1) := by decide +kernel
theorem dX8_askNow_47 : decode cX8_askNow 47 = .ok (.iload_n 3, 1) := by decide +kernel
theorem dX8_askNow_48 : decode cX8_askNow 48 = .ok (.iconst (-1), 1) := by decide +kernel
theorem dX8_askNow_49 : decode cX8_askNow 49 = .ok (.invokevirtual 247, 3) := by decide +kernel
theorem dX8_askNow_52 : decode cX8_askNow 52 = .ok (.iastore, 1) := by decide +kernel
theorem dX8_askNow_53 : decode cX8_askNow 53 = .ok (.iinc 3 1, 3) := by decide +kernel
theorem dX8_askNow_56 : decode cX8_askNow 56 = .ok (.goto (-28), 3) := by decide +kernel
theorem dX8_askNow_59 : decode cX8_askNow 59 = .ok (.iinc 2 1, 3) := by decide +kernel
theorem dX8_askNow_62 : decode cX8_askNow 62 = .ok (.goto (-55), 3) := by decide +kernel
theorem dX8_askNow_65 : decode cX8_askNow 65 = .ok (.iconst (-1), 1) := by decide +kernel
theorem dX8_askNow_66 : decode cX8_askNow 66 = .ok (.istore_n 2, 1) := by decide +kernel
theorem dX8_askNow_67 : decode cX8_askNow 67 = .ok (.iconst 0, 1) := by decide +kernel
theorem dX8_askNow_68 : decode cX8_askNow 68 = .ok (.istore_n 3, 1) := by decide +kernel
theorem dX8_askNow_69 : decode cX8_askNow 69 = .ok (.iconst 0, 1) := by decide +kernel
theorem dX8_askNow_70 : decode cX8_askNow 70 = .ok (.istore 4, 2) := by decide +kernel
theorem dX8_askNow_72 : decode cX8_askNow 72 = .ok (.iload 4, 2) := by decide +kernel
theorem dX8_askNow_74 : decode cX8_askNow 74 = .ok (.aload_n 0, 1) := by decide +kernel
theorem dX8_askNow_75 : decode cX8_askNow 75 = .ok (.getfield 114, 3) := by decide +kernel
theorem dX8_askNow_78 : decode cX8_askNow 78 = .ok (.if_icmp .ge 166, 3) := by decide +kernel
theorem dX8_askNow_81 : decode cX8_askNow 81 = .ok (.iconst 0, 1) := by decide +kernel
theorem dX8_askNow_82 : decode cX8_askNow 82 = .ok (.istore 5, 2) := by decide +kernel
theorem dX8_askNow_84 : decode cX8_askNow 84 = .ok (.iconst 0, 1) := by decide +kernel
theorem dX8_askNow_85 : decode cX8_askNow 85 = .ok (.istore 6, 2) := by decide +kernel
theorem dX8_askNow_87 : decode cX8_askNow 87 = .ok (.iload 6, 2) := by decide +kernel
theorem dX8_askNow_89 : decode cX8_askNow 89 = .ok (.aload_n 0, 1) := by decide +kernel
theorem dX8_askNow_90 : decode cX8_askNow 90 = .ok (.getfield 117, 3) := by decide +kernel
theorem dX8_askNow_93 : decode cX8_askNow 93 = .ok (.if_icmp .ge 103, 3) := by decide +kernel
theorem dX8_askNow_96 : decode cX8_askNow 96 = .ok (.iconst 0, 1) := by decide +kernel
theorem dX8_askNow_97 : decode cX8_askNow 97 = .ok (.istore 7, 2) := by decide +kernel
theorem dX8_askNow_99 : decode cX8_askNow 99 = .ok (.iconst 0, 1) := by decide +kernel
theorem dX8_askNow_100 : decode cX8_askNow 100 = .ok (.istore 8, 2) := by decide +kernel
theorem dX8_askNow_102 : decode cX8_askNow 102 = .ok (.iload 8, 2) := by decide +kernel
theorem dX8_askNow_104 : decode cX8_askNow 104 = .ok (.aload_n 0, 1) := by decide +kernel
theorem dX8_askNow_105 : decode cX8_askNow 105 = .ok (.getfield 117, 3) := by decide +kernel
theorem dX8_askNow_108 : decode cX8_askNow 108 = .ok (.if_icmp .ge 66, 3) := by decide +kernel
theorem dX8_askNow_111 : decode cX8_askNow 111 = .ok (.iload 7, 2) := by decide +kernel
theorem dX8_askNow_113 : decode cX8_askNow 113 = .ok (.iload_n 1, 1) := by decide +kernel
theorem dX8_askNow_114 : decode cX8_askNow 114 = .ok (.iload 6, 2) := by decide +kernel
theorem dX8_askNow_116 : decode cX8_askNow 116 = .ok (.invokestatic 157, 3) := by decide +kernel
theorem dX8_askNow_119 : decode cX8_askNow 119 = .ok (.ifCond .eq 45, 3) := by decide +kernel
theorem dX8_askNow_122 : decode cX8_askNow 122 = .ok (.iload_n 1, 1) := by decide +kernel
theorem dX8_askNow_123 : decode cX8_askNow 123 = .ok (.iload 8, 2) := by decide +kernel
theorem dX8_askNow_125 : decode cX8_askNow 125 = .ok (.invokestatic 157, 3) := by decide +kernel
theorem dX8_askNow_128 : decode cX8_askNow 128 = .ok (.ifCond .eq 36, 3) := by decide +kernel
theorem dX8_askNow_131 : decode cX8_askNow 131 = .ok (.aload_n 0, 1) := by decide +kernel
theorem dX8_askNow_132 : decode cX8_askNow 132 = .ok (.getfield 65, 3) := by decide +kernel
theorem dX8_askNow_135 : decode cX8_askNow 135 = .ok (.bipush 8, 2) := by decide +kernel
theorem dX8_askNow_137 : decode cX8_askNow 137 = .ok (.iload 6, 2) := by decide +kernel
theorem dX8_askNow_139 : decode cX8_askNow 139 = .ok (.imul, 1) := by decide +kernel
theorem dX8_askNow_140 : decode cX8_askNow 140 = .ok (.iload 4, 2) := by decide +kernel
theorem dX8_askNow_142 : decode cX8_askNow 142 = .ok (.iadd, 1) := by decide +kernel
theorem dX8_askNow_143 : decode cX8_askNow 143 = .ok (.iaload, 1) := by decide +kernel
theorem dX8_askNow_144 : decode cX8_askNow 144 = .ok (.aload_n 0, 1) := by decide +kernel
theorem dX8_askNow_145 : decode cX8_askNow 145 = .ok (.getfield 65, 3) := by decide +kernel
theorem dX8_askNow_148 : decode cX8_askNow 148 = .ok (.bipush 8, 2) := by decide +kernel
theorem dX8_askNow_150 : decode cX8_askNow 150 = .ok (.iload 8, 2) := by decide +kernel
theorem dX8_askNow_152 : decode cX8_askNow 152 = .ok (.imul, 1) := by decide +kernel
theorem dX8_askNow_153 : decode cX8_askNow 153 = .ok (.iload 4, 2) := by decide +kernel
theorem dX8_askNow_155 : decode cX8_askNow 155 = .ok (.iadd, 1) := by decide +kernel
theorem dX8_askNow_156 : decode cX8_askNow 156 = .ok (.iaload, 1) := by decide +kernel
theorem dX8_askNow_157 : decode cX8_askNow 157 = .ok (.if_icmp .ne 7, 3) := by decide +kernel
theorem dX8_askNow_160 : decode cX8_askNow 160 = .ok (.iconst 1, 1) := by decide +kernel
theorem dX8_askNow_161 : decode cX8_askNow 161 = .ok (.goto 4, 3) := by decide +kernel
theorem dX8_askNow_164 : decode cX8_askNow 164 = .ok (.iconst 0, 1) := by decide +kernel
theorem dX8_askNow_165 : decode cX8_askNow 165 = .ok (.iadd, 1) := by decide +kernel
theorem dX8_askNow_166 : decode cX8_askNow 166 = .ok (.istore 7, 2) := by decide +kernel
theorem dX8_askNow_168 : decode cX8_askNow 168 = .ok (.iinc 8 1, 3) := by decide +kernel
theorem dX8_askNow_171 : decode cX8_askNow 171 = .ok (.goto (-69), 3) := by decide +kernel
theorem dX8_askNow_174 : decode cX8_askNow 174 = .ok (.iload 7, 2) := by decide +kernel
theorem dX8_askNow_176 : decode cX8_askNow 176 = .ok (.iload 5, 2) := by decide +kernel
theorem dX8_askNow_178 : decode cX8_askNow 178 = .ok (.if_icmp .le 8, 3) := by decide +kernel
theorem dX8_askNow_181 : decode cX8_askNow 181 = .ok (.iload 7, 2) := by decide +kernel
theorem dX8_askNow_183 : decode cX8_askNow 183 = .ok (.goto 5, 3) := by decide +kernel
theorem dX8_askNow_186 : decode cX8_askNow 186 = .ok (.iload 5, 2) := by decide +kernel
theorem dX8_askNow_188 : decode cX8_askNow 188 = .ok (.istore 5, 2) := by decide +kernel
theorem dX8_askNow_190 : decode cX8_askNow 190 = .ok (.iinc 6 1, 3) := by decide +kernel
theorem dX8_askNow_193 : decode cX8_askNow 193 = .ok (.goto (-106), 3) := by decide +kernel
theorem dX8_askNow_196 : decode cX8_askNow 196 = .ok (.iload_n 2, 1) := by decide +kernel
theorem dX8_askNow_197 : decode cX8_askNow 197 = .ok (.iconst (-1), 1) := by decide +kernel
theorem dX8_askNow_198 : decode cX8_askNow 198 = .ok (.if_icmp .eq 9, 3) := by decide +kernel
theorem dX8_askNow_201 : decode cX8_askNow 201 = .ok (.iload 5, 2) := by decide +kernel
theorem dX8_askNow_203 : decode cX8_askNow 203 = .ok (.iload_n 3, 1) := by decide +kernel
theorem dX8_askNow_204 : decode cX8_askNow 204 = .ok (.if_icmp .ge 7, 3) := by decide +kernel
theorem dX8_askNow_207 : decode cX8_askNow 207 = .ok (.iconst 1, 1) := by decide +kernel
theorem dX8_askNow_208 : decode cX8_askNow 208 = .ok (.goto 4, 3) := by decide +kernel
theorem dX8_askNow_211 : decode cX8_askNow 211 = .ok (.iconst 0, 1) := by decide +kernel
theorem dX8_askNow_212 : decode cX8_askNow 212 = .ok (.istore 6, 2) := by decide +kernel
theorem dX8_askNow_214 : decode cX8_askNow 214 = .ok (.iload 6, 2) := by decide +kernel
theorem dX8_askNow_216 : decode cX8_askNow 216 = .ok (.ifCond .eq 8, 3) := by decide +kernel
theorem dX8_askNow_219 : decode cX8_askNow 219 = .ok (.iload 4, 2) := by decide +kernel
theorem dX8_askNow_221 : decode cX8_askNow 221 = .ok (.goto 4, 3) := by decide +kernel
theorem dX8_askNow_224 : decode cX8_askNow 224 = .ok (.iload_n 2, 1) := by decide +kernel
theorem dX8_askNow_225 : decode cX8_askNow 225 = .ok (.istore_n 2, 1) := by decide +kernel
theorem dX8_askNow_226 : decode cX8_askNow 226 = .ok (.iload 6, 2) := by decide +kernel
theorem dX8_askNow_228 : decode cX8_askNow 228 = .ok (.ifCond .eq 8, 3) := by decide +kernel
theorem dX8_askNow_231 : decode cX8_askNow 231 = .ok (.iload 5, 2) := by decide +kernel
theorem dX8_askNow_233 : decode cX8_askNow 233 = .ok (.goto 4, 3) := by decide +kernel
theorem dX8_askNow_236 : decode cX8_askNow 236 = .ok (.iload_n 3, 1) := by decide +kernel
theorem dX8_askNow_237 : decode cX8_askNow 237 = .ok (.istore_n 3, 1) := by decide +kernel
theorem dX8_askNow_238 : decode cX8_askNow 238 = .ok (.iinc 4 1, 3) := by decide +kernel
theorem dX8_askNow_241 : decode cX8_askNow 241 = .ok (.goto (-169), 3) := by decide +kernel
theorem dX8_askNow_244 : decode cX8_askNow 244 = .ok (.iload_n 2, 1) := by decide +kernel
theorem dX8_askNow_245 : decode cX8_askNow 245 = .ok (.ireturn, 1) := by decide +kernel
theorem dX8_ask_0 : decode cX8_ask 0 = .ok (.aload_n 0, 1) := by decide +kernel
theorem dX8_ask_1 : decode cX8_ask 1 = .ok (.invokevirtual 260, 3) := by decide +kernel
theorem dX8_ask_4 : decode cX8_ask 4 = .ok (.ireturn, 1) := by decide +kernel
theorem dX8_feignOf_0 : decode cX8_feignOf 0 = .ok (.aload_n 0, 1) := by decide +kernel
theorem dX8_feignOf_1 : decode cX8_feignOf 1 = .ok (.invokevirtual 171, 3) := by decide +kernel
theorem dX8_feignOf_4 : decode cX8_feignOf 4 = .ok (.lconst 0, 1) := by decide +kernel
theorem dX8_feignOf_5 : decode cX8_feignOf 5 = .ok (.lstore 4, 2) := by decide +kernel
theorem dX8_feignOf_7 : decode cX8_feignOf 7 = .ok (.iconst 0, 1) := by decide +kernel
theorem dX8_feignOf_8 : decode cX8_feignOf 8 = .ok (.istore 6, 2) := by decide +kernel
theorem dX8_feignOf_10 : decode cX8_feignOf 10 = .ok (.iload 6, 2) := by decide +kernel
theorem dX8_feignOf_12 : decode cX8_feignOf 12 = .ok (.aload_n 0, 1) := by decide +kernel
theorem dX8_feignOf_13 : decode cX8_feignOf 13 = .ok (.getfield 114, 3) := by decide +kernel
theorem dX8_feignOf_16 : decode cX8_feignOf 16 = .ok (.if_icmp .ge 23, 3) := by decide +kernel
theorem dX8_feignOf_19 : decode cX8_feignOf 19 = .ok (.aload_n 0, 1) := by decide +kernel
theorem dX8_feignOf_20 : decode cX8_feignOf 20 = .ok (.getfield 68, 3) := by decide +kernel
theorem dX8_feignOf_23 : decode cX8_feignOf 23 = .ok (.iload 6, 2) := by decide +kernel
theorem dX8_feignOf_25 : decode cX8_feignOf 25 = .ok (.aload_n 0, 1) := by decide +kernel
theorem dX8_feignOf_26 : decode cX8_feignOf 26 = .ok (.getfield 25, 3) := by decide +kernel
theorem dX8_feignOf_29 : decode cX8_feignOf 29 = .ok (.iload 6, 2) := by decide +kernel
theorem dX8_feignOf_31 : decode cX8_feignOf 31 = .ok (.iaload, 1) := by decide +kernel
theorem dX8_feignOf_32 : decode cX8_feignOf 32 = .ok (.iastore, 1) := by decide +kernel
theorem dX8_feignOf_33 : decode cX8_feignOf 33 = .ok (.iinc 6 1, 3) := by decide +kernel
theorem dX8_feignOf_36 : decode cX8_feignOf 36 = .ok (.goto (-26), 3) := by decide +kernel
theorem dX8_feignOf_39 : decode cX8_feignOf 39 = .ok (.iconst 0, 1) := by decide +kernel
theorem dX8_feignOf_40 : decode cX8_feignOf 40 = .ok (.istore 6, 2) := by decide +kernel
theorem dX8_feignOf_42 : decode cX8_feignOf 42 = .ok (.iload 6, 2) := by decide +kernel
theorem dX8_feignOf_44 : decode cX8_feignOf 44 = .ok (.iconst 1, 1) := by decide +kernel
theorem dX8_feignOf_45 : decode cX8_feignOf 45 = .ok (.aload_n 0, 1) := by decide +kernel
theorem dX8_feignOf_46 : decode cX8_feignOf 46 = .ok (.getfield 114, 3) := by decide +kernel
theorem dX8_feignOf_49 : decode cX8_feignOf 49 = .ok (.ishl, 1) := by decide +kernel
theorem dX8_feignOf_50 : decode cX8_feignOf 50 = .ok (.if_icmp .ge 106, 3) := by decide +kernel
theorem dX8_feignOf_53 : decode cX8_feignOf 53 = .ok (.lconst 1, 1) := by decide +kernel
theorem dX8_feignOf_54 : decode cX8_feignOf 54 = .ok (.lstore 7, 2) := by decide +kernel
theorem dX8_feignOf_56 : decode cX8_feignOf 56 = .ok (.iconst 0, 1) := by decide +kernel
theorem dX8_feignOf_57 : decode cX8_feignOf 57 = .ok (.istore 9, 2) := by decide +kernel
theorem dX8_feignOf_59 : decode cX8_feignOf 59 = .ok (.iload 9, 2) := by decide +kernel
theorem dX8_feignOf_61 : decode cX8_feignOf 61 = .ok (.aload_n 0, 1) := by decide +kernel
theorem dX8_feignOf_62 : decode cX8_feignOf 62 = .ok (.getfield 114, 3) := by decide +kernel
theorem dX8_feignOf_65 : decode cX8_feignOf 65 = .ok (.if_icmp .ge 62, 3) := by decide +kernel
theorem dX8_feignOf_68 : decode cX8_feignOf 68 = .ok (.lload 7, 2) := by decide +kernel
theorem dX8_feignOf_70 : decode cX8_feignOf 70 = .ok (.iload 6, 2) := by decide +kernel
theorem dX8_feignOf_72 : decode cX8_feignOf 72 = .ok (.iload 9, 2) := by decide +kernel
theorem dX8_feignOf_74 : decode cX8_feignOf 74 = .ok (.invokestatic 157, 3) := by decide +kernel
theorem dX8_feignOf_77 : decode cX8_feignOf 77 = .ok (.ifCond .eq 8, 3) := by decide +kernel
theorem dX8_feignOf_80 : decode cX8_feignOf 80 = .ok (.iload_n 1, 1) := by decide +kernel
theorem dX8_feignOf_81 : decode cX8_feignOf 81 = .ok (.i2l, 1) := by decide +kernel
theorem dX8_feignOf_82 : decode cX8_feignOf 82 = .ok (.goto 8, 3) := by decide +kernel
theorem dX8_feignOf_85 : decode cX8_feignOf 85 = .ok (.bipush 16, 2) := by decide +kernel
theorem dX8_feignOf_87 : decode cX8_feignOf 87 = .ok (.iload_n 1, 1) := by decide +kernel
theorem dX8_feignOf_88 : decode cX8_feignOf 88 = .ok (.isub, 1) := by decide +kernel
theorem dX8_feignOf_89 : decode cX8_feignOf 89 = .ok (.i2l, 1) := by decide +kernel
theorem dX8_feignOf_90 : decode cX8_feignOf 90 = .ok (.lmul, 1) := by decide +kernel
theorem dX8_feignOf_91 : decode cX8_feignOf 91 = .ok (.lstore 7, 2) := by decide +kernel
theorem dX8_feignOf_93 : decode cX8_feignOf 93 = .ok (.aload_n 0, 1) := by decide +kernel
theorem dX8_feignOf_94 : decode cX8_feignOf 94 = .ok (.getfield 25, 3) := by decide +kernel
theorem dX8_feignOf_97 : decode cX8_feignOf 97 = .ok (.iload 9, 2) := by decide +kernel
theorem dX8_feignOf_99 : decode cX8_feignOf 99 = .ok (.iload 6, 2) := by decide +kernel
theorem dX8_feignOf_101 : decode cX8_feignOf 101 = .ok (.iload 9, 2) := by decide +kernel
theorem dX8_feignOf_103 : decode cX8_feignOf 103 = .ok (.invokestatic 157, 3) := by decide +kernel
theorem dX8_feignOf_106 : decode cX8_feignOf 106 = .ok (.ifCond .eq 7, 3) := by decide +kernel
theorem dX8_feignOf_109 : decode cX8_feignOf 109 = .ok (.iconst 3, 1) := by decide +kernel
theorem dX8_feignOf_110 : decode cX8_feignOf 110 = .ok (.goto 10, 3) := by decide +kernel
theorem dX8_feignOf_113 : decode cX8_feignOf 113 = .ok (.aload_n 0, 1) := by decide +kernel
theorem dX8_feignOf_114 : decode cX8_feignOf 114 = .ok (.getfield 68, 3) := by decide +kernel
theorem dX8_feignOf_117 : decode cX8_feignOf 117 = .ok (.iload 9, 2) := by decide +kernel
theorem dX8_feignOf_119 : decode cX8_feignOf 119 = .ok (.iaload, 1) := by decide +kernel
theorem dX8_feignOf_120 : decode cX8_feignOf 120 = .ok (.iastore, 1) := by decide +kernel
theorem dX8_feignOf_121 : decode cX8_feignOf 121 = .ok (.iinc 9 1, 3) := by decide +kernel
theorem dX8_feignOf_124 : decode cX8_feignOf 124 = .ok (.goto (-65), 3) := by decide +kernel
theorem dX8_feignOf_127 : decode cX8_feignOf 127 = .ok (.aload_n 0, 1) := by decide +kernel
theorem dX8_feignOf_128 : decode cX8_feignOf 128 = .ok (.invokevirtual 174, 3) := by decide +kernel
theorem dX8_feignOf_131 : decode cX8_feignOf 131 = .ok (.lload 4, 2) := by decide +kernel
theorem dX8_feignOf_133 : decode cX8_feignOf 133 = .ok (.aload_n 0, 1) := by decide +kernel
theorem dX8_feignOf_134 : decode cX8_feignOf 134 = .ok (.iload_n 2, 1) := by decide +kernel
theorem dX8_feignOf_135 : decode cX8_feignOf 135 = .ok (.invokevirtual 211, 3) := by decide +kernel
theorem dX8_feignOf_138 : decode cX8_feignOf 138 = .ok (.ifCond .eq 8, 3) := by decide +kernel
