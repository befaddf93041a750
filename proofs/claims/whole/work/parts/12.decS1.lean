theorem dX3_isUnary_15 : decode cX3_isUnary 15 = .ok (.goto 4, 3) := by decide +kernel
theorem dX3_isUnary_18 : decode cX3_isUnary 18 = .ok (.iconst 0, 1) := by decide +kernel
theorem dX3_isUnary_19 : decode cX3_isUnary 19 = .ok (.ireturn, 1) := by decide +kernel
theorem dX4_init_0 : decode cX4_init 0 = .ok (.aload_n 0, 1) := by decide +kernel
theorem dX4_init_1 : decode cX4_init 1 = .ok (.invokespecial 3, 3) := by decide +kernel
theorem dX4_init_4 : decode cX4_init 4 = .ok (.return_, 1) := by decide +kernel
theorem dX4_run_0 : decode cX4_run 0 = .ok (.aload_n 0, 1) := by decide +kernel
theorem dX4_run_1 : decode cX4_run 1 = .ok (.iload_n 2, 1) := by decide +kernel
theorem dX4_run_2 : decode cX4_run 2 = .ok (.putfield 9, 3) := by decide +kernel
theorem dX4_run_5 : decode cX4_run 5 = .ok (.aload_n 0, 1) := by decide +kernel
theorem dX4_run_6 : decode cX4_run 6 = .ok (.iload_n 2, 1) := by decide +kernel
theorem dX4_run_7 : decode cX4_run 7 = .ok (.ifCond .eq 7, 3) := by decide +kernel
theorem dX4_run_10 : decode cX4_run 10 = .ok (.iconst (-1), 1) := by decide +kernel
theorem dX4_run_11 : decode cX4_run 11 = .ok (.goto 5, 3) := by decide +kernel
theorem dX4_run_14 : decode cX4_run 14 = .ok (.ldc 17, 2) := by decide +kernel
theorem dX4_run_16 : decode cX4_run 16 = .ok (.putfield 18, 3) := by decide +kernel
theorem dX4_run_19 : decode cX4_run 19 = .ok (.aload_n 0, 1) := by decide +kernel
theorem dX4_run_20 : decode cX4_run 20 = .ok (.iconst 0, 1) := by decide +kernel
theorem dX4_run_21 : decode cX4_run 21 = .ok (.putfield 22, 3) := by decide +kernel
theorem dX4_run_24 : decode cX4_run 24 = .ok (.aload_n 0, 1) := by decide +kernel
theorem dX4_run_25 : decode cX4_run 25 = .ok (.aload_n 1, 1) := by decide +kernel
theorem dX4_run_26 : decode cX4_run 26 = .ok (.iconst 0, 1) := by decide +kernel
theorem dX4_run_27 : decode cX4_run 27 = .ok (.aload_n 1, 1) := by decide +kernel
theorem dX4_run_28 : decode cX4_run 28 = .ok (.invokevirtual 25, 3) := by decide +kernel
theorem dX4_run_31 : decode cX4_run 31 = .ok (.aload_n 1, 1) := by decide +kernel
theorem dX4_run_32 : decode cX4_run 32 = .ok (.invokevirtual 31, 3) := by decide +kernel
theorem dX4_run_35 : decode cX4_run 35 = .ok (.iconst 0, 1) := by decide +kernel
theorem dX4_run_36 : decode cX4_run 36 = .ok (.invokestatic 34, 3) := by decide +kernel
theorem dX4_run_39 : decode cX4_run 39 = .ok (.return_, 1) := by decide +kernel
theorem dX4_tryAll_0 : decode cX4_tryAll 0 = .ok (.iload_n 2, 1) := by decide +kernel
theorem dX4_tryAll_1 : decode cX4_tryAll 1 = .ok (.bipush 7, 2) := by decide +kernel
theorem dX4_tryAll_3 : decode cX4_tryAll 3 = .ok (.if_icmp .gt 13, 3) := by decide +kernel
theorem dX4_tryAll_6 : decode cX4_tryAll 6 = .ok (.aload_n 0, 1) := by decide +kernel
theorem dX4_tryAll_7 : decode cX4_tryAll 7 = .ok (.iload_n 3, 1) := by decide +kernel
theorem dX4_tryAll_8 : decode cX4_tryAll 8 = .ok (.iload 4, 2) := by decide +kernel
theorem dX4_tryAll_10 : decode cX4_tryAll 10 = .ok (.invokevirtual 38, 3) := by decide +kernel
theorem dX4_tryAll_13 : decode cX4_tryAll 13 = .ok (.ifCond .ne 4, 3) := by decide +kernel
theorem dX4_tryAll_16 : decode cX4_tryAll 16 = .ok (.return_, 1) := by decide +kernel
theorem dX4_tryAll_17 : decode cX4_tryAll 17 = .ok (.iload_n 3, 1) := by decide +kernel
theorem dX4_tryAll_18 : decode cX4_tryAll 18 = .ok (.ifCond .ne 19, 3) := by decide +kernel
theorem dX4_tryAll_21 : decode cX4_tryAll 21 = .ok (.aload_n 0, 1) := by decide +kernel
theorem dX4_tryAll_22 : decode cX4_tryAll 22 = .ok (.iload 4, 2) := by decide +kernel
theorem dX4_tryAll_24 : decode cX4_tryAll 24 = .ok (.invokestatic 42, 3) := by decide +kernel
theorem dX4_tryAll_27 : decode cX4_tryAll 27 = .ok (.putfield 18, 3) := by decide +kernel
theorem dX4_tryAll_30 : decode cX4_tryAll 30 = .ok (.aload_n 0, 1) := by decide +kernel
theorem dX4_tryAll_31 : decode cX4_tryAll 31 = .ok (.iload 5, 2) := by decide +kernel
theorem dX4_tryAll_33 : decode cX4_tryAll 33 = .ok (.putfield 22, 3) := by decide +kernel
theorem dX4_tryAll_36 : decode cX4_tryAll 36 = .ok (.return_, 1) := by decide +kernel
theorem dX4_tryAll_37 : decode cX4_tryAll 37 = .ok (.iconst 0, 1) := by decide +kernel
theorem dX4_tryAll_38 : decode cX4_tryAll 38 = .ok (.istore 6, 2) := by decide +kernel
theorem dX4_tryAll_40 : decode cX4_tryAll 40 = .ok (.iload 6, 2) := by decide +kernel
theorem dX4_tryAll_42 : decode cX4_tryAll 42 = .ok (.aload_n 1, 1) := by decide +kernel
theorem dX4_tryAll_43 : decode cX4_tryAll 43 = .ok (.getfield 46, 3) := by decide +kernel
theorem dX4_tryAll_46 : decode cX4_tryAll 46 = .ok (.if_icmp .ge 65, 3) := by decide +kernel
theorem dX4_tryAll_49 : decode cX4_tryAll 49 = .ok (.iload_n 3, 1) := by decide +kernel
theorem dX4_tryAll_50 : decode cX4_tryAll 50 = .ok (.iload 6, 2) := by decide +kernel
theorem dX4_tryAll_52 : decode cX4_tryAll 52 = .ok (.ishr, 1) := by decide +kernel
theorem dX4_tryAll_53 : decode cX4_tryAll 53 = .ok (.iconst 1, 1) := by decide +kernel
theorem dX4_tryAll_54 : decode cX4_tryAll 54 = .ok (.iand, 1) := by decide +kernel
theorem dX4_tryAll_55 : decode cX4_tryAll 55 = .ok (.ifCond .eq 50, 3) := by decide +kernel
theorem dX4_tryAll_58 : decode cX4_tryAll 58 = .ok (.aload_n 1, 1) := by decide +kernel
theorem dX4_tryAll_59 : decode cX4_tryAll 59 = .ok (.iload 6, 2) := by decide +kernel
theorem dX4_tryAll_61 : decode cX4_tryAll 61 = .ok (.invokevirtual 49, 3) := by decide +kernel
theorem dX4_tryAll_64 : decode cX4_tryAll 64 = .ok (.istore 7, 2) := by decide +kernel
theorem dX4_tryAll_66 : decode cX4_tryAll 66 = .ok (.aload_n 0, 1) := by decide +kernel
theorem dX4_tryAll_67 : decode cX4_tryAll 67 = .ok (.aload_n 1, 1) := by decide +kernel
theorem dX4_tryAll_68 : decode cX4_tryAll 68 = .ok (.iload_n 2, 1) := by decide +kernel
theorem dX4_tryAll_69 : decode cX4_tryAll 69 = .ok (.iconst 1, 1) := by decide +kernel
theorem dX4_tryAll_70 : decode cX4_tryAll 70 = .ok (.iadd, 1) := by decide +kernel
theorem dX4_tryAll_71 : decode cX4_tryAll 71 = .ok (.iload_n 3, 1) := by decide +kernel
theorem dX4_tryAll_72 : decode cX4_tryAll 72 = .ok (.iconst 1, 1) := by decide +kernel
theorem dX4_tryAll_73 : decode cX4_tryAll 73 = .ok (.iload 6, 2) := by decide +kernel
theorem dX4_tryAll_75 : decode cX4_tryAll 75 = .ok (.ishl, 1) := by decide +kernel
theorem dX4_tryAll_76 : decode cX4_tryAll 76 = .ok (.iconst (-1), 1) := by decide +kernel
theorem dX4_tryAll_77 : decode cX4_tryAll 77 = .ok (.ixor, 1) := by decide +kernel
theorem dX4_tryAll_78 : decode cX4_tryAll 78 = .ok (.iand, 1) := by decide +kernel
theorem dX4_tryAll_79 : decode cX4_tryAll 79 = .ok (.iload 4, 2) := by decide +kernel
theorem dX4_tryAll_81 : decode cX4_tryAll 81 = .ok (.iconst 1, 1) := by decide +kernel
theorem dX4_tryAll_82 : decode cX4_tryAll 82 = .ok (.iload 7, 2) := by decide +kernel
theorem dX4_tryAll_84 : decode cX4_tryAll 84 = .ok (.ishl, 1) := by decide +kernel
theorem dX4_tryAll_85 : decode cX4_tryAll 85 = .ok (.ior, 1) := by decide +kernel
theorem dX4_tryAll_86 : decode cX4_tryAll 86 = .ok (.iload 5, 2) := by decide +kernel
theorem dX4_tryAll_88 : decode cX4_tryAll 88 = .ok (.bipush 10, 2) := by decide +kernel
theorem dX4_tryAll_90 : decode cX4_tryAll 90 = .ok (.imul, 1) := by decide +kernel
theorem dX4_tryAll_91 : decode cX4_tryAll 91 = .ok (.iload 6, 2) := by decide +kernel
theorem dX4_tryAll_93 : decode cX4_tryAll 93 = .ok (.iadd, 1) := by decide +kernel
theorem dX4_tryAll_94 : decode cX4_tryAll 94 = .ok (.iconst 1, 1) := by decide +kernel
theorem dX4_tryAll_95 : decode cX4_tryAll 95 = .ok (.iadd, 1) := by decide +kernel
theorem dX4_tryAll_96 : decode cX4_tryAll 96 = .ok (.invokestatic 34, 3) := by decide +kernel
theorem dX4_tryAll_99 : decode cX4_tryAll 99 = .ok (.aload_n 1, 1) := by decide +kernel
theorem dX4_tryAll_100 : decode cX4_tryAll 100 = .ok (.iload 6, 2) := by decide +kernel
theorem dX4_tryAll_102 : decode cX4_tryAll 102 = .ok (.invokevirtual 52, 3) := by decide +kernel
theorem dX4_tryAll_105 : decode cX4_tryAll 105 = .ok (.iinc 6 1, 3) := by decide +kernel
theorem dX4_tryAll_108 : decode cX4_tryAll 108 = .ok (.goto (-68), 3) := by decide +kernel
theorem dX4_tryAll_111 : decode cX4_tryAll 111 = .ok (.return_, 1) := by decide +kernel
theorem dX4_canBeBetter_0 : decode cX4_canBeBetter 0 = .ok (.iload_n 2, 1) := by decide +kernel
theorem dX4_canBeBetter_1 : decode cX4_canBeBetter 1 = .ok (.invokestatic 42, 3) := by decide +kernel
theorem dX4_canBeBetter_4 : decode cX4_canBeBetter 4 = .ok (.istore_n 3, 1) := by decide +kernel
theorem dX4_canBeBetter_5 : decode cX4_canBeBetter 5 = .ok (.aload_n 0, 1) := by decide +kernel
theorem dX4_canBeBetter_6 : decode cX4_canBeBetter 6 = .ok (.getfield 9, 3) := by decide +kernel
theorem dX4_canBeBetter_9 : decode cX4_canBeBetter 9 = .ok (.ifCond .eq 24, 3) := by decide +kernel
theorem dX4_canBeBetter_12 : decode cX4_canBeBetter 12 = .ok (.iload_n 3, 1) := by decide +kernel
theorem dX4_canBeBetter_13 : decode cX4_canBeBetter 13 = .ok (.iload_n 1, 1) := by decide +kernel
theorem dX4_canBeBetter_14 : decode cX4_canBeBetter 14 = .ok (.invokestatic 42, 3) := by decide +kernel
theorem dX4_canBeBetter_17 : decode cX4_canBeBetter 17 = .ok (.iadd, 1) := by decide +kernel
theorem dX4_canBeBetter_18 : decode cX4_canBeBetter 18 = .ok (.aload_n 0, 1) := by decide +kernel
theorem dX4_canBeBetter_19 : decode cX4_canBeBetter 19 = .ok (.getfield 18, 3) := by decide +kernel
theorem dX4_canBeBetter_22 : decode cX4_canBeBetter 22 = .ok (.if_icmp .le 7, 3) := by decide +kernel
theorem dX4_canBeBetter_25 : decode cX4_canBeBetter 25 = .ok (.iconst 1, 1) := by decide +kernel
theorem dX4_canBeBetter_26 : decode cX4_canBeBetter 26 = .ok (.goto 20, 3) := by decide +kernel
theorem dX4_canBeBetter_29 : decode cX4_canBeBetter 29 = .ok (.iconst 0, 1) := by decide +kernel
theorem dX4_canBeBetter_30 : decode cX4_canBeBetter 30 = .ok (.goto 16, 3) := by decide +kernel
theorem dX4_canBeBetter_33 : decode cX4_canBeBetter 33 = .ok (.iload_n 3, 1) := by decide +kernel
theorem dX4_canBeBetter_34 : decode cX4_canBeBetter 34 = .ok (.aload_n 0, 1) := by decide +kernel
theorem dX4_canBeBetter_35 : decode cX4_canBeBetter 35 = .ok (.getfield 18, 3) := by decide +kernel
theorem dX4_canBeBetter_38 : decode cX4_canBeBetter 38 = .ok (.if_icmp .ge 7, 3) := by decide +kernel
theorem dX4_canBeBetter_41 : decode cX4_canBeBetter 41 = .ok (.iconst 1, 1) := by decide +kernel
theorem dX4_canBeBetter_42 : decode cX4_canBeBetter 42 = .ok (.goto 4, 3) := by decide +kernel
theorem dX4_canBeBetter_45 : decode cX4_canBeBetter 45 = .ok (.iconst 0, 1) := by decide +kernel
theorem dX4_canBeBetter_46 : decode cX4_canBeBetter 46 = .ok (.ireturn, 1) := by decide +kernel
theorem dX5_init_0 : decode cX5_init 0 = .ok (.aload_n 0, 1) := by decide +kernel
theorem dX5_init_1 : decode cX5_init 1 = .ok (.invokespecial 3, 3) := by decide +kernel
theorem dX5_init_4 : decode cX5_init 4 = .ok (.aload_n 0, 1) := by decide +kernel
theorem dX5_init_5 : decode cX5_init 5 = .ok (.iconst 4, 1) := by decide +kernel
theorem dX5_init_6 : decode cX5_init 6 = .ok (.bipush 40, 2) := by decide +kernel
theorem dX5_init_8 : decode cX5_init 8 = .ok (.multianewarray 9 2, 4) := by decide +kernel
theorem dX5_init_12 : decode cX5_init 12 = .ok (.putfield 11, 3) := by decide +kernel
theorem dX5_init_15 : decode cX5_init 15 = .ok (.aload_n 0, 1) := by decide +kernel
theorem dX5_init_16 : decode cX5_init 16 = .ok (.iconst 4, 1) := by decide +kernel
theorem dX5_init_17 : decode cX5_init 17 = .ok (.newarray .int, 2) := by decide +kernel
theorem dX5_init_19 : decode cX5_init 19 = .ok (.putfield 16, 3) := by decide +kernel
theorem dX5_init_22 : decode cX5_init 22 = .ok (.aload_n 0, 1) := by decide +kernel
theorem dX5_init_23 : decode cX5_init 23 = .ok (.iconst 4, 1) := by decide +kernel
theorem dX5_init_24 : decode cX5_init 24 = .ok (.newarray .int, 2) := by decide +kernel
theorem dX5_init_26 : decode cX5_init 26 = .ok (.putfield 20, 3) := by decide +kernel
theorem dX5_init_29 : decode cX5_init 29 = .ok (.aload_n 0, 1) := by decide +kernel
theorem dX5_init_30 : decode cX5_init 30 = .ok (.getfield 20, 3) := by decide +kernel
theorem dX5_init_33 : decode cX5_init 33 = .ok (.iconst (-1), 1) := by decide +kernel
theorem dX5_init_34 : decode cX5_init 34 = .ok (.invokestatic 23, 3) := by decide +kernel
theorem dX5_init_37 : decode cX5_init 37 = .ok (.return_, 1) := by decide +kernel
theorem dX5_isSheet_0 : decode cX5_isSheet 0 = .ok (.iload_n 0, 1) := by decide +kernel
theorem dX5_isSheet_1 : decode cX5_isSheet 1 = .ok (.ifCond .lt 12, 3) := by decide +kernel
theorem dX5_isSheet_4 : decode cX5_isSheet 4 = .ok (.iload_n 0, 1) := by decide +kernel
theorem dX5_isSheet_5 : decode cX5_isSheet 5 = .ok (.iconst 4, 1) := by decide +kernel
theorem dX5_isSheet_6 : decode cX5_isSheet 6 = .ok (.if_icmp .ge 7, 3) := by decide +kernel
theorem dX5_isSheet_9 : decode cX5_isSheet 9 = .ok (.iconst 1, 1) := by decide +kernel
theorem dX5_isSheet_10 : decode cX5_isSheet 10 = .ok (.goto 4, 3) := by decide +kernel
theorem dX5_isSheet_13 : decode cX5_isSheet 13 = .ok (.iconst 0, 1) := by decide +kernel
theorem dX5_isSheet_14 : decode cX5_isSheet 14 = .ok (.ireturn, 1) := by decide +kernel
theorem dX5_isMissing_0 : decode cX5_isMissing 0 = .ok (.aload_n 0, 1) := by decide +kernel
theorem dX5_isMissing_1 : decode cX5_isMissing 1 = .ok (.getfield 20, 3) := by decide +kernel
theorem dX5_isMissing_4 : decode cX5_isMissing 4 = .ok (.iload_n 1, 1) := by decide +kernel
theorem dX5_isMissing_5 : decode cX5_isMissing 5 = .ok (.iaload, 1) := by decide +kernel
theorem dX5_isMissing_6 : decode cX5_isMissing 6 = .ok (.iconst (-1), 1) := by decide +kernel
theorem dX5_isMissing_7 : decode cX5_isMissing 7 = .ok (.if_icmp .ne 7, 3) := by decide +kernel
theorem dX5_isMissing_10 : decode cX5_isMissing 10 = .ok (.iconst 1, 1) := by decide +kernel
theorem dX5_isMissing_11 : decode cX5_isMissing 11 = .ok (.goto 4, 3) := by decide +kernel
theorem dX5_isMissing_14 : decode cX5_isMissing 14 = .ok (.iconst 0, 1) := by decide +kernel
theorem dX5_isMissing_15 : decode cX5_isMissing 15 = .ok (.ireturn, 1) := by decide +kernel
theorem dX5_hasCell_0 : decode cX5_hasCell 0 = .ok (.iload_n 2, 1) := by decide +kernel
theorem dX5_hasCell_1 : decode cX5_hasCell 1 = .ok (.ifCond .lt 17, 3) := by decide +kernel
theorem dX5_hasCell_4 : decode cX5_hasCell 4 = .ok (.iload_n 2, 1) := by decide +kernel
theorem dX5_hasCell_5 : decode cX5_hasCell 5 = .ok (.aload_n 0, 1) := by decide +kernel
theorem dX5_hasCell_6 : decode cX5_hasCell 6 = .ok (.getfield 16, 3) := by decide +kernel
theorem dX5_hasCell_9 : decode cX5_hasCell 9 = .ok (.iload_n 1, 1) := by decide +kernel
theorem dX5_hasCell_10 : decode cX5_hasCell 10 = .ok (.iaload, 1) := by decide +kernel
theorem dX5_hasCell_11 : decode cX5_hasCell 11 = .ok (.if_icmp .ge 7, 3) := by decide +kernel
theorem dX5_hasCell_14 : decode cX5_hasCell 14 = .ok (.iconst 1, 1) := by decide +kernel
theorem dX5_hasCell_15 : decode cX5_hasCell 15 = .ok (.goto 4, 3) := by decide +kernel
theorem dX5_hasCell_18 : decode cX5_hasCell 18 = .ok (.iconst 0, 1) := by decide +kernel
theorem dX5_hasCell_19 : decode cX5_hasCell 19 = .ok (.ireturn, 1) := by decide +kernel
theorem dX5_hasRange_0 : decode cX5_hasRange 0 = .ok (.iload_n 2, 1) := by decide +kernel
theorem dX5_hasRange_1 : decode cX5_hasRange 1 = .ok (.ifCond .lt 29, 3) := by decide +kernel
theorem dX5_hasRange_4 : decode cX5_hasRange 4 = .ok (.iload_n 2, 1) := by decide +kernel
theorem dX5_hasRange_5 : decode cX5_hasRange 5 = .ok (.aload_n 0, 1) := by decide +kernel
theorem dX5_hasRange_6 : decode cX5_hasRange 6 = .ok (.getfield 16, 3) := by decide +kernel
theorem dX5_hasRange_9 : decode cX5_hasRange 9 = .ok (.iload_n 1, 1) := by decide +kernel
theorem dX5_hasRange_10 : decode cX5_hasRange 10 = .ok (.iaload, 1) := by decide +kernel
theorem dX5_hasRange_11 : decode cX5_hasRange 11 = .ok (.if_icmp .gt 19, 3) := by decide +kernel
theorem dX5_hasRange_14 : decode cX5_hasRange 14 = .ok (.iload_n 3, 1) := by decide +kernel
theorem dX5_hasRange_15 : decode cX5_hasRange 15 = .ok (.aload_n 0, 1) := by decide +kernel
theorem dX5_hasRange_16 : decode cX5_hasRange 16 = .ok (.getfield 16, 3) := by decide +kernel
theorem dX5_hasRange_19 : decode cX5_hasRange 19 = .ok (.iload_n 1, 1) := by decide +kernel
theorem dX5_hasRange_20 : decode cX5_hasRange 20 = .ok (.iaload, 1) := by decide +kernel
theorem dX5_hasRange_21 : decode cX5_hasRange 21 = .ok (.iload_n 2, 1) := by decide +kernel
theorem dX5_hasRange_22 : decode cX5_hasRange 22 = .ok (.isub, 1) := by decide +kernel
theorem dX5_hasRange_23 : decode cX5_hasRange 23 = .ok (.if_icmp .gt 7, 3) := by decide +kernel
theorem dX5_hasRange_26 : decode cX5_hasRange 26 = .ok (.iconst 1, 1) := by decide +kernel
theorem dX5_hasRange_27 : decode cX5_hasRange 27 = .ok (.goto 4, 3) := by decide +kernel
theorem dX5_hasRange_30 : decode cX5_hasRange 30 = .ok (.iconst 0, 1) := by decide +kernel
theorem dX5_hasRange_31 : decode cX5_hasRange 31 = .ok (.ireturn, 1) := by decide +kernel
theorem dX5_cellAt_0 : decode cX5_cellAt 0 = .ok (.aload_n 0, 1) := by decide +kernel
theorem dX5_cellAt_1 : decode cX5_cellAt 1 = .ok (.iload_n 1, 1) := by decide +kernel
theorem dX5_cellAt_2 : decode cX5_cellAt 2 = .ok (.iload_n 2, 1) := by decide +kernel
theorem dX5_cellAt_3 : decode cX5_cellAt 3 = .ok (.invokevirtual 29, 3) := by decide +kernel
theorem dX5_cellAt_6 : decode cX5_cellAt 6 = .ok (.ifCond .eq 14, 3) := by decide +kernel
theorem dX5_cellAt_9 : decode cX5_cellAt 9 = .ok (.aload_n 0, 1) := by decide +kernel
theorem dX5_cellAt_10 : decode cX5_cellAt 10 = .ok (.getfield 11, 3) := by decide +kernel
theorem dX5_cellAt_13 : decode cX5_cellAt 13 = .ok (.iload_n 1, 1) := by decide +kernel
theorem dX5_cellAt_14 : decode cX5_cellAt 14 = .ok (.aaload, 1) := by decide +kernel
theorem dX5_cellAt_15 : decode cX5_cellAt 15 = .ok (.iload_n 2, 1) := by decide +kernel
theorem dX5_cellAt_16 : decode cX5_cellAt 16 = .ok (.iaload, 1) := by decide +kernel
theorem dX5_cellAt_17 : decode cX5_cellAt 17 = .ok (.goto 4, 3) := by decide +kernel
theorem dX5_cellAt_20 : decode cX5_cellAt 20 = .ok (.iconst 0, 1) := by decide +kernel
theorem dX5_cellAt_21 : decode cX5_cellAt 21 = .ok (.ireturn, 1) := by decide +kernel
theorem dX5_makeRow_0 : decode cX5_makeRow 0 = .ok (.aload_n 0, 1) := by decide +kernel
theorem dX5_makeRow_1 : decode cX5_makeRow 1 = .ok (.getfield 20, 3) := by decide +kernel
theorem dX5_makeRow_4 : decode cX5_makeRow 4 = .ok (.iload_n 1, 1) := by decide +kernel
theorem dX5_makeRow_5 : decode cX5_makeRow 5 = .ok (.iload_n 2, 1) := by decide +kernel
theorem dX5_makeRow_6 : decode cX5_makeRow 6 = .ok (.iastore, 1) := by decide +kernel
theorem dX5_makeRow_7 : decode cX5_makeRow 7 = .ok (.aload_n 0, 1) := by decide +kernel
theorem dX5_makeRow_8 : decode cX5_makeRow 8 = .ok (.getfield 16, 3) := by decide +kernel
theorem dX5_makeRow_11 : decode cX5_makeRow 11 = .ok (.iload_n 1, 1) := by decide +kernel
theorem dX5_makeRow_12 : decode cX5_makeRow 12 = .ok (.iload_n 3, 1) := by decide +kernel
theorem dX5_makeRow_13 : decode cX5_makeRow 13 = .ok (.iastore, 1) := by decide +kernel
theorem dX5_makeRow_14 : decode cX5_makeRow 14 = .ok (.aload_n 0, 1) := by decide +kernel
theorem dX5_makeRow_15 : decode cX5_makeRow 15 = .ok (.getfield 11, 3) := by decide +kernel
theorem dX5_makeRow_18 : decode cX5_makeRow 18 = .ok (.iload_n 1, 1) := by decide +kernel
theorem dX5_makeRow_19 : decode cX5_makeRow 19 = .ok (.aaload, 1) := by decide +kernel
theorem dX5_makeRow_20 : decode cX5_makeRow 20 = .ok (.iconst 0, 1) := by decide +kernel
theorem dX5_makeRow_21 : decode cX5_makeRow 21 = .ok (.invokestatic 23, 3) := by decide +kernel
theorem dX5_makeRow_24 : decode cX5_makeRow 24 = .ok (.return_, 1) := by decide +kernel
theorem dX5_putCell_0 : decode cX5_putCell 0 = .ok (.aload_n 0, 1) := by decide +kernel
theorem dX5_putCell_1 : decode cX5_putCell 1 = .ok (.getfield 11, 3) := by decide +kernel
theorem dX5_putCell_4 : decode cX5_putCell 4 = .ok (.iload_n 1, 1) := by decide +kernel
theorem dX5_putCell_5 : decode cX5_putCell 5 = .ok (.aaload, 1) := by decide +kernel
theorem dX5_putCell_6 : decode cX5_putCell 6 = .ok (.iload_n 2, 1) := by decide +kernel
theorem dX5_putCell_7 : decode cX5_putCell 7 = .ok (.aload_n 0, 1) := by decide +kernel
theorem dX5_putCell_8 : decode cX5_putCell 8 = .ok (.getfield 20, 3) := by decide +kernel
theorem dX5_putCell_11 : decode cX5_putCell 11 = .ok (.iload_n 1, 1) := by decide +kernel
theorem dX5_putCell_12 : decode cX5_putCell 12 = .ok (.iaload, 1) := by decide +kernel
theorem dX5_putCell_13 : decode cX5_putCell 13 = .ok (.ifCond .ne 8, 3) := by decide +kernel
theorem dX5_putCell_16 : decode cX5_putCell 16 = .ok (.iload_n 3, 1) := by decide +kernel
theorem dX5_putCell_17 : decode cX5_putCell 17 = .ok (.i2b, 1) := by decide +kernel
theorem dX5_putCell_18 : decode cX5_putCell 18 = .ok (.goto 19, 3) := by decide +kernel
theorem dX5_putCell_21 : decode cX5_putCell 21 = .ok (.aload_n 0, 1) := by decide +kernel
theorem dX5_putCell_22 : decode cX5_putCell 22 = .ok (.getfield 20, 3) := by decide +kernel
theorem dX5_putCell_25 : decode cX5_putCell 25 = .ok (.iload_n 1, 1) := by decide +kernel
theorem dX5_putCell_26 : decode cX5_putCell 26 = .ok (.iaload, 1) := by decide +kernel
theorem dX5_putCell_27 : decode cX5_putCell 27 = .ok (.iconst 1, 1) := by decide +kernel
theorem dX5_putCell_28 : decode cX5_putCell 28 = .ok (.if_icmp .ne 8, 3) := by decide +kernel
theorem dX5_putCell_31 : decode cX5_putCell 31 = .ok (.iload_n 3, 1) := by decide +kernel
theorem dX5_putCell_32 : decode cX5_putCell 32 = .ok (.i2s, 1) := by decide +kernel
theorem dX5_putCell_33 : decode cX5_putCell 33 = .ok (.goto 4, 3) := by decide +kernel
theorem dX5_putCell_36 : decode cX5_putCell 36 = .ok (.iload_n 3, 1) := by decide +kernel
theorem dX5_putCell_37 : decode cX5_putCell 37 = .ok (.iastore, 1) := by decide +kernel
theorem dX5_putCell_38 : decode cX5_putCell 38 = .ok (.return_, 1) := by decide +kernel
theorem dX6_init_0 : decode cX6_init 0 = .ok (.aload_n 0, 1) := by decide +kernel
theorem dX6_init_1 : decode cX6_init 1 = .ok (.invokespecial 3, 3) := by decide +kernel
theorem dX6_init_4 : decode cX6_init 4 = .ok (.aload_n 0, 1) := by decide +kernel
theorem dX6_init_5 : decode cX6_init 5 = .ok (.sipush 160, 3) := by decide +kernel
theorem dX6_init_8 : decode cX6_init 8 = .ok (.newarray .int, 2) := by decide +kernel
theorem dX6_init_10 : decode cX6_init 10 = .ok (.putfield 9, 3) := by decide +kernel
theorem dX6_init_13 : decode cX6_init 13 = .ok (.aload_n 0, 1) := by decide +kernel
theorem dX6_init_14 : decode cX6_init 14 = .ok (.new 15, 3) := by decide +kernel
theorem dX6_init_17 : decode cX6_init 17 = .ok (.dup, 1) := by decide +kernel
theorem dX6_init_18 : decode cX6_init 18 = .ok (.invokespecial 17, 3) := by decide +kernel
theorem dX6_init_21 : decode cX6_init 21 = .ok (.putfield 18, 3) := by decide +kernel
theorem dX6_init_24 : decode cX6_init 24 = .ok (.aload_n 0, 1) := by decide +kernel
theorem dX6_init_25 : decode cX6_init 25 = .ok (.bipush 6, 2) := by decide +kernel
theorem dX6_init_27 : decode cX6_init 27 = .ok (.sipush 160, 3) := by decide +kernel
theorem dX6_init_30 : decode cX6_init 30 = .ok (.multianewarray 22 2, 4) := by decide +kernel
theorem dX6_init_34 : decode cX6_init 34 = .ok (.putfield 24, 3) := by decide +kernel
theorem dX6_init_37 : decode cX6_init 37 = .ok (.aload_n 0, 1) := by decide +kernel
theorem dX6_init_38 : decode cX6_init 38 = .ok (.bipush 6, 2) := by decide +kernel
theorem dX6_init_40 : decode cX6_init 40 = .ok (.iconst 4, 1) := by decide +kernel
theorem dX6_init_41 : decode cX6_init 41 = .ok (.multianewarray 22 2, 4) := by decide +kernel
theorem dX6_init_45 : decode cX6_init 45 = .ok (.putfield 27, 3) := by decide +kernel
theorem dX6_init_48 : decode cX6_init 48 = .ok (.aload_n 0, 1) := by decide +kernel
theorem dX6_init_49 : decode cX6_init 49 = .ok (.bipush 6, 2) := by decide +kernel
theorem dX6_init_51 : decode cX6_init 51 = .ok (.newarray .int, 2) := by decide +kernel
theorem dX6_init_53 : decode cX6_init 53 = .ok (.putfield 30, 3) := by decide +kernel
theorem dX6_init_56 : decode cX6_init 56 = .ok (.aload_n 0, 1) := by decide +kernel
theorem dX6_init_57 : decode cX6_init 57 = .ok (.bipush 64, 2) := by decide +kernel
theorem dX6_init_59 : decode cX6_init 59 = .ok (.newarray .int, 2) := by decide +kernel
theorem dX6_init_61 : decode cX6_init 61 = .ok (.putfield 33, 3) := by decide +kernel
theorem dX6_init_64 : decode cX6_init 64 = .ok (.iconst 0, 1) := by decide +kernel
theorem dX6_init_65 : decode cX6_init 65 = .ok (.istore_n 1, 1) := by decide +kernel
theorem dX6_init_66 : decode cX6_init 66 = .ok (.iload_n 1, 1) := by decide +kernel
theorem dX6_init_67 : decode cX6_init 67 = .ok (.ldc 36, 2) := by decide +kernel
theorem dX6_init_69 : decode cX6_init 69 = .ok (.invokevirtual 38, 3) := by decide +kernel
theorem dX6_init_72 : decode cX6_init 72 = .ok (.if_icmp .ge 19, 3) := by decide +kernel
theorem dX6_init_75 : decode cX6_init 75 = .ok (.aload_n 0, 1) := by decide +kernel
theorem dX6_init_76 : decode cX6_init 76 = .ok (.ldc 36, 2) := by decide +kernel
theorem dX6_init_78 : decode cX6_init 78 = .ok (.iload_n 1, 1) := by decide +kernel
theorem dX6_init_79 : decode cX6_init 79 = .ok (.invokevirtual 44, 3) := by decide +kernel
theorem dX6_init_82 : decode cX6_init 82 = .ok (.invokevirtual 48, 3) := by decide +kernel
theorem dX6_init_85 : decode cX6_init 85 = .ok (.iinc 1 1, 3) := by decide +kernel
theorem dX6_init_88 : decode cX6_init 88 = .ok (.goto (-22), 3) := by decide +kernel
theorem dX6_init_91 : decode cX6_init 91 = .ok (.aload_n 0, 1) := by decide +kernel
theorem dX6_init_92 : decode cX6_init 92 = .ok (.invokevirtual 52, 3) := by decide +kernel
theorem dX6_init_95 : decode cX6_init 95 = .ok (.pop, 1) := by decide +kernel
theorem dX6_init_96 : decode cX6_init 96 = .ok (.return_, 1) := by decide +kernel
theorem dX6_addByte_0 : decode cX6_addByte 0 = .ok (.aload_n 0, 1) := by decide +kernel
theorem dX6_addByte_1 : decode cX6_addByte 1 = .ok (.getfield 55, 3) := by decide +kernel
theorem dX6_addByte_4 : decode cX6_addByte 4 = .ok (.sipush 160, 3) := by decide +kernel
theorem dX6_addByte_7 : decode cX6_addByte 7 = .ok (.if_icmp .ge 23, 3) := by decide +kernel
theorem dX6_addByte_10 : decode cX6_addByte 10 = .ok (.aload_n 0, 1) := by decide +kernel
theorem dX6_addByte_11 : decode cX6_addByte 11 = .ok (.getfield 9, 3) := by decide +kernel
theorem dX6_addByte_14 : decode cX6_addByte 14 = .ok (.aload_n 0, 1) := by decide +kernel
theorem dX6_addByte_15 : decode cX6_addByte 15 = .ok (.getfield 55, 3) := by decide +kernel
theorem dX6_addByte_18 : decode cX6_addByte 18 = .ok (.iload_n 1, 1) := by decide +kernel
theorem dX6_addByte_19 : decode cX6_addByte 19 = .ok (.iastore, 1) := by decide +kernel
theorem dX6_addByte_20 : decode cX6_addByte 20 = .ok (.aload_n 0, 1) := by decide +kernel
theorem dX6_addByte_21 : decode cX6_addByte 21 = .ok (.dup, 1) := by decide +kernel
theorem dX6_addByte_22 : decode cX6_addByte 22 = .ok (.getfield 55, 3) := by decide +kernel
theorem dX6_addByte_25 : decode cX6_addByte 25 = .ok (.iconst 1, 1) := by decide +kernel
theorem dX6_addByte_26 : decode cX6_addByte 26 = .ok (.iadd, 1) := by decide +kernel
theorem dX6_addByte_27 : decode cX6_addByte 27 = .ok (.putfield 55, 3) := by decide +kernel
theorem dX6_addByte_30 : decode cX6_addByte 30 = .ok (.return_, 1) := by decide +kernel
theorem dX6_readTape_0 : decode cX6_readTape 0 = .ok (.aload_n 0, 1) := by decide +kernel
theorem dX6_readTape_1 : decode cX6_readTape 1 = .ok (.getfield 18, 3) := by decide +kernel
theorem dX6_readTape_4 : decode cX6_readTape 4 = .ok (.aload_n 0, 1) := by decide +kernel
theorem dX6_readTape_5 : decode cX6_readTape 5 = .ok (.getfield 9, 3) := by decide +kernel
theorem dX6_readTape_8 : decode cX6_readTape 8 = .ok (.aload_n 0, 1) := by decide +kernel
theorem dX6_readTape_9 : decode cX6_readTape 9 = .ok (.getfield 55, 3) := by decide +kernel
theorem dX6_readTape_12 : decode cX6_readTape 12 = .ok (.invokevirtual 59, 3) := by decide +kernel
theorem dX6_readTape_15 : decode cX6_readTape 15 = .ok (.istore_n 1, 1) := by decide +kernel
theorem dX6_readTape_16 : decode cX6_readTape 16 = .ok (.aload_n 0, 1) := by decide +kernel
theorem dX6_readTape_17 : decode cX6_readTape 17 = .ok (.iconst 0, 1) := by decide +kernel
theorem dX6_readTape_18 : decode cX6_readTape 18 = .ok (.putfield 55, 3) := by decide +kernel
theorem dX6_readTape_21 : decode cX6_readTape 21 = .ok (.iload_n 1, 1) := by decide +kernel
theorem dX6_readTape_22 : decode cX6_readTape 22 = .ok (.ifCond .ge 68, 3) := by decide +kernel
theorem dX6_readTape_25 : decode cX6_readTape 25 = .ok (.aload_n 0, 1) := by decide +kernel
theorem dX6_readTape_26 : decode cX6_readTape 26 = .ok (.getfield 63, 3) := by decide +kernel
theorem dX6_readTape_29 : decode cX6_readTape 29 = .ok (.bipush 6, 2) := by decide +kernel
theorem dX6_readTape_31 : decode cX6_readTape 31 = .ok (.if_icmp .ge 59, 3) := by decide +kernel
theorem dX6_readTape_34 : decode cX6_readTape 34 = .ok (.aload_n 0, 1) := by decide +kernel
theorem dX6_readTape_35 : decode cX6_readTape 35 = .ok (.getfield 18, 3) := by decide +kernel
theorem dX6_readTape_38 : decode cX6_readTape 38 = .ok (.getfield 66, 3) := by decide +kernel
theorem dX6_readTape_41 : decode cX6_readTape 41 = .ok (.iconst 0, 1) := by decide +kernel
theorem dX6_readTape_42 : decode cX6_readTape 42 = .ok (.aload_n 0, 1) := by decide +kernel
theorem dX6_readTape_43 : decode cX6_readTape 43 = .ok (.getfield 24, 3) := by decide +kernel
theorem dX6_readTape_46 : decode cX6_readTape 46 = .ok (.aload_n 0, 1) := by decide +kernel
theorem dX6_readTape_47 : decode cX6_readTape 47 = .ok (.getfield 63, 3) := by decide +kernel
theorem dX6_readTape_50 : decode cX6_readTape 50 = .ok (.aaload, 1) := by decide +kernel
theorem dX6_readTape_51 : decode cX6_readTape 51 = .ok (.iconst 0, 1) := by decide +kernel
theorem dX6_readTape_52 : decode cX6_readTape 52 = .ok (.sipush 160, 3) := by decide +kernel
theorem dX6_readTape_55 : decode cX6_readTape 55 = .ok (.invokestatic 69, 3) := by decide +kernel
theorem dX6_readTape_58 : decode cX6_readTape 58 = .ok (.aload_n 0, 1) := by decide +kernel
theorem dX6_readTape_59 : decode cX6_readTape 59 = .ok (.getfield 18, 3) := by decide +kernel
theorem dX6_readTape_62 : decode cX6_readTape 62 = .ok (.getfield 75, 3) := by decide +kernel
theorem dX6_readTape_65 : decode cX6_readTape 65 = .ok (.iconst 0, 1) := by decide +kernel
theorem dX6_readTape_66 : decode cX6_readTape 66 = .ok (.aload_n 0, 1) := by decide +kernel
theorem dX6_readTape_67 : decode cX6_readTape 67 = .ok (.getfield 27, 3) := by decide +kernel
theorem dX6_readTape_70 : decode cX6_readTape 70 = .ok (.aload_n 0, 1) := by decide +kernel
theorem dX6_readTape_71 : decode cX6_readTape 71 = .ok (.getfield 63, 3) := by decide +kernel
theorem dX6_readTape_74 : decode cX6_readTape 74 = .ok (.aaload, 1) := by decide +kernel
theorem dX6_readTape_75 : decode cX6_readTape 75 = .ok (.iconst 0, 1) := by decide +kernel
theorem dX6_readTape_76 : decode cX6_readTape 76 = .ok (.iconst 4, 1) := by decide +kernel
theorem dX6_readTape_77 : decode cX6_readTape 77 = .ok (.invokestatic 69, 3) := by decide +kernel
theorem dX6_readTape_80 : decode cX6_readTape 80 = .ok (.aload_n 0, 1) := by decide +kernel
theorem dX6_readTape_81 : decode cX6_readTape 81 = .ok (.dup, 1) := by decide +kernel
theorem dX6_readTape_82 : decode cX6_readTape 82 = .ok (.getfield 63, 3) := by decide +kernel
theorem dX6_readTape_85 : decode cX6_readTape 85 = .ok (.iconst 1, 1) := by decide +kernel
theorem dX6_readTape_86 : decode cX6_readTape 86 = .ok (.iadd, 1) := by decide +kernel
theorem dX6_readTape_87 : decode cX6_readTape 87 = .ok (.putfield 63, 3) := by decide +kernel
theorem dX6_readTape_90 : decode cX6_readTape 90 = .ok (.iload_n 1, 1) := by decide +kernel
theorem dX6_readTape_91 : decode cX6_readTape 91 = .ok (.ireturn, 1) := by decide +kernel
theorem dX6_says_0 : decode cX6_says 0 = .ok (.aload_n 2, 1) := by decide +kernel
theorem dX6_says_1 : decode cX6_says 1 = .ok (.getfield 77, 3) := by decide +kernel
theorem dX6_says_4 : decode cX6_says 4 = .ok (.ifCond .lt 22, 3) := by decide +kernel
theorem dX6_says_7 : decode cX6_says 7 = .ok (.aload_n 2, 1) := by decide +kernel
theorem dX6_says_8 : decode cX6_says 8 = .ok (.getfield 77, 3) := by decide +kernel
theorem dX6_says_11 : decode cX6_says 11 = .ok (.aload_n 0, 1) := by decide +kernel
theorem dX6_says_12 : decode cX6_says 12 = .ok (.getfield 63, 3) := by decide +kernel
theorem dX6_says_15 : decode cX6_says 15 = .ok (.if_icmp .ge 11, 3) := by decide +kernel
theorem dX6_says_18 : decode cX6_says 18 = .ok (.aload_n 2, 1) := by decide +kernel
theorem dX6_says_19 : decode cX6_says 19 = .ok (.iload_n 3, 1) := by decide +kernel
theorem dX6_says_20 : decode cX6_says 20 = .ok (.invokevirtual 82, 3) := by decide +kernel
theorem dX6_says_23 : decode cX6_says 23 = .ok (.ifCond .ne 5, 3) := by decide +kernel
theorem dX6_says_26 : decode cX6_says 26 = .ok (.iconst 0, 1) := by decide +kernel
theorem dX6_says_27 : decode cX6_says 27 = .ok (.ireturn, 1) := by decide +kernel
theorem dX6_says_28 : decode cX6_says 28 = .ok (.aload_n 0, 1) := by decide +kernel
theorem dX6_says_29 : decode cX6_says 29 = .ok (.getfield 30, 3) := by decide +kernel
theorem dX6_says_32 : decode cX6_says 32 = .ok (.iconst 0, 1) := by decide +kernel
theorem dX6_says_33 : decode cX6_says 33 = .ok (.iload 4, 2) := by decide +kernel
theorem dX6_says_35 : decode cX6_says 35 = .ok (.iastore, 1) := by decide +kernel
theorem dX6_says_36 : decode cX6_says 36 = .ok (.aload_n 0, 1) := by decide +kernel
theorem dX6_says_37 : decode cX6_says 37 = .ok (.getfield 30, 3) := by decide +kernel
theorem dX6_says_40 : decode cX6_says 40 = .ok (.iconst 1, 1) := by decide +kernel
theorem dX6_says_41 : decode cX6_says 41 = .ok (.iload_n 3, 1) := by decide +kernel
theorem dX6_says_42 : decode cX6_says 42 = .ok (.iastore, 1) := by decide +kernel
theorem dX6_says_43 : decode cX6_says 43 = .ok (.aload_n 0, 1) := by decide +kernel
theorem dX6_says_44 : decode cX6_says 44 = .ok (.getfield 30, 3) := by decide +kernel
theorem dX6_says_47 : decode cX6_says 47 = .ok (.iconst 2, 1) := by decide +kernel
theorem dX6_says_48 : decode cX6_says 48 = .ok (.aload_n 2, 1) := by decide +kernel
theorem dX6_says_49 : decode cX6_says 49 = .ok (.getfield 86, 3) := by decide +kernel
theorem dX6_says_52 : decode cX6_says 52 = .ok (.iload_n 3, 1) := by decide +kernel
theorem dX6_says_53 : decode cX6_says 53 = .ok (.iaload, 1) := by decide +kernel
theorem dX6_says_54 : decode cX6_says 54 = .ok (.invokestatic 89, 3) := by decide +kernel
theorem dX6_says_57 : decode cX6_says 57 = .ok (.iastore, 1) := by decide +kernel
theorem dX6_says_58 : decode cX6_says 58 = .ok (.aload_n 0, 1) := by decide +kernel
theorem dX6_says_59 : decode cX6_says 59 = .ok (.getfield 30, 3) := by decide +kernel
theorem dX6_says_62 : decode cX6_says 62 = .ok (.iconst 3, 1) := by decide +kernel
theorem dX6_says_63 : decode cX6_says 63 = .ok (.iload 5, 2) := by decide +kernel
theorem dX6_says_65 : decode cX6_says 65 = .ok (.iastore, 1) := by decide +kernel
theorem dX6_says_66 : decode cX6_says 66 = .ok (.aload_n 0, 1) := by decide +kernel
theorem dX6_says_67 : decode cX6_says 67 = .ok (.getfield 30, 3) := by decide +kernel
theorem dX6_says_70 : decode cX6_says 70 = .ok (.iconst 4, 1) := by decide +kernel
theorem dX6_says_71 : decode cX6_says 71 = .ok (.aload_n 2, 1) := by decide +kernel
theorem dX6_says_72 : decode cX6_says 72 = .ok (.getfield 95, 3) := by decide +kernel
theorem dX6_says_75 : decode cX6_says 75 = .ok (.iload_n 3, 1) := by decide +kernel
theorem dX6_says_76 : decode cX6_says 76 = .ok (.iaload, 1) := by decide +kernel
theorem dX6_says_77 : decode cX6_says 77 = .ok (.iastore, 1) := by decide +kernel
theorem dX6_says_78 : decode cX6_says 78 = .ok (.aload_n 0, 1) := by decide +kernel
theorem dX6_says_79 : decode cX6_says 79 = .ok (.getfield 30, 3) := by decide +kernel
theorem dX6_says_82 : decode cX6_says 82 = .ok (.iconst 5, 1) := by decide +kernel
theorem dX6_says_83 : decode cX6_says 83 = .ok (.aload_n 2, 1) := by decide +kernel
theorem dX6_says_84 : decode cX6_says 84 = .ok (.getfield 98, 3) := by decide +kernel
theorem dX6_says_87 : decode cX6_says 87 = .ok (.iastore, 1) := by decide +kernel
theorem dX6_says_88 : decode cX6_says 88 = .ok (.aload_n 0, 1) := by decide +kernel
theorem dX6_says_89 : decode cX6_says 89 = .ok (.aload_n 0, 1) := by decide +kernel
theorem dX6_says_90 : decode cX6_says 90 = .ok (.getfield 24, 3) := by decide +kernel
theorem dX6_says_93 : decode cX6_says 93 = .ok (.aload_n 2, 1) := by decide +kernel
theorem dX6_says_94 : decode cX6_says 94 = .ok (.getfield 77, 3) := by decide +kernel
theorem dX6_says_97 : decode cX6_says 97 = .ok (.aaload, 1) := by decide +kernel
theorem dX6_says_98 : decode cX6_says 98 = .ok (.aload_n 0, 1) := by decide +kernel
theorem dX6_says_99 : decode cX6_says 99 = .ok (.getfield 27, 3) := by decide +kernel
theorem dX6_says_102 : decode cX6_says 102 = .ok (.aload_n 2, 1) := by decide +kernel
theorem dX6_says_103 : decode cX6_says 103 = .ok (.getfield 77, 3) := by decide +kernel
theorem dX6_says_106 : decode cX6_says 106 = .ok (.aaload, 1) := by decide +kernel
theorem dX6_says_107 : decode cX6_says 107 = .ok (.iload_n 1, 1) := by decide +kernel
theorem dX6_says_108 : decode cX6_says 108 = .ok (.iaload, 1) := by decide +kernel
theorem dX6_says_109 : decode cX6_says 109 = .ok (.aload_n 0, 1) := by decide +kernel
theorem dX6_says_110 : decode cX6_says 110 = .ok (.getfield 27, 3) := by decide +kernel
theorem dX6_says_113 : decode cX6_says 113 = .ok (.aload_n 2, 1) := by decide +kernel
theorem dX6_says_114 : decode cX6_says 114 = .ok (.getfield 77, 3) := by decide +kernel
theorem dX6_says_117 : decode cX6_says 117 = .ok (.aaload, 1) := by decide +kernel
theorem dX6_says_118 : decode cX6_says 118 = .ok (.iload_n 1, 1) := by decide +kernel
theorem dX6_says_119 : decode cX6_says 119 = .ok (.iconst 1, 1) := by decide +kernel
theorem dX6_says_120 : decode cX6_says 120 = .ok (.iadd, 1) := by decide +kernel
theorem dX6_says_121 : decode cX6_says 121 = .ok (.iaload, 1) := by decide +kernel
theorem dX6_says_122 : decode cX6_says 122 = .ok (.invokevirtual 101, 3) := by decide +kernel
theorem dX6_says_125 : decode cX6_says 125 = .ok (.istore 6, 2) := by decide +kernel
theorem dX6_says_127 : decode cX6_says 127 = .ok (.iload_n 1, 1) := by decide +kernel
theorem dX6_says_128 : decode cX6_says 128 = .ok (.iconst 2, 1) := by decide +kernel
theorem dX6_says_129 : decode cX6_says 129 = .ok (.if_icmp .ne 14, 3) := by decide +kernel
theorem dX6_says_132 : decode cX6_says 132 = .ok (.iload 6, 2) := by decide +kernel
theorem dX6_says_134 : decode cX6_says 134 = .ok (.ifCond .eq 7, 3) := by decide +kernel
theorem dX6_says_137 : decode cX6_says 137 = .ok (.iconst 1, 1) := by decide +kernel
theorem dX6_says_138 : decode cX6_says 138 = .ok (.goto 4, 3) := by decide +kernel
theorem dX6_says_141 : decode cX6_says 141 = .ok (.iconst 0, 1) := by decide +kernel
theorem dX6_says_142 : decode cX6_says 142 = .ok (.ireturn, 1) := by decide +kernel
theorem dX6_says_143 : decode cX6_says 143 = .ok (.iconst 0, 1) := by decide +kernel
theorem dX6_says_144 : decode cX6_says 144 = .ok (.bipush 99, 2) := by decide +kernel
theorem dX6_says_146 : decode cX6_says 146 = .ok (.iload 6, 2) := by decide +kernel
theorem dX6_says_148 : decode cX6_says 148 = .ok (.invokestatic 105, 3) := by decide +kernel
theorem dX6_says_151 : decode cX6_says 151 = .ok (.invokestatic 111, 3) := by decide +kernel
theorem dX6_says_154 : decode cX6_says 154 = .ok (.ireturn, 1) := by decide +kernel
theorem dX6_valueOf_0 : decode cX6_valueOf 0 = .ok (.iconst 0, 1) := by decide +kernel
theorem dX6_valueOf_1 : decode cX6_valueOf 1 = .ok (.istore 4, 2) := by decide +kernel
theorem dX6_valueOf_3 : decode cX6_valueOf 3 = .ok (.iload_n 2, 1) := by decide +kernel
theorem dX6_valueOf_4 : decode cX6_valueOf 4 = .ok (.istore 5, 2) := by decide +kernel
theorem dX6_valueOf_6 : decode cX6_valueOf 6 = .ok (.iload 5, 2) := by decide +kernel
theorem dX6_valueOf_8 : decode cX6_valueOf 8 = .ok (.iload_n 3, 1) := by decide +kernel
theorem dX6_valueOf_9 : decode cX6_valueOf 9 = .ok (.if_icmp .ge 152, 3) := by decide +kernel
theorem dX6_valueOf_12 : decode cX6_valueOf 12 = .ok (.aload_n 1, 1) := by decide +kernel
theorem dX6_valueOf_13 : decode cX6_valueOf 13 = .ok (.iload 5, 2) := by decide +kernel
theorem dX6_valueOf_15 : decode cX6_valueOf 15 = .ok (.iaload, 1) := by decide +kernel
theorem dX6_valueOf_16 : decode cX6_valueOf 16 = .ok (.istore 6, 2) := by decide +kernel
theorem dX6_valueOf_18 : decode cX6_valueOf 18 = .ok (.iload 6, 2) := by decide +kernel
theorem dX6_valueOf_20 : decode cX6_valueOf 20 = .ok (.sipush 20000, 3) := by decide +kernel
theorem dX6_valueOf_23 : decode cX6_valueOf 23 = .ok (.if_icmp .ge 49, 3) := by decide +kernel
theorem dX6_valueOf_26 : decode cX6_valueOf 26 = .ok (.iload 4, 2) := by decide +kernel
theorem dX6_valueOf_28 : decode cX6_valueOf 28 = .ok (.bipush 64, 2) := by decide +kernel
theorem dX6_valueOf_30 : decode cX6_valueOf 30 = .ok (.if_icmp .lt 5, 3) := by decide +kernel
theorem dX6_valueOf_33 : decode cX6_valueOf 33 = .ok (.iconst 0, 1) := by decide +kernel
theorem dX6_valueOf_34 : decode cX6_valueOf 34 = .ok (.ireturn, 1) := by decide +kernel
theorem dX6_valueOf_35 : decode cX6_valueOf 35 = .ok (.aload_n 0, 1) := by decide +kernel
theorem dX6_valueOf_36 : decode cX6_valueOf 36 = .ok (.getfield 33, 3) := by decide +kernel
theorem dX6_valueOf_39 : decode cX6_valueOf 39 = .ok (.iload 4, 2) := by decide +kernel
theorem dX6_valueOf_41 : decode cX6_valueOf 41 = .ok (.iload 6, 2) := by decide +kernel
theorem dX6_valueOf_43 : decode cX6_valueOf 43 = .ok (.sipush 10000, 3) := by decide +kernel
theorem dX6_valueOf_46 : decode cX6_valueOf 46 = .ok (.if_icmp .ge 8, 3) := by decide +kernel
theorem dX6_valueOf_49 : decode cX6_valueOf 49 = .ok (.iload 6, 2) := by decide +kernel
theorem dX6_valueOf_51 : decode cX6_valueOf 51 = .ok (.goto 14, 3) := by decide +kernel
theorem dX6_valueOf_54 : decode cX6_valueOf 54 = .ok (.aload_n 0, 1) := by decide +kernel
theorem dX6_valueOf_55 : decode cX6_valueOf 55 = .ok (.getfield 30, 3) := by decide +kernel
theorem dX6_valueOf_58 : decode cX6_valueOf 58 = .ok (.iload 6, 2) := by decide +kernel
theorem dX6_valueOf_60 : decode cX6_valueOf 60 = .ok (.sipush 10000, 3) := by decide +kernel
theorem dX6_valueOf_63 : decode cX6_valueOf 63 = .ok (.isub, 1) := by decide +kernel
theorem dX6_valueOf_64 : decode cX6_valueOf 64 = .ok (.iaload, 1) := by decide +kernel
theorem dX6_valueOf_65 : decode cX6_valueOf 65 = .ok (.iastore, 1) := by decide +kernel
theorem dX6_valueOf_66 : decode cX6_valueOf 66 = .ok (.iinc 4 1, 3) := by decide +kernel
theorem dX6_valueOf_69 : decode cX6_valueOf 69 = .ok (.goto 86, 3) := by decide +kernel
theorem dX6_valueOf_72 : decode cX6_valueOf 72 = .ok (.iload 6, 2) := by decide +kernel
theorem dX6_valueOf_74 : decode cX6_valueOf 74 = .ok (.invokestatic 114, 3) := by decide +kernel
theorem dX6_valueOf_77 : decode cX6_valueOf 77 = .ok (.ifCond .eq 37, 3) := by decide +kernel
theorem dX6_valueOf_80 : decode cX6_valueOf 80 = .ok (.iload 4, 2) := by decide +kernel
theorem dX6_valueOf_82 : decode cX6_valueOf 82 = .ok (.iconst 1, 1) := by decide +kernel
theorem dX6_valueOf_83 : decode cX6_valueOf 83 = .ok (.if_icmp .ge 5, 3) := by decide +kernel
theorem dX6_valueOf_86 : decode cX6_valueOf 86 = .ok (.iconst 0, 1) := by decide +kernel
theorem dX6_valueOf_87 : decode cX6_valueOf 87 = .ok (.ireturn, 1) := by decide +kernel
theorem dX6_valueOf_88 : decode cX6_valueOf 88 = .ok (.aload_n 0, 1) := by decide +kernel
theorem dX6_valueOf_89 : decode cX6_valueOf 89 = .ok (.getfield 33, 3) := by decide +kernel
theorem dX6_valueOf_92 : decode cX6_valueOf 92 = .ok (.iload 4, 2) := by decide +kernel
theorem dX6_valueOf_94 : decode cX6_valueOf 94 = .ok (.iconst 1, 1) := by decide +kernel
theorem dX6_valueOf_95 : decode cX6_valueOf 95 = .ok (.isub, 1) := by decide +kernel
theorem dX6_valueOf_96 : decode cX6_valueOf 96 = .ok (.iload 6, 2) := by decide +kernel
theorem dX6_valueOf_98 : decode cX6_valueOf 98 = .ok (.aload_n 0, 1) := by decide +kernel
theorem dX6_valueOf_99 : decode cX6_valueOf 99 = .ok (.getfield 33, 3) := by decide +kernel
theorem dX6_valueOf_102 : decode cX6_valueOf 102 = .ok (.iload 4, 2) := by decide +kernel
theorem dX6_valueOf_104 : decode cX6_valueOf 104 = .ok (.iconst 1, 1) := by decide +kernel
theorem dX6_valueOf_105 : decode cX6_valueOf 105 = .ok (.isub, 1) := by decide +kernel
theorem dX6_valueOf_106 : decode cX6_valueOf 106 = .ok (.iaload, 1) := by decide +kernel
theorem dX6_valueOf_107 : decode cX6_valueOf 107 = .ok (.invokestatic 117, 3) := by decide +kernel
theorem dX6_valueOf_110 : decode cX6_valueOf 110 = .ok (.iastore, 1) := by decide +kernel
theorem dX6_valueOf_111 : decode cX6_valueOf 111 = .ok (.goto 44, 3) := by decide +kernel
theorem dX6_valueOf_114 : decode cX6_valueOf 114 = .ok (.iload 4, 2) := by decide +kernel
theorem dX6_valueOf_116 : decode cX6_valueOf 116 = .ok (.iconst 2, 1) := by decide +kernel
theorem dX6_valueOf_117 : decode cX6_valueOf 117 = .ok (.if_icmp .ge 5, 3) := by decide +kernel
theorem dX6_valueOf_120 : decode cX6_valueOf 120 = .ok (.iconst 0, 1) := by decide +kernel
theorem dX6_valueOf_121 : decode cX6_valueOf 121 = .ok (.ireturn, 1) := by decide +kernel
theorem dX6_valueOf_122 : decode cX6_valueOf 122 = .ok (.iinc 4 (-1), 3) := by decide +kernel
theorem dX6_valueOf_125 : decode cX6_valueOf 125 = .ok (.aload_n 0, 1) := by decide +kernel
theorem dX6_valueOf_126 : decode cX6_valueOf 126 = .ok (.getfield 33, 3) := by decide +kernel
theorem dX6_valueOf_129 : decode cX6_valueOf 129 = .ok (.iload 4, 2) := by decide +kernel
theorem dX6_valueOf_131 : decode cX6_valueOf 131 = .ok (.iconst 1, 1) := by decide +kernel
theorem dX6_valueOf_132 : decode cX6_valueOf 132 = .ok (.isub, 1) := by decide +kernel
theorem dX6_valueOf_133 : decode cX6_valueOf 133 = .ok (.iload 6, 2) := by decide +kernel
theorem dX6_valueOf_135 : decode cX6_valueOf 135 = .ok (.aload_n 0, 1) := by decide +kernel
theorem dX6_valueOf_136 : decode cX6_valueOf 136 = .ok (.getfield 33, 3) := by decide +kernel
theorem dX6_valueOf_139 : decode cX6_valueOf 139 = .ok (.iload 4, 2) := by decide +kernel
theorem dX6_valueOf_141 : decode cX6_valueOf 141 = .ok (.iconst 1, 1) := by decide +kernel
theorem dX6_valueOf_142 : decode cX6_valueOf 142 = .ok (.isub, 1) := by decide +kernel
theorem dX6_valueOf_143 : decode cX6_valueOf 143 = .ok (.iaload, 1) := by decide +kernel
theorem dX6_valueOf_144 : decode cX6_valueOf 144 = .ok (.aload_n 0, 1) := by decide +kernel
theorem dX6_valueOf_145 : decode cX6_valueOf 145 = .ok (.getfield 33, 3) := by decide +kernel
theorem dX6_valueOf_148 : decode cX6_valueOf 148 = .ok (.iload 4, 2) := by decide +kernel
theorem dX6_valueOf_150 : decode cX6_valueOf 150 = .ok (.iaload, 1) := by decide +kernel
theorem dX6_valueOf_151 : decode cX6_valueOf 151 = .ok (.invokestatic 120, 3) := by decide +kernel
theorem dX6_valueOf_154 : decode cX6_valueOf 154 = .ok (.iastore, 1) := by decide +kernel
theorem dX6_valueOf_155 : decode cX6_valueOf 155 = .ok (.iinc 5 1, 3) := by decide +kernel
theorem dX6_valueOf_158 : decode cX6_valueOf 158 = .ok (.goto (-152), 3) := by decide +kernel
theorem dX6_valueOf_161 : decode cX6_valueOf 161 = .ok (.aload_n 0, 1) := by decide +kernel
theorem dX6_valueOf_162 : decode cX6_valueOf 162 = .ok (.getfield 33, 3) := by decide +kernel
theorem dX6_valueOf_165 : decode cX6_valueOf 165 = .ok (.iconst 0, 1) := by decide +kernel
theorem dX6_valueOf_166 : decode cX6_valueOf 166 = .ok (.iaload, 1) := by decide +kernel
theorem dX6_valueOf_167 : decode cX6_valueOf 167 = .ok (.ireturn, 1) := by decide +kernel
theorem dX6_unary_0 : decode cX6_unary 0 = .ok (.iload_n 0, 1) := by decide +kernel
theorem dX6_unary_1 : decode cX6_unary 1 = .ok (.sipush 20010, 3) := by decide +kernel
theorem dX6_unary_4 : decode cX6_unary 4 = .ok (.if_icmp .ne 6, 3) := by decide +kernel
theorem dX6_unary_7 : decode cX6_unary 7 = .ok (.iload_n 1, 1) := by decide +kernel
theorem dX6_unary_8 : decode cX6_unary 8 = .ok (.ineg, 1) := by decide +kernel
theorem dX6_unary_9 : decode cX6_unary 9 = .ok (.ireturn, 1) := by decide +kernel
theorem dX6_unary_10 : decode cX6_unary 10 = .ok (.iload_n 1, 1) := by decide +kernel
theorem dX6_unary_11 : decode cX6_unary 11 = .ok (.ifCond .ne 7, 3) := by decide +kernel
theorem dX6_unary_14 : decode cX6_unary 14 = .ok (.iconst 1, 1) := by decide +kernel
theorem dX6_unary_15 : decode cX6_unary 15 = .ok (.goto 4, 3) := by decide +kernel
theorem dX6_unary_18 : decode cX6_unary 18 = .ok (.iconst 0, 1) := by decide +kernel
theorem dX6_unary_19 : decode cX6_unary 19 = .ok (.ireturn, 1) := by decide +kernel
theorem dX6_binary_0 : decode cX6_binary 0 = .ok (.iload_n 0, 1) := by decide +kernel
theorem dX6_binary_1 : decode cX6_binary 1 = .ok (.sipush 20000, 3) := by decide +kernel
theorem dX6_binary_4 : decode cX6_binary 4 = .ok (.isub, 1) := by decide +kernel
theorem dX6_binary_5 : decode cX6_binary 5 = .ok (.lookupswitch 117 #[(7, 59), (8, 73), (43, 109), (45, 113), (60, 87), (61, 98)], 59) := by decide +kernel
theorem dX6_binary_64 : decode cX6_binary 64 = .ok (.iload_n 1, 1) := by decide +kernel
theorem dX6_binary_65 : decode cX6_binary 65 = .ok (.ifCond .ne 7, 3) := by decide +kernel
theorem dX6_binary_68 : decode cX6_binary 68 = .ok (.iload_n 2, 1) := by decide +kernel
theorem dX6_binary_69 : decode cX6_binary 69 = .ok (.ifCond .eq 7, 3) := by decide +kernel
theorem dX6_binary_72 : decode cX6_binary 72 = .ok (.iconst 1, 1) := by decide +kernel
theorem dX6_binary_73 : decode cX6_binary 73 = .ok (.goto 4, 3) := by decide +kernel
theorem dX6_binary_76 : decode cX6_binary 76 = .ok (.iconst 0, 1) := by decide +kernel
theorem dX6_binary_77 : decode cX6_binary 77 = .ok (.ireturn, 1) := by decide +kernel
theorem dX6_binary_78 : decode cX6_binary 78 = .ok (.iload_n 1, 1) := by decide +kernel
theorem dX6_binary_79 : decode cX6_binary 79 = .ok (.ifCond .eq 11, 3) := by decide +kernel
theorem dX6_binary_82 : decode cX6_binary 82 = .ok (.iload_n 2, 1) := by decide +kernel
theorem dX6_binary_83 : decode cX6_binary 83 = .ok (.ifCond .eq 7, 3) := by decide +kernel
theorem dX6_binary_86 : decode cX6_binary 86 = .ok (.iconst 1, 1) := by decide +kernel
theorem dX6_binary_87 : decode cX6_binary 87 = .ok (.goto 4, 3) := by decide +kernel
theorem dX6_binary_90 : decode cX6_binary 90 = .ok (.iconst 0, 1) := by decide +kernel
theorem dX6_binary_91 : decode cX6_binary 91 = .ok (.ireturn, 1) := by decide +kernel
theorem dX6_binary_92 : decode cX6_binary 92 = .ok (.iload_n 1, 1) := by decide +kernel
theorem dX6_binary_93 : decode cX6_binary 93 = .ok (.iload_n 2, 1) := by decide +kernel
theorem dX6_binary_94 : decode cX6_binary 94 = .ok (.if_icmp .ge 7, 3) := by decide +kernel
theorem dX6_binary_97 : decode cX6_binary 97 = .ok (.iconst 1, 1) := by decide +kernel
theorem dX6_binary_98 : decode cX6_binary 98 = .ok (.goto 4, 3) := by decide +kernel
theorem dX6_binary_101 : decode cX6_binary 101 = .ok (.iconst 0, 1) := by decide +kernel
theorem dX6_binary_102 : decode cX6_binary 102 = .ok (.ireturn, 1) := by decide +kernel
theorem dX6_binary_103 : decode cX6_binary 103 = .ok (.iload_n 1, 1) := by decide +kernel
theorem dX6_binary_104 : decode cX6_binary 104 = .ok (.iload_n 2, 1) := by decide +kernel
theorem dX6_binary_105 : decode cX6_binary 105 = .ok (.if_icmp .ne 7, 3) := by decide +kernel
theorem dX6_binary_108 : decode cX6_binary 108 = .ok (.iconst 1, 1) := by decide +kernel
theorem dX6_binary_109 : decode cX6_binary 109 = .ok (.goto 4, 3) := by decide +kernel
theorem dX6_binary_112 : decode cX6_binary 112 = .ok (.iconst 0, 1) := by decide +kernel
theorem dX6_binary_113 : decode cX6_binary 113 = .ok (.ireturn, 1) := by decide +kernel
theorem dX6_binary_114 : decode cX6_binary 114 = .ok (.iload_n 1, 1) := by decide +kernel
theorem dX6_binary_115 : decode cX6_binary 115 = .ok (.iload_n 2, 1) := by decide +kernel
theorem dX6_binary_116 : decode cX6_binary 116 = .ok (.iadd, 1) := by decide +kernel
theorem dX6_binary_117 : decode cX6_binary 117 = .ok (.ireturn, 1) := by decide +kernel
theorem dX6_binary_118 : decode cX6_binary 118 = .ok (.iload_n 1, 1) := by decide +kernel
theorem dX6_binary_119 : decode cX6_binary 119 = .ok (.iload_n 2, 1) := by decide +kernel
theorem dX6_binary_120 : decode cX6_binary 120 = .ok (.isub, 1) := by decide +kernel
theorem dX6_binary_121 : decode cX6_binary 121 = .ok (.ireturn, 1) := by decide +kernel
theorem dX6_binary_122 : decode cX6_binary 122 = .ok (.iload_n 1, 1) := by decide +kernel
theorem dX6_binary_123 : decode cX6_binary 123 = .ok (.iload_n 2, 1) := by decide +kernel
theorem dX6_binary_124 : decode cX6_binary 124 = .ok (.imul, 1) := by decide +kernel
theorem dX6_binary_125 : decode cX6_binary 125 = .ok (.ireturn, 1) := by decide +kernel
theorem dX7_init_0 : decode cX7_init 0 = .ok (.aload_n 0, 1) := by decide +kernel
theorem dX7_init_1 : decode cX7_init 1 = .ok (.invokespecial 3, 3) := by decide +kernel
theorem dX7_init_4 : decode cX7_init 4 = .ok (.aload_n 0, 1) := by decide +kernel
theorem dX7_init_5 : decode cX7_init 5 = .ok (.bipush 7, 2) := by decide +kernel
theorem dX7_init_7 : decode cX7_init 7 = .ok (.newarray .int, 2) := by decide +kernel
theorem dX7_init_9 : decode cX7_init 9 = .ok (.putfield 9, 3) := by decide +kernel
theorem dX7_init_12 : decode cX7_init 12 = .ok (.aload_n 0, 1) := by decide +kernel
theorem dX7_init_13 : decode cX7_init 13 = .ok (.bipush 7, 2) := by decide +kernel
theorem dX7_init_15 : decode cX7_init 15 = .ok (.newarray .int, 2) := by decide +kernel
theorem dX7_init_17 : decode cX7_init 17 = .ok (.putfield 15, 3) := by decide +kernel
theorem dX7_init_20 : decode cX7_init 20 = .ok (.aload_n 0, 1) := by decide +kernel
theorem dX7_init_21 : decode cX7_init 21 = .ok (.bipush 7, 2) := by decide +kernel
theorem dX7_init_23 : decode cX7_init 23 = .ok (.newarray .int, 2) := by decide +kernel
theorem dX7_init_25 : decode cX7_init 25 = .ok (.putfield 18, 3) := by decide +kernel
theorem dX7_init_28 : decode cX7_init 28 = .ok (.aload_n 0, 1) := by decide +kernel
theorem dX7_init_29 : decode cX7_init 29 = .ok (.bipush 7, 2) := by decide +kernel
theorem dX7_init_31 : decode cX7_init 31 = .ok (.newarray .int, 2) := by decide +kernel
theorem dX7_init_33 : decode cX7_init 33 = .ok (.putfield 21, 3) := by decide +kernel
theorem dX7_init_36 : decode cX7_init 36 = .ok (.aload_n 0, 1) := by decide +kernel
theorem dX7_init_37 : decode cX7_init 37 = .ok (.bipush 7, 2) := by decide +kernel
theorem dX7_init_39 : decode cX7_init 39 = .ok (.newarray .int, 2) := by decide +kernel
theorem dX7_init_41 : decode cX7_init 41 = .ok (.putfield 24, 3) := by decide +kernel
theorem dX7_init_44 : decode cX7_init 44 = .ok (.return_, 1) := by decide +kernel
theorem dX7_becomes_0 : decode cX7_becomes 0 = .ok (.aload_n 0, 1) := by decide +kernel
theorem dX7_becomes_1 : decode cX7_becomes 1 = .ok (.aload_n 1, 1) := by decide +kernel
theorem dX7_becomes_2 : decode cX7_becomes 2 = .ok (.getfield 27, 3) := by decide +kernel
theorem dX7_becomes_5 : decode cX7_becomes 5 = .ok (.putfield 27, 3) := by decide +kernel
theorem dX7_becomes_8 : decode cX7_becomes 8 = .ok (.aload_n 0, 1) := by decide +kernel
theorem dX7_becomes_9 : decode cX7_becomes 9 = .ok (.aload_n 1, 1) := by decide +kernel
theorem dX7_becomes_10 : decode cX7_becomes 10 = .ok (.getfield 31, 3) := by decide +kernel
theorem dX7_becomes_13 : decode cX7_becomes 13 = .ok (.putfield 31, 3) := by decide +kernel
theorem dX7_becomes_16 : decode cX7_becomes 16 = .ok (.aload_n 0, 1) := by decide +kernel
theorem dX7_becomes_17 : decode cX7_becomes 17 = .ok (.aload_n 1, 1) := by decide +kernel
theorem dX7_becomes_18 : decode cX7_becomes 18 = .ok (.getfield 34, 3) := by decide +kernel
theorem dX7_becomes_21 : decode cX7_becomes 21 = .ok (.putfield 34, 3) := by decide +kernel
theorem dX7_becomes_24 : decode cX7_becomes 24 = .ok (.aload_n 0, 1) := by decide +kernel
theorem dX7_becomes_25 : decode cX7_becomes 25 = .ok (.aload_n 1, 1) := by decide +kernel
theorem dX7_becomes_26 : decode cX7_becomes 26 = .ok (.getfield 37, 3) := by decide +kernel
theorem dX7_becomes_29 : decode cX7_becomes 29 = .ok (.putfield 37, 3) := by decide +kernel
theorem dX7_becomes_32 : decode cX7_becomes 32 = .ok (.aload_n 1, 1) := by decide +kernel
theorem dX7_becomes_33 : decode cX7_becomes 33 = .ok (.getfield 9, 3) := by decide +kernel
theorem dX7_becomes_36 : decode cX7_becomes 36 = .ok (.iconst 0, 1) := by decide +kernel
theorem dX7_becomes_37 : decode cX7_becomes 37 = .ok (.aload_n 0, 1) := by decide +kernel
theorem dX7_becomes_38 : decode cX7_becomes 38 = .ok (.getfield 9, 3) := by decide +kernel
theorem dX7_becomes_41 : decode cX7_becomes 41 = .ok (.iconst 0, 1) := by decide +kernel
theorem dX7_becomes_42 : decode cX7_becomes 42 = .ok (.bipush 7, 2) := by decide +kernel
theorem dX7_becomes_44 : decode cX7_becomes 44 = .ok (.invokestatic 40, 3) := by decide +kernel
theorem dX7_becomes_47 : decode cX7_becomes 47 = .ok (.aload_n 1, 1) := by decide +kernel
theorem dX7_becomes_48 : decode cX7_becomes 48 = .ok (.getfield 15, 3) := by decide +kernel
theorem dX7_becomes_51 : decode cX7_becomes 51 = .ok (.iconst 0, 1) := by decide +kernel
theorem dX7_becomes_52 : decode cX7_becomes 52 = .ok (.aload_n 0, 1) := by decide +kernel
theorem dX7_becomes_53 : decode cX7_becomes 53 = .ok (.getfield 15, 3) := by decide +kernel
theorem dX7_becomes_56 : decode cX7_becomes 56 = .ok (.iconst 0, 1) := by decide +kernel
theorem dX7_becomes_57 : decode cX7_becomes 57 = .ok (.bipush 7, 2) := by decide +kernel
theorem dX7_becomes_59 : decode cX7_becomes 59 = .ok (.invokestatic 40, 3) := by decide +kernel
theorem dX7_becomes_62 : decode cX7_becomes 62 = .ok (.aload_n 1, 1) := by decide +kernel
theorem dX7_becomes_63 : decode cX7_becomes 63 = .ok (.getfield 18, 3) := by decide +kernel
theorem dX7_becomes_66 : decode cX7_becomes 66 = .ok (.iconst 0, 1) := by decide +kernel
theorem dX7_becomes_67 : decode cX7_becomes 67 = .ok (.aload_n 0, 1) := by decide +kernel
theorem dX7_becomes_68 : decode cX7_becomes 68 = .ok (.getfield 18, 3) := by decide +kernel
theorem dX7_becomes_71 : decode cX7_becomes 71 = .ok (.iconst 0, 1) := by decide +kernel
theorem dX7_becomes_72 : decode cX7_becomes 72 = .ok (.bipush 7, 2) := by decide +kernel
theorem dX7_becomes_74 : decode cX7_becomes 74 = .ok (.invokestatic 40, 3) := by decide +kernel
theorem dX7_becomes_77 : decode cX7_becomes 77 = .ok (.aload_n 1, 1) := by decide +kernel
theorem dX7_becomes_78 : decode cX7_becomes 78 = .ok (.getfield 21, 3) := by decide +kernel
theorem dX7_becomes_81 : decode cX7_becomes 81 = .ok (.iconst 0, 1) := by decide +kernel
theorem dX7_becomes_82 : decode cX7_becomes 82 = .ok (.aload_n 0, 1) := by decide +kernel
theorem dX7_becomes_83 : decode cX7_becomes 83 = .ok (.getfield 21, 3) := by decide +kernel
theorem dX7_becomes_86 : decode cX7_becomes 86 = .ok (.iconst 0, 1) := by decide +kernel
theorem dX7_becomes_87 : decode cX7_becomes 87 = .ok (.bipush 7, 2) := by decide +kernel
theorem dX7_becomes_89 : decode cX7_becomes 89 = .ok (.invokestatic 40, 3) := by decide +kernel
theorem dX7_becomes_92 : decode cX7_becomes 92 = .ok (.aload_n 1, 1) := by decide +kernel
theorem dX7_becomes_93 : decode cX7_becomes 93 = .ok (.getfield 24, 3) := by decide +kernel
theorem dX7_becomes_96 : decode cX7_becomes 96 = .ok (.iconst 0, 1) := by decide +kernel
theorem dX7_becomes_97 : decode cX7_becomes 97 = .ok (.aload_n 0, 1) := by decide +kernel
theorem dX7_becomes_98 : decode cX7_becomes 98 = .ok (.getfield 24, 3) := by decide +kernel
theorem dX7_becomes_101 : decode cX7_becomes 101 = .ok (.iconst 0, 1) := by decide +kernel
theorem dX7_becomes_102 : decode cX7_becomes 102 = .ok (.bipush 7, 2) := by decide +kernel
theorem dX7_becomes_104 : decode cX7_becomes 104 = .ok (.invokestatic 40, 3) := by decide +kernel
theorem dX7_becomes_107 : decode cX7_becomes 107 = .ok (.return_, 1) := by decide +kernel
theorem dX7_hasLot_0 : decode cX7_hasLot 0 = .ok (.iload_n 1, 1) := by decide +kernel
theorem dX7_hasLot_1 : decode cX7_hasLot 1 = .ok (.ifCond .lt 15, 3) := by decide +kernel
theorem dX7_hasLot_4 : decode cX7_hasLot 4 = .ok (.iload_n 1, 1) := by decide +kernel
theorem dX7_hasLot_5 : decode cX7_hasLot 5 = .ok (.aload_n 0, 1) := by decide +kernel
theorem dX7_hasLot_6 : decode cX7_hasLot 6 = .ok (.getfield 27, 3) := by decide +kernel
theorem dX7_hasLot_9 : decode cX7_hasLot 9 = .ok (.if_icmp .ge 7, 3) := by decide +kernel
theorem dX7_hasLot_12 : decode cX7_hasLot 12 = .ok (.iconst 1, 1) := by decide +kernel
theorem dX7_hasLot_13 : decode cX7_hasLot 13 = .ok (.goto 4, 3) := by decide +kernel
theorem dX7_hasLot_16 : decode cX7_hasLot 16 = .ok (.iconst 0, 1) := by decide +kernel
theorem dX7_hasLot_17 : decode cX7_hasLot 17 = .ok (.ireturn, 1) := by decide +kernel
theorem dX7_hasTwoLots_0 : decode cX7_hasTwoLots 0 = .ok (.aload_n 0, 1) := by decide +kernel
theorem dX7_hasTwoLots_1 : decode cX7_hasTwoLots 1 = .ok (.iload_n 1, 1) := by decide +kernel
theorem dX7_hasTwoLots_2 : decode cX7_hasTwoLots 2 = .ok (.invokevirtual 46, 3) := by decide +kernel
theorem dX7_hasTwoLots_5 : decode cX7_hasTwoLots 5 = .ok (.ifCond .eq 20, 3) := by decide +kernel
theorem dX7_hasTwoLots_8 : decode cX7_hasTwoLots 8 = .ok (.aload_n 0, 1) := by decide +kernel
theorem dX7_hasTwoLots_9 : decode cX7_hasTwoLots 9 = .ok (.iload_n 2, 1) := by decide +kernel
theorem dX7_hasTwoLots_10 : decode cX7_hasTwoLots 10 = .ok (.invokevirtual 46, 3) := by decide +kernel
theorem dX7_hasTwoLots_13 : decode cX7_hasTwoLots 13 = .ok (.ifCond .eq 12, 3) := by decide +kernel
theorem dX7_hasTwoLots_16 : decode cX7_hasTwoLots 16 = .ok (.iload_n 1, 1) := by decide +kernel
theorem dX7_hasTwoLots_17 : decode cX7_hasTwoLots 17 = .ok (.iload_n 2, 1) := by decide +kernel
theorem dX7_hasTwoLots_18 : decode cX7_hasTwoLots 18 = .ok (.if_icmp .eq 7, 3) := by decide +kernel
theorem dX7_hasTwoLots_21 : decode cX7_hasTwoLots 21 = .ok (.iconst 1, 1) := by decide +kernel
theorem dX7_hasTwoLots_22 : decode cX7_hasTwoLots 22 = .ok (.goto 4, 3) := by decide +kernel
theorem dX7_hasTwoLots_25 : decode cX7_hasTwoLots 25 = .ok (.iconst 0, 1) := by decide +kernel
theorem dX7_hasTwoLots_26 : decode cX7_hasTwoLots 26 = .ok (.ireturn, 1) := by decide +kernel
theorem dX7_isBuilt_0 : decode cX7_isBuilt 0 = .ok (.aload_n 0, 1) := by decide +kernel
theorem dX7_isBuilt_1 : decode cX7_isBuilt 1 = .ok (.iload_n 1, 1) := by decide +kernel
theorem dX7_isBuilt_2 : decode cX7_isBuilt 2 = .ok (.invokevirtual 46, 3) := by decide +kernel
theorem dX7_isBuilt_5 : decode cX7_isBuilt 5 = .ok (.ifCond .eq 18, 3) := by decide +kernel
theorem dX7_isBuilt_8 : decode cX7_isBuilt 8 = .ok (.aload_n 0, 1) := by decide +kernel
theorem dX7_isBuilt_9 : decode cX7_isBuilt 9 = .ok (.getfield 37, 3) := by decide +kernel
theorem dX7_isBuilt_12 : decode cX7_isBuilt 12 = .ok (.iload_n 1, 1) := by decide +kernel
theorem dX7_isBuilt_13 : decode cX7_isBuilt 13 = .ok (.ishr, 1) := by decide +kernel
theorem dX7_isBuilt_14 : decode cX7_isBuilt 14 = .ok (.iconst 1, 1) := by decide +kernel
theorem dX7_isBuilt_15 : decode cX7_isBuilt 15 = .ok (.iand, 1) := by decide +kernel
theorem dX7_isBuilt_16 : decode cX7_isBuilt 16 = .ok (.ifCond .eq 7, 3) := by decide +kernel
theorem dX7_isBuilt_19 : decode cX7_isBuilt 19 = .ok (.iconst 1, 1) := by decide +kernel
theorem dX7_isBuilt_20 : decode cX7_isBuilt 20 = .ok (.goto 4, 3) := by decide +kernel
theorem dX7_isBuilt_23 : decode cX7_isBuilt 23 = .ok (.iconst 0, 1) := by decide +kernel
theorem dX7_isBuilt_24 : decode cX7_isBuilt 24 = .ok (.ireturn, 1) := by decide +kernel
theorem dX7_areBeside_0 : decode cX7_areBeside 0 = .ok (.aload_n 0, 1) := by decide +kernel
theorem dX7_areBeside_1 : decode cX7_areBeside 1 = .ok (.getfield 18, 3) := by decide +kernel
theorem dX7_areBeside_4 : decode cX7_areBeside 4 = .ok (.iload_n 1, 1) := by decide +kernel
theorem dX7_areBeside_5 : decode cX7_areBeside 5 = .ok (.iaload, 1) := by decide +kernel
theorem dX7_areBeside_6 : decode cX7_areBeside 6 = .ok (.iload_n 2, 1) := by decide +kernel
theorem dX7_areBeside_7 : decode cX7_areBeside 7 = .ok (.ishr, 1) := by decide +kernel
theorem dX7_areBeside_8 : decode cX7_areBeside 8 = .ok (.iconst 1, 1) := by decide +kernel
theorem dX7_areBeside_9 : decode cX7_areBeside 9 = .ok (.iand, 1) := by decide +kernel
theorem dX7_areBeside_10 : decode cX7_areBeside 10 = .ok (.ifCond .eq 7, 3) := by decide +kernel
theorem dX7_areBeside_13 : decode cX7_areBeside 13 = .ok (.iconst 1, 1) := by decide +kernel
theorem dX7_areBeside_14 : decode cX7_areBeside 14 = .ok (.goto 4, 3) := by decide +kernel
theorem dX7_areBeside_17 : decode cX7_areBeside 17 = .ok (.iconst 0, 1) := by decide +kernel
theorem dX7_areBeside_18 : decode cX7_areBeside 18 = .ok (.ireturn, 1) := by decide +kernel
theorem dX7_colourOf_0 : decode cX7_colourOf 0 = .ok (.aload_n 0, 1) := by decide +kernel
theorem dX7_colourOf_1 : decode cX7_colourOf 1 = .ok (.iload_n 1, 1) := by decide +kernel
theorem dX7_colourOf_2 : decode cX7_colourOf 2 = .ok (.invokevirtual 50, 3) := by decide +kernel
theorem dX7_colourOf_5 : decode cX7_colourOf 5 = .ok (.ifCond .eq 12, 3) := by decide +kernel
theorem dX7_colourOf_8 : decode cX7_colourOf 8 = .ok (.aload_n 0, 1) := by decide +kernel
theorem dX7_colourOf_9 : decode cX7_colourOf 9 = .ok (.getfield 21, 3) := by decide +kernel
theorem dX7_colourOf_12 : decode cX7_colourOf 12 = .ok (.iload_n 1, 1) := by decide +kernel
theorem dX7_colourOf_13 : decode cX7_colourOf 13 = .ok (.iaload, 1) := by decide +kernel
theorem dX7_colourOf_14 : decode cX7_colourOf 14 = .ok (.goto 4, 3) := by decide +kernel
theorem dX7_colourOf_17 : decode cX7_colourOf 17 = .ok (.iconst (-1), 1) := by decide +kernel
theorem dX7_colourOf_18 : decode cX7_colourOf 18 = .ok (.ireturn, 1) := by decide +kernel
theorem dX7_unbuiltBits_0 : decode cX7_unbuiltBits 0 = .ok (.iconst 1, 1) := by decide +kernel
theorem dX7_unbuiltBits_1 : decode cX7_unbuiltBits 1 = .ok (.aload_n 0, 1) := by decide +kernel
theorem dX7_unbuiltBits_2 : decode cX7_unbuiltBits 2 = .ok (.getfield 27, 3) := by decide +kernel
theorem dX7_unbuiltBits_5 : decode cX7_unbuiltBits 5 = .ok (.ishl, 1) := by decide +kernel
theorem dX7_unbuiltBits_6 : decode cX7_unbuiltBits 6 = .ok (.iconst 1, 1) := by decide +kernel
theorem dX7_unbuiltBits_7 : decode cX7_unbuiltBits 7 = .ok (.isub, 1) := by decide +kernel
theorem dX7_unbuiltBits_8 : decode cX7_unbuiltBits 8 = .ok (.aload_n 0, 1) := by decide +kernel
theorem dX7_unbuiltBits_9 : decode cX7_unbuiltBits 9 = .ok (.getfield 37, 3) := by decide +kernel
theorem dX7_unbuiltBits_12 : decode cX7_unbuiltBits 12 = .ok (.iconst (-1), 1) := by decide +kernel
theorem dX7_unbuiltBits_13 : decode cX7_unbuiltBits 13 = .ok (.ixor, 1) := by decide +kernel
theorem dX7_unbuiltBits_14 : decode cX7_unbuiltBits 14 = .ok (.iand, 1) := by decide +kernel
theorem dX7_unbuiltBits_15 : decode cX7_unbuiltBits 15 = .ok (.ireturn, 1) := by decide +kernel
theorem dX7_unbuiltLot_0 : decode cX7_unbuiltLot 0 = .ok (.iload_n 1, 1) := by decide +kernel
theorem dX7_unbuiltLot_1 : decode cX7_unbuiltLot 1 = .ok (.istore_n 2, 1) := by decide +kernel
theorem dX7_unbuiltLot_2 : decode cX7_unbuiltLot 2 = .ok (.iconst 0, 1) := by decide +kernel
theorem dX7_unbuiltLot_3 : decode cX7_unbuiltLot 3 = .ok (.istore_n 3, 1) := by decide +kernel
theorem dX7_unbuiltLot_4 : decode cX7_unbuiltLot 4 = .ok (.iload_n 3, 1) := by decide +kernel
theorem dX7_unbuiltLot_5 : decode cX7_unbuiltLot 5 = .ok (.aload_n 0, 1) := by decide +kernel
theorem dX7_unbuiltLot_6 : decode cX7_unbuiltLot 6 = .ok (.getfield 27, 3) := by decide +kernel
theorem dX7_unbuiltLot_9 : decode cX7_unbuiltLot 9 = .ok (.if_icmp .ge 26, 3) := by decide +kernel
theorem dX7_unbuiltLot_12 : decode cX7_unbuiltLot 12 = .ok (.aload_n 0, 1) := by decide +kernel
theorem dX7_unbuiltLot_13 : decode cX7_unbuiltLot 13 = .ok (.iload_n 3, 1) := by decide +kernel
theorem dX7_unbuiltLot_14 : decode cX7_unbuiltLot 14 = .ok (.invokevirtual 50, 3) := by decide +kernel
theorem dX7_unbuiltLot_17 : decode cX7_unbuiltLot 17 = .ok (.ifCond .ne 12, 3) := by decide +kernel
theorem dX7_unbuiltLot_20 : decode cX7_unbuiltLot 20 = .ok (.iload_n 2, 1) := by decide +kernel
theorem dX7_unbuiltLot_21 : decode cX7_unbuiltLot 21 = .ok (.ifCond .ne 5, 3) := by decide +kernel
theorem dX7_unbuiltLot_24 : decode cX7_unbuiltLot 24 = .ok (.iload_n 3, 1) := by decide +kernel
theorem dX7_unbuiltLot_25 : decode cX7_unbuiltLot 25 = .ok (.ireturn, 1) := by decide +kernel
theorem dX7_unbuiltLot_26 : decode cX7_unbuiltLot 26 = .ok (.iinc 2 (-1), 3) := by decide +kernel
theorem dX7_unbuiltLot_29 : decode cX7_unbuiltLot 29 = .ok (.iinc 3 1, 3) := by decide +kernel
theorem dX7_unbuiltLot_32 : decode cX7_unbuiltLot 32 = .ok (.goto (-28), 3) := by decide +kernel
theorem dX7_unbuiltLot_35 : decode cX7_unbuiltLot 35 = .ok (.iconst (-1), 1) := by decide +kernel
theorem dX7_unbuiltLot_36 : decode cX7_unbuiltLot 36 = .ok (.ireturn, 1) := by decide +kernel
theorem dX7_colourBits_0 : decode cX7_colourBits 0 = .ok (.iconst 0, 1) := by decide +kernel
theorem dX7_colourBits_1 : decode cX7_colourBits 1 = .ok (.istore_n 1, 1) := by decide +kernel
theorem dX7_colourBits_2 : decode cX7_colourBits 2 = .ok (.iconst 0, 1) := by decide +kernel
theorem dX7_colourBits_3 : decode cX7_colourBits 3 = .ok (.istore_n 2, 1) := by decide +kernel
theorem dX7_colourBits_4 : decode cX7_colourBits 4 = .ok (.iload_n 2, 1) := by decide +kernel
theorem dX7_colourBits_5 : decode cX7_colourBits 5 = .ok (.aload_n 0, 1) := by decide +kernel
theorem dX7_colourBits_6 : decode cX7_colourBits 6 = .ok (.getfield 27, 3) := by decide +kernel
theorem dX7_colourBits_9 : decode cX7_colourBits 9 = .ok (.if_icmp .ge 28, 3) := by decide +kernel
theorem dX7_colourBits_12 : decode cX7_colourBits 12 = .ok (.aload_n 0, 1) := by decide +kernel
theorem dX7_colourBits_13 : decode cX7_colourBits 13 = .ok (.iload_n 2, 1) := by decide +kernel
theorem dX7_colourBits_14 : decode cX7_colourBits 14 = .ok (.invokevirtual 50, 3) := by decide +kernel
theorem dX7_colourBits_17 : decode cX7_colourBits 17 = .ok (.ifCond .eq 14, 3) := by decide +kernel
theorem dX7_colourBits_20 : decode cX7_colourBits 20 = .ok (.iload_n 1, 1) := by decide +kernel
theorem dX7_colourBits_21 : decode cX7_colourBits 21 = .ok (.iconst 1, 1) := by decide +kernel
theorem dX7_colourBits_22 : decode cX7_colourBits 22 = .ok (.aload_n 0, 1) := by decide +kernel
theorem dX7_colourBits_23 : decode cX7_colourBits 23 = .ok (.getfield 21, 3) := by decide +kernel
theorem dX7_colourBits_26 : decode cX7_colourBits 26 = .ok (.iload_n 2, 1) := by decide +kernel
theorem dX7_colourBits_27 : decode cX7_colourBits 27 = .ok (.iaload, 1) := by decide +kernel
theorem dX7_colourBits_28 : decode cX7_colourBits 28 = .ok (.ishl, 1) := by decide +kernel
theorem dX7_colourBits_29 : decode cX7_colourBits 29 = .ok (.ior, 1) := by decide +kernel
theorem dX7_colourBits_30 : decode cX7_colourBits 30 = .ok (.istore_n 1, 1) := by decide +kernel
theorem dX7_colourBits_31 : decode cX7_colourBits 31 = .ok (.iinc 2 1, 3) := by decide +kernel
theorem dX7_colourBits_34 : decode cX7_colourBits 34 = .ok (.goto (-30), 3) := by decide +kernel
theorem dX7_colourBits_37 : decode cX7_colourBits 37 = .ok (.iload_n 1, 1) := by decide +kernel
theorem dX7_colourBits_38 : decode cX7_colourBits 38 = .ok (.ireturn, 1) := by decide +kernel
theorem dX7_howManyColours_0 : decode cX7_howManyColours 0 = .ok (.aload_n 0, 1) := by decide +kernel
theorem dX7_howManyColours_1 : decode cX7_howManyColours 1 = .ok (.invokevirtual 53, 3) := by decide +kernel
theorem dX7_howManyColours_4 : decode cX7_howManyColours 4 = .ok (.invokestatic 57, 3) := by decide +kernel
theorem dX7_howManyColours_7 : decode cX7_howManyColours 7 = .ok (.ireturn, 1) := by decide +kernel
theorem dX7_pairsBeside_0 : decode cX7_pairsBeside 0 = .ok (.iconst 0, 1) := by decide +kernel
theorem dX7_pairsBeside_1 : decode cX7_pairsBeside 1 = .ok (.istore_n 1, 1) := by decide +kernel
theorem dX7_pairsBeside_2 : decode cX7_pairsBeside 2 = .ok (.iconst 0, 1) := by decide +kernel
theorem dX7_pairsBeside_3 : decode cX7_pairsBeside 3 = .ok (.istore_n 2, 1) := by decide +kernel
theorem dX7_pairsBeside_4 : decode cX7_pairsBeside 4 = .ok (.iload_n 2, 1) := by decide +kernel
theorem dX7_pairsBeside_5 : decode cX7_pairsBeside 5 = .ok (.aload_n 0, 1) := by decide +kernel
theorem dX7_pairsBeside_6 : decode cX7_pairsBeside 6 = .ok (.getfield 27, 3) := by decide +kernel
theorem dX7_pairsBeside_9 : decode cX7_pairsBeside 9 = .ok (.if_icmp .ge 21, 3) := by decide +kernel
theorem dX7_pairsBeside_12 : decode cX7_pairsBeside 12 = .ok (.iload_n 1, 1) := by decide +kernel
theorem dX7_pairsBeside_13 : decode cX7_pairsBeside 13 = .ok (.aload_n 0, 1) := by decide +kernel
theorem dX7_pairsBeside_14 : decode cX7_pairsBeside 14 = .ok (.getfield 18, 3) := by decide +kernel
theorem dX7_pairsBeside_17 : decode cX7_pairsBeside 17 = .ok (.iload_n 2, 1) := by decide +kernel
theorem dX7_pairsBeside_18 : decode cX7_pairsBeside 18 = .ok (.iaload, 1) := by decide +kernel
theorem dX7_pairsBeside_19 : decode cX7_pairsBeside 19 = .ok (.invokestatic 57, 3) := by decide +kernel
theorem dX7_pairsBeside_22 : decode cX7_pairsBeside 22 = .ok (.iadd, 1) := by decide +kernel
theorem dX7_pairsBeside_23 : decode cX7_pairsBeside 23 = .ok (.istore_n 1, 1) := by decide +kernel
theorem dX7_pairsBeside_24 : decode cX7_pairsBeside 24 = .ok (.iinc 2 1, 3) := by decide +kernel
theorem dX7_pairsBeside_27 : decode cX7_pairsBeside 27 = .ok (.goto (-23), 3) := by decide +kernel
theorem dX7_pairsBeside_30 : decode cX7_pairsBeside 30 = .ok (.iload_n 1, 1) := by decide +kernel
theorem dX7_pairsBeside_31 : decode cX7_pairsBeside 31 = .ok (.iconst 2, 1) := by decide +kernel
theorem dX7_pairsBeside_32 : decode cX7_pairsBeside 32 = .ok (.idiv, 1) := by decide +kernel
theorem dX7_pairsBeside_33 : decode cX7_pairsBeside 33 = .ok (.ireturn, 1) := by decide +kernel
theorem dX7_fitsLot_0 : decode cX7_fitsLot 0 = .ok (.iload_n 1, 1) := by decide +kernel
theorem dX7_fitsLot_1 : decode cX7_fitsLot 1 = .ok (.ifCond .lt 38, 3) := by decide +kernel
theorem dX7_fitsLot_4 : decode cX7_fitsLot 4 = .ok (.iload_n 1, 1) := by decide +kernel
theorem dX7_fitsLot_5 : decode cX7_fitsLot 5 = .ok (.bipush 6, 2) := by decide +kernel
theorem dX7_fitsLot_7 : decode cX7_fitsLot 7 = .ok (.if_icmp .ge 32, 3) := by decide +kernel
theorem dX7_fitsLot_10 : decode cX7_fitsLot 10 = .ok (.iload_n 2, 1) := by decide +kernel
theorem dX7_fitsLot_11 : decode cX7_fitsLot 11 = .ok (.ifCond .lt 28, 3) := by decide +kernel
theorem dX7_fitsLot_14 : decode cX7_fitsLot 14 = .ok (.iload_n 2, 1) := by decide +kernel
theorem dX7_fitsLot_15 : decode cX7_fitsLot 15 = .ok (.bipush 9, 2) := by decide +kernel
theorem dX7_fitsLot_17 : decode cX7_fitsLot 17 = .ok (.if_icmp .gt 22, 3) := by decide +kernel
theorem dX7_fitsLot_20 : decode cX7_fitsLot 20 = .ok (.iload_n 3, 1) := by decide +kernel
theorem dX7_fitsLot_21 : decode cX7_fitsLot 21 = .ok (.iconst 1, 1) := by decide +kernel
theorem dX7_fitsLot_22 : decode cX7_fitsLot 22 = .ok (.aload_n 0, 1) := by decide +kernel
theorem dX7_fitsLot_23 : decode cX7_fitsLot 23 = .ok (.getfield 27, 3) := by decide +kernel
theorem dX7_fitsLot_26 : decode cX7_fitsLot 26 = .ok (.ishl, 1) := by decide +kernel
theorem dX7_fitsLot_27 : decode cX7_fitsLot 27 = .ok (.iconst 1, 1) := by decide +kernel
theorem dX7_fitsLot_28 : decode cX7_fitsLot 28 = .ok (.isub, 1) := by decide +kernel
theorem dX7_fitsLot_29 : decode cX7_fitsLot 29 = .ok (.iconst (-1), 1) := by decide +kernel
theorem dX7_fitsLot_30 : decode cX7_fitsLot 30 = .ok (.ixor, 1) := by decide +kernel
theorem dX7_fitsLot_31 : decode cX7_fitsLot 31 = .ok (.iand, 1) := by decide +kernel
theorem dX7_fitsLot_32 : decode cX7_fitsLot 32 = .ok (.ifCond .ne 7, 3) := by decide +kernel
theorem dX7_fitsLot_35 : decode cX7_fitsLot 35 = .ok (.iconst 1, 1) := by decide +kernel
theorem dX7_fitsLot_36 : decode cX7_fitsLot 36 = .ok (.goto 4, 3) := by decide +kernel
theorem dX7_fitsLot_39 : decode cX7_fitsLot 39 = .ok (.iconst 0, 1) := by decide +kernel
theorem dX7_fitsLot_40 : decode cX7_fitsLot 40 = .ok (.ireturn, 1) := by decide +kernel
theorem dX7_addLot_0 : decode cX7_addLot 0 = .ok (.aload_n 0, 1) := by decide +kernel
theorem dX7_addLot_1 : decode cX7_addLot 1 = .ok (.getfield 27, 3) := by decide +kernel
theorem dX7_addLot_4 : decode cX7_addLot 4 = .ok (.istore 4, 2) := by decide +kernel
theorem dX7_addLot_6 : decode cX7_addLot 6 = .ok (.iload 4, 2) := by decide +kernel
theorem dX7_addLot_8 : decode cX7_addLot 8 = .ok (.bipush 7, 2) := by decide +kernel
theorem dX7_addLot_10 : decode cX7_addLot 10 = .ok (.if_icmp .lt 6, 3) := by decide +kernel
theorem dX7_addLot_13 : decode cX7_addLot 13 = .ok (.bipush (-4), 2) := by decide +kernel
theorem dX7_addLot_15 : decode cX7_addLot 15 = .ok (.ireturn, 1) := by decide +kernel
theorem dX7_addLot_16 : decode cX7_addLot 16 = .ok (.aload_n 0, 1) := by decide +kernel
theorem dX7_addLot_17 : decode cX7_addLot 17 = .ok (.dup, 1) := by decide +kernel
theorem dX7_addLot_18 : decode cX7_addLot 18 = .ok (.getfield 27, 3) := by decide +kernel
theorem dX7_addLot_21 : decode cX7_addLot 21 = .ok (.iconst 1, 1) := by decide +kernel
theorem dX7_addLot_22 : decode cX7_addLot 22 = .ok (.iadd, 1) := by decide +kernel
theorem dX7_addLot_23 : decode cX7_addLot 23 = .ok (.putfield 27, 3) := by decide +kernel
theorem dX7_addLot_26 : decode cX7_addLot 26 = .ok (.aload_n 0, 1) := by decide +kernel
theorem dX7_addLot_27 : decode cX7_addLot 27 = .ok (.getfield 9, 3) := by decide +kernel
theorem dX7_addLot_30 : decode cX7_addLot 30 = .ok (.iload 4, 2) := by decide +kernel
theorem dX7_addLot_32 : decode cX7_addLot 32 = .ok (.iload_n 1, 1) := by decide +kernel
theorem dX7_addLot_33 : decode cX7_addLot 33 = .ok (.iastore, 1) := by decide +kernel
theorem dX7_addLot_34 : decode cX7_addLot 34 = .ok (.aload_n 0, 1) := by decide +kernel
theorem dX7_addLot_35 : decode cX7_addLot 35 = .ok (.getfield 15, 3) := by decide +kernel
theorem dX7_addLot_38 : decode cX7_addLot 38 = .ok (.iload 4, 2) := by decide +kernel
theorem dX7_addLot_40 : decode cX7_addLot 40 = .ok (.iload_n 2, 1) := by decide +kernel
theorem dX7_addLot_41 : decode cX7_addLot 41 = .ok (.iastore, 1) := by decide +kernel
theorem dX7_addLot_42 : decode cX7_addLot 42 = .ok (.aload_n 0, 1) := by decide +kernel
theorem dX7_addLot_43 : decode cX7_addLot 43 = .ok (.getfield 18, 3) := by decide +kernel
theorem dX7_addLot_46 : decode cX7_addLot 46 = .ok (.iload 4, 2) := by decide +kernel
theorem dX7_addLot_48 : decode cX7_addLot 48 = .ok (.iconst 0, 1) := by decide +kernel
theorem dX7_addLot_49 : decode cX7_addLot 49 = .ok (.iastore, 1) := by decide +kernel
theorem dX7_addLot_50 : decode cX7_addLot 50 = .ok (.iconst 0, 1) := by decide +kernel
theorem dX7_addLot_51 : decode cX7_addLot 51 = .ok (.istore 5, 2) := by decide +kernel
theorem dX7_addLot_53 : decode cX7_addLot 53 = .ok (.iload 5, 2) := by decide +kernel
theorem dX7_addLot_55 : decode cX7_addLot 55 = .ok (.iload 4, 2) := by decide +kernel
theorem dX7_addLot_57 : decode cX7_addLot 57 = .ok (.if_icmp .ge 26, 3) := by decide +kernel
theorem dX7_addLot_60 : decode cX7_addLot 60 = .ok (.iload_n 3, 1) := by decide +kernel
theorem dX7_addLot_61 : decode cX7_addLot 61 = .ok (.iload 5, 2) := by decide +kernel
theorem dX7_addLot_63 : decode cX7_addLot 63 = .ok (.ishr, 1) := by decide +kernel
theorem dX7_addLot_64 : decode cX7_addLot 64 = .ok (.iconst 1, 1) := by decide +kernel
theorem dX7_addLot_65 : decode cX7_addLot 65 = .ok (.iand, 1) := by decide +kernel
theorem dX7_addLot_66 : decode cX7_addLot 66 = .ok (.ifCond .eq 11, 3) := by decide +kernel
theorem dX7_addLot_69 : decode cX7_addLot 69 = .ok (.aload_n 0, 1) := by decide +kernel
theorem dX7_addLot_70 : decode cX7_addLot 70 = .ok (.iload 4, 2) := by decide +kernel
theorem dX7_addLot_72 : decode cX7_addLot 72 = .ok (.iload 5, 2) := by decide +kernel
theorem dX7_addLot_74 : decode cX7_addLot 74 = .ok (.invokevirtual 63, 3) := by decide +kernel
theorem dX7_addLot_77 : decode cX7_addLot 77 = .ok (.iinc 5 1, 3) := by decide +kernel
theorem dX7_addLot_80 : decode cX7_addLot 80 = .ok (.goto (-27), 3) := by decide +kernel
theorem dX7_addLot_83 : decode cX7_addLot 83 = .ok (.iload 4, 2) := by decide +kernel
theorem dX7_addLot_85 : decode cX7_addLot 85 = .ok (.ireturn, 1) := by decide +kernel
theorem dX7_join_0 : decode cX7_join 0 = .ok (.aload_n 0, 1) := by decide +kernel
theorem dX7_join_1 : decode cX7_join 1 = .ok (.getfield 18, 3) := by decide +kernel
theorem dX7_join_4 : decode cX7_join 4 = .ok (.iload_n 1, 1) := by decide +kernel
theorem dX7_join_5 : decode cX7_join 5 = .ok (.dup2, 1) := by decide +kernel
theorem dX7_join_6 : decode cX7_join 6 = .ok (.iaload, 1) := by decide +kernel
theorem dX7_join_7 : decode cX7_join 7 = .ok (.iconst 1, 1) := by decide +kernel
theorem dX7_join_8 : decode cX7_join 8 = .ok (.iload_n 2, 1) := by decide +kernel
theorem dX7_join_9 : decode cX7_join 9 = .ok (.ishl, 1) := by decide +kernel
theorem dX7_join_10 : decode cX7_join 10 = .ok (.ior, 1) := by decide +kernel
theorem dX7_join_11 : decode cX7_join 11 = .ok (.iastore, 1) := by decide +kernel
theorem dX7_join_12 : decode cX7_join 12 = .ok (.aload_n 0, 1) := by decide +kernel
theorem dX7_join_13 : decode cX7_join 13 = .ok (.getfield 18, 3) := by decide +kernel
theorem dX7_join_16 : decode cX7_join 16 = .ok (.iload_n 2, 1) := by decide +kernel
theorem dX7_join_17 : decode cX7_join 17 = .ok (.dup2, 1) := by decide +kernel
theorem dX7_join_18 : decode cX7_join 18 = .ok (.iaload, 1) := by decide +kernel
theorem dX7_join_19 : decode cX7_join 19 = .ok (.iconst 1, 1) := by decide +kernel
theorem dX7_join_20 : decode cX7_join 20 = .ok (.iload_n 1, 1) := by decide +kernel
theorem dX7_join_21 : decode cX7_join 21 = .ok (.ishl, 1) := by decide +kernel
theorem dX7_join_22 : decode cX7_join 22 = .ok (.ior, 1) := by decide +kernel
theorem dX7_join_23 : decode cX7_join 23 = .ok (.iastore, 1) := by decide +kernel
theorem dX7_join_24 : decode cX7_join 24 = .ok (.return_, 1) := by decide +kernel
theorem dX7_part_0 : decode cX7_part 0 = .ok (.aload_n 0, 1) := by decide +kernel
theorem dX7_part_1 : decode cX7_part 1 = .ok (.getfield 18, 3) := by decide +kernel
theorem dX7_part_4 : decode cX7_part 4 = .ok (.iload_n 1, 1) := by decide +kernel
theorem dX7_part_5 : decode cX7_part 5 = .ok (.dup2, 1) := by decide +kernel
theorem dX7_part_6 : decode cX7_part 6 = .ok (.iaload, 1) := by decide +kernel
theorem dX7_part_7 : decode cX7_part 7 = .ok (.iconst 1, 1) := by decide +kernel
theorem dX7_part_8 : decode cX7_part 8 = .ok (.iload_n 2, 1) := by decide +kernel
theorem dX7_part_9 : decode cX7_part 9 = .ok (.ishl, 1) := by decide +kernel
theorem dX7_part_10 : decode cX7_part 10 = .ok (.iconst (-1), 1) := by decide +kernel
theorem dX7_part_11 : decode cX7_part 11 = .ok (.ixor, 1) := by decide +kernel
theorem dX7_part_12 : decode cX7_part 12 = .ok (.iand, 1) := by decide +kernel
theorem dX7_part_13 : decode cX7_part 13 = .ok (.iastore, 1) := by decide +kernel
theorem dX7_part_14 : decode cX7_part 14 = .ok (.aload_n 0, 1) := by decide +kernel
theorem dX7_part_15 : decode cX7_part 15 = .ok (.getfield 18, 3) := by decide +kernel
theorem dX7_part_18 : decode cX7_part 18 = .ok (.iload_n 2, 1) := by decide +kernel
theorem dX7_part_19 : decode cX7_part 19 = .ok (.dup2, 1) := by decide +kernel
theorem dX7_part_20 : decode cX7_part 20 = .ok (.iaload, 1) := by decide +kernel
theorem dX7_part_21 : decode cX7_part 21 = .ok (.iconst 1, 1) := by decide +kernel
theorem dX7_part_22 : decode cX7_part 22 = .ok (.iload_n 1, 1) := by decide +kernel
theorem dX7_part_23 : decode cX7_part 23 = .ok (.ishl, 1) := by decide +kernel
theorem dX7_part_24 : decode cX7_part 24 = .ok (.iconst (-1), 1) := by decide +kernel
theorem dX7_part_25 : decode cX7_part 25 = .ok (.ixor, 1) := by decide +kernel
theorem dX7_part_26 : decode cX7_part 26 = .ok (.iand, 1) := by decide +kernel
theorem dX7_part_27 : decode cX7_part 27 = .ok (.iastore, 1) := by decide +kernel
theorem dX7_part_28 : decode cX7_part 28 = .ok (.return_, 1) := by decide +kernel
theorem dX7_wouldTake_0 : decode cX7_wouldTake 0 = .ok (.aload_n 0, 1) := by decide +kernel
theorem dX7_wouldTake_1 : decode cX7_wouldTake 1 = .ok (.iload_n 1, 1) := by decide +kernel
theorem dX7_wouldTake_2 : decode cX7_wouldTake 2 = .ok (.aload_n 0, 1) := by decide +kernel
theorem dX7_wouldTake_3 : decode cX7_wouldTake 3 = .ok (.getfield 37, 3) := by decide +kernel
theorem dX7_wouldTake_6 : decode cX7_wouldTake 6 = .ok (.aload_n 0, 1) := by decide +kernel
theorem dX7_wouldTake_7 : decode cX7_wouldTake 7 = .ok (.getfield 21, 3) := by decide +kernel
theorem dX7_wouldTake_10 : decode cX7_wouldTake 10 = .ok (.invokevirtual 67, 3) := by decide +kernel
theorem dX7_wouldTake_13 : decode cX7_wouldTake 13 = .ok (.ireturn, 1) := by decide +kernel
theorem dX7_colourAmong_0 : decode cX7_colourAmong 0 = .ok (.aload_n 0, 1) := by decide +kernel
theorem dX7_colourAmong_1 : decode cX7_colourAmong 1 = .ok (.getfield 18, 3) := by decide +kernel
theorem dX7_colourAmong_4 : decode cX7_colourAmong 4 = .ok (.iload_n 1, 1) := by decide +kernel
theorem dX7_colourAmong_5 : decode cX7_colourAmong 5 = .ok (.iaload, 1) := by decide +kernel
theorem dX7_colourAmong_6 : decode cX7_colourAmong 6 = .ok (.iload_n 2, 1) := by decide +kernel
theorem dX7_colourAmong_7 : decode cX7_colourAmong 7 = .ok (.iand, 1) := by decide +kernel
theorem dX7_colourAmong_8 : decode cX7_colourAmong 8 = .ok (.istore 4, 2) := by decide +kernel
theorem dX7_colourAmong_10 : decode cX7_colourAmong 10 = .ok (.iconst 0, 1) := by decide +kernel
theorem dX7_colourAmong_11 : decode cX7_colourAmong 11 = .ok (.istore 5, 2) := by decide +kernel
theorem dX7_colourAmong_13 : decode cX7_colourAmong 13 = .ok (.iconst 0, 1) := by decide +kernel
theorem dX7_colourAmong_14 : decode cX7_colourAmong 14 = .ok (.istore 6, 2) := by decide +kernel
theorem dX7_colourAmong_16 : decode cX7_colourAmong 16 = .ok (.iload 6, 2) := by decide +kernel
theorem dX7_colourAmong_18 : decode cX7_colourAmong 18 = .ok (.aload_n 0, 1) := by decide +kernel
theorem dX7_colourAmong_19 : decode cX7_colourAmong 19 = .ok (.getfield 27, 3) := by decide +kernel
theorem dX7_colourAmong_22 : decode cX7_colourAmong 22 = .ok (.if_icmp .ge 41, 3) := by decide +kernel
theorem dX7_colourAmong_25 : decode cX7_colourAmong 25 = .ok (.iload 4, 2) := by decide +kernel
theorem dX7_colourAmong_27 : decode cX7_colourAmong 27 = .ok (.iload 6, 2) := by decide +kernel
theorem dX7_colourAmong_29 : decode cX7_colourAmong 29 = .ok (.ishr, 1) := by decide +kernel
theorem dX7_colourAmong_30 : decode cX7_colourAmong 30 = .ok (.iconst 1, 1) := by decide +kernel
theorem dX7_colourAmong_31 : decode cX7_colourAmong 31 = .ok (.iand, 1) := by decide +kernel
theorem dX7_colourAmong_32 : decode cX7_colourAmong 32 = .ok (.ifCond .eq 25, 3) := by decide +kernel
theorem dX7_colourAmong_35 : decode cX7_colourAmong 35 = .ok (.aload_n 0, 1) := by decide +kernel
theorem dX7_colourAmong_36 : decode cX7_colourAmong 36 = .ok (.getfield 9, 3) := by decide +kernel
theorem dX7_colourAmong_39 : decode cX7_colourAmong 39 = .ok (.iload 6, 2) := by decide +kernel
theorem dX7_colourAmong_41 : decode cX7_colourAmong 41 = .ok (.iaload, 1) := by decide +kernel
theorem dX7_colourAmong_42 : decode cX7_colourAmong 42 = .ok (.iconst 4, 1) := by decide +kernel
theorem dX7_colourAmong_43 : decode cX7_colourAmong 43 = .ok (.if_icmp .eq 14, 3) := by decide +kernel
theorem dX7_colourAmong_46 : decode cX7_colourAmong 46 = .ok (.iload 5, 2) := by decide +kernel
theorem dX7_colourAmong_48 : decode cX7_colourAmong 48 = .ok (.iconst 1, 1) := by decide +kernel
theorem dX7_colourAmong_49 : decode cX7_colourAmong 49 = .ok (.aload_n 3, 1) := by decide +kernel
theorem dX7_colourAmong_50 : decode cX7_colourAmong 50 = .ok (.iload 6, 2) := by decide +kernel
theorem dX7_colourAmong_52 : decode cX7_colourAmong 52 = .ok (.iaload, 1) := by decide +kernel
theorem dX7_colourAmong_53 : decode cX7_colourAmong 53 = .ok (.ishl, 1) := by decide +kernel
theorem dX7_colourAmong_54 : decode cX7_colourAmong 54 = .ok (.ior, 1) := by decide +kernel
theorem dX7_colourAmong_55 : decode cX7_colourAmong 55 = .ok (.istore 5, 2) := by decide +kernel
theorem dX7_colourAmong_57 : decode cX7_colourAmong 57 = .ok (.iinc 6 1, 3) := by decide +kernel
theorem dX7_colourAmong_60 : decode cX7_colourAmong 60 = .ok (.goto (-44), 3) := by decide +kernel
theorem dX7_colourAmong_63 : decode cX7_colourAmong 63 = .ok (.aload_n 0, 1) := by decide +kernel
theorem dX7_colourAmong_64 : decode cX7_colourAmong 64 = .ok (.getfield 9, 3) := by decide +kernel
theorem dX7_colourAmong_67 : decode cX7_colourAmong 67 = .ok (.iload_n 1, 1) := by decide +kernel
theorem dX7_colourAmong_68 : decode cX7_colourAmong 68 = .ok (.iaload, 1) := by decide +kernel
theorem dX7_colourAmong_69 : decode cX7_colourAmong 69 = .ok (.aload_n 0, 1) := by decide +kernel
theorem dX7_colourAmong_70 : decode cX7_colourAmong 70 = .ok (.getfield 15, 3) := by decide +kernel
theorem dX7_colourAmong_73 : decode cX7_colourAmong 73 = .ok (.iload_n 1, 1) := by decide +kernel
theorem dX7_colourAmong_74 : decode cX7_colourAmong 74 = .ok (.iaload, 1) := by decide +kernel
theorem dX7_colourAmong_75 : decode cX7_colourAmong 75 = .ok (.iload 5, 2) := by decide +kernel
theorem dX7_colourAmong_77 : decode cX7_colourAmong 77 = .ok (.invokestatic 71, 3) := by decide +kernel
theorem dX7_colourAmong_80 : decode cX7_colourAmong 80 = .ok (.ireturn, 1) := by decide +kernel
theorem dX7_colourByKind_0 : decode cX7_colourByKind 0 = .ok (.iload_n 0, 1) := by decide +kernel
theorem dX7_colourByKind_1 : decode cX7_colourByKind 1 = .ok (.tableswitch 82 1 5 #[35, 42, 53, 42, 77], 35) := by decide +kernel
theorem dX7_colourByKind_36 : decode cX7_colourByKind 36 = .ok (.iload_n 2, 1) := by decide +kernel
theorem dX7_colourByKind_37 : decode cX7_colourByKind 37 = .ok (.iconst 1, 1) := by decide +kernel
theorem dX7_colourByKind_38 : decode cX7_colourByKind 38 = .ok (.ior, 1) := by decide +kernel
theorem dX7_colourByKind_39 : decode cX7_colourByKind 39 = .ok (.invokestatic 75, 3) := by decide +kernel
theorem dX7_colourByKind_42 : decode cX7_colourByKind 42 = .ok (.ireturn, 1) := by decide +kernel
theorem dX7_colourByKind_43 : decode cX7_colourByKind 43 = .ok (.iload_n 2, 1) := by decide +kernel
theorem dX7_colourByKind_44 : decode cX7_colourByKind 44 = .ok (.iconst 1, 1) := by decide +kernel
theorem dX7_colourByKind_45 : decode cX7_colourByKind 45 = .ok (.iload_n 1, 1) := by decide +kernel
theorem dX7_colourByKind_46 : decode cX7_colourByKind 46 = .ok (.iconst 5, 1) := by decide +kernel
theorem dX7_colourByKind_47 : decode cX7_colourByKind 47 = .ok (.irem, 1) := by decide +kernel
theorem dX7_colourByKind_48 : decode cX7_colourByKind 48 = .ok (.ishl, 1) := by decide +kernel
theorem dX7_colourByKind_49 : decode cX7_colourByKind 49 = .ok (.ior, 1) := by decide +kernel
theorem dX7_colourByKind_50 : decode cX7_colourByKind 50 = .ok (.invokestatic 75, 3) := by decide +kernel
theorem dX7_colourByKind_53 : decode cX7_colourByKind 53 = .ok (.ireturn, 1) := by decide +kernel
theorem dX7_colourByKind_54 : decode cX7_colourByKind 54 = .ok (.iload_n 2, 1) := by decide +kernel
theorem dX7_colourByKind_55 : decode cX7_colourByKind 55 = .ok (.invokestatic 57, 3) := by decide +kernel
theorem dX7_colourByKind_58 : decode cX7_colourByKind 58 = .ok (.iload_n 1, 1) := by decide +kernel
theorem dX7_colourByKind_59 : decode cX7_colourByKind 59 = .ok (.iconst 4, 1) := by decide +kernel
theorem dX7_colourByKind_60 : decode cX7_colourByKind 60 = .ok (.irem, 1) := by decide +kernel
theorem dX7_colourByKind_61 : decode cX7_colourByKind 61 = .ok (.if_icmp .le 10, 3) := by decide +kernel
theorem dX7_colourByKind_64 : decode cX7_colourByKind 64 = .ok (.iload_n 2, 1) := by decide +kernel
theorem dX7_colourByKind_65 : decode cX7_colourByKind 65 = .ok (.invokestatic 78, 3) := by decide +kernel
theorem dX7_colourByKind_68 : decode cX7_colourByKind 68 = .ok (.goto 9, 3) := by decide +kernel
theorem dX7_colourByKind_71 : decode cX7_colourByKind 71 = .ok (.iload_n 2, 1) := by decide +kernel
theorem dX7_colourByKind_72 : decode cX7_colourByKind 72 = .ok (.iconst 1, 1) := by decide +kernel
theorem dX7_colourByKind_73 : decode cX7_colourByKind 73 = .ok (.ior, 1) := by decide +kernel
theorem dX7_colourByKind_74 : decode cX7_colourByKind 74 = .ok (.invokestatic 75, 3) := by decide +kernel
theorem dX7_colourByKind_77 : decode cX7_colourByKind 77 = .ok (.ireturn, 1) := by decide +kernel
theorem dX7_colourByKind_78 : decode cX7_colourByKind 78 = .ok (.iconst 0, 1) := by decide +kernel
theorem dX7_colourByKind_79 : decode cX7_colourByKind 79 = .ok (.invokestatic 75, 3) := by decide +kernel
theorem dX7_colourByKind_82 : decode cX7_colourByKind 82 = .ok (.ireturn, 1) := by decide +kernel
theorem dX7_colourByKind_83 : decode cX7_colourByKind 83 = .ok (.iload_n 2, 1) := by decide +kernel
theorem dX7_colourByKind_84 : decode cX7_colourByKind 84 = .ok (.invokestatic 75, 3) := by decide +kernel
theorem dX7_colourByKind_87 : decode cX7_colourByKind 87 = .ok (.ireturn, 1) := by decide +kernel
theorem dX7_least_0 : decode cX7_least 0 = .ok (.bipush 11, 2) := by decide +kernel
theorem dX7_least_2 : decode cX7_least 2 = .ok (.iload_n 0, 1) := by decide +kernel
theorem dX7_least_3 : decode cX7_least 3 = .ok (.iconst (-1), 1) := by decide +kernel
theorem dX7_least_4 : decode cX7_least 4 = .ok (.ixor, 1) := by decide +kernel
theorem dX7_least_5 : decode cX7_least 5 = .ok (.invokestatic 81, 3) := by decide +kernel
theorem dX7_least_8 : decode cX7_least 8 = .ok (.invokestatic 84, 3) := by decide +kernel
theorem dX7_least_11 : decode cX7_least 11 = .ok (.ireturn, 1) := by decide +kernel
theorem dX7_aboveGreatest_0 : decode cX7_aboveGreatest 0 = .ok (.bipush 11, 2) := by decide +kernel
theorem dX7_aboveGreatest_2 : decode cX7_aboveGreatest 2 = .ok (.bipush 32, 2) := by decide +kernel
theorem dX7_aboveGreatest_4 : decode cX7_aboveGreatest 4 = .ok (.iload_n 0, 1) := by decide +kernel
theorem dX7_aboveGreatest_5 : decode cX7_aboveGreatest 5 = .ok (.invokestatic 90, 3) := by decide +kernel
theorem dX7_aboveGreatest_8 : decode cX7_aboveGreatest 8 = .ok (.isub, 1) := by decide +kernel
theorem dX7_aboveGreatest_9 : decode cX7_aboveGreatest 9 = .ok (.invokestatic 84, 3) := by decide +kernel
theorem dX7_aboveGreatest_12 : decode cX7_aboveGreatest 12 = .ok (.ireturn, 1) := by decide +kernel
theorem dX7_isOfKind_0 : decode cX7_isOfKind 0 = .ok (.iload_n 1, 1) := by decide +kernel
theorem dX7_isOfKind_1 : decode cX7_isOfKind 1 = .ok (.tableswitch 61 0 2 #[27, 29, 45], 27) := by decide +kernel
theorem dX7_isOfKind_28 : decode cX7_isOfKind 28 = .ok (.iconst 1, 1) := by decide +kernel
theorem dX7_isOfKind_29 : decode cX7_isOfKind 29 = .ok (.ireturn, 1) := by decide +kernel
theorem dX7_isOfKind_30 : decode cX7_isOfKind 30 = .ok (.iload_n 0, 1) := by decide +kernel
theorem dX7_isOfKind_31 : decode cX7_isOfKind 31 = .ok (.iconst 1, 1) := by decide +kernel
theorem dX7_isOfKind_32 : decode cX7_isOfKind 32 = .ok (.if_icmp .eq 8, 3) := by decide +kernel
theorem dX7_isOfKind_35 : decode cX7_isOfKind 35 = .ok (.iload_n 0, 1) := by decide +kernel
theorem dX7_isOfKind_36 : decode cX7_isOfKind 36 = .ok (.iconst 3, 1) := by decide +kernel
theorem dX7_isOfKind_37 : decode cX7_isOfKind 37 = .ok (.if_icmp .ne 7, 3) := by decide +kernel
theorem dX7_isOfKind_40 : decode cX7_isOfKind 40 = .ok (.iconst 1, 1) := by decide +kernel
theorem dX7_isOfKind_41 : decode cX7_isOfKind 41 = .ok (.goto 4, 3) := by decide +kernel
theorem dX7_isOfKind_44 : decode cX7_isOfKind 44 = .ok (.iconst 0, 1) := by decide +kernel
theorem dX7_isOfKind_45 : decode cX7_isOfKind 45 = .ok (.ireturn, 1) := by decide +kernel
theorem dX7_isOfKind_46 : decode cX7_isOfKind 46 = .ok (.iload_n 0, 1) := by decide +kernel
theorem dX7_isOfKind_47 : decode cX7_isOfKind 47 = .ok (.iconst 2, 1) := by decide +kernel
theorem dX7_isOfKind_48 : decode cX7_isOfKind 48 = .ok (.if_icmp .eq 8, 3) := by decide +kernel
theorem dX7_isOfKind_51 : decode cX7_isOfKind 51 = .ok (.iload_n 0, 1) := by decide +kernel
theorem dX7_isOfKind_52 : decode cX7_isOfKind 52 = .ok (.iconst 4, 1) := by decide +kernel
theorem dX7_isOfKind_53 : decode cX7_isOfKind 53 = .ok (.if_icmp .ne 7, 3) := by decide +kernel
theorem dX7_isOfKind_56 : decode cX7_isOfKind 56 = .ok (.iconst 1, 1) := by decide +kernel
theorem dX7_isOfKind_57 : decode cX7_isOfKind 57 = .ok (.goto 4, 3) := by decide +kernel
theorem dX7_isOfKind_60 : decode cX7_isOfKind 60 = .ok (.iconst 0, 1) := by decide +kernel
theorem dX7_isOfKind_61 : decode cX7_isOfKind 61 = .ok (.ireturn, 1) := by decide +kernel
theorem dX7_isOfKind_62 : decode cX7_isOfKind 62 = .ok (.iload_n 0, 1) := by decide +kernel
theorem dX7_isOfKind_63 : decode cX7_isOfKind 63 = .ok (.iload_n 1, 1) := by decide +kernel
theorem dX7_isOfKind_64 : decode cX7_isOfKind 64 = .ok (.if_icmp .ne 7, 3) := by decide +kernel
theorem dX7_isOfKind_67 : decode cX7_isOfKind 67 = .ok (.iconst 1, 1) := by decide +kernel
theorem dX7_isOfKind_68 : decode cX7_isOfKind 68 = .ok (.goto 4, 3) := by decide +kernel
theorem dX7_isOfKind_71 : decode cX7_isOfKind 71 = .ok (.iconst 0, 1) := by decide +kernel
theorem dX7_isOfKind_72 : decode cX7_isOfKind 72 = .ok (.ireturn, 1) := by decide +kernel
theorem dX7_buildHouse_0 : decode cX7_buildHouse 0 = .ok (.aload_n 0, 1) := by decide +kernel
theorem dX7_buildHouse_1 : decode cX7_buildHouse 1 = .ok (.iload_n 1, 1) := by decide +kernel
theorem dX7_buildHouse_2 : decode cX7_buildHouse 2 = .ok (.invokevirtual 46, 3) := by decide +kernel
theorem dX7_buildHouse_5 : decode cX7_buildHouse 5 = .ok (.ifCond .ne 5, 3) := by decide +kernel
theorem dX7_buildHouse_8 : decode cX7_buildHouse 8 = .ok (.iconst (-1), 1) := by decide +kernel
theorem dX7_buildHouse_9 : decode cX7_buildHouse 9 = .ok (.ireturn, 1) := by decide +kernel
theorem dX7_buildHouse_10 : decode cX7_buildHouse 10 = .ok (.aload_n 0, 1) := by decide +kernel
theorem dX7_buildHouse_11 : decode cX7_buildHouse 11 = .ok (.iload_n 1, 1) := by decide +kernel
theorem dX7_buildHouse_12 : decode cX7_buildHouse 12 = .ok (.invokevirtual 93, 3) := by decide +kernel
theorem dX7_buildHouse_15 : decode cX7_buildHouse 15 = .ok (.istore_n 2, 1) := by decide +kernel
theorem dX7_buildHouse_16 : decode cX7_buildHouse 16 = .ok (.aload_n 0, 1) := by decide +kernel
theorem dX7_buildHouse_17 : decode cX7_buildHouse 17 = .ok (.iload_n 1, 1) := by decide +kernel
theorem dX7_buildHouse_18 : decode cX7_buildHouse 18 = .ok (.iload_n 2, 1) := by decide +kernel
theorem dX7_buildHouse_19 : decode cX7_buildHouse 19 = .ok (.invokevirtual 96, 3) := by decide +kernel
theorem dX7_buildHouse_22 : decode cX7_buildHouse 22 = .ok (.iload_n 2, 1) := by decide +kernel
theorem dX7_buildHouse_23 : decode cX7_buildHouse 23 = .ok (.ireturn, 1) := by decide +kernel
theorem dX7_putHouse_0 : decode cX7_putHouse 0 = .ok (.aload_n 0, 1) := by decide +kernel
theorem dX7_putHouse_1 : decode cX7_putHouse 1 = .ok (.dup, 1) := by decide +kernel
theorem dX7_putHouse_2 : decode cX7_putHouse 2 = .ok (.getfield 34, 3) := by decide +kernel
theorem dX7_putHouse_5 : decode cX7_putHouse 5 = .ok (.iconst 1, 1) := by decide +kernel
theorem dX7_putHouse_6 : decode cX7_putHouse 6 = .ok (.iadd, 1) := by decide +kernel
theorem dX7_putHouse_7 : decode cX7_putHouse 7 = .ok (.putfield 34, 3) := by decide +kernel
theorem dX7_putHouse_10 : decode cX7_putHouse 10 = .ok (.aload_n 0, 1) := by decide +kernel
theorem dX7_putHouse_11 : decode cX7_putHouse 11 = .ok (.getfield 24, 3) := by decide +kernel
theorem dX7_putHouse_14 : decode cX7_putHouse 14 = .ok (.iload_n 1, 1) := by decide +kernel
theorem dX7_putHouse_15 : decode cX7_putHouse 15 = .ok (.aload_n 0, 1) := by decide +kernel
theorem dX7_putHouse_16 : decode cX7_putHouse 16 = .ok (.getfield 34, 3) := by decide +kernel
theorem dX7_putHouse_19 : decode cX7_putHouse 19 = .ok (.iastore, 1) := by decide +kernel
theorem dX7_putHouse_20 : decode cX7_putHouse 20 = .ok (.aload_n 0, 1) := by decide +kernel
theorem dX7_putHouse_21 : decode cX7_putHouse 21 = .ok (.getfield 21, 3) := by decide +kernel
theorem dX7_putHouse_24 : decode cX7_putHouse 24 = .ok (.iload_n 1, 1) := by decide +kernel
theorem dX7_putHouse_25 : decode cX7_putHouse 25 = .ok (.iload_n 2, 1) := by decide +kernel
theorem dX7_putHouse_26 : decode cX7_putHouse 26 = .ok (.iastore, 1) := by decide +kernel
theorem dX7_putHouse_27 : decode cX7_putHouse 27 = .ok (.aload_n 0, 1) := by decide +kernel
theorem dX7_putHouse_28 : decode cX7_putHouse 28 = .ok (.dup, 1) := by decide +kernel
theorem dX7_putHouse_29 : decode cX7_putHouse 29 = .ok (.getfield 37, 3) := by decide +kernel
theorem dX7_putHouse_32 : decode cX7_putHouse 32 = .ok (.iconst 1, 1) := by decide +kernel
theorem dX7_putHouse_33 : decode cX7_putHouse 33 = .ok (.iload_n 1, 1) := by decide +kernel
theorem dX7_putHouse_34 : decode cX7_putHouse 34 = .ok (.ishl, 1) := by decide +kernel
theorem dX7_putHouse_35 : decode cX7_putHouse 35 = .ok (.ior, 1) := by decide +kernel
theorem dX7_putHouse_36 : decode cX7_putHouse 36 = .ok (.putfield 37, 3) := by decide +kernel
theorem dX7_putHouse_39 : decode cX7_putHouse 39 = .ok (.return_, 1) := by decide +kernel
theorem dX7_clearLot_0 : decode cX7_clearLot 0 = .ok (.aload_n 0, 1) := by decide +kernel
theorem dX7_clearLot_1 : decode cX7_clearLot 1 = .ok (.dup, 1) := by decide +kernel
theorem dX7_clearLot_2 : decode cX7_clearLot 2 = .ok (.getfield 37, 3) := by decide +kernel
theorem dX7_clearLot_5 : decode cX7_clearLot 5 = .ok (.iconst 1, 1) := by decide +kernel
theorem dX7_clearLot_6 : decode cX7_clearLot 6 = .ok (.iload_n 1, 1) := by decide +kernel
theorem dX7_clearLot_7 : decode cX7_clearLot 7 = .ok (.ishl, 1) := by decide +kernel
theorem dX7_clearLot_8 : decode cX7_clearLot 8 = .ok (.iconst (-1), 1) := by decide +kernel
theorem dX7_clearLot_9 : decode cX7_clearLot 9 = .ok (.ixor, 1) := by decide +kernel
theorem dX7_clearLot_10 : decode cX7_clearLot 10 = .ok (.iand, 1) := by decide +kernel
theorem dX7_clearLot_11 : decode cX7_clearLot 11 = .ok (.putfield 37, 3) := by decide +kernel
theorem dX7_clearLot_14 : decode cX7_clearLot 14 = .ok (.return_, 1) := by decide +kernel
theorem dX7_buildFirst_0 : decode cX7_buildFirst 0 = .ok (.iconst 0, 1) := by decide +kernel
theorem dX7_buildFirst_1 : decode cX7_buildFirst 1 = .ok (.istore_n 3, 1) := by decide +kernel
theorem dX7_buildFirst_2 : decode cX7_buildFirst 2 = .ok (.iload_n 3, 1) := by decide +kernel
theorem dX7_buildFirst_3 : decode cX7_buildFirst 3 = .ok (.iload_n 2, 1) := by decide +kernel
theorem dX7_buildFirst_4 : decode cX7_buildFirst 4 = .ok (.if_icmp .ge 28, 3) := by decide +kernel
theorem dX7_buildFirst_7 : decode cX7_buildFirst 7 = .ok (.iload_n 3, 1) := by decide +kernel
theorem dX7_buildFirst_8 : decode cX7_buildFirst 8 = .ok (.aload_n 1, 1) := by decide +kernel
theorem dX7_buildFirst_9 : decode cX7_buildFirst 9 = .ok (.getfield 99, 3) := by decide +kernel
theorem dX7_buildFirst_12 : decode cX7_buildFirst 12 = .ok (.if_icmp .ge 20, 3) := by decide +kernel
theorem dX7_buildFirst_15 : decode cX7_buildFirst 15 = .ok (.aload_n 0, 1) := by decide +kernel
theorem dX7_buildFirst_16 : decode cX7_buildFirst 16 = .ok (.aload_n 1, 1) := by decide +kernel
theorem dX7_buildFirst_17 : decode cX7_buildFirst 17 = .ok (.getfield 104, 3) := by decide +kernel
theorem dX7_buildFirst_20 : decode cX7_buildFirst 20 = .ok (.iload_n 3, 1) := by decide +kernel
theorem dX7_buildFirst_21 : decode cX7_buildFirst 21 = .ok (.iaload, 1) := by decide +kernel
theorem dX7_buildFirst_22 : decode cX7_buildFirst 22 = .ok (.invokevirtual 106, 3) := by decide +kernel
theorem dX7_buildFirst_25 : decode cX7_buildFirst 25 = .ok (.pop, 1) := by decide +kernel
theorem dX7_buildFirst_26 : decode cX7_buildFirst 26 = .ok (.iinc 3 1, 3) := by decide +kernel
theorem dX7_buildFirst_29 : decode cX7_buildFirst 29 = .ok (.goto (-27), 3) := by decide +kernel
theorem dX7_buildFirst_32 : decode cX7_buildFirst 32 = .ok (.return_, 1) := by decide +kernel
theorem dJ6_numberOfLeadingZeros_0f7a4_0 : decode cJ6_numberOfLeadingZeros_0f7a4 0 = .ok (.iload_n 0, 1) := by decide +kernel
theorem dJ6_numberOfLeadingZeros_0f7a4_1 : decode cJ6_numberOfLeadingZeros_0f7a4 1 = .ok (.ifCond .gt 14, 3) := by decide +kernel
theorem dJ6_numberOfLeadingZeros_0f7a4_4 : decode cJ6_numberOfLeadingZeros_0f7a4 4 = .ok (.iload_n 0, 1) := by decide +kernel
theorem dJ6_numberOfLeadingZeros_0f7a4_5 : decode cJ6_numberOfLeadingZeros_0f7a4 5 = .ok (.ifCond .ne 8, 3) := by decide +kernel
theorem dJ6_numberOfLeadingZeros_0f7a4_8 : decode cJ6_numberOfLeadingZeros_0f7a4 8 = .ok (.bipush 32, 2) := by decide +kernel
theorem dJ6_numberOfLeadingZeros_0f7a4_10 : decode cJ6_numberOfLeadingZeros_0f7a4 10 = .ok (.goto 4, 3) := by decide +kernel
theorem dJ6_numberOfLeadingZeros_0f7a4_13 : decode cJ6_numberOfLeadingZeros_0f7a4 13 = .ok (.iconst 0, 1) := by decide +kernel
theorem dJ6_numberOfLeadingZeros_0f7a4_14 : decode cJ6_numberOfLeadingZeros_0f7a4 14 = .ok (.ireturn, 1) := by decide +kernel
theorem dJ6_numberOfLeadingZeros_0f7a4_15 : decode cJ6_numberOfLeadingZeros_0f7a4 15 = .ok (.bipush 31, 2) := by decide +kernel
theorem dJ6_numberOfLeadingZeros_0f7a4_17 : decode cJ6_numberOfLeadingZeros_0f7a4 17 = .ok (.istore_n 1, 1) := by decide +kernel
theorem dJ6_numberOfLeadingZeros_0f7a4_18 : decode cJ6_numberOfLeadingZeros_0f7a4 18 = .ok (.iload_n 0, 1) := by decide +kernel
theorem dJ6_numberOfLeadingZeros_0f7a4_19 : decode cJ6_numberOfLeadingZeros_0f7a4 19 = .ok (.ldc_w 264, 3) := by decide +kernel
theorem dJ6_numberOfLeadingZeros_0f7a4_22 : decode cJ6_numberOfLeadingZeros_0f7a4 22 = .ok (.if_icmp .lt 11, 3) := by decide +kernel
theorem dJ6_numberOfLeadingZeros_0f7a4_25 : decode cJ6_numberOfLeadingZeros_0f7a4 25 = .ok (.iinc 1 (-16), 3) := by decide +kernel
theorem dJ6_numberOfLeadingZeros_0f7a4_28 : decode cJ6_numberOfLeadingZeros_0f7a4 28 = .ok (.iload_n 0, 1) := by decide +kernel
theorem dJ6_numberOfLeadingZeros_0f7a4_29 : decode cJ6_numberOfLeadingZeros_0f7a4 29 = .ok (.bipush 16, 2) := by decide +kernel
theorem dJ6_numberOfLeadingZeros_0f7a4_31 : decode cJ6_numberOfLeadingZeros_0f7a4 31 = .ok (.iushr, 1) := by decide +kernel
theorem dJ6_numberOfLeadingZeros_0f7a4_32 : decode cJ6_numberOfLeadingZeros_0f7a4 32 = .ok (.istore_n 0, 1) := by decide +kernel
theorem dJ6_numberOfLeadingZeros_0f7a4_33 : decode cJ6_numberOfLeadingZeros_0f7a4 33 = .ok (.iload_n 0, 1) := by decide +kernel
theorem dJ6_numberOfLeadingZeros_0f7a4_34 : decode cJ6_numberOfLeadingZeros_0f7a4 34 = .ok (.sipush 256, 3) := by decide +kernel
theorem dJ6_numberOfLeadingZeros_0f7a4_37 : decode cJ6_numberOfLeadingZeros_0f7a4 37 = .ok (.if_icmp .lt 11, 3) := by decide +kernel
theorem dJ6_numberOfLeadingZeros_0f7a4_40 : decode cJ6_numberOfLeadingZeros_0f7a4 40 = .ok (.iinc 1 (-8), 3) := by decide +kernel
theorem dJ6_numberOfLeadingZeros_0f7a4_43 : decode cJ6_numberOfLeadingZeros_0f7a4 43 = .ok (.iload_n 0, 1) := by decide +kernel
theorem dJ6_numberOfLeadingZeros_0f7a4_44 : decode cJ6_numberOfLeadingZeros_0f7a4 44 = .ok (.bipush 8, 2) := by decide +kernel
theorem dJ6_numberOfLeadingZeros_0f7a4_46 : decode cJ6_numberOfLeadingZeros_0f7a4 46 = .ok (.iushr, 1) := by decide +kernel
theorem dJ6_numberOfLeadingZeros_0f7a4_47 : decode cJ6_numberOfLeadingZeros_0f7a4 47 = .ok (.istore_n 0, 1) := by decide +kernel
theorem dJ6_numberOfLeadingZeros_0f7a4_48 : decode cJ6_numberOfLeadingZeros_0f7a4 48 = .ok (.iload_n 0, 1) := by decide +kernel
theorem dJ6_numberOfLeadingZeros_0f7a4_49 : decode cJ6_numberOfLeadingZeros_0f7a4 49 = .ok (.bipush 16, 2) := by decide +kernel
theorem dJ6_numberOfLeadingZeros_0f7a4_51 : decode cJ6_numberOfLeadingZeros_0f7a4 51 = .ok (.if_icmp .lt 10, 3) := by decide +kernel
theorem dJ6_numberOfLeadingZeros_0f7a4_54 : decode cJ6_numberOfLeadingZeros_0f7a4 54 = .ok (.iinc 1 (-4), 3) := by decide +kernel
theorem dJ6_numberOfLeadingZeros_0f7a4_57 : decode cJ6_numberOfLeadingZeros_0f7a4 57 = .ok (.iload_n 0, 1) := by decide +kernel
theorem dJ6_numberOfLeadingZeros_0f7a4_58 : decode cJ6_numberOfLeadingZeros_0f7a4 58 = .ok (.iconst 4, 1) := by decide +kernel
theorem dJ6_numberOfLeadingZeros_0f7a4_59 : decode cJ6_numberOfLeadingZeros_0f7a4 59 = .ok (.iushr, 1) := by decide +kernel
theorem dJ6_numberOfLeadingZeros_0f7a4_60 : decode cJ6_numberOfLeadingZeros_0f7a4 60 = .ok (.istore_n 0, 1) := by decide +kernel
theorem dJ6_numberOfLeadingZeros_0f7a4_61 : decode cJ6_numberOfLeadingZeros_0f7a4 61 = .ok (.iload_n 0, 1) := by decide +kernel
theorem dJ6_numberOfLeadingZeros_0f7a4_62 : decode cJ6_numberOfLeadingZeros_0f7a4 62 = .ok (.iconst 4, 1) := by decide +kernel
theorem dJ6_numberOfLeadingZeros_0f7a4_63 : decode cJ6_numberOfLeadingZeros_0f7a4 63 = .ok (.if_icmp .lt 10, 3) := by decide +kernel
theorem dJ6_numberOfLeadingZeros_0f7a4_66 : decode cJ6_numberOfLeadingZeros_0f7a4 66 = .ok (.iinc 1 (-2), 3) := by decide +kernel
theorem dJ6_numberOfLeadingZeros_0f7a4_69 : decode cJ6_numberOfLeadingZeros_0f7a4 69 = .ok (.iload_n 0, 1) := by decide +kernel
theorem dJ6_numberOfLeadingZeros_0f7a4_70 : decode cJ6_numberOfLeadingZeros_0f7a4 70 = .ok (.iconst 2, 1) := by decide +kernel
theorem dJ6_numberOfLeadingZeros_0f7a4_71 : decode cJ6_numberOfLeadingZeros_0f7a4 71 = .ok (.iushr, 1) := by decide +kernel
theorem dJ6_numberOfLeadingZeros_0f7a4_72 : decode cJ6_numberOfLeadingZeros_0f7a4 72 = .ok (.istore_n 0, 1) := by decide +kernel
theorem dJ6_numberOfLeadingZeros_0f7a4_73 : decode cJ6_numberOfLeadingZeros_0f7a4 73 = .ok (.iload_n 1, 1) := by decide +kernel
theorem dJ6_numberOfLeadingZeros_0f7a4_74 : decode cJ6_numberOfLeadingZeros_0f7a4 74 = .ok (.iload_n 0, 1) := by decide +kernel
theorem dJ6_numberOfLeadingZeros_0f7a4_75 : decode cJ6_numberOfLeadingZeros_0f7a4 75 = .ok (.iconst 1, 1) := by decide +kernel
theorem dJ6_numberOfLeadingZeros_0f7a4_76 : decode cJ6_numberOfLeadingZeros_0f7a4 76 = .ok (.iushr, 1) := by decide +kernel
