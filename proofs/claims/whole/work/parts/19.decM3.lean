theorem dX9_unlike_22 : decode cX9_unlike 22 = .ok (.getfield 19, 3) := by decide +kernel
theorem dX9_unlike_25 : decode cX9_unlike 25 = .ok (.iload_n 2, 1) := by decide +kernel
theorem dX9_unlike_26 : decode cX9_unlike 26 = .ok (.iaload, 1) := by decide +kernel
theorem dX9_unlike_27 : decode cX9_unlike 27 = .ok (.if_icmp .eq 5, 3) := by decide +kernel
theorem dX9_unlike_30 : decode cX9_unlike 30 = .ok (.iload_n 2, 1) := by decide +kernel
theorem dX9_unlike_31 : decode cX9_unlike 31 = .ok (.ireturn, 1) := by decide +kernel
theorem dX9_unlike_32 : decode cX9_unlike 32 = .ok (.iinc 2 1, 3) := by decide +kernel
theorem dX9_unlike_35 : decode cX9_unlike 35 = .ok (.goto (-33), 3) := by decide +kernel
theorem dX9_unlike_38 : decode cX9_unlike 38 = .ok (.iconst (-1), 1) := by decide +kernel
theorem dX9_unlike_39 : decode cX9_unlike 39 = .ok (.ireturn, 1) := by decide +kernel
theorem dX9_judge_0 : decode cX9_judge 0 = .ok (.aload_n 0, 1) := by decide +kernel
theorem dX9_judge_1 : decode cX9_judge 1 = .ok (.iload_n 1, 1) := by decide +kernel
theorem dX9_judge_2 : decode cX9_judge 2 = .ok (.invokevirtual 287, 3) := by decide +kernel
theorem dX9_judge_5 : decode cX9_judge 5 = .ok (.istore_n 2, 1) := by decide +kernel
theorem dX9_judge_6 : decode cX9_judge 6 = .ok (.iload_n 2, 1) := by decide +kernel
theorem dX9_judge_7 : decode cX9_judge 7 = .ok (.ifCond .ne 11, 3) := by decide +kernel
theorem dX9_judge_10 : decode cX9_judge 10 = .ok (.aload_n 0, 1) := by decide +kernel
theorem dX9_judge_11 : decode cX9_judge 11 = .ok (.iload_n 1, 1) := by decide +kernel
theorem dX9_judge_12 : decode cX9_judge 12 = .ok (.invokevirtual 290, 3) := by decide +kernel
theorem dX9_judge_15 : decode cX9_judge 15 = .ok (.goto 4, 3) := by decide +kernel
theorem dX9_judge_18 : decode cX9_judge 18 = .ok (.iload_n 2, 1) := by decide +kernel
theorem dX9_judge_19 : decode cX9_judge 19 = .ok (.ireturn, 1) := by decide +kernel
theorem dX9_isSoByRow_0 : decode cX9_isSoByRow 0 = .ok (.aload_n 0, 1) := by decide +kernel
theorem dX9_isSoByRow_1 : decode cX9_isSoByRow 1 = .ok (.invokevirtual 226, 3) := by decide +kernel
theorem dX9_isSoByRow_4 : decode cX9_isSoByRow 4 = .ok (.aload_n 0, 1) := by decide +kernel
theorem dX9_isSoByRow_5 : decode cX9_isSoByRow 5 = .ok (.aload_n 0, 1) := by decide +kernel
theorem dX9_isSoByRow_6 : decode cX9_isSoByRow 6 = .ok (.getfield 235, 3) := by decide +kernel
theorem dX9_isSoByRow_9 : decode cX9_isSoByRow 9 = .ok (.invokevirtual 241, 3) := by decide +kernel
theorem dX9_isSoByRow_12 : decode cX9_isSoByRow 12 = .ok (.aload_n 0, 1) := by decide +kernel
theorem dX9_isSoByRow_13 : decode cX9_isSoByRow 13 = .ok (.iload_n 1, 1) := by decide +kernel
theorem dX9_isSoByRow_14 : decode cX9_isSoByRow 14 = .ok (.invokevirtual 290, 3) := by decide +kernel
theorem dX9_isSoByRow_17 : decode cX9_isSoByRow 17 = .ok (.iconst (-1), 1) := by decide +kernel
theorem dX9_isSoByRow_18 : decode cX9_isSoByRow 18 = .ok (.if_icmp .ne 7, 3) := by decide +kernel
theorem dX9_isSoByRow_21 : decode cX9_isSoByRow 21 = .ok (.iconst 1, 1) := by decide +kernel
theorem dX9_isSoByRow_22 : decode cX9_isSoByRow 22 = .ok (.goto 4, 3) := by decide +kernel
theorem dX9_isSoByRow_25 : decode cX9_isSoByRow 25 = .ok (.iconst 0, 1) := by decide +kernel
theorem dX9_isSoByRow_26 : decode cX9_isSoByRow 26 = .ok (.istore_n 2, 1) := by decide +kernel
theorem dX9_isSoByRow_27 : decode cX9_isSoByRow 27 = .ok (.aload_n 0, 1) := by decide +kernel
theorem dX9_isSoByRow_28 : decode cX9_isSoByRow 28 = .ok (.invokevirtual 229, 3) := by decide +kernel
theorem dX9_isSoByRow_31 : decode cX9_isSoByRow 31 = .ok (.iload_n 2, 1) := by decide +kernel
theorem dX9_isSoByRow_32 : decode cX9_isSoByRow 32 = .ok (.ireturn, 1) := by decide +kernel
theorem dX9_plans_0 : decode cX9_plans 0 = .ok (.aload_n 0, 1) := by decide +kernel
theorem dX9_plans_1 : decode cX9_plans 1 = .ok (.iload_n 1, 1) := by decide +kernel
theorem dX9_plans_2 : decode cX9_plans 2 = .ok (.invokevirtual 287, 3) := by decide +kernel
theorem dX9_plans_5 : decode cX9_plans 5 = .ok (.istore_n 3, 1) := by decide +kernel
theorem dX9_plans_6 : decode cX9_plans 6 = .ok (.iload_n 3, 1) := by decide +kernel
theorem dX9_plans_7 : decode cX9_plans 7 = .ok (.ifCond .eq 5, 3) := by decide +kernel
theorem dX9_plans_10 : decode cX9_plans 10 = .ok (.iload_n 3, 1) := by decide +kernel
theorem dX9_plans_11 : decode cX9_plans 11 = .ok (.ireturn, 1) := by decide +kernel
theorem dX9_plans_12 : decode cX9_plans 12 = .ok (.iload_n 2, 1) := by decide +kernel
theorem dX9_plans_13 : decode cX9_plans 13 = .ok (.iconst 0, 1) := by decide +kernel
theorem dX9_plans_14 : decode cX9_plans 14 = .ok (.iconst 1, 1) := by decide +kernel
theorem dX9_plans_15 : decode cX9_plans 15 = .ok (.invokestatic 81, 3) := by decide +kernel
theorem dX9_plans_18 : decode cX9_plans 18 = .ok (.ifCond .ne 6, 3) := by decide +kernel
theorem dX9_plans_21 : decode cX9_plans 21 = .ok (.bipush (-7), 2) := by decide +kernel
theorem dX9_plans_23 : decode cX9_plans 23 = .ok (.ireturn, 1) := by decide +kernel
theorem dX9_plans_24 : decode cX9_plans 24 = .ok (.aload_n 0, 1) := by decide +kernel
theorem dX9_plans_25 : decode cX9_plans 25 = .ok (.aload_n 0, 1) := by decide +kernel
theorem dX9_plans_26 : decode cX9_plans 26 = .ok (.invokevirtual 244, 3) := by decide +kernel
theorem dX9_plans_29 : decode cX9_plans 29 = .ok (.invokevirtual 247, 3) := by decide +kernel
theorem dX9_plans_32 : decode cX9_plans 32 = .ok (.iconst 0, 1) := by decide +kernel
theorem dX9_plans_33 : decode cX9_plans 33 = .ok (.istore 4, 2) := by decide +kernel
theorem dX9_plans_35 : decode cX9_plans 35 = .ok (.iconst (-1), 1) := by decide +kernel
theorem dX9_plans_36 : decode cX9_plans 36 = .ok (.istore 5, 2) := by decide +kernel
theorem dX9_plans_38 : decode cX9_plans 38 = .ok (.iconst 1, 1) := by decide +kernel
theorem dX9_plans_39 : decode cX9_plans 39 = .ok (.istore 6, 2) := by decide +kernel
theorem dX9_plans_41 : decode cX9_plans 41 = .ok (.iload 6, 2) := by decide +kernel
theorem dX9_plans_43 : decode cX9_plans 43 = .ok (.ifCond .eq 39, 3) := by decide +kernel
theorem dX9_plans_46 : decode cX9_plans 46 = .ok (.aload_n 0, 1) := by decide +kernel
theorem dX9_plans_47 : decode cX9_plans 47 = .ok (.iload_n 1, 1) := by decide +kernel
theorem dX9_plans_48 : decode cX9_plans 48 = .ok (.invokevirtual 293, 3) := by decide +kernel
theorem dX9_plans_51 : decode cX9_plans 51 = .ok (.ifCond .eq 22, 3) := by decide +kernel
theorem dX9_plans_54 : decode cX9_plans 54 = .ok (.iload 4, 2) := by decide +kernel
theorem dX9_plans_56 : decode cX9_plans 56 = .ok (.ifCond .ne 10, 3) := by decide +kernel
theorem dX9_plans_59 : decode cX9_plans 59 = .ok (.aload_n 0, 1) := by decide +kernel
theorem dX9_plans_60 : decode cX9_plans 60 = .ok (.invokevirtual 253, 3) := by decide +kernel
theorem dX9_plans_63 : decode cX9_plans 63 = .ok (.goto 5, 3) := by decide +kernel
theorem dX9_plans_66 : decode cX9_plans 66 = .ok (.iload 5, 2) := by decide +kernel
theorem dX9_plans_68 : decode cX9_plans 68 = .ok (.istore 5, 2) := by decide +kernel
theorem dX9_plans_70 : decode cX9_plans 70 = .ok (.iinc 4 1, 3) := by decide +kernel
theorem dX9_plans_73 : decode cX9_plans 73 = .ok (.aload_n 0, 1) := by decide +kernel
theorem dX9_plans_74 : decode cX9_plans 74 = .ok (.invokevirtual 256, 3) := by decide +kernel
theorem dX9_plans_77 : decode cX9_plans 77 = .ok (.istore 6, 2) := by decide +kernel
theorem dX9_plans_79 : decode cX9_plans 79 = .ok (.goto (-38), 3) := by decide +kernel
theorem dX9_plans_82 : decode cX9_plans 82 = .ok (.iload_n 2, 1) := by decide +kernel
theorem dX9_plans_83 : decode cX9_plans 83 = .ok (.ifCond .ne 8, 3) := by decide +kernel
theorem dX9_plans_86 : decode cX9_plans 86 = .ok (.iload 4, 2) := by decide +kernel
theorem dX9_plans_88 : decode cX9_plans 88 = .ok (.goto 5, 3) := by decide +kernel
theorem dX9_plans_91 : decode cX9_plans 91 = .ok (.iload 5, 2) := by decide +kernel
theorem dX9_plans_93 : decode cX9_plans 93 = .ok (.ireturn, 1) := by decide +kernel
theorem dX9_film_0 : decode cX9_film 0 = .ok (.iload_n 1, 1) := by decide +kernel
theorem dX9_film_1 : decode cX9_film 1 = .ok (.iconst 0, 1) := by decide +kernel
theorem dX9_film_2 : decode cX9_film 2 = .ok (.iconst 3, 1) := by decide +kernel
theorem dX9_film_3 : decode cX9_film 3 = .ok (.invokestatic 81, 3) := by decide +kernel
theorem dX9_film_6 : decode cX9_film 6 = .ok (.ifCond .ne 6, 3) := by decide +kernel
theorem dX9_film_9 : decode cX9_film 9 = .ok (.bipush (-2), 2) := by decide +kernel
theorem dX9_film_11 : decode cX9_film 11 = .ok (.ireturn, 1) := by decide +kernel
theorem dX9_film_12 : decode cX9_film 12 = .ok (.aload_n 0, 1) := by decide +kernel
theorem dX9_film_13 : decode cX9_film 13 = .ok (.getfield 37, 3) := by decide +kernel
theorem dX9_film_16 : decode cX9_film 16 = .ok (.iload_n 1, 1) := by decide +kernel
theorem dX9_film_17 : decode cX9_film 17 = .ok (.iconst 2, 1) := by decide +kernel
theorem dX9_film_18 : decode cX9_film 18 = .ok (.iastore, 1) := by decide +kernel
theorem dX9_film_19 : decode cX9_film 19 = .ok (.aload_n 0, 1) := by decide +kernel
theorem dX9_film_20 : decode cX9_film 20 = .ok (.getfield 40, 3) := by decide +kernel
theorem dX9_film_23 : decode cX9_film 23 = .ok (.iload_n 1, 1) := by decide +kernel
theorem dX9_film_24 : decode cX9_film 24 = .ok (.aload_n 0, 1) := by decide +kernel
theorem dX9_film_25 : decode cX9_film 25 = .ok (.getfield 78, 3) := by decide +kernel
theorem dX9_film_28 : decode cX9_film 28 = .ok (.iastore, 1) := by decide +kernel
theorem dX9_film_29 : decode cX9_film 29 = .ok (.iconst 0, 1) := by decide +kernel
theorem dX9_film_30 : decode cX9_film 30 = .ok (.istore_n 2, 1) := by decide +kernel
theorem dX9_film_31 : decode cX9_film 31 = .ok (.iload_n 2, 1) := by decide +kernel
theorem dX9_film_32 : decode cX9_film 32 = .ok (.bipush 40, 2) := by decide +kernel
theorem dX9_film_34 : decode cX9_film 34 = .ok (.if_icmp .ge 38, 3) := by decide +kernel
theorem dX9_film_37 : decode cX9_film 37 = .ok (.aload_n 0, 1) := by decide +kernel
theorem dX9_film_38 : decode cX9_film 38 = .ok (.getfield 43, 3) := by decide +kernel
theorem dX9_film_41 : decode cX9_film 41 = .ok (.bipush 40, 2) := by decide +kernel
theorem dX9_film_43 : decode cX9_film 43 = .ok (.iload_n 1, 1) := by decide +kernel
theorem dX9_film_44 : decode cX9_film 44 = .ok (.imul, 1) := by decide +kernel
theorem dX9_film_45 : decode cX9_film 45 = .ok (.iload_n 2, 1) := by decide +kernel
theorem dX9_film_46 : decode cX9_film 46 = .ok (.iadd, 1) := by decide +kernel
theorem dX9_film_47 : decode cX9_film 47 = .ok (.iload_n 2, 1) := by decide +kernel
theorem dX9_film_48 : decode cX9_film 48 = .ok (.aload_n 0, 1) := by decide +kernel
theorem dX9_film_49 : decode cX9_film 49 = .ok (.getfield 78, 3) := by decide +kernel
theorem dX9_film_52 : decode cX9_film 52 = .ok (.if_icmp .ge 12, 3) := by decide +kernel
theorem dX9_film_55 : decode cX9_film 55 = .ok (.aload_n 0, 1) := by decide +kernel
theorem dX9_film_56 : decode cX9_film 56 = .ok (.getfield 19, 3) := by decide +kernel
theorem dX9_film_59 : decode cX9_film 59 = .ok (.iload_n 2, 1) := by decide +kernel
theorem dX9_film_60 : decode cX9_film 60 = .ok (.iaload, 1) := by decide +kernel
theorem dX9_film_61 : decode cX9_film 61 = .ok (.goto 4, 3) := by decide +kernel
theorem dX9_film_64 : decode cX9_film 64 = .ok (.iconst 0, 1) := by decide +kernel
theorem dX9_film_65 : decode cX9_film 65 = .ok (.iastore, 1) := by decide +kernel
theorem dX9_film_66 : decode cX9_film 66 = .ok (.iinc 2 1, 3) := by decide +kernel
theorem dX9_film_69 : decode cX9_film 69 = .ok (.goto (-38), 3) := by decide +kernel
theorem dX9_film_72 : decode cX9_film 72 = .ok (.aload_n 0, 1) := by decide +kernel
theorem dX9_film_73 : decode cX9_film 73 = .ok (.getfield 78, 3) := by decide +kernel
theorem dX9_film_76 : decode cX9_film 76 = .ok (.ireturn, 1) := by decide +kernel
theorem dX9_laws_0 : decode cX9_laws 0 = .ok (.aload_n 0, 1) := by decide +kernel
theorem dX9_laws_1 : decode cX9_laws 1 = .ok (.iload_n 1, 1) := by decide +kernel
theorem dX9_laws_2 : decode cX9_laws 2 = .ok (.iload_n 2, 1) := by decide +kernel
theorem dX9_laws_3 : decode cX9_laws 3 = .ok (.invokevirtual 220, 3) := by decide +kernel
theorem dX9_laws_6 : decode cX9_laws 6 = .ok (.ifCond .ne 6, 3) := by decide +kernel
theorem dX9_laws_9 : decode cX9_laws 9 = .ok (.bipush (-5), 2) := by decide +kernel
theorem dX9_laws_11 : decode cX9_laws 11 = .ok (.ireturn, 1) := by decide +kernel
theorem dX9_laws_12 : decode cX9_laws 12 = .ok (.aload_n 0, 1) := by decide +kernel
theorem dX9_laws_13 : decode cX9_laws 13 = .ok (.iload_n 1, 1) := by decide +kernel
theorem dX9_laws_14 : decode cX9_laws 14 = .ok (.iload_n 2, 1) := by decide +kernel
theorem dX9_laws_15 : decode cX9_laws 15 = .ok (.invokevirtual 186, 3) := by decide +kernel
theorem dX9_laws_18 : decode cX9_laws 18 = .ok (.ifCond .eq 6, 3) := by decide +kernel
theorem dX9_laws_21 : decode cX9_laws 21 = .ok (.bipush (-3), 2) := by decide +kernel
theorem dX9_laws_23 : decode cX9_laws 23 = .ok (.ireturn, 1) := by decide +kernel
theorem dX9_laws_24 : decode cX9_laws 24 = .ok (.iload_n 3, 1) := by decide +kernel
theorem dX9_laws_25 : decode cX9_laws 25 = .ok (.iconst 0, 1) := by decide +kernel
theorem dX9_laws_26 : decode cX9_laws 26 = .ok (.bipush 20, 2) := by decide +kernel
theorem dX9_laws_28 : decode cX9_laws 28 = .ok (.invokestatic 81, 3) := by decide +kernel
theorem dX9_laws_31 : decode cX9_laws 31 = .ok (.ifCond .ne 6, 3) := by decide +kernel
theorem dX9_laws_34 : decode cX9_laws 34 = .ok (.bipush (-7), 2) := by decide +kernel
theorem dX9_laws_36 : decode cX9_laws 36 = .ok (.ireturn, 1) := by decide +kernel
theorem dX9_laws_37 : decode cX9_laws 37 = .ok (.aload_n 0, 1) := by decide +kernel
theorem dX9_laws_38 : decode cX9_laws 38 = .ok (.getfield 108, 3) := by decide +kernel
theorem dX9_laws_41 : decode cX9_laws 41 = .ok (.istore 4, 2) := by decide +kernel
theorem dX9_laws_43 : decode cX9_laws 43 = .ok (.iconst 0, 1) := by decide +kernel
theorem dX9_laws_44 : decode cX9_laws 44 = .ok (.istore 5, 2) := by decide +kernel
theorem dX9_laws_46 : decode cX9_laws 46 = .ok (.iconst 0, 1) := by decide +kernel
theorem dX9_laws_47 : decode cX9_laws 47 = .ok (.istore 6, 2) := by decide +kernel
theorem dX9_laws_49 : decode cX9_laws 49 = .ok (.iload 6, 2) := by decide +kernel
theorem dX9_laws_51 : decode cX9_laws 51 = .ok (.aload_n 0, 1) := by decide +kernel
theorem dX9_laws_52 : decode cX9_laws 52 = .ok (.getfield 105, 3) := by decide +kernel
theorem dX9_laws_55 : decode cX9_laws 55 = .ok (.if_icmp .ge 38, 3) := by decide +kernel
theorem dX9_laws_58 : decode cX9_laws 58 = .ok (.aload_n 0, 1) := by decide +kernel
theorem dX9_laws_59 : decode cX9_laws 59 = .ok (.iload 6, 2) := by decide +kernel
theorem dX9_laws_61 : decode cX9_laws 61 = .ok (.putfield 108, 3) := by decide +kernel
theorem dX9_laws_64 : decode cX9_laws 64 = .ok (.iload 5, 2) := by decide +kernel
theorem dX9_laws_66 : decode cX9_laws 66 = .ok (.aload_n 0, 1) := by decide +kernel
theorem dX9_laws_67 : decode cX9_laws 67 = .ok (.iload_n 1, 1) := by decide +kernel
theorem dX9_laws_68 : decode cX9_laws 68 = .ok (.iload_n 2, 1) := by decide +kernel
theorem dX9_laws_69 : decode cX9_laws 69 = .ok (.invokevirtual 232, 3) := by decide +kernel
theorem dX9_laws_72 : decode cX9_laws 72 = .ok (.iload_n 3, 1) := by decide +kernel
theorem dX9_laws_73 : decode cX9_laws 73 = .ok (.if_icmp .ne 10, 3) := by decide +kernel
theorem dX9_laws_76 : decode cX9_laws 76 = .ok (.iconst 1, 1) := by decide +kernel
theorem dX9_laws_77 : decode cX9_laws 77 = .ok (.iload 6, 2) := by decide +kernel
theorem dX9_laws_79 : decode cX9_laws 79 = .ok (.ishl, 1) := by decide +kernel
theorem dX9_laws_80 : decode cX9_laws 80 = .ok (.goto 4, 3) := by decide +kernel
theorem dX9_laws_83 : decode cX9_laws 83 = .ok (.iconst 0, 1) := by decide +kernel
theorem dX9_laws_84 : decode cX9_laws 84 = .ok (.ior, 1) := by decide +kernel
theorem dX9_laws_85 : decode cX9_laws 85 = .ok (.istore 5, 2) := by decide +kernel
theorem dX9_laws_87 : decode cX9_laws 87 = .ok (.iinc 6 1, 3) := by decide +kernel
theorem dX9_laws_90 : decode cX9_laws 90 = .ok (.goto (-41), 3) := by decide +kernel
theorem dX9_laws_93 : decode cX9_laws 93 = .ok (.aload_n 0, 1) := by decide +kernel
theorem dX9_laws_94 : decode cX9_laws 94 = .ok (.iload 4, 2) := by decide +kernel
theorem dX9_laws_96 : decode cX9_laws 96 = .ok (.putfield 108, 3) := by decide +kernel
theorem dX9_laws_99 : decode cX9_laws 99 = .ok (.iload 5, 2) := by decide +kernel
theorem dX9_laws_101 : decode cX9_laws 101 = .ok (.ireturn, 1) := by decide +kernel
theorem dX9_manyBy_0 : decode cX9_manyBy 0 = .ok (.iload_n 1, 1) := by decide +kernel
theorem dX9_manyBy_1 : decode cX9_manyBy 1 = .ok (.i2l, 1) := by decide +kernel
theorem dX9_manyBy_2 : decode cX9_manyBy 2 = .ok (.lconst 1, 1) := by decide +kernel
theorem dX9_manyBy_3 : decode cX9_manyBy 3 = .ok (.ladd, 1) := by decide +kernel
theorem dX9_manyBy_4 : decode cX9_manyBy 4 = .ok (.lstore_n 2, 1) := by decide +kernel
theorem dX9_manyBy_5 : decode cX9_manyBy 5 = .ok (.aload_n 0, 1) := by decide +kernel
theorem dX9_manyBy_6 : decode cX9_manyBy 6 = .ok (.invokevirtual 226, 3) := by decide +kernel
theorem dX9_manyBy_9 : decode cX9_manyBy 9 = .ok (.aload_n 0, 1) := by decide +kernel
theorem dX9_manyBy_10 : decode cX9_manyBy 10 = .ok (.aload_n 0, 1) := by decide +kernel
theorem dX9_manyBy_11 : decode cX9_manyBy 11 = .ok (.invokevirtual 244, 3) := by decide +kernel
theorem dX9_manyBy_14 : decode cX9_manyBy 14 = .ok (.invokevirtual 247, 3) := by decide +kernel
theorem dX9_manyBy_17 : decode cX9_manyBy 17 = .ok (.aload_n 0, 1) := by decide +kernel
theorem dX9_manyBy_18 : decode cX9_manyBy 18 = .ok (.getfield 235, 3) := by decide +kernel
theorem dX9_manyBy_21 : decode cX9_manyBy 21 = .ok (.ifCond .le 51, 3) := by decide +kernel
theorem dX9_manyBy_24 : decode cX9_manyBy 24 = .ok (.lload_n 2, 1) := by decide +kernel
theorem dX9_manyBy_25 : decode cX9_manyBy 25 = .ok (.ldc2_w 296, 3) := by decide +kernel
theorem dX9_manyBy_28 : decode cX9_manyBy 28 = .ok (.lmul, 1) := by decide +kernel
theorem dX9_manyBy_29 : decode cX9_manyBy 29 = .ok (.ldc2_w 298, 3) := by decide +kernel
theorem dX9_manyBy_32 : decode cX9_manyBy 32 = .ok (.lrem, 1) := by decide +kernel
theorem dX9_manyBy_33 : decode cX9_manyBy 33 = .ok (.lstore_n 2, 1) := by decide +kernel
theorem dX9_manyBy_34 : decode cX9_manyBy 34 = .ok (.aload_n 0, 1) := by decide +kernel
theorem dX9_manyBy_35 : decode cX9_manyBy 35 = .ok (.getfield 64, 3) := by decide +kernel
theorem dX9_manyBy_38 : decode cX9_manyBy 38 = .ok (.lload_n 2, 1) := by decide +kernel
theorem dX9_manyBy_39 : decode cX9_manyBy 39 = .ok (.aload_n 0, 1) := by decide +kernel
theorem dX9_manyBy_40 : decode cX9_manyBy 40 = .ok (.getfield 235, 3) := by decide +kernel
theorem dX9_manyBy_43 : decode cX9_manyBy 43 = .ok (.i2l, 1) := by decide +kernel
theorem dX9_manyBy_44 : decode cX9_manyBy 44 = .ok (.lrem, 1) := by decide +kernel
theorem dX9_manyBy_45 : decode cX9_manyBy 45 = .ok (.l2i, 1) := by decide +kernel
theorem dX9_manyBy_46 : decode cX9_manyBy 46 = .ok (.iaload, 1) := by decide +kernel
theorem dX9_manyBy_47 : decode cX9_manyBy 47 = .ok (.istore 4, 2) := by decide +kernel
theorem dX9_manyBy_49 : decode cX9_manyBy 49 = .ok (.aload_n 0, 1) := by decide +kernel
theorem dX9_manyBy_50 : decode cX9_manyBy 50 = .ok (.iload 4, 2) := by decide +kernel
theorem dX9_manyBy_52 : decode cX9_manyBy 52 = .ok (.aload_n 0, 1) := by decide +kernel
theorem dX9_manyBy_53 : decode cX9_manyBy 53 = .ok (.iload 4, 2) := by decide +kernel
theorem dX9_manyBy_55 : decode cX9_manyBy 55 = .ok (.invokevirtual 202, 3) := by decide +kernel
theorem dX9_manyBy_58 : decode cX9_manyBy 58 = .ok (.invokevirtual 205, 3) := by decide +kernel
theorem dX9_manyBy_61 : decode cX9_manyBy 61 = .ok (.aload_n 0, 1) := by decide +kernel
theorem dX9_manyBy_62 : decode cX9_manyBy 62 = .ok (.aload_n 0, 1) := by decide +kernel
theorem dX9_manyBy_63 : decode cX9_manyBy 63 = .ok (.invokevirtual 244, 3) := by decide +kernel
theorem dX9_manyBy_66 : decode cX9_manyBy 66 = .ok (.invokevirtual 247, 3) := by decide +kernel
theorem dX9_manyBy_69 : decode cX9_manyBy 69 = .ok (.goto (-52), 3) := by decide +kernel
theorem dX9_manyBy_72 : decode cX9_manyBy 72 = .ok (.aload_n 0, 1) := by decide +kernel
theorem dX9_manyBy_73 : decode cX9_manyBy 73 = .ok (.invokevirtual 99, 3) := by decide +kernel
theorem dX9_manyBy_76 : decode cX9_manyBy 76 = .ok (.istore 4, 2) := by decide +kernel
theorem dX9_manyBy_78 : decode cX9_manyBy 78 = .ok (.aload_n 0, 1) := by decide +kernel
theorem dX9_manyBy_79 : decode cX9_manyBy 79 = .ok (.invokevirtual 229, 3) := by decide +kernel
theorem dX9_manyBy_82 : decode cX9_manyBy 82 = .ok (.iload 4, 2) := by decide +kernel
theorem dX9_manyBy_84 : decode cX9_manyBy 84 = .ok (.ireturn, 1) := by decide +kernel
theorem dX9_drawn_0 : decode cX9_drawn 0 = .ok (.iload_n 1, 1) := by decide +kernel
theorem dX9_drawn_1 : decode cX9_drawn 1 = .ok (.iconst 0, 1) := by decide +kernel
theorem dX9_drawn_2 : decode cX9_drawn 2 = .ok (.ldc_w 300, 3) := by decide +kernel
theorem dX9_drawn_5 : decode cX9_drawn 5 = .ok (.invokestatic 81, 3) := by decide +kernel
theorem dX9_drawn_8 : decode cX9_drawn 8 = .ok (.ifCond .eq 11, 3) := by decide +kernel
theorem dX9_drawn_11 : decode cX9_drawn 11 = .ok (.aload_n 0, 1) := by decide +kernel
theorem dX9_drawn_12 : decode cX9_drawn 12 = .ok (.iload_n 1, 1) := by decide +kernel
theorem dX9_drawn_13 : decode cX9_drawn 13 = .ok (.invokevirtual 301, 3) := by decide +kernel
theorem dX9_drawn_16 : decode cX9_drawn 16 = .ok (.goto 5, 3) := by decide +kernel
theorem dX9_drawn_19 : decode cX9_drawn 19 = .ok (.bipush (-2), 2) := by decide +kernel
theorem dX9_drawn_21 : decode cX9_drawn 21 = .ok (.ireturn, 1) := by decide +kernel
theorem dX9_lowest_0 : decode cX9_lowest 0 = .ok (.lload_n 0, 1) := by decide +kernel
theorem dX9_lowest_1 : decode cX9_lowest 1 = .ok (.lconst 0, 1) := by decide +kernel
theorem dX9_lowest_2 : decode cX9_lowest 2 = .ok (.lcmp, 1) := by decide +kernel
theorem dX9_lowest_3 : decode cX9_lowest 3 = .ok (.ifCond .ne 7, 3) := by decide +kernel
theorem dX9_lowest_6 : decode cX9_lowest 6 = .ok (.iload 4, 2) := by decide +kernel
theorem dX9_lowest_8 : decode cX9_lowest 8 = .ok (.i2l, 1) := by decide +kernel
theorem dX9_lowest_9 : decode cX9_lowest 9 = .ok (.lreturn, 1) := by decide +kernel
theorem dX9_lowest_10 : decode cX9_lowest 10 = .ok (.lload_n 0, 1) := by decide +kernel
theorem dX9_lowest_11 : decode cX9_lowest 11 = .ok (.lstore 5, 2) := by decide +kernel
theorem dX9_lowest_13 : decode cX9_lowest 13 = .ok (.lload_n 2, 1) := by decide +kernel
theorem dX9_lowest_14 : decode cX9_lowest 14 = .ok (.lstore 7, 2) := by decide +kernel
theorem dX9_lowest_16 : decode cX9_lowest 16 = .ok (.lload 7, 2) := by decide +kernel
theorem dX9_lowest_18 : decode cX9_lowest 18 = .ok (.lconst 0, 1) := by decide +kernel
theorem dX9_lowest_19 : decode cX9_lowest 19 = .ok (.lcmp, 1) := by decide +kernel
theorem dX9_lowest_20 : decode cX9_lowest 20 = .ok (.ifCond .eq 21, 3) := by decide +kernel
theorem dX9_lowest_23 : decode cX9_lowest 23 = .ok (.lload 5, 2) := by decide +kernel
theorem dX9_lowest_25 : decode cX9_lowest 25 = .ok (.lload 7, 2) := by decide +kernel
theorem dX9_lowest_27 : decode cX9_lowest 27 = .ok (.lrem, 1) := by decide +kernel
theorem dX9_lowest_28 : decode cX9_lowest 28 = .ok (.lstore 9, 2) := by decide +kernel
theorem dX9_lowest_30 : decode cX9_lowest 30 = .ok (.lload 7, 2) := by decide +kernel
theorem dX9_lowest_32 : decode cX9_lowest 32 = .ok (.lstore 5, 2) := by decide +kernel
theorem dX9_lowest_34 : decode cX9_lowest 34 = .ok (.lload 9, 2) := by decide +kernel
theorem dX9_lowest_36 : decode cX9_lowest 36 = .ok (.lstore 7, 2) := by decide +kernel
theorem dX9_lowest_38 : decode cX9_lowest 38 = .ok (.goto (-22), 3) := by decide +kernel
theorem dX9_lowest_41 : decode cX9_lowest 41 = .ok (.iload 4, 2) := by decide +kernel
theorem dX9_lowest_43 : decode cX9_lowest 43 = .ok (.ifCond .ne 7, 3) := by decide +kernel
theorem dX9_lowest_46 : decode cX9_lowest 46 = .ok (.lload_n 0, 1) := by decide +kernel
theorem dX9_lowest_47 : decode cX9_lowest 47 = .ok (.goto 4, 3) := by decide +kernel
theorem dX9_lowest_50 : decode cX9_lowest 50 = .ok (.lload_n 2, 1) := by decide +kernel
theorem dX9_lowest_51 : decode cX9_lowest 51 = .ok (.lload 5, 2) := by decide +kernel
theorem dX9_lowest_53 : decode cX9_lowest 53 = .ok (.ldiv, 1) := by decide +kernel
theorem dX9_lowest_54 : decode cX9_lowest 54 = .ok (.lreturn, 1) := by decide +kernel
theorem dX9_odds_0 : decode cX9_odds 0 = .ok (.iload_n 1, 1) := by decide +kernel
theorem dX9_odds_1 : decode cX9_odds 1 = .ok (.iconst 0, 1) := by decide +kernel
theorem dX9_odds_2 : decode cX9_odds 2 = .ok (.ldc_w 300, 3) := by decide +kernel
theorem dX9_odds_5 : decode cX9_odds 5 = .ok (.invokestatic 81, 3) := by decide +kernel
theorem dX9_odds_8 : decode cX9_odds 8 = .ok (.ifCond .eq 33, 3) := by decide +kernel
theorem dX9_odds_11 : decode cX9_odds 11 = .ok (.iload_n 2, 1) := by decide +kernel
theorem dX9_odds_12 : decode cX9_odds 12 = .ok (.iconst 1, 1) := by decide +kernel
theorem dX9_odds_13 : decode cX9_odds 13 = .ok (.bipush 40, 2) := by decide +kernel
theorem dX9_odds_15 : decode cX9_odds 15 = .ok (.invokestatic 81, 3) := by decide +kernel
theorem dX9_odds_18 : decode cX9_odds 18 = .ok (.ifCond .eq 23, 3) := by decide +kernel
theorem dX9_odds_21 : decode cX9_odds 21 = .ok (.iload_n 3, 1) := by decide +kernel
theorem dX9_odds_22 : decode cX9_odds 22 = .ok (.iconst 0, 1) := by decide +kernel
theorem dX9_odds_23 : decode cX9_odds 23 = .ok (.bipush 7, 2) := by decide +kernel
theorem dX9_odds_25 : decode cX9_odds 25 = .ok (.invokestatic 81, 3) := by decide +kernel
theorem dX9_odds_28 : decode cX9_odds 28 = .ok (.ifCond .eq 13, 3) := by decide +kernel
theorem dX9_odds_31 : decode cX9_odds 31 = .ok (.iload 4, 2) := by decide +kernel
theorem dX9_odds_33 : decode cX9_odds 33 = .ok (.iconst 0, 1) := by decide +kernel
theorem dX9_odds_34 : decode cX9_odds 34 = .ok (.iconst 1, 1) := by decide +kernel
theorem dX9_odds_35 : decode cX9_odds 35 = .ok (.invokestatic 81, 3) := by decide +kernel
theorem dX9_odds_38 : decode cX9_odds 38 = .ok (.ifCond .ne 7, 3) := by decide +kernel
theorem dX9_odds_41 : decode cX9_odds 41 = .ok (.ldc2_w 304, 3) := by decide +kernel
theorem dX9_odds_44 : decode cX9_odds 44 = .ok (.lreturn, 1) := by decide +kernel
theorem dX9_odds_45 : decode cX9_odds 45 = .ok (.lconst 0, 1) := by decide +kernel
theorem dX9_odds_46 : decode cX9_odds 46 = .ok (.lstore 5, 2) := by decide +kernel
theorem dX9_odds_48 : decode cX9_odds 48 = .ok (.iconst 0, 1) := by decide +kernel
theorem dX9_odds_49 : decode cX9_odds 49 = .ok (.istore 7, 2) := by decide +kernel
theorem dX9_odds_51 : decode cX9_odds 51 = .ok (.iload 7, 2) := by decide +kernel
theorem dX9_odds_53 : decode cX9_odds 53 = .ok (.iload_n 2, 1) := by decide +kernel
theorem dX9_odds_54 : decode cX9_odds 54 = .ok (.if_icmp .ge 31, 3) := by decide +kernel
theorem dX9_odds_57 : decode cX9_odds 57 = .ok (.lload 5, 2) := by decide +kernel
theorem dX9_odds_59 : decode cX9_odds 59 = .ok (.aload_n 0, 1) := by decide +kernel
theorem dX9_odds_60 : decode cX9_odds 60 = .ok (.iload_n 1, 1) := by decide +kernel
theorem dX9_odds_61 : decode cX9_odds 61 = .ok (.iload 7, 2) := by decide +kernel
theorem dX9_odds_63 : decode cX9_odds 63 = .ok (.iadd, 1) := by decide +kernel
theorem dX9_odds_64 : decode cX9_odds 64 = .ok (.invokevirtual 301, 3) := by decide +kernel
theorem dX9_odds_67 : decode cX9_odds 67 = .ok (.iload_n 3, 1) := by decide +kernel
theorem dX9_odds_68 : decode cX9_odds 68 = .ok (.if_icmp .gt 7, 3) := by decide +kernel
theorem dX9_odds_71 : decode cX9_odds 71 = .ok (.lconst 1, 1) := by decide +kernel
theorem dX9_odds_72 : decode cX9_odds 72 = .ok (.goto 4, 3) := by decide +kernel
theorem dX9_odds_75 : decode cX9_odds 75 = .ok (.lconst 0, 1) := by decide +kernel
theorem dX9_odds_76 : decode cX9_odds 76 = .ok (.ladd, 1) := by decide +kernel
theorem dX9_odds_77 : decode cX9_odds 77 = .ok (.lstore 5, 2) := by decide +kernel
theorem dX9_odds_79 : decode cX9_odds 79 = .ok (.iinc 7 1, 3) := by decide +kernel
theorem dX9_odds_82 : decode cX9_odds 82 = .ok (.goto (-31), 3) := by decide +kernel
theorem dX9_odds_85 : decode cX9_odds 85 = .ok (.lload 5, 2) := by decide +kernel
theorem dX9_odds_87 : decode cX9_odds 87 = .ok (.iload_n 2, 1) := by decide +kernel
theorem dX9_odds_88 : decode cX9_odds 88 = .ok (.i2l, 1) := by decide +kernel
theorem dX9_odds_89 : decode cX9_odds 89 = .ok (.iload 4, 2) := by decide +kernel
theorem dX9_odds_91 : decode cX9_odds 91 = .ok (.invokestatic 306, 3) := by decide +kernel
theorem dX9_odds_94 : decode cX9_odds 94 = .ok (.lreturn, 1) := by decide +kernel
theorem dX9_image_0 : decode cX9_image 0 = .ok (.aload_n 0, 1) := by decide +kernel
theorem dX9_image_1 : decode cX9_image 1 = .ok (.iconst 1, 1) := by decide +kernel
theorem dX9_image_2 : decode cX9_image 2 = .ok (.putfield 310, 3) := by decide +kernel
theorem dX9_image_5 : decode cX9_image 5 = .ok (.aload_n 0, 1) := by decide +kernel
theorem dX9_image_6 : decode cX9_image 6 = .ok (.aload_n 0, 1) := by decide +kernel
theorem dX9_image_7 : decode cX9_image 7 = .ok (.getfield 78, 3) := by decide +kernel
theorem dX9_image_10 : decode cX9_image 10 = .ok (.putfield 314, 3) := by decide +kernel
theorem dX9_image_13 : decode cX9_image 13 = .ok (.aload_n 0, 1) := by decide +kernel
theorem dX9_image_14 : decode cX9_image 14 = .ok (.aload_n 0, 1) := by decide +kernel
theorem dX9_image_15 : decode cX9_image 15 = .ok (.getfield 199, 3) := by decide +kernel
theorem dX9_image_18 : decode cX9_image 18 = .ok (.putfield 317, 3) := by decide +kernel
theorem dX9_image_21 : decode cX9_image 21 = .ok (.aload_n 0, 1) := by decide +kernel
theorem dX9_image_22 : decode cX9_image 22 = .ok (.aload_n 0, 1) := by decide +kernel
theorem dX9_image_23 : decode cX9_image 23 = .ok (.getfield 108, 3) := by decide +kernel
theorem dX9_image_26 : decode cX9_image 26 = .ok (.putfield 320, 3) := by decide +kernel
theorem dX9_image_29 : decode cX9_image 29 = .ok (.iconst 0, 1) := by decide +kernel
theorem dX9_image_30 : decode cX9_image 30 = .ok (.istore_n 1, 1) := by decide +kernel
theorem dX9_image_31 : decode cX9_image 31 = .ok (.iload_n 1, 1) := by decide +kernel
theorem dX9_image_32 : decode cX9_image 32 = .ok (.bipush 7, 2) := by decide +kernel
theorem dX9_image_34 : decode cX9_image 34 = .ok (.if_icmp .ge 51, 3) := by decide +kernel
theorem dX9_image_37 : decode cX9_image 37 = .ok (.aload_n 0, 1) := by decide +kernel
theorem dX9_image_38 : decode cX9_image 38 = .ok (.getfield 34, 3) := by decide +kernel
theorem dX9_image_41 : decode cX9_image 41 = .ok (.iload_n 1, 1) := by decide +kernel
theorem dX9_image_42 : decode cX9_image 42 = .ok (.aload_n 0, 1) := by decide +kernel
theorem dX9_image_43 : decode cX9_image 43 = .ok (.getfield 19, 3) := by decide +kernel
theorem dX9_image_46 : decode cX9_image 46 = .ok (.iload_n 1, 1) := by decide +kernel
theorem dX9_image_47 : decode cX9_image 47 = .ok (.iaload, 1) := by decide +kernel
theorem dX9_image_48 : decode cX9_image 48 = .ok (.iastore, 1) := by decide +kernel
theorem dX9_image_49 : decode cX9_image 49 = .ok (.aload_n 0, 1) := by decide +kernel
theorem dX9_image_50 : decode cX9_image 50 = .ok (.getfield 34, 3) := by decide +kernel
theorem dX9_image_53 : decode cX9_image 53 = .ok (.bipush 7, 2) := by decide +kernel
theorem dX9_image_55 : decode cX9_image 55 = .ok (.iload_n 1, 1) := by decide +kernel
theorem dX9_image_56 : decode cX9_image 56 = .ok (.iadd, 1) := by decide +kernel
theorem dX9_image_57 : decode cX9_image 57 = .ok (.aload_n 0, 1) := by decide +kernel
theorem dX9_image_58 : decode cX9_image 58 = .ok (.getfield 22, 3) := by decide +kernel
theorem dX9_image_61 : decode cX9_image 61 = .ok (.iload_n 1, 1) := by decide +kernel
theorem dX9_image_62 : decode cX9_image 62 = .ok (.iaload, 1) := by decide +kernel
theorem dX9_image_63 : decode cX9_image 63 = .ok (.iastore, 1) := by decide +kernel
theorem dX9_image_64 : decode cX9_image 64 = .ok (.aload_n 0, 1) := by decide +kernel
theorem dX9_image_65 : decode cX9_image 65 = .ok (.getfield 34, 3) := by decide +kernel
theorem dX9_image_68 : decode cX9_image 68 = .ok (.bipush 14, 2) := by decide +kernel
theorem dX9_image_70 : decode cX9_image 70 = .ok (.iload_n 1, 1) := by decide +kernel
theorem dX9_image_71 : decode cX9_image 71 = .ok (.iadd, 1) := by decide +kernel
theorem dX9_image_72 : decode cX9_image 72 = .ok (.aload_n 0, 1) := by decide +kernel
theorem dX9_image_73 : decode cX9_image 73 = .ok (.getfield 16, 3) := by decide +kernel
theorem dX9_image_76 : decode cX9_image 76 = .ok (.iload_n 1, 1) := by decide +kernel
theorem dX9_image_77 : decode cX9_image 77 = .ok (.iaload, 1) := by decide +kernel
theorem dX9_image_78 : decode cX9_image 78 = .ok (.iastore, 1) := by decide +kernel
theorem dX9_image_79 : decode cX9_image 79 = .ok (.iinc 1 1, 3) := by decide +kernel
theorem dX9_image_82 : decode cX9_image 82 = .ok (.goto (-51), 3) := by decide +kernel
theorem dX9_image_85 : decode cX9_image 85 = .ok (.aload_n 0, 1) := by decide +kernel
theorem dX9_image_86 : decode cX9_image 86 = .ok (.getfield 78, 3) := by decide +kernel
theorem dX9_image_89 : decode cX9_image 89 = .ok (.ireturn, 1) := by decide +kernel
theorem dX9_back_0 : decode cX9_back 0 = .ok (.aload_n 0, 1) := by decide +kernel
theorem dX9_back_1 : decode cX9_back 1 = .ok (.getfield 310, 3) := by decide +kernel
theorem dX9_back_4 : decode cX9_back 4 = .ok (.ifCond .ne 6, 3) := by decide +kernel
theorem dX9_back_7 : decode cX9_back 7 = .ok (.bipush (-3), 2) := by decide +kernel
theorem dX9_back_9 : decode cX9_back 9 = .ok (.ireturn, 1) := by decide +kernel
theorem dX9_back_10 : decode cX9_back 10 = .ok (.aload_n 0, 1) := by decide +kernel
theorem dX9_back_11 : decode cX9_back 11 = .ok (.aload_n 0, 1) := by decide +kernel
theorem dX9_back_12 : decode cX9_back 12 = .ok (.getfield 314, 3) := by decide +kernel
theorem dX9_back_15 : decode cX9_back 15 = .ok (.putfield 78, 3) := by decide +kernel
theorem dX9_back_18 : decode cX9_back 18 = .ok (.aload_n 0, 1) := by decide +kernel
theorem dX9_back_19 : decode cX9_back 19 = .ok (.aload_n 0, 1) := by decide +kernel
theorem dX9_back_20 : decode cX9_back 20 = .ok (.getfield 317, 3) := by decide +kernel
theorem dX9_back_23 : decode cX9_back 23 = .ok (.putfield 199, 3) := by decide +kernel
theorem dX9_back_26 : decode cX9_back 26 = .ok (.aload_n 0, 1) := by decide +kernel
theorem dX9_back_27 : decode cX9_back 27 = .ok (.aload_n 0, 1) := by decide +kernel
theorem dX9_back_28 : decode cX9_back 28 = .ok (.getfield 320, 3) := by decide +kernel
theorem dX9_back_31 : decode cX9_back 31 = .ok (.putfield 108, 3) := by decide +kernel
theorem dX9_back_34 : decode cX9_back 34 = .ok (.iconst 0, 1) := by decide +kernel
theorem dX9_back_35 : decode cX9_back 35 = .ok (.istore_n 1, 1) := by decide +kernel
theorem dX9_back_36 : decode cX9_back 36 = .ok (.iload_n 1, 1) := by decide +kernel
theorem dX9_back_37 : decode cX9_back 37 = .ok (.bipush 7, 2) := by decide +kernel
theorem dX9_back_39 : decode cX9_back 39 = .ok (.if_icmp .ge 51, 3) := by decide +kernel
theorem dX9_back_42 : decode cX9_back 42 = .ok (.aload_n 0, 1) := by decide +kernel
theorem dX9_back_43 : decode cX9_back 43 = .ok (.getfield 19, 3) := by decide +kernel
theorem dX9_back_46 : decode cX9_back 46 = .ok (.iload_n 1, 1) := by decide +kernel
theorem dX9_back_47 : decode cX9_back 47 = .ok (.aload_n 0, 1) := by decide +kernel
theorem dX9_back_48 : decode cX9_back 48 = .ok (.getfield 34, 3) := by decide +kernel
theorem dX9_back_51 : decode cX9_back 51 = .ok (.iload_n 1, 1) := by decide +kernel
theorem dX9_back_52 : decode cX9_back 52 = .ok (.iaload, 1) := by decide +kernel
theorem dX9_back_53 : decode cX9_back 53 = .ok (.iastore, 1) := by decide +kernel
theorem dX9_back_54 : decode cX9_back 54 = .ok (.aload_n 0, 1) := by decide +kernel
theorem dX9_back_55 : decode cX9_back 55 = .ok (.getfield 22, 3) := by decide +kernel
theorem dX9_back_58 : decode cX9_back 58 = .ok (.iload_n 1, 1) := by decide +kernel
theorem dX9_back_59 : decode cX9_back 59 = .ok (.aload_n 0, 1) := by decide +kernel
theorem dX9_back_60 : decode cX9_back 60 = .ok (.getfield 34, 3) := by decide +kernel
theorem dX9_back_63 : decode cX9_back 63 = .ok (.bipush 7, 2) := by decide +kernel
theorem dX9_back_65 : decode cX9_back 65 = .ok (.iload_n 1, 1) := by decide +kernel
theorem dX9_back_66 : decode cX9_back 66 = .ok (.iadd, 1) := by decide +kernel
theorem dX9_back_67 : decode cX9_back 67 = .ok (.iaload, 1) := by decide +kernel
theorem dX9_back_68 : decode cX9_back 68 = .ok (.iastore, 1) := by decide +kernel
theorem dX9_back_69 : decode cX9_back 69 = .ok (.aload_n 0, 1) := by decide +kernel
theorem dX9_back_70 : decode cX9_back 70 = .ok (.getfield 16, 3) := by decide +kernel
theorem dX9_back_73 : decode cX9_back 73 = .ok (.iload_n 1, 1) := by decide +kernel
theorem dX9_back_74 : decode cX9_back 74 = .ok (.aload_n 0, 1) := by decide +kernel
theorem dX9_back_75 : decode cX9_back 75 = .ok (.getfield 34, 3) := by decide +kernel
theorem dX9_back_78 : decode cX9_back 78 = .ok (.bipush 14, 2) := by decide +kernel
theorem dX9_back_80 : decode cX9_back 80 = .ok (.iload_n 1, 1) := by decide +kernel
theorem dX9_back_81 : decode cX9_back 81 = .ok (.iadd, 1) := by decide +kernel
theorem dX9_back_82 : decode cX9_back 82 = .ok (.iaload, 1) := by decide +kernel
theorem dX9_back_83 : decode cX9_back 83 = .ok (.iastore, 1) := by decide +kernel
theorem dX9_back_84 : decode cX9_back 84 = .ok (.iinc 1 1, 3) := by decide +kernel
theorem dX9_back_87 : decode cX9_back 87 = .ok (.goto (-51), 3) := by decide +kernel
theorem dX9_back_90 : decode cX9_back 90 = .ok (.aload_n 0, 1) := by decide +kernel
theorem dX9_back_91 : decode cX9_back 91 = .ok (.getfield 78, 3) := by decide +kernel
theorem dX9_back_94 : decode cX9_back 94 = .ok (.ireturn, 1) := by decide +kernel
theorem dX9_sheet_0 : decode cX9_sheet 0 = .ok (.iload_n 1, 1) := by decide +kernel
theorem dX9_sheet_1 : decode cX9_sheet 1 = .ok (.iconst 0, 1) := by decide +kernel
theorem dX9_sheet_2 : decode cX9_sheet 2 = .ok (.iconst 3, 1) := by decide +kernel
theorem dX9_sheet_3 : decode cX9_sheet 3 = .ok (.invokestatic 81, 3) := by decide +kernel
theorem dX9_sheet_6 : decode cX9_sheet 6 = .ok (.ifCond .eq 23, 3) := by decide +kernel
theorem dX9_sheet_9 : decode cX9_sheet 9 = .ok (.iload_n 2, 1) := by decide +kernel
theorem dX9_sheet_10 : decode cX9_sheet 10 = .ok (.iconst (-1), 1) := by decide +kernel
theorem dX9_sheet_11 : decode cX9_sheet 11 = .ok (.iconst 2, 1) := by decide +kernel
theorem dX9_sheet_12 : decode cX9_sheet 12 = .ok (.invokestatic 81, 3) := by decide +kernel
theorem dX9_sheet_15 : decode cX9_sheet 15 = .ok (.ifCond .eq 14, 3) := by decide +kernel
theorem dX9_sheet_18 : decode cX9_sheet 18 = .ok (.iload_n 2, 1) := by decide +kernel
theorem dX9_sheet_19 : decode cX9_sheet 19 = .ok (.iconst (-1), 1) := by decide +kernel
theorem dX9_sheet_20 : decode cX9_sheet 20 = .ok (.if_icmp .eq 12, 3) := by decide +kernel
theorem dX9_sheet_23 : decode cX9_sheet 23 = .ok (.iload_n 3, 1) := by decide +kernel
theorem dX9_sheet_24 : decode cX9_sheet 24 = .ok (.bipush 40, 2) := by decide +kernel
theorem dX9_sheet_26 : decode cX9_sheet 26 = .ok (.if_icmp .le 6, 3) := by decide +kernel
theorem dX9_sheet_29 : decode cX9_sheet 29 = .ok (.bipush (-2), 2) := by decide +kernel
theorem dX9_sheet_31 : decode cX9_sheet 31 = .ok (.ireturn, 1) := by decide +kernel
theorem dX9_sheet_32 : decode cX9_sheet 32 = .ok (.iload_n 2, 1) := by decide +kernel
theorem dX9_sheet_33 : decode cX9_sheet 33 = .ok (.iconst (-1), 1) := by decide +kernel
theorem dX9_sheet_34 : decode cX9_sheet 34 = .ok (.if_icmp .eq 10, 3) := by decide +kernel
theorem dX9_sheet_37 : decode cX9_sheet 37 = .ok (.iload_n 3, 1) := by decide +kernel
theorem dX9_sheet_38 : decode cX9_sheet 38 = .ok (.ifCond .ge 6, 3) := by decide +kernel
theorem dX9_sheet_41 : decode cX9_sheet 41 = .ok (.bipush (-14), 2) := by decide +kernel
theorem dX9_sheet_43 : decode cX9_sheet 43 = .ok (.ireturn, 1) := by decide +kernel
theorem dX9_sheet_44 : decode cX9_sheet 44 = .ok (.aload_n 0, 1) := by decide +kernel
theorem dX9_sheet_45 : decode cX9_sheet 45 = .ok (.getfield 37, 3) := by decide +kernel
theorem dX9_sheet_48 : decode cX9_sheet 48 = .ok (.iload_n 1, 1) := by decide +kernel
theorem dX9_sheet_49 : decode cX9_sheet 49 = .ok (.iload_n 2, 1) := by decide +kernel
theorem dX9_sheet_50 : decode cX9_sheet 50 = .ok (.iastore, 1) := by decide +kernel
theorem dX9_sheet_51 : decode cX9_sheet 51 = .ok (.aload_n 0, 1) := by decide +kernel
theorem dX9_sheet_52 : decode cX9_sheet 52 = .ok (.getfield 40, 3) := by decide +kernel
theorem dX9_sheet_55 : decode cX9_sheet 55 = .ok (.iload_n 1, 1) := by decide +kernel
theorem dX9_sheet_56 : decode cX9_sheet 56 = .ok (.iload_n 2, 1) := by decide +kernel
theorem dX9_sheet_57 : decode cX9_sheet 57 = .ok (.iconst (-1), 1) := by decide +kernel
theorem dX9_sheet_58 : decode cX9_sheet 58 = .ok (.if_icmp .ne 7, 3) := by decide +kernel
theorem dX9_sheet_61 : decode cX9_sheet 61 = .ok (.iconst 0, 1) := by decide +kernel
theorem dX9_sheet_62 : decode cX9_sheet 62 = .ok (.goto 4, 3) := by decide +kernel
theorem dX9_sheet_65 : decode cX9_sheet 65 = .ok (.iload_n 3, 1) := by decide +kernel
theorem dX9_sheet_66 : decode cX9_sheet 66 = .ok (.iastore, 1) := by decide +kernel
theorem dX9_sheet_67 : decode cX9_sheet 67 = .ok (.iconst 0, 1) := by decide +kernel
theorem dX9_sheet_68 : decode cX9_sheet 68 = .ok (.istore 4, 2) := by decide +kernel
theorem dX9_sheet_70 : decode cX9_sheet 70 = .ok (.iload 4, 2) := by decide +kernel
theorem dX9_sheet_72 : decode cX9_sheet 72 = .ok (.bipush 40, 2) := by decide +kernel
theorem dX9_sheet_74 : decode cX9_sheet 74 = .ok (.if_icmp .ge 22, 3) := by decide +kernel
theorem dX9_sheet_77 : decode cX9_sheet 77 = .ok (.aload_n 0, 1) := by decide +kernel
theorem dX9_sheet_78 : decode cX9_sheet 78 = .ok (.getfield 43, 3) := by decide +kernel
theorem dX9_sheet_81 : decode cX9_sheet 81 = .ok (.bipush 40, 2) := by decide +kernel
theorem dX9_sheet_83 : decode cX9_sheet 83 = .ok (.iload_n 1, 1) := by decide +kernel
theorem dX9_sheet_84 : decode cX9_sheet 84 = .ok (.imul, 1) := by decide +kernel
theorem dX9_sheet_85 : decode cX9_sheet 85 = .ok (.iload 4, 2) := by decide +kernel
theorem dX9_sheet_87 : decode cX9_sheet 87 = .ok (.iadd, 1) := by decide +kernel
theorem dX9_sheet_88 : decode cX9_sheet 88 = .ok (.iconst 0, 1) := by decide +kernel
theorem dX9_sheet_89 : decode cX9_sheet 89 = .ok (.iastore, 1) := by decide +kernel
theorem dX9_sheet_90 : decode cX9_sheet 90 = .ok (.iinc 4 1, 3) := by decide +kernel
theorem dX9_sheet_93 : decode cX9_sheet 93 = .ok (.goto (-23), 3) := by decide +kernel
theorem dX9_sheet_96 : decode cX9_sheet 96 = .ok (.iconst 1, 1) := by decide +kernel
theorem dX9_sheet_97 : decode cX9_sheet 97 = .ok (.ireturn, 1) := by decide +kernel
theorem dX9_cell_0 : decode cX9_cell 0 = .ok (.iload_n 1, 1) := by decide +kernel
theorem dX9_cell_1 : decode cX9_cell 1 = .ok (.iconst 0, 1) := by decide +kernel
theorem dX9_cell_2 : decode cX9_cell 2 = .ok (.iconst 3, 1) := by decide +kernel
theorem dX9_cell_3 : decode cX9_cell 3 = .ok (.invokestatic 81, 3) := by decide +kernel
theorem dX9_cell_6 : decode cX9_cell 6 = .ok (.ifCond .ne 6, 3) := by decide +kernel
theorem dX9_cell_9 : decode cX9_cell 9 = .ok (.bipush (-2), 2) := by decide +kernel
theorem dX9_cell_11 : decode cX9_cell 11 = .ok (.ireturn, 1) := by decide +kernel
theorem dX9_cell_12 : decode cX9_cell 12 = .ok (.aload_n 0, 1) := by decide +kernel
theorem dX9_cell_13 : decode cX9_cell 13 = .ok (.getfield 37, 3) := by decide +kernel
theorem dX9_cell_16 : decode cX9_cell 16 = .ok (.iload_n 1, 1) := by decide +kernel
theorem dX9_cell_17 : decode cX9_cell 17 = .ok (.iaload, 1) := by decide +kernel
theorem dX9_cell_18 : decode cX9_cell 18 = .ok (.iconst (-1), 1) := by decide +kernel
theorem dX9_cell_19 : decode cX9_cell 19 = .ok (.if_icmp .ne 6, 3) := by decide +kernel
theorem dX9_cell_22 : decode cX9_cell 22 = .ok (.bipush (-11), 2) := by decide +kernel
theorem dX9_cell_24 : decode cX9_cell 24 = .ok (.ireturn, 1) := by decide +kernel
theorem dX9_cell_25 : decode cX9_cell 25 = .ok (.iload_n 2, 1) := by decide +kernel
theorem dX9_cell_26 : decode cX9_cell 26 = .ok (.iconst 0, 1) := by decide +kernel
theorem dX9_cell_27 : decode cX9_cell 27 = .ok (.aload_n 0, 1) := by decide +kernel
theorem dX9_cell_28 : decode cX9_cell 28 = .ok (.getfield 40, 3) := by decide +kernel
theorem dX9_cell_31 : decode cX9_cell 31 = .ok (.iload_n 1, 1) := by decide +kernel
theorem dX9_cell_32 : decode cX9_cell 32 = .ok (.iaload, 1) := by decide +kernel
theorem dX9_cell_33 : decode cX9_cell 33 = .ok (.iconst 1, 1) := by decide +kernel
theorem dX9_cell_34 : decode cX9_cell 34 = .ok (.isub, 1) := by decide +kernel
theorem dX9_cell_35 : decode cX9_cell 35 = .ok (.invokestatic 81, 3) := by decide +kernel
theorem dX9_cell_38 : decode cX9_cell 38 = .ok (.ifCond .ne 6, 3) := by decide +kernel
theorem dX9_cell_41 : decode cX9_cell 41 = .ok (.bipush (-12), 2) := by decide +kernel
theorem dX9_cell_43 : decode cX9_cell 43 = .ok (.ireturn, 1) := by decide +kernel
theorem dX9_cell_44 : decode cX9_cell 44 = .ok (.aload_n 0, 1) := by decide +kernel
theorem dX9_cell_45 : decode cX9_cell 45 = .ok (.getfield 43, 3) := by decide +kernel
theorem dX9_cell_48 : decode cX9_cell 48 = .ok (.bipush 40, 2) := by decide +kernel
theorem dX9_cell_50 : decode cX9_cell 50 = .ok (.iload_n 1, 1) := by decide +kernel
theorem dX9_cell_51 : decode cX9_cell 51 = .ok (.imul, 1) := by decide +kernel
theorem dX9_cell_52 : decode cX9_cell 52 = .ok (.iload_n 2, 1) := by decide +kernel
theorem dX9_cell_53 : decode cX9_cell 53 = .ok (.iadd, 1) := by decide +kernel
theorem dX9_cell_54 : decode cX9_cell 54 = .ok (.aload_n 0, 1) := by decide +kernel
theorem dX9_cell_55 : decode cX9_cell 55 = .ok (.getfield 37, 3) := by decide +kernel
theorem dX9_cell_58 : decode cX9_cell 58 = .ok (.iload_n 1, 1) := by decide +kernel
theorem dX9_cell_59 : decode cX9_cell 59 = .ok (.iaload, 1) := by decide +kernel
theorem dX9_cell_60 : decode cX9_cell 60 = .ok (.ifCond .ne 8, 3) := by decide +kernel
theorem dX9_cell_63 : decode cX9_cell 63 = .ok (.iload_n 3, 1) := by decide +kernel
theorem dX9_cell_64 : decode cX9_cell 64 = .ok (.i2b, 1) := by decide +kernel
theorem dX9_cell_65 : decode cX9_cell 65 = .ok (.goto 19, 3) := by decide +kernel
theorem dX9_cell_68 : decode cX9_cell 68 = .ok (.aload_n 0, 1) := by decide +kernel
theorem dX9_cell_69 : decode cX9_cell 69 = .ok (.getfield 37, 3) := by decide +kernel
theorem dX9_cell_72 : decode cX9_cell 72 = .ok (.iload_n 1, 1) := by decide +kernel
theorem dX9_cell_73 : decode cX9_cell 73 = .ok (.iaload, 1) := by decide +kernel
theorem dX9_cell_74 : decode cX9_cell 74 = .ok (.iconst 1, 1) := by decide +kernel
theorem dX9_cell_75 : decode cX9_cell 75 = .ok (.if_icmp .ne 8, 3) := by decide +kernel
theorem dX9_cell_78 : decode cX9_cell 78 = .ok (.iload_n 3, 1) := by decide +kernel
theorem dX9_cell_79 : decode cX9_cell 79 = .ok (.i2s, 1) := by decide +kernel
theorem dX9_cell_80 : decode cX9_cell 80 = .ok (.goto 4, 3) := by decide +kernel
theorem dX9_cell_83 : decode cX9_cell 83 = .ok (.iload_n 3, 1) := by decide +kernel
theorem dX9_cell_84 : decode cX9_cell 84 = .ok (.iastore, 1) := by decide +kernel
theorem dX9_cell_85 : decode cX9_cell 85 = .ok (.iconst 1, 1) := by decide +kernel
theorem dX9_cell_86 : decode cX9_cell 86 = .ok (.ireturn, 1) := by decide +kernel
theorem dX9_copy_0 : decode cX9_copy 0 = .ok (.iload_n 1, 1) := by decide +kernel
theorem dX9_copy_1 : decode cX9_copy 1 = .ok (.iconst 0, 1) := by decide +kernel
theorem dX9_copy_2 : decode cX9_copy 2 = .ok (.iconst 3, 1) := by decide +kernel
theorem dX9_copy_3 : decode cX9_copy 3 = .ok (.invokestatic 81, 3) := by decide +kernel
theorem dX9_copy_6 : decode cX9_copy 6 = .ok (.ifCond .eq 12, 3) := by decide +kernel
theorem dX9_copy_9 : decode cX9_copy 9 = .ok (.iload_n 3, 1) := by decide +kernel
theorem dX9_copy_10 : decode cX9_copy 10 = .ok (.iconst 0, 1) := by decide +kernel
theorem dX9_copy_11 : decode cX9_copy 11 = .ok (.iconst 3, 1) := by decide +kernel
theorem dX9_copy_12 : decode cX9_copy 12 = .ok (.invokestatic 81, 3) := by decide +kernel
theorem dX9_copy_15 : decode cX9_copy 15 = .ok (.ifCond .ne 6, 3) := by decide +kernel
theorem dX9_copy_18 : decode cX9_copy 18 = .ok (.bipush (-2), 2) := by decide +kernel
theorem dX9_copy_20 : decode cX9_copy 20 = .ok (.ireturn, 1) := by decide +kernel
theorem dX9_copy_21 : decode cX9_copy 21 = .ok (.aload_n 0, 1) := by decide +kernel
theorem dX9_copy_22 : decode cX9_copy 22 = .ok (.getfield 37, 3) := by decide +kernel
theorem dX9_copy_25 : decode cX9_copy 25 = .ok (.iload_n 1, 1) := by decide +kernel
theorem dX9_copy_26 : decode cX9_copy 26 = .ok (.iaload, 1) := by decide +kernel
theorem dX9_copy_27 : decode cX9_copy 27 = .ok (.iconst (-1), 1) := by decide +kernel
theorem dX9_copy_28 : decode cX9_copy 28 = .ok (.if_icmp .eq 13, 3) := by decide +kernel
theorem dX9_copy_31 : decode cX9_copy 31 = .ok (.aload_n 0, 1) := by decide +kernel
theorem dX9_copy_32 : decode cX9_copy 32 = .ok (.getfield 37, 3) := by decide +kernel
theorem dX9_copy_35 : decode cX9_copy 35 = .ok (.iload_n 3, 1) := by decide +kernel
theorem dX9_copy_36 : decode cX9_copy 36 = .ok (.iaload, 1) := by decide +kernel
theorem dX9_copy_37 : decode cX9_copy 37 = .ok (.iconst (-1), 1) := by decide +kernel
theorem dX9_copy_38 : decode cX9_copy 38 = .ok (.if_icmp .ne 6, 3) := by decide +kernel
theorem dX9_copy_41 : decode cX9_copy 41 = .ok (.bipush (-11), 2) := by decide +kernel
theorem dX9_copy_43 : decode cX9_copy 43 = .ok (.ireturn, 1) := by decide +kernel
theorem dX9_copy_44 : decode cX9_copy 44 = .ok (.aload_n 0, 1) := by decide +kernel
theorem dX9_copy_45 : decode cX9_copy 45 = .ok (.getfield 37, 3) := by decide +kernel
theorem dX9_copy_48 : decode cX9_copy 48 = .ok (.iload_n 1, 1) := by decide +kernel
theorem dX9_copy_49 : decode cX9_copy 49 = .ok (.iaload, 1) := by decide +kernel
theorem dX9_copy_50 : decode cX9_copy 50 = .ok (.aload_n 0, 1) := by decide +kernel
theorem dX9_copy_51 : decode cX9_copy 51 = .ok (.getfield 37, 3) := by decide +kernel
theorem dX9_copy_54 : decode cX9_copy 54 = .ok (.iload_n 3, 1) := by decide +kernel
theorem dX9_copy_55 : decode cX9_copy 55 = .ok (.iaload, 1) := by decide +kernel
theorem dX9_copy_56 : decode cX9_copy 56 = .ok (.if_icmp .eq 6, 3) := by decide +kernel
theorem dX9_copy_59 : decode cX9_copy 59 = .ok (.bipush (-13), 2) := by decide +kernel
theorem dX9_copy_61 : decode cX9_copy 61 = .ok (.ireturn, 1) := by decide +kernel
theorem dX9_copy_62 : decode cX9_copy 62 = .ok (.iload 5, 2) := by decide +kernel
theorem dX9_copy_64 : decode cX9_copy 64 = .ok (.ifCond .lt 60, 3) := by decide +kernel
theorem dX9_copy_67 : decode cX9_copy 67 = .ok (.iload_n 2, 1) := by decide +kernel
theorem dX9_copy_68 : decode cX9_copy 68 = .ok (.ifCond .lt 56, 3) := by decide +kernel
theorem dX9_copy_71 : decode cX9_copy 71 = .ok (.iload 4, 2) := by decide +kernel
theorem dX9_copy_73 : decode cX9_copy 73 = .ok (.ifCond .lt 51, 3) := by decide +kernel
theorem dX9_copy_76 : decode cX9_copy 76 = .ok (.iload_n 2, 1) := by decide +kernel
theorem dX9_copy_77 : decode cX9_copy 77 = .ok (.aload_n 0, 1) := by decide +kernel
theorem dX9_copy_78 : decode cX9_copy 78 = .ok (.getfield 40, 3) := by decide +kernel
theorem dX9_copy_81 : decode cX9_copy 81 = .ok (.iload_n 1, 1) := by decide +kernel
theorem dX9_copy_82 : decode cX9_copy 82 = .ok (.iaload, 1) := by decide +kernel
theorem dX9_copy_83 : decode cX9_copy 83 = .ok (.if_icmp .gt 41, 3) := by decide +kernel
theorem dX9_copy_86 : decode cX9_copy 86 = .ok (.iload 4, 2) := by decide +kernel
theorem dX9_copy_88 : decode cX9_copy 88 = .ok (.aload_n 0, 1) := by decide +kernel
theorem dX9_copy_89 : decode cX9_copy 89 = .ok (.getfield 40, 3) := by decide +kernel
theorem dX9_copy_92 : decode cX9_copy 92 = .ok (.iload_n 3, 1) := by decide +kernel
theorem dX9_copy_93 : decode cX9_copy 93 = .ok (.iaload, 1) := by decide +kernel
theorem dX9_copy_94 : decode cX9_copy 94 = .ok (.if_icmp .gt 30, 3) := by decide +kernel
theorem dX9_copy_97 : decode cX9_copy 97 = .ok (.iload 5, 2) := by decide +kernel
theorem dX9_copy_99 : decode cX9_copy 99 = .ok (.aload_n 0, 1) := by decide +kernel
theorem dX9_copy_100 : decode cX9_copy 100 = .ok (.getfield 40, 3) := by decide +kernel
theorem dX9_copy_103 : decode cX9_copy 103 = .ok (.iload_n 1, 1) := by decide +kernel
theorem dX9_copy_104 : decode cX9_copy 104 = .ok (.iaload, 1) := by decide +kernel
theorem dX9_copy_105 : decode cX9_copy 105 = .ok (.iload_n 2, 1) := by decide +kernel
theorem dX9_copy_106 : decode cX9_copy 106 = .ok (.isub, 1) := by decide +kernel
theorem dX9_copy_107 : decode cX9_copy 107 = .ok (.if_icmp .gt 17, 3) := by decide +kernel
theorem dX9_copy_110 : decode cX9_copy 110 = .ok (.iload 5, 2) := by decide +kernel
theorem dX9_copy_112 : decode cX9_copy 112 = .ok (.aload_n 0, 1) := by decide +kernel
theorem dX9_copy_113 : decode cX9_copy 113 = .ok (.getfield 40, 3) := by decide +kernel
theorem dX9_copy_116 : decode cX9_copy 116 = .ok (.iload_n 3, 1) := by decide +kernel
theorem dX9_copy_117 : decode cX9_copy 117 = .ok (.iaload, 1) := by decide +kernel
theorem dX9_copy_118 : decode cX9_copy 118 = .ok (.iload 4, 2) := by decide +kernel
theorem dX9_copy_120 : decode cX9_copy 120 = .ok (.isub, 1) := by decide +kernel
theorem dX9_copy_121 : decode cX9_copy 121 = .ok (.if_icmp .le 6, 3) := by decide +kernel
theorem dX9_copy_124 : decode cX9_copy 124 = .ok (.bipush (-12), 2) := by decide +kernel
theorem dX9_copy_126 : decode cX9_copy 126 = .ok (.ireturn, 1) := by decide +kernel
theorem dX9_copy_127 : decode cX9_copy 127 = .ok (.bipush 40, 2) := by decide +kernel
theorem dX9_copy_129 : decode cX9_copy 129 = .ok (.iload_n 1, 1) := by decide +kernel
theorem dX9_copy_130 : decode cX9_copy 130 = .ok (.imul, 1) := by decide +kernel
theorem dX9_copy_131 : decode cX9_copy 131 = .ok (.iload_n 2, 1) := by decide +kernel
theorem dX9_copy_132 : decode cX9_copy 132 = .ok (.iadd, 1) := by decide +kernel
theorem dX9_copy_133 : decode cX9_copy 133 = .ok (.istore 6, 2) := by decide +kernel
theorem dX9_copy_135 : decode cX9_copy 135 = .ok (.bipush 40, 2) := by decide +kernel
theorem dX9_copy_137 : decode cX9_copy 137 = .ok (.iload_n 3, 1) := by decide +kernel
theorem dX9_copy_138 : decode cX9_copy 138 = .ok (.imul, 1) := by decide +kernel
theorem dX9_copy_139 : decode cX9_copy 139 = .ok (.iload 4, 2) := by decide +kernel
theorem dX9_copy_141 : decode cX9_copy 141 = .ok (.iadd, 1) := by decide +kernel
theorem dX9_copy_142 : decode cX9_copy 142 = .ok (.istore 7, 2) := by decide +kernel
theorem dX9_copy_144 : decode cX9_copy 144 = .ok (.iconst 0, 1) := by decide +kernel
theorem dX9_copy_145 : decode cX9_copy 145 = .ok (.istore 8, 2) := by decide +kernel
theorem dX9_copy_147 : decode cX9_copy 147 = .ok (.iload 8, 2) := by decide +kernel
theorem dX9_copy_149 : decode cX9_copy 149 = .ok (.iload 5, 2) := by decide +kernel
theorem dX9_copy_151 : decode cX9_copy 151 = .ok (.if_icmp .ge 50, 3) := by decide +kernel
theorem dX9_copy_154 : decode cX9_copy 154 = .ok (.iload 6, 2) := by decide +kernel
theorem dX9_copy_156 : decode cX9_copy 156 = .ok (.iload 7, 2) := by decide +kernel
theorem dX9_copy_158 : decode cX9_copy 158 = .ok (.if_icmp .ge 13, 3) := by decide +kernel
theorem dX9_copy_161 : decode cX9_copy 161 = .ok (.iload 5, 2) := by decide +kernel
theorem dX9_copy_163 : decode cX9_copy 163 = .ok (.iconst 1, 1) := by decide +kernel
theorem dX9_copy_164 : decode cX9_copy 164 = .ok (.isub, 1) := by decide +kernel
theorem dX9_copy_165 : decode cX9_copy 165 = .ok (.iload 8, 2) := by decide +kernel
theorem dX9_copy_167 : decode cX9_copy 167 = .ok (.isub, 1) := by decide +kernel
theorem dX9_copy_168 : decode cX9_copy 168 = .ok (.goto 5, 3) := by decide +kernel
theorem dX9_copy_171 : decode cX9_copy 171 = .ok (.iload 8, 2) := by decide +kernel
theorem dX9_copy_173 : decode cX9_copy 173 = .ok (.istore 9, 2) := by decide +kernel
theorem dX9_copy_175 : decode cX9_copy 175 = .ok (.aload_n 0, 1) := by decide +kernel
theorem dX9_copy_176 : decode cX9_copy 176 = .ok (.getfield 43, 3) := by decide +kernel
theorem dX9_copy_179 : decode cX9_copy 179 = .ok (.iload 7, 2) := by decide +kernel
theorem dX9_copy_181 : decode cX9_copy 181 = .ok (.iload 9, 2) := by decide +kernel
theorem dX9_copy_183 : decode cX9_copy 183 = .ok (.iadd, 1) := by decide +kernel
theorem dX9_copy_184 : decode cX9_copy 184 = .ok (.aload_n 0, 1) := by decide +kernel
theorem dX9_copy_185 : decode cX9_copy 185 = .ok (.getfield 43, 3) := by decide +kernel
theorem dX9_copy_188 : decode cX9_copy 188 = .ok (.iload 6, 2) := by decide +kernel
theorem dX9_copy_190 : decode cX9_copy 190 = .ok (.iload 9, 2) := by decide +kernel
theorem dX9_copy_192 : decode cX9_copy 192 = .ok (.iadd, 1) := by decide +kernel
theorem dX9_copy_193 : decode cX9_copy 193 = .ok (.iaload, 1) := by decide +kernel
theorem dX9_copy_194 : decode cX9_copy 194 = .ok (.iastore, 1) := by decide +kernel
theorem dX9_copy_195 : decode cX9_copy 195 = .ok (.iinc 8 1, 3) := by decide +kernel
theorem dX9_copy_198 : decode cX9_copy 198 = .ok (.goto (-51), 3) := by decide +kernel
theorem dX9_copy_201 : decode cX9_copy 201 = .ok (.iload 5, 2) := by decide +kernel
theorem dX9_copy_203 : decode cX9_copy 203 = .ok (.ireturn, 1) := by decide +kernel
theorem dX9_lotsBy_0 : decode cX9_lotsBy 0 = .ok (.iload_n 1, 1) := by decide +kernel
theorem dX9_lotsBy_1 : decode cX9_lotsBy 1 = .ok (.iconst 0, 1) := by decide +kernel
theorem dX9_lotsBy_2 : decode cX9_lotsBy 2 = .ok (.iconst 3, 1) := by decide +kernel
theorem dX9_lotsBy_3 : decode cX9_lotsBy 3 = .ok (.invokestatic 81, 3) := by decide +kernel
theorem dX9_lotsBy_6 : decode cX9_lotsBy 6 = .ok (.ifCond .eq 23, 3) := by decide +kernel
theorem dX9_lotsBy_9 : decode cX9_lotsBy 9 = .ok (.iload_n 2, 1) := by decide +kernel
theorem dX9_lotsBy_10 : decode cX9_lotsBy 10 = .ok (.iconst 0, 1) := by decide +kernel
theorem dX9_lotsBy_11 : decode cX9_lotsBy 11 = .ok (.iconst 2, 1) := by decide +kernel
theorem dX9_lotsBy_12 : decode cX9_lotsBy 12 = .ok (.invokestatic 81, 3) := by decide +kernel
theorem dX9_lotsBy_15 : decode cX9_lotsBy 15 = .ok (.ifCond .eq 14, 3) := by decide +kernel
theorem dX9_lotsBy_18 : decode cX9_lotsBy 18 = .ok (.iload 4, 2) := by decide +kernel
theorem dX9_lotsBy_20 : decode cX9_lotsBy 20 = .ok (.iconst 0, 1) := by decide +kernel
theorem dX9_lotsBy_21 : decode cX9_lotsBy 21 = .ok (.bipush 7, 2) := by decide +kernel
theorem dX9_lotsBy_23 : decode cX9_lotsBy 23 = .ok (.invokestatic 81, 3) := by decide +kernel
theorem dX9_lotsBy_26 : decode cX9_lotsBy 26 = .ok (.ifCond .ne 6, 3) := by decide +kernel
theorem dX9_lotsBy_29 : decode cX9_lotsBy 29 = .ok (.bipush (-2), 2) := by decide +kernel
theorem dX9_lotsBy_31 : decode cX9_lotsBy 31 = .ok (.ireturn, 1) := by decide +kernel
theorem dX9_lotsBy_32 : decode cX9_lotsBy 32 = .ok (.aload_n 0, 1) := by decide +kernel
theorem dX9_lotsBy_33 : decode cX9_lotsBy 33 = .ok (.getfield 37, 3) := by decide +kernel
theorem dX9_lotsBy_36 : decode cX9_lotsBy 36 = .ok (.iload_n 1, 1) := by decide +kernel
theorem dX9_lotsBy_37 : decode cX9_lotsBy 37 = .ok (.iaload, 1) := by decide +kernel
theorem dX9_lotsBy_38 : decode cX9_lotsBy 38 = .ok (.iconst (-1), 1) := by decide +kernel
theorem dX9_lotsBy_39 : decode cX9_lotsBy 39 = .ok (.if_icmp .ne 6, 3) := by decide +kernel
theorem dX9_lotsBy_42 : decode cX9_lotsBy 42 = .ok (.bipush (-11), 2) := by decide +kernel
theorem dX9_lotsBy_44 : decode cX9_lotsBy 44 = .ok (.ireturn, 1) := by decide +kernel
theorem dX9_lotsBy_45 : decode cX9_lotsBy 45 = .ok (.aload_n 0, 1) := by decide +kernel
theorem dX9_lotsBy_46 : decode cX9_lotsBy 46 = .ok (.getfield 37, 3) := by decide +kernel
theorem dX9_lotsBy_49 : decode cX9_lotsBy 49 = .ok (.iload_n 1, 1) := by decide +kernel
theorem dX9_lotsBy_50 : decode cX9_lotsBy 50 = .ok (.iaload, 1) := by decide +kernel
theorem dX9_lotsBy_51 : decode cX9_lotsBy 51 = .ok (.iload_n 2, 1) := by decide +kernel
theorem dX9_lotsBy_52 : decode cX9_lotsBy 52 = .ok (.if_icmp .eq 6, 3) := by decide +kernel
theorem dX9_lotsBy_55 : decode cX9_lotsBy 55 = .ok (.bipush (-13), 2) := by decide +kernel
theorem dX9_lotsBy_57 : decode cX9_lotsBy 57 = .ok (.ireturn, 1) := by decide +kernel
theorem dX9_lotsBy_58 : decode cX9_lotsBy 58 = .ok (.iconst 0, 1) := by decide +kernel
theorem dX9_lotsBy_59 : decode cX9_lotsBy 59 = .ok (.istore 5, 2) := by decide +kernel
theorem dX9_lotsBy_61 : decode cX9_lotsBy 61 = .ok (.iconst 0, 1) := by decide +kernel
theorem dX9_lotsBy_62 : decode cX9_lotsBy 62 = .ok (.istore 6, 2) := by decide +kernel
theorem dX9_lotsBy_64 : decode cX9_lotsBy 64 = .ok (.iload 6, 2) := by decide +kernel
theorem dX9_lotsBy_66 : decode cX9_lotsBy 66 = .ok (.iload 4, 2) := by decide +kernel
theorem dX9_lotsBy_68 : decode cX9_lotsBy 68 = .ok (.if_icmp .ge 94, 3) := by decide +kernel
theorem dX9_lotsBy_71 : decode cX9_lotsBy 71 = .ok (.iload_n 3, 1) := by decide +kernel
theorem dX9_lotsBy_72 : decode cX9_lotsBy 72 = .ok (.iconst 3, 1) := by decide +kernel
theorem dX9_lotsBy_73 : decode cX9_lotsBy 73 = .ok (.iload 6, 2) := by decide +kernel
theorem dX9_lotsBy_75 : decode cX9_lotsBy 75 = .ok (.imul, 1) := by decide +kernel
theorem dX9_lotsBy_76 : decode cX9_lotsBy 76 = .ok (.iadd, 1) := by decide +kernel
theorem dX9_lotsBy_77 : decode cX9_lotsBy 77 = .ok (.istore 7, 2) := by decide +kernel
theorem dX9_lotsBy_79 : decode cX9_lotsBy 79 = .ok (.iload_n 3, 1) := by decide +kernel
theorem dX9_lotsBy_80 : decode cX9_lotsBy 80 = .ok (.ifCond .lt 22, 3) := by decide +kernel
theorem dX9_lotsBy_83 : decode cX9_lotsBy 83 = .ok (.iload 7, 2) := by decide +kernel
theorem dX9_lotsBy_85 : decode cX9_lotsBy 85 = .ok (.iload_n 3, 1) := by decide +kernel
theorem dX9_lotsBy_86 : decode cX9_lotsBy 86 = .ok (.if_icmp .lt 16, 3) := by decide +kernel
theorem dX9_lotsBy_89 : decode cX9_lotsBy 89 = .ok (.iload 7, 2) := by decide +kernel
theorem dX9_lotsBy_91 : decode cX9_lotsBy 91 = .ok (.aload_n 0, 1) := by decide +kernel
theorem dX9_lotsBy_92 : decode cX9_lotsBy 92 = .ok (.getfield 40, 3) := by decide +kernel
theorem dX9_lotsBy_95 : decode cX9_lotsBy 95 = .ok (.iload_n 1, 1) := by decide +kernel
theorem dX9_lotsBy_96 : decode cX9_lotsBy 96 = .ok (.iaload, 1) := by decide +kernel
theorem dX9_lotsBy_97 : decode cX9_lotsBy 97 = .ok (.iconst 3, 1) := by decide +kernel
theorem dX9_lotsBy_98 : decode cX9_lotsBy 98 = .ok (.isub, 1) := by decide +kernel
theorem dX9_lotsBy_99 : decode cX9_lotsBy 99 = .ok (.if_icmp .le 6, 3) := by decide +kernel
theorem dX9_lotsBy_102 : decode cX9_lotsBy 102 = .ok (.bipush (-12), 2) := by decide +kernel
theorem dX9_lotsBy_104 : decode cX9_lotsBy 104 = .ok (.ireturn, 1) := by decide +kernel
theorem dX9_lotsBy_105 : decode cX9_lotsBy 105 = .ok (.bipush 40, 2) := by decide +kernel
theorem dX9_lotsBy_107 : decode cX9_lotsBy 107 = .ok (.iload_n 1, 1) := by decide +kernel
theorem dX9_lotsBy_108 : decode cX9_lotsBy 108 = .ok (.imul, 1) := by decide +kernel
theorem dX9_lotsBy_109 : decode cX9_lotsBy 109 = .ok (.iload 7, 2) := by decide +kernel
theorem dX9_lotsBy_111 : decode cX9_lotsBy 111 = .ok (.iadd, 1) := by decide +kernel
theorem dX9_lotsBy_112 : decode cX9_lotsBy 112 = .ok (.istore 8, 2) := by decide +kernel
theorem dX9_lotsBy_114 : decode cX9_lotsBy 114 = .ok (.iload 5, 2) := by decide +kernel
theorem dX9_lotsBy_116 : decode cX9_lotsBy 116 = .ok (.aload_n 0, 1) := by decide +kernel
theorem dX9_lotsBy_117 : decode cX9_lotsBy 117 = .ok (.aload_n 0, 1) := by decide +kernel
theorem dX9_lotsBy_118 : decode cX9_lotsBy 118 = .ok (.getfield 43, 3) := by decide +kernel
theorem dX9_lotsBy_121 : decode cX9_lotsBy 121 = .ok (.iload 8, 2) := by decide +kernel
theorem dX9_lotsBy_123 : decode cX9_lotsBy 123 = .ok (.iaload, 1) := by decide +kernel
theorem dX9_lotsBy_124 : decode cX9_lotsBy 124 = .ok (.aload_n 0, 1) := by decide +kernel
theorem dX9_lotsBy_125 : decode cX9_lotsBy 125 = .ok (.getfield 43, 3) := by decide +kernel
theorem dX9_lotsBy_128 : decode cX9_lotsBy 128 = .ok (.iload 8, 2) := by decide +kernel
theorem dX9_lotsBy_130 : decode cX9_lotsBy 130 = .ok (.iconst 1, 1) := by decide +kernel
theorem dX9_lotsBy_131 : decode cX9_lotsBy 131 = .ok (.iadd, 1) := by decide +kernel
theorem dX9_lotsBy_132 : decode cX9_lotsBy 132 = .ok (.iaload, 1) := by decide +kernel
theorem dX9_lotsBy_133 : decode cX9_lotsBy 133 = .ok (.aload_n 0, 1) := by decide +kernel
theorem dX9_lotsBy_134 : decode cX9_lotsBy 134 = .ok (.getfield 43, 3) := by decide +kernel
theorem dX9_lotsBy_137 : decode cX9_lotsBy 137 = .ok (.iload 8, 2) := by decide +kernel
theorem dX9_lotsBy_139 : decode cX9_lotsBy 139 = .ok (.iconst 2, 1) := by decide +kernel
theorem dX9_lotsBy_140 : decode cX9_lotsBy 140 = .ok (.iadd, 1) := by decide +kernel
theorem dX9_lotsBy_141 : decode cX9_lotsBy 141 = .ok (.iaload, 1) := by decide +kernel
theorem dX9_lotsBy_142 : decode cX9_lotsBy 142 = .ok (.invokevirtual 323, 3) := by decide +kernel
theorem dX9_lotsBy_145 : decode cX9_lotsBy 145 = .ok (.ifCond .lt 7, 3) := by decide +kernel
theorem dX9_lotsBy_148 : decode cX9_lotsBy 148 = .ok (.iconst 1, 1) := by decide +kernel
theorem dX9_lotsBy_149 : decode cX9_lotsBy 149 = .ok (.goto 4, 3) := by decide +kernel
theorem dX9_lotsBy_152 : decode cX9_lotsBy 152 = .ok (.iconst 0, 1) := by decide +kernel
theorem dX9_lotsBy_153 : decode cX9_lotsBy 153 = .ok (.iadd, 1) := by decide +kernel
theorem dX9_lotsBy_154 : decode cX9_lotsBy 154 = .ok (.istore 5, 2) := by decide +kernel
theorem dX9_lotsBy_156 : decode cX9_lotsBy 156 = .ok (.iinc 6 1, 3) := by decide +kernel
theorem dX9_lotsBy_159 : decode cX9_lotsBy 159 = .ok (.goto (-95), 3) := by decide +kernel
theorem dX9_lotsBy_162 : decode cX9_lotsBy 162 = .ok (.iload 5, 2) := by decide +kernel
theorem dX9_lotsBy_164 : decode cX9_lotsBy 164 = .ok (.ireturn, 1) := by decide +kernel
theorem dX9_isUnder_0 : decode cX9_isUnder 0 = .ok (.iload_n 1, 1) := by decide +kernel
theorem dX9_isUnder_1 : decode cX9_isUnder 1 = .ok (.ifCond .eq 28, 3) := by decide +kernel
theorem dX9_isUnder_4 : decode cX9_isUnder 4 = .ok (.iload_n 0, 1) := by decide +kernel
theorem dX9_isUnder_5 : decode cX9_isUnder 5 = .ok (.iload_n 1, 1) := by decide +kernel
theorem dX9_isUnder_6 : decode cX9_isUnder 6 = .ok (.if_icmp .eq 23, 3) := by decide +kernel
theorem dX9_isUnder_9 : decode cX9_isUnder 9 = .ok (.iload_n 1, 1) := by decide +kernel
theorem dX9_isUnder_10 : decode cX9_isUnder 10 = .ok (.iconst 1, 1) := by decide +kernel
theorem dX9_isUnder_11 : decode cX9_isUnder 11 = .ok (.if_icmp .ne 8, 3) := by decide +kernel
theorem dX9_isUnder_14 : decode cX9_isUnder 14 = .ok (.iload_n 0, 1) := by decide +kernel
theorem dX9_isUnder_15 : decode cX9_isUnder 15 = .ok (.iconst 3, 1) := by decide +kernel
theorem dX9_isUnder_16 : decode cX9_isUnder 16 = .ok (.if_icmp .eq 13, 3) := by decide +kernel
theorem dX9_isUnder_19 : decode cX9_isUnder 19 = .ok (.iload_n 1, 1) := by decide +kernel
theorem dX9_isUnder_20 : decode cX9_isUnder 20 = .ok (.iconst 2, 1) := by decide +kernel
theorem dX9_isUnder_21 : decode cX9_isUnder 21 = .ok (.if_icmp .ne 12, 3) := by decide +kernel
theorem dX9_isUnder_24 : decode cX9_isUnder 24 = .ok (.iload_n 0, 1) := by decide +kernel
theorem dX9_isUnder_25 : decode cX9_isUnder 25 = .ok (.iconst 4, 1) := by decide +kernel
theorem dX9_isUnder_26 : decode cX9_isUnder 26 = .ok (.if_icmp .ne 7, 3) := by decide +kernel
theorem dX9_isUnder_29 : decode cX9_isUnder 29 = .ok (.iconst 1, 1) := by decide +kernel
theorem dX9_isUnder_30 : decode cX9_isUnder 30 = .ok (.goto 4, 3) := by decide +kernel
theorem dX9_isUnder_33 : decode cX9_isUnder 33 = .ok (.iconst 0, 1) := by decide +kernel
theorem dX9_isUnder_34 : decode cX9_isUnder 34 = .ok (.ireturn, 1) := by decide +kernel
theorem dX9_taken_0 : decode cX9_taken 0 = .ok (.iload_n 2, 1) := by decide +kernel
theorem dX9_taken_1 : decode cX9_taken 1 = .ok (.iconst 0, 1) := by decide +kernel
theorem dX9_taken_2 : decode cX9_taken 2 = .ok (.bipush 6, 2) := by decide +kernel
theorem dX9_taken_4 : decode cX9_taken 4 = .ok (.invokestatic 81, 3) := by decide +kernel
theorem dX9_taken_7 : decode cX9_taken 7 = .ok (.ifCond .ne 6, 3) := by decide +kernel
theorem dX9_taken_10 : decode cX9_taken 10 = .ok (.bipush (-2), 2) := by decide +kernel
theorem dX9_taken_12 : decode cX9_taken 12 = .ok (.ireturn, 1) := by decide +kernel
theorem dX9_taken_13 : decode cX9_taken 13 = .ok (.iload_n 1, 1) := by decide +kernel
theorem dX9_taken_14 : decode cX9_taken 14 = .ok (.iconst 0, 1) := by decide +kernel
theorem dX9_taken_15 : decode cX9_taken 15 = .ok (.bipush 13, 2) := by decide +kernel
theorem dX9_taken_17 : decode cX9_taken 17 = .ok (.invokestatic 81, 3) := by decide +kernel
theorem dX9_taken_20 : decode cX9_taken 20 = .ok (.ifCond .ne 6, 3) := by decide +kernel
theorem dX9_taken_23 : decode cX9_taken 23 = .ok (.bipush (-12), 2) := by decide +kernel
theorem dX9_taken_25 : decode cX9_taken 25 = .ok (.ireturn, 1) := by decide +kernel
theorem dX9_taken_26 : decode cX9_taken 26 = .ok (.iload_n 1, 1) := by decide +kernel
theorem dX9_taken_27 : decode cX9_taken 27 = .ok (.bipush 7, 2) := by decide +kernel
theorem dX9_taken_29 : decode cX9_taken 29 = .ok (.if_icmp .ge 42, 3) := by decide +kernel
theorem dX9_taken_32 : decode cX9_taken 32 = .ok (.iload_n 1, 1) := by decide +kernel
theorem dX9_taken_33 : decode cX9_taken 33 = .ok (.aload_n 0, 1) := by decide +kernel
theorem dX9_taken_34 : decode cX9_taken 34 = .ok (.getfield 78, 3) := by decide +kernel
theorem dX9_taken_37 : decode cX9_taken 37 = .ok (.if_icmp .lt 8, 3) := by decide +kernel
theorem dX9_taken_40 : decode cX9_taken 40 = .ok (.bipush (-11), 2) := by decide +kernel
theorem dX9_taken_42 : decode cX9_taken 42 = .ok (.goto 28, 3) := by decide +kernel
theorem dX9_taken_45 : decode cX9_taken 45 = .ok (.iload_n 2, 1) := by decide +kernel
theorem dX9_taken_46 : decode cX9_taken 46 = .ok (.bipush 6, 2) := by decide +kernel
theorem dX9_taken_48 : decode cX9_taken 48 = .ok (.if_icmp .ge 20, 3) := by decide +kernel
theorem dX9_taken_51 : decode cX9_taken 51 = .ok (.aload_n 0, 1) := by decide +kernel
theorem dX9_taken_52 : decode cX9_taken 52 = .ok (.getfield 7, 3) := by decide +kernel
theorem dX9_taken_55 : decode cX9_taken 55 = .ok (.iload_n 1, 1) := by decide +kernel
theorem dX9_taken_56 : decode cX9_taken 56 = .ok (.iaload, 1) := by decide +kernel
theorem dX9_taken_57 : decode cX9_taken 57 = .ok (.iload_n 2, 1) := by decide +kernel
theorem dX9_taken_58 : decode cX9_taken 58 = .ok (.invokestatic 326, 3) := by decide +kernel
theorem dX9_taken_61 : decode cX9_taken 61 = .ok (.ifCond .eq 7, 3) := by decide +kernel
theorem dX9_taken_64 : decode cX9_taken 64 = .ok (.iload_n 1, 1) := by decide +kernel
theorem dX9_taken_65 : decode cX9_taken 65 = .ok (.goto 5, 3) := by decide +kernel
theorem dX9_taken_68 : decode cX9_taken 68 = .ok (.bipush (-13), 2) := by decide +kernel
theorem dX9_taken_70 : decode cX9_taken 70 = .ok (.ireturn, 1) := by decide +kernel
theorem dX9_taken_71 : decode cX9_taken 71 = .ok (.iload_n 1, 1) := by decide +kernel
theorem dX9_taken_72 : decode cX9_taken 72 = .ok (.bipush 7, 2) := by decide +kernel
theorem dX9_taken_74 : decode cX9_taken 74 = .ok (.isub, 1) := by decide +kernel
theorem dX9_taken_75 : decode cX9_taken 75 = .ok (.aload_n 0, 1) := by decide +kernel
theorem dX9_taken_76 : decode cX9_taken 76 = .ok (.getfield 78, 3) := by decide +kernel
theorem dX9_taken_79 : decode cX9_taken 79 = .ok (.if_icmp .ge 18, 3) := by decide +kernel
theorem dX9_taken_82 : decode cX9_taken 82 = .ok (.aload_n 0, 1) := by decide +kernel
theorem dX9_taken_83 : decode cX9_taken 83 = .ok (.iload_n 1, 1) := by decide +kernel
theorem dX9_taken_84 : decode cX9_taken 84 = .ok (.bipush 7, 2) := by decide +kernel
theorem dX9_taken_86 : decode cX9_taken 86 = .ok (.isub, 1) := by decide +kernel
theorem dX9_taken_87 : decode cX9_taken 87 = .ok (.invokevirtual 89, 3) := by decide +kernel
theorem dX9_taken_90 : decode cX9_taken 90 = .ok (.ifCond .eq 7, 3) := by decide +kernel
theorem dX9_taken_93 : decode cX9_taken 93 = .ok (.iconst 1, 1) := by decide +kernel
theorem dX9_taken_94 : decode cX9_taken 94 = .ok (.goto 4, 3) := by decide +kernel
theorem dX9_taken_97 : decode cX9_taken 97 = .ok (.iconst 0, 1) := by decide +kernel
theorem dX9_taken_98 : decode cX9_taken 98 = .ok (.istore_n 3, 1) := by decide +kernel
theorem dX9_taken_99 : decode cX9_taken 99 = .ok (.iload_n 3, 1) := by decide +kernel
theorem dX9_taken_100 : decode cX9_taken 100 = .ok (.ifCond .ne 8, 3) := by decide +kernel
theorem dX9_taken_103 : decode cX9_taken 103 = .ok (.bipush (-11), 2) := by decide +kernel
theorem dX9_taken_105 : decode cX9_taken 105 = .ok (.goto 23, 3) := by decide +kernel
theorem dX9_taken_108 : decode cX9_taken 108 = .ok (.iload_n 2, 1) := by decide +kernel
theorem dX9_taken_109 : decode cX9_taken 109 = .ok (.bipush 6, 2) := by decide +kernel
theorem dX9_taken_111 : decode cX9_taken 111 = .ok (.if_icmp .ne 15, 3) := by decide +kernel
theorem dX9_taken_114 : decode cX9_taken 114 = .ok (.aload_n 0, 1) := by decide +kernel
theorem dX9_taken_115 : decode cX9_taken 115 = .ok (.getfield 19, 3) := by decide +kernel
theorem dX9_taken_118 : decode cX9_taken 118 = .ok (.iload_n 1, 1) := by decide +kernel
theorem dX9_taken_119 : decode cX9_taken 119 = .ok (.bipush 7, 2) := by decide +kernel
theorem dX9_taken_121 : decode cX9_taken 121 = .ok (.isub, 1) := by decide +kernel
theorem dX9_taken_122 : decode cX9_taken 122 = .ok (.iaload, 1) := by decide +kernel
theorem dX9_taken_123 : decode cX9_taken 123 = .ok (.goto 5, 3) := by decide +kernel
theorem dX9_taken_126 : decode cX9_taken 126 = .ok (.bipush (-13), 2) := by decide +kernel
theorem dX9_taken_128 : decode cX9_taken 128 = .ok (.ireturn, 1) := by decide +kernel
