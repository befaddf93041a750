theorem dX8_drawn_7 : decode cX8_drawn 7 = .ok (.aload_n 0, 1) := by decide +kernel
theorem dX8_drawn_8 : decode cX8_drawn 8 = .ok (.iload_n 1, 1) := by decide +kernel
theorem dX8_drawn_9 : decode cX8_drawn 9 = .ok (.invokevirtual 266, 3) := by decide +kernel
theorem dX8_drawn_12 : decode cX8_drawn 12 = .ok (.goto 5, 3) := by decide +kernel
theorem dX8_drawn_15 : decode cX8_drawn 15 = .ok (.bipush (-2), 2) := by decide +kernel
theorem dX8_drawn_17 : decode cX8_drawn 17 = .ok (.ireturn, 1) := by decide +kernel
theorem dX8_isSeed_0 : decode cX8_isSeed 0 = .ok (.iload_n 0, 1) := by decide +kernel
theorem dX8_isSeed_1 : decode cX8_isSeed 1 = .ok (.ifCond .lt 14, 3) := by decide +kernel
theorem dX8_isSeed_4 : decode cX8_isSeed 4 = .ok (.iload_n 0, 1) := by decide +kernel
theorem dX8_isSeed_5 : decode cX8_isSeed 5 = .ok (.ldc_w 269, 3) := by decide +kernel
theorem dX8_isSeed_8 : decode cX8_isSeed 8 = .ok (.if_icmp .gt 7, 3) := by decide +kernel
theorem dX8_isSeed_11 : decode cX8_isSeed 11 = .ok (.iconst 1, 1) := by decide +kernel
theorem dX8_isSeed_12 : decode cX8_isSeed 12 = .ok (.goto 4, 3) := by decide +kernel
theorem dX8_isSeed_15 : decode cX8_isSeed 15 = .ok (.iconst 0, 1) := by decide +kernel
theorem dX8_isSeed_16 : decode cX8_isSeed 16 = .ok (.ireturn, 1) := by decide +kernel
theorem dX8_coloursDrawn_0 : decode cX8_coloursDrawn 0 = .ok (.aload_n 0, 1) := by decide +kernel
theorem dX8_coloursDrawn_1 : decode cX8_coloursDrawn 1 = .ok (.getfield 16, 3) := by decide +kernel
theorem dX8_coloursDrawn_4 : decode cX8_coloursDrawn 4 = .ok (.aload_n 0, 1) := by decide +kernel
theorem dX8_coloursDrawn_5 : decode cX8_coloursDrawn 5 = .ok (.getfield 10, 3) := by decide +kernel
theorem dX8_coloursDrawn_8 : decode cX8_coloursDrawn 8 = .ok (.invokevirtual 172, 3) := by decide +kernel
theorem dX8_coloursDrawn_11 : decode cX8_coloursDrawn 11 = .ok (.iload_n 1, 1) := by decide +kernel
theorem dX8_coloursDrawn_12 : decode cX8_coloursDrawn 12 = .ok (.i2l, 1) := by decide +kernel
theorem dX8_coloursDrawn_13 : decode cX8_coloursDrawn 13 = .ok (.lconst 1, 1) := by decide +kernel
theorem dX8_coloursDrawn_14 : decode cX8_coloursDrawn 14 = .ok (.ladd, 1) := by decide +kernel
theorem dX8_coloursDrawn_15 : decode cX8_coloursDrawn 15 = .ok (.lstore_n 2, 1) := by decide +kernel
theorem dX8_coloursDrawn_16 : decode cX8_coloursDrawn 16 = .ok (.aload_n 0, 1) := by decide +kernel
theorem dX8_coloursDrawn_17 : decode cX8_coloursDrawn 17 = .ok (.getfield 16, 3) := by decide +kernel
theorem dX8_coloursDrawn_20 : decode cX8_coloursDrawn 20 = .ok (.invokevirtual 190, 3) := by decide +kernel
theorem dX8_coloursDrawn_23 : decode cX8_coloursDrawn 23 = .ok (.invokestatic 270, 3) := by decide +kernel
theorem dX8_coloursDrawn_26 : decode cX8_coloursDrawn 26 = .ok (.istore 4, 2) := by decide +kernel
theorem dX8_coloursDrawn_28 : decode cX8_coloursDrawn 28 = .ok (.iload 4, 2) := by decide +kernel
theorem dX8_coloursDrawn_30 : decode cX8_coloursDrawn 30 = .ok (.ifCond .le 40, 3) := by decide +kernel
theorem dX8_coloursDrawn_33 : decode cX8_coloursDrawn 33 = .ok (.lload_n 2, 1) := by decide +kernel
theorem dX8_coloursDrawn_34 : decode cX8_coloursDrawn 34 = .ok (.ldc2_w 273, 3) := by decide +kernel
theorem dX8_coloursDrawn_37 : decode cX8_coloursDrawn 37 = .ok (.lmul, 1) := by decide +kernel
theorem dX8_coloursDrawn_38 : decode cX8_coloursDrawn 38 = .ok (.ldc2_w 275, 3) := by decide +kernel
theorem dX8_coloursDrawn_41 : decode cX8_coloursDrawn 41 = .ok (.lrem, 1) := by decide +kernel
theorem dX8_coloursDrawn_42 : decode cX8_coloursDrawn 42 = .ok (.lstore_n 2, 1) := by decide +kernel
theorem dX8_coloursDrawn_43 : decode cX8_coloursDrawn 43 = .ok (.aload_n 0, 1) := by decide +kernel
theorem dX8_coloursDrawn_44 : decode cX8_coloursDrawn 44 = .ok (.getfield 16, 3) := by decide +kernel
theorem dX8_coloursDrawn_47 : decode cX8_coloursDrawn 47 = .ok (.aload_n 0, 1) := by decide +kernel
theorem dX8_coloursDrawn_48 : decode cX8_coloursDrawn 48 = .ok (.getfield 16, 3) := by decide +kernel
theorem dX8_coloursDrawn_51 : decode cX8_coloursDrawn 51 = .ok (.lload_n 2, 1) := by decide +kernel
theorem dX8_coloursDrawn_52 : decode cX8_coloursDrawn 52 = .ok (.iload 4, 2) := by decide +kernel
theorem dX8_coloursDrawn_54 : decode cX8_coloursDrawn 54 = .ok (.i2l, 1) := by decide +kernel
theorem dX8_coloursDrawn_55 : decode cX8_coloursDrawn 55 = .ok (.lrem, 1) := by decide +kernel
theorem dX8_coloursDrawn_56 : decode cX8_coloursDrawn 56 = .ok (.l2i, 1) := by decide +kernel
theorem dX8_coloursDrawn_57 : decode cX8_coloursDrawn 57 = .ok (.invokevirtual 277, 3) := by decide +kernel
theorem dX8_coloursDrawn_60 : decode cX8_coloursDrawn 60 = .ok (.invokevirtual 133, 3) := by decide +kernel
theorem dX8_coloursDrawn_63 : decode cX8_coloursDrawn 63 = .ok (.pop, 1) := by decide +kernel
theorem dX8_coloursDrawn_64 : decode cX8_coloursDrawn 64 = .ok (.iinc 4 (-1), 3) := by decide +kernel
theorem dX8_coloursDrawn_67 : decode cX8_coloursDrawn 67 = .ok (.goto (-39), 3) := by decide +kernel
theorem dX8_coloursDrawn_70 : decode cX8_coloursDrawn 70 = .ok (.aload_n 0, 1) := by decide +kernel
theorem dX8_coloursDrawn_71 : decode cX8_coloursDrawn 71 = .ok (.getfield 16, 3) := by decide +kernel
theorem dX8_coloursDrawn_74 : decode cX8_coloursDrawn 74 = .ok (.invokevirtual 68, 3) := by decide +kernel
theorem dX8_coloursDrawn_77 : decode cX8_coloursDrawn 77 = .ok (.ireturn, 1) := by decide +kernel
theorem dX8_odds_0 : decode cX8_odds 0 = .ok (.iload_n 1, 1) := by decide +kernel
theorem dX8_odds_1 : decode cX8_odds 1 = .ok (.invokestatic 263, 3) := by decide +kernel
theorem dX8_odds_4 : decode cX8_odds 4 = .ok (.ifCond .eq 35, 3) := by decide +kernel
theorem dX8_odds_7 : decode cX8_odds 7 = .ok (.iload_n 2, 1) := by decide +kernel
theorem dX8_odds_8 : decode cX8_odds 8 = .ok (.iconst 1, 1) := by decide +kernel
theorem dX8_odds_9 : decode cX8_odds 9 = .ok (.if_icmp .lt 30, 3) := by decide +kernel
theorem dX8_odds_12 : decode cX8_odds 12 = .ok (.iload_n 2, 1) := by decide +kernel
theorem dX8_odds_13 : decode cX8_odds 13 = .ok (.bipush 40, 2) := by decide +kernel
theorem dX8_odds_15 : decode cX8_odds 15 = .ok (.if_icmp .gt 24, 3) := by decide +kernel
theorem dX8_odds_18 : decode cX8_odds 18 = .ok (.iload_n 3, 1) := by decide +kernel
theorem dX8_odds_19 : decode cX8_odds 19 = .ok (.ifCond .lt 20, 3) := by decide +kernel
theorem dX8_odds_22 : decode cX8_odds 22 = .ok (.iload_n 3, 1) := by decide +kernel
theorem dX8_odds_23 : decode cX8_odds 23 = .ok (.bipush 7, 2) := by decide +kernel
theorem dX8_odds_25 : decode cX8_odds 25 = .ok (.if_icmp .gt 14, 3) := by decide +kernel
theorem dX8_odds_28 : decode cX8_odds 28 = .ok (.iload 4, 2) := by decide +kernel
theorem dX8_odds_30 : decode cX8_odds 30 = .ok (.ifCond .lt 9, 3) := by decide +kernel
theorem dX8_odds_33 : decode cX8_odds 33 = .ok (.iload 4, 2) := by decide +kernel
theorem dX8_odds_35 : decode cX8_odds 35 = .ok (.iconst 1, 1) := by decide +kernel
theorem dX8_odds_36 : decode cX8_odds 36 = .ok (.if_icmp .le 7, 3) := by decide +kernel
theorem dX8_odds_39 : decode cX8_odds 39 = .ok (.ldc2_w 280, 3) := by decide +kernel
theorem dX8_odds_42 : decode cX8_odds 42 = .ok (.lreturn, 1) := by decide +kernel
theorem dX8_odds_43 : decode cX8_odds 43 = .ok (.iconst 0, 1) := by decide +kernel
theorem dX8_odds_44 : decode cX8_odds 44 = .ok (.istore 5, 2) := by decide +kernel
theorem dX8_odds_46 : decode cX8_odds 46 = .ok (.iconst 0, 1) := by decide +kernel
theorem dX8_odds_47 : decode cX8_odds 47 = .ok (.istore 6, 2) := by decide +kernel
theorem dX8_odds_49 : decode cX8_odds 49 = .ok (.iload 6, 2) := by decide +kernel
theorem dX8_odds_51 : decode cX8_odds 51 = .ok (.iload_n 2, 1) := by decide +kernel
theorem dX8_odds_52 : decode cX8_odds 52 = .ok (.if_icmp .ge 31, 3) := by decide +kernel
theorem dX8_odds_55 : decode cX8_odds 55 = .ok (.iload 5, 2) := by decide +kernel
theorem dX8_odds_57 : decode cX8_odds 57 = .ok (.aload_n 0, 1) := by decide +kernel
theorem dX8_odds_58 : decode cX8_odds 58 = .ok (.iload_n 1, 1) := by decide +kernel
theorem dX8_odds_59 : decode cX8_odds 59 = .ok (.iload 6, 2) := by decide +kernel
theorem dX8_odds_61 : decode cX8_odds 61 = .ok (.iadd, 1) := by decide +kernel
theorem dX8_odds_62 : decode cX8_odds 62 = .ok (.invokevirtual 266, 3) := by decide +kernel
theorem dX8_odds_65 : decode cX8_odds 65 = .ok (.iload_n 3, 1) := by decide +kernel
theorem dX8_odds_66 : decode cX8_odds 66 = .ok (.if_icmp .gt 7, 3) := by decide +kernel
theorem dX8_odds_69 : decode cX8_odds 69 = .ok (.iconst 1, 1) := by decide +kernel
theorem dX8_odds_70 : decode cX8_odds 70 = .ok (.goto 4, 3) := by decide +kernel
theorem dX8_odds_73 : decode cX8_odds 73 = .ok (.iconst 0, 1) := by decide +kernel
theorem dX8_odds_74 : decode cX8_odds 74 = .ok (.iadd, 1) := by decide +kernel
theorem dX8_odds_75 : decode cX8_odds 75 = .ok (.istore 5, 2) := by decide +kernel
theorem dX8_odds_77 : decode cX8_odds 77 = .ok (.iinc 6 1, 3) := by decide +kernel
theorem dX8_odds_80 : decode cX8_odds 80 = .ok (.goto (-31), 3) := by decide +kernel
theorem dX8_odds_83 : decode cX8_odds 83 = .ok (.iload 5, 2) := by decide +kernel
theorem dX8_odds_85 : decode cX8_odds 85 = .ok (.iload_n 2, 1) := by decide +kernel
theorem dX8_odds_86 : decode cX8_odds 86 = .ok (.invokestatic 282, 3) := by decide +kernel
theorem dX8_odds_89 : decode cX8_odds 89 = .ok (.istore 6, 2) := by decide +kernel
theorem dX8_odds_91 : decode cX8_odds 91 = .ok (.iload 4, 2) := by decide +kernel
theorem dX8_odds_93 : decode cX8_odds 93 = .ok (.ifCond .ne 8, 3) := by decide +kernel
theorem dX8_odds_96 : decode cX8_odds 96 = .ok (.iload 5, 2) := by decide +kernel
theorem dX8_odds_98 : decode cX8_odds 98 = .ok (.goto 4, 3) := by decide +kernel
theorem dX8_odds_101 : decode cX8_odds 101 = .ok (.iload_n 2, 1) := by decide +kernel
theorem dX8_odds_102 : decode cX8_odds 102 = .ok (.iload 6, 2) := by decide +kernel
theorem dX8_odds_104 : decode cX8_odds 104 = .ok (.idiv, 1) := by decide +kernel
theorem dX8_odds_105 : decode cX8_odds 105 = .ok (.i2l, 1) := by decide +kernel
theorem dX8_odds_106 : decode cX8_odds 106 = .ok (.lreturn, 1) := by decide +kernel
theorem dX8_commonDivisor_0 : decode cX8_commonDivisor 0 = .ok (.iload_n 1, 1) := by decide +kernel
theorem dX8_commonDivisor_1 : decode cX8_commonDivisor 1 = .ok (.istore_n 2, 1) := by decide +kernel
theorem dX8_commonDivisor_2 : decode cX8_commonDivisor 2 = .ok (.iload_n 2, 1) := by decide +kernel
theorem dX8_commonDivisor_3 : decode cX8_commonDivisor 3 = .ok (.iconst 1, 1) := by decide +kernel
theorem dX8_commonDivisor_4 : decode cX8_commonDivisor 4 = .ok (.if_icmp .le 23, 3) := by decide +kernel
theorem dX8_commonDivisor_7 : decode cX8_commonDivisor 7 = .ok (.iload_n 0, 1) := by decide +kernel
theorem dX8_commonDivisor_8 : decode cX8_commonDivisor 8 = .ok (.iload_n 2, 1) := by decide +kernel
theorem dX8_commonDivisor_9 : decode cX8_commonDivisor 9 = .ok (.irem, 1) := by decide +kernel
theorem dX8_commonDivisor_10 : decode cX8_commonDivisor 10 = .ok (.ifCond .ne 11, 3) := by decide +kernel
theorem dX8_commonDivisor_13 : decode cX8_commonDivisor 13 = .ok (.iload_n 1, 1) := by decide +kernel
theorem dX8_commonDivisor_14 : decode cX8_commonDivisor 14 = .ok (.iload_n 2, 1) := by decide +kernel
theorem dX8_commonDivisor_15 : decode cX8_commonDivisor 15 = .ok (.irem, 1) := by decide +kernel
theorem dX8_commonDivisor_16 : decode cX8_commonDivisor 16 = .ok (.ifCond .ne 5, 3) := by decide +kernel
theorem dX8_commonDivisor_19 : decode cX8_commonDivisor 19 = .ok (.iload_n 2, 1) := by decide +kernel
theorem dX8_commonDivisor_20 : decode cX8_commonDivisor 20 = .ok (.ireturn, 1) := by decide +kernel
theorem dX8_commonDivisor_21 : decode cX8_commonDivisor 21 = .ok (.iinc 2 (-1), 3) := by decide +kernel
theorem dX8_commonDivisor_24 : decode cX8_commonDivisor 24 = .ok (.goto (-22), 3) := by decide +kernel
theorem dX8_commonDivisor_27 : decode cX8_commonDivisor 27 = .ok (.iconst 1, 1) := by decide +kernel
theorem dX8_commonDivisor_28 : decode cX8_commonDivisor 28 = .ok (.ireturn, 1) := by decide +kernel
theorem dX8_image_0 : decode cX8_image 0 = .ok (.aload_n 0, 1) := by decide +kernel
theorem dX8_image_1 : decode cX8_image 1 = .ok (.getfield 19, 3) := by decide +kernel
theorem dX8_image_4 : decode cX8_image 4 = .ok (.aload_n 0, 1) := by decide +kernel
theorem dX8_image_5 : decode cX8_image 5 = .ok (.getfield 10, 3) := by decide +kernel
theorem dX8_image_8 : decode cX8_image 8 = .ok (.invokevirtual 172, 3) := by decide +kernel
theorem dX8_image_11 : decode cX8_image 11 = .ok (.aload_n 0, 1) := by decide +kernel
theorem dX8_image_12 : decode cX8_image 12 = .ok (.iconst 1, 1) := by decide +kernel
theorem dX8_image_13 : decode cX8_image 13 = .ok (.putfield 22, 3) := by decide +kernel
theorem dX8_image_16 : decode cX8_image 16 = .ok (.aload_n 0, 1) := by decide +kernel
theorem dX8_image_17 : decode cX8_image 17 = .ok (.getfield 10, 3) := by decide +kernel
theorem dX8_image_20 : decode cX8_image 20 = .ok (.getfield 61, 3) := by decide +kernel
theorem dX8_image_23 : decode cX8_image 23 = .ok (.ireturn, 1) := by decide +kernel
theorem dX8_back_0 : decode cX8_back 0 = .ok (.aload_n 0, 1) := by decide +kernel
theorem dX8_back_1 : decode cX8_back 1 = .ok (.getfield 22, 3) := by decide +kernel
theorem dX8_back_4 : decode cX8_back 4 = .ok (.ifCond .ne 6, 3) := by decide +kernel
theorem dX8_back_7 : decode cX8_back 7 = .ok (.bipush (-3), 2) := by decide +kernel
theorem dX8_back_9 : decode cX8_back 9 = .ok (.ireturn, 1) := by decide +kernel
theorem dX8_back_10 : decode cX8_back 10 = .ok (.aload_n 0, 1) := by decide +kernel
theorem dX8_back_11 : decode cX8_back 11 = .ok (.getfield 10, 3) := by decide +kernel
theorem dX8_back_14 : decode cX8_back 14 = .ok (.aload_n 0, 1) := by decide +kernel
theorem dX8_back_15 : decode cX8_back 15 = .ok (.getfield 19, 3) := by decide +kernel
theorem dX8_back_18 : decode cX8_back 18 = .ok (.invokevirtual 172, 3) := by decide +kernel
theorem dX8_back_21 : decode cX8_back 21 = .ok (.aload_n 0, 1) := by decide +kernel
theorem dX8_back_22 : decode cX8_back 22 = .ok (.getfield 10, 3) := by decide +kernel
theorem dX8_back_25 : decode cX8_back 25 = .ok (.getfield 61, 3) := by decide +kernel
theorem dX8_back_28 : decode cX8_back 28 = .ok (.ireturn, 1) := by decide +kernel
theorem dX8_sheet_0 : decode cX8_sheet 0 = .ok (.iload_n 1, 1) := by decide +kernel
theorem dX8_sheet_1 : decode cX8_sheet 1 = .ok (.invokestatic 201, 3) := by decide +kernel
theorem dX8_sheet_4 : decode cX8_sheet 4 = .ok (.ifCond .eq 13, 3) := by decide +kernel
theorem dX8_sheet_7 : decode cX8_sheet 7 = .ok (.iload_n 2, 1) := by decide +kernel
theorem dX8_sheet_8 : decode cX8_sheet 8 = .ok (.iconst (-1), 1) := by decide +kernel
theorem dX8_sheet_9 : decode cX8_sheet 9 = .ok (.if_icmp .lt 8, 3) := by decide +kernel
theorem dX8_sheet_12 : decode cX8_sheet 12 = .ok (.iload_n 2, 1) := by decide +kernel
theorem dX8_sheet_13 : decode cX8_sheet 13 = .ok (.iconst 2, 1) := by decide +kernel
theorem dX8_sheet_14 : decode cX8_sheet 14 = .ok (.if_icmp .le 6, 3) := by decide +kernel
theorem dX8_sheet_17 : decode cX8_sheet 17 = .ok (.bipush (-2), 2) := by decide +kernel
theorem dX8_sheet_19 : decode cX8_sheet 19 = .ok (.ireturn, 1) := by decide +kernel
theorem dX8_sheet_20 : decode cX8_sheet 20 = .ok (.iload_n 2, 1) := by decide +kernel
theorem dX8_sheet_21 : decode cX8_sheet 21 = .ok (.iconst (-1), 1) := by decide +kernel
theorem dX8_sheet_22 : decode cX8_sheet 22 = .ok (.if_icmp .ne 15, 3) := by decide +kernel
theorem dX8_sheet_25 : decode cX8_sheet 25 = .ok (.aload_n 0, 1) := by decide +kernel
theorem dX8_sheet_26 : decode cX8_sheet 26 = .ok (.getfield 36, 3) := by decide +kernel
theorem dX8_sheet_29 : decode cX8_sheet 29 = .ok (.iload_n 1, 1) := by decide +kernel
theorem dX8_sheet_30 : decode cX8_sheet 30 = .ok (.iload_n 2, 1) := by decide +kernel
theorem dX8_sheet_31 : decode cX8_sheet 31 = .ok (.iconst 0, 1) := by decide +kernel
theorem dX8_sheet_32 : decode cX8_sheet 32 = .ok (.invokevirtual 256, 3) := by decide +kernel
theorem dX8_sheet_35 : decode cX8_sheet 35 = .ok (.iconst 1, 1) := by decide +kernel
theorem dX8_sheet_36 : decode cX8_sheet 36 = .ok (.ireturn, 1) := by decide +kernel
theorem dX8_sheet_37 : decode cX8_sheet 37 = .ok (.iload_n 3, 1) := by decide +kernel
theorem dX8_sheet_38 : decode cX8_sheet 38 = .ok (.bipush 40, 2) := by decide +kernel
theorem dX8_sheet_40 : decode cX8_sheet 40 = .ok (.if_icmp .le 6, 3) := by decide +kernel
theorem dX8_sheet_43 : decode cX8_sheet 43 = .ok (.bipush (-2), 2) := by decide +kernel
theorem dX8_sheet_45 : decode cX8_sheet 45 = .ok (.ireturn, 1) := by decide +kernel
theorem dX8_sheet_46 : decode cX8_sheet 46 = .ok (.iload_n 3, 1) := by decide +kernel
theorem dX8_sheet_47 : decode cX8_sheet 47 = .ok (.ifCond .ge 6, 3) := by decide +kernel
theorem dX8_sheet_50 : decode cX8_sheet 50 = .ok (.bipush (-14), 2) := by decide +kernel
theorem dX8_sheet_52 : decode cX8_sheet 52 = .ok (.ireturn, 1) := by decide +kernel
theorem dX8_sheet_53 : decode cX8_sheet 53 = .ok (.aload_n 0, 1) := by decide +kernel
theorem dX8_sheet_54 : decode cX8_sheet 54 = .ok (.getfield 36, 3) := by decide +kernel
theorem dX8_sheet_57 : decode cX8_sheet 57 = .ok (.iload_n 1, 1) := by decide +kernel
theorem dX8_sheet_58 : decode cX8_sheet 58 = .ok (.iload_n 2, 1) := by decide +kernel
theorem dX8_sheet_59 : decode cX8_sheet 59 = .ok (.iload_n 3, 1) := by decide +kernel
theorem dX8_sheet_60 : decode cX8_sheet 60 = .ok (.invokevirtual 256, 3) := by decide +kernel
theorem dX8_sheet_63 : decode cX8_sheet 63 = .ok (.iconst 1, 1) := by decide +kernel
theorem dX8_sheet_64 : decode cX8_sheet 64 = .ok (.ireturn, 1) := by decide +kernel
theorem dX8_cell_0 : decode cX8_cell 0 = .ok (.iload_n 1, 1) := by decide +kernel
theorem dX8_cell_1 : decode cX8_cell 1 = .ok (.invokestatic 201, 3) := by decide +kernel
theorem dX8_cell_4 : decode cX8_cell 4 = .ok (.ifCond .ne 6, 3) := by decide +kernel
theorem dX8_cell_7 : decode cX8_cell 7 = .ok (.bipush (-2), 2) := by decide +kernel
theorem dX8_cell_9 : decode cX8_cell 9 = .ok (.ireturn, 1) := by decide +kernel
theorem dX8_cell_10 : decode cX8_cell 10 = .ok (.aload_n 0, 1) := by decide +kernel
theorem dX8_cell_11 : decode cX8_cell 11 = .ok (.getfield 36, 3) := by decide +kernel
theorem dX8_cell_14 : decode cX8_cell 14 = .ok (.iload_n 1, 1) := by decide +kernel
theorem dX8_cell_15 : decode cX8_cell 15 = .ok (.invokevirtual 204, 3) := by decide +kernel
theorem dX8_cell_18 : decode cX8_cell 18 = .ok (.ifCond .eq 6, 3) := by decide +kernel
theorem dX8_cell_21 : decode cX8_cell 21 = .ok (.bipush (-11), 2) := by decide +kernel
theorem dX8_cell_23 : decode cX8_cell 23 = .ok (.ireturn, 1) := by decide +kernel
theorem dX8_cell_24 : decode cX8_cell 24 = .ok (.aload_n 0, 1) := by decide +kernel
theorem dX8_cell_25 : decode cX8_cell 25 = .ok (.getfield 36, 3) := by decide +kernel
theorem dX8_cell_28 : decode cX8_cell 28 = .ok (.iload_n 1, 1) := by decide +kernel
theorem dX8_cell_29 : decode cX8_cell 29 = .ok (.iload_n 2, 1) := by decide +kernel
theorem dX8_cell_30 : decode cX8_cell 30 = .ok (.invokevirtual 285, 3) := by decide +kernel
theorem dX8_cell_33 : decode cX8_cell 33 = .ok (.ifCond .ne 6, 3) := by decide +kernel
theorem dX8_cell_36 : decode cX8_cell 36 = .ok (.bipush (-12), 2) := by decide +kernel
theorem dX8_cell_38 : decode cX8_cell 38 = .ok (.ireturn, 1) := by decide +kernel
theorem dX8_cell_39 : decode cX8_cell 39 = .ok (.aload_n 0, 1) := by decide +kernel
theorem dX8_cell_40 : decode cX8_cell 40 = .ok (.getfield 36, 3) := by decide +kernel
theorem dX8_cell_43 : decode cX8_cell 43 = .ok (.iload_n 1, 1) := by decide +kernel
theorem dX8_cell_44 : decode cX8_cell 44 = .ok (.iload_n 2, 1) := by decide +kernel
theorem dX8_cell_45 : decode cX8_cell 45 = .ok (.iload_n 3, 1) := by decide +kernel
theorem dX8_cell_46 : decode cX8_cell 46 = .ok (.invokevirtual 260, 3) := by decide +kernel
theorem dX8_cell_49 : decode cX8_cell 49 = .ok (.iconst 1, 1) := by decide +kernel
theorem dX8_cell_50 : decode cX8_cell 50 = .ok (.ireturn, 1) := by decide +kernel
theorem dX8_copy_0 : decode cX8_copy 0 = .ok (.iload_n 1, 1) := by decide +kernel
theorem dX8_copy_1 : decode cX8_copy 1 = .ok (.invokestatic 201, 3) := by decide +kernel
theorem dX8_copy_4 : decode cX8_copy 4 = .ok (.ifCond .eq 10, 3) := by decide +kernel
theorem dX8_copy_7 : decode cX8_copy 7 = .ok (.iload_n 3, 1) := by decide +kernel
theorem dX8_copy_8 : decode cX8_copy 8 = .ok (.invokestatic 201, 3) := by decide +kernel
theorem dX8_copy_11 : decode cX8_copy 11 = .ok (.ifCond .ne 6, 3) := by decide +kernel
theorem dX8_copy_14 : decode cX8_copy 14 = .ok (.bipush (-2), 2) := by decide +kernel
theorem dX8_copy_16 : decode cX8_copy 16 = .ok (.ireturn, 1) := by decide +kernel
theorem dX8_copy_17 : decode cX8_copy 17 = .ok (.aload_n 0, 1) := by decide +kernel
theorem dX8_copy_18 : decode cX8_copy 18 = .ok (.getfield 36, 3) := by decide +kernel
theorem dX8_copy_21 : decode cX8_copy 21 = .ok (.iload_n 1, 1) := by decide +kernel
theorem dX8_copy_22 : decode cX8_copy 22 = .ok (.invokevirtual 204, 3) := by decide +kernel
theorem dX8_copy_25 : decode cX8_copy 25 = .ok (.ifCond .ne 14, 3) := by decide +kernel
theorem dX8_copy_28 : decode cX8_copy 28 = .ok (.aload_n 0, 1) := by decide +kernel
theorem dX8_copy_29 : decode cX8_copy 29 = .ok (.getfield 36, 3) := by decide +kernel
theorem dX8_copy_32 : decode cX8_copy 32 = .ok (.iload_n 3, 1) := by decide +kernel
theorem dX8_copy_33 : decode cX8_copy 33 = .ok (.invokevirtual 204, 3) := by decide +kernel
theorem dX8_copy_36 : decode cX8_copy 36 = .ok (.ifCond .eq 6, 3) := by decide +kernel
theorem dX8_copy_39 : decode cX8_copy 39 = .ok (.bipush (-11), 2) := by decide +kernel
theorem dX8_copy_41 : decode cX8_copy 41 = .ok (.ireturn, 1) := by decide +kernel
theorem dX8_copy_42 : decode cX8_copy 42 = .ok (.aload_n 0, 1) := by decide +kernel
theorem dX8_copy_43 : decode cX8_copy 43 = .ok (.getfield 36, 3) := by decide +kernel
theorem dX8_copy_46 : decode cX8_copy 46 = .ok (.getfield 288, 3) := by decide +kernel
theorem dX8_copy_49 : decode cX8_copy 49 = .ok (.iload_n 1, 1) := by decide +kernel
theorem dX8_copy_50 : decode cX8_copy 50 = .ok (.iaload, 1) := by decide +kernel
theorem dX8_copy_51 : decode cX8_copy 51 = .ok (.aload_n 0, 1) := by decide +kernel
theorem dX8_copy_52 : decode cX8_copy 52 = .ok (.getfield 36, 3) := by decide +kernel
theorem dX8_copy_55 : decode cX8_copy 55 = .ok (.getfield 288, 3) := by decide +kernel
theorem dX8_copy_58 : decode cX8_copy 58 = .ok (.iload_n 3, 1) := by decide +kernel
theorem dX8_copy_59 : decode cX8_copy 59 = .ok (.iaload, 1) := by decide +kernel
theorem dX8_copy_60 : decode cX8_copy 60 = .ok (.if_icmp .eq 6, 3) := by decide +kernel
theorem dX8_copy_63 : decode cX8_copy 63 = .ok (.bipush (-13), 2) := by decide +kernel
theorem dX8_copy_65 : decode cX8_copy 65 = .ok (.ireturn, 1) := by decide +kernel
theorem dX8_copy_66 : decode cX8_copy 66 = .ok (.iload 5, 2) := by decide +kernel
theorem dX8_copy_68 : decode cX8_copy 68 = .ok (.ifCond .lt 32, 3) := by decide +kernel
theorem dX8_copy_71 : decode cX8_copy 71 = .ok (.aload_n 0, 1) := by decide +kernel
theorem dX8_copy_72 : decode cX8_copy 72 = .ok (.getfield 36, 3) := by decide +kernel
theorem dX8_copy_75 : decode cX8_copy 75 = .ok (.iload_n 1, 1) := by decide +kernel
theorem dX8_copy_76 : decode cX8_copy 76 = .ok (.iload_n 2, 1) := by decide +kernel
theorem dX8_copy_77 : decode cX8_copy 77 = .ok (.iload 5, 2) := by decide +kernel
theorem dX8_copy_79 : decode cX8_copy 79 = .ok (.invokevirtual 291, 3) := by decide +kernel
theorem dX8_copy_82 : decode cX8_copy 82 = .ok (.ifCond .eq 18, 3) := by decide +kernel
theorem dX8_copy_85 : decode cX8_copy 85 = .ok (.aload_n 0, 1) := by decide +kernel
theorem dX8_copy_86 : decode cX8_copy 86 = .ok (.getfield 36, 3) := by decide +kernel
theorem dX8_copy_89 : decode cX8_copy 89 = .ok (.iload_n 3, 1) := by decide +kernel
theorem dX8_copy_90 : decode cX8_copy 90 = .ok (.iload 4, 2) := by decide +kernel
theorem dX8_copy_92 : decode cX8_copy 92 = .ok (.iload 5, 2) := by decide +kernel
theorem dX8_copy_94 : decode cX8_copy 94 = .ok (.invokevirtual 291, 3) := by decide +kernel
theorem dX8_copy_97 : decode cX8_copy 97 = .ok (.ifCond .ne 6, 3) := by decide +kernel
theorem dX8_copy_100 : decode cX8_copy 100 = .ok (.bipush (-12), 2) := by decide +kernel
theorem dX8_copy_102 : decode cX8_copy 102 = .ok (.ireturn, 1) := by decide +kernel
theorem dX8_copy_103 : decode cX8_copy 103 = .ok (.aload_n 0, 1) := by decide +kernel
theorem dX8_copy_104 : decode cX8_copy 104 = .ok (.getfield 36, 3) := by decide +kernel
theorem dX8_copy_107 : decode cX8_copy 107 = .ok (.getfield 252, 3) := by decide +kernel
theorem dX8_copy_110 : decode cX8_copy 110 = .ok (.iload_n 1, 1) := by decide +kernel
theorem dX8_copy_111 : decode cX8_copy 111 = .ok (.aaload, 1) := by decide +kernel
theorem dX8_copy_112 : decode cX8_copy 112 = .ok (.iload_n 2, 1) := by decide +kernel
theorem dX8_copy_113 : decode cX8_copy 113 = .ok (.aload_n 0, 1) := by decide +kernel
theorem dX8_copy_114 : decode cX8_copy 114 = .ok (.getfield 36, 3) := by decide +kernel
theorem dX8_copy_117 : decode cX8_copy 117 = .ok (.getfield 252, 3) := by decide +kernel
theorem dX8_copy_120 : decode cX8_copy 120 = .ok (.iload_n 3, 1) := by decide +kernel
theorem dX8_copy_121 : decode cX8_copy 121 = .ok (.aaload, 1) := by decide +kernel
theorem dX8_copy_122 : decode cX8_copy 122 = .ok (.iload 4, 2) := by decide +kernel
theorem dX8_copy_124 : decode cX8_copy 124 = .ok (.iload 5, 2) := by decide +kernel
theorem dX8_copy_126 : decode cX8_copy 126 = .ok (.invokestatic 294, 3) := by decide +kernel
theorem dX8_copy_129 : decode cX8_copy 129 = .ok (.iload 5, 2) := by decide +kernel
theorem dX8_copy_131 : decode cX8_copy 131 = .ok (.ireturn, 1) := by decide +kernel
theorem dX8_lotsBy_0 : decode cX8_lotsBy 0 = .ok (.iload_n 1, 1) := by decide +kernel
theorem dX8_lotsBy_1 : decode cX8_lotsBy 1 = .ok (.invokestatic 201, 3) := by decide +kernel
theorem dX8_lotsBy_4 : decode cX8_lotsBy 4 = .ok (.ifCond .eq 24, 3) := by decide +kernel
theorem dX8_lotsBy_7 : decode cX8_lotsBy 7 = .ok (.iload_n 2, 1) := by decide +kernel
theorem dX8_lotsBy_8 : decode cX8_lotsBy 8 = .ok (.ifCond .lt 20, 3) := by decide +kernel
theorem dX8_lotsBy_11 : decode cX8_lotsBy 11 = .ok (.iload_n 2, 1) := by decide +kernel
theorem dX8_lotsBy_12 : decode cX8_lotsBy 12 = .ok (.iconst 2, 1) := by decide +kernel
theorem dX8_lotsBy_13 : decode cX8_lotsBy 13 = .ok (.if_icmp .gt 15, 3) := by decide +kernel
theorem dX8_lotsBy_16 : decode cX8_lotsBy 16 = .ok (.iload 4, 2) := by decide +kernel
theorem dX8_lotsBy_18 : decode cX8_lotsBy 18 = .ok (.ifCond .lt 10, 3) := by decide +kernel
theorem dX8_lotsBy_21 : decode cX8_lotsBy 21 = .ok (.iload 4, 2) := by decide +kernel
theorem dX8_lotsBy_23 : decode cX8_lotsBy 23 = .ok (.bipush 7, 2) := by decide +kernel
theorem dX8_lotsBy_25 : decode cX8_lotsBy 25 = .ok (.if_icmp .le 6, 3) := by decide +kernel
theorem dX8_lotsBy_28 : decode cX8_lotsBy 28 = .ok (.bipush (-2), 2) := by decide +kernel
theorem dX8_lotsBy_30 : decode cX8_lotsBy 30 = .ok (.ireturn, 1) := by decide +kernel
theorem dX8_lotsBy_31 : decode cX8_lotsBy 31 = .ok (.aload_n 0, 1) := by decide +kernel
theorem dX8_lotsBy_32 : decode cX8_lotsBy 32 = .ok (.getfield 36, 3) := by decide +kernel
theorem dX8_lotsBy_35 : decode cX8_lotsBy 35 = .ok (.iload_n 1, 1) := by decide +kernel
theorem dX8_lotsBy_36 : decode cX8_lotsBy 36 = .ok (.invokevirtual 204, 3) := by decide +kernel
theorem dX8_lotsBy_39 : decode cX8_lotsBy 39 = .ok (.ifCond .eq 6, 3) := by decide +kernel
theorem dX8_lotsBy_42 : decode cX8_lotsBy 42 = .ok (.bipush (-11), 2) := by decide +kernel
theorem dX8_lotsBy_44 : decode cX8_lotsBy 44 = .ok (.ireturn, 1) := by decide +kernel
theorem dX8_lotsBy_45 : decode cX8_lotsBy 45 = .ok (.aload_n 0, 1) := by decide +kernel
theorem dX8_lotsBy_46 : decode cX8_lotsBy 46 = .ok (.getfield 36, 3) := by decide +kernel
theorem dX8_lotsBy_49 : decode cX8_lotsBy 49 = .ok (.getfield 288, 3) := by decide +kernel
theorem dX8_lotsBy_52 : decode cX8_lotsBy 52 = .ok (.iload_n 1, 1) := by decide +kernel
theorem dX8_lotsBy_53 : decode cX8_lotsBy 53 = .ok (.iaload, 1) := by decide +kernel
theorem dX8_lotsBy_54 : decode cX8_lotsBy 54 = .ok (.iload_n 2, 1) := by decide +kernel
theorem dX8_lotsBy_55 : decode cX8_lotsBy 55 = .ok (.if_icmp .eq 6, 3) := by decide +kernel
theorem dX8_lotsBy_58 : decode cX8_lotsBy 58 = .ok (.bipush (-13), 2) := by decide +kernel
theorem dX8_lotsBy_60 : decode cX8_lotsBy 60 = .ok (.ireturn, 1) := by decide +kernel
theorem dX8_lotsBy_61 : decode cX8_lotsBy 61 = .ok (.iconst 0, 1) := by decide +kernel
theorem dX8_lotsBy_62 : decode cX8_lotsBy 62 = .ok (.istore 5, 2) := by decide +kernel
theorem dX8_lotsBy_64 : decode cX8_lotsBy 64 = .ok (.iload_n 3, 1) := by decide +kernel
theorem dX8_lotsBy_65 : decode cX8_lotsBy 65 = .ok (.istore 6, 2) := by decide +kernel
theorem dX8_lotsBy_67 : decode cX8_lotsBy 67 = .ok (.iconst 0, 1) := by decide +kernel
theorem dX8_lotsBy_68 : decode cX8_lotsBy 68 = .ok (.istore 7, 2) := by decide +kernel
theorem dX8_lotsBy_70 : decode cX8_lotsBy 70 = .ok (.iload 7, 2) := by decide +kernel
theorem dX8_lotsBy_72 : decode cX8_lotsBy 72 = .ok (.iload 4, 2) := by decide +kernel
theorem dX8_lotsBy_74 : decode cX8_lotsBy 74 = .ok (.if_icmp .ge 84, 3) := by decide +kernel
theorem dX8_lotsBy_77 : decode cX8_lotsBy 77 = .ok (.aload_n 0, 1) := by decide +kernel
theorem dX8_lotsBy_78 : decode cX8_lotsBy 78 = .ok (.getfield 36, 3) := by decide +kernel
theorem dX8_lotsBy_81 : decode cX8_lotsBy 81 = .ok (.iload_n 1, 1) := by decide +kernel
theorem dX8_lotsBy_82 : decode cX8_lotsBy 82 = .ok (.iload 6, 2) := by decide +kernel
theorem dX8_lotsBy_84 : decode cX8_lotsBy 84 = .ok (.iconst 3, 1) := by decide +kernel
theorem dX8_lotsBy_85 : decode cX8_lotsBy 85 = .ok (.invokevirtual 291, 3) := by decide +kernel
theorem dX8_lotsBy_88 : decode cX8_lotsBy 88 = .ok (.ifCond .ne 6, 3) := by decide +kernel
theorem dX8_lotsBy_91 : decode cX8_lotsBy 91 = .ok (.bipush (-12), 2) := by decide +kernel
theorem dX8_lotsBy_93 : decode cX8_lotsBy 93 = .ok (.ireturn, 1) := by decide +kernel
theorem dX8_lotsBy_94 : decode cX8_lotsBy 94 = .ok (.aload_n 0, 1) := by decide +kernel
theorem dX8_lotsBy_95 : decode cX8_lotsBy 95 = .ok (.aload_n 0, 1) := by decide +kernel
theorem dX8_lotsBy_96 : decode cX8_lotsBy 96 = .ok (.getfield 36, 3) := by decide +kernel
theorem dX8_lotsBy_99 : decode cX8_lotsBy 99 = .ok (.iload_n 1, 1) := by decide +kernel
theorem dX8_lotsBy_100 : decode cX8_lotsBy 100 = .ok (.iload 6, 2) := by decide +kernel
theorem dX8_lotsBy_102 : decode cX8_lotsBy 102 = .ok (.invokevirtual 249, 3) := by decide +kernel
theorem dX8_lotsBy_105 : decode cX8_lotsBy 105 = .ok (.aload_n 0, 1) := by decide +kernel
theorem dX8_lotsBy_106 : decode cX8_lotsBy 106 = .ok (.getfield 36, 3) := by decide +kernel
theorem dX8_lotsBy_109 : decode cX8_lotsBy 109 = .ok (.iload_n 1, 1) := by decide +kernel
theorem dX8_lotsBy_110 : decode cX8_lotsBy 110 = .ok (.iload 6, 2) := by decide +kernel
theorem dX8_lotsBy_112 : decode cX8_lotsBy 112 = .ok (.iconst 1, 1) := by decide +kernel
theorem dX8_lotsBy_113 : decode cX8_lotsBy 113 = .ok (.iadd, 1) := by decide +kernel
theorem dX8_lotsBy_114 : decode cX8_lotsBy 114 = .ok (.invokevirtual 249, 3) := by decide +kernel
theorem dX8_lotsBy_117 : decode cX8_lotsBy 117 = .ok (.aload_n 0, 1) := by decide +kernel
theorem dX8_lotsBy_118 : decode cX8_lotsBy 118 = .ok (.getfield 36, 3) := by decide +kernel
theorem dX8_lotsBy_121 : decode cX8_lotsBy 121 = .ok (.iload_n 1, 1) := by decide +kernel
theorem dX8_lotsBy_122 : decode cX8_lotsBy 122 = .ok (.iload 6, 2) := by decide +kernel
theorem dX8_lotsBy_124 : decode cX8_lotsBy 124 = .ok (.iconst 2, 1) := by decide +kernel
theorem dX8_lotsBy_125 : decode cX8_lotsBy 125 = .ok (.iadd, 1) := by decide +kernel
theorem dX8_lotsBy_126 : decode cX8_lotsBy 126 = .ok (.invokevirtual 249, 3) := by decide +kernel
theorem dX8_lotsBy_129 : decode cX8_lotsBy 129 = .ok (.invokevirtual 300, 3) := by decide +kernel
theorem dX8_lotsBy_132 : decode cX8_lotsBy 132 = .ok (.istore 8, 2) := by decide +kernel
theorem dX8_lotsBy_134 : decode cX8_lotsBy 134 = .ok (.iload 5, 2) := by decide +kernel
theorem dX8_lotsBy_136 : decode cX8_lotsBy 136 = .ok (.iload 8, 2) := by decide +kernel
theorem dX8_lotsBy_138 : decode cX8_lotsBy 138 = .ok (.ifCond .lt 7, 3) := by decide +kernel
theorem dX8_lotsBy_141 : decode cX8_lotsBy 141 = .ok (.iconst 1, 1) := by decide +kernel
theorem dX8_lotsBy_142 : decode cX8_lotsBy 142 = .ok (.goto 4, 3) := by decide +kernel
theorem dX8_lotsBy_145 : decode cX8_lotsBy 145 = .ok (.iconst 0, 1) := by decide +kernel
theorem dX8_lotsBy_146 : decode cX8_lotsBy 146 = .ok (.iadd, 1) := by decide +kernel
theorem dX8_lotsBy_147 : decode cX8_lotsBy 147 = .ok (.istore 5, 2) := by decide +kernel
theorem dX8_lotsBy_149 : decode cX8_lotsBy 149 = .ok (.iinc 6 3, 3) := by decide +kernel
theorem dX8_lotsBy_152 : decode cX8_lotsBy 152 = .ok (.iinc 7 1, 3) := by decide +kernel
theorem dX8_lotsBy_155 : decode cX8_lotsBy 155 = .ok (.goto (-85), 3) := by decide +kernel
theorem dX8_lotsBy_158 : decode cX8_lotsBy 158 = .ok (.iload 5, 2) := by decide +kernel
theorem dX8_lotsBy_160 : decode cX8_lotsBy 160 = .ok (.ireturn, 1) := by decide +kernel
theorem dX8_taken_0 : decode cX8_taken 0 = .ok (.iload_n 2, 1) := by decide +kernel
theorem dX8_taken_1 : decode cX8_taken 1 = .ok (.ifCond .lt 9, 3) := by decide +kernel
theorem dX8_taken_4 : decode cX8_taken 4 = .ok (.iload_n 2, 1) := by decide +kernel
theorem dX8_taken_5 : decode cX8_taken 5 = .ok (.bipush 6, 2) := by decide +kernel
theorem dX8_taken_7 : decode cX8_taken 7 = .ok (.if_icmp .le 6, 3) := by decide +kernel
theorem dX8_taken_10 : decode cX8_taken 10 = .ok (.bipush (-2), 2) := by decide +kernel
theorem dX8_taken_12 : decode cX8_taken 12 = .ok (.ireturn, 1) := by decide +kernel
theorem dX8_taken_13 : decode cX8_taken 13 = .ok (.iload_n 1, 1) := by decide +kernel
theorem dX8_taken_14 : decode cX8_taken 14 = .ok (.ifCond .lt 9, 3) := by decide +kernel
theorem dX8_taken_17 : decode cX8_taken 17 = .ok (.iload_n 1, 1) := by decide +kernel
theorem dX8_taken_18 : decode cX8_taken 18 = .ok (.bipush 14, 2) := by decide +kernel
theorem dX8_taken_20 : decode cX8_taken 20 = .ok (.if_icmp .lt 6, 3) := by decide +kernel
theorem dX8_taken_23 : decode cX8_taken 23 = .ok (.bipush (-12), 2) := by decide +kernel
theorem dX8_taken_25 : decode cX8_taken 25 = .ok (.ireturn, 1) := by decide +kernel
theorem dX8_taken_26 : decode cX8_taken 26 = .ok (.iload_n 1, 1) := by decide +kernel
theorem dX8_taken_27 : decode cX8_taken 27 = .ok (.bipush 7, 2) := by decide +kernel
theorem dX8_taken_29 : decode cX8_taken 29 = .ok (.if_icmp .ge 7, 3) := by decide +kernel
theorem dX8_taken_32 : decode cX8_taken 32 = .ok (.iconst 1, 1) := by decide +kernel
theorem dX8_taken_33 : decode cX8_taken 33 = .ok (.goto 4, 3) := by decide +kernel
theorem dX8_taken_36 : decode cX8_taken 36 = .ok (.iconst 0, 1) := by decide +kernel
theorem dX8_taken_37 : decode cX8_taken 37 = .ok (.istore_n 3, 1) := by decide +kernel
theorem dX8_taken_38 : decode cX8_taken 38 = .ok (.iload_n 3, 1) := by decide +kernel
theorem dX8_taken_39 : decode cX8_taken 39 = .ok (.ifCond .eq 7, 3) := by decide +kernel
theorem dX8_taken_42 : decode cX8_taken 42 = .ok (.iload_n 1, 1) := by decide +kernel
theorem dX8_taken_43 : decode cX8_taken 43 = .ok (.goto 7, 3) := by decide +kernel
theorem dX8_taken_46 : decode cX8_taken 46 = .ok (.iload_n 1, 1) := by decide +kernel
theorem dX8_taken_47 : decode cX8_taken 47 = .ok (.bipush 7, 2) := by decide +kernel
theorem dX8_taken_49 : decode cX8_taken 49 = .ok (.isub, 1) := by decide +kernel
theorem dX8_taken_50 : decode cX8_taken 50 = .ok (.istore 4, 2) := by decide +kernel
theorem dX8_taken_52 : decode cX8_taken 52 = .ok (.iload_n 3, 1) := by decide +kernel
theorem dX8_taken_53 : decode cX8_taken 53 = .ok (.ifCond .eq 18, 3) := by decide +kernel
theorem dX8_taken_56 : decode cX8_taken 56 = .ok (.aload_n 0, 1) := by decide +kernel
theorem dX8_taken_57 : decode cX8_taken 57 = .ok (.getfield 10, 3) := by decide +kernel
theorem dX8_taken_60 : decode cX8_taken 60 = .ok (.iload 4, 2) := by decide +kernel
theorem dX8_taken_62 : decode cX8_taken 62 = .ok (.invokevirtual 95, 3) := by decide +kernel
theorem dX8_taken_65 : decode cX8_taken 65 = .ok (.ifCond .ne 21, 3) := by decide +kernel
theorem dX8_taken_68 : decode cX8_taken 68 = .ok (.goto 15, 3) := by decide +kernel
theorem dX8_taken_71 : decode cX8_taken 71 = .ok (.aload_n 0, 1) := by decide +kernel
theorem dX8_taken_72 : decode cX8_taken 72 = .ok (.getfield 10, 3) := by decide +kernel
theorem dX8_taken_75 : decode cX8_taken 75 = .ok (.iload 4, 2) := by decide +kernel
theorem dX8_taken_77 : decode cX8_taken 77 = .ok (.invokevirtual 127, 3) := by decide +kernel
theorem dX8_taken_80 : decode cX8_taken 80 = .ok (.ifCond .ne 6, 3) := by decide +kernel
theorem dX8_taken_83 : decode cX8_taken 83 = .ok (.bipush (-11), 2) := by decide +kernel
theorem dX8_taken_85 : decode cX8_taken 85 = .ok (.ireturn, 1) := by decide +kernel
theorem dX8_taken_86 : decode cX8_taken 86 = .ok (.iload_n 3, 1) := by decide +kernel
theorem dX8_taken_87 : decode cX8_taken 87 = .ok (.ifCond .eq 28, 3) := by decide +kernel
theorem dX8_taken_90 : decode cX8_taken 90 = .ok (.aload_n 0, 1) := by decide +kernel
theorem dX8_taken_91 : decode cX8_taken 91 = .ok (.getfield 10, 3) := by decide +kernel
theorem dX8_taken_94 : decode cX8_taken 94 = .ok (.getfield 113, 3) := by decide +kernel
theorem dX8_taken_97 : decode cX8_taken 97 = .ok (.iload 4, 2) := by decide +kernel
theorem dX8_taken_99 : decode cX8_taken 99 = .ok (.iaload, 1) := by decide +kernel
theorem dX8_taken_100 : decode cX8_taken 100 = .ok (.iload_n 2, 1) := by decide +kernel
theorem dX8_taken_101 : decode cX8_taken 101 = .ok (.invokestatic 303, 3) := by decide +kernel
theorem dX8_taken_104 : decode cX8_taken 104 = .ok (.ifCond .eq 8, 3) := by decide +kernel
theorem dX8_taken_107 : decode cX8_taken 107 = .ok (.iload 4, 2) := by decide +kernel
theorem dX8_taken_109 : decode cX8_taken 109 = .ok (.goto 5, 3) := by decide +kernel
theorem dX8_taken_112 : decode cX8_taken 112 = .ok (.bipush (-13), 2) := by decide +kernel
theorem dX8_taken_114 : decode cX8_taken 114 = .ok (.ireturn, 1) := by decide +kernel
theorem dX8_taken_115 : decode cX8_taken 115 = .ok (.iload_n 2, 1) := by decide +kernel
theorem dX8_taken_116 : decode cX8_taken 116 = .ok (.bipush 6, 2) := by decide +kernel
theorem dX8_taken_118 : decode cX8_taken 118 = .ok (.if_icmp .ne 15, 3) := by decide +kernel
theorem dX8_taken_121 : decode cX8_taken 121 = .ok (.aload_n 0, 1) := by decide +kernel
theorem dX8_taken_122 : decode cX8_taken 122 = .ok (.getfield 10, 3) := by decide +kernel
theorem dX8_taken_125 : decode cX8_taken 125 = .ok (.iload 4, 2) := by decide +kernel
theorem dX8_taken_127 : decode cX8_taken 127 = .ok (.invokevirtual 123, 3) := by decide +kernel
theorem dX8_taken_130 : decode cX8_taken 130 = .ok (.goto 5, 3) := by decide +kernel
theorem dX8_taken_133 : decode cX8_taken 133 = .ok (.bipush (-13), 2) := by decide +kernel
theorem dX8_taken_135 : decode cX8_taken 135 = .ok (.ireturn, 1) := by decide +kernel
