theorem dX8_init_0 : decode cX8_init 0 = .ok (.aload_n 0, 1) := by decide +kernel
theorem dX8_init_1 : decode cX8_init 1 = .ok (.invokespecial 1, 3) := by decide +kernel
theorem dX8_init_4 : decode cX8_init 4 = .ok (.aload_n 0, 1) := by decide +kernel
theorem dX8_init_5 : decode cX8_init 5 = .ok (.new 7, 3) := by decide +kernel
theorem dX8_init_8 : decode cX8_init 8 = .ok (.dup, 1) := by decide +kernel
theorem dX8_init_9 : decode cX8_init 9 = .ok (.invokespecial 9, 3) := by decide +kernel
theorem dX8_init_12 : decode cX8_init 12 = .ok (.putfield 10, 3) := by decide +kernel
theorem dX8_init_15 : decode cX8_init 15 = .ok (.aload_n 0, 1) := by decide +kernel
theorem dX8_init_16 : decode cX8_init 16 = .ok (.new 7, 3) := by decide +kernel
theorem dX8_init_19 : decode cX8_init 19 = .ok (.dup, 1) := by decide +kernel
theorem dX8_init_20 : decode cX8_init 20 = .ok (.invokespecial 9, 3) := by decide +kernel
theorem dX8_init_23 : decode cX8_init 23 = .ok (.putfield 16, 3) := by decide +kernel
theorem dX8_init_26 : decode cX8_init 26 = .ok (.aload_n 0, 1) := by decide +kernel
theorem dX8_init_27 : decode cX8_init 27 = .ok (.new 7, 3) := by decide +kernel
theorem dX8_init_30 : decode cX8_init 30 = .ok (.dup, 1) := by decide +kernel
theorem dX8_init_31 : decode cX8_init 31 = .ok (.invokespecial 9, 3) := by decide +kernel
theorem dX8_init_34 : decode cX8_init 34 = .ok (.putfield 19, 3) := by decide +kernel
theorem dX8_init_37 : decode cX8_init 37 = .ok (.aload_n 0, 1) := by decide +kernel
theorem dX8_init_38 : decode cX8_init 38 = .ok (.iconst 0, 1) := by decide +kernel
theorem dX8_init_39 : decode cX8_init 39 = .ok (.putfield 22, 3) := by decide +kernel
theorem dX8_init_42 : decode cX8_init 42 = .ok (.aload_n 0, 1) := by decide +kernel
theorem dX8_init_43 : decode cX8_init 43 = .ok (.new 26, 3) := by decide +kernel
theorem dX8_init_46 : decode cX8_init 46 = .ok (.dup, 1) := by decide +kernel
theorem dX8_init_47 : decode cX8_init 47 = .ok (.invokespecial 28, 3) := by decide +kernel
theorem dX8_init_50 : decode cX8_init 50 = .ok (.putfield 29, 3) := by decide +kernel
theorem dX8_init_53 : decode cX8_init 53 = .ok (.aload_n 0, 1) := by decide +kernel
theorem dX8_init_54 : decode cX8_init 54 = .ok (.new 33, 3) := by decide +kernel
theorem dX8_init_57 : decode cX8_init 57 = .ok (.dup, 1) := by decide +kernel
theorem dX8_init_58 : decode cX8_init 58 = .ok (.invokespecial 35, 3) := by decide +kernel
theorem dX8_init_61 : decode cX8_init 61 = .ok (.putfield 36, 3) := by decide +kernel
theorem dX8_init_64 : decode cX8_init 64 = .ok (.aload_n 0, 1) := by decide +kernel
theorem dX8_init_65 : decode cX8_init 65 = .ok (.new 40, 3) := by decide +kernel
theorem dX8_init_68 : decode cX8_init 68 = .ok (.dup, 1) := by decide +kernel
theorem dX8_init_69 : decode cX8_init 69 = .ok (.invokespecial 42, 3) := by decide +kernel
theorem dX8_init_72 : decode cX8_init 72 = .ok (.putfield 43, 3) := by decide +kernel
theorem dX8_init_75 : decode cX8_init 75 = .ok (.aload_n 0, 1) := by decide +kernel
theorem dX8_init_76 : decode cX8_init 76 = .ok (.new 47, 3) := by decide +kernel
theorem dX8_init_79 : decode cX8_init 79 = .ok (.dup, 1) := by decide +kernel
theorem dX8_init_80 : decode cX8_init 80 = .ok (.invokespecial 49, 3) := by decide +kernel
theorem dX8_init_83 : decode cX8_init 83 = .ok (.putfield 50, 3) := by decide +kernel
theorem dX8_init_86 : decode cX8_init 86 = .ok (.aload_n 0, 1) := by decide +kernel
theorem dX8_init_87 : decode cX8_init 87 = .ok (.new 54, 3) := by decide +kernel
theorem dX8_init_90 : decode cX8_init 90 = .ok (.dup, 1) := by decide +kernel
theorem dX8_init_91 : decode cX8_init 91 = .ok (.invokespecial 56, 3) := by decide +kernel
theorem dX8_init_94 : decode cX8_init 94 = .ok (.putfield 57, 3) := by decide +kernel
theorem dX8_init_97 : decode cX8_init 97 = .ok (.return_, 1) := by decide +kernel
theorem dX8_count_0 : decode cX8_count 0 = .ok (.iload_n 1, 1) := by decide +kernel
theorem dX8_count_1 : decode cX8_count 1 = .ok (.tableswitch 99 0 6 #[43, 51, 59, 67, 75, 83, 91], 43) := by decide +kernel
theorem dX8_count_44 : decode cX8_count 44 = .ok (.aload_n 0, 1) := by decide +kernel
theorem dX8_count_45 : decode cX8_count 45 = .ok (.getfield 10, 3) := by decide +kernel
theorem dX8_count_48 : decode cX8_count 48 = .ok (.getfield 61, 3) := by decide +kernel
theorem dX8_count_51 : decode cX8_count 51 = .ok (.ireturn, 1) := by decide +kernel
theorem dX8_count_52 : decode cX8_count 52 = .ok (.aload_n 0, 1) := by decide +kernel
theorem dX8_count_53 : decode cX8_count 53 = .ok (.getfield 10, 3) := by decide +kernel
theorem dX8_count_56 : decode cX8_count 56 = .ok (.getfield 65, 3) := by decide +kernel
theorem dX8_count_59 : decode cX8_count 59 = .ok (.ireturn, 1) := by decide +kernel
theorem dX8_count_60 : decode cX8_count 60 = .ok (.aload_n 0, 1) := by decide +kernel
theorem dX8_count_61 : decode cX8_count 61 = .ok (.getfield 10, 3) := by decide +kernel
theorem dX8_count_64 : decode cX8_count 64 = .ok (.invokevirtual 68, 3) := by decide +kernel
theorem dX8_count_67 : decode cX8_count 67 = .ok (.ireturn, 1) := by decide +kernel
theorem dX8_count_68 : decode cX8_count 68 = .ok (.aload_n 0, 1) := by decide +kernel
theorem dX8_count_69 : decode cX8_count 69 = .ok (.getfield 10, 3) := by decide +kernel
theorem dX8_count_72 : decode cX8_count 72 = .ok (.invokevirtual 72, 3) := by decide +kernel
theorem dX8_count_75 : decode cX8_count 75 = .ok (.ireturn, 1) := by decide +kernel
theorem dX8_count_76 : decode cX8_count 76 = .ok (.aload_n 0, 1) := by decide +kernel
theorem dX8_count_77 : decode cX8_count 77 = .ok (.getfield 29, 3) := by decide +kernel
theorem dX8_count_80 : decode cX8_count 80 = .ok (.getfield 75, 3) := by decide +kernel
theorem dX8_count_83 : decode cX8_count 83 = .ok (.ireturn, 1) := by decide +kernel
theorem dX8_count_84 : decode cX8_count 84 = .ok (.aload_n 0, 1) := by decide +kernel
theorem dX8_count_85 : decode cX8_count 85 = .ok (.getfield 10, 3) := by decide +kernel
theorem dX8_count_88 : decode cX8_count 88 = .ok (.getfield 78, 3) := by decide +kernel
theorem dX8_count_91 : decode cX8_count 91 = .ok (.ireturn, 1) := by decide +kernel
theorem dX8_count_92 : decode cX8_count 92 = .ok (.aload_n 0, 1) := by decide +kernel
theorem dX8_count_93 : decode cX8_count 93 = .ok (.getfield 29, 3) := by decide +kernel
theorem dX8_count_96 : decode cX8_count 96 = .ok (.getfield 81, 3) := by decide +kernel
theorem dX8_count_99 : decode cX8_count 99 = .ok (.ireturn, 1) := by decide +kernel
theorem dX8_count_100 : decode cX8_count 100 = .ok (.bipush (-2), 2) := by decide +kernel
theorem dX8_count_102 : decode cX8_count 102 = .ok (.ireturn, 1) := by decide +kernel
theorem dX8_feed_0 : decode cX8_feed 0 = .ok (.iload_n 1, 1) := by decide +kernel
theorem dX8_feed_1 : decode cX8_feed 1 = .ok (.iconst 1, 1) := by decide +kernel
theorem dX8_feed_2 : decode cX8_feed 2 = .ok (.if_icmp .lt 46, 3) := by decide +kernel
theorem dX8_feed_5 : decode cX8_feed 5 = .ok (.iload_n 1, 1) := by decide +kernel
theorem dX8_feed_6 : decode cX8_feed 6 = .ok (.iconst 5, 1) := by decide +kernel
theorem dX8_feed_7 : decode cX8_feed 7 = .ok (.if_icmp .gt 41, 3) := by decide +kernel
theorem dX8_feed_10 : decode cX8_feed 10 = .ok (.iload_n 2, 1) := by decide +kernel
theorem dX8_feed_11 : decode cX8_feed 11 = .ok (.invokestatic 84, 3) := by decide +kernel
theorem dX8_feed_14 : decode cX8_feed 14 = .ok (.ifCond .eq 34, 3) := by decide +kernel
theorem dX8_feed_17 : decode cX8_feed 17 = .ok (.iload_n 3, 1) := by decide +kernel
theorem dX8_feed_18 : decode cX8_feed 18 = .ok (.invokestatic 84, 3) := by decide +kernel
theorem dX8_feed_21 : decode cX8_feed 21 = .ok (.ifCond .eq 27, 3) := by decide +kernel
theorem dX8_feed_24 : decode cX8_feed 24 = .ok (.iload 4, 2) := by decide +kernel
theorem dX8_feed_26 : decode cX8_feed 26 = .ok (.invokestatic 84, 3) := by decide +kernel
theorem dX8_feed_29 : decode cX8_feed 29 = .ok (.ifCond .eq 19, 3) := by decide +kernel
theorem dX8_feed_32 : decode cX8_feed 32 = .ok (.iload 5, 2) := by decide +kernel
theorem dX8_feed_34 : decode cX8_feed 34 = .ok (.invokestatic 84, 3) := by decide +kernel
theorem dX8_feed_37 : decode cX8_feed 37 = .ok (.ifCond .eq 11, 3) := by decide +kernel
theorem dX8_feed_40 : decode cX8_feed 40 = .ok (.iload 6, 2) := by decide +kernel
theorem dX8_feed_42 : decode cX8_feed 42 = .ok (.invokestatic 84, 3) := by decide +kernel
theorem dX8_feed_45 : decode cX8_feed 45 = .ok (.ifCond .ne 6, 3) := by decide +kernel
theorem dX8_feed_48 : decode cX8_feed 48 = .ok (.bipush (-2), 2) := by decide +kernel
theorem dX8_feed_50 : decode cX8_feed 50 = .ok (.ireturn, 1) := by decide +kernel
theorem dX8_feed_51 : decode cX8_feed 51 = .ok (.aload_n 0, 1) := by decide +kernel
theorem dX8_feed_52 : decode cX8_feed 52 = .ok (.getfield 29, 3) := by decide +kernel
theorem dX8_feed_55 : decode cX8_feed 55 = .ok (.getfield 81, 3) := by decide +kernel
theorem dX8_feed_58 : decode cX8_feed 58 = .ok (.iload_n 1, 1) := by decide +kernel
theorem dX8_feed_59 : decode cX8_feed 59 = .ok (.iadd, 1) := by decide +kernel
theorem dX8_feed_60 : decode cX8_feed 60 = .ok (.sipush 160, 3) := by decide +kernel
theorem dX8_feed_63 : decode cX8_feed 63 = .ok (.if_icmp .le 6, 3) := by decide +kernel
theorem dX8_feed_66 : decode cX8_feed 66 = .ok (.bipush (-4), 2) := by decide +kernel
theorem dX8_feed_68 : decode cX8_feed 68 = .ok (.ireturn, 1) := by decide +kernel
theorem dX8_feed_69 : decode cX8_feed 69 = .ok (.aload_n 0, 1) := by decide +kernel
theorem dX8_feed_70 : decode cX8_feed 70 = .ok (.getfield 29, 3) := by decide +kernel
theorem dX8_feed_73 : decode cX8_feed 73 = .ok (.iload_n 2, 1) := by decide +kernel
theorem dX8_feed_74 : decode cX8_feed 74 = .ok (.invokevirtual 88, 3) := by decide +kernel
theorem dX8_feed_77 : decode cX8_feed 77 = .ok (.iload_n 1, 1) := by decide +kernel
theorem dX8_feed_78 : decode cX8_feed 78 = .ok (.iconst 1, 1) := by decide +kernel
theorem dX8_feed_79 : decode cX8_feed 79 = .ok (.if_icmp .le 11, 3) := by decide +kernel
theorem dX8_feed_82 : decode cX8_feed 82 = .ok (.aload_n 0, 1) := by decide +kernel
theorem dX8_feed_83 : decode cX8_feed 83 = .ok (.getfield 29, 3) := by decide +kernel
theorem dX8_feed_86 : decode cX8_feed 86 = .ok (.iload_n 3, 1) := by decide +kernel
theorem dX8_feed_87 : decode cX8_feed 87 = .ok (.invokevirtual 88, 3) := by decide +kernel
theorem dX8_feed_90 : decode cX8_feed 90 = .ok (.iload_n 1, 1) := by decide +kernel
theorem dX8_feed_91 : decode cX8_feed 91 = .ok (.iconst 2, 1) := by decide +kernel
theorem dX8_feed_92 : decode cX8_feed 92 = .ok (.if_icmp .le 12, 3) := by decide +kernel
theorem dX8_feed_95 : decode cX8_feed 95 = .ok (.aload_n 0, 1) := by decide +kernel
theorem dX8_feed_96 : decode cX8_feed 96 = .ok (.getfield 29, 3) := by decide +kernel
theorem dX8_feed_99 : decode cX8_feed 99 = .ok (.iload 4, 2) := by decide +kernel
theorem dX8_feed_101 : decode cX8_feed 101 = .ok (.invokevirtual 88, 3) := by decide +kernel
theorem dX8_feed_104 : decode cX8_feed 104 = .ok (.iload_n 1, 1) := by decide +kernel
theorem dX8_feed_105 : decode cX8_feed 105 = .ok (.iconst 3, 1) := by decide +kernel
theorem dX8_feed_106 : decode cX8_feed 106 = .ok (.if_icmp .le 12, 3) := by decide +kernel
theorem dX8_feed_109 : decode cX8_feed 109 = .ok (.aload_n 0, 1) := by decide +kernel
theorem dX8_feed_110 : decode cX8_feed 110 = .ok (.getfield 29, 3) := by decide +kernel
theorem dX8_feed_113 : decode cX8_feed 113 = .ok (.iload 5, 2) := by decide +kernel
theorem dX8_feed_115 : decode cX8_feed 115 = .ok (.invokevirtual 88, 3) := by decide +kernel
theorem dX8_feed_118 : decode cX8_feed 118 = .ok (.iload_n 1, 1) := by decide +kernel
theorem dX8_feed_119 : decode cX8_feed 119 = .ok (.iconst 4, 1) := by decide +kernel
theorem dX8_feed_120 : decode cX8_feed 120 = .ok (.if_icmp .le 12, 3) := by decide +kernel
theorem dX8_feed_123 : decode cX8_feed 123 = .ok (.aload_n 0, 1) := by decide +kernel
theorem dX8_feed_124 : decode cX8_feed 124 = .ok (.getfield 29, 3) := by decide +kernel
theorem dX8_feed_127 : decode cX8_feed 127 = .ok (.iload 6, 2) := by decide +kernel
theorem dX8_feed_129 : decode cX8_feed 129 = .ok (.invokevirtual 88, 3) := by decide +kernel
theorem dX8_feed_132 : decode cX8_feed 132 = .ok (.aload_n 0, 1) := by decide +kernel
theorem dX8_feed_133 : decode cX8_feed 133 = .ok (.getfield 29, 3) := by decide +kernel
theorem dX8_feed_136 : decode cX8_feed 136 = .ok (.getfield 81, 3) := by decide +kernel
theorem dX8_feed_139 : decode cX8_feed 139 = .ok (.ireturn, 1) := by decide +kernel
theorem dX8_isByte_0 : decode cX8_isByte 0 = .ok (.iload_n 0, 1) := by decide +kernel
theorem dX8_isByte_1 : decode cX8_isByte 1 = .ok (.ifCond .lt 14, 3) := by decide +kernel
theorem dX8_isByte_4 : decode cX8_isByte 4 = .ok (.iload_n 0, 1) := by decide +kernel
theorem dX8_isByte_5 : decode cX8_isByte 5 = .ok (.sipush 255, 3) := by decide +kernel
theorem dX8_isByte_8 : decode cX8_isByte 8 = .ok (.if_icmp .gt 7, 3) := by decide +kernel
theorem dX8_isByte_11 : decode cX8_isByte 11 = .ok (.iconst 1, 1) := by decide +kernel
theorem dX8_isByte_12 : decode cX8_isByte 12 = .ok (.goto 4, 3) := by decide +kernel
theorem dX8_isByte_15 : decode cX8_isByte 15 = .ok (.iconst 0, 1) := by decide +kernel
theorem dX8_isByte_16 : decode cX8_isByte 16 = .ok (.ireturn, 1) := by decide +kernel
theorem dX8_text_0 : decode cX8_text 0 = .ok (.aload_n 0, 1) := by decide +kernel
theorem dX8_text_1 : decode cX8_text 1 = .ok (.getfield 29, 3) := by decide +kernel
theorem dX8_text_4 : decode cX8_text 4 = .ok (.getfield 75, 3) := by decide +kernel
theorem dX8_text_7 : decode cX8_text 7 = .ok (.bipush 6, 2) := by decide +kernel
theorem dX8_text_9 : decode cX8_text 9 = .ok (.if_icmp .lt 6, 3) := by decide +kernel
theorem dX8_text_12 : decode cX8_text 12 = .ok (.bipush (-4), 2) := by decide +kernel
theorem dX8_text_14 : decode cX8_text 14 = .ok (.ireturn, 1) := by decide +kernel
theorem dX8_text_15 : decode cX8_text 15 = .ok (.aload_n 0, 1) := by decide +kernel
theorem dX8_text_16 : decode cX8_text 16 = .ok (.getfield 29, 3) := by decide +kernel
theorem dX8_text_19 : decode cX8_text 19 = .ok (.invokevirtual 92, 3) := by decide +kernel
theorem dX8_text_22 : decode cX8_text 22 = .ok (.istore_n 1, 1) := by decide +kernel
theorem dX8_text_23 : decode cX8_text 23 = .ok (.iload_n 1, 1) := by decide +kernel
theorem dX8_text_24 : decode cX8_text 24 = .ok (.ifCond .lt 10, 3) := by decide +kernel
theorem dX8_text_27 : decode cX8_text 27 = .ok (.bipush (-100), 2) := by decide +kernel
theorem dX8_text_29 : decode cX8_text 29 = .ok (.iload_n 1, 1) := by decide +kernel
theorem dX8_text_30 : decode cX8_text 30 = .ok (.isub, 1) := by decide +kernel
theorem dX8_text_31 : decode cX8_text 31 = .ok (.goto 12, 3) := by decide +kernel
theorem dX8_text_34 : decode cX8_text 34 = .ok (.aload_n 0, 1) := by decide +kernel
theorem dX8_text_35 : decode cX8_text 35 = .ok (.getfield 29, 3) := by decide +kernel
theorem dX8_text_38 : decode cX8_text 38 = .ok (.getfield 75, 3) := by decide +kernel
theorem dX8_text_41 : decode cX8_text 41 = .ok (.iconst 1, 1) := by decide +kernel
theorem dX8_text_42 : decode cX8_text 42 = .ok (.isub, 1) := by decide +kernel
theorem dX8_text_43 : decode cX8_text 43 = .ok (.ireturn, 1) := by decide +kernel
theorem dX8_force_0 : decode cX8_force 0 = .ok (.iload_n 1, 1) := by decide +kernel
theorem dX8_force_1 : decode cX8_force 1 = .ok (.ifCond .lt 14, 3) := by decide +kernel
theorem dX8_force_4 : decode cX8_force 4 = .ok (.iload_n 1, 1) := by decide +kernel
theorem dX8_force_5 : decode cX8_force 5 = .ok (.aload_n 0, 1) := by decide +kernel
theorem dX8_force_6 : decode cX8_force 6 = .ok (.getfield 29, 3) := by decide +kernel
theorem dX8_force_9 : decode cX8_force 9 = .ok (.getfield 75, 3) := by decide +kernel
theorem dX8_force_12 : decode cX8_force 12 = .ok (.if_icmp .lt 6, 3) := by decide +kernel
theorem dX8_force_15 : decode cX8_force 15 = .ok (.bipush (-2), 2) := by decide +kernel
theorem dX8_force_17 : decode cX8_force 17 = .ok (.ireturn, 1) := by decide +kernel
theorem dX8_force_18 : decode cX8_force 18 = .ok (.aload_n 0, 1) := by decide +kernel
theorem dX8_force_19 : decode cX8_force 19 = .ok (.getfield 10, 3) := by decide +kernel
theorem dX8_force_22 : decode cX8_force 22 = .ok (.getfield 78, 3) := by decide +kernel
theorem dX8_force_25 : decode cX8_force 25 = .ok (.istore_n 2, 1) := by decide +kernel
theorem dX8_force_26 : decode cX8_force 26 = .ok (.aload_n 0, 1) := by decide +kernel
theorem dX8_force_27 : decode cX8_force 27 = .ok (.getfield 10, 3) := by decide +kernel
theorem dX8_force_30 : decode cX8_force 30 = .ok (.iload_n 1, 1) := by decide +kernel
theorem dX8_force_31 : decode cX8_force 31 = .ok (.putfield 78, 3) := by decide +kernel
theorem dX8_force_34 : decode cX8_force 34 = .ok (.iload_n 2, 1) := by decide +kernel
theorem dX8_force_35 : decode cX8_force 35 = .ok (.ireturn, 1) := by decide +kernel
theorem dX8_asks_0 : decode cX8_asks 0 = .ok (.aload_n 0, 1) := by decide +kernel
theorem dX8_asks_1 : decode cX8_asks 1 = .ok (.getfield 10, 3) := by decide +kernel
theorem dX8_asks_4 : decode cX8_asks 4 = .ok (.iload_n 2, 1) := by decide +kernel
theorem dX8_asks_5 : decode cX8_asks 5 = .ok (.invokevirtual 95, 3) := by decide +kernel
theorem dX8_asks_8 : decode cX8_asks 8 = .ok (.ifCond .ne 6, 3) := by decide +kernel
theorem dX8_asks_11 : decode cX8_asks 11 = .ok (.bipush (-5), 2) := by decide +kernel
theorem dX8_asks_13 : decode cX8_asks 13 = .ok (.ireturn, 1) := by decide +kernel
theorem dX8_asks_14 : decode cX8_asks 14 = .ok (.iload_n 1, 1) := by decide +kernel
theorem dX8_asks_15 : decode cX8_asks 15 = .ok (.ifCond .lt 27, 3) := by decide +kernel
theorem dX8_asks_18 : decode cX8_asks 18 = .ok (.iload_n 1, 1) := by decide +kernel
theorem dX8_asks_19 : decode cX8_asks 19 = .ok (.iconst 2, 1) := by decide +kernel
theorem dX8_asks_20 : decode cX8_asks 20 = .ok (.if_icmp .gt 22, 3) := by decide +kernel
theorem dX8_asks_23 : decode cX8_asks 23 = .ok (.iload_n 3, 1) := by decide +kernel
theorem dX8_asks_24 : decode cX8_asks 24 = .ok (.invokestatic 98, 3) := by decide +kernel
theorem dX8_asks_27 : decode cX8_asks 27 = .ok (.ifCond .eq 15, 3) := by decide +kernel
theorem dX8_asks_30 : decode cX8_asks 30 = .ok (.iload 4, 2) := by decide +kernel
theorem dX8_asks_32 : decode cX8_asks 32 = .ok (.ifCond .lt 10, 3) := by decide +kernel
theorem dX8_asks_35 : decode cX8_asks 35 = .ok (.iload 4, 2) := by decide +kernel
theorem dX8_asks_37 : decode cX8_asks 37 = .ok (.bipush 7, 2) := by decide +kernel
theorem dX8_asks_39 : decode cX8_asks 39 = .ok (.if_icmp .le 6, 3) := by decide +kernel
theorem dX8_asks_42 : decode cX8_asks 42 = .ok (.bipush (-7), 2) := by decide +kernel
theorem dX8_asks_44 : decode cX8_asks 44 = .ok (.ireturn, 1) := by decide +kernel
theorem dX8_asks_45 : decode cX8_asks 45 = .ok (.aload_n 0, 1) := by decide +kernel
theorem dX8_asks_46 : decode cX8_asks 46 = .ok (.getfield 29, 3) := by decide +kernel
theorem dX8_asks_49 : decode cX8_asks 49 = .ok (.iload_n 1, 1) := by decide +kernel
theorem dX8_asks_50 : decode cX8_asks 50 = .ok (.aload_n 0, 1) := by decide +kernel
theorem dX8_asks_51 : decode cX8_asks 51 = .ok (.getfield 10, 3) := by decide +kernel
theorem dX8_asks_54 : decode cX8_asks 54 = .ok (.iload_n 2, 1) := by decide +kernel
theorem dX8_asks_55 : decode cX8_asks 55 = .ok (.iload_n 3, 1) := by decide +kernel
theorem dX8_asks_56 : decode cX8_asks 56 = .ok (.iload 4, 2) := by decide +kernel
theorem dX8_asks_58 : decode cX8_asks 58 = .ok (.invokevirtual 101, 3) := by decide +kernel
theorem dX8_asks_61 : decode cX8_asks 61 = .ok (.ireturn, 1) := by decide +kernel
theorem dX8_isColour_0 : decode cX8_isColour 0 = .ok (.iload_n 0, 1) := by decide +kernel
theorem dX8_isColour_1 : decode cX8_isColour 1 = .ok (.ifCond .lt 13, 3) := by decide +kernel
theorem dX8_isColour_4 : decode cX8_isColour 4 = .ok (.iload_n 0, 1) := by decide +kernel
theorem dX8_isColour_5 : decode cX8_isColour 5 = .ok (.bipush 11, 2) := by decide +kernel
theorem dX8_isColour_7 : decode cX8_isColour 7 = .ok (.if_icmp .gt 7, 3) := by decide +kernel
theorem dX8_isColour_10 : decode cX8_isColour 10 = .ok (.iconst 1, 1) := by decide +kernel
theorem dX8_isColour_11 : decode cX8_isColour 11 = .ok (.goto 4, 3) := by decide +kernel
theorem dX8_isColour_14 : decode cX8_isColour 14 = .ok (.iconst 0, 1) := by decide +kernel
theorem dX8_isColour_15 : decode cX8_isColour 15 = .ok (.ireturn, 1) := by decide +kernel
theorem dX8_lot_0 : decode cX8_lot 0 = .ok (.aload_n 0, 1) := by decide +kernel
theorem dX8_lot_1 : decode cX8_lot 1 = .ok (.getfield 10, 3) := by decide +kernel
theorem dX8_lot_4 : decode cX8_lot 4 = .ok (.iload_n 1, 1) := by decide +kernel
theorem dX8_lot_5 : decode cX8_lot 5 = .ok (.iload_n 2, 1) := by decide +kernel
theorem dX8_lot_6 : decode cX8_lot 6 = .ok (.iload_n 3, 1) := by decide +kernel
theorem dX8_lot_7 : decode cX8_lot 7 = .ok (.invokevirtual 105, 3) := by decide +kernel
theorem dX8_lot_10 : decode cX8_lot 10 = .ok (.ifCond .ne 6, 3) := by decide +kernel
theorem dX8_lot_13 : decode cX8_lot 13 = .ok (.bipush (-2), 2) := by decide +kernel
theorem dX8_lot_15 : decode cX8_lot 15 = .ok (.ireturn, 1) := by decide +kernel
theorem dX8_lot_16 : decode cX8_lot 16 = .ok (.aload_n 0, 1) := by decide +kernel
theorem dX8_lot_17 : decode cX8_lot 17 = .ok (.getfield 10, 3) := by decide +kernel
theorem dX8_lot_20 : decode cX8_lot 20 = .ok (.getfield 61, 3) := by decide +kernel
theorem dX8_lot_23 : decode cX8_lot 23 = .ok (.bipush 7, 2) := by decide +kernel
theorem dX8_lot_25 : decode cX8_lot 25 = .ok (.if_icmp .lt 6, 3) := by decide +kernel
theorem dX8_lot_28 : decode cX8_lot 28 = .ok (.bipush (-4), 2) := by decide +kernel
theorem dX8_lot_30 : decode cX8_lot 30 = .ok (.ireturn, 1) := by decide +kernel
theorem dX8_lot_31 : decode cX8_lot 31 = .ok (.aload_n 0, 1) := by decide +kernel
theorem dX8_lot_32 : decode cX8_lot 32 = .ok (.getfield 10, 3) := by decide +kernel
theorem dX8_lot_35 : decode cX8_lot 35 = .ok (.iload_n 1, 1) := by decide +kernel
theorem dX8_lot_36 : decode cX8_lot 36 = .ok (.iload_n 2, 1) := by decide +kernel
theorem dX8_lot_37 : decode cX8_lot 37 = .ok (.iload_n 3, 1) := by decide +kernel
theorem dX8_lot_38 : decode cX8_lot 38 = .ok (.invokevirtual 109, 3) := by decide +kernel
theorem dX8_lot_41 : decode cX8_lot 41 = .ok (.ireturn, 1) := by decide +kernel
theorem dX8_told_0 : decode cX8_told 0 = .ok (.aload_n 0, 1) := by decide +kernel
theorem dX8_told_1 : decode cX8_told 1 = .ok (.getfield 10, 3) := by decide +kernel
theorem dX8_told_4 : decode cX8_told 4 = .ok (.iload_n 1, 1) := by decide +kernel
theorem dX8_told_5 : decode cX8_told 5 = .ok (.invokevirtual 95, 3) := by decide +kernel
theorem dX8_told_8 : decode cX8_told 8 = .ok (.ifCond .ne 6, 3) := by decide +kernel
theorem dX8_told_11 : decode cX8_told 11 = .ok (.bipush (-5), 2) := by decide +kernel
theorem dX8_told_13 : decode cX8_told 13 = .ok (.ireturn, 1) := by decide +kernel
theorem dX8_told_14 : decode cX8_told 14 = .ok (.iload_n 2, 1) := by decide +kernel
theorem dX8_told_15 : decode cX8_told 15 = .ok (.tableswitch 97 0 4 #[33, 43, 53, 63, 72], 33) := by decide +kernel
theorem dX8_told_48 : decode cX8_told 48 = .ok (.aload_n 0, 1) := by decide +kernel
theorem dX8_told_49 : decode cX8_told 49 = .ok (.getfield 10, 3) := by decide +kernel
theorem dX8_told_52 : decode cX8_told 52 = .ok (.getfield 113, 3) := by decide +kernel
theorem dX8_told_55 : decode cX8_told 55 = .ok (.iload_n 1, 1) := by decide +kernel
theorem dX8_told_56 : decode cX8_told 56 = .ok (.iaload, 1) := by decide +kernel
theorem dX8_told_57 : decode cX8_told 57 = .ok (.ireturn, 1) := by decide +kernel
theorem dX8_told_58 : decode cX8_told 58 = .ok (.aload_n 0, 1) := by decide +kernel
theorem dX8_told_59 : decode cX8_told 59 = .ok (.getfield 10, 3) := by decide +kernel
theorem dX8_told_62 : decode cX8_told 62 = .ok (.getfield 117, 3) := by decide +kernel
theorem dX8_told_65 : decode cX8_told 65 = .ok (.iload_n 1, 1) := by decide +kernel
theorem dX8_told_66 : decode cX8_told 66 = .ok (.iaload, 1) := by decide +kernel
theorem dX8_told_67 : decode cX8_told 67 = .ok (.ireturn, 1) := by decide +kernel
theorem dX8_told_68 : decode cX8_told 68 = .ok (.aload_n 0, 1) := by decide +kernel
theorem dX8_told_69 : decode cX8_told 69 = .ok (.getfield 10, 3) := by decide +kernel
theorem dX8_told_72 : decode cX8_told 72 = .ok (.getfield 120, 3) := by decide +kernel
theorem dX8_told_75 : decode cX8_told 75 = .ok (.iload_n 1, 1) := by decide +kernel
theorem dX8_told_76 : decode cX8_told 76 = .ok (.iaload, 1) := by decide +kernel
theorem dX8_told_77 : decode cX8_told 77 = .ok (.ireturn, 1) := by decide +kernel
theorem dX8_told_78 : decode cX8_told 78 = .ok (.aload_n 0, 1) := by decide +kernel
theorem dX8_told_79 : decode cX8_told 79 = .ok (.getfield 10, 3) := by decide +kernel
theorem dX8_told_82 : decode cX8_told 82 = .ok (.iload_n 1, 1) := by decide +kernel
theorem dX8_told_83 : decode cX8_told 83 = .ok (.invokevirtual 123, 3) := by decide +kernel
theorem dX8_told_86 : decode cX8_told 86 = .ok (.ireturn, 1) := by decide +kernel
theorem dX8_told_87 : decode cX8_told 87 = .ok (.aload_n 0, 1) := by decide +kernel
theorem dX8_told_88 : decode cX8_told 88 = .ok (.getfield 10, 3) := by decide +kernel
theorem dX8_told_91 : decode cX8_told 91 = .ok (.iload_n 1, 1) := by decide +kernel
theorem dX8_told_92 : decode cX8_told 92 = .ok (.invokevirtual 127, 3) := by decide +kernel
theorem dX8_told_95 : decode cX8_told 95 = .ok (.ifCond .eq 15, 3) := by decide +kernel
theorem dX8_told_98 : decode cX8_told 98 = .ok (.aload_n 0, 1) := by decide +kernel
theorem dX8_told_99 : decode cX8_told 99 = .ok (.getfield 10, 3) := by decide +kernel
theorem dX8_told_102 : decode cX8_told 102 = .ok (.getfield 130, 3) := by decide +kernel
theorem dX8_told_105 : decode cX8_told 105 = .ok (.iload_n 1, 1) := by decide +kernel
theorem dX8_told_106 : decode cX8_told 106 = .ok (.iaload, 1) := by decide +kernel
theorem dX8_told_107 : decode cX8_told 107 = .ok (.goto 4, 3) := by decide +kernel
theorem dX8_told_110 : decode cX8_told 110 = .ok (.iconst (-1), 1) := by decide +kernel
theorem dX8_told_111 : decode cX8_told 111 = .ok (.ireturn, 1) := by decide +kernel
theorem dX8_told_112 : decode cX8_told 112 = .ok (.bipush (-7), 2) := by decide +kernel
theorem dX8_told_114 : decode cX8_told 114 = .ok (.ireturn, 1) := by decide +kernel
theorem dX8_build_0 : decode cX8_build 0 = .ok (.aload_n 0, 1) := by decide +kernel
theorem dX8_build_1 : decode cX8_build 1 = .ok (.getfield 10, 3) := by decide +kernel
theorem dX8_build_4 : decode cX8_build 4 = .ok (.iload_n 1, 1) := by decide +kernel
theorem dX8_build_5 : decode cX8_build 5 = .ok (.invokevirtual 95, 3) := by decide +kernel
theorem dX8_build_8 : decode cX8_build 8 = .ok (.ifCond .ne 6, 3) := by decide +kernel
theorem dX8_build_11 : decode cX8_build 11 = .ok (.bipush (-5), 2) := by decide +kernel
theorem dX8_build_13 : decode cX8_build 13 = .ok (.ireturn, 1) := by decide +kernel
theorem dX8_build_14 : decode cX8_build 14 = .ok (.aload_n 0, 1) := by decide +kernel
theorem dX8_build_15 : decode cX8_build 15 = .ok (.getfield 10, 3) := by decide +kernel
theorem dX8_build_18 : decode cX8_build 18 = .ok (.iload_n 1, 1) := by decide +kernel
theorem dX8_build_19 : decode cX8_build 19 = .ok (.invokevirtual 127, 3) := by decide +kernel
theorem dX8_build_22 : decode cX8_build 22 = .ok (.ifCond .eq 6, 3) := by decide +kernel
theorem dX8_build_25 : decode cX8_build 25 = .ok (.bipush (-3), 2) := by decide +kernel
theorem dX8_build_27 : decode cX8_build 27 = .ok (.ireturn, 1) := by decide +kernel
theorem dX8_build_28 : decode cX8_build 28 = .ok (.aload_n 0, 1) := by decide +kernel
theorem dX8_build_29 : decode cX8_build 29 = .ok (.getfield 10, 3) := by decide +kernel
theorem dX8_build_32 : decode cX8_build 32 = .ok (.iload_n 1, 1) := by decide +kernel
theorem dX8_build_33 : decode cX8_build 33 = .ok (.invokevirtual 133, 3) := by decide +kernel
theorem dX8_build_36 : decode cX8_build 36 = .ok (.ireturn, 1) := by decide +kernel
theorem dX8_would_0 : decode cX8_would 0 = .ok (.aload_n 0, 1) := by decide +kernel
theorem dX8_would_1 : decode cX8_would 1 = .ok (.getfield 10, 3) := by decide +kernel
theorem dX8_would_4 : decode cX8_would 4 = .ok (.iload_n 1, 1) := by decide +kernel
theorem dX8_would_5 : decode cX8_would 5 = .ok (.invokevirtual 95, 3) := by decide +kernel
theorem dX8_would_8 : decode cX8_would 8 = .ok (.ifCond .eq 14, 3) := by decide +kernel
theorem dX8_would_11 : decode cX8_would 11 = .ok (.aload_n 0, 1) := by decide +kernel
theorem dX8_would_12 : decode cX8_would 12 = .ok (.getfield 10, 3) := by decide +kernel
theorem dX8_would_15 : decode cX8_would 15 = .ok (.iload_n 1, 1) := by decide +kernel
theorem dX8_would_16 : decode cX8_would 16 = .ok (.invokevirtual 136, 3) := by decide +kernel
theorem dX8_would_19 : decode cX8_would 19 = .ok (.goto 5, 3) := by decide +kernel
theorem dX8_would_22 : decode cX8_would 22 = .ok (.bipush (-5), 2) := by decide +kernel
theorem dX8_would_24 : decode cX8_would 24 = .ok (.ireturn, 1) := by decide +kernel
theorem dX8_pull_0 : decode cX8_pull 0 = .ok (.aload_n 0, 1) := by decide +kernel
theorem dX8_pull_1 : decode cX8_pull 1 = .ok (.getfield 10, 3) := by decide +kernel
theorem dX8_pull_4 : decode cX8_pull 4 = .ok (.iload_n 1, 1) := by decide +kernel
theorem dX8_pull_5 : decode cX8_pull 5 = .ok (.invokevirtual 95, 3) := by decide +kernel
theorem dX8_pull_8 : decode cX8_pull 8 = .ok (.ifCond .ne 6, 3) := by decide +kernel
theorem dX8_pull_11 : decode cX8_pull 11 = .ok (.bipush (-5), 2) := by decide +kernel
theorem dX8_pull_13 : decode cX8_pull 13 = .ok (.ireturn, 1) := by decide +kernel
theorem dX8_pull_14 : decode cX8_pull 14 = .ok (.aload_n 0, 1) := by decide +kernel
theorem dX8_pull_15 : decode cX8_pull 15 = .ok (.getfield 10, 3) := by decide +kernel
theorem dX8_pull_18 : decode cX8_pull 18 = .ok (.iload_n 1, 1) := by decide +kernel
theorem dX8_pull_19 : decode cX8_pull 19 = .ok (.invokevirtual 127, 3) := by decide +kernel
theorem dX8_pull_22 : decode cX8_pull 22 = .ok (.ifCond .ne 6, 3) := by decide +kernel
theorem dX8_pull_25 : decode cX8_pull 25 = .ok (.bipush (-3), 2) := by decide +kernel
theorem dX8_pull_27 : decode cX8_pull 27 = .ok (.ireturn, 1) := by decide +kernel
theorem dX8_pull_28 : decode cX8_pull 28 = .ok (.aload_n 0, 1) := by decide +kernel
theorem dX8_pull_29 : decode cX8_pull 29 = .ok (.getfield 10, 3) := by decide +kernel
theorem dX8_pull_32 : decode cX8_pull 32 = .ok (.iload_n 1, 1) := by decide +kernel
theorem dX8_pull_33 : decode cX8_pull 33 = .ok (.invokevirtual 123, 3) := by decide +kernel
theorem dX8_pull_36 : decode cX8_pull 36 = .ok (.istore_n 2, 1) := by decide +kernel
theorem dX8_pull_37 : decode cX8_pull 37 = .ok (.aload_n 0, 1) := by decide +kernel
theorem dX8_pull_38 : decode cX8_pull 38 = .ok (.getfield 10, 3) := by decide +kernel
theorem dX8_pull_41 : decode cX8_pull 41 = .ok (.iload_n 1, 1) := by decide +kernel
theorem dX8_pull_42 : decode cX8_pull 42 = .ok (.invokevirtual 139, 3) := by decide +kernel
theorem dX8_pull_45 : decode cX8_pull 45 = .ok (.iload_n 2, 1) := by decide +kernel
theorem dX8_pull_46 : decode cX8_pull 46 = .ok (.ireturn, 1) := by decide +kernel
theorem dX8_paint_0 : decode cX8_paint 0 = .ok (.aload_n 0, 1) := by decide +kernel
theorem dX8_paint_1 : decode cX8_paint 1 = .ok (.getfield 10, 3) := by decide +kernel
theorem dX8_paint_4 : decode cX8_paint 4 = .ok (.iload_n 1, 1) := by decide +kernel
theorem dX8_paint_5 : decode cX8_paint 5 = .ok (.invokevirtual 95, 3) := by decide +kernel
theorem dX8_paint_8 : decode cX8_paint 8 = .ok (.ifCond .ne 6, 3) := by decide +kernel
theorem dX8_paint_11 : decode cX8_paint 11 = .ok (.bipush (-5), 2) := by decide +kernel
theorem dX8_paint_13 : decode cX8_paint 13 = .ok (.ireturn, 1) := by decide +kernel
theorem dX8_paint_14 : decode cX8_paint 14 = .ok (.iload_n 2, 1) := by decide +kernel
theorem dX8_paint_15 : decode cX8_paint 15 = .ok (.invokestatic 98, 3) := by decide +kernel
theorem dX8_paint_18 : decode cX8_paint 18 = .ok (.ifCond .ne 6, 3) := by decide +kernel
theorem dX8_paint_21 : decode cX8_paint 21 = .ok (.bipush (-7), 2) := by decide +kernel
theorem dX8_paint_23 : decode cX8_paint 23 = .ok (.ireturn, 1) := by decide +kernel
theorem dX8_paint_24 : decode cX8_paint 24 = .ok (.aload_n 0, 1) := by decide +kernel
theorem dX8_paint_25 : decode cX8_paint 25 = .ok (.getfield 10, 3) := by decide +kernel
theorem dX8_paint_28 : decode cX8_paint 28 = .ok (.iload_n 1, 1) := by decide +kernel
theorem dX8_paint_29 : decode cX8_paint 29 = .ok (.invokevirtual 123, 3) := by decide +kernel
theorem dX8_paint_32 : decode cX8_paint 32 = .ok (.istore_n 3, 1) := by decide +kernel
theorem dX8_paint_33 : decode cX8_paint 33 = .ok (.aload_n 0, 1) := by decide +kernel
theorem dX8_paint_34 : decode cX8_paint 34 = .ok (.getfield 10, 3) := by decide +kernel
theorem dX8_paint_37 : decode cX8_paint 37 = .ok (.iload_n 1, 1) := by decide +kernel
theorem dX8_paint_38 : decode cX8_paint 38 = .ok (.invokevirtual 127, 3) := by decide +kernel
theorem dX8_paint_41 : decode cX8_paint 41 = .ok (.ifCond .eq 16, 3) := by decide +kernel
theorem dX8_paint_44 : decode cX8_paint 44 = .ok (.aload_n 0, 1) := by decide +kernel
theorem dX8_paint_45 : decode cX8_paint 45 = .ok (.getfield 10, 3) := by decide +kernel
theorem dX8_paint_48 : decode cX8_paint 48 = .ok (.getfield 142, 3) := by decide +kernel
theorem dX8_paint_51 : decode cX8_paint 51 = .ok (.iload_n 1, 1) := by decide +kernel
theorem dX8_paint_52 : decode cX8_paint 52 = .ok (.iload_n 2, 1) := by decide +kernel
theorem dX8_paint_53 : decode cX8_paint 53 = .ok (.iastore, 1) := by decide +kernel
theorem dX8_paint_54 : decode cX8_paint 54 = .ok (.goto 12, 3) := by decide +kernel
theorem dX8_paint_57 : decode cX8_paint 57 = .ok (.aload_n 0, 1) := by decide +kernel
theorem dX8_paint_58 : decode cX8_paint 58 = .ok (.getfield 10, 3) := by decide +kernel
theorem dX8_paint_61 : decode cX8_paint 61 = .ok (.iload_n 1, 1) := by decide +kernel
theorem dX8_paint_62 : decode cX8_paint 62 = .ok (.iload_n 2, 1) := by decide +kernel
theorem dX8_paint_63 : decode cX8_paint 63 = .ok (.invokevirtual 145, 3) := by decide +kernel
theorem dX8_paint_66 : decode cX8_paint 66 = .ok (.iload_n 3, 1) := by decide +kernel
theorem dX8_paint_67 : decode cX8_paint 67 = .ok (.ireturn, 1) := by decide +kernel
theorem dX8_lane_0 : decode cX8_lane 0 = .ok (.aload_n 0, 1) := by decide +kernel
theorem dX8_lane_1 : decode cX8_lane 1 = .ok (.iload_n 1, 1) := by decide +kernel
theorem dX8_lane_2 : decode cX8_lane 2 = .ok (.iload_n 2, 1) := by decide +kernel
theorem dX8_lane_3 : decode cX8_lane 3 = .ok (.invokevirtual 149, 3) := by decide +kernel
theorem dX8_lane_6 : decode cX8_lane 6 = .ok (.istore_n 3, 1) := by decide +kernel
theorem dX8_lane_7 : decode cX8_lane 7 = .ok (.iload_n 3, 1) := by decide +kernel
theorem dX8_lane_8 : decode cX8_lane 8 = .ok (.ifCond .eq 7, 3) := by decide +kernel
theorem dX8_lane_11 : decode cX8_lane 11 = .ok (.iload_n 3, 1) := by decide +kernel
theorem dX8_lane_12 : decode cX8_lane 12 = .ok (.goto 16, 3) := by decide +kernel
theorem dX8_lane_15 : decode cX8_lane 15 = .ok (.aload_n 0, 1) := by decide +kernel
theorem dX8_lane_16 : decode cX8_lane 16 = .ok (.getfield 10, 3) := by decide +kernel
theorem dX8_lane_19 : decode cX8_lane 19 = .ok (.aload_n 0, 1) := by decide +kernel
theorem dX8_lane_20 : decode cX8_lane 20 = .ok (.getfield 29, 3) := by decide +kernel
theorem dX8_lane_23 : decode cX8_lane 23 = .ok (.iload_n 1, 1) := by decide +kernel
theorem dX8_lane_24 : decode cX8_lane 24 = .ok (.iload_n 2, 1) := by decide +kernel
theorem dX8_lane_25 : decode cX8_lane 25 = .ok (.invokestatic 153, 3) := by decide +kernel
theorem dX8_lane_28 : decode cX8_lane 28 = .ok (.ireturn, 1) := by decide +kernel
theorem dX8_refusalOfLane_0 : decode cX8_refusalOfLane 0 = .ok (.aload_n 0, 1) := by decide +kernel
theorem dX8_refusalOfLane_1 : decode cX8_refusalOfLane 1 = .ok (.getfield 10, 3) := by decide +kernel
theorem dX8_refusalOfLane_4 : decode cX8_refusalOfLane 4 = .ok (.iload_n 1, 1) := by decide +kernel
theorem dX8_refusalOfLane_5 : decode cX8_refusalOfLane 5 = .ok (.iload_n 2, 1) := by decide +kernel
theorem dX8_refusalOfLane_6 : decode cX8_refusalOfLane 6 = .ok (.invokevirtual 159, 3) := by decide +kernel
theorem dX8_refusalOfLane_9 : decode cX8_refusalOfLane 9 = .ok (.ifCond .ne 6, 3) := by decide +kernel
theorem dX8_refusalOfLane_12 : decode cX8_refusalOfLane 12 = .ok (.bipush (-5), 2) := by decide +kernel
theorem dX8_refusalOfLane_14 : decode cX8_refusalOfLane 14 = .ok (.ireturn, 1) := by decide +kernel
theorem dX8_refusalOfLane_15 : decode cX8_refusalOfLane 15 = .ok (.aload_n 0, 1) := by decide +kernel
theorem dX8_refusalOfLane_16 : decode cX8_refusalOfLane 16 = .ok (.getfield 10, 3) := by decide +kernel
theorem dX8_refusalOfLane_19 : decode cX8_refusalOfLane 19 = .ok (.iload_n 1, 1) := by decide +kernel
theorem dX8_refusalOfLane_20 : decode cX8_refusalOfLane 20 = .ok (.iload_n 2, 1) := by decide +kernel
theorem dX8_refusalOfLane_21 : decode cX8_refusalOfLane 21 = .ok (.invokevirtual 163, 3) := by decide +kernel
theorem dX8_refusalOfLane_24 : decode cX8_refusalOfLane 24 = .ok (.ifCond .eq 8, 3) := by decide +kernel
theorem dX8_refusalOfLane_27 : decode cX8_refusalOfLane 27 = .ok (.bipush (-3), 2) := by decide +kernel
theorem dX8_refusalOfLane_29 : decode cX8_refusalOfLane 29 = .ok (.goto 4, 3) := by decide +kernel
theorem dX8_refusalOfLane_32 : decode cX8_refusalOfLane 32 = .ok (.iconst 0, 1) := by decide +kernel
theorem dX8_refusalOfLane_33 : decode cX8_refusalOfLane 33 = .ok (.ireturn, 1) := by decide +kernel
theorem dX8_close_0 : decode cX8_close 0 = .ok (.aload_n 0, 1) := by decide +kernel
theorem dX8_close_1 : decode cX8_close 1 = .ok (.getfield 10, 3) := by decide +kernel
theorem dX8_close_4 : decode cX8_close 4 = .ok (.iload_n 1, 1) := by decide +kernel
theorem dX8_close_5 : decode cX8_close 5 = .ok (.iload_n 2, 1) := by decide +kernel
theorem dX8_close_6 : decode cX8_close 6 = .ok (.invokevirtual 159, 3) := by decide +kernel
theorem dX8_close_9 : decode cX8_close 9 = .ok (.ifCond .ne 6, 3) := by decide +kernel
theorem dX8_close_12 : decode cX8_close 12 = .ok (.bipush (-5), 2) := by decide +kernel
theorem dX8_close_14 : decode cX8_close 14 = .ok (.ireturn, 1) := by decide +kernel
theorem dX8_close_15 : decode cX8_close 15 = .ok (.aload_n 0, 1) := by decide +kernel
theorem dX8_close_16 : decode cX8_close 16 = .ok (.getfield 10, 3) := by decide +kernel
theorem dX8_close_19 : decode cX8_close 19 = .ok (.iload_n 1, 1) := by decide +kernel
theorem dX8_close_20 : decode cX8_close 20 = .ok (.iload_n 2, 1) := by decide +kernel
theorem dX8_close_21 : decode cX8_close 21 = .ok (.invokevirtual 163, 3) := by decide +kernel
theorem dX8_close_24 : decode cX8_close 24 = .ok (.ifCond .ne 5, 3) := by decide +kernel
theorem dX8_close_27 : decode cX8_close 27 = .ok (.iconst 0, 1) := by decide +kernel
theorem dX8_close_28 : decode cX8_close 28 = .ok (.ireturn, 1) := by decide +kernel
theorem dX8_close_29 : decode cX8_close 29 = .ok (.aload_n 0, 1) := by decide +kernel
theorem dX8_close_30 : decode cX8_close 30 = .ok (.getfield 10, 3) := by decide +kernel
theorem dX8_close_33 : decode cX8_close 33 = .ok (.iload_n 1, 1) := by decide +kernel
theorem dX8_close_34 : decode cX8_close 34 = .ok (.iload_n 2, 1) := by decide +kernel
theorem dX8_close_35 : decode cX8_close 35 = .ok (.invokevirtual 166, 3) := by decide +kernel
theorem dX8_close_38 : decode cX8_close 38 = .ok (.iconst 1, 1) := by decide +kernel
theorem dX8_close_39 : decode cX8_close 39 = .ok (.ireturn, 1) := by decide +kernel
theorem dX8_idle_0 : decode cX8_idle 0 = .ok (.iload_n 1, 1) := by decide +kernel
theorem dX8_idle_1 : decode cX8_idle 1 = .ok (.ifCond .lt 8, 3) := by decide +kernel
theorem dX8_idle_4 : decode cX8_idle 4 = .ok (.iload_n 1, 1) := by decide +kernel
theorem dX8_idle_5 : decode cX8_idle 5 = .ok (.iconst 2, 1) := by decide +kernel
theorem dX8_idle_6 : decode cX8_idle 6 = .ok (.if_icmp .le 6, 3) := by decide +kernel
theorem dX8_idle_9 : decode cX8_idle 9 = .ok (.bipush (-2), 2) := by decide +kernel
theorem dX8_idle_11 : decode cX8_idle 11 = .ok (.ireturn, 1) := by decide +kernel
theorem dX8_idle_12 : decode cX8_idle 12 = .ok (.iconst 0, 1) := by decide +kernel
theorem dX8_idle_13 : decode cX8_idle 13 = .ok (.istore_n 2, 1) := by decide +kernel
theorem dX8_idle_14 : decode cX8_idle 14 = .ok (.iconst (-1), 1) := by decide +kernel
theorem dX8_idle_15 : decode cX8_idle 15 = .ok (.istore_n 3, 1) := by decide +kernel
theorem dX8_idle_16 : decode cX8_idle 16 = .ok (.iconst 0, 1) := by decide +kernel
theorem dX8_idle_17 : decode cX8_idle 17 = .ok (.istore 4, 2) := by decide +kernel
theorem dX8_idle_19 : decode cX8_idle 19 = .ok (.iconst 0, 1) := by decide +kernel
theorem dX8_idle_20 : decode cX8_idle 20 = .ok (.istore 5, 2) := by decide +kernel
theorem dX8_idle_22 : decode cX8_idle 22 = .ok (.iload 5, 2) := by decide +kernel
theorem dX8_idle_24 : decode cX8_idle 24 = .ok (.aload_n 0, 1) := by decide +kernel
theorem dX8_idle_25 : decode cX8_idle 25 = .ok (.getfield 10, 3) := by decide +kernel
theorem dX8_idle_28 : decode cX8_idle 28 = .ok (.getfield 61, 3) := by decide +kernel
theorem dX8_idle_31 : decode cX8_idle 31 = .ok (.if_icmp .ge 97, 3) := by decide +kernel
theorem dX8_idle_34 : decode cX8_idle 34 = .ok (.iload 5, 2) := by decide +kernel
theorem dX8_idle_36 : decode cX8_idle 36 = .ok (.iconst 1, 1) := by decide +kernel
theorem dX8_idle_37 : decode cX8_idle 37 = .ok (.iadd, 1) := by decide +kernel
theorem dX8_idle_38 : decode cX8_idle 38 = .ok (.istore 6, 2) := by decide +kernel
theorem dX8_idle_40 : decode cX8_idle 40 = .ok (.iload 6, 2) := by decide +kernel
theorem dX8_idle_42 : decode cX8_idle 42 = .ok (.aload_n 0, 1) := by decide +kernel
theorem dX8_idle_43 : decode cX8_idle 43 = .ok (.getfield 10, 3) := by decide +kernel
theorem dX8_idle_46 : decode cX8_idle 46 = .ok (.getfield 61, 3) := by decide +kernel
theorem dX8_idle_49 : decode cX8_idle 49 = .ok (.if_icmp .ge 73, 3) := by decide +kernel
theorem dX8_idle_52 : decode cX8_idle 52 = .ok (.aload_n 0, 1) := by decide +kernel
theorem dX8_idle_53 : decode cX8_idle 53 = .ok (.getfield 10, 3) := by decide +kernel
theorem dX8_idle_56 : decode cX8_idle 56 = .ok (.iload 5, 2) := by decide +kernel
theorem dX8_idle_58 : decode cX8_idle 58 = .ok (.iload 6, 2) := by decide +kernel
theorem dX8_idle_60 : decode cX8_idle 60 = .ok (.invokevirtual 163, 3) := by decide +kernel
theorem dX8_idle_63 : decode cX8_idle 63 = .ok (.ifCond .ne 53, 3) := by decide +kernel
theorem dX8_idle_66 : decode cX8_idle 66 = .ok (.aload_n 0, 1) := by decide +kernel
theorem dX8_idle_67 : decode cX8_idle 67 = .ok (.iload 5, 2) := by decide +kernel
theorem dX8_idle_69 : decode cX8_idle 69 = .ok (.iload 6, 2) := by decide +kernel
theorem dX8_idle_71 : decode cX8_idle 71 = .ok (.aload_n 0, 1) := by decide +kernel
theorem dX8_idle_72 : decode cX8_idle 72 = .ok (.getfield 10, 3) := by decide +kernel
theorem dX8_idle_75 : decode cX8_idle 75 = .ok (.getfield 78, 3) := by decide +kernel
theorem dX8_idle_78 : decode cX8_idle 78 = .ok (.invokevirtual 169, 3) := by decide +kernel
theorem dX8_idle_81 : decode cX8_idle 81 = .ok (.istore 7, 2) := by decide +kernel
theorem dX8_idle_83 : decode cX8_idle 83 = .ok (.iload_n 2, 1) := by decide +kernel
theorem dX8_idle_84 : decode cX8_idle 84 = .ok (.iload 7, 2) := by decide +kernel
theorem dX8_idle_86 : decode cX8_idle 86 = .ok (.ifCond .ne 7, 3) := by decide +kernel
theorem dX8_idle_89 : decode cX8_idle 89 = .ok (.iconst 1, 1) := by decide +kernel
theorem dX8_idle_90 : decode cX8_idle 90 = .ok (.goto 4, 3) := by decide +kernel
theorem dX8_idle_93 : decode cX8_idle 93 = .ok (.iconst 0, 1) := by decide +kernel
theorem dX8_idle_94 : decode cX8_idle 94 = .ok (.iadd, 1) := by decide +kernel
theorem dX8_idle_95 : decode cX8_idle 95 = .ok (.istore_n 2, 1) := by decide +kernel
theorem dX8_idle_96 : decode cX8_idle 96 = .ok (.iload 7, 2) := by decide +kernel
theorem dX8_idle_98 : decode cX8_idle 98 = .ok (.iload 4, 2) := by decide +kernel
theorem dX8_idle_100 : decode cX8_idle 100 = .ok (.if_icmp .le 16, 3) := by decide +kernel
theorem dX8_idle_103 : decode cX8_idle 103 = .ok (.iload 7, 2) := by decide +kernel
theorem dX8_idle_105 : decode cX8_idle 105 = .ok (.istore 4, 2) := by decide +kernel
theorem dX8_idle_107 : decode cX8_idle 107 = .ok (.bipush 10, 2) := by decide +kernel
theorem dX8_idle_109 : decode cX8_idle 109 = .ok (.iload 5, 2) := by decide +kernel
theorem dX8_idle_111 : decode cX8_idle 111 = .ok (.imul, 1) := by decide +kernel
theorem dX8_idle_112 : decode cX8_idle 112 = .ok (.iload 6, 2) := by decide +kernel
theorem dX8_idle_114 : decode cX8_idle 114 = .ok (.iadd, 1) := by decide +kernel
theorem dX8_idle_115 : decode cX8_idle 115 = .ok (.istore_n 3, 1) := by decide +kernel
theorem dX8_idle_116 : decode cX8_idle 116 = .ok (.iinc 6 1, 3) := by decide +kernel
theorem dX8_idle_119 : decode cX8_idle 119 = .ok (.goto (-79), 3) := by decide +kernel
theorem dX8_idle_122 : decode cX8_idle 122 = .ok (.iinc 5 1, 3) := by decide +kernel
theorem dX8_idle_125 : decode cX8_idle 125 = .ok (.goto (-103), 3) := by decide +kernel
theorem dX8_idle_128 : decode cX8_idle 128 = .ok (.iload_n 1, 1) := by decide +kernel
theorem dX8_idle_129 : decode cX8_idle 129 = .ok (.ifCond .ne 7, 3) := by decide +kernel
theorem dX8_idle_132 : decode cX8_idle 132 = .ok (.iload_n 2, 1) := by decide +kernel
theorem dX8_idle_133 : decode cX8_idle 133 = .ok (.goto 14, 3) := by decide +kernel
theorem dX8_idle_136 : decode cX8_idle 136 = .ok (.iload_n 1, 1) := by decide +kernel
theorem dX8_idle_137 : decode cX8_idle 137 = .ok (.iconst 1, 1) := by decide +kernel
theorem dX8_idle_138 : decode cX8_idle 138 = .ok (.if_icmp .ne 7, 3) := by decide +kernel
theorem dX8_idle_141 : decode cX8_idle 141 = .ok (.iload_n 3, 1) := by decide +kernel
theorem dX8_idle_142 : decode cX8_idle 142 = .ok (.goto 5, 3) := by decide +kernel
theorem dX8_idle_145 : decode cX8_idle 145 = .ok (.iload 4, 2) := by decide +kernel
theorem dX8_idle_147 : decode cX8_idle 147 = .ok (.ireturn, 1) := by decide +kernel
theorem dX8_movesInThought_0 : decode cX8_movesInThought 0 = .ok (.aload_n 0, 1) := by decide +kernel
theorem dX8_movesInThought_1 : decode cX8_movesInThought 1 = .ok (.getfield 16, 3) := by decide +kernel
theorem dX8_movesInThought_4 : decode cX8_movesInThought 4 = .ok (.aload_n 0, 1) := by decide +kernel
theorem dX8_movesInThought_5 : decode cX8_movesInThought 5 = .ok (.getfield 10, 3) := by decide +kernel
theorem dX8_movesInThought_8 : decode cX8_movesInThought 8 = .ok (.invokevirtual 172, 3) := by decide +kernel
theorem dX8_movesInThought_11 : decode cX8_movesInThought 11 = .ok (.aload_n 0, 1) := by decide +kernel
theorem dX8_movesInThought_12 : decode cX8_movesInThought 12 = .ok (.getfield 16, 3) := by decide +kernel
theorem dX8_movesInThought_15 : decode cX8_movesInThought 15 = .ok (.iload_n 3, 1) := by decide +kernel
theorem dX8_movesInThought_16 : decode cX8_movesInThought 16 = .ok (.putfield 78, 3) := by decide +kernel
theorem dX8_movesInThought_19 : decode cX8_movesInThought 19 = .ok (.aload_n 0, 1) := by decide +kernel
theorem dX8_movesInThought_20 : decode cX8_movesInThought 20 = .ok (.getfield 16, 3) := by decide +kernel
theorem dX8_movesInThought_23 : decode cX8_movesInThought 23 = .ok (.aload_n 0, 1) := by decide +kernel
theorem dX8_movesInThought_24 : decode cX8_movesInThought 24 = .ok (.getfield 29, 3) := by decide +kernel
theorem dX8_movesInThought_27 : decode cX8_movesInThought 27 = .ok (.iload_n 1, 1) := by decide +kernel
theorem dX8_movesInThought_28 : decode cX8_movesInThought 28 = .ok (.iload_n 2, 1) := by decide +kernel
theorem dX8_movesInThought_29 : decode cX8_movesInThought 29 = .ok (.invokestatic 153, 3) := by decide +kernel
theorem dX8_movesInThought_32 : decode cX8_movesInThought 32 = .ok (.ireturn, 1) := by decide +kernel
theorem dX8_order_0 : decode cX8_order 0 = .ok (.iload_n 1, 1) := by decide +kernel
theorem dX8_order_1 : decode cX8_order 1 = .ok (.ifCond .lt 17, 3) := by decide +kernel
theorem dX8_order_4 : decode cX8_order 4 = .ok (.iload_n 1, 1) := by decide +kernel
theorem dX8_order_5 : decode cX8_order 5 = .ok (.iconst 1, 1) := by decide +kernel
theorem dX8_order_6 : decode cX8_order 6 = .ok (.if_icmp .gt 12, 3) := by decide +kernel
theorem dX8_order_9 : decode cX8_order 9 = .ok (.iload_n 2, 1) := by decide +kernel
theorem dX8_order_10 : decode cX8_order 10 = .ok (.ifCond .lt 8, 3) := by decide +kernel
theorem dX8_order_13 : decode cX8_order 13 = .ok (.iload_n 2, 1) := by decide +kernel
theorem dX8_order_14 : decode cX8_order 14 = .ok (.iconst 1, 1) := by decide +kernel
theorem dX8_order_15 : decode cX8_order 15 = .ok (.if_icmp .le 6, 3) := by decide +kernel
theorem dX8_order_18 : decode cX8_order 18 = .ok (.bipush (-2), 2) := by decide +kernel
theorem dX8_order_20 : decode cX8_order 20 = .ok (.ireturn, 1) := by decide +kernel
theorem dX8_order_21 : decode cX8_order 21 = .ok (.aload_n 0, 1) := by decide +kernel
theorem dX8_order_22 : decode cX8_order 22 = .ok (.getfield 16, 3) := by decide +kernel
theorem dX8_order_25 : decode cX8_order 25 = .ok (.aload_n 0, 1) := by decide +kernel
theorem dX8_order_26 : decode cX8_order 26 = .ok (.getfield 10, 3) := by decide +kernel
theorem dX8_order_29 : decode cX8_order 29 = .ok (.invokevirtual 172, 3) := by decide +kernel
theorem dX8_order_32 : decode cX8_order 32 = .ok (.aload_n 0, 1) := by decide +kernel
theorem dX8_order_33 : decode cX8_order 33 = .ok (.getfield 50, 3) := by decide +kernel
theorem dX8_order_36 : decode cX8_order 36 = .ok (.aload_n 0, 1) := by decide +kernel
theorem dX8_order_37 : decode cX8_order 37 = .ok (.getfield 16, 3) := by decide +kernel
theorem dX8_order_40 : decode cX8_order 40 = .ok (.iload_n 1, 1) := by decide +kernel
theorem dX8_order_41 : decode cX8_order 41 = .ok (.iconst 1, 1) := by decide +kernel
theorem dX8_order_42 : decode cX8_order 42 = .ok (.if_icmp .ne 7, 3) := by decide +kernel
theorem dX8_order_45 : decode cX8_order 45 = .ok (.iconst 1, 1) := by decide +kernel
theorem dX8_order_46 : decode cX8_order 46 = .ok (.goto 4, 3) := by decide +kernel
theorem dX8_order_49 : decode cX8_order 49 = .ok (.iconst 0, 1) := by decide +kernel
theorem dX8_order_50 : decode cX8_order 50 = .ok (.invokevirtual 176, 3) := by decide +kernel
theorem dX8_order_53 : decode cX8_order 53 = .ok (.iload_n 2, 1) := by decide +kernel
theorem dX8_order_54 : decode cX8_order 54 = .ok (.ifCond .ne 13, 3) := by decide +kernel
theorem dX8_order_57 : decode cX8_order 57 = .ok (.aload_n 0, 1) := by decide +kernel
theorem dX8_order_58 : decode cX8_order 58 = .ok (.getfield 50, 3) := by decide +kernel
theorem dX8_order_61 : decode cX8_order 61 = .ok (.getfield 180, 3) := by decide +kernel
theorem dX8_order_64 : decode cX8_order 64 = .ok (.goto 10, 3) := by decide +kernel
theorem dX8_order_67 : decode cX8_order 67 = .ok (.aload_n 0, 1) := by decide +kernel
theorem dX8_order_68 : decode cX8_order 68 = .ok (.getfield 50, 3) := by decide +kernel
theorem dX8_order_71 : decode cX8_order 71 = .ok (.getfield 183, 3) := by decide +kernel
theorem dX8_order_74 : decode cX8_order 74 = .ok (.ireturn, 1) := by decide +kernel
theorem dX8_fewest_0 : decode cX8_fewest 0 = .ok (.aload_n 0, 1) := by decide +kernel
theorem dX8_fewest_1 : decode cX8_fewest 1 = .ok (.getfield 57, 3) := by decide +kernel
theorem dX8_fewest_4 : decode cX8_fewest 4 = .ok (.aload_n 0, 1) := by decide +kernel
theorem dX8_fewest_5 : decode cX8_fewest 5 = .ok (.getfield 10, 3) := by decide +kernel
theorem dX8_fewest_8 : decode cX8_fewest 8 = .ok (.invokevirtual 186, 3) := by decide +kernel
theorem dX8_fewest_11 : decode cX8_fewest 11 = .ok (.ireturn, 1) := by decide +kernel
theorem dX8_paints_0 : decode cX8_paints 0 = .ok (.aload_n 0, 1) := by decide +kernel
theorem dX8_paints_1 : decode cX8_paints 1 = .ok (.iload_n 1, 1) := by decide +kernel
theorem dX8_paints_2 : decode cX8_paints 2 = .ok (.aload_n 0, 1) := by decide +kernel
theorem dX8_paints_3 : decode cX8_paints 3 = .ok (.getfield 10, 3) := by decide +kernel
theorem dX8_paints_6 : decode cX8_paints 6 = .ok (.invokevirtual 190, 3) := by decide +kernel
theorem dX8_paints_9 : decode cX8_paints 9 = .ok (.invokevirtual 193, 3) := by decide +kernel
theorem dX8_paints_12 : decode cX8_paints 12 = .ok (.istore_n 3, 1) := by decide +kernel
theorem dX8_paints_13 : decode cX8_paints 13 = .ok (.iload_n 3, 1) := by decide +kernel
theorem dX8_paints_14 : decode cX8_paints 14 = .ok (.ifCond .eq 5, 3) := by decide +kernel
theorem dX8_paints_17 : decode cX8_paints 17 = .ok (.iload_n 3, 1) := by decide +kernel
theorem dX8_paints_18 : decode cX8_paints 18 = .ok (.ireturn, 1) := by decide +kernel
theorem dX8_paints_19 : decode cX8_paints 19 = .ok (.iload_n 2, 1) := by decide +kernel
theorem dX8_paints_20 : decode cX8_paints 20 = .ok (.ifCond .lt 14, 3) := by decide +kernel
theorem dX8_paints_23 : decode cX8_paints 23 = .ok (.iload_n 2, 1) := by decide +kernel
theorem dX8_paints_24 : decode cX8_paints 24 = .ok (.aload_n 0, 1) := by decide +kernel
theorem dX8_paints_25 : decode cX8_paints 25 = .ok (.getfield 10, 3) := by decide +kernel
theorem dX8_paints_28 : decode cX8_paints 28 = .ok (.getfield 61, 3) := by decide +kernel
theorem dX8_paints_31 : decode cX8_paints 31 = .ok (.if_icmp .le 6, 3) := by decide +kernel
theorem dX8_paints_34 : decode cX8_paints 34 = .ok (.bipush (-7), 2) := by decide +kernel
theorem dX8_paints_36 : decode cX8_paints 36 = .ok (.ireturn, 1) := by decide +kernel
theorem dX8_paints_37 : decode cX8_paints 37 = .ok (.aload_n 0, 1) := by decide +kernel
theorem dX8_paints_38 : decode cX8_paints 38 = .ok (.getfield 16, 3) := by decide +kernel
theorem dX8_paints_41 : decode cX8_paints 41 = .ok (.aload_n 0, 1) := by decide +kernel
theorem dX8_paints_42 : decode cX8_paints 42 = .ok (.getfield 10, 3) := by decide +kernel
theorem dX8_paints_45 : decode cX8_paints 45 = .ok (.invokevirtual 172, 3) := by decide +kernel
theorem dX8_paints_48 : decode cX8_paints 48 = .ok (.aload_n 0, 1) := by decide +kernel
theorem dX8_paints_49 : decode cX8_paints 49 = .ok (.getfield 16, 3) := by decide +kernel
theorem dX8_paints_52 : decode cX8_paints 52 = .ok (.aload_n 0, 1) := by decide +kernel
theorem dX8_paints_53 : decode cX8_paints 53 = .ok (.getfield 43, 3) := by decide +kernel
theorem dX8_paints_56 : decode cX8_paints 56 = .ok (.aload_n 0, 1) := by decide +kernel
theorem dX8_paints_57 : decode cX8_paints 57 = .ok (.getfield 43, 3) := by decide +kernel
theorem dX8_paints_60 : decode cX8_paints 60 = .ok (.getfield 196, 3) := by decide +kernel
theorem dX8_paints_63 : decode cX8_paints 63 = .ok (.invokevirtual 197, 3) := by decide +kernel
theorem dX8_paints_66 : decode cX8_paints 66 = .ok (.iload_n 2, 1) := by decide +kernel
theorem dX8_paints_67 : decode cX8_paints 67 = .ok (.ifCond .ne 13, 3) := by decide +kernel
theorem dX8_paints_70 : decode cX8_paints 70 = .ok (.aload_n 0, 1) := by decide +kernel
theorem dX8_paints_71 : decode cX8_paints 71 = .ok (.getfield 16, 3) := by decide +kernel
theorem dX8_paints_74 : decode cX8_paints 74 = .ok (.invokevirtual 68, 3) := by decide +kernel
theorem dX8_paints_77 : decode cX8_paints 77 = .ok (.goto 13, 3) := by decide +kernel
theorem dX8_paints_80 : decode cX8_paints 80 = .ok (.aload_n 0, 1) := by decide +kernel
theorem dX8_paints_81 : decode cX8_paints 81 = .ok (.getfield 16, 3) := by decide +kernel
theorem dX8_paints_84 : decode cX8_paints 84 = .ok (.iload_n 2, 1) := by decide +kernel
theorem dX8_paints_85 : decode cX8_paints 85 = .ok (.iconst 1, 1) := by decide +kernel
theorem dX8_paints_86 : decode cX8_paints 86 = .ok (.isub, 1) := by decide +kernel
theorem dX8_paints_87 : decode cX8_paints 87 = .ok (.invokevirtual 123, 3) := by decide +kernel
theorem dX8_paints_90 : decode cX8_paints 90 = .ok (.ireturn, 1) := by decide +kernel
theorem dX8_refusalOfOrder_0 : decode cX8_refusalOfOrder 0 = .ok (.iload_n 1, 1) := by decide +kernel
theorem dX8_refusalOfOrder_1 : decode cX8_refusalOfOrder 1 = .ok (.invokestatic 201, 3) := by decide +kernel
theorem dX8_refusalOfOrder_4 : decode cX8_refusalOfOrder 4 = .ok (.ifCond .ne 6, 3) := by decide +kernel
theorem dX8_refusalOfOrder_7 : decode cX8_refusalOfOrder 7 = .ok (.bipush (-2), 2) := by decide +kernel
theorem dX8_refusalOfOrder_9 : decode cX8_refusalOfOrder 9 = .ok (.ireturn, 1) := by decide +kernel
theorem dX8_refusalOfOrder_10 : decode cX8_refusalOfOrder 10 = .ok (.aload_n 0, 1) := by decide +kernel
theorem dX8_refusalOfOrder_11 : decode cX8_refusalOfOrder 11 = .ok (.getfield 36, 3) := by decide +kernel
theorem dX8_refusalOfOrder_14 : decode cX8_refusalOfOrder 14 = .ok (.iload_n 1, 1) := by decide +kernel
theorem dX8_refusalOfOrder_15 : decode cX8_refusalOfOrder 15 = .ok (.invokevirtual 204, 3) := by decide +kernel
theorem dX8_refusalOfOrder_18 : decode cX8_refusalOfOrder 18 = .ok (.ifCond .eq 6, 3) := by decide +kernel
theorem dX8_refusalOfOrder_21 : decode cX8_refusalOfOrder 21 = .ok (.bipush (-11), 2) := by decide +kernel
theorem dX8_refusalOfOrder_23 : decode cX8_refusalOfOrder 23 = .ok (.ireturn, 1) := by decide +kernel
theorem dX8_refusalOfOrder_24 : decode cX8_refusalOfOrder 24 = .ok (.aload_n 0, 1) := by decide +kernel
theorem dX8_refusalOfOrder_25 : decode cX8_refusalOfOrder 25 = .ok (.getfield 43, 3) := by decide +kernel
theorem dX8_refusalOfOrder_28 : decode cX8_refusalOfOrder 28 = .ok (.aload_n 0, 1) := by decide +kernel
theorem dX8_refusalOfOrder_29 : decode cX8_refusalOfOrder 29 = .ok (.getfield 36, 3) := by decide +kernel
theorem dX8_refusalOfOrder_32 : decode cX8_refusalOfOrder 32 = .ok (.iload_n 1, 1) := by decide +kernel
theorem dX8_refusalOfOrder_33 : decode cX8_refusalOfOrder 33 = .ok (.iload_n 2, 1) := by decide +kernel
theorem dX8_refusalOfOrder_34 : decode cX8_refusalOfOrder 34 = .ok (.invokevirtual 207, 3) := by decide +kernel
theorem dX8_refusalOfOrder_37 : decode cX8_refusalOfOrder 37 = .ok (.ifCond .eq 7, 3) := by decide +kernel
theorem dX8_refusalOfOrder_40 : decode cX8_refusalOfOrder 40 = .ok (.iconst 0, 1) := by decide +kernel
theorem dX8_refusalOfOrder_41 : decode cX8_refusalOfOrder 41 = .ok (.goto 5, 3) := by decide +kernel
theorem dX8_refusalOfOrder_44 : decode cX8_refusalOfOrder 44 = .ok (.bipush (-2), 2) := by decide +kernel
theorem dX8_refusalOfOrder_46 : decode cX8_refusalOfOrder 46 = .ok (.ireturn, 1) := by decide +kernel
theorem dX8_raise_0 : decode cX8_raise 0 = .ok (.aload_n 0, 1) := by decide +kernel
theorem dX8_raise_1 : decode cX8_raise 1 = .ok (.iload_n 1, 1) := by decide +kernel
theorem dX8_raise_2 : decode cX8_raise 2 = .ok (.aload_n 0, 1) := by decide +kernel
theorem dX8_raise_3 : decode cX8_raise 3 = .ok (.getfield 10, 3) := by decide +kernel
theorem dX8_raise_6 : decode cX8_raise 6 = .ok (.invokevirtual 190, 3) := by decide +kernel
theorem dX8_raise_9 : decode cX8_raise 9 = .ok (.invokevirtual 193, 3) := by decide +kernel
theorem dX8_raise_12 : decode cX8_raise 12 = .ok (.istore_n 2, 1) := by decide +kernel
theorem dX8_raise_13 : decode cX8_raise 13 = .ok (.iload_n 2, 1) := by decide +kernel
theorem dX8_raise_14 : decode cX8_raise 14 = .ok (.ifCond .eq 5, 3) := by decide +kernel
theorem dX8_raise_17 : decode cX8_raise 17 = .ok (.iload_n 2, 1) := by decide +kernel
theorem dX8_raise_18 : decode cX8_raise 18 = .ok (.ireturn, 1) := by decide +kernel
theorem dX8_raise_19 : decode cX8_raise 19 = .ok (.aload_n 0, 1) := by decide +kernel
theorem dX8_raise_20 : decode cX8_raise 20 = .ok (.getfield 10, 3) := by decide +kernel
theorem dX8_raise_23 : decode cX8_raise 23 = .ok (.aload_n 0, 1) := by decide +kernel
theorem dX8_raise_24 : decode cX8_raise 24 = .ok (.getfield 43, 3) := by decide +kernel
theorem dX8_raise_27 : decode cX8_raise 27 = .ok (.aload_n 0, 1) := by decide +kernel
theorem dX8_raise_28 : decode cX8_raise 28 = .ok (.getfield 43, 3) := by decide +kernel
theorem dX8_raise_31 : decode cX8_raise 31 = .ok (.getfield 196, 3) := by decide +kernel
theorem dX8_raise_34 : decode cX8_raise 34 = .ok (.invokevirtual 197, 3) := by decide +kernel
theorem dX8_raise_37 : decode cX8_raise 37 = .ok (.aload_n 0, 1) := by decide +kernel
theorem dX8_raise_38 : decode cX8_raise 38 = .ok (.getfield 10, 3) := by decide +kernel
theorem dX8_raise_41 : decode cX8_raise 41 = .ok (.invokevirtual 68, 3) := by decide +kernel
theorem dX8_raise_44 : decode cX8_raise 44 = .ok (.ireturn, 1) := by decide +kernel
theorem dX8_when_0 : decode cX8_when 0 = .ok (.aload_n 0, 1) := by decide +kernel
theorem dX8_when_1 : decode cX8_when 1 = .ok (.getfield 10, 3) := by decide +kernel
theorem dX8_when_4 : decode cX8_when 4 = .ok (.iload_n 1, 1) := by decide +kernel
theorem dX8_when_5 : decode cX8_when 5 = .ok (.invokevirtual 95, 3) := by decide +kernel
theorem dX8_when_8 : decode cX8_when 8 = .ok (.ifCond .ne 6, 3) := by decide +kernel
theorem dX8_when_11 : decode cX8_when 11 = .ok (.bipush (-5), 2) := by decide +kernel
theorem dX8_when_13 : decode cX8_when 13 = .ok (.ireturn, 1) := by decide +kernel
theorem dX8_when_14 : decode cX8_when 14 = .ok (.aload_n 0, 1) := by decide +kernel
theorem dX8_when_15 : decode cX8_when 15 = .ok (.getfield 10, 3) := by decide +kernel
theorem dX8_when_18 : decode cX8_when 18 = .ok (.iload_n 1, 1) := by decide +kernel
theorem dX8_when_19 : decode cX8_when 19 = .ok (.invokevirtual 127, 3) := by decide +kernel
theorem dX8_when_22 : decode cX8_when 22 = .ok (.ifCond .eq 6, 3) := by decide +kernel
theorem dX8_when_25 : decode cX8_when 25 = .ok (.bipush (-3), 2) := by decide +kernel
theorem dX8_when_27 : decode cX8_when 27 = .ok (.ireturn, 1) := by decide +kernel
theorem dX8_when_28 : decode cX8_when 28 = .ok (.aload_n 0, 1) := by decide +kernel
theorem dX8_when_29 : decode cX8_when 29 = .ok (.iload_n 2, 1) := by decide +kernel
theorem dX8_when_30 : decode cX8_when 30 = .ok (.aload_n 0, 1) := by decide +kernel
theorem dX8_when_31 : decode cX8_when 31 = .ok (.getfield 10, 3) := by decide +kernel
theorem dX8_when_34 : decode cX8_when 34 = .ok (.invokevirtual 190, 3) := by decide +kernel
theorem dX8_when_37 : decode cX8_when 37 = .ok (.iconst 1, 1) := by decide +kernel
theorem dX8_when_38 : decode cX8_when 38 = .ok (.iload_n 1, 1) := by decide +kernel
theorem dX8_when_39 : decode cX8_when 39 = .ok (.ishl, 1) := by decide +kernel
theorem dX8_when_40 : decode cX8_when 40 = .ok (.iconst (-1), 1) := by decide +kernel
theorem dX8_when_41 : decode cX8_when 41 = .ok (.ixor, 1) := by decide +kernel
theorem dX8_when_42 : decode cX8_when 42 = .ok (.iand, 1) := by decide +kernel
theorem dX8_when_43 : decode cX8_when 43 = .ok (.invokevirtual 193, 3) := by decide +kernel
theorem dX8_when_46 : decode cX8_when 46 = .ok (.istore 4, 2) := by decide +kernel
theorem dX8_when_48 : decode cX8_when 48 = .ok (.iload 4, 2) := by decide +kernel
theorem dX8_when_50 : decode cX8_when 50 = .ok (.ifCond .eq 6, 3) := by decide +kernel
theorem dX8_when_53 : decode cX8_when 53 = .ok (.iload 4, 2) := by decide +kernel
theorem dX8_when_55 : decode cX8_when 55 = .ok (.ireturn, 1) := by decide +kernel
theorem dX8_when_56 : decode cX8_when 56 = .ok (.iload_n 3, 1) := by decide +kernel
theorem dX8_when_57 : decode cX8_when 57 = .ok (.ifCond .lt 8, 3) := by decide +kernel
theorem dX8_when_60 : decode cX8_when 60 = .ok (.iload_n 3, 1) := by decide +kernel
theorem dX8_when_61 : decode cX8_when 61 = .ok (.iconst 1, 1) := by decide +kernel
theorem dX8_when_62 : decode cX8_when 62 = .ok (.if_icmp .le 6, 3) := by decide +kernel
theorem dX8_when_65 : decode cX8_when 65 = .ok (.bipush (-7), 2) := by decide +kernel
theorem dX8_when_67 : decode cX8_when 67 = .ok (.ireturn, 1) := by decide +kernel
theorem dX8_when_68 : decode cX8_when 68 = .ok (.ldc 213, 2) := by decide +kernel
theorem dX8_when_70 : decode cX8_when 70 = .ok (.istore 5, 2) := by decide +kernel
theorem dX8_when_72 : decode cX8_when 72 = .ok (.iconst 0, 1) := by decide +kernel
theorem dX8_when_73 : decode cX8_when 73 = .ok (.istore 6, 2) := by decide +kernel
theorem dX8_when_75 : decode cX8_when 75 = .ok (.aload_n 0, 1) := by decide +kernel
theorem dX8_when_76 : decode cX8_when 76 = .ok (.getfield 16, 3) := by decide +kernel
theorem dX8_when_79 : decode cX8_when 79 = .ok (.aload_n 0, 1) := by decide +kernel
theorem dX8_when_80 : decode cX8_when 80 = .ok (.getfield 10, 3) := by decide +kernel
theorem dX8_when_83 : decode cX8_when 83 = .ok (.invokevirtual 172, 3) := by decide +kernel
theorem dX8_when_86 : decode cX8_when 86 = .ok (.iconst 0, 1) := by decide +kernel
theorem dX8_when_87 : decode cX8_when 87 = .ok (.istore 7, 2) := by decide +kernel
theorem dX8_when_89 : decode cX8_when 89 = .ok (.iload 7, 2) := by decide +kernel
theorem dX8_when_91 : decode cX8_when 91 = .ok (.aload_n 0, 1) := by decide +kernel
theorem dX8_when_92 : decode cX8_when 92 = .ok (.getfield 43, 3) := by decide +kernel
theorem dX8_when_95 : decode cX8_when 95 = .ok (.getfield 196, 3) := by decide +kernel
theorem dX8_when_98 : decode cX8_when 98 = .ok (.if_icmp .gt 101, 3) := by decide +kernel
theorem dX8_when_101 : decode cX8_when 101 = .ok (.aload_n 0, 1) := by decide +kernel
theorem dX8_when_102 : decode cX8_when 102 = .ok (.getfield 16, 3) := by decide +kernel
theorem dX8_when_105 : decode cX8_when 105 = .ok (.iload_n 1, 1) := by decide +kernel
theorem dX8_when_106 : decode cX8_when 106 = .ok (.invokevirtual 136, 3) := by decide +kernel
theorem dX8_when_109 : decode cX8_when 109 = .ok (.istore 8, 2) := by decide +kernel
theorem dX8_when_111 : decode cX8_when 111 = .ok (.aload_n 0, 1) := by decide +kernel
theorem dX8_when_112 : decode cX8_when 112 = .ok (.getfield 29, 3) := by decide +kernel
theorem dX8_when_115 : decode cX8_when 115 = .ok (.iconst 0, 1) := by decide +kernel
theorem dX8_when_116 : decode cX8_when 116 = .ok (.aload_n 0, 1) := by decide +kernel
theorem dX8_when_117 : decode cX8_when 117 = .ok (.getfield 16, 3) := by decide +kernel
theorem dX8_when_120 : decode cX8_when 120 = .ok (.iload_n 1, 1) := by decide +kernel
theorem dX8_when_121 : decode cX8_when 121 = .ok (.iload 8, 2) := by decide +kernel
theorem dX8_when_123 : decode cX8_when 123 = .ok (.iload 7, 2) := by decide +kernel
theorem dX8_when_125 : decode cX8_when 125 = .ok (.invokevirtual 101, 3) := by decide +kernel
theorem dX8_when_128 : decode cX8_when 128 = .ok (.aload_n 0, 1) := by decide +kernel
theorem dX8_when_129 : decode cX8_when 129 = .ok (.getfield 29, 3) := by decide +kernel
theorem dX8_when_132 : decode cX8_when 132 = .ok (.iconst 1, 1) := by decide +kernel
theorem dX8_when_133 : decode cX8_when 133 = .ok (.aload_n 0, 1) := by decide +kernel
theorem dX8_when_134 : decode cX8_when 134 = .ok (.getfield 16, 3) := by decide +kernel
theorem dX8_when_137 : decode cX8_when 137 = .ok (.iload_n 1, 1) := by decide +kernel
theorem dX8_when_138 : decode cX8_when 138 = .ok (.iload 8, 2) := by decide +kernel
theorem dX8_when_140 : decode cX8_when 140 = .ok (.iload 7, 2) := by decide +kernel
theorem dX8_when_142 : decode cX8_when 142 = .ok (.invokevirtual 101, 3) := by decide +kernel
theorem dX8_when_145 : decode cX8_when 145 = .ok (.isub, 1) := by decide +kernel
theorem dX8_when_146 : decode cX8_when 146 = .ok (.istore 9, 2) := by decide +kernel
theorem dX8_when_148 : decode cX8_when 148 = .ok (.iload 9, 2) := by decide +kernel
theorem dX8_when_150 : decode cX8_when 150 = .ok (.iload 5, 2) := by decide +kernel
theorem dX8_when_152 : decode cX8_when 152 = .ok (.if_icmp .le 11, 3) := by decide +kernel
theorem dX8_when_155 : decode cX8_when 155 = .ok (.iload 9, 2) := by decide +kernel
theorem dX8_when_157 : decode cX8_when 157 = .ok (.istore 5, 2) := by decide +kernel
theorem dX8_when_159 : decode cX8_when 159 = .ok (.iload 7, 2) := by decide +kernel
theorem dX8_when_161 : decode cX8_when 161 = .ok (.istore 6, 2) := by decide +kernel
theorem dX8_when_163 : decode cX8_when 163 = .ok (.iload 7, 2) := by decide +kernel
theorem dX8_when_165 : decode cX8_when 165 = .ok (.aload_n 0, 1) := by decide +kernel
theorem dX8_when_166 : decode cX8_when 166 = .ok (.getfield 43, 3) := by decide +kernel
theorem dX8_when_169 : decode cX8_when 169 = .ok (.getfield 196, 3) := by decide +kernel
theorem dX8_when_172 : decode cX8_when 172 = .ok (.if_icmp .ge 21, 3) := by decide +kernel
theorem dX8_when_175 : decode cX8_when 175 = .ok (.aload_n 0, 1) := by decide +kernel
theorem dX8_when_176 : decode cX8_when 176 = .ok (.getfield 16, 3) := by decide +kernel
theorem dX8_when_179 : decode cX8_when 179 = .ok (.aload_n 0, 1) := by decide +kernel
theorem dX8_when_180 : decode cX8_when 180 = .ok (.getfield 43, 3) := by decide +kernel
theorem dX8_when_183 : decode cX8_when 183 = .ok (.getfield 214, 3) := by decide +kernel
theorem dX8_when_186 : decode cX8_when 186 = .ok (.iload 7, 2) := by decide +kernel
theorem dX8_when_188 : decode cX8_when 188 = .ok (.iaload, 1) := by decide +kernel
theorem dX8_when_189 : decode cX8_when 189 = .ok (.invokevirtual 133, 3) := by decide +kernel
theorem dX8_when_192 : decode cX8_when 192 = .ok (.pop, 1) := by decide +kernel
theorem dX8_when_193 : decode cX8_when 193 = .ok (.iinc 7 1, 3) := by decide +kernel
theorem dX8_when_196 : decode cX8_when 196 = .ok (.goto (-107), 3) := by decide +kernel
theorem dX8_when_199 : decode cX8_when 199 = .ok (.iload_n 3, 1) := by decide +kernel
theorem dX8_when_200 : decode cX8_when 200 = .ok (.ifCond .ne 8, 3) := by decide +kernel
theorem dX8_when_203 : decode cX8_when 203 = .ok (.iload 6, 2) := by decide +kernel
theorem dX8_when_205 : decode cX8_when 205 = .ok (.goto 5, 3) := by decide +kernel
theorem dX8_when_208 : decode cX8_when 208 = .ok (.iload 5, 2) := by decide +kernel
theorem dX8_when_210 : decode cX8_when 210 = .ok (.ireturn, 1) := by decide +kernel
theorem dX8_rule_0 : decode cX8_rule 0 = .ok (.iload_n 1, 1) := by decide +kernel
theorem dX8_rule_1 : decode cX8_rule 1 = .ok (.ifCond .lt 17, 3) := by decide +kernel
theorem dX8_rule_4 : decode cX8_rule 4 = .ok (.iload_n 1, 1) := by decide +kernel
theorem dX8_rule_5 : decode cX8_rule 5 = .ok (.iconst 2, 1) := by decide +kernel
theorem dX8_rule_6 : decode cX8_rule 6 = .ok (.if_icmp .gt 12, 3) := by decide +kernel
theorem dX8_rule_9 : decode cX8_rule 9 = .ok (.iload_n 2, 1) := by decide +kernel
theorem dX8_rule_10 : decode cX8_rule 10 = .ok (.ifCond .lt 8, 3) := by decide +kernel
theorem dX8_rule_13 : decode cX8_rule 13 = .ok (.iload_n 2, 1) := by decide +kernel
theorem dX8_rule_14 : decode cX8_rule 14 = .ok (.iconst 1, 1) := by decide +kernel
theorem dX8_rule_15 : decode cX8_rule 15 = .ok (.if_icmp .le 6, 3) := by decide +kernel
theorem dX8_rule_18 : decode cX8_rule 18 = .ok (.bipush (-2), 2) := by decide +kernel
theorem dX8_rule_20 : decode cX8_rule 20 = .ok (.ireturn, 1) := by decide +kernel
theorem dX8_rule_21 : decode cX8_rule 21 = .ok (.aload_n 0, 1) := by decide +kernel
theorem dX8_rule_22 : decode cX8_rule 22 = .ok (.getfield 43, 3) := by decide +kernel
theorem dX8_rule_25 : decode cX8_rule 25 = .ok (.aload_n 0, 1) := by decide +kernel
theorem dX8_rule_26 : decode cX8_rule 26 = .ok (.getfield 10, 3) := by decide +kernel
theorem dX8_rule_29 : decode cX8_rule 29 = .ok (.iload_n 1, 1) := by decide +kernel
theorem dX8_rule_30 : decode cX8_rule 30 = .ok (.invokevirtual 216, 3) := by decide +kernel
theorem dX8_rule_33 : decode cX8_rule 33 = .ok (.iload_n 2, 1) := by decide +kernel
theorem dX8_rule_34 : decode cX8_rule 34 = .ok (.iconst 1, 1) := by decide +kernel
theorem dX8_rule_35 : decode cX8_rule 35 = .ok (.if_icmp .ne 11, 3) := by decide +kernel
theorem dX8_rule_38 : decode cX8_rule 38 = .ok (.aload_n 0, 1) := by decide +kernel
theorem dX8_rule_39 : decode cX8_rule 39 = .ok (.getfield 43, 3) := by decide +kernel
theorem dX8_rule_42 : decode cX8_rule 42 = .ok (.invokevirtual 220, 3) := by decide +kernel
theorem dX8_rule_45 : decode cX8_rule 45 = .ok (.ireturn, 1) := by decide +kernel
theorem dX8_rule_46 : decode cX8_rule 46 = .ok (.aload_n 0, 1) := by decide +kernel
theorem dX8_rule_47 : decode cX8_rule 47 = .ok (.getfield 16, 3) := by decide +kernel
theorem dX8_rule_50 : decode cX8_rule 50 = .ok (.aload_n 0, 1) := by decide +kernel
theorem dX8_rule_51 : decode cX8_rule 51 = .ok (.getfield 10, 3) := by decide +kernel
theorem dX8_rule_54 : decode cX8_rule 54 = .ok (.invokevirtual 172, 3) := by decide +kernel
theorem dX8_rule_57 : decode cX8_rule 57 = .ok (.aload_n 0, 1) := by decide +kernel
theorem dX8_rule_58 : decode cX8_rule 58 = .ok (.getfield 16, 3) := by decide +kernel
theorem dX8_rule_61 : decode cX8_rule 61 = .ok (.aload_n 0, 1) := by decide +kernel
theorem dX8_rule_62 : decode cX8_rule 62 = .ok (.getfield 43, 3) := by decide +kernel
theorem dX8_rule_65 : decode cX8_rule 65 = .ok (.aload_n 0, 1) := by decide +kernel
theorem dX8_rule_66 : decode cX8_rule 66 = .ok (.getfield 43, 3) := by decide +kernel
theorem dX8_rule_69 : decode cX8_rule 69 = .ok (.getfield 196, 3) := by decide +kernel
theorem dX8_rule_72 : decode cX8_rule 72 = .ok (.invokevirtual 197, 3) := by decide +kernel
theorem dX8_rule_75 : decode cX8_rule 75 = .ok (.aload_n 0, 1) := by decide +kernel
theorem dX8_rule_76 : decode cX8_rule 76 = .ok (.getfield 16, 3) := by decide +kernel
theorem dX8_rule_79 : decode cX8_rule 79 = .ok (.invokevirtual 68, 3) := by decide +kernel
theorem dX8_rule_82 : decode cX8_rule 82 = .ok (.ireturn, 1) := by decide +kernel
theorem dX8_ahead_0 : decode cX8_ahead 0 = .ok (.aload_n 0, 1) := by decide +kernel
theorem dX8_ahead_1 : decode cX8_ahead 1 = .ok (.getfield 10, 3) := by decide +kernel
theorem dX8_ahead_4 : decode cX8_ahead 4 = .ok (.iload_n 1, 1) := by decide +kernel
theorem dX8_ahead_5 : decode cX8_ahead 5 = .ok (.iload_n 2, 1) := by decide +kernel
theorem dX8_ahead_6 : decode cX8_ahead 6 = .ok (.invokevirtual 159, 3) := by decide +kernel
theorem dX8_ahead_9 : decode cX8_ahead 9 = .ok (.ifCond .eq 25, 3) := by decide +kernel
theorem dX8_ahead_12 : decode cX8_ahead 12 = .ok (.aload_n 0, 1) := by decide +kernel
theorem dX8_ahead_13 : decode cX8_ahead 13 = .ok (.getfield 10, 3) := by decide +kernel
theorem dX8_ahead_16 : decode cX8_ahead 16 = .ok (.iload_n 1, 1) := by decide +kernel
theorem dX8_ahead_17 : decode cX8_ahead 17 = .ok (.invokevirtual 127, 3) := by decide +kernel
theorem dX8_ahead_20 : decode cX8_ahead 20 = .ok (.ifCond .ne 14, 3) := by decide +kernel
theorem dX8_ahead_23 : decode cX8_ahead 23 = .ok (.aload_n 0, 1) := by decide +kernel
theorem dX8_ahead_24 : decode cX8_ahead 24 = .ok (.getfield 10, 3) := by decide +kernel
theorem dX8_ahead_27 : decode cX8_ahead 27 = .ok (.iload_n 2, 1) := by decide +kernel
theorem dX8_ahead_28 : decode cX8_ahead 28 = .ok (.invokevirtual 127, 3) := by decide +kernel
theorem dX8_ahead_31 : decode cX8_ahead 31 = .ok (.ifCond .eq 6, 3) := by decide +kernel
theorem dX8_ahead_34 : decode cX8_ahead 34 = .ok (.ldc 223, 2) := by decide +kernel
theorem dX8_ahead_36 : decode cX8_ahead 36 = .ok (.ireturn, 1) := by decide +kernel
theorem dX8_ahead_37 : decode cX8_ahead 37 = .ok (.aload_n 0, 1) := by decide +kernel
theorem dX8_ahead_38 : decode cX8_ahead 38 = .ok (.getfield 43, 3) := by decide +kernel
theorem dX8_ahead_41 : decode cX8_ahead 41 = .ok (.aload_n 0, 1) := by decide +kernel
theorem dX8_ahead_42 : decode cX8_ahead 42 = .ok (.getfield 10, 3) := by decide +kernel
theorem dX8_ahead_45 : decode cX8_ahead 45 = .ok (.iconst 0, 1) := by decide +kernel
theorem dX8_ahead_46 : decode cX8_ahead 46 = .ok (.invokevirtual 216, 3) := by decide +kernel
theorem dX8_ahead_49 : decode cX8_ahead 49 = .ok (.aload_n 0, 1) := by decide +kernel
theorem dX8_ahead_50 : decode cX8_ahead 50 = .ok (.iload_n 1, 1) := by decide +kernel
theorem dX8_ahead_51 : decode cX8_ahead 51 = .ok (.invokevirtual 224, 3) := by decide +kernel
theorem dX8_ahead_54 : decode cX8_ahead 54 = .ok (.istore_n 3, 1) := by decide +kernel
theorem dX8_ahead_55 : decode cX8_ahead 55 = .ok (.aload_n 0, 1) := by decide +kernel
theorem dX8_ahead_56 : decode cX8_ahead 56 = .ok (.getfield 43, 3) := by decide +kernel
theorem dX8_ahead_59 : decode cX8_ahead 59 = .ok (.iload_n 1, 1) := by decide +kernel
theorem dX8_ahead_60 : decode cX8_ahead 60 = .ok (.iload_n 2, 1) := by decide +kernel
theorem dX8_ahead_61 : decode cX8_ahead 61 = .ok (.invokevirtual 227, 3) := by decide +kernel
theorem dX8_ahead_64 : decode cX8_ahead 64 = .ok (.aload_n 0, 1) := by decide +kernel
theorem dX8_ahead_65 : decode cX8_ahead 65 = .ok (.iload_n 1, 1) := by decide +kernel
theorem dX8_ahead_66 : decode cX8_ahead 66 = .ok (.invokevirtual 224, 3) := by decide +kernel
theorem dX8_ahead_69 : decode cX8_ahead 69 = .ok (.iload_n 3, 1) := by decide +kernel
theorem dX8_ahead_70 : decode cX8_ahead 70 = .ok (.isub, 1) := by decide +kernel
theorem dX8_ahead_71 : decode cX8_ahead 71 = .ok (.ireturn, 1) := by decide +kernel
theorem dX8_worthInOrder_0 : decode cX8_worthInOrder 0 = .ok (.aload_n 0, 1) := by decide +kernel
theorem dX8_worthInOrder_1 : decode cX8_worthInOrder 1 = .ok (.getfield 43, 3) := by decide +kernel
theorem dX8_worthInOrder_4 : decode cX8_worthInOrder 4 = .ok (.iload_n 1, 1) := by decide +kernel
theorem dX8_worthInOrder_5 : decode cX8_worthInOrder 5 = .ok (.invokevirtual 230, 3) := by decide +kernel
theorem dX8_worthInOrder_8 : decode cX8_worthInOrder 8 = .ok (.istore_n 2, 1) := by decide +kernel
theorem dX8_worthInOrder_9 : decode cX8_worthInOrder 9 = .ok (.aload_n 0, 1) := by decide +kernel
theorem dX8_worthInOrder_10 : decode cX8_worthInOrder 10 = .ok (.getfield 16, 3) := by decide +kernel
theorem dX8_worthInOrder_13 : decode cX8_worthInOrder 13 = .ok (.aload_n 0, 1) := by decide +kernel
theorem dX8_worthInOrder_14 : decode cX8_worthInOrder 14 = .ok (.getfield 10, 3) := by decide +kernel
theorem dX8_worthInOrder_17 : decode cX8_worthInOrder 17 = .ok (.invokevirtual 172, 3) := by decide +kernel
theorem dX8_worthInOrder_20 : decode cX8_worthInOrder 20 = .ok (.aload_n 0, 1) := by decide +kernel
theorem dX8_worthInOrder_21 : decode cX8_worthInOrder 21 = .ok (.getfield 16, 3) := by decide +kernel
theorem dX8_worthInOrder_24 : decode cX8_worthInOrder 24 = .ok (.aload_n 0, 1) := by decide +kernel
theorem dX8_worthInOrder_25 : decode cX8_worthInOrder 25 = .ok (.getfield 43, 3) := by decide +kernel
theorem dX8_worthInOrder_28 : decode cX8_worthInOrder 28 = .ok (.iload_n 2, 1) := by decide +kernel
theorem dX8_worthInOrder_29 : decode cX8_worthInOrder 29 = .ok (.invokevirtual 197, 3) := by decide +kernel
theorem dX8_worthInOrder_32 : decode cX8_worthInOrder 32 = .ok (.aload_n 0, 1) := by decide +kernel
theorem dX8_worthInOrder_33 : decode cX8_worthInOrder 33 = .ok (.getfield 29, 3) := by decide +kernel
theorem dX8_worthInOrder_36 : decode cX8_worthInOrder 36 = .ok (.iconst 0, 1) := by decide +kernel
theorem dX8_worthInOrder_37 : decode cX8_worthInOrder 37 = .ok (.aload_n 0, 1) := by decide +kernel
theorem dX8_worthInOrder_38 : decode cX8_worthInOrder 38 = .ok (.getfield 16, 3) := by decide +kernel
theorem dX8_worthInOrder_41 : decode cX8_worthInOrder 41 = .ok (.iload_n 1, 1) := by decide +kernel
theorem dX8_worthInOrder_42 : decode cX8_worthInOrder 42 = .ok (.aload_n 0, 1) := by decide +kernel
theorem dX8_worthInOrder_43 : decode cX8_worthInOrder 43 = .ok (.getfield 16, 3) := by decide +kernel
theorem dX8_worthInOrder_46 : decode cX8_worthInOrder 46 = .ok (.iload_n 1, 1) := by decide +kernel
theorem dX8_worthInOrder_47 : decode cX8_worthInOrder 47 = .ok (.invokevirtual 136, 3) := by decide +kernel
theorem dX8_worthInOrder_50 : decode cX8_worthInOrder 50 = .ok (.iload_n 2, 1) := by decide +kernel
theorem dX8_worthInOrder_51 : decode cX8_worthInOrder 51 = .ok (.invokevirtual 101, 3) := by decide +kernel
theorem dX8_worthInOrder_54 : decode cX8_worthInOrder 54 = .ok (.ireturn, 1) := by decide +kernel
theorem dX8_built_0 : decode cX8_built 0 = .ok (.iload_n 1, 1) := by decide +kernel
theorem dX8_built_1 : decode cX8_built 1 = .ok (.ifCond .lt 8, 3) := by decide +kernel
theorem dX8_built_4 : decode cX8_built 4 = .ok (.iload_n 1, 1) := by decide +kernel
theorem dX8_built_5 : decode cX8_built 5 = .ok (.iconst 1, 1) := by decide +kernel
theorem dX8_built_6 : decode cX8_built 6 = .ok (.if_icmp .le 6, 3) := by decide +kernel
theorem dX8_built_9 : decode cX8_built 9 = .ok (.bipush (-2), 2) := by decide +kernel
theorem dX8_built_11 : decode cX8_built 11 = .ok (.ireturn, 1) := by decide +kernel
theorem dX8_built_12 : decode cX8_built 12 = .ok (.aload_n 0, 1) := by decide +kernel
theorem dX8_built_13 : decode cX8_built 13 = .ok (.getfield 57, 3) := by decide +kernel
theorem dX8_built_16 : decode cX8_built 16 = .ok (.aload_n 0, 1) := by decide +kernel
theorem dX8_built_17 : decode cX8_built 17 = .ok (.getfield 10, 3) := by decide +kernel
theorem dX8_built_20 : decode cX8_built 20 = .ok (.iconst 0, 1) := by decide +kernel
theorem dX8_built_21 : decode cX8_built 21 = .ok (.aload_n 0, 1) := by decide +kernel
theorem dX8_built_22 : decode cX8_built 22 = .ok (.getfield 10, 3) := by decide +kernel
theorem dX8_built_25 : decode cX8_built 25 = .ok (.getfield 65, 3) := by decide +kernel
theorem dX8_built_28 : decode cX8_built 28 = .ok (.aload_n 0, 1) := by decide +kernel
theorem dX8_built_29 : decode cX8_built 29 = .ok (.getfield 10, 3) := by decide +kernel
theorem dX8_built_32 : decode cX8_built 32 = .ok (.getfield 142, 3) := by decide +kernel
theorem dX8_built_35 : decode cX8_built 35 = .ok (.iconst 0, 1) := by decide +kernel
theorem dX8_built_36 : decode cX8_built 36 = .ok (.invokevirtual 233, 3) := by decide +kernel
theorem dX8_built_39 : decode cX8_built 39 = .ok (.istore_n 2, 1) := by decide +kernel
theorem dX8_built_40 : decode cX8_built 40 = .ok (.iload_n 1, 1) := by decide +kernel
theorem dX8_built_41 : decode cX8_built 41 = .ok (.ifCond .ne 7, 3) := by decide +kernel
theorem dX8_built_44 : decode cX8_built 44 = .ok (.iload_n 2, 1) := by decide +kernel
theorem dX8_built_45 : decode cX8_built 45 = .ok (.goto 10, 3) := by decide +kernel
theorem dX8_built_48 : decode cX8_built 48 = .ok (.aload_n 0, 1) := by decide +kernel
theorem dX8_built_49 : decode cX8_built 49 = .ok (.getfield 57, 3) := by decide +kernel
theorem dX8_built_52 : decode cX8_built 52 = .ok (.invokevirtual 237, 3) := by decide +kernel
theorem dX8_built_55 : decode cX8_built 55 = .ok (.ireturn, 1) := by decide +kernel
theorem dX8_blame_0 : decode cX8_blame 0 = .ok (.aload_n 0, 1) := by decide +kernel
theorem dX8_blame_1 : decode cX8_blame 1 = .ok (.getfield 57, 3) := by decide +kernel
theorem dX8_blame_4 : decode cX8_blame 4 = .ok (.aload_n 0, 1) := by decide +kernel
theorem dX8_blame_5 : decode cX8_blame 5 = .ok (.getfield 10, 3) := by decide +kernel
theorem dX8_blame_8 : decode cX8_blame 8 = .ok (.iconst 0, 1) := by decide +kernel
theorem dX8_blame_9 : decode cX8_blame 9 = .ok (.aload_n 0, 1) := by decide +kernel
theorem dX8_blame_10 : decode cX8_blame 10 = .ok (.getfield 10, 3) := by decide +kernel
theorem dX8_blame_13 : decode cX8_blame 13 = .ok (.getfield 65, 3) := by decide +kernel
theorem dX8_blame_16 : decode cX8_blame 16 = .ok (.aload_n 0, 1) := by decide +kernel
theorem dX8_blame_17 : decode cX8_blame 17 = .ok (.getfield 10, 3) := by decide +kernel
theorem dX8_blame_20 : decode cX8_blame 20 = .ok (.getfield 142, 3) := by decide +kernel
theorem dX8_blame_23 : decode cX8_blame 23 = .ok (.iconst 0, 1) := by decide +kernel
theorem dX8_blame_24 : decode cX8_blame 24 = .ok (.invokevirtual 233, 3) := by decide +kernel
theorem dX8_blame_27 : decode cX8_blame 27 = .ok (.ifCond .le 5, 3) := by decide +kernel
theorem dX8_blame_30 : decode cX8_blame 30 = .ok (.iconst 0, 1) := by decide +kernel
theorem dX8_blame_31 : decode cX8_blame 31 = .ok (.ireturn, 1) := by decide +kernel
theorem dX8_blame_32 : decode cX8_blame 32 = .ok (.iconst 0, 1) := by decide +kernel
theorem dX8_blame_33 : decode cX8_blame 33 = .ok (.istore_n 1, 1) := by decide +kernel
theorem dX8_blame_34 : decode cX8_blame 34 = .ok (.iconst 0, 1) := by decide +kernel
theorem dX8_blame_35 : decode cX8_blame 35 = .ok (.istore_n 2, 1) := by decide +kernel
theorem dX8_blame_36 : decode cX8_blame 36 = .ok (.iload_n 2, 1) := by decide +kernel
theorem dX8_blame_37 : decode cX8_blame 37 = .ok (.aload_n 0, 1) := by decide +kernel
theorem dX8_blame_38 : decode cX8_blame 38 = .ok (.getfield 10, 3) := by decide +kernel
theorem dX8_blame_41 : decode cX8_blame 41 = .ok (.getfield 61, 3) := by decide +kernel
theorem dX8_blame_44 : decode cX8_blame 44 = .ok (.if_icmp .ge 58, 3) := by decide +kernel
theorem dX8_blame_47 : decode cX8_blame 47 = .ok (.aload_n 0, 1) := by decide +kernel
theorem dX8_blame_48 : decode cX8_blame 48 = .ok (.getfield 10, 3) := by decide +kernel
theorem dX8_blame_51 : decode cX8_blame 51 = .ok (.iload_n 2, 1) := by decide +kernel
theorem dX8_blame_52 : decode cX8_blame 52 = .ok (.invokevirtual 127, 3) := by decide +kernel
theorem dX8_blame_55 : decode cX8_blame 55 = .ok (.ifCond .eq 41, 3) := by decide +kernel
theorem dX8_blame_58 : decode cX8_blame 58 = .ok (.aload_n 0, 1) := by decide +kernel
theorem dX8_blame_59 : decode cX8_blame 59 = .ok (.getfield 57, 3) := by decide +kernel
theorem dX8_blame_62 : decode cX8_blame 62 = .ok (.aload_n 0, 1) := by decide +kernel
theorem dX8_blame_63 : decode cX8_blame 63 = .ok (.getfield 10, 3) := by decide +kernel
theorem dX8_blame_66 : decode cX8_blame 66 = .ok (.iconst 0, 1) := by decide +kernel
theorem dX8_blame_67 : decode cX8_blame 67 = .ok (.aload_n 0, 1) := by decide +kernel
theorem dX8_blame_68 : decode cX8_blame 68 = .ok (.getfield 10, 3) := by decide +kernel
theorem dX8_blame_71 : decode cX8_blame 71 = .ok (.getfield 65, 3) := by decide +kernel
theorem dX8_blame_74 : decode cX8_blame 74 = .ok (.aload_n 0, 1) := by decide +kernel
theorem dX8_blame_75 : decode cX8_blame 75 = .ok (.getfield 10, 3) := by decide +kernel
theorem dX8_blame_78 : decode cX8_blame 78 = .ok (.getfield 142, 3) := by decide +kernel
theorem dX8_blame_81 : decode cX8_blame 81 = .ok (.iconst 1, 1) := by decide +kernel
theorem dX8_blame_82 : decode cX8_blame 82 = .ok (.iload_n 2, 1) := by decide +kernel
theorem dX8_blame_83 : decode cX8_blame 83 = .ok (.ishl, 1) := by decide +kernel
theorem dX8_blame_84 : decode cX8_blame 84 = .ok (.invokevirtual 233, 3) := by decide +kernel
theorem dX8_blame_87 : decode cX8_blame 87 = .ok (.ifCond .le 9, 3) := by decide +kernel
theorem dX8_blame_90 : decode cX8_blame 90 = .ok (.iload_n 1, 1) := by decide +kernel
theorem dX8_blame_91 : decode cX8_blame 91 = .ok (.iconst 1, 1) := by decide +kernel
theorem dX8_blame_92 : decode cX8_blame 92 = .ok (.iload_n 2, 1) := by decide +kernel
theorem dX8_blame_93 : decode cX8_blame 93 = .ok (.ishl, 1) := by decide +kernel
theorem dX8_blame_94 : decode cX8_blame 94 = .ok (.ior, 1) := by decide +kernel
theorem dX8_blame_95 : decode cX8_blame 95 = .ok (.istore_n 1, 1) := by decide +kernel
theorem dX8_blame_96 : decode cX8_blame 96 = .ok (.iinc 2 1, 3) := by decide +kernel
theorem dX8_blame_99 : decode cX8_blame 99 = .ok (.goto (-63), 3) := by decide +kernel
theorem dX8_blame_102 : decode cX8_blame 102 = .ok (.iload_n 1, 1) := by decide +kernel
theorem dX8_blame_103 : decode cX8_blame 103 = .ok (.ireturn, 1) := by decide +kernel
theorem dX8_judge_0 : decode cX8_judge 0 = .ok (.aload_n 0, 1) := by decide +kernel
theorem dX8_judge_1 : decode cX8_judge 1 = .ok (.iload_n 1, 1) := by decide +kernel
theorem dX8_judge_2 : decode cX8_judge 2 = .ok (.invokevirtual 240, 3) := by decide +kernel
theorem dX8_judge_5 : decode cX8_judge 5 = .ok (.istore_n 2, 1) := by decide +kernel
theorem dX8_judge_6 : decode cX8_judge 6 = .ok (.iload_n 2, 1) := by decide +kernel
theorem dX8_judge_7 : decode cX8_judge 7 = .ok (.ifCond .eq 7, 3) := by decide +kernel
theorem dX8_judge_10 : decode cX8_judge 10 = .ok (.iload_n 2, 1) := by decide +kernel
theorem dX8_judge_11 : decode cX8_judge 11 = .ok (.goto 19, 3) := by decide +kernel
theorem dX8_judge_14 : decode cX8_judge 14 = .ok (.aload_n 0, 1) := by decide +kernel
theorem dX8_judge_15 : decode cX8_judge 15 = .ok (.iload_n 1, 1) := by decide +kernel
theorem dX8_judge_16 : decode cX8_judge 16 = .ok (.iconst 1, 1) := by decide +kernel
theorem dX8_judge_17 : decode cX8_judge 17 = .ok (.aload_n 0, 1) := by decide +kernel
theorem dX8_judge_18 : decode cX8_judge 18 = .ok (.getfield 10, 3) := by decide +kernel
theorem dX8_judge_21 : decode cX8_judge 21 = .ok (.getfield 61, 3) := by decide +kernel
theorem dX8_judge_24 : decode cX8_judge 24 = .ok (.ishl, 1) := by decide +kernel
theorem dX8_judge_25 : decode cX8_judge 25 = .ok (.iconst 1, 1) := by decide +kernel
theorem dX8_judge_26 : decode cX8_judge 26 = .ok (.isub, 1) := by decide +kernel
theorem dX8_judge_27 : decode cX8_judge 27 = .ok (.invokevirtual 243, 3) := by decide +kernel
theorem dX8_judge_30 : decode cX8_judge 30 = .ok (.ireturn, 1) := by decide +kernel
theorem dX8_refusalOfMap_0 : decode cX8_refusalOfMap 0 = .ok (.iload_n 1, 1) := by decide +kernel
theorem dX8_refusalOfMap_1 : decode cX8_refusalOfMap 1 = .ok (.invokestatic 201, 3) := by decide +kernel
theorem dX8_refusalOfMap_4 : decode cX8_refusalOfMap 4 = .ok (.ifCond .ne 6, 3) := by decide +kernel
theorem dX8_refusalOfMap_7 : decode cX8_refusalOfMap 7 = .ok (.bipush (-2), 2) := by decide +kernel
theorem dX8_refusalOfMap_9 : decode cX8_refusalOfMap 9 = .ok (.ireturn, 1) := by decide +kernel
theorem dX8_refusalOfMap_10 : decode cX8_refusalOfMap 10 = .ok (.aload_n 0, 1) := by decide +kernel
theorem dX8_refusalOfMap_11 : decode cX8_refusalOfMap 11 = .ok (.getfield 36, 3) := by decide +kernel
theorem dX8_refusalOfMap_14 : decode cX8_refusalOfMap 14 = .ok (.iload_n 1, 1) := by decide +kernel
theorem dX8_refusalOfMap_15 : decode cX8_refusalOfMap 15 = .ok (.invokevirtual 204, 3) := by decide +kernel
theorem dX8_refusalOfMap_18 : decode cX8_refusalOfMap 18 = .ok (.ifCond .eq 6, 3) := by decide +kernel
theorem dX8_refusalOfMap_21 : decode cX8_refusalOfMap 21 = .ok (.bipush (-11), 2) := by decide +kernel
theorem dX8_refusalOfMap_23 : decode cX8_refusalOfMap 23 = .ok (.ireturn, 1) := by decide +kernel
theorem dX8_refusalOfMap_24 : decode cX8_refusalOfMap 24 = .ok (.aload_n 0, 1) := by decide +kernel
theorem dX8_refusalOfMap_25 : decode cX8_refusalOfMap 25 = .ok (.getfield 36, 3) := by decide +kernel
theorem dX8_refusalOfMap_28 : decode cX8_refusalOfMap 28 = .ok (.getfield 246, 3) := by decide +kernel
theorem dX8_refusalOfMap_31 : decode cX8_refusalOfMap 31 = .ok (.iload_n 1, 1) := by decide +kernel
theorem dX8_refusalOfMap_32 : decode cX8_refusalOfMap 32 = .ok (.iaload, 1) := by decide +kernel
theorem dX8_refusalOfMap_33 : decode cX8_refusalOfMap 33 = .ok (.aload_n 0, 1) := by decide +kernel
theorem dX8_refusalOfMap_34 : decode cX8_refusalOfMap 34 = .ok (.getfield 10, 3) := by decide +kernel
theorem dX8_refusalOfMap_37 : decode cX8_refusalOfMap 37 = .ok (.getfield 61, 3) := by decide +kernel
theorem dX8_refusalOfMap_40 : decode cX8_refusalOfMap 40 = .ok (.if_icmp .ne 7, 3) := by decide +kernel
theorem dX8_refusalOfMap_43 : decode cX8_refusalOfMap 43 = .ok (.iconst 0, 1) := by decide +kernel
theorem dX8_refusalOfMap_44 : decode cX8_refusalOfMap 44 = .ok (.goto 5, 3) := by decide +kernel
theorem dX8_refusalOfMap_47 : decode cX8_refusalOfMap 47 = .ok (.bipush (-2), 2) := by decide +kernel
theorem dX8_refusalOfMap_49 : decode cX8_refusalOfMap 49 = .ok (.ireturn, 1) := by decide +kernel
theorem dX8_firstOtherwise_0 : decode cX8_firstOtherwise 0 = .ok (.iconst 0, 1) := by decide +kernel
theorem dX8_firstOtherwise_1 : decode cX8_firstOtherwise 1 = .ok (.istore_n 3, 1) := by decide +kernel
theorem dX8_firstOtherwise_2 : decode cX8_firstOtherwise 2 = .ok (.iload_n 3, 1) := by decide +kernel
theorem dX8_firstOtherwise_3 : decode cX8_firstOtherwise 3 = .ok (.aload_n 0, 1) := by decide +kernel
theorem dX8_firstOtherwise_4 : decode cX8_firstOtherwise 4 = .ok (.getfield 10, 3) := by decide +kernel
theorem dX8_firstOtherwise_7 : decode cX8_firstOtherwise 7 = .ok (.getfield 61, 3) := by decide +kernel
theorem dX8_firstOtherwise_10 : decode cX8_firstOtherwise 10 = .ok (.if_icmp .ge 39, 3) := by decide +kernel
theorem dX8_firstOtherwise_13 : decode cX8_firstOtherwise 13 = .ok (.iload_n 2, 1) := by decide +kernel
theorem dX8_firstOtherwise_14 : decode cX8_firstOtherwise 14 = .ok (.iload_n 3, 1) := by decide +kernel
theorem dX8_firstOtherwise_15 : decode cX8_firstOtherwise 15 = .ok (.ishr, 1) := by decide +kernel
theorem dX8_firstOtherwise_16 : decode cX8_firstOtherwise 16 = .ok (.iconst 1, 1) := by decide +kernel
theorem dX8_firstOtherwise_17 : decode cX8_firstOtherwise 17 = .ok (.iand, 1) := by decide +kernel
theorem dX8_firstOtherwise_18 : decode cX8_firstOtherwise 18 = .ok (.ifCond .eq 25, 3) := by decide +kernel
theorem dX8_firstOtherwise_21 : decode cX8_firstOtherwise 21 = .ok (.aload_n 0, 1) := by decide +kernel
theorem dX8_firstOtherwise_22 : decode cX8_firstOtherwise 22 = .ok (.getfield 36, 3) := by decide +kernel
theorem dX8_firstOtherwise_25 : decode cX8_firstOtherwise 25 = .ok (.iload_n 1, 1) := by decide +kernel
theorem dX8_firstOtherwise_26 : decode cX8_firstOtherwise 26 = .ok (.iload_n 3, 1) := by decide +kernel
theorem dX8_firstOtherwise_27 : decode cX8_firstOtherwise 27 = .ok (.invokevirtual 249, 3) := by decide +kernel
theorem dX8_firstOtherwise_30 : decode cX8_firstOtherwise 30 = .ok (.aload_n 0, 1) := by decide +kernel
theorem dX8_firstOtherwise_31 : decode cX8_firstOtherwise 31 = .ok (.getfield 10, 3) := by decide +kernel
theorem dX8_firstOtherwise_34 : decode cX8_firstOtherwise 34 = .ok (.iload_n 3, 1) := by decide +kernel
theorem dX8_firstOtherwise_35 : decode cX8_firstOtherwise 35 = .ok (.invokevirtual 123, 3) := by decide +kernel
theorem dX8_firstOtherwise_38 : decode cX8_firstOtherwise 38 = .ok (.if_icmp .eq 5, 3) := by decide +kernel
theorem dX8_firstOtherwise_41 : decode cX8_firstOtherwise 41 = .ok (.iload_n 3, 1) := by decide +kernel
theorem dX8_firstOtherwise_42 : decode cX8_firstOtherwise 42 = .ok (.ireturn, 1) := by decide +kernel
theorem dX8_firstOtherwise_43 : decode cX8_firstOtherwise 43 = .ok (.iinc 3 1, 3) := by decide +kernel
theorem dX8_firstOtherwise_46 : decode cX8_firstOtherwise 46 = .ok (.goto (-44), 3) := by decide +kernel
theorem dX8_firstOtherwise_49 : decode cX8_firstOtherwise 49 = .ok (.iconst (-1), 1) := by decide +kernel
theorem dX8_firstOtherwise_50 : decode cX8_firstOtherwise 50 = .ok (.ireturn, 1) := by decide +kernel
theorem dX8_plans_0 : decode cX8_plans 0 = .ok (.aload_n 0, 1) := by decide +kernel
theorem dX8_plans_1 : decode cX8_plans 1 = .ok (.iload_n 1, 1) := by decide +kernel
theorem dX8_plans_2 : decode cX8_plans 2 = .ok (.invokevirtual 240, 3) := by decide +kernel
theorem dX8_plans_5 : decode cX8_plans 5 = .ok (.istore_n 3, 1) := by decide +kernel
theorem dX8_plans_6 : decode cX8_plans 6 = .ok (.iload_n 3, 1) := by decide +kernel
theorem dX8_plans_7 : decode cX8_plans 7 = .ok (.ifCond .eq 5, 3) := by decide +kernel
theorem dX8_plans_10 : decode cX8_plans 10 = .ok (.iload_n 3, 1) := by decide +kernel
theorem dX8_plans_11 : decode cX8_plans 11 = .ok (.ireturn, 1) := by decide +kernel
theorem dX8_plans_12 : decode cX8_plans 12 = .ok (.iload_n 2, 1) := by decide +kernel
theorem dX8_plans_13 : decode cX8_plans 13 = .ok (.ifCond .lt 8, 3) := by decide +kernel
theorem dX8_plans_16 : decode cX8_plans 16 = .ok (.iload_n 2, 1) := by decide +kernel
theorem dX8_plans_17 : decode cX8_plans 17 = .ok (.iconst 1, 1) := by decide +kernel
theorem dX8_plans_18 : decode cX8_plans 18 = .ok (.if_icmp .le 6, 3) := by decide +kernel
theorem dX8_plans_21 : decode cX8_plans 21 = .ok (.bipush (-7), 2) := by decide +kernel
theorem dX8_plans_23 : decode cX8_plans 23 = .ok (.ireturn, 1) := by decide +kernel
theorem dX8_plans_24 : decode cX8_plans 24 = .ok (.aload_n 0, 1) := by decide +kernel
theorem dX8_plans_25 : decode cX8_plans 25 = .ok (.iload_n 1, 1) := by decide +kernel
theorem dX8_plans_26 : decode cX8_plans 26 = .ok (.aload_n 0, 1) := by decide +kernel
theorem dX8_plans_27 : decode cX8_plans 27 = .ok (.getfield 10, 3) := by decide +kernel
theorem dX8_plans_30 : decode cX8_plans 30 = .ok (.getfield 65, 3) := by decide +kernel
theorem dX8_plans_33 : decode cX8_plans 33 = .ok (.invokevirtual 243, 3) := by decide +kernel
theorem dX8_plans_36 : decode cX8_plans 36 = .ok (.iconst (-1), 1) := by decide +kernel
theorem dX8_plans_37 : decode cX8_plans 37 = .ok (.if_icmp .eq 13, 3) := by decide +kernel
theorem dX8_plans_40 : decode cX8_plans 40 = .ok (.iload_n 2, 1) := by decide +kernel
theorem dX8_plans_41 : decode cX8_plans 41 = .ok (.ifCond .ne 7, 3) := by decide +kernel
theorem dX8_plans_44 : decode cX8_plans 44 = .ok (.iconst 0, 1) := by decide +kernel
theorem dX8_plans_45 : decode cX8_plans 45 = .ok (.goto 4, 3) := by decide +kernel
theorem dX8_plans_48 : decode cX8_plans 48 = .ok (.iconst (-1), 1) := by decide +kernel
theorem dX8_plans_49 : decode cX8_plans 49 = .ok (.ireturn, 1) := by decide +kernel
theorem dX8_plans_50 : decode cX8_plans 50 = .ok (.aload_n 0, 1) := by decide +kernel
theorem dX8_plans_51 : decode cX8_plans 51 = .ok (.getfield 57, 3) := by decide +kernel
theorem dX8_plans_54 : decode cX8_plans 54 = .ok (.aload_n 0, 1) := by decide +kernel
theorem dX8_plans_55 : decode cX8_plans 55 = .ok (.getfield 10, 3) := by decide +kernel
theorem dX8_plans_58 : decode cX8_plans 58 = .ok (.aload_n 0, 1) := by decide +kernel
theorem dX8_plans_59 : decode cX8_plans 59 = .ok (.getfield 10, 3) := by decide +kernel
theorem dX8_plans_62 : decode cX8_plans 62 = .ok (.getfield 65, 3) := by decide +kernel
theorem dX8_plans_65 : decode cX8_plans 65 = .ok (.aload_n 0, 1) := by decide +kernel
theorem dX8_plans_66 : decode cX8_plans 66 = .ok (.getfield 10, 3) := by decide +kernel
theorem dX8_plans_69 : decode cX8_plans 69 = .ok (.invokevirtual 190, 3) := by decide +kernel
theorem dX8_plans_72 : decode cX8_plans 72 = .ok (.aload_n 0, 1) := by decide +kernel
theorem dX8_plans_73 : decode cX8_plans 73 = .ok (.getfield 36, 3) := by decide +kernel
theorem dX8_plans_76 : decode cX8_plans 76 = .ok (.getfield 252, 3) := by decide +kernel
theorem dX8_plans_79 : decode cX8_plans 79 = .ok (.iload_n 1, 1) := by decide +kernel
theorem dX8_plans_80 : decode cX8_plans 80 = .ok (.aaload, 1) := by decide +kernel
theorem dX8_plans_81 : decode cX8_plans 81 = .ok (.iconst 0, 1) := by decide +kernel
theorem dX8_plans_82 : decode cX8_plans 82 = .ok (.invokevirtual 233, 3) := by decide +kernel
theorem dX8_plans_85 : decode cX8_plans 85 = .ok (.istore 4, 2) := by decide +kernel
theorem dX8_plans_87 : decode cX8_plans 87 = .ok (.iload_n 2, 1) := by decide +kernel
theorem dX8_plans_88 : decode cX8_plans 88 = .ok (.ifCond .ne 8, 3) := by decide +kernel
theorem dX8_plans_91 : decode cX8_plans 91 = .ok (.iload 4, 2) := by decide +kernel
theorem dX8_plans_93 : decode cX8_plans 93 = .ok (.goto 10, 3) := by decide +kernel
theorem dX8_plans_96 : decode cX8_plans 96 = .ok (.aload_n 0, 1) := by decide +kernel
theorem dX8_plans_97 : decode cX8_plans 97 = .ok (.getfield 57, 3) := by decide +kernel
theorem dX8_plans_100 : decode cX8_plans 100 = .ok (.invokevirtual 237, 3) := by decide +kernel
theorem dX8_plans_103 : decode cX8_plans 103 = .ok (.ireturn, 1) := by decide +kernel
theorem dX8_film_0 : decode cX8_film 0 = .ok (.iload_n 1, 1) := by decide +kernel
theorem dX8_film_1 : decode cX8_film 1 = .ok (.invokestatic 201, 3) := by decide +kernel
theorem dX8_film_4 : decode cX8_film 4 = .ok (.ifCond .ne 6, 3) := by decide +kernel
theorem dX8_film_7 : decode cX8_film 7 = .ok (.bipush (-2), 2) := by decide +kernel
theorem dX8_film_9 : decode cX8_film 9 = .ok (.ireturn, 1) := by decide +kernel
theorem dX8_film_10 : decode cX8_film 10 = .ok (.aload_n 0, 1) := by decide +kernel
theorem dX8_film_11 : decode cX8_film 11 = .ok (.getfield 36, 3) := by decide +kernel
theorem dX8_film_14 : decode cX8_film 14 = .ok (.iload_n 1, 1) := by decide +kernel
theorem dX8_film_15 : decode cX8_film 15 = .ok (.iconst 2, 1) := by decide +kernel
theorem dX8_film_16 : decode cX8_film 16 = .ok (.aload_n 0, 1) := by decide +kernel
theorem dX8_film_17 : decode cX8_film 17 = .ok (.getfield 10, 3) := by decide +kernel
theorem dX8_film_20 : decode cX8_film 20 = .ok (.getfield 61, 3) := by decide +kernel
theorem dX8_film_23 : decode cX8_film 23 = .ok (.invokevirtual 256, 3) := by decide +kernel
theorem dX8_film_26 : decode cX8_film 26 = .ok (.iconst 0, 1) := by decide +kernel
theorem dX8_film_27 : decode cX8_film 27 = .ok (.istore_n 2, 1) := by decide +kernel
theorem dX8_film_28 : decode cX8_film 28 = .ok (.iload_n 2, 1) := by decide +kernel
theorem dX8_film_29 : decode cX8_film 29 = .ok (.aload_n 0, 1) := by decide +kernel
theorem dX8_film_30 : decode cX8_film 30 = .ok (.getfield 10, 3) := by decide +kernel
theorem dX8_film_33 : decode cX8_film 33 = .ok (.getfield 61, 3) := by decide +kernel
theorem dX8_film_36 : decode cX8_film 36 = .ok (.if_icmp .ge 26, 3) := by decide +kernel
theorem dX8_film_39 : decode cX8_film 39 = .ok (.aload_n 0, 1) := by decide +kernel
theorem dX8_film_40 : decode cX8_film 40 = .ok (.getfield 36, 3) := by decide +kernel
theorem dX8_film_43 : decode cX8_film 43 = .ok (.iload_n 1, 1) := by decide +kernel
theorem dX8_film_44 : decode cX8_film 44 = .ok (.iload_n 2, 1) := by decide +kernel
theorem dX8_film_45 : decode cX8_film 45 = .ok (.aload_n 0, 1) := by decide +kernel
theorem dX8_film_46 : decode cX8_film 46 = .ok (.getfield 10, 3) := by decide +kernel
theorem dX8_film_49 : decode cX8_film 49 = .ok (.iload_n 2, 1) := by decide +kernel
theorem dX8_film_50 : decode cX8_film 50 = .ok (.invokevirtual 123, 3) := by decide +kernel
theorem dX8_film_53 : decode cX8_film 53 = .ok (.invokevirtual 260, 3) := by decide +kernel
theorem dX8_film_56 : decode cX8_film 56 = .ok (.iinc 2 1, 3) := by decide +kernel
theorem dX8_film_59 : decode cX8_film 59 = .ok (.goto (-31), 3) := by decide +kernel
theorem dX8_film_62 : decode cX8_film 62 = .ok (.aload_n 0, 1) := by decide +kernel
theorem dX8_film_63 : decode cX8_film 63 = .ok (.getfield 10, 3) := by decide +kernel
theorem dX8_film_66 : decode cX8_film 66 = .ok (.getfield 61, 3) := by decide +kernel
theorem dX8_film_69 : decode cX8_film 69 = .ok (.ireturn, 1) := by decide +kernel
theorem dX8_laws_0 : decode cX8_laws 0 = .ok (.aload_n 0, 1) := by decide +kernel
theorem dX8_laws_1 : decode cX8_laws 1 = .ok (.iload_n 1, 1) := by decide +kernel
theorem dX8_laws_2 : decode cX8_laws 2 = .ok (.iload_n 2, 1) := by decide +kernel
theorem dX8_laws_3 : decode cX8_laws 3 = .ok (.invokevirtual 149, 3) := by decide +kernel
theorem dX8_laws_6 : decode cX8_laws 6 = .ok (.istore 4, 2) := by decide +kernel
theorem dX8_laws_8 : decode cX8_laws 8 = .ok (.iload 4, 2) := by decide +kernel
theorem dX8_laws_10 : decode cX8_laws 10 = .ok (.ifCond .eq 6, 3) := by decide +kernel
theorem dX8_laws_13 : decode cX8_laws 13 = .ok (.iload 4, 2) := by decide +kernel
theorem dX8_laws_15 : decode cX8_laws 15 = .ok (.ireturn, 1) := by decide +kernel
theorem dX8_laws_16 : decode cX8_laws 16 = .ok (.iload_n 3, 1) := by decide +kernel
theorem dX8_laws_17 : decode cX8_laws 17 = .ok (.ifCond .lt 9, 3) := by decide +kernel
theorem dX8_laws_20 : decode cX8_laws 20 = .ok (.iload_n 3, 1) := by decide +kernel
theorem dX8_laws_21 : decode cX8_laws 21 = .ok (.bipush 20, 2) := by decide +kernel
theorem dX8_laws_23 : decode cX8_laws 23 = .ok (.if_icmp .le 6, 3) := by decide +kernel
theorem dX8_laws_26 : decode cX8_laws 26 = .ok (.bipush (-7), 2) := by decide +kernel
theorem dX8_laws_28 : decode cX8_laws 28 = .ok (.ireturn, 1) := by decide +kernel
theorem dX8_laws_29 : decode cX8_laws 29 = .ok (.iconst 0, 1) := by decide +kernel
theorem dX8_laws_30 : decode cX8_laws 30 = .ok (.istore 5, 2) := by decide +kernel
theorem dX8_laws_32 : decode cX8_laws 32 = .ok (.iconst 0, 1) := by decide +kernel
theorem dX8_laws_33 : decode cX8_laws 33 = .ok (.istore 6, 2) := by decide +kernel
theorem dX8_laws_35 : decode cX8_laws 35 = .ok (.iload 6, 2) := by decide +kernel
theorem dX8_laws_37 : decode cX8_laws 37 = .ok (.aload_n 0, 1) := by decide +kernel
theorem dX8_laws_38 : decode cX8_laws 38 = .ok (.getfield 29, 3) := by decide +kernel
theorem dX8_laws_41 : decode cX8_laws 41 = .ok (.getfield 75, 3) := by decide +kernel
theorem dX8_laws_44 : decode cX8_laws 44 = .ok (.if_icmp .ge 30, 3) := by decide +kernel
theorem dX8_laws_47 : decode cX8_laws 47 = .ok (.aload_n 0, 1) := by decide +kernel
theorem dX8_laws_48 : decode cX8_laws 48 = .ok (.iload_n 1, 1) := by decide +kernel
theorem dX8_laws_49 : decode cX8_laws 49 = .ok (.iload_n 2, 1) := by decide +kernel
theorem dX8_laws_50 : decode cX8_laws 50 = .ok (.iload 6, 2) := by decide +kernel
theorem dX8_laws_52 : decode cX8_laws 52 = .ok (.invokevirtual 169, 3) := by decide +kernel
theorem dX8_laws_55 : decode cX8_laws 55 = .ok (.iload_n 3, 1) := by decide +kernel
theorem dX8_laws_56 : decode cX8_laws 56 = .ok (.if_icmp .ne 12, 3) := by decide +kernel
theorem dX8_laws_59 : decode cX8_laws 59 = .ok (.iload 5, 2) := by decide +kernel
theorem dX8_laws_61 : decode cX8_laws 61 = .ok (.iconst 1, 1) := by decide +kernel
theorem dX8_laws_62 : decode cX8_laws 62 = .ok (.iload 6, 2) := by decide +kernel
theorem dX8_laws_64 : decode cX8_laws 64 = .ok (.ishl, 1) := by decide +kernel
theorem dX8_laws_65 : decode cX8_laws 65 = .ok (.ior, 1) := by decide +kernel
theorem dX8_laws_66 : decode cX8_laws 66 = .ok (.istore 5, 2) := by decide +kernel
theorem dX8_laws_68 : decode cX8_laws 68 = .ok (.iinc 6 1, 3) := by decide +kernel
theorem dX8_laws_71 : decode cX8_laws 71 = .ok (.goto (-36), 3) := by decide +kernel
theorem dX8_laws_74 : decode cX8_laws 74 = .ok (.iload 5, 2) := by decide +kernel
theorem dX8_laws_76 : decode cX8_laws 76 = .ok (.ireturn, 1) := by decide +kernel
theorem dX8_drawn_0 : decode cX8_drawn 0 = .ok (.iload_n 1, 1) := by decide +kernel
theorem dX8_drawn_1 : decode cX8_drawn 1 = .ok (.invokestatic 263, 3) := by decide +kernel
theorem dX8_drawn_4 : decode cX8_drawn 4 = .ok (.ifCond .eq 11, 3) := by decide +kernel
