theorem dX0_init_0 : decode cX0_init 0 = .ok (.aload_n 0, 1) := by decide +kernel
theorem dX0_init_1 : decode cX0_init 1 = .ok (.invokespecial 3, 3) := by decide +kernel
theorem dX0_init_4 : decode cX0_init 4 = .ok (.aload_n 0, 1) := by decide +kernel
theorem dX0_init_5 : decode cX0_init 5 = .ok (.sipush 128, 3) := by decide +kernel
theorem dX0_init_8 : decode cX0_init 8 = .ok (.newarray .int, 2) := by decide +kernel
theorem dX0_init_10 : decode cX0_init 10 = .ok (.putfield 11, 3) := by decide +kernel
theorem dX0_init_13 : decode cX0_init 13 = .ok (.aload_n 0, 1) := by decide +kernel
theorem dX0_init_14 : decode cX0_init 14 = .ok (.sipush 128, 3) := by decide +kernel
theorem dX0_init_17 : decode cX0_init 17 = .ok (.newarray .int, 2) := by decide +kernel
theorem dX0_init_19 : decode cX0_init 19 = .ok (.putfield 15, 3) := by decide +kernel
theorem dX0_init_22 : decode cX0_init 22 = .ok (.return_, 1) := by decide +kernel
theorem dX0_countOrders_0 : decode cX0_countOrders 0 = .ok (.aload_n 0, 1) := by decide +kernel
theorem dX0_countOrders_1 : decode cX0_countOrders 1 = .ok (.iload_n 3, 1) := by decide +kernel
theorem dX0_countOrders_2 : decode cX0_countOrders 2 = .ok (.bipush 127, 2) := by decide +kernel
theorem dX0_countOrders_4 : decode cX0_countOrders 4 = .ok (.iand, 1) := by decide +kernel
theorem dX0_countOrders_5 : decode cX0_countOrders 5 = .ok (.putfield 18, 3) := by decide +kernel
theorem dX0_countOrders_8 : decode cX0_countOrders 8 = .ok (.bipush 127, 2) := by decide +kernel
theorem dX0_countOrders_10 : decode cX0_countOrders 10 = .ok (.istore 6, 2) := by decide +kernel
theorem dX0_countOrders_12 : decode cX0_countOrders 12 = .ok (.iload 6, 2) := by decide +kernel
theorem dX0_countOrders_14 : decode cX0_countOrders 14 = .ok (.ifCond .lt 162, 3) := by decide +kernel
theorem dX0_countOrders_17 : decode cX0_countOrders 17 = .ok (.aload_n 0, 1) := by decide +kernel
theorem dX0_countOrders_18 : decode cX0_countOrders 18 = .ok (.getfield 11, 3) := by decide +kernel
theorem dX0_countOrders_21 : decode cX0_countOrders 21 = .ok (.iload 6, 2) := by decide +kernel
theorem dX0_countOrders_23 : decode cX0_countOrders 23 = .ok (.iload 6, 2) := by decide +kernel
theorem dX0_countOrders_25 : decode cX0_countOrders 25 = .ok (.aload_n 0, 1) := by decide +kernel
theorem dX0_countOrders_26 : decode cX0_countOrders 26 = .ok (.getfield 18, 3) := by decide +kernel
theorem dX0_countOrders_29 : decode cX0_countOrders 29 = .ok (.if_icmp .ne 7, 3) := by decide +kernel
theorem dX0_countOrders_32 : decode cX0_countOrders 32 = .ok (.iconst 1, 1) := by decide +kernel
theorem dX0_countOrders_33 : decode cX0_countOrders 33 = .ok (.goto 4, 3) := by decide +kernel
theorem dX0_countOrders_36 : decode cX0_countOrders 36 = .ok (.iconst 0, 1) := by decide +kernel
theorem dX0_countOrders_37 : decode cX0_countOrders 37 = .ok (.iastore, 1) := by decide +kernel
theorem dX0_countOrders_38 : decode cX0_countOrders 38 = .ok (.aload_n 0, 1) := by decide +kernel
theorem dX0_countOrders_39 : decode cX0_countOrders 39 = .ok (.getfield 15, 3) := by decide +kernel
theorem dX0_countOrders_42 : decode cX0_countOrders 42 = .ok (.iload 6, 2) := by decide +kernel
theorem dX0_countOrders_44 : decode cX0_countOrders 44 = .ok (.iconst 0, 1) := by decide +kernel
theorem dX0_countOrders_45 : decode cX0_countOrders 45 = .ok (.iastore, 1) := by decide +kernel
theorem dX0_countOrders_46 : decode cX0_countOrders 46 = .ok (.iload 6, 2) := by decide +kernel
theorem dX0_countOrders_48 : decode cX0_countOrders 48 = .ok (.aload_n 0, 1) := by decide +kernel
theorem dX0_countOrders_49 : decode cX0_countOrders 49 = .ok (.getfield 18, 3) := by decide +kernel
theorem dX0_countOrders_52 : decode cX0_countOrders 52 = .ok (.iconst (-1), 1) := by decide +kernel
theorem dX0_countOrders_53 : decode cX0_countOrders 53 = .ok (.ixor, 1) := by decide +kernel
theorem dX0_countOrders_54 : decode cX0_countOrders 54 = .ok (.iand, 1) := by decide +kernel
theorem dX0_countOrders_55 : decode cX0_countOrders 55 = .ok (.ifCond .ne 115, 3) := by decide +kernel
theorem dX0_countOrders_58 : decode cX0_countOrders 58 = .ok (.iconst 0, 1) := by decide +kernel
theorem dX0_countOrders_59 : decode cX0_countOrders 59 = .ok (.istore 7, 2) := by decide +kernel
theorem dX0_countOrders_61 : decode cX0_countOrders 61 = .ok (.iload 7, 2) := by decide +kernel
theorem dX0_countOrders_63 : decode cX0_countOrders 63 = .ok (.aload_n 1, 1) := by decide +kernel
theorem dX0_countOrders_64 : decode cX0_countOrders 64 = .ok (.getfield 22, 3) := by decide +kernel
theorem dX0_countOrders_67 : decode cX0_countOrders 67 = .ok (.if_icmp .ge 103, 3) := by decide +kernel
theorem dX0_countOrders_70 : decode cX0_countOrders 70 = .ok (.iconst 1, 1) := by decide +kernel
theorem dX0_countOrders_71 : decode cX0_countOrders 71 = .ok (.iload 7, 2) := by decide +kernel
theorem dX0_countOrders_73 : decode cX0_countOrders 73 = .ok (.ishl, 1) := by decide +kernel
theorem dX0_countOrders_74 : decode cX0_countOrders 74 = .ok (.istore 8, 2) := by decide +kernel
theorem dX0_countOrders_76 : decode cX0_countOrders 76 = .ok (.aload_n 0, 1) := by decide +kernel
theorem dX0_countOrders_77 : decode cX0_countOrders 77 = .ok (.getfield 18, 3) := by decide +kernel
theorem dX0_countOrders_80 : decode cX0_countOrders 80 = .ok (.iload 6, 2) := by decide +kernel
theorem dX0_countOrders_82 : decode cX0_countOrders 82 = .ok (.iconst (-1), 1) := by decide +kernel
theorem dX0_countOrders_83 : decode cX0_countOrders 83 = .ok (.ixor, 1) := by decide +kernel
theorem dX0_countOrders_84 : decode cX0_countOrders 84 = .ok (.iand, 1) := by decide +kernel
theorem dX0_countOrders_85 : decode cX0_countOrders 85 = .ok (.iload 8, 2) := by decide +kernel
theorem dX0_countOrders_87 : decode cX0_countOrders 87 = .ok (.iand, 1) := by decide +kernel
theorem dX0_countOrders_88 : decode cX0_countOrders 88 = .ok (.ifCond .eq 76, 3) := by decide +kernel
theorem dX0_countOrders_91 : decode cX0_countOrders 91 = .ok (.aload_n 0, 1) := by decide +kernel
theorem dX0_countOrders_92 : decode cX0_countOrders 92 = .ok (.getfield 11, 3) := by decide +kernel
theorem dX0_countOrders_95 : decode cX0_countOrders 95 = .ok (.iload 6, 2) := by decide +kernel
theorem dX0_countOrders_97 : decode cX0_countOrders 97 = .ok (.iload 8, 2) := by decide +kernel
theorem dX0_countOrders_99 : decode cX0_countOrders 99 = .ok (.ior, 1) := by decide +kernel
theorem dX0_countOrders_100 : decode cX0_countOrders 100 = .ok (.iaload, 1) := by decide +kernel
theorem dX0_countOrders_101 : decode cX0_countOrders 101 = .ok (.ifCond .le 63, 3) := by decide +kernel
theorem dX0_countOrders_104 : decode cX0_countOrders 104 = .ok (.iload 5, 2) := by decide +kernel
theorem dX0_countOrders_106 : decode cX0_countOrders 106 = .ok (.iload 8, 2) := by decide +kernel
theorem dX0_countOrders_108 : decode cX0_countOrders 108 = .ok (.iand, 1) := by decide +kernel
theorem dX0_countOrders_109 : decode cX0_countOrders 109 = .ok (.ifCond .ne 23, 3) := by decide +kernel
theorem dX0_countOrders_112 : decode cX0_countOrders 112 = .ok (.aload_n 1, 1) := by decide +kernel
theorem dX0_countOrders_113 : decode cX0_countOrders 113 = .ok (.iload 7, 2) := by decide +kernel
theorem dX0_countOrders_115 : decode cX0_countOrders 115 = .ok (.iload_n 2, 1) := by decide +kernel
theorem dX0_countOrders_116 : decode cX0_countOrders 116 = .ok (.iload 6, 2) := by decide +kernel
theorem dX0_countOrders_118 : decode cX0_countOrders 118 = .ok (.ior, 1) := by decide +kernel
theorem dX0_countOrders_119 : decode cX0_countOrders 119 = .ok (.aload 4, 2) := by decide +kernel
theorem dX0_countOrders_121 : decode cX0_countOrders 121 = .ok (.invokevirtual 27, 3) := by decide +kernel
theorem dX0_countOrders_124 : decode cX0_countOrders 124 = .ok (.aload 4, 2) := by decide +kernel
theorem dX0_countOrders_126 : decode cX0_countOrders 126 = .ok (.iload 7, 2) := by decide +kernel
theorem dX0_countOrders_128 : decode cX0_countOrders 128 = .ok (.iaload, 1) := by decide +kernel
theorem dX0_countOrders_129 : decode cX0_countOrders 129 = .ok (.if_icmp .ne 35, 3) := by decide +kernel
theorem dX0_countOrders_132 : decode cX0_countOrders 132 = .ok (.aload_n 0, 1) := by decide +kernel
theorem dX0_countOrders_133 : decode cX0_countOrders 133 = .ok (.getfield 11, 3) := by decide +kernel
theorem dX0_countOrders_136 : decode cX0_countOrders 136 = .ok (.iload 6, 2) := by decide +kernel
theorem dX0_countOrders_138 : decode cX0_countOrders 138 = .ok (.dup2, 1) := by decide +kernel
theorem dX0_countOrders_139 : decode cX0_countOrders 139 = .ok (.iaload, 1) := by decide +kernel
theorem dX0_countOrders_140 : decode cX0_countOrders 140 = .ok (.aload_n 0, 1) := by decide +kernel
theorem dX0_countOrders_141 : decode cX0_countOrders 141 = .ok (.getfield 11, 3) := by decide +kernel
theorem dX0_countOrders_144 : decode cX0_countOrders 144 = .ok (.iload 6, 2) := by decide +kernel
theorem dX0_countOrders_146 : decode cX0_countOrders 146 = .ok (.iload 8, 2) := by decide +kernel
theorem dX0_countOrders_148 : decode cX0_countOrders 148 = .ok (.ior, 1) := by decide +kernel
theorem dX0_countOrders_149 : decode cX0_countOrders 149 = .ok (.iaload, 1) := by decide +kernel
theorem dX0_countOrders_150 : decode cX0_countOrders 150 = .ok (.iadd, 1) := by decide +kernel
theorem dX0_countOrders_151 : decode cX0_countOrders 151 = .ok (.iastore, 1) := by decide +kernel
theorem dX0_countOrders_152 : decode cX0_countOrders 152 = .ok (.aload_n 0, 1) := by decide +kernel
theorem dX0_countOrders_153 : decode cX0_countOrders 153 = .ok (.getfield 15, 3) := by decide +kernel
theorem dX0_countOrders_156 : decode cX0_countOrders 156 = .ok (.iload 6, 2) := by decide +kernel
theorem dX0_countOrders_158 : decode cX0_countOrders 158 = .ok (.dup2, 1) := by decide +kernel
theorem dX0_countOrders_159 : decode cX0_countOrders 159 = .ok (.iaload, 1) := by decide +kernel
theorem dX0_countOrders_160 : decode cX0_countOrders 160 = .ok (.iload 8, 2) := by decide +kernel
theorem dX0_countOrders_162 : decode cX0_countOrders 162 = .ok (.ior, 1) := by decide +kernel
theorem dX0_countOrders_163 : decode cX0_countOrders 163 = .ok (.iastore, 1) := by decide +kernel
theorem dX0_countOrders_164 : decode cX0_countOrders 164 = .ok (.iinc 7 1, 3) := by decide +kernel
theorem dX0_countOrders_167 : decode cX0_countOrders 167 = .ok (.goto (-106), 3) := by decide +kernel
theorem dX0_countOrders_170 : decode cX0_countOrders 170 = .ok (.iinc 6 (-1), 3) := by decide +kernel
theorem dX0_countOrders_173 : decode cX0_countOrders 173 = .ok (.goto (-161), 3) := by decide +kernel
theorem dX0_countOrders_176 : decode cX0_countOrders 176 = .ok (.aload_n 0, 1) := by decide +kernel
theorem dX0_countOrders_177 : decode cX0_countOrders 177 = .ok (.getfield 11, 3) := by decide +kernel
theorem dX0_countOrders_180 : decode cX0_countOrders 180 = .ok (.iconst 0, 1) := by decide +kernel
theorem dX0_countOrders_181 : decode cX0_countOrders 181 = .ok (.iaload, 1) := by decide +kernel
theorem dX0_countOrders_182 : decode cX0_countOrders 182 = .ok (.ireturn, 1) := by decide +kernel
theorem dX0_firstOrder_0 : decode cX0_firstOrder 0 = .ok (.aload_n 0, 1) := by decide +kernel
theorem dX0_firstOrder_1 : decode cX0_firstOrder 1 = .ok (.getfield 11, 3) := by decide +kernel
theorem dX0_firstOrder_4 : decode cX0_firstOrder 4 = .ok (.iconst 0, 1) := by decide +kernel
theorem dX0_firstOrder_5 : decode cX0_firstOrder 5 = .ok (.iaload, 1) := by decide +kernel
theorem dX0_firstOrder_6 : decode cX0_firstOrder 6 = .ok (.ifCond .ne 5, 3) := by decide +kernel
theorem dX0_firstOrder_9 : decode cX0_firstOrder 9 = .ok (.iconst (-1), 1) := by decide +kernel
theorem dX0_firstOrder_10 : decode cX0_firstOrder 10 = .ok (.ireturn, 1) := by decide +kernel
theorem dX0_firstOrder_11 : decode cX0_firstOrder 11 = .ok (.iconst 0, 1) := by decide +kernel
theorem dX0_firstOrder_12 : decode cX0_firstOrder 12 = .ok (.istore_n 1, 1) := by decide +kernel
theorem dX0_firstOrder_13 : decode cX0_firstOrder 13 = .ok (.iconst 0, 1) := by decide +kernel
theorem dX0_firstOrder_14 : decode cX0_firstOrder 14 = .ok (.istore_n 2, 1) := by decide +kernel
theorem dX0_firstOrder_15 : decode cX0_firstOrder 15 = .ok (.iconst 0, 1) := by decide +kernel
theorem dX0_firstOrder_16 : decode cX0_firstOrder 16 = .ok (.istore_n 3, 1) := by decide +kernel
theorem dX0_firstOrder_17 : decode cX0_firstOrder 17 = .ok (.iload_n 3, 1) := by decide +kernel
theorem dX0_firstOrder_18 : decode cX0_firstOrder 18 = .ok (.bipush 7, 2) := by decide +kernel
theorem dX0_firstOrder_20 : decode cX0_firstOrder 20 = .ok (.if_icmp .ge 48, 3) := by decide +kernel
theorem dX0_firstOrder_23 : decode cX0_firstOrder 23 = .ok (.iload_n 2, 1) := by decide +kernel
theorem dX0_firstOrder_24 : decode cX0_firstOrder 24 = .ok (.aload_n 0, 1) := by decide +kernel
theorem dX0_firstOrder_25 : decode cX0_firstOrder 25 = .ok (.getfield 18, 3) := by decide +kernel
theorem dX0_firstOrder_28 : decode cX0_firstOrder 28 = .ok (.if_icmp .eq 40, 3) := by decide +kernel
theorem dX0_firstOrder_31 : decode cX0_firstOrder 31 = .ok (.aload_n 0, 1) := by decide +kernel
theorem dX0_firstOrder_32 : decode cX0_firstOrder 32 = .ok (.getfield 15, 3) := by decide +kernel
theorem dX0_firstOrder_35 : decode cX0_firstOrder 35 = .ok (.iload_n 2, 1) := by decide +kernel
theorem dX0_firstOrder_36 : decode cX0_firstOrder 36 = .ok (.iaload, 1) := by decide +kernel
theorem dX0_firstOrder_37 : decode cX0_firstOrder 37 = .ok (.invokestatic 31, 3) := by decide +kernel
theorem dX0_firstOrder_40 : decode cX0_firstOrder 40 = .ok (.istore 4, 2) := by decide +kernel
theorem dX0_firstOrder_42 : decode cX0_firstOrder 42 = .ok (.iload_n 1, 1) := by decide +kernel
theorem dX0_firstOrder_43 : decode cX0_firstOrder 43 = .ok (.bipush 10, 2) := by decide +kernel
theorem dX0_firstOrder_45 : decode cX0_firstOrder 45 = .ok (.imul, 1) := by decide +kernel
theorem dX0_firstOrder_46 : decode cX0_firstOrder 46 = .ok (.iload 4, 2) := by decide +kernel
theorem dX0_firstOrder_48 : decode cX0_firstOrder 48 = .ok (.iadd, 1) := by decide +kernel
theorem dX0_firstOrder_49 : decode cX0_firstOrder 49 = .ok (.iconst 1, 1) := by decide +kernel
theorem dX0_firstOrder_50 : decode cX0_firstOrder 50 = .ok (.iadd, 1) := by decide +kernel
theorem dX0_firstOrder_51 : decode cX0_firstOrder 51 = .ok (.istore_n 1, 1) := by decide +kernel
theorem dX0_firstOrder_52 : decode cX0_firstOrder 52 = .ok (.iload_n 2, 1) := by decide +kernel
theorem dX0_firstOrder_53 : decode cX0_firstOrder 53 = .ok (.iconst 1, 1) := by decide +kernel
theorem dX0_firstOrder_54 : decode cX0_firstOrder 54 = .ok (.iload 4, 2) := by decide +kernel
theorem dX0_firstOrder_56 : decode cX0_firstOrder 56 = .ok (.ishl, 1) := by decide +kernel
theorem dX0_firstOrder_57 : decode cX0_firstOrder 57 = .ok (.ior, 1) := by decide +kernel
theorem dX0_firstOrder_58 : decode cX0_firstOrder 58 = .ok (.bipush 127, 2) := by decide +kernel
theorem dX0_firstOrder_60 : decode cX0_firstOrder 60 = .ok (.iand, 1) := by decide +kernel
theorem dX0_firstOrder_61 : decode cX0_firstOrder 61 = .ok (.istore_n 2, 1) := by decide +kernel
theorem dX0_firstOrder_62 : decode cX0_firstOrder 62 = .ok (.iinc 3 1, 3) := by decide +kernel
theorem dX0_firstOrder_65 : decode cX0_firstOrder 65 = .ok (.goto (-48), 3) := by decide +kernel
theorem dX0_firstOrder_68 : decode cX0_firstOrder 68 = .ok (.iload_n 1, 1) := by decide +kernel
theorem dX0_firstOrder_69 : decode cX0_firstOrder 69 = .ok (.ireturn, 1) := by decide +kernel
theorem dX0_fewestColours_0 : decode cX0_fewestColours 0 = .ok (.aload_n 0, 1) := by decide +kernel
theorem dX0_fewestColours_1 : decode cX0_fewestColours 1 = .ok (.getfield 11, 3) := by decide +kernel
theorem dX0_fewestColours_4 : decode cX0_fewestColours 4 = .ok (.iconst 0, 1) := by decide +kernel
theorem dX0_fewestColours_5 : decode cX0_fewestColours 5 = .ok (.invokestatic 37, 3) := by decide +kernel
theorem dX0_fewestColours_8 : decode cX0_fewestColours 8 = .ok (.iconst 1, 1) := by decide +kernel
theorem dX0_fewestColours_9 : decode cX0_fewestColours 9 = .ok (.aload_n 1, 1) := by decide +kernel
theorem dX0_fewestColours_10 : decode cX0_fewestColours 10 = .ok (.getfield 22, 3) := by decide +kernel
theorem dX0_fewestColours_13 : decode cX0_fewestColours 13 = .ok (.ishl, 1) := by decide +kernel
theorem dX0_fewestColours_14 : decode cX0_fewestColours 14 = .ok (.istore_n 2, 1) := by decide +kernel
theorem dX0_fewestColours_15 : decode cX0_fewestColours 15 = .ok (.iconst 1, 1) := by decide +kernel
theorem dX0_fewestColours_16 : decode cX0_fewestColours 16 = .ok (.istore_n 3, 1) := by decide +kernel
theorem dX0_fewestColours_17 : decode cX0_fewestColours 17 = .ok (.iload_n 3, 1) := by decide +kernel
theorem dX0_fewestColours_18 : decode cX0_fewestColours 18 = .ok (.iload_n 2, 1) := by decide +kernel
theorem dX0_fewestColours_19 : decode cX0_fewestColours 19 = .ok (.if_icmp .ge 73, 3) := by decide +kernel
theorem dX0_fewestColours_22 : decode cX0_fewestColours 22 = .ok (.aload_n 0, 1) := by decide +kernel
theorem dX0_fewestColours_23 : decode cX0_fewestColours 23 = .ok (.getfield 11, 3) := by decide +kernel
theorem dX0_fewestColours_26 : decode cX0_fewestColours 26 = .ok (.iload_n 3, 1) := by decide +kernel
theorem dX0_fewestColours_27 : decode cX0_fewestColours 27 = .ok (.bipush 7, 2) := by decide +kernel
theorem dX0_fewestColours_29 : decode cX0_fewestColours 29 = .ok (.iastore, 1) := by decide +kernel
theorem dX0_fewestColours_30 : decode cX0_fewestColours 30 = .ok (.iload_n 3, 1) := by decide +kernel
theorem dX0_fewestColours_31 : decode cX0_fewestColours 31 = .ok (.istore 4, 2) := by decide +kernel
theorem dX0_fewestColours_33 : decode cX0_fewestColours 33 = .ok (.iload 4, 2) := by decide +kernel
theorem dX0_fewestColours_35 : decode cX0_fewestColours 35 = .ok (.ifCond .le 51, 3) := by decide +kernel
theorem dX0_fewestColours_38 : decode cX0_fewestColours 38 = .ok (.aload_n 1, 1) := by decide +kernel
theorem dX0_fewestColours_39 : decode cX0_fewestColours 39 = .ok (.iload 4, 2) := by decide +kernel
theorem dX0_fewestColours_41 : decode cX0_fewestColours 41 = .ok (.invokestatic 43, 3) := by decide +kernel
theorem dX0_fewestColours_44 : decode cX0_fewestColours 44 = .ok (.ifCond .eq 31, 3) := by decide +kernel
theorem dX0_fewestColours_47 : decode cX0_fewestColours 47 = .ok (.aload_n 0, 1) := by decide +kernel
theorem dX0_fewestColours_48 : decode cX0_fewestColours 48 = .ok (.getfield 11, 3) := by decide +kernel
theorem dX0_fewestColours_51 : decode cX0_fewestColours 51 = .ok (.iload_n 3, 1) := by decide +kernel
theorem dX0_fewestColours_52 : decode cX0_fewestColours 52 = .ok (.aload_n 0, 1) := by decide +kernel
theorem dX0_fewestColours_53 : decode cX0_fewestColours 53 = .ok (.getfield 11, 3) := by decide +kernel
theorem dX0_fewestColours_56 : decode cX0_fewestColours 56 = .ok (.iload_n 3, 1) := by decide +kernel
theorem dX0_fewestColours_57 : decode cX0_fewestColours 57 = .ok (.iaload, 1) := by decide +kernel
theorem dX0_fewestColours_58 : decode cX0_fewestColours 58 = .ok (.iconst 1, 1) := by decide +kernel
theorem dX0_fewestColours_59 : decode cX0_fewestColours 59 = .ok (.aload_n 0, 1) := by decide +kernel
theorem dX0_fewestColours_60 : decode cX0_fewestColours 60 = .ok (.getfield 11, 3) := by decide +kernel
theorem dX0_fewestColours_63 : decode cX0_fewestColours 63 = .ok (.iload_n 3, 1) := by decide +kernel
theorem dX0_fewestColours_64 : decode cX0_fewestColours 64 = .ok (.iload 4, 2) := by decide +kernel
theorem dX0_fewestColours_66 : decode cX0_fewestColours 66 = .ok (.iconst (-1), 1) := by decide +kernel
theorem dX0_fewestColours_67 : decode cX0_fewestColours 67 = .ok (.ixor, 1) := by decide +kernel
theorem dX0_fewestColours_68 : decode cX0_fewestColours 68 = .ok (.iand, 1) := by decide +kernel
theorem dX0_fewestColours_69 : decode cX0_fewestColours 69 = .ok (.iaload, 1) := by decide +kernel
theorem dX0_fewestColours_70 : decode cX0_fewestColours 70 = .ok (.iadd, 1) := by decide +kernel
theorem dX0_fewestColours_71 : decode cX0_fewestColours 71 = .ok (.invokestatic 47, 3) := by decide +kernel
theorem dX0_fewestColours_74 : decode cX0_fewestColours 74 = .ok (.iastore, 1) := by decide +kernel
theorem dX0_fewestColours_75 : decode cX0_fewestColours 75 = .ok (.iload 4, 2) := by decide +kernel
theorem dX0_fewestColours_77 : decode cX0_fewestColours 77 = .ok (.iconst 1, 1) := by decide +kernel
theorem dX0_fewestColours_78 : decode cX0_fewestColours 78 = .ok (.isub, 1) := by decide +kernel
theorem dX0_fewestColours_79 : decode cX0_fewestColours 79 = .ok (.iload_n 3, 1) := by decide +kernel
theorem dX0_fewestColours_80 : decode cX0_fewestColours 80 = .ok (.iand, 1) := by decide +kernel
theorem dX0_fewestColours_81 : decode cX0_fewestColours 81 = .ok (.istore 4, 2) := by decide +kernel
theorem dX0_fewestColours_83 : decode cX0_fewestColours 83 = .ok (.goto (-50), 3) := by decide +kernel
theorem dX0_fewestColours_86 : decode cX0_fewestColours 86 = .ok (.iinc 3 1, 3) := by decide +kernel
theorem dX0_fewestColours_89 : decode cX0_fewestColours 89 = .ok (.goto (-72), 3) := by decide +kernel
theorem dX0_fewestColours_92 : decode cX0_fewestColours 92 = .ok (.aload_n 0, 1) := by decide +kernel
theorem dX0_fewestColours_93 : decode cX0_fewestColours 93 = .ok (.getfield 11, 3) := by decide +kernel
theorem dX0_fewestColours_96 : decode cX0_fewestColours 96 = .ok (.iload_n 2, 1) := by decide +kernel
theorem dX0_fewestColours_97 : decode cX0_fewestColours 97 = .ok (.iconst 1, 1) := by decide +kernel
theorem dX0_fewestColours_98 : decode cX0_fewestColours 98 = .ok (.isub, 1) := by decide +kernel
theorem dX0_fewestColours_99 : decode cX0_fewestColours 99 = .ok (.iaload, 1) := by decide +kernel
theorem dX0_fewestColours_100 : decode cX0_fewestColours 100 = .ok (.ireturn, 1) := by decide +kernel
theorem dX0_noneBeside_0 : decode cX0_noneBeside 0 = .ok (.iconst 0, 1) := by decide +kernel
theorem dX0_noneBeside_1 : decode cX0_noneBeside 1 = .ok (.istore_n 2, 1) := by decide +kernel
theorem dX0_noneBeside_2 : decode cX0_noneBeside 2 = .ok (.iload_n 2, 1) := by decide +kernel
theorem dX0_noneBeside_3 : decode cX0_noneBeside 3 = .ok (.aload_n 0, 1) := by decide +kernel
theorem dX0_noneBeside_4 : decode cX0_noneBeside 4 = .ok (.getfield 22, 3) := by decide +kernel
theorem dX0_noneBeside_7 : decode cX0_noneBeside 7 = .ok (.if_icmp .ge 30, 3) := by decide +kernel
theorem dX0_noneBeside_10 : decode cX0_noneBeside 10 = .ok (.iload_n 1, 1) := by decide +kernel
theorem dX0_noneBeside_11 : decode cX0_noneBeside 11 = .ok (.iload_n 2, 1) := by decide +kernel
theorem dX0_noneBeside_12 : decode cX0_noneBeside 12 = .ok (.ishr, 1) := by decide +kernel
theorem dX0_noneBeside_13 : decode cX0_noneBeside 13 = .ok (.iconst 1, 1) := by decide +kernel
theorem dX0_noneBeside_14 : decode cX0_noneBeside 14 = .ok (.iand, 1) := by decide +kernel
theorem dX0_noneBeside_15 : decode cX0_noneBeside 15 = .ok (.ifCond .eq 16, 3) := by decide +kernel
theorem dX0_noneBeside_18 : decode cX0_noneBeside 18 = .ok (.aload_n 0, 1) := by decide +kernel
theorem dX0_noneBeside_19 : decode cX0_noneBeside 19 = .ok (.getfield 53, 3) := by decide +kernel
theorem dX0_noneBeside_22 : decode cX0_noneBeside 22 = .ok (.iload_n 2, 1) := by decide +kernel
theorem dX0_noneBeside_23 : decode cX0_noneBeside 23 = .ok (.iaload, 1) := by decide +kernel
theorem dX0_noneBeside_24 : decode cX0_noneBeside 24 = .ok (.iload_n 1, 1) := by decide +kernel
theorem dX0_noneBeside_25 : decode cX0_noneBeside 25 = .ok (.iand, 1) := by decide +kernel
theorem dX0_noneBeside_26 : decode cX0_noneBeside 26 = .ok (.ifCond .eq 5, 3) := by decide +kernel
theorem dX0_noneBeside_29 : decode cX0_noneBeside 29 = .ok (.iconst 0, 1) := by decide +kernel
theorem dX0_noneBeside_30 : decode cX0_noneBeside 30 = .ok (.ireturn, 1) := by decide +kernel
theorem dX0_noneBeside_31 : decode cX0_noneBeside 31 = .ok (.iinc 2 1, 3) := by decide +kernel
theorem dX0_noneBeside_34 : decode cX0_noneBeside 34 = .ok (.goto (-32), 3) := by decide +kernel
theorem dX0_noneBeside_37 : decode cX0_noneBeside 37 = .ok (.iconst 1, 1) := by decide +kernel
theorem dX0_noneBeside_38 : decode cX0_noneBeside 38 = .ok (.ireturn, 1) := by decide +kernel
theorem dX1_openLane_0 : decode cX1_openLane 0 = .ok (.aload_n 0, 1) := by decide +kernel
theorem dX1_openLane_1 : decode cX1_openLane 1 = .ok (.iload_n 2, 1) := by decide +kernel
theorem dX1_openLane_2 : decode cX1_openLane 2 = .ok (.iload_n 3, 1) := by decide +kernel
theorem dX1_openLane_3 : decode cX1_openLane 3 = .ok (.invokevirtual 9, 3) := by decide +kernel
theorem dX1_openLane_6 : decode cX1_openLane 6 = .ok (.aload_n 0, 1) := by decide +kernel
theorem dX1_openLane_7 : decode cX1_openLane 7 = .ok (.aload_n 1, 1) := by decide +kernel
theorem dX1_openLane_8 : decode cX1_openLane 8 = .ok (.iload_n 2, 1) := by decide +kernel
theorem dX1_openLane_9 : decode cX1_openLane 9 = .ok (.iload_n 3, 1) := by decide +kernel
theorem dX1_openLane_10 : decode cX1_openLane 10 = .ok (.invokestatic 15, 3) := by decide +kernel
theorem dX1_openLane_13 : decode cX1_openLane 13 = .ok (.istore 4, 2) := by decide +kernel
theorem dX1_openLane_15 : decode cX1_openLane 15 = .ok (.iconst 0, 1) := by decide +kernel
theorem dX1_openLane_16 : decode cX1_openLane 16 = .ok (.istore 5, 2) := by decide +kernel
theorem dX1_openLane_18 : decode cX1_openLane 18 = .ok (.iload 5, 2) := by decide +kernel
theorem dX1_openLane_20 : decode cX1_openLane 20 = .ok (.bipush 20, 2) := by decide +kernel
theorem dX1_openLane_22 : decode cX1_openLane 22 = .ok (.if_icmp .ge 36, 3) := by decide +kernel
theorem dX1_openLane_25 : decode cX1_openLane 25 = .ok (.iload 4, 2) := by decide +kernel
theorem dX1_openLane_27 : decode cX1_openLane 27 = .ok (.ifCond .lt 31, 3) := by decide +kernel
theorem dX1_openLane_30 : decode cX1_openLane 30 = .ok (.aload_n 0, 1) := by decide +kernel
theorem dX1_openLane_31 : decode cX1_openLane 31 = .ok (.getfield 21, 3) := by decide +kernel
theorem dX1_openLane_34 : decode cX1_openLane 34 = .ok (.iload 4, 2) := by decide +kernel
theorem dX1_openLane_36 : decode cX1_openLane 36 = .ok (.aload_n 0, 1) := by decide +kernel
theorem dX1_openLane_37 : decode cX1_openLane 37 = .ok (.iload 4, 2) := by decide +kernel
theorem dX1_openLane_39 : decode cX1_openLane 39 = .ok (.invokevirtual 25, 3) := by decide +kernel
theorem dX1_openLane_42 : decode cX1_openLane 42 = .ok (.iastore, 1) := by decide +kernel
theorem dX1_openLane_43 : decode cX1_openLane 43 = .ok (.iinc 5 1, 3) := by decide +kernel
theorem dX1_openLane_46 : decode cX1_openLane 46 = .ok (.aload_n 0, 1) := by decide +kernel
theorem dX1_openLane_47 : decode cX1_openLane 47 = .ok (.aload_n 1, 1) := by decide +kernel
theorem dX1_openLane_48 : decode cX1_openLane 48 = .ok (.iload 4, 2) := by decide +kernel
theorem dX1_openLane_50 : decode cX1_openLane 50 = .ok (.invokestatic 29, 3) := by decide +kernel
theorem dX1_openLane_53 : decode cX1_openLane 53 = .ok (.istore 4, 2) := by decide +kernel
theorem dX1_openLane_55 : decode cX1_openLane 55 = .ok (.goto (-37), 3) := by decide +kernel
theorem dX1_openLane_58 : decode cX1_openLane 58 = .ok (.iload 5, 2) := by decide +kernel
theorem dX1_openLane_60 : decode cX1_openLane 60 = .ok (.ireturn, 1) := by decide +kernel
theorem dX1_moverBeside_0 : decode cX1_moverBeside 0 = .ok (.iconst 0, 1) := by decide +kernel
theorem dX1_moverBeside_1 : decode cX1_moverBeside 1 = .ok (.istore_n 3, 1) := by decide +kernel
theorem dX1_moverBeside_2 : decode cX1_moverBeside 2 = .ok (.iload_n 3, 1) := by decide +kernel
theorem dX1_moverBeside_3 : decode cX1_moverBeside 3 = .ok (.aload_n 0, 1) := by decide +kernel
theorem dX1_moverBeside_4 : decode cX1_moverBeside 4 = .ok (.getfield 33, 3) := by decide +kernel
theorem dX1_moverBeside_7 : decode cX1_moverBeside 7 = .ok (.if_icmp .ge 35, 3) := by decide +kernel
theorem dX1_moverBeside_10 : decode cX1_moverBeside 10 = .ok (.aload_n 0, 1) := by decide +kernel
theorem dX1_moverBeside_11 : decode cX1_moverBeside 11 = .ok (.iload_n 2, 1) := by decide +kernel
theorem dX1_moverBeside_12 : decode cX1_moverBeside 12 = .ok (.iload_n 3, 1) := by decide +kernel
theorem dX1_moverBeside_13 : decode cX1_moverBeside 13 = .ok (.invokevirtual 37, 3) := by decide +kernel
theorem dX1_moverBeside_16 : decode cX1_moverBeside 16 = .ok (.ifCond .eq 20, 3) := by decide +kernel
theorem dX1_moverBeside_19 : decode cX1_moverBeside 19 = .ok (.aload_n 0, 1) := by decide +kernel
theorem dX1_moverBeside_20 : decode cX1_moverBeside 20 = .ok (.aload_n 1, 1) := by decide +kernel
theorem dX1_moverBeside_21 : decode cX1_moverBeside 21 = .ok (.iload_n 2, 1) := by decide +kernel
theorem dX1_moverBeside_22 : decode cX1_moverBeside 22 = .ok (.iload_n 3, 1) := by decide +kernel
theorem dX1_moverBeside_23 : decode cX1_moverBeside 23 = .ok (.invokestatic 15, 3) := by decide +kernel
theorem dX1_moverBeside_26 : decode cX1_moverBeside 26 = .ok (.istore 4, 2) := by decide +kernel
theorem dX1_moverBeside_28 : decode cX1_moverBeside 28 = .ok (.iload 4, 2) := by decide +kernel
theorem dX1_moverBeside_30 : decode cX1_moverBeside 30 = .ok (.ifCond .lt 6, 3) := by decide +kernel
theorem dX1_moverBeside_33 : decode cX1_moverBeside 33 = .ok (.iload 4, 2) := by decide +kernel
theorem dX1_moverBeside_35 : decode cX1_moverBeside 35 = .ok (.ireturn, 1) := by decide +kernel
theorem dX1_moverBeside_36 : decode cX1_moverBeside 36 = .ok (.iinc 3 1, 3) := by decide +kernel
theorem dX1_moverBeside_39 : decode cX1_moverBeside 39 = .ok (.goto (-37), 3) := by decide +kernel
theorem dX1_moverBeside_42 : decode cX1_moverBeside 42 = .ok (.iconst (-1), 1) := by decide +kernel
theorem dX1_moverBeside_43 : decode cX1_moverBeside 43 = .ok (.ireturn, 1) := by decide +kernel
theorem dX1_moverOf_0 : decode cX1_moverOf 0 = .ok (.aload_n 0, 1) := by decide +kernel
theorem dX1_moverOf_1 : decode cX1_moverOf 1 = .ok (.iload_n 2, 1) := by decide +kernel
theorem dX1_moverOf_2 : decode cX1_moverOf 2 = .ok (.invokevirtual 41, 3) := by decide +kernel
theorem dX1_moverOf_5 : decode cX1_moverOf 5 = .ok (.ifCond .eq 26, 3) := by decide +kernel
theorem dX1_moverOf_8 : decode cX1_moverOf 8 = .ok (.aload_n 0, 1) := by decide +kernel
theorem dX1_moverOf_9 : decode cX1_moverOf 9 = .ok (.iload_n 3, 1) := by decide +kernel
theorem dX1_moverOf_10 : decode cX1_moverOf 10 = .ok (.invokevirtual 41, 3) := by decide +kernel
theorem dX1_moverOf_13 : decode cX1_moverOf 13 = .ok (.ifCond .eq 18, 3) := by decide +kernel
theorem dX1_moverOf_16 : decode cX1_moverOf 16 = .ok (.aload_n 0, 1) := by decide +kernel
theorem dX1_moverOf_17 : decode cX1_moverOf 17 = .ok (.getfield 21, 3) := by decide +kernel
theorem dX1_moverOf_20 : decode cX1_moverOf 20 = .ok (.iload_n 2, 1) := by decide +kernel
theorem dX1_moverOf_21 : decode cX1_moverOf 21 = .ok (.iaload, 1) := by decide +kernel
theorem dX1_moverOf_22 : decode cX1_moverOf 22 = .ok (.aload_n 0, 1) := by decide +kernel
theorem dX1_moverOf_23 : decode cX1_moverOf 23 = .ok (.getfield 21, 3) := by decide +kernel
theorem dX1_moverOf_26 : decode cX1_moverOf 26 = .ok (.iload_n 3, 1) := by decide +kernel
theorem dX1_moverOf_27 : decode cX1_moverOf 27 = .ok (.iaload, 1) := by decide +kernel
theorem dX1_moverOf_28 : decode cX1_moverOf 28 = .ok (.if_icmp .eq 5, 3) := by decide +kernel
theorem dX1_moverOf_31 : decode cX1_moverOf 31 = .ok (.iconst (-1), 1) := by decide +kernel
theorem dX1_moverOf_32 : decode cX1_moverOf 32 = .ok (.ireturn, 1) := by decide +kernel
theorem dX1_moverOf_33 : decode cX1_moverOf 33 = .ok (.aload_n 0, 1) := by decide +kernel
theorem dX1_moverOf_34 : decode cX1_moverOf 34 = .ok (.getfield 45, 3) := by decide +kernel
theorem dX1_moverOf_37 : decode cX1_moverOf 37 = .ok (.iload_n 2, 1) := by decide +kernel
theorem dX1_moverOf_38 : decode cX1_moverOf 38 = .ok (.iaload, 1) := by decide +kernel
theorem dX1_moverOf_39 : decode cX1_moverOf 39 = .ok (.aload_n 0, 1) := by decide +kernel
theorem dX1_moverOf_40 : decode cX1_moverOf 40 = .ok (.getfield 45, 3) := by decide +kernel
theorem dX1_moverOf_43 : decode cX1_moverOf 43 = .ok (.iload_n 3, 1) := by decide +kernel
theorem dX1_moverOf_44 : decode cX1_moverOf 44 = .ok (.iaload, 1) := by decide +kernel
theorem dX1_moverOf_45 : decode cX1_moverOf 45 = .ok (.if_icmp .le 7, 3) := by decide +kernel
theorem dX1_moverOf_48 : decode cX1_moverOf 48 = .ok (.iload_n 2, 1) := by decide +kernel
theorem dX1_moverOf_49 : decode cX1_moverOf 49 = .ok (.goto 4, 3) := by decide +kernel
theorem dX1_moverOf_52 : decode cX1_moverOf 52 = .ok (.iload_n 3, 1) := by decide +kernel
theorem dX1_moverOf_53 : decode cX1_moverOf 53 = .ok (.istore 4, 2) := by decide +kernel
theorem dX1_moverOf_55 : decode cX1_moverOf 55 = .ok (.aload_n 1, 1) := by decide +kernel
theorem dX1_moverOf_56 : decode cX1_moverOf 56 = .ok (.iconst 2, 1) := by decide +kernel
theorem dX1_moverOf_57 : decode cX1_moverOf 57 = .ok (.aload_n 0, 1) := by decide +kernel
theorem dX1_moverOf_58 : decode cX1_moverOf 58 = .ok (.iload 4, 2) := by decide +kernel
theorem dX1_moverOf_60 : decode cX1_moverOf 60 = .ok (.aload_n 0, 1) := by decide +kernel
theorem dX1_moverOf_61 : decode cX1_moverOf 61 = .ok (.getfield 21, 3) := by decide +kernel
theorem dX1_moverOf_64 : decode cX1_moverOf 64 = .ok (.iload 4, 2) := by decide +kernel
theorem dX1_moverOf_66 : decode cX1_moverOf 66 = .ok (.iaload, 1) := by decide +kernel
theorem dX1_moverOf_67 : decode cX1_moverOf 67 = .ok (.iconst 0, 1) := by decide +kernel
theorem dX1_moverOf_68 : decode cX1_moverOf 68 = .ok (.invokevirtual 48, 3) := by decide +kernel
theorem dX1_moverOf_71 : decode cX1_moverOf 71 = .ok (.ifCond .eq 8, 3) := by decide +kernel
theorem dX1_moverOf_74 : decode cX1_moverOf 74 = .ok (.iload 4, 2) := by decide +kernel
theorem dX1_moverOf_76 : decode cX1_moverOf 76 = .ok (.goto 4, 3) := by decide +kernel
theorem dX1_moverOf_79 : decode cX1_moverOf 79 = .ok (.iconst (-1), 1) := by decide +kernel
theorem dX1_moverOf_80 : decode cX1_moverOf 80 = .ok (.ireturn, 1) := by decide +kernel
theorem dX2_init_0 : decode cX2_init 0 = .ok (.aload_n 0, 1) := by decide +kernel
theorem dX2_init_1 : decode cX2_init 1 = .ok (.invokespecial 3, 3) := by decide +kernel
theorem dX2_init_4 : decode cX2_init 4 = .ok (.aload_n 0, 1) := by decide +kernel
theorem dX2_init_5 : decode cX2_init 5 = .ok (.bipush 7, 2) := by decide +kernel
theorem dX2_init_7 : decode cX2_init 7 = .ok (.newarray .int, 2) := by decide +kernel
theorem dX2_init_9 : decode cX2_init 9 = .ok (.putfield 9, 3) := by decide +kernel
theorem dX2_init_12 : decode cX2_init 12 = .ok (.return_, 1) := by decide +kernel
theorem dX2_becomesSheet_0 : decode cX2_becomesSheet 0 = .ok (.aload_n 0, 1) := by decide +kernel
theorem dX2_becomesSheet_1 : decode cX2_becomesSheet 1 = .ok (.iconst 0, 1) := by decide +kernel
theorem dX2_becomesSheet_2 : decode cX2_becomesSheet 2 = .ok (.putfield 15, 3) := by decide +kernel
theorem dX2_becomesSheet_5 : decode cX2_becomesSheet 5 = .ok (.aload_n 1, 1) := by decide +kernel
theorem dX2_becomesSheet_6 : decode cX2_becomesSheet 6 = .ok (.getfield 19, 3) := by decide +kernel
theorem dX2_becomesSheet_9 : decode cX2_becomesSheet 9 = .ok (.iload_n 2, 1) := by decide +kernel
theorem dX2_becomesSheet_10 : decode cX2_becomesSheet 10 = .ok (.iaload, 1) := by decide +kernel
theorem dX2_becomesSheet_11 : decode cX2_becomesSheet 11 = .ok (.iload_n 3, 1) := by decide +kernel
theorem dX2_becomesSheet_12 : decode cX2_becomesSheet 12 = .ok (.invokestatic 24, 3) := by decide +kernel
theorem dX2_becomesSheet_15 : decode cX2_becomesSheet 15 = .ok (.if_icmp .eq 5, 3) := by decide +kernel
theorem dX2_becomesSheet_18 : decode cX2_becomesSheet 18 = .ok (.iconst 0, 1) := by decide +kernel
theorem dX2_becomesSheet_19 : decode cX2_becomesSheet 19 = .ok (.ireturn, 1) := by decide +kernel
theorem dX2_becomesSheet_20 : decode cX2_becomesSheet 20 = .ok (.iload_n 3, 1) := by decide +kernel
theorem dX2_becomesSheet_21 : decode cX2_becomesSheet 21 = .ok (.istore 4, 2) := by decide +kernel
theorem dX2_becomesSheet_23 : decode cX2_becomesSheet 23 = .ok (.iconst 0, 1) := by decide +kernel
theorem dX2_becomesSheet_24 : decode cX2_becomesSheet 24 = .ok (.istore 5, 2) := by decide +kernel
theorem dX2_becomesSheet_26 : decode cX2_becomesSheet 26 = .ok (.iload 5, 2) := by decide +kernel
theorem dX2_becomesSheet_28 : decode cX2_becomesSheet 28 = .ok (.aload_n 1, 1) := by decide +kernel
theorem dX2_becomesSheet_29 : decode cX2_becomesSheet 29 = .ok (.getfield 19, 3) := by decide +kernel
theorem dX2_becomesSheet_32 : decode cX2_becomesSheet 32 = .ok (.iload_n 2, 1) := by decide +kernel
theorem dX2_becomesSheet_33 : decode cX2_becomesSheet 33 = .ok (.iaload, 1) := by decide +kernel
theorem dX2_becomesSheet_34 : decode cX2_becomesSheet 34 = .ok (.if_icmp .ge 59, 3) := by decide +kernel
theorem dX2_becomesSheet_37 : decode cX2_becomesSheet 37 = .ok (.aload_n 1, 1) := by decide +kernel
theorem dX2_becomesSheet_38 : decode cX2_becomesSheet 38 = .ok (.iload_n 2, 1) := by decide +kernel
theorem dX2_becomesSheet_39 : decode cX2_becomesSheet 39 = .ok (.iload 5, 2) := by decide +kernel
theorem dX2_becomesSheet_41 : decode cX2_becomesSheet 41 = .ok (.invokevirtual 30, 3) := by decide +kernel
theorem dX2_becomesSheet_44 : decode cX2_becomesSheet 44 = .ok (.istore 6, 2) := by decide +kernel
theorem dX2_becomesSheet_46 : decode cX2_becomesSheet 46 = .ok (.iload 6, 2) := by decide +kernel
theorem dX2_becomesSheet_48 : decode cX2_becomesSheet 48 = .ok (.ifCond .lt 20, 3) := by decide +kernel
theorem dX2_becomesSheet_51 : decode cX2_becomesSheet 51 = .ok (.iload 6, 2) := by decide +kernel
theorem dX2_becomesSheet_53 : decode cX2_becomesSheet 53 = .ok (.bipush 7, 2) := by decide +kernel
theorem dX2_becomesSheet_55 : decode cX2_becomesSheet 55 = .ok (.if_icmp .ge 13, 3) := by decide +kernel
theorem dX2_becomesSheet_58 : decode cX2_becomesSheet 58 = .ok (.iload 4, 2) := by decide +kernel
theorem dX2_becomesSheet_60 : decode cX2_becomesSheet 60 = .ok (.iload 6, 2) := by decide +kernel
theorem dX2_becomesSheet_62 : decode cX2_becomesSheet 62 = .ok (.ishr, 1) := by decide +kernel
theorem dX2_becomesSheet_63 : decode cX2_becomesSheet 63 = .ok (.iconst 1, 1) := by decide +kernel
theorem dX2_becomesSheet_64 : decode cX2_becomesSheet 64 = .ok (.iand, 1) := by decide +kernel
theorem dX2_becomesSheet_65 : decode cX2_becomesSheet 65 = .ok (.ifCond .ne 5, 3) := by decide +kernel
theorem dX2_becomesSheet_68 : decode cX2_becomesSheet 68 = .ok (.iconst 0, 1) := by decide +kernel
theorem dX2_becomesSheet_69 : decode cX2_becomesSheet 69 = .ok (.ireturn, 1) := by decide +kernel
theorem dX2_becomesSheet_70 : decode cX2_becomesSheet 70 = .ok (.iload 4, 2) := by decide +kernel
theorem dX2_becomesSheet_72 : decode cX2_becomesSheet 72 = .ok (.iconst 1, 1) := by decide +kernel
theorem dX2_becomesSheet_73 : decode cX2_becomesSheet 73 = .ok (.iload 6, 2) := by decide +kernel
theorem dX2_becomesSheet_75 : decode cX2_becomesSheet 75 = .ok (.ishl, 1) := by decide +kernel
theorem dX2_becomesSheet_76 : decode cX2_becomesSheet 76 = .ok (.iconst (-1), 1) := by decide +kernel
theorem dX2_becomesSheet_77 : decode cX2_becomesSheet 77 = .ok (.ixor, 1) := by decide +kernel
theorem dX2_becomesSheet_78 : decode cX2_becomesSheet 78 = .ok (.iand, 1) := by decide +kernel
theorem dX2_becomesSheet_79 : decode cX2_becomesSheet 79 = .ok (.istore 4, 2) := by decide +kernel
theorem dX2_becomesSheet_81 : decode cX2_becomesSheet 81 = .ok (.aload_n 0, 1) := by decide +kernel
theorem dX2_becomesSheet_82 : decode cX2_becomesSheet 82 = .ok (.iload 6, 2) := by decide +kernel
theorem dX2_becomesSheet_84 : decode cX2_becomesSheet 84 = .ok (.invokevirtual 34, 3) := by decide +kernel
theorem dX2_becomesSheet_87 : decode cX2_becomesSheet 87 = .ok (.iinc 5 1, 3) := by decide +kernel
theorem dX2_becomesSheet_90 : decode cX2_becomesSheet 90 = .ok (.goto (-64), 3) := by decide +kernel
theorem dX2_becomesSheet_93 : decode cX2_becomesSheet 93 = .ok (.iconst 1, 1) := by decide +kernel
theorem dX2_becomesSheet_94 : decode cX2_becomesSheet 94 = .ok (.ireturn, 1) := by decide +kernel
theorem dX2_append_0 : decode cX2_append 0 = .ok (.aload_n 0, 1) := by decide +kernel
theorem dX2_append_1 : decode cX2_append 1 = .ok (.getfield 15, 3) := by decide +kernel
theorem dX2_append_4 : decode cX2_append 4 = .ok (.bipush 7, 2) := by decide +kernel
theorem dX2_append_6 : decode cX2_append 6 = .ok (.if_icmp .ge 23, 3) := by decide +kernel
theorem dX2_append_9 : decode cX2_append 9 = .ok (.aload_n 0, 1) := by decide +kernel
theorem dX2_append_10 : decode cX2_append 10 = .ok (.getfield 9, 3) := by decide +kernel
theorem dX2_append_13 : decode cX2_append 13 = .ok (.aload_n 0, 1) := by decide +kernel
theorem dX2_append_14 : decode cX2_append 14 = .ok (.getfield 15, 3) := by decide +kernel
theorem dX2_append_17 : decode cX2_append 17 = .ok (.iload_n 1, 1) := by decide +kernel
theorem dX2_append_18 : decode cX2_append 18 = .ok (.iastore, 1) := by decide +kernel
theorem dX2_append_19 : decode cX2_append 19 = .ok (.aload_n 0, 1) := by decide +kernel
theorem dX2_append_20 : decode cX2_append 20 = .ok (.dup, 1) := by decide +kernel
theorem dX2_append_21 : decode cX2_append 21 = .ok (.getfield 15, 3) := by decide +kernel
theorem dX2_append_24 : decode cX2_append 24 = .ok (.iconst 1, 1) := by decide +kernel
theorem dX2_append_25 : decode cX2_append 25 = .ok (.iadd, 1) := by decide +kernel
theorem dX2_append_26 : decode cX2_append 26 = .ok (.putfield 15, 3) := by decide +kernel
theorem dX2_append_29 : decode cX2_append 29 = .ok (.return_, 1) := by decide +kernel
theorem dX2_becomesRule_0 : decode cX2_becomesRule 0 = .ok (.aload_n 0, 1) := by decide +kernel
theorem dX2_becomesRule_1 : decode cX2_becomesRule 1 = .ok (.iconst 0, 1) := by decide +kernel
theorem dX2_becomesRule_2 : decode cX2_becomesRule 2 = .ok (.putfield 15, 3) := by decide +kernel
theorem dX2_becomesRule_5 : decode cX2_becomesRule 5 = .ok (.iload_n 2, 1) := by decide +kernel
theorem dX2_becomesRule_6 : decode cX2_becomesRule 6 = .ok (.ifCond .ne 7, 3) := by decide +kernel
theorem dX2_becomesRule_9 : decode cX2_becomesRule 9 = .ok (.iconst 0, 1) := by decide +kernel
theorem dX2_becomesRule_10 : decode cX2_becomesRule 10 = .ok (.goto 13, 3) := by decide +kernel
theorem dX2_becomesRule_13 : decode cX2_becomesRule 13 = .ok (.iload_n 2, 1) := by decide +kernel
theorem dX2_becomesRule_14 : decode cX2_becomesRule 14 = .ok (.iconst 1, 1) := by decide +kernel
theorem dX2_becomesRule_15 : decode cX2_becomesRule 15 = .ok (.if_icmp .ne 7, 3) := by decide +kernel
theorem dX2_becomesRule_18 : decode cX2_becomesRule 18 = .ok (.iconst (-1), 1) := by decide +kernel
theorem dX2_becomesRule_19 : decode cX2_becomesRule 19 = .ok (.goto 4, 3) := by decide +kernel
theorem dX2_becomesRule_22 : decode cX2_becomesRule 22 = .ok (.iconst 1, 1) := by decide +kernel
theorem dX2_becomesRule_23 : decode cX2_becomesRule 23 = .ok (.istore_n 3, 1) := by decide +kernel
theorem dX2_becomesRule_24 : decode cX2_becomesRule 24 = .ok (.aload_n 1, 1) := by decide +kernel
theorem dX2_becomesRule_25 : decode cX2_becomesRule 25 = .ok (.invokevirtual 38, 3) := by decide +kernel
theorem dX2_becomesRule_28 : decode cX2_becomesRule 28 = .ok (.istore 4, 2) := by decide +kernel
theorem dX2_becomesRule_30 : decode cX2_becomesRule 30 = .ok (.iconst 0, 1) := by decide +kernel
theorem dX2_becomesRule_31 : decode cX2_becomesRule 31 = .ok (.istore 5, 2) := by decide +kernel
theorem dX2_becomesRule_33 : decode cX2_becomesRule 33 = .ok (.iload 5, 2) := by decide +kernel
theorem dX2_becomesRule_35 : decode cX2_becomesRule 35 = .ok (.bipush 7, 2) := by decide +kernel
theorem dX2_becomesRule_37 : decode cX2_becomesRule 37 = .ok (.if_icmp .ge 40, 3) := by decide +kernel
theorem dX2_becomesRule_40 : decode cX2_becomesRule 40 = .ok (.iload 4, 2) := by decide +kernel
theorem dX2_becomesRule_42 : decode cX2_becomesRule 42 = .ok (.ifCond .eq 35, 3) := by decide +kernel
theorem dX2_becomesRule_45 : decode cX2_becomesRule 45 = .ok (.aload_n 1, 1) := by decide +kernel
theorem dX2_becomesRule_46 : decode cX2_becomesRule 46 = .ok (.iload 4, 2) := by decide +kernel
theorem dX2_becomesRule_48 : decode cX2_becomesRule 48 = .ok (.iload_n 3, 1) := by decide +kernel
theorem dX2_becomesRule_49 : decode cX2_becomesRule 49 = .ok (.invokestatic 44, 3) := by decide +kernel
theorem dX2_becomesRule_52 : decode cX2_becomesRule 52 = .ok (.istore 6, 2) := by decide +kernel
theorem dX2_becomesRule_54 : decode cX2_becomesRule 54 = .ok (.iload 4, 2) := by decide +kernel
theorem dX2_becomesRule_56 : decode cX2_becomesRule 56 = .ok (.iconst 1, 1) := by decide +kernel
theorem dX2_becomesRule_57 : decode cX2_becomesRule 57 = .ok (.iload 6, 2) := by decide +kernel
theorem dX2_becomesRule_59 : decode cX2_becomesRule 59 = .ok (.ishl, 1) := by decide +kernel
theorem dX2_becomesRule_60 : decode cX2_becomesRule 60 = .ok (.iconst (-1), 1) := by decide +kernel
theorem dX2_becomesRule_61 : decode cX2_becomesRule 61 = .ok (.ixor, 1) := by decide +kernel
theorem dX2_becomesRule_62 : decode cX2_becomesRule 62 = .ok (.iand, 1) := by decide +kernel
theorem dX2_becomesRule_63 : decode cX2_becomesRule 63 = .ok (.istore 4, 2) := by decide +kernel
theorem dX2_becomesRule_65 : decode cX2_becomesRule 65 = .ok (.aload_n 0, 1) := by decide +kernel
theorem dX2_becomesRule_66 : decode cX2_becomesRule 66 = .ok (.iload 6, 2) := by decide +kernel
theorem dX2_becomesRule_68 : decode cX2_becomesRule 68 = .ok (.invokevirtual 34, 3) := by decide +kernel
theorem dX2_becomesRule_71 : decode cX2_becomesRule 71 = .ok (.iinc 5 1, 3) := by decide +kernel
theorem dX2_becomesRule_74 : decode cX2_becomesRule 74 = .ok (.goto (-41), 3) := by decide +kernel
theorem dX2_becomesRule_77 : decode cX2_becomesRule 77 = .ok (.return_, 1) := by decide +kernel
theorem dX2_leastRanked_0 : decode cX2_leastRanked 0 = .ok (.iload_n 1, 1) := by decide +kernel
theorem dX2_leastRanked_1 : decode cX2_leastRanked 1 = .ok (.invokestatic 48, 3) := by decide +kernel
theorem dX2_leastRanked_4 : decode cX2_leastRanked 4 = .ok (.istore_n 3, 1) := by decide +kernel
theorem dX2_leastRanked_5 : decode cX2_leastRanked 5 = .ok (.ldc 51, 2) := by decide +kernel
theorem dX2_leastRanked_7 : decode cX2_leastRanked 7 = .ok (.istore 4, 2) := by decide +kernel
theorem dX2_leastRanked_9 : decode cX2_leastRanked 9 = .ok (.iconst 0, 1) := by decide +kernel
theorem dX2_leastRanked_10 : decode cX2_leastRanked 10 = .ok (.istore 5, 2) := by decide +kernel
theorem dX2_leastRanked_12 : decode cX2_leastRanked 12 = .ok (.iload 5, 2) := by decide +kernel
theorem dX2_leastRanked_14 : decode cX2_leastRanked 14 = .ok (.bipush 7, 2) := by decide +kernel
theorem dX2_leastRanked_16 : decode cX2_leastRanked 16 = .ok (.if_icmp .ge 46, 3) := by decide +kernel
theorem dX2_leastRanked_19 : decode cX2_leastRanked 19 = .ok (.iload_n 2, 1) := by decide +kernel
theorem dX2_leastRanked_20 : decode cX2_leastRanked 20 = .ok (.aload_n 0, 1) := by decide +kernel
theorem dX2_leastRanked_21 : decode cX2_leastRanked 21 = .ok (.getfield 52, 3) := by decide +kernel
theorem dX2_leastRanked_24 : decode cX2_leastRanked 24 = .ok (.iload 5, 2) := by decide +kernel
theorem dX2_leastRanked_26 : decode cX2_leastRanked 26 = .ok (.iaload, 1) := by decide +kernel
theorem dX2_leastRanked_27 : decode cX2_leastRanked 27 = .ok (.invokestatic 24, 3) := by decide +kernel
theorem dX2_leastRanked_30 : decode cX2_leastRanked 30 = .ok (.imul, 1) := by decide +kernel
theorem dX2_leastRanked_31 : decode cX2_leastRanked 31 = .ok (.istore 6, 2) := by decide +kernel
theorem dX2_leastRanked_33 : decode cX2_leastRanked 33 = .ok (.iload_n 1, 1) := by decide +kernel
theorem dX2_leastRanked_34 : decode cX2_leastRanked 34 = .ok (.iload 5, 2) := by decide +kernel
theorem dX2_leastRanked_36 : decode cX2_leastRanked 36 = .ok (.ishr, 1) := by decide +kernel
theorem dX2_leastRanked_37 : decode cX2_leastRanked 37 = .ok (.iconst 1, 1) := by decide +kernel
theorem dX2_leastRanked_38 : decode cX2_leastRanked 38 = .ok (.iand, 1) := by decide +kernel
theorem dX2_leastRanked_39 : decode cX2_leastRanked 39 = .ok (.ifCond .eq 17, 3) := by decide +kernel
theorem dX2_leastRanked_42 : decode cX2_leastRanked 42 = .ok (.iload 6, 2) := by decide +kernel
theorem dX2_leastRanked_44 : decode cX2_leastRanked 44 = .ok (.iload 4, 2) := by decide +kernel
theorem dX2_leastRanked_46 : decode cX2_leastRanked 46 = .ok (.if_icmp .ge 10, 3) := by decide +kernel
theorem dX2_leastRanked_49 : decode cX2_leastRanked 49 = .ok (.iload 5, 2) := by decide +kernel
theorem dX2_leastRanked_51 : decode cX2_leastRanked 51 = .ok (.istore_n 3, 1) := by decide +kernel
theorem dX2_leastRanked_52 : decode cX2_leastRanked 52 = .ok (.iload 6, 2) := by decide +kernel
theorem dX2_leastRanked_54 : decode cX2_leastRanked 54 = .ok (.istore 4, 2) := by decide +kernel
theorem dX2_leastRanked_56 : decode cX2_leastRanked 56 = .ok (.iinc 5 1, 3) := by decide +kernel
theorem dX2_leastRanked_59 : decode cX2_leastRanked 59 = .ok (.goto (-47), 3) := by decide +kernel
theorem dX2_leastRanked_62 : decode cX2_leastRanked 62 = .ok (.iload_n 3, 1) := by decide +kernel
theorem dX2_leastRanked_63 : decode cX2_leastRanked 63 = .ok (.ireturn, 1) := by decide +kernel
theorem dX2_placeOf_0 : decode cX2_placeOf 0 = .ok (.iconst 0, 1) := by decide +kernel
theorem dX2_placeOf_1 : decode cX2_placeOf 1 = .ok (.istore_n 2, 1) := by decide +kernel
theorem dX2_placeOf_2 : decode cX2_placeOf 2 = .ok (.iload_n 2, 1) := by decide +kernel
theorem dX2_placeOf_3 : decode cX2_placeOf 3 = .ok (.aload_n 0, 1) := by decide +kernel
theorem dX2_placeOf_4 : decode cX2_placeOf 4 = .ok (.getfield 15, 3) := by decide +kernel
theorem dX2_placeOf_7 : decode cX2_placeOf 7 = .ok (.if_icmp .ge 21, 3) := by decide +kernel
theorem dX2_placeOf_10 : decode cX2_placeOf 10 = .ok (.aload_n 0, 1) := by decide +kernel
theorem dX2_placeOf_11 : decode cX2_placeOf 11 = .ok (.getfield 9, 3) := by decide +kernel
theorem dX2_placeOf_14 : decode cX2_placeOf 14 = .ok (.iload_n 2, 1) := by decide +kernel
theorem dX2_placeOf_15 : decode cX2_placeOf 15 = .ok (.iaload, 1) := by decide +kernel
theorem dX2_placeOf_16 : decode cX2_placeOf 16 = .ok (.iload_n 1, 1) := by decide +kernel
theorem dX2_placeOf_17 : decode cX2_placeOf 17 = .ok (.if_icmp .ne 5, 3) := by decide +kernel
theorem dX2_placeOf_20 : decode cX2_placeOf 20 = .ok (.iload_n 2, 1) := by decide +kernel
theorem dX2_placeOf_21 : decode cX2_placeOf 21 = .ok (.ireturn, 1) := by decide +kernel
theorem dX2_placeOf_22 : decode cX2_placeOf 22 = .ok (.iinc 2 1, 3) := by decide +kernel
theorem dX2_placeOf_25 : decode cX2_placeOf 25 = .ok (.goto (-23), 3) := by decide +kernel
theorem dX2_placeOf_28 : decode cX2_placeOf 28 = .ok (.iconst 0, 1) := by decide +kernel
theorem dX2_placeOf_29 : decode cX2_placeOf 29 = .ok (.ireturn, 1) := by decide +kernel
theorem dX2_swap_0 : decode cX2_swap 0 = .ok (.aload_n 0, 1) := by decide +kernel
theorem dX2_swap_1 : decode cX2_swap 1 = .ok (.iload_n 1, 1) := by decide +kernel
theorem dX2_swap_2 : decode cX2_swap 2 = .ok (.invokevirtual 55, 3) := by decide +kernel
theorem dX2_swap_5 : decode cX2_swap 5 = .ok (.istore_n 3, 1) := by decide +kernel
theorem dX2_swap_6 : decode cX2_swap 6 = .ok (.aload_n 0, 1) := by decide +kernel
theorem dX2_swap_7 : decode cX2_swap 7 = .ok (.iload_n 2, 1) := by decide +kernel
theorem dX2_swap_8 : decode cX2_swap 8 = .ok (.invokevirtual 55, 3) := by decide +kernel
theorem dX2_swap_11 : decode cX2_swap 11 = .ok (.istore 4, 2) := by decide +kernel
theorem dX2_swap_13 : decode cX2_swap 13 = .ok (.aload_n 0, 1) := by decide +kernel
theorem dX2_swap_14 : decode cX2_swap 14 = .ok (.getfield 9, 3) := by decide +kernel
theorem dX2_swap_17 : decode cX2_swap 17 = .ok (.iload_n 3, 1) := by decide +kernel
theorem dX2_swap_18 : decode cX2_swap 18 = .ok (.iload_n 2, 1) := by decide +kernel
theorem dX2_swap_19 : decode cX2_swap 19 = .ok (.iastore, 1) := by decide +kernel
theorem dX2_swap_20 : decode cX2_swap 20 = .ok (.aload_n 0, 1) := by decide +kernel
theorem dX2_swap_21 : decode cX2_swap 21 = .ok (.getfield 9, 3) := by decide +kernel
theorem dX2_swap_24 : decode cX2_swap 24 = .ok (.iload 4, 2) := by decide +kernel
theorem dX2_swap_26 : decode cX2_swap 26 = .ok (.iload_n 1, 1) := by decide +kernel
theorem dX2_swap_27 : decode cX2_swap 27 = .ok (.iastore, 1) := by decide +kernel
theorem dX2_swap_28 : decode cX2_swap 28 = .ok (.return_, 1) := by decide +kernel
theorem dX2_digits_0 : decode cX2_digits 0 = .ok (.iconst 0, 1) := by decide +kernel
theorem dX2_digits_1 : decode cX2_digits 1 = .ok (.istore_n 1, 1) := by decide +kernel
theorem dX2_digits_2 : decode cX2_digits 2 = .ok (.iconst 0, 1) := by decide +kernel
theorem dX2_digits_3 : decode cX2_digits 3 = .ok (.istore_n 2, 1) := by decide +kernel
theorem dX2_digits_4 : decode cX2_digits 4 = .ok (.iload_n 2, 1) := by decide +kernel
theorem dX2_digits_5 : decode cX2_digits 5 = .ok (.aload_n 0, 1) := by decide +kernel
theorem dX2_digits_6 : decode cX2_digits 6 = .ok (.getfield 15, 3) := by decide +kernel
theorem dX2_digits_9 : decode cX2_digits 9 = .ok (.if_icmp .ge 23, 3) := by decide +kernel
theorem dX2_digits_12 : decode cX2_digits 12 = .ok (.iload_n 1, 1) := by decide +kernel
theorem dX2_digits_13 : decode cX2_digits 13 = .ok (.bipush 10, 2) := by decide +kernel
theorem dX2_digits_15 : decode cX2_digits 15 = .ok (.imul, 1) := by decide +kernel
theorem dX2_digits_16 : decode cX2_digits 16 = .ok (.aload_n 0, 1) := by decide +kernel
theorem dX2_digits_17 : decode cX2_digits 17 = .ok (.getfield 9, 3) := by decide +kernel
theorem dX2_digits_20 : decode cX2_digits 20 = .ok (.iload_n 2, 1) := by decide +kernel
theorem dX2_digits_21 : decode cX2_digits 21 = .ok (.iaload, 1) := by decide +kernel
theorem dX2_digits_22 : decode cX2_digits 22 = .ok (.iadd, 1) := by decide +kernel
theorem dX2_digits_23 : decode cX2_digits 23 = .ok (.iconst 1, 1) := by decide +kernel
theorem dX2_digits_24 : decode cX2_digits 24 = .ok (.iadd, 1) := by decide +kernel
theorem dX2_digits_25 : decode cX2_digits 25 = .ok (.istore_n 1, 1) := by decide +kernel
theorem dX2_digits_26 : decode cX2_digits 26 = .ok (.iinc 2 1, 3) := by decide +kernel
theorem dX2_digits_29 : decode cX2_digits 29 = .ok (.goto (-25), 3) := by decide +kernel
theorem dX2_digits_32 : decode cX2_digits 32 = .ok (.iload_n 1, 1) := by decide +kernel
theorem dX2_digits_33 : decode cX2_digits 33 = .ok (.ireturn, 1) := by decide +kernel
theorem dX3_init_0 : decode cX3_init 0 = .ok (.aload_n 0, 1) := by decide +kernel
theorem dX3_init_1 : decode cX3_init 1 = .ok (.invokespecial 3, 3) := by decide +kernel
theorem dX3_init_4 : decode cX3_init 4 = .ok (.aload_n 0, 1) := by decide +kernel
theorem dX3_init_5 : decode cX3_init 5 = .ok (.sipush 160, 3) := by decide +kernel
theorem dX3_init_8 : decode cX3_init 8 = .ok (.newarray .int, 2) := by decide +kernel
theorem dX3_init_10 : decode cX3_init 10 = .ok (.putfield 9, 3) := by decide +kernel
theorem dX3_init_13 : decode cX3_init 13 = .ok (.aload_n 0, 1) := by decide +kernel
theorem dX3_init_14 : decode cX3_init 14 = .ok (.iconst 4, 1) := by decide +kernel
theorem dX3_init_15 : decode cX3_init 15 = .ok (.newarray .int, 2) := by decide +kernel
theorem dX3_init_17 : decode cX3_init 17 = .ok (.putfield 15, 3) := by decide +kernel
theorem dX3_init_20 : decode cX3_init 20 = .ok (.aload_n 0, 1) := by decide +kernel
theorem dX3_init_21 : decode cX3_init 21 = .ok (.sipush 160, 3) := by decide +kernel
theorem dX3_init_24 : decode cX3_init 24 = .ok (.newarray .int, 2) := by decide +kernel
theorem dX3_init_26 : decode cX3_init 26 = .ok (.putfield 18, 3) := by decide +kernel
theorem dX3_init_29 : decode cX3_init 29 = .ok (.return_, 1) := by decide +kernel
theorem dX3_read_0 : decode cX3_read 0 = .ok (.aload_n 1, 1) := by decide +kernel
theorem dX3_read_1 : decode cX3_read 1 = .ok (.iconst 0, 1) := by decide +kernel
theorem dX3_read_2 : decode cX3_read 2 = .ok (.aload_n 0, 1) := by decide +kernel
theorem dX3_read_3 : decode cX3_read 3 = .ok (.getfield 18, 3) := by decide +kernel
theorem dX3_read_6 : decode cX3_read 6 = .ok (.iconst 0, 1) := by decide +kernel
theorem dX3_read_7 : decode cX3_read 7 = .ok (.sipush 160, 3) := by decide +kernel
theorem dX3_read_10 : decode cX3_read 10 = .ok (.invokestatic 21, 3) := by decide +kernel
theorem dX3_read_13 : decode cX3_read 13 = .ok (.aload_n 0, 1) := by decide +kernel
theorem dX3_read_14 : decode cX3_read 14 = .ok (.iload_n 2, 1) := by decide +kernel
theorem dX3_read_15 : decode cX3_read 15 = .ok (.putfield 27, 3) := by decide +kernel
theorem dX3_read_18 : decode cX3_read 18 = .ok (.aload_n 0, 1) := by decide +kernel
theorem dX3_read_19 : decode cX3_read 19 = .ok (.iconst 0, 1) := by decide +kernel
theorem dX3_read_20 : decode cX3_read 20 = .ok (.putfield 31, 3) := by decide +kernel
theorem dX3_read_23 : decode cX3_read 23 = .ok (.aload_n 0, 1) := by decide +kernel
theorem dX3_read_24 : decode cX3_read 24 = .ok (.iconst 0, 1) := by decide +kernel
theorem dX3_read_25 : decode cX3_read 25 = .ok (.putfield 34, 3) := by decide +kernel
theorem dX3_read_28 : decode cX3_read 28 = .ok (.aload_n 0, 1) := by decide +kernel
theorem dX3_read_29 : decode cX3_read 29 = .ok (.iconst (-1), 1) := by decide +kernel
theorem dX3_read_30 : decode cX3_read 30 = .ok (.putfield 37, 3) := by decide +kernel
theorem dX3_read_33 : decode cX3_read 33 = .ok (.aload_n 0, 1) := by decide +kernel
theorem dX3_read_34 : decode cX3_read 34 = .ok (.invokevirtual 40, 3) := by decide +kernel
theorem dX3_read_37 : decode cX3_read 37 = .ok (.iconst 0, 1) := by decide +kernel
theorem dX3_read_38 : decode cX3_read 38 = .ok (.istore_n 3, 1) := by decide +kernel
theorem dX3_read_39 : decode cX3_read 39 = .ok (.iload_n 3, 1) := by decide +kernel
theorem dX3_read_40 : decode cX3_read 40 = .ok (.iconst 3, 1) := by decide +kernel
theorem dX3_read_41 : decode cX3_read 41 = .ok (.if_icmp .ge 37, 3) := by decide +kernel
theorem dX3_read_44 : decode cX3_read 44 = .ok (.aload_n 0, 1) := by decide +kernel
theorem dX3_read_45 : decode cX3_read 45 = .ok (.getfield 15, 3) := by decide +kernel
theorem dX3_read_48 : decode cX3_read 48 = .ok (.iload_n 3, 1) := by decide +kernel
theorem dX3_read_49 : decode cX3_read 49 = .ok (.aload_n 0, 1) := by decide +kernel
theorem dX3_read_50 : decode cX3_read 50 = .ok (.getfield 31, 3) := by decide +kernel
theorem dX3_read_53 : decode cX3_read 53 = .ok (.iastore, 1) := by decide +kernel
theorem dX3_read_54 : decode cX3_read 54 = .ok (.aload_n 0, 1) := by decide +kernel
theorem dX3_read_55 : decode cX3_read 55 = .ok (.iconst 4, 1) := by decide +kernel
theorem dX3_read_56 : decode cX3_read 56 = .ok (.iload_n 3, 1) := by decide +kernel
theorem dX3_read_57 : decode cX3_read 57 = .ok (.iadd, 1) := by decide +kernel
theorem dX3_read_58 : decode cX3_read 58 = .ok (.invokevirtual 43, 3) := by decide +kernel
theorem dX3_read_61 : decode cX3_read 61 = .ok (.aload_n 0, 1) := by decide +kernel
theorem dX3_read_62 : decode cX3_read 62 = .ok (.iconst 0, 1) := by decide +kernel
theorem dX3_read_63 : decode cX3_read 63 = .ok (.invokevirtual 47, 3) := by decide +kernel
theorem dX3_read_66 : decode cX3_read 66 = .ok (.aload_n 0, 1) := by decide +kernel
theorem dX3_read_67 : decode cX3_read 67 = .ok (.bipush 59, 2) := by decide +kernel
theorem dX3_read_69 : decode cX3_read 69 = .ok (.invokevirtual 43, 3) := by decide +kernel
theorem dX3_read_72 : decode cX3_read 72 = .ok (.iinc 3 1, 3) := by decide +kernel
theorem dX3_read_75 : decode cX3_read 75 = .ok (.goto (-36), 3) := by decide +kernel
theorem dX3_read_78 : decode cX3_read 78 = .ok (.aload_n 0, 1) := by decide +kernel
theorem dX3_read_79 : decode cX3_read 79 = .ok (.getfield 15, 3) := by decide +kernel
theorem dX3_read_82 : decode cX3_read 82 = .ok (.iconst 3, 1) := by decide +kernel
theorem dX3_read_83 : decode cX3_read 83 = .ok (.aload_n 0, 1) := by decide +kernel
theorem dX3_read_84 : decode cX3_read 84 = .ok (.getfield 31, 3) := by decide +kernel
theorem dX3_read_87 : decode cX3_read 87 = .ok (.iastore, 1) := by decide +kernel
theorem dX3_read_88 : decode cX3_read 88 = .ok (.aload_n 0, 1) := by decide +kernel
theorem dX3_read_89 : decode cX3_read 89 = .ok (.getfield 50, 3) := by decide +kernel
theorem dX3_read_92 : decode cX3_read 92 = .ok (.ifCond .eq 7, 3) := by decide +kernel
theorem dX3_read_95 : decode cX3_read 95 = .ok (.aload_n 0, 1) := by decide +kernel
theorem dX3_read_96 : decode cX3_read 96 = .ok (.invokevirtual 53, 3) := by decide +kernel
theorem dX3_read_99 : decode cX3_read 99 = .ok (.aload_n 0, 1) := by decide +kernel
theorem dX3_read_100 : decode cX3_read 100 = .ok (.getfield 37, 3) := by decide +kernel
theorem dX3_read_103 : decode cX3_read 103 = .ok (.ireturn, 1) := by decide +kernel
theorem dX3_fail_0 : decode cX3_fail 0 = .ok (.aload_n 0, 1) := by decide +kernel
theorem dX3_fail_1 : decode cX3_fail 1 = .ok (.getfield 37, 3) := by decide +kernel
theorem dX3_fail_4 : decode cX3_fail 4 = .ok (.ifCond .ge 11, 3) := by decide +kernel
theorem dX3_fail_7 : decode cX3_fail 7 = .ok (.aload_n 0, 1) := by decide +kernel
theorem dX3_fail_8 : decode cX3_fail 8 = .ok (.aload_n 0, 1) := by decide +kernel
theorem dX3_fail_9 : decode cX3_fail 9 = .ok (.getfield 56, 3) := by decide +kernel
theorem dX3_fail_12 : decode cX3_fail 12 = .ok (.putfield 37, 3) := by decide +kernel
theorem dX3_fail_15 : decode cX3_fail 15 = .ok (.aload_n 0, 1) := by decide +kernel
theorem dX3_fail_16 : decode cX3_fail 16 = .ok (.iconst 3, 1) := by decide +kernel
theorem dX3_fail_17 : decode cX3_fail 17 = .ok (.putfield 50, 3) := by decide +kernel
theorem dX3_fail_20 : decode cX3_fail 20 = .ok (.return_, 1) := by decide +kernel
theorem dX3_expect_0 : decode cX3_expect 0 = .ok (.aload_n 0, 1) := by decide +kernel
theorem dX3_expect_1 : decode cX3_expect 1 = .ok (.getfield 50, 3) := by decide +kernel
theorem dX3_expect_4 : decode cX3_expect 4 = .ok (.iload_n 1, 1) := by decide +kernel
theorem dX3_expect_5 : decode cX3_expect 5 = .ok (.if_icmp .ne 10, 3) := by decide +kernel
theorem dX3_expect_8 : decode cX3_expect 8 = .ok (.aload_n 0, 1) := by decide +kernel
theorem dX3_expect_9 : decode cX3_expect 9 = .ok (.invokevirtual 40, 3) := by decide +kernel
theorem dX3_expect_12 : decode cX3_expect 12 = .ok (.goto 7, 3) := by decide +kernel
theorem dX3_expect_15 : decode cX3_expect 15 = .ok (.aload_n 0, 1) := by decide +kernel
theorem dX3_expect_16 : decode cX3_expect 16 = .ok (.invokevirtual 53, 3) := by decide +kernel
theorem dX3_expect_19 : decode cX3_expect 19 = .ok (.return_, 1) := by decide +kernel
theorem dX3_readOr_0 : decode cX3_readOr 0 = .ok (.aload_n 0, 1) := by decide +kernel
theorem dX3_readOr_1 : decode cX3_readOr 1 = .ok (.iload_n 1, 1) := by decide +kernel
theorem dX3_readOr_2 : decode cX3_readOr 2 = .ok (.invokevirtual 59, 3) := by decide +kernel
theorem dX3_readOr_5 : decode cX3_readOr 5 = .ok (.iconst 0, 1) := by decide +kernel
theorem dX3_readOr_6 : decode cX3_readOr 6 = .ok (.istore_n 2, 1) := by decide +kernel
theorem dX3_readOr_7 : decode cX3_readOr 7 = .ok (.iload_n 2, 1) := by decide +kernel
theorem dX3_readOr_8 : decode cX3_readOr 8 = .ok (.sipush 160, 3) := by decide +kernel
theorem dX3_readOr_11 : decode cX3_readOr 11 = .ok (.if_icmp .ge 34, 3) := by decide +kernel
theorem dX3_readOr_14 : decode cX3_readOr 14 = .ok (.aload_n 0, 1) := by decide +kernel
theorem dX3_readOr_15 : decode cX3_readOr 15 = .ok (.getfield 50, 3) := by decide +kernel
theorem dX3_readOr_18 : decode cX3_readOr 18 = .ok (.bipush 7, 2) := by decide +kernel
theorem dX3_readOr_20 : decode cX3_readOr 20 = .ok (.if_icmp .ne 25, 3) := by decide +kernel
theorem dX3_readOr_23 : decode cX3_readOr 23 = .ok (.aload_n 0, 1) := by decide +kernel
theorem dX3_readOr_24 : decode cX3_readOr 24 = .ok (.invokevirtual 40, 3) := by decide +kernel
theorem dX3_readOr_27 : decode cX3_readOr 27 = .ok (.aload_n 0, 1) := by decide +kernel
theorem dX3_readOr_28 : decode cX3_readOr 28 = .ok (.iload_n 1, 1) := by decide +kernel
theorem dX3_readOr_29 : decode cX3_readOr 29 = .ok (.invokevirtual 59, 3) := by decide +kernel
theorem dX3_readOr_32 : decode cX3_readOr 32 = .ok (.aload_n 0, 1) := by decide +kernel
theorem dX3_readOr_33 : decode cX3_readOr 33 = .ok (.sipush 20007, 3) := by decide +kernel
theorem dX3_readOr_36 : decode cX3_readOr 36 = .ok (.invokevirtual 62, 3) := by decide +kernel
theorem dX3_readOr_39 : decode cX3_readOr 39 = .ok (.iinc 2 1, 3) := by decide +kernel
theorem dX3_readOr_42 : decode cX3_readOr 42 = .ok (.goto (-35), 3) := by decide +kernel
theorem dX3_readOr_45 : decode cX3_readOr 45 = .ok (.return_, 1) := by decide +kernel
theorem dX3_readAnd_0 : decode cX3_readAnd 0 = .ok (.aload_n 0, 1) := by decide +kernel
theorem dX3_readAnd_1 : decode cX3_readAnd 1 = .ok (.iload_n 1, 1) := by decide +kernel
theorem dX3_readAnd_2 : decode cX3_readAnd 2 = .ok (.invokevirtual 65, 3) := by decide +kernel
theorem dX3_readAnd_5 : decode cX3_readAnd 5 = .ok (.iconst 0, 1) := by decide +kernel
theorem dX3_readAnd_6 : decode cX3_readAnd 6 = .ok (.istore_n 2, 1) := by decide +kernel
theorem dX3_readAnd_7 : decode cX3_readAnd 7 = .ok (.iload_n 2, 1) := by decide +kernel
theorem dX3_readAnd_8 : decode cX3_readAnd 8 = .ok (.sipush 160, 3) := by decide +kernel
theorem dX3_readAnd_11 : decode cX3_readAnd 11 = .ok (.if_icmp .ge 34, 3) := by decide +kernel
theorem dX3_readAnd_14 : decode cX3_readAnd 14 = .ok (.aload_n 0, 1) := by decide +kernel
theorem dX3_readAnd_15 : decode cX3_readAnd 15 = .ok (.getfield 50, 3) := by decide +kernel
theorem dX3_readAnd_18 : decode cX3_readAnd 18 = .ok (.bipush 8, 2) := by decide +kernel
theorem dX3_readAnd_20 : decode cX3_readAnd 20 = .ok (.if_icmp .ne 25, 3) := by decide +kernel
theorem dX3_readAnd_23 : decode cX3_readAnd 23 = .ok (.aload_n 0, 1) := by decide +kernel
theorem dX3_readAnd_24 : decode cX3_readAnd 24 = .ok (.invokevirtual 40, 3) := by decide +kernel
theorem dX3_readAnd_27 : decode cX3_readAnd 27 = .ok (.aload_n 0, 1) := by decide +kernel
theorem dX3_readAnd_28 : decode cX3_readAnd 28 = .ok (.iload_n 1, 1) := by decide +kernel
theorem dX3_readAnd_29 : decode cX3_readAnd 29 = .ok (.invokevirtual 65, 3) := by decide +kernel
theorem dX3_readAnd_32 : decode cX3_readAnd 32 = .ok (.aload_n 0, 1) := by decide +kernel
theorem dX3_readAnd_33 : decode cX3_readAnd 33 = .ok (.sipush 20008, 3) := by decide +kernel
theorem dX3_readAnd_36 : decode cX3_readAnd 36 = .ok (.invokevirtual 62, 3) := by decide +kernel
theorem dX3_readAnd_39 : decode cX3_readAnd 39 = .ok (.iinc 2 1, 3) := by decide +kernel
theorem dX3_readAnd_42 : decode cX3_readAnd 42 = .ok (.goto (-35), 3) := by decide +kernel
theorem dX3_readAnd_45 : decode cX3_readAnd 45 = .ok (.return_, 1) := by decide +kernel
theorem dX3_readNot_0 : decode cX3_readNot 0 = .ok (.aload_n 0, 1) := by decide +kernel
theorem dX3_readNot_1 : decode cX3_readNot 1 = .ok (.getfield 50, 3) := by decide +kernel
theorem dX3_readNot_4 : decode cX3_readNot 4 = .ok (.bipush 9, 2) := by decide +kernel
theorem dX3_readNot_6 : decode cX3_readNot 6 = .ok (.if_icmp .ne 30, 3) := by decide +kernel
theorem dX3_readNot_9 : decode cX3_readNot 9 = .ok (.aload_n 0, 1) := by decide +kernel
theorem dX3_readNot_10 : decode cX3_readNot 10 = .ok (.iload_n 1, 1) := by decide +kernel
theorem dX3_readNot_11 : decode cX3_readNot 11 = .ok (.invokevirtual 68, 3) := by decide +kernel
theorem dX3_readNot_14 : decode cX3_readNot 14 = .ok (.ifCond .eq 21, 3) := by decide +kernel
theorem dX3_readNot_17 : decode cX3_readNot 17 = .ok (.aload_n 0, 1) := by decide +kernel
theorem dX3_readNot_18 : decode cX3_readNot 18 = .ok (.invokevirtual 40, 3) := by decide +kernel
theorem dX3_readNot_21 : decode cX3_readNot 21 = .ok (.aload_n 0, 1) := by decide +kernel
theorem dX3_readNot_22 : decode cX3_readNot 22 = .ok (.iload_n 1, 1) := by decide +kernel
theorem dX3_readNot_23 : decode cX3_readNot 23 = .ok (.iconst 1, 1) := by decide +kernel
theorem dX3_readNot_24 : decode cX3_readNot 24 = .ok (.iadd, 1) := by decide +kernel
theorem dX3_readNot_25 : decode cX3_readNot 25 = .ok (.invokevirtual 65, 3) := by decide +kernel
theorem dX3_readNot_28 : decode cX3_readNot 28 = .ok (.aload_n 0, 1) := by decide +kernel
theorem dX3_readNot_29 : decode cX3_readNot 29 = .ok (.sipush 20009, 3) := by decide +kernel
theorem dX3_readNot_32 : decode cX3_readNot 32 = .ok (.invokevirtual 62, 3) := by decide +kernel
theorem dX3_readNot_35 : decode cX3_readNot 35 = .ok (.return_, 1) := by decide +kernel
theorem dX3_readNot_36 : decode cX3_readNot 36 = .ok (.aload_n 0, 1) := by decide +kernel
theorem dX3_readNot_37 : decode cX3_readNot 37 = .ok (.iload_n 1, 1) := by decide +kernel
theorem dX3_readNot_38 : decode cX3_readNot 38 = .ok (.invokevirtual 72, 3) := by decide +kernel
theorem dX3_readNot_41 : decode cX3_readNot 41 = .ok (.aload_n 0, 1) := by decide +kernel
theorem dX3_readNot_42 : decode cX3_readNot 42 = .ok (.getfield 50, 3) := by decide +kernel
theorem dX3_readNot_45 : decode cX3_readNot 45 = .ok (.bipush 60, 2) := by decide +kernel
theorem dX3_readNot_47 : decode cX3_readNot 47 = .ok (.if_icmp .eq 12, 3) := by decide +kernel
theorem dX3_readNot_50 : decode cX3_readNot 50 = .ok (.aload_n 0, 1) := by decide +kernel
theorem dX3_readNot_51 : decode cX3_readNot 51 = .ok (.getfield 50, 3) := by decide +kernel
theorem dX3_readNot_54 : decode cX3_readNot 54 = .ok (.bipush 61, 2) := by decide +kernel
theorem dX3_readNot_56 : decode cX3_readNot 56 = .ok (.if_icmp .ne 26, 3) := by decide +kernel
theorem dX3_readNot_59 : decode cX3_readNot 59 = .ok (.aload_n 0, 1) := by decide +kernel
theorem dX3_readNot_60 : decode cX3_readNot 60 = .ok (.getfield 50, 3) := by decide +kernel
theorem dX3_readNot_63 : decode cX3_readNot 63 = .ok (.istore_n 2, 1) := by decide +kernel
theorem dX3_readNot_64 : decode cX3_readNot 64 = .ok (.aload_n 0, 1) := by decide +kernel
theorem dX3_readNot_65 : decode cX3_readNot 65 = .ok (.invokevirtual 40, 3) := by decide +kernel
theorem dX3_readNot_68 : decode cX3_readNot 68 = .ok (.aload_n 0, 1) := by decide +kernel
theorem dX3_readNot_69 : decode cX3_readNot 69 = .ok (.iload_n 1, 1) := by decide +kernel
theorem dX3_readNot_70 : decode cX3_readNot 70 = .ok (.invokevirtual 72, 3) := by decide +kernel
theorem dX3_readNot_73 : decode cX3_readNot 73 = .ok (.aload_n 0, 1) := by decide +kernel
theorem dX3_readNot_74 : decode cX3_readNot 74 = .ok (.sipush 20000, 3) := by decide +kernel
theorem dX3_readNot_77 : decode cX3_readNot 77 = .ok (.iload_n 2, 1) := by decide +kernel
theorem dX3_readNot_78 : decode cX3_readNot 78 = .ok (.iadd, 1) := by decide +kernel
theorem dX3_readNot_79 : decode cX3_readNot 79 = .ok (.invokevirtual 62, 3) := by decide +kernel
theorem dX3_readNot_82 : decode cX3_readNot 82 = .ok (.return_, 1) := by decide +kernel
theorem dX3_readSum_0 : decode cX3_readSum 0 = .ok (.aload_n 0, 1) := by decide +kernel
theorem dX3_readSum_1 : decode cX3_readSum 1 = .ok (.iload_n 1, 1) := by decide +kernel
theorem dX3_readSum_2 : decode cX3_readSum 2 = .ok (.invokevirtual 75, 3) := by decide +kernel
theorem dX3_readSum_5 : decode cX3_readSum 5 = .ok (.iconst 0, 1) := by decide +kernel
theorem dX3_readSum_6 : decode cX3_readSum 6 = .ok (.istore_n 2, 1) := by decide +kernel
theorem dX3_readSum_7 : decode cX3_readSum 7 = .ok (.iload_n 2, 1) := by decide +kernel
theorem dX3_readSum_8 : decode cX3_readSum 8 = .ok (.sipush 160, 3) := by decide +kernel
theorem dX3_readSum_11 : decode cX3_readSum 11 = .ok (.if_icmp .ge 50, 3) := by decide +kernel
theorem dX3_readSum_14 : decode cX3_readSum 14 = .ok (.aload_n 0, 1) := by decide +kernel
theorem dX3_readSum_15 : decode cX3_readSum 15 = .ok (.getfield 50, 3) := by decide +kernel
theorem dX3_readSum_18 : decode cX3_readSum 18 = .ok (.bipush 43, 2) := by decide +kernel
theorem dX3_readSum_20 : decode cX3_readSum 20 = .ok (.if_icmp .eq 12, 3) := by decide +kernel
theorem dX3_readSum_23 : decode cX3_readSum 23 = .ok (.aload_n 0, 1) := by decide +kernel
theorem dX3_readSum_24 : decode cX3_readSum 24 = .ok (.getfield 50, 3) := by decide +kernel
theorem dX3_readSum_27 : decode cX3_readSum 27 = .ok (.bipush 45, 2) := by decide +kernel
theorem dX3_readSum_29 : decode cX3_readSum 29 = .ok (.if_icmp .ne 32, 3) := by decide +kernel
theorem dX3_readSum_32 : decode cX3_readSum 32 = .ok (.aload_n 0, 1) := by decide +kernel
theorem dX3_readSum_33 : decode cX3_readSum 33 = .ok (.getfield 50, 3) := by decide +kernel
theorem dX3_readSum_36 : decode cX3_readSum 36 = .ok (.istore_n 3, 1) := by decide +kernel
theorem dX3_readSum_37 : decode cX3_readSum 37 = .ok (.aload_n 0, 1) := by decide +kernel
theorem dX3_readSum_38 : decode cX3_readSum 38 = .ok (.invokevirtual 40, 3) := by decide +kernel
theorem dX3_readSum_41 : decode cX3_readSum 41 = .ok (.aload_n 0, 1) := by decide +kernel
theorem dX3_readSum_42 : decode cX3_readSum 42 = .ok (.iload_n 1, 1) := by decide +kernel
theorem dX3_readSum_43 : decode cX3_readSum 43 = .ok (.invokevirtual 75, 3) := by decide +kernel
theorem dX3_readSum_46 : decode cX3_readSum 46 = .ok (.aload_n 0, 1) := by decide +kernel
theorem dX3_readSum_47 : decode cX3_readSum 47 = .ok (.sipush 20000, 3) := by decide +kernel
theorem dX3_readSum_50 : decode cX3_readSum 50 = .ok (.iload_n 3, 1) := by decide +kernel
theorem dX3_readSum_51 : decode cX3_readSum 51 = .ok (.iadd, 1) := by decide +kernel
theorem dX3_readSum_52 : decode cX3_readSum 52 = .ok (.invokevirtual 62, 3) := by decide +kernel
theorem dX3_readSum_55 : decode cX3_readSum 55 = .ok (.iinc 2 1, 3) := by decide +kernel
theorem dX3_readSum_58 : decode cX3_readSum 58 = .ok (.goto (-51), 3) := by decide +kernel
theorem dX3_readSum_61 : decode cX3_readSum 61 = .ok (.return_, 1) := by decide +kernel
theorem dX3_readTerm_0 : decode cX3_readTerm 0 = .ok (.aload_n 0, 1) := by decide +kernel
theorem dX3_readTerm_1 : decode cX3_readTerm 1 = .ok (.iload_n 1, 1) := by decide +kernel
theorem dX3_readTerm_2 : decode cX3_readTerm 2 = .ok (.invokevirtual 78, 3) := by decide +kernel
theorem dX3_readTerm_5 : decode cX3_readTerm 5 = .ok (.iconst 0, 1) := by decide +kernel
theorem dX3_readTerm_6 : decode cX3_readTerm 6 = .ok (.istore_n 2, 1) := by decide +kernel
theorem dX3_readTerm_7 : decode cX3_readTerm 7 = .ok (.iload_n 2, 1) := by decide +kernel
theorem dX3_readTerm_8 : decode cX3_readTerm 8 = .ok (.sipush 160, 3) := by decide +kernel
theorem dX3_readTerm_11 : decode cX3_readTerm 11 = .ok (.if_icmp .ge 34, 3) := by decide +kernel
theorem dX3_readTerm_14 : decode cX3_readTerm 14 = .ok (.aload_n 0, 1) := by decide +kernel
theorem dX3_readTerm_15 : decode cX3_readTerm 15 = .ok (.getfield 50, 3) := by decide +kernel
theorem dX3_readTerm_18 : decode cX3_readTerm 18 = .ok (.bipush 42, 2) := by decide +kernel
theorem dX3_readTerm_20 : decode cX3_readTerm 20 = .ok (.if_icmp .ne 25, 3) := by decide +kernel
theorem dX3_readTerm_23 : decode cX3_readTerm 23 = .ok (.aload_n 0, 1) := by decide +kernel
theorem dX3_readTerm_24 : decode cX3_readTerm 24 = .ok (.invokevirtual 40, 3) := by decide +kernel
theorem dX3_readTerm_27 : decode cX3_readTerm 27 = .ok (.aload_n 0, 1) := by decide +kernel
theorem dX3_readTerm_28 : decode cX3_readTerm 28 = .ok (.iload_n 1, 1) := by decide +kernel
theorem dX3_readTerm_29 : decode cX3_readTerm 29 = .ok (.invokevirtual 78, 3) := by decide +kernel
theorem dX3_readTerm_32 : decode cX3_readTerm 32 = .ok (.aload_n 0, 1) := by decide +kernel
theorem dX3_readTerm_33 : decode cX3_readTerm 33 = .ok (.sipush 20042, 3) := by decide +kernel
theorem dX3_readTerm_36 : decode cX3_readTerm 36 = .ok (.invokevirtual 62, 3) := by decide +kernel
theorem dX3_readTerm_39 : decode cX3_readTerm 39 = .ok (.iinc 2 1, 3) := by decide +kernel
theorem dX3_readTerm_42 : decode cX3_readTerm 42 = .ok (.goto (-35), 3) := by decide +kernel
theorem dX3_readTerm_45 : decode cX3_readTerm 45 = .ok (.return_, 1) := by decide +kernel
theorem dX3_readOne_0 : decode cX3_readOne 0 = .ok (.aload_n 0, 1) := by decide +kernel
theorem dX3_readOne_1 : decode cX3_readOne 1 = .ok (.getfield 50, 3) := by decide +kernel
theorem dX3_readOne_4 : decode cX3_readOne 4 = .ok (.iconst 1, 1) := by decide +kernel
theorem dX3_readOne_5 : decode cX3_readOne 5 = .ok (.if_icmp .eq 11, 3) := by decide +kernel
theorem dX3_readOne_8 : decode cX3_readOne 8 = .ok (.aload_n 0, 1) := by decide +kernel
theorem dX3_readOne_9 : decode cX3_readOne 9 = .ok (.getfield 50, 3) := by decide +kernel
theorem dX3_readOne_12 : decode cX3_readOne 12 = .ok (.iconst 2, 1) := by decide +kernel
theorem dX3_readOne_13 : decode cX3_readOne 13 = .ok (.if_icmp .ne 37, 3) := by decide +kernel
theorem dX3_readOne_16 : decode cX3_readOne 16 = .ok (.aload_n 0, 1) := by decide +kernel
theorem dX3_readOne_17 : decode cX3_readOne 17 = .ok (.aload_n 0, 1) := by decide +kernel
theorem dX3_readOne_18 : decode cX3_readOne 18 = .ok (.getfield 50, 3) := by decide +kernel
theorem dX3_readOne_21 : decode cX3_readOne 21 = .ok (.iconst 2, 1) := by decide +kernel
theorem dX3_readOne_22 : decode cX3_readOne 22 = .ok (.if_icmp .ne 14, 3) := by decide +kernel
theorem dX3_readOne_25 : decode cX3_readOne 25 = .ok (.sipush 10000, 3) := by decide +kernel
theorem dX3_readOne_28 : decode cX3_readOne 28 = .ok (.aload_n 0, 1) := by decide +kernel
theorem dX3_readOne_29 : decode cX3_readOne 29 = .ok (.getfield 81, 3) := by decide +kernel
theorem dX3_readOne_32 : decode cX3_readOne 32 = .ok (.iadd, 1) := by decide +kernel
theorem dX3_readOne_33 : decode cX3_readOne 33 = .ok (.goto 7, 3) := by decide +kernel
theorem dX3_readOne_36 : decode cX3_readOne 36 = .ok (.aload_n 0, 1) := by decide +kernel
theorem dX3_readOne_37 : decode cX3_readOne 37 = .ok (.getfield 81, 3) := by decide +kernel
theorem dX3_readOne_40 : decode cX3_readOne 40 = .ok (.invokevirtual 62, 3) := by decide +kernel
theorem dX3_readOne_43 : decode cX3_readOne 43 = .ok (.aload_n 0, 1) := by decide +kernel
theorem dX3_readOne_44 : decode cX3_readOne 44 = .ok (.invokevirtual 40, 3) := by decide +kernel
theorem dX3_readOne_47 : decode cX3_readOne 47 = .ok (.goto 82, 3) := by decide +kernel
theorem dX3_readOne_50 : decode cX3_readOne 50 = .ok (.aload_n 0, 1) := by decide +kernel
theorem dX3_readOne_51 : decode cX3_readOne 51 = .ok (.getfield 50, 3) := by decide +kernel
theorem dX3_readOne_54 : decode cX3_readOne 54 = .ok (.bipush 45, 2) := by decide +kernel
theorem dX3_readOne_56 : decode cX3_readOne 56 = .ok (.if_icmp .ne 32, 3) := by decide +kernel
theorem dX3_readOne_59 : decode cX3_readOne 59 = .ok (.aload_n 0, 1) := by decide +kernel
theorem dX3_readOne_60 : decode cX3_readOne 60 = .ok (.iload_n 1, 1) := by decide +kernel
theorem dX3_readOne_61 : decode cX3_readOne 61 = .ok (.invokevirtual 68, 3) := by decide +kernel
theorem dX3_readOne_64 : decode cX3_readOne 64 = .ok (.ifCond .eq 65, 3) := by decide +kernel
theorem dX3_readOne_67 : decode cX3_readOne 67 = .ok (.aload_n 0, 1) := by decide +kernel
theorem dX3_readOne_68 : decode cX3_readOne 68 = .ok (.invokevirtual 40, 3) := by decide +kernel
theorem dX3_readOne_71 : decode cX3_readOne 71 = .ok (.aload_n 0, 1) := by decide +kernel
theorem dX3_readOne_72 : decode cX3_readOne 72 = .ok (.iload_n 1, 1) := by decide +kernel
theorem dX3_readOne_73 : decode cX3_readOne 73 = .ok (.iconst 1, 1) := by decide +kernel
theorem dX3_readOne_74 : decode cX3_readOne 74 = .ok (.iadd, 1) := by decide +kernel
theorem dX3_readOne_75 : decode cX3_readOne 75 = .ok (.invokevirtual 78, 3) := by decide +kernel
theorem dX3_readOne_78 : decode cX3_readOne 78 = .ok (.aload_n 0, 1) := by decide +kernel
theorem dX3_readOne_79 : decode cX3_readOne 79 = .ok (.sipush 20010, 3) := by decide +kernel
theorem dX3_readOne_82 : decode cX3_readOne 82 = .ok (.invokevirtual 62, 3) := by decide +kernel
theorem dX3_readOne_85 : decode cX3_readOne 85 = .ok (.goto 44, 3) := by decide +kernel
theorem dX3_readOne_88 : decode cX3_readOne 88 = .ok (.aload_n 0, 1) := by decide +kernel
theorem dX3_readOne_89 : decode cX3_readOne 89 = .ok (.getfield 50, 3) := by decide +kernel
theorem dX3_readOne_92 : decode cX3_readOne 92 = .ok (.bipush 40, 2) := by decide +kernel
theorem dX3_readOne_94 : decode cX3_readOne 94 = .ok (.if_icmp .ne 31, 3) := by decide +kernel
theorem dX3_readOne_97 : decode cX3_readOne 97 = .ok (.aload_n 0, 1) := by decide +kernel
theorem dX3_readOne_98 : decode cX3_readOne 98 = .ok (.iload_n 1, 1) := by decide +kernel
theorem dX3_readOne_99 : decode cX3_readOne 99 = .ok (.invokevirtual 68, 3) := by decide +kernel
theorem dX3_readOne_102 : decode cX3_readOne 102 = .ok (.ifCond .eq 27, 3) := by decide +kernel
theorem dX3_readOne_105 : decode cX3_readOne 105 = .ok (.aload_n 0, 1) := by decide +kernel
theorem dX3_readOne_106 : decode cX3_readOne 106 = .ok (.invokevirtual 40, 3) := by decide +kernel
theorem dX3_readOne_109 : decode cX3_readOne 109 = .ok (.aload_n 0, 1) := by decide +kernel
theorem dX3_readOne_110 : decode cX3_readOne 110 = .ok (.iload_n 1, 1) := by decide +kernel
theorem dX3_readOne_111 : decode cX3_readOne 111 = .ok (.iconst 1, 1) := by decide +kernel
theorem dX3_readOne_112 : decode cX3_readOne 112 = .ok (.iadd, 1) := by decide +kernel
theorem dX3_readOne_113 : decode cX3_readOne 113 = .ok (.invokevirtual 47, 3) := by decide +kernel
theorem dX3_readOne_116 : decode cX3_readOne 116 = .ok (.aload_n 0, 1) := by decide +kernel
theorem dX3_readOne_117 : decode cX3_readOne 117 = .ok (.bipush 41, 2) := by decide +kernel
theorem dX3_readOne_119 : decode cX3_readOne 119 = .ok (.invokevirtual 43, 3) := by decide +kernel
theorem dX3_readOne_122 : decode cX3_readOne 122 = .ok (.goto 7, 3) := by decide +kernel
theorem dX3_readOne_125 : decode cX3_readOne 125 = .ok (.aload_n 0, 1) := by decide +kernel
theorem dX3_readOne_126 : decode cX3_readOne 126 = .ok (.invokevirtual 53, 3) := by decide +kernel
theorem dX3_readOne_129 : decode cX3_readOne 129 = .ok (.return_, 1) := by decide +kernel
theorem dX3_mayOpen_0 : decode cX3_mayOpen 0 = .ok (.iload_n 1, 1) := by decide +kernel
theorem dX3_mayOpen_1 : decode cX3_mayOpen 1 = .ok (.iconst 5, 1) := by decide +kernel
theorem dX3_mayOpen_2 : decode cX3_mayOpen 2 = .ok (.if_icmp .lt 9, 3) := by decide +kernel
theorem dX3_mayOpen_5 : decode cX3_mayOpen 5 = .ok (.aload_n 0, 1) := by decide +kernel
theorem dX3_mayOpen_6 : decode cX3_mayOpen 6 = .ok (.invokevirtual 53, 3) := by decide +kernel
theorem dX3_mayOpen_9 : decode cX3_mayOpen 9 = .ok (.iconst 0, 1) := by decide +kernel
theorem dX3_mayOpen_10 : decode cX3_mayOpen 10 = .ok (.ireturn, 1) := by decide +kernel
theorem dX3_mayOpen_11 : decode cX3_mayOpen 11 = .ok (.iconst 1, 1) := by decide +kernel
theorem dX3_mayOpen_12 : decode cX3_mayOpen 12 = .ok (.ireturn, 1) := by decide +kernel
theorem dX3_addStep_0 : decode cX3_addStep 0 = .ok (.aload_n 0, 1) := by decide +kernel
theorem dX3_addStep_1 : decode cX3_addStep 1 = .ok (.getfield 31, 3) := by decide +kernel
theorem dX3_addStep_4 : decode cX3_addStep 4 = .ok (.sipush 160, 3) := by decide +kernel
theorem dX3_addStep_7 : decode cX3_addStep 7 = .ok (.if_icmp .ge 23, 3) := by decide +kernel
theorem dX3_addStep_10 : decode cX3_addStep 10 = .ok (.aload_n 0, 1) := by decide +kernel
theorem dX3_addStep_11 : decode cX3_addStep 11 = .ok (.getfield 9, 3) := by decide +kernel
theorem dX3_addStep_14 : decode cX3_addStep 14 = .ok (.aload_n 0, 1) := by decide +kernel
theorem dX3_addStep_15 : decode cX3_addStep 15 = .ok (.getfield 31, 3) := by decide +kernel
theorem dX3_addStep_18 : decode cX3_addStep 18 = .ok (.iload_n 1, 1) := by decide +kernel
theorem dX3_addStep_19 : decode cX3_addStep 19 = .ok (.iastore, 1) := by decide +kernel
theorem dX3_addStep_20 : decode cX3_addStep 20 = .ok (.aload_n 0, 1) := by decide +kernel
theorem dX3_addStep_21 : decode cX3_addStep 21 = .ok (.dup, 1) := by decide +kernel
theorem dX3_addStep_22 : decode cX3_addStep 22 = .ok (.getfield 31, 3) := by decide +kernel
theorem dX3_addStep_25 : decode cX3_addStep 25 = .ok (.iconst 1, 1) := by decide +kernel
theorem dX3_addStep_26 : decode cX3_addStep 26 = .ok (.iadd, 1) := by decide +kernel
theorem dX3_addStep_27 : decode cX3_addStep 27 = .ok (.putfield 31, 3) := by decide +kernel
theorem dX3_addStep_30 : decode cX3_addStep 30 = .ok (.return_, 1) := by decide +kernel
theorem dX3_next_0 : decode cX3_next 0 = .ok (.aload_n 0, 1) := by decide +kernel
theorem dX3_next_1 : decode cX3_next 1 = .ok (.getfield 37, 3) := by decide +kernel
theorem dX3_next_4 : decode cX3_next 4 = .ok (.ifCond .lt 4, 3) := by decide +kernel
theorem dX3_next_7 : decode cX3_next 7 = .ok (.return_, 1) := by decide +kernel
theorem dX3_next_8 : decode cX3_next 8 = .ok (.aload_n 0, 1) := by decide +kernel
theorem dX3_next_9 : decode cX3_next 9 = .ok (.getfield 34, 3) := by decide +kernel
theorem dX3_next_12 : decode cX3_next 12 = .ok (.aload_n 0, 1) := by decide +kernel
theorem dX3_next_13 : decode cX3_next 13 = .ok (.getfield 27, 3) := by decide +kernel
theorem dX3_next_16 : decode cX3_next 16 = .ok (.if_icmp .ge 44, 3) := by decide +kernel
theorem dX3_next_19 : decode cX3_next 19 = .ok (.aload_n 0, 1) := by decide +kernel
theorem dX3_next_20 : decode cX3_next 20 = .ok (.getfield 18, 3) := by decide +kernel
theorem dX3_next_23 : decode cX3_next 23 = .ok (.aload_n 0, 1) := by decide +kernel
theorem dX3_next_24 : decode cX3_next 24 = .ok (.getfield 34, 3) := by decide +kernel
theorem dX3_next_27 : decode cX3_next 27 = .ok (.iaload, 1) := by decide +kernel
theorem dX3_next_28 : decode cX3_next 28 = .ok (.bipush 32, 2) := by decide +kernel
theorem dX3_next_30 : decode cX3_next 30 = .ok (.if_icmp .eq 17, 3) := by decide +kernel
theorem dX3_next_33 : decode cX3_next 33 = .ok (.aload_n 0, 1) := by decide +kernel
theorem dX3_next_34 : decode cX3_next 34 = .ok (.getfield 18, 3) := by decide +kernel
theorem dX3_next_37 : decode cX3_next 37 = .ok (.aload_n 0, 1) := by decide +kernel
theorem dX3_next_38 : decode cX3_next 38 = .ok (.getfield 34, 3) := by decide +kernel
theorem dX3_next_41 : decode cX3_next 41 = .ok (.iaload, 1) := by decide +kernel
theorem dX3_next_42 : decode cX3_next 42 = .ok (.bipush 10, 2) := by decide +kernel
theorem dX3_next_44 : decode cX3_next 44 = .ok (.if_icmp .ne 16, 3) := by decide +kernel
theorem dX3_next_47 : decode cX3_next 47 = .ok (.aload_n 0, 1) := by decide +kernel
theorem dX3_next_48 : decode cX3_next 48 = .ok (.dup, 1) := by decide +kernel
theorem dX3_next_49 : decode cX3_next 49 = .ok (.getfield 34, 3) := by decide +kernel
theorem dX3_next_52 : decode cX3_next 52 = .ok (.iconst 1, 1) := by decide +kernel
theorem dX3_next_53 : decode cX3_next 53 = .ok (.iadd, 1) := by decide +kernel
theorem dX3_next_54 : decode cX3_next 54 = .ok (.putfield 34, 3) := by decide +kernel
theorem dX3_next_57 : decode cX3_next 57 = .ok (.goto (-49), 3) := by decide +kernel
theorem dX3_next_60 : decode cX3_next 60 = .ok (.aload_n 0, 1) := by decide +kernel
theorem dX3_next_61 : decode cX3_next 61 = .ok (.aload_n 0, 1) := by decide +kernel
theorem dX3_next_62 : decode cX3_next 62 = .ok (.getfield 34, 3) := by decide +kernel
theorem dX3_next_65 : decode cX3_next 65 = .ok (.putfield 56, 3) := by decide +kernel
theorem dX3_next_68 : decode cX3_next 68 = .ok (.aload_n 0, 1) := by decide +kernel
theorem dX3_next_69 : decode cX3_next 69 = .ok (.getfield 34, 3) := by decide +kernel
theorem dX3_next_72 : decode cX3_next 72 = .ok (.aload_n 0, 1) := by decide +kernel
theorem dX3_next_73 : decode cX3_next 73 = .ok (.getfield 27, 3) := by decide +kernel
theorem dX3_next_76 : decode cX3_next 76 = .ok (.if_icmp .lt 11, 3) := by decide +kernel
theorem dX3_next_79 : decode cX3_next 79 = .ok (.aload_n 0, 1) := by decide +kernel
theorem dX3_next_80 : decode cX3_next 80 = .ok (.iconst 0, 1) := by decide +kernel
theorem dX3_next_81 : decode cX3_next 81 = .ok (.putfield 50, 3) := by decide +kernel
theorem dX3_next_84 : decode cX3_next 84 = .ok (.goto 92, 3) := by decide +kernel
theorem dX3_next_87 : decode cX3_next 87 = .ok (.aload_n 0, 1) := by decide +kernel
theorem dX3_next_88 : decode cX3_next 88 = .ok (.getfield 18, 3) := by decide +kernel
theorem dX3_next_91 : decode cX3_next 91 = .ok (.aload_n 0, 1) := by decide +kernel
theorem dX3_next_92 : decode cX3_next 92 = .ok (.getfield 34, 3) := by decide +kernel
theorem dX3_next_95 : decode cX3_next 95 = .ok (.iaload, 1) := by decide +kernel
theorem dX3_next_96 : decode cX3_next 96 = .ok (.invokestatic 84, 3) := by decide +kernel
theorem dX3_next_99 : decode cX3_next 99 = .ok (.ifCond .eq 10, 3) := by decide +kernel
theorem dX3_next_102 : decode cX3_next 102 = .ok (.aload_n 0, 1) := by decide +kernel
theorem dX3_next_103 : decode cX3_next 103 = .ok (.invokevirtual 87, 3) := by decide +kernel
theorem dX3_next_106 : decode cX3_next 106 = .ok (.goto 70, 3) := by decide +kernel
theorem dX3_next_109 : decode cX3_next 109 = .ok (.aload_n 0, 1) := by decide +kernel
theorem dX3_next_110 : decode cX3_next 110 = .ok (.getfield 18, 3) := by decide +kernel
theorem dX3_next_113 : decode cX3_next 113 = .ok (.aload_n 0, 1) := by decide +kernel
theorem dX3_next_114 : decode cX3_next 114 = .ok (.getfield 34, 3) := by decide +kernel
theorem dX3_next_117 : decode cX3_next 117 = .ok (.iaload, 1) := by decide +kernel
theorem dX3_next_118 : decode cX3_next 118 = .ok (.invokestatic 90, 3) := by decide +kernel
theorem dX3_next_121 : decode cX3_next 121 = .ok (.ifCond .eq 10, 3) := by decide +kernel
theorem dX3_next_124 : decode cX3_next 124 = .ok (.aload_n 0, 1) := by decide +kernel
theorem dX3_next_125 : decode cX3_next 125 = .ok (.invokevirtual 93, 3) := by decide +kernel
theorem dX3_next_128 : decode cX3_next 128 = .ok (.goto 48, 3) := by decide +kernel
theorem dX3_next_131 : decode cX3_next 131 = .ok (.aload_n 0, 1) := by decide +kernel
theorem dX3_next_132 : decode cX3_next 132 = .ok (.getfield 18, 3) := by decide +kernel
theorem dX3_next_135 : decode cX3_next 135 = .ok (.aload_n 0, 1) := by decide +kernel
theorem dX3_next_136 : decode cX3_next 136 = .ok (.getfield 34, 3) := by decide +kernel
theorem dX3_next_139 : decode cX3_next 139 = .ok (.iaload, 1) := by decide +kernel
theorem dX3_next_140 : decode cX3_next 140 = .ok (.invokestatic 96, 3) := by decide +kernel
theorem dX3_next_143 : decode cX3_next 143 = .ok (.ifCond .eq 29, 3) := by decide +kernel
theorem dX3_next_146 : decode cX3_next 146 = .ok (.aload_n 0, 1) := by decide +kernel
theorem dX3_next_147 : decode cX3_next 147 = .ok (.aload_n 0, 1) := by decide +kernel
theorem dX3_next_148 : decode cX3_next 148 = .ok (.getfield 18, 3) := by decide +kernel
theorem dX3_next_151 : decode cX3_next 151 = .ok (.aload_n 0, 1) := by decide +kernel
theorem dX3_next_152 : decode cX3_next 152 = .ok (.getfield 34, 3) := by decide +kernel
theorem dX3_next_155 : decode cX3_next 155 = .ok (.iaload, 1) := by decide +kernel
theorem dX3_next_156 : decode cX3_next 156 = .ok (.putfield 50, 3) := by decide +kernel
theorem dX3_next_159 : decode cX3_next 159 = .ok (.aload_n 0, 1) := by decide +kernel
theorem dX3_next_160 : decode cX3_next 160 = .ok (.dup, 1) := by decide +kernel
theorem dX3_next_161 : decode cX3_next 161 = .ok (.getfield 34, 3) := by decide +kernel
theorem dX3_next_164 : decode cX3_next 164 = .ok (.iconst 1, 1) := by decide +kernel
theorem dX3_next_165 : decode cX3_next 165 = .ok (.iadd, 1) := by decide +kernel
theorem dX3_next_166 : decode cX3_next 166 = .ok (.putfield 34, 3) := by decide +kernel
theorem dX3_next_169 : decode cX3_next 169 = .ok (.goto 7, 3) := by decide +kernel
theorem dX3_next_172 : decode cX3_next 172 = .ok (.aload_n 0, 1) := by decide +kernel
theorem dX3_next_173 : decode cX3_next 173 = .ok (.invokevirtual 53, 3) := by decide +kernel
theorem dX3_next_176 : decode cX3_next 176 = .ok (.return_, 1) := by decide +kernel
theorem dX3_readWord_0 : decode cX3_readWord 0 = .ok (.aload_n 0, 1) := by decide +kernel
theorem dX3_readWord_1 : decode cX3_readWord 1 = .ok (.getfield 34, 3) := by decide +kernel
theorem dX3_readWord_4 : decode cX3_readWord 4 = .ok (.aload_n 0, 1) := by decide +kernel
theorem dX3_readWord_5 : decode cX3_readWord 5 = .ok (.getfield 27, 3) := by decide +kernel
theorem dX3_readWord_8 : decode cX3_readWord 8 = .ok (.if_icmp .ge 31, 3) := by decide +kernel
theorem dX3_readWord_11 : decode cX3_readWord 11 = .ok (.aload_n 0, 1) := by decide +kernel
theorem dX3_readWord_12 : decode cX3_readWord 12 = .ok (.getfield 18, 3) := by decide +kernel
theorem dX3_readWord_15 : decode cX3_readWord 15 = .ok (.aload_n 0, 1) := by decide +kernel
theorem dX3_readWord_16 : decode cX3_readWord 16 = .ok (.getfield 34, 3) := by decide +kernel
theorem dX3_readWord_19 : decode cX3_readWord 19 = .ok (.iaload, 1) := by decide +kernel
theorem dX3_readWord_20 : decode cX3_readWord 20 = .ok (.invokestatic 84, 3) := by decide +kernel
theorem dX3_readWord_23 : decode cX3_readWord 23 = .ok (.ifCond .eq 16, 3) := by decide +kernel
theorem dX3_readWord_26 : decode cX3_readWord 26 = .ok (.aload_n 0, 1) := by decide +kernel
theorem dX3_readWord_27 : decode cX3_readWord 27 = .ok (.dup, 1) := by decide +kernel
theorem dX3_readWord_28 : decode cX3_readWord 28 = .ok (.getfield 34, 3) := by decide +kernel
theorem dX3_readWord_31 : decode cX3_readWord 31 = .ok (.iconst 1, 1) := by decide +kernel
theorem dX3_readWord_32 : decode cX3_readWord 32 = .ok (.iadd, 1) := by decide +kernel
theorem dX3_readWord_33 : decode cX3_readWord 33 = .ok (.putfield 34, 3) := by decide +kernel
theorem dX3_readWord_36 : decode cX3_readWord 36 = .ok (.goto (-36), 3) := by decide +kernel
theorem dX3_readWord_39 : decode cX3_readWord 39 = .ok (.iconst 0, 1) := by decide +kernel
theorem dX3_readWord_40 : decode cX3_readWord 40 = .ok (.istore_n 1, 1) := by decide +kernel
theorem dX3_readWord_41 : decode cX3_readWord 41 = .ok (.iload_n 1, 1) := by decide +kernel
theorem dX3_readWord_42 : decode cX3_readWord 42 = .ok (.bipush 12, 2) := by decide +kernel
theorem dX3_readWord_44 : decode cX3_readWord 44 = .ok (.if_icmp .ge 46, 3) := by decide +kernel
theorem dX3_readWord_47 : decode cX3_readWord 47 = .ok (.aload_n 0, 1) := by decide +kernel
theorem dX3_readWord_48 : decode cX3_readWord 48 = .ok (.iload_n 1, 1) := by decide +kernel
theorem dX3_readWord_49 : decode cX3_readWord 49 = .ok (.invokestatic 99, 3) := by decide +kernel
theorem dX3_readWord_52 : decode cX3_readWord 52 = .ok (.invokevirtual 103, 3) := by decide +kernel
theorem dX3_readWord_55 : decode cX3_readWord 55 = .ok (.ifCond .eq 29, 3) := by decide +kernel
theorem dX3_readWord_58 : decode cX3_readWord 58 = .ok (.aload_n 0, 1) := by decide +kernel
theorem dX3_readWord_59 : decode cX3_readWord 59 = .ok (.iload_n 1, 1) := by decide +kernel
theorem dX3_readWord_60 : decode cX3_readWord 60 = .ok (.bipush 6, 2) := by decide +kernel
theorem dX3_readWord_62 : decode cX3_readWord 62 = .ok (.if_icmp .ge 7, 3) := by decide +kernel
theorem dX3_readWord_65 : decode cX3_readWord 65 = .ok (.iconst 2, 1) := by decide +kernel
theorem dX3_readWord_66 : decode cX3_readWord 66 = .ok (.goto 9, 3) := by decide +kernel
theorem dX3_readWord_69 : decode cX3_readWord 69 = .ok (.iconst 4, 1) := by decide +kernel
theorem dX3_readWord_70 : decode cX3_readWord 70 = .ok (.iload_n 1, 1) := by decide +kernel
theorem dX3_readWord_71 : decode cX3_readWord 71 = .ok (.iadd, 1) := by decide +kernel
theorem dX3_readWord_72 : decode cX3_readWord 72 = .ok (.bipush 6, 2) := by decide +kernel
theorem dX3_readWord_74 : decode cX3_readWord 74 = .ok (.isub, 1) := by decide +kernel
theorem dX3_readWord_75 : decode cX3_readWord 75 = .ok (.putfield 50, 3) := by decide +kernel
theorem dX3_readWord_78 : decode cX3_readWord 78 = .ok (.aload_n 0, 1) := by decide +kernel
theorem dX3_readWord_79 : decode cX3_readWord 79 = .ok (.iload_n 1, 1) := by decide +kernel
theorem dX3_readWord_80 : decode cX3_readWord 80 = .ok (.putfield 81, 3) := by decide +kernel
theorem dX3_readWord_83 : decode cX3_readWord 83 = .ok (.return_, 1) := by decide +kernel
theorem dX3_readWord_84 : decode cX3_readWord 84 = .ok (.iinc 1 1, 3) := by decide +kernel
theorem dX3_readWord_87 : decode cX3_readWord 87 = .ok (.goto (-46), 3) := by decide +kernel
theorem dX3_readWord_90 : decode cX3_readWord 90 = .ok (.aload_n 0, 1) := by decide +kernel
theorem dX3_readWord_91 : decode cX3_readWord 91 = .ok (.invokevirtual 53, 3) := by decide +kernel
theorem dX3_readWord_94 : decode cX3_readWord 94 = .ok (.return_, 1) := by decide +kernel
theorem dX3_readNumber_0 : decode cX3_readNumber 0 = .ok (.aload_n 0, 1) := by decide +kernel
theorem dX3_readNumber_1 : decode cX3_readNumber 1 = .ok (.iconst 1, 1) := by decide +kernel
theorem dX3_readNumber_2 : decode cX3_readNumber 2 = .ok (.putfield 50, 3) := by decide +kernel
theorem dX3_readNumber_5 : decode cX3_readNumber 5 = .ok (.aload_n 0, 1) := by decide +kernel
theorem dX3_readNumber_6 : decode cX3_readNumber 6 = .ok (.iconst 0, 1) := by decide +kernel
theorem dX3_readNumber_7 : decode cX3_readNumber 7 = .ok (.putfield 81, 3) := by decide +kernel
theorem dX3_readNumber_10 : decode cX3_readNumber 10 = .ok (.aload_n 0, 1) := by decide +kernel
theorem dX3_readNumber_11 : decode cX3_readNumber 11 = .ok (.getfield 34, 3) := by decide +kernel
theorem dX3_readNumber_14 : decode cX3_readNumber 14 = .ok (.aload_n 0, 1) := by decide +kernel
theorem dX3_readNumber_15 : decode cX3_readNumber 15 = .ok (.getfield 27, 3) := by decide +kernel
theorem dX3_readNumber_18 : decode cX3_readNumber 18 = .ok (.if_icmp .ge 55, 3) := by decide +kernel
theorem dX3_readNumber_21 : decode cX3_readNumber 21 = .ok (.aload_n 0, 1) := by decide +kernel
theorem dX3_readNumber_22 : decode cX3_readNumber 22 = .ok (.getfield 18, 3) := by decide +kernel
theorem dX3_readNumber_25 : decode cX3_readNumber 25 = .ok (.aload_n 0, 1) := by decide +kernel
theorem dX3_readNumber_26 : decode cX3_readNumber 26 = .ok (.getfield 34, 3) := by decide +kernel
theorem dX3_readNumber_29 : decode cX3_readNumber 29 = .ok (.iaload, 1) := by decide +kernel
theorem dX3_readNumber_30 : decode cX3_readNumber 30 = .ok (.invokestatic 90, 3) := by decide +kernel
theorem dX3_readNumber_33 : decode cX3_readNumber 33 = .ok (.ifCond .eq 40, 3) := by decide +kernel
theorem dX3_readNumber_36 : decode cX3_readNumber 36 = .ok (.aload_n 0, 1) := by decide +kernel
theorem dX3_readNumber_37 : decode cX3_readNumber 37 = .ok (.aload_n 0, 1) := by decide +kernel
theorem dX3_readNumber_38 : decode cX3_readNumber 38 = .ok (.getfield 81, 3) := by decide +kernel
theorem dX3_readNumber_41 : decode cX3_readNumber 41 = .ok (.bipush 10, 2) := by decide +kernel
theorem dX3_readNumber_43 : decode cX3_readNumber 43 = .ok (.imul, 1) := by decide +kernel
theorem dX3_readNumber_44 : decode cX3_readNumber 44 = .ok (.aload_n 0, 1) := by decide +kernel
theorem dX3_readNumber_45 : decode cX3_readNumber 45 = .ok (.getfield 18, 3) := by decide +kernel
theorem dX3_readNumber_48 : decode cX3_readNumber 48 = .ok (.aload_n 0, 1) := by decide +kernel
theorem dX3_readNumber_49 : decode cX3_readNumber 49 = .ok (.getfield 34, 3) := by decide +kernel
theorem dX3_readNumber_52 : decode cX3_readNumber 52 = .ok (.iaload, 1) := by decide +kernel
theorem dX3_readNumber_53 : decode cX3_readNumber 53 = .ok (.iadd, 1) := by decide +kernel
theorem dX3_readNumber_54 : decode cX3_readNumber 54 = .ok (.bipush 48, 2) := by decide +kernel
theorem dX3_readNumber_56 : decode cX3_readNumber 56 = .ok (.isub, 1) := by decide +kernel
theorem dX3_readNumber_57 : decode cX3_readNumber 57 = .ok (.putfield 81, 3) := by decide +kernel
theorem dX3_readNumber_60 : decode cX3_readNumber 60 = .ok (.aload_n 0, 1) := by decide +kernel
theorem dX3_readNumber_61 : decode cX3_readNumber 61 = .ok (.dup, 1) := by decide +kernel
theorem dX3_readNumber_62 : decode cX3_readNumber 62 = .ok (.getfield 34, 3) := by decide +kernel
theorem dX3_readNumber_65 : decode cX3_readNumber 65 = .ok (.iconst 1, 1) := by decide +kernel
theorem dX3_readNumber_66 : decode cX3_readNumber 66 = .ok (.iadd, 1) := by decide +kernel
theorem dX3_readNumber_67 : decode cX3_readNumber 67 = .ok (.putfield 34, 3) := by decide +kernel
theorem dX3_readNumber_70 : decode cX3_readNumber 70 = .ok (.goto (-60), 3) := by decide +kernel
theorem dX3_readNumber_73 : decode cX3_readNumber 73 = .ok (.aload_n 0, 1) := by decide +kernel
theorem dX3_readNumber_74 : decode cX3_readNumber 74 = .ok (.getfield 34, 3) := by decide +kernel
theorem dX3_readNumber_77 : decode cX3_readNumber 77 = .ok (.aload_n 0, 1) := by decide +kernel
theorem dX3_readNumber_78 : decode cX3_readNumber 78 = .ok (.getfield 56, 3) := by decide +kernel
theorem dX3_readNumber_81 : decode cX3_readNumber 81 = .ok (.isub, 1) := by decide +kernel
theorem dX3_readNumber_82 : decode cX3_readNumber 82 = .ok (.iconst 4, 1) := by decide +kernel
theorem dX3_readNumber_83 : decode cX3_readNumber 83 = .ok (.if_icmp .le 7, 3) := by decide +kernel
theorem dX3_readNumber_86 : decode cX3_readNumber 86 = .ok (.aload_n 0, 1) := by decide +kernel
theorem dX3_readNumber_87 : decode cX3_readNumber 87 = .ok (.invokevirtual 53, 3) := by decide +kernel
theorem dX3_readNumber_90 : decode cX3_readNumber 90 = .ok (.return_, 1) := by decide +kernel
theorem dX3_standsAtPlace_0 : decode cX3_standsAtPlace 0 = .ok (.aload_n 1, 1) := by decide +kernel
theorem dX3_standsAtPlace_1 : decode cX3_standsAtPlace 1 = .ok (.invokevirtual 107, 3) := by decide +kernel
theorem dX3_standsAtPlace_4 : decode cX3_standsAtPlace 4 = .ok (.aload_n 0, 1) := by decide +kernel
theorem dX3_standsAtPlace_5 : decode cX3_standsAtPlace 5 = .ok (.getfield 34, 3) := by decide +kernel
theorem dX3_standsAtPlace_8 : decode cX3_standsAtPlace 8 = .ok (.aload_n 0, 1) := by decide +kernel
theorem dX3_standsAtPlace_9 : decode cX3_standsAtPlace 9 = .ok (.getfield 56, 3) := by decide +kernel
theorem dX3_standsAtPlace_12 : decode cX3_standsAtPlace 12 = .ok (.isub, 1) := by decide +kernel
theorem dX3_standsAtPlace_13 : decode cX3_standsAtPlace 13 = .ok (.if_icmp .eq 5, 3) := by decide +kernel
theorem dX3_standsAtPlace_16 : decode cX3_standsAtPlace 16 = .ok (.iconst 0, 1) := by decide +kernel
theorem dX3_standsAtPlace_17 : decode cX3_standsAtPlace 17 = .ok (.ireturn, 1) := by decide +kernel
theorem dX3_standsAtPlace_18 : decode cX3_standsAtPlace 18 = .ok (.iconst 0, 1) := by decide +kernel
theorem dX3_standsAtPlace_19 : decode cX3_standsAtPlace 19 = .ok (.istore_n 2, 1) := by decide +kernel
theorem dX3_standsAtPlace_20 : decode cX3_standsAtPlace 20 = .ok (.iload_n 2, 1) := by decide +kernel
theorem dX3_standsAtPlace_21 : decode cX3_standsAtPlace 21 = .ok (.aload_n 1, 1) := by decide +kernel
theorem dX3_standsAtPlace_22 : decode cX3_standsAtPlace 22 = .ok (.invokevirtual 107, 3) := by decide +kernel
theorem dX3_standsAtPlace_25 : decode cX3_standsAtPlace 25 = .ok (.if_icmp .ge 30, 3) := by decide +kernel
theorem dX3_standsAtPlace_28 : decode cX3_standsAtPlace 28 = .ok (.aload_n 1, 1) := by decide +kernel
theorem dX3_standsAtPlace_29 : decode cX3_standsAtPlace 29 = .ok (.iload_n 2, 1) := by decide +kernel
theorem dX3_standsAtPlace_30 : decode cX3_standsAtPlace 30 = .ok (.invokevirtual 113, 3) := by decide +kernel
theorem dX3_standsAtPlace_33 : decode cX3_standsAtPlace 33 = .ok (.aload_n 0, 1) := by decide +kernel
theorem dX3_standsAtPlace_34 : decode cX3_standsAtPlace 34 = .ok (.getfield 18, 3) := by decide +kernel
theorem dX3_standsAtPlace_37 : decode cX3_standsAtPlace 37 = .ok (.aload_n 0, 1) := by decide +kernel
theorem dX3_standsAtPlace_38 : decode cX3_standsAtPlace 38 = .ok (.getfield 56, 3) := by decide +kernel
theorem dX3_standsAtPlace_41 : decode cX3_standsAtPlace 41 = .ok (.iload_n 2, 1) := by decide +kernel
theorem dX3_standsAtPlace_42 : decode cX3_standsAtPlace 42 = .ok (.iadd, 1) := by decide +kernel
theorem dX3_standsAtPlace_43 : decode cX3_standsAtPlace 43 = .ok (.iaload, 1) := by decide +kernel
theorem dX3_standsAtPlace_44 : decode cX3_standsAtPlace 44 = .ok (.if_icmp .eq 5, 3) := by decide +kernel
theorem dX3_standsAtPlace_47 : decode cX3_standsAtPlace 47 = .ok (.iconst 0, 1) := by decide +kernel
theorem dX3_standsAtPlace_48 : decode cX3_standsAtPlace 48 = .ok (.ireturn, 1) := by decide +kernel
theorem dX3_standsAtPlace_49 : decode cX3_standsAtPlace 49 = .ok (.iinc 2 1, 3) := by decide +kernel
theorem dX3_standsAtPlace_52 : decode cX3_standsAtPlace 52 = .ok (.goto (-32), 3) := by decide +kernel
theorem dX3_standsAtPlace_55 : decode cX3_standsAtPlace 55 = .ok (.iconst 1, 1) := by decide +kernel
theorem dX3_standsAtPlace_56 : decode cX3_standsAtPlace 56 = .ok (.ireturn, 1) := by decide +kernel
theorem dX3_word_0 : decode cX3_word 0 = .ok (.iload_n 0, 1) := by decide +kernel
theorem dX3_word_1 : decode cX3_word 1 = .ok (.tableswitch 92 0 10 #[59, 62, 65, 68, 71, 74, 77, 80, 83, 86, 89], 59) := by decide +kernel
theorem dX3_word_60 : decode cX3_word 60 = .ok (.ldc 117, 2) := by decide +kernel
theorem dX3_word_62 : decode cX3_word 62 = .ok (.areturn, 1) := by decide +kernel
theorem dX3_word_63 : decode cX3_word 63 = .ok (.ldc 119, 2) := by decide +kernel
theorem dX3_word_65 : decode cX3_word 65 = .ok (.areturn, 1) := by decide +kernel
theorem dX3_word_66 : decode cX3_word 66 = .ok (.ldc 121, 2) := by decide +kernel
theorem dX3_word_68 : decode cX3_word 68 = .ok (.areturn, 1) := by decide +kernel
theorem dX3_word_69 : decode cX3_word 69 = .ok (.ldc 123, 2) := by decide +kernel
theorem dX3_word_71 : decode cX3_word 71 = .ok (.areturn, 1) := by decide +kernel
theorem dX3_word_72 : decode cX3_word 72 = .ok (.ldc 125, 2) := by decide +kernel
theorem dX3_word_74 : decode cX3_word 74 = .ok (.areturn, 1) := by decide +kernel
theorem dX3_word_75 : decode cX3_word 75 = .ok (.ldc 127, 2) := by decide +kernel
theorem dX3_word_77 : decode cX3_word 77 = .ok (.areturn, 1) := by decide +kernel
theorem dX3_word_78 : decode cX3_word 78 = .ok (.ldc 129, 2) := by decide +kernel
theorem dX3_word_80 : decode cX3_word 80 = .ok (.areturn, 1) := by decide +kernel
theorem dX3_word_81 : decode cX3_word 81 = .ok (.ldc 131, 2) := by decide +kernel
theorem dX3_word_83 : decode cX3_word 83 = .ok (.areturn, 1) := by decide +kernel
theorem dX3_word_84 : decode cX3_word 84 = .ok (.ldc 133, 2) := by decide +kernel
theorem dX3_word_86 : decode cX3_word 86 = .ok (.areturn, 1) := by decide +kernel
theorem dX3_word_87 : decode cX3_word 87 = .ok (.ldc 135, 2) := by decide +kernel
theorem dX3_word_89 : decode cX3_word 89 = .ok (.areturn, 1) := by decide +kernel
theorem dX3_word_90 : decode cX3_word 90 = .ok (.ldc 137, 2) := by decide +kernel
theorem dX3_word_92 : decode cX3_word 92 = .ok (.areturn, 1) := by decide +kernel
theorem dX3_word_93 : decode cX3_word 93 = .ok (.ldc 139, 2) := by decide +kernel
theorem dX3_word_95 : decode cX3_word 95 = .ok (.areturn, 1) := by decide +kernel
theorem dX3_isLetter_0 : decode cX3_isLetter 0 = .ok (.iload_n 0, 1) := by decide +kernel
theorem dX3_isLetter_1 : decode cX3_isLetter 1 = .ok (.bipush 97, 2) := by decide +kernel
theorem dX3_isLetter_3 : decode cX3_isLetter 3 = .ok (.if_icmp .lt 13, 3) := by decide +kernel
theorem dX3_isLetter_6 : decode cX3_isLetter 6 = .ok (.iload_n 0, 1) := by decide +kernel
theorem dX3_isLetter_7 : decode cX3_isLetter 7 = .ok (.bipush 122, 2) := by decide +kernel
theorem dX3_isLetter_9 : decode cX3_isLetter 9 = .ok (.if_icmp .gt 7, 3) := by decide +kernel
theorem dX3_isLetter_12 : decode cX3_isLetter 12 = .ok (.iconst 1, 1) := by decide +kernel
theorem dX3_isLetter_13 : decode cX3_isLetter 13 = .ok (.goto 4, 3) := by decide +kernel
theorem dX3_isLetter_16 : decode cX3_isLetter 16 = .ok (.iconst 0, 1) := by decide +kernel
theorem dX3_isLetter_17 : decode cX3_isLetter 17 = .ok (.ireturn, 1) := by decide +kernel
theorem dX3_isDigit_0 : decode cX3_isDigit 0 = .ok (.iload_n 0, 1) := by decide +kernel
theorem dX3_isDigit_1 : decode cX3_isDigit 1 = .ok (.bipush 48, 2) := by decide +kernel
theorem dX3_isDigit_3 : decode cX3_isDigit 3 = .ok (.if_icmp .lt 13, 3) := by decide +kernel
theorem dX3_isDigit_6 : decode cX3_isDigit 6 = .ok (.iload_n 0, 1) := by decide +kernel
theorem dX3_isDigit_7 : decode cX3_isDigit 7 = .ok (.bipush 57, 2) := by decide +kernel
theorem dX3_isDigit_9 : decode cX3_isDigit 9 = .ok (.if_icmp .gt 7, 3) := by decide +kernel
theorem dX3_isDigit_12 : decode cX3_isDigit 12 = .ok (.iconst 1, 1) := by decide +kernel
theorem dX3_isDigit_13 : decode cX3_isDigit 13 = .ok (.goto 4, 3) := by decide +kernel
theorem dX3_isDigit_16 : decode cX3_isDigit 16 = .ok (.iconst 0, 1) := by decide +kernel
theorem dX3_isDigit_17 : decode cX3_isDigit 17 = .ok (.ireturn, 1) := by decide +kernel
theorem dX3_isSign_0 : decode cX3_isSign 0 = .ok (.iload_n 0, 1) := by decide +kernel
theorem dX3_isSign_1 : decode cX3_isSign 1 = .ok (.bipush 40, 2) := by decide +kernel
theorem dX3_isSign_3 : decode cX3_isSign 3 = .ok (.if_icmp .eq 45, 3) := by decide +kernel
theorem dX3_isSign_6 : decode cX3_isSign 6 = .ok (.iload_n 0, 1) := by decide +kernel
theorem dX3_isSign_7 : decode cX3_isSign 7 = .ok (.bipush 41, 2) := by decide +kernel
theorem dX3_isSign_9 : decode cX3_isSign 9 = .ok (.if_icmp .eq 39, 3) := by decide +kernel
theorem dX3_isSign_12 : decode cX3_isSign 12 = .ok (.iload_n 0, 1) := by decide +kernel
theorem dX3_isSign_13 : decode cX3_isSign 13 = .ok (.bipush 59, 2) := by decide +kernel
theorem dX3_isSign_15 : decode cX3_isSign 15 = .ok (.if_icmp .eq 33, 3) := by decide +kernel
theorem dX3_isSign_18 : decode cX3_isSign 18 = .ok (.iload_n 0, 1) := by decide +kernel
theorem dX3_isSign_19 : decode cX3_isSign 19 = .ok (.bipush 43, 2) := by decide +kernel
theorem dX3_isSign_21 : decode cX3_isSign 21 = .ok (.if_icmp .eq 27, 3) := by decide +kernel
theorem dX3_isSign_24 : decode cX3_isSign 24 = .ok (.iload_n 0, 1) := by decide +kernel
theorem dX3_isSign_25 : decode cX3_isSign 25 = .ok (.bipush 45, 2) := by decide +kernel
theorem dX3_isSign_27 : decode cX3_isSign 27 = .ok (.if_icmp .eq 21, 3) := by decide +kernel
theorem dX3_isSign_30 : decode cX3_isSign 30 = .ok (.iload_n 0, 1) := by decide +kernel
theorem dX3_isSign_31 : decode cX3_isSign 31 = .ok (.bipush 42, 2) := by decide +kernel
theorem dX3_isSign_33 : decode cX3_isSign 33 = .ok (.if_icmp .eq 15, 3) := by decide +kernel
theorem dX3_isSign_36 : decode cX3_isSign 36 = .ok (.iload_n 0, 1) := by decide +kernel
theorem dX3_isSign_37 : decode cX3_isSign 37 = .ok (.bipush 60, 2) := by decide +kernel
theorem dX3_isSign_39 : decode cX3_isSign 39 = .ok (.if_icmp .eq 9, 3) := by decide +kernel
theorem dX3_isSign_42 : decode cX3_isSign 42 = .ok (.iload_n 0, 1) := by decide +kernel
theorem dX3_isSign_43 : decode cX3_isSign 43 = .ok (.bipush 61, 2) := by decide +kernel
theorem dX3_isSign_45 : decode cX3_isSign 45 = .ok (.if_icmp .ne 7, 3) := by decide +kernel
theorem dX3_isSign_48 : decode cX3_isSign 48 = .ok (.iconst 1, 1) := by decide +kernel
theorem dX3_isSign_49 : decode cX3_isSign 49 = .ok (.goto 4, 3) := by decide +kernel
theorem dX3_isSign_52 : decode cX3_isSign 52 = .ok (.iconst 0, 1) := by decide +kernel
theorem dX3_isSign_53 : decode cX3_isSign 53 = .ok (.ireturn, 1) := by decide +kernel
theorem dX3_isUnary_0 : decode cX3_isUnary 0 = .ok (.iload_n 0, 1) := by decide +kernel
theorem dX3_isUnary_1 : decode cX3_isUnary 1 = .ok (.sipush 20009, 3) := by decide +kernel
theorem dX3_isUnary_4 : decode cX3_isUnary 4 = .ok (.if_icmp .eq 10, 3) := by decide +kernel
theorem dX3_isUnary_7 : decode cX3_isUnary 7 = .ok (.iload_n 0, 1) := by decide +kernel
theorem dX3_isUnary_8 : decode cX3_isUnary 8 = .ok (.sipush 20010, 3) := by decide +kernel
theorem dX3_isUnary_11 : decode cX3_isUnary 11 = .ok (.if_icmp .ne 7, 3) := by decide +kernel
theorem dX3_isUnary_14 : decode cX3_isUnary 14 = .ok (.iconst 1, 1) := by decide +kernel
