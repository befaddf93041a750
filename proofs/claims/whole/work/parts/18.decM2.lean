theorem dX9_laysBack_36 : decode cX9_laysBack 36 = .ok (.getfield 16, 3) := by decide +kernel
theorem dX9_laysBack_39 : decode cX9_laysBack 39 = .ok (.iload_n 1, 1) := by decide +kernel
theorem dX9_laysBack_40 : decode cX9_laysBack 40 = .ok (.aload_n 0, 1) := by decide +kernel
theorem dX9_laysBack_41 : decode cX9_laysBack 41 = .ok (.getfield 61, 3) := by decide +kernel
theorem dX9_laysBack_44 : decode cX9_laysBack 44 = .ok (.bipush 14, 2) := by decide +kernel
theorem dX9_laysBack_46 : decode cX9_laysBack 46 = .ok (.iload_n 1, 1) := by decide +kernel
theorem dX9_laysBack_47 : decode cX9_laysBack 47 = .ok (.iadd, 1) := by decide +kernel
theorem dX9_laysBack_48 : decode cX9_laysBack 48 = .ok (.iaload, 1) := by decide +kernel
theorem dX9_laysBack_49 : decode cX9_laysBack 49 = .ok (.iastore, 1) := by decide +kernel
theorem dX9_laysBack_50 : decode cX9_laysBack 50 = .ok (.iinc 1 1, 3) := by decide +kernel
theorem dX9_laysBack_53 : decode cX9_laysBack 53 = .ok (.goto (-51), 3) := by decide +kernel
theorem dX9_laysBack_56 : decode cX9_laysBack 56 = .ok (.aload_n 0, 1) := by decide +kernel
theorem dX9_laysBack_57 : decode cX9_laysBack 57 = .ok (.aload_n 0, 1) := by decide +kernel
theorem dX9_laysBack_58 : decode cX9_laysBack 58 = .ok (.getfield 208, 3) := by decide +kernel
theorem dX9_laysBack_61 : decode cX9_laysBack 61 = .ok (.putfield 199, 3) := by decide +kernel
theorem dX9_laysBack_64 : decode cX9_laysBack 64 = .ok (.return_, 1) := by decide +kernel
theorem dX9_younger_0 : decode cX9_younger 0 = .ok (.aload_n 0, 1) := by decide +kernel
theorem dX9_younger_1 : decode cX9_younger 1 = .ok (.getfield 22, 3) := by decide +kernel
theorem dX9_younger_4 : decode cX9_younger 4 = .ok (.iload_n 1, 1) := by decide +kernel
theorem dX9_younger_5 : decode cX9_younger 5 = .ok (.iaload, 1) := by decide +kernel
theorem dX9_younger_6 : decode cX9_younger 6 = .ok (.aload_n 0, 1) := by decide +kernel
theorem dX9_younger_7 : decode cX9_younger 7 = .ok (.getfield 22, 3) := by decide +kernel
theorem dX9_younger_10 : decode cX9_younger 10 = .ok (.iload_n 2, 1) := by decide +kernel
theorem dX9_younger_11 : decode cX9_younger 11 = .ok (.iaload, 1) := by decide +kernel
theorem dX9_younger_12 : decode cX9_younger 12 = .ok (.if_icmp .le 7, 3) := by decide +kernel
theorem dX9_younger_15 : decode cX9_younger 15 = .ok (.iload_n 1, 1) := by decide +kernel
theorem dX9_younger_16 : decode cX9_younger 16 = .ok (.goto 4, 3) := by decide +kernel
theorem dX9_younger_19 : decode cX9_younger 19 = .ok (.iload_n 2, 1) := by decide +kernel
theorem dX9_younger_20 : decode cX9_younger 20 = .ok (.ireturn, 1) := by decide +kernel
theorem dX9_movesOf_0 : decode cX9_movesOf 0 = .ok (.aload_n 0, 1) := by decide +kernel
theorem dX9_movesOf_1 : decode cX9_movesOf 1 = .ok (.iload_n 1, 1) := by decide +kernel
theorem dX9_movesOf_2 : decode cX9_movesOf 2 = .ok (.invokevirtual 89, 3) := by decide +kernel
theorem dX9_movesOf_5 : decode cX9_movesOf 5 = .ok (.ifCond .eq 26, 3) := by decide +kernel
theorem dX9_movesOf_8 : decode cX9_movesOf 8 = .ok (.aload_n 0, 1) := by decide +kernel
theorem dX9_movesOf_9 : decode cX9_movesOf 9 = .ok (.iload_n 2, 1) := by decide +kernel
theorem dX9_movesOf_10 : decode cX9_movesOf 10 = .ok (.invokevirtual 89, 3) := by decide +kernel
theorem dX9_movesOf_13 : decode cX9_movesOf 13 = .ok (.ifCond .eq 18, 3) := by decide +kernel
theorem dX9_movesOf_16 : decode cX9_movesOf 16 = .ok (.aload_n 0, 1) := by decide +kernel
theorem dX9_movesOf_17 : decode cX9_movesOf 17 = .ok (.getfield 19, 3) := by decide +kernel
theorem dX9_movesOf_20 : decode cX9_movesOf 20 = .ok (.iload_n 1, 1) := by decide +kernel
theorem dX9_movesOf_21 : decode cX9_movesOf 21 = .ok (.iaload, 1) := by decide +kernel
theorem dX9_movesOf_22 : decode cX9_movesOf 22 = .ok (.aload_n 0, 1) := by decide +kernel
theorem dX9_movesOf_23 : decode cX9_movesOf 23 = .ok (.getfield 19, 3) := by decide +kernel
theorem dX9_movesOf_26 : decode cX9_movesOf 26 = .ok (.iload_n 2, 1) := by decide +kernel
theorem dX9_movesOf_27 : decode cX9_movesOf 27 = .ok (.iaload, 1) := by decide +kernel
theorem dX9_movesOf_28 : decode cX9_movesOf 28 = .ok (.if_icmp .eq 5, 3) := by decide +kernel
theorem dX9_movesOf_31 : decode cX9_movesOf 31 = .ok (.iconst (-1), 1) := by decide +kernel
theorem dX9_movesOf_32 : decode cX9_movesOf 32 = .ok (.ireturn, 1) := by decide +kernel
theorem dX9_movesOf_33 : decode cX9_movesOf 33 = .ok (.aload_n 0, 1) := by decide +kernel
theorem dX9_movesOf_34 : decode cX9_movesOf 34 = .ok (.iload_n 1, 1) := by decide +kernel
theorem dX9_movesOf_35 : decode cX9_movesOf 35 = .ok (.iload_n 2, 1) := by decide +kernel
theorem dX9_movesOf_36 : decode cX9_movesOf 36 = .ok (.invokevirtual 211, 3) := by decide +kernel
theorem dX9_movesOf_39 : decode cX9_movesOf 39 = .ok (.istore_n 3, 1) := by decide +kernel
theorem dX9_movesOf_40 : decode cX9_movesOf 40 = .ok (.aload_n 0, 1) := by decide +kernel
theorem dX9_movesOf_41 : decode cX9_movesOf 41 = .ok (.iconst 2, 1) := by decide +kernel
theorem dX9_movesOf_42 : decode cX9_movesOf 42 = .ok (.iload_n 3, 1) := by decide +kernel
theorem dX9_movesOf_43 : decode cX9_movesOf 43 = .ok (.aload_n 0, 1) := by decide +kernel
theorem dX9_movesOf_44 : decode cX9_movesOf 44 = .ok (.getfield 19, 3) := by decide +kernel
theorem dX9_movesOf_47 : decode cX9_movesOf 47 = .ok (.iload_n 3, 1) := by decide +kernel
theorem dX9_movesOf_48 : decode cX9_movesOf 48 = .ok (.iaload, 1) := by decide +kernel
theorem dX9_movesOf_49 : decode cX9_movesOf 49 = .ok (.iconst 0, 1) := by decide +kernel
theorem dX9_movesOf_50 : decode cX9_movesOf 50 = .ok (.invokevirtual 179, 3) := by decide +kernel
theorem dX9_movesOf_53 : decode cX9_movesOf 53 = .ok (.iconst 1, 1) := by decide +kernel
theorem dX9_movesOf_54 : decode cX9_movesOf 54 = .ok (.if_icmp .ne 7, 3) := by decide +kernel
theorem dX9_movesOf_57 : decode cX9_movesOf 57 = .ok (.iload_n 3, 1) := by decide +kernel
theorem dX9_movesOf_58 : decode cX9_movesOf 58 = .ok (.goto 4, 3) := by decide +kernel
theorem dX9_movesOf_61 : decode cX9_movesOf 61 = .ok (.iconst (-1), 1) := by decide +kernel
theorem dX9_movesOf_62 : decode cX9_movesOf 62 = .ok (.ireturn, 1) := by decide +kernel
theorem dX9_nextMoves_0 : decode cX9_nextMoves 0 = .ok (.iconst 0, 1) := by decide +kernel
theorem dX9_nextMoves_1 : decode cX9_nextMoves 1 = .ok (.istore_n 2, 1) := by decide +kernel
theorem dX9_nextMoves_2 : decode cX9_nextMoves 2 = .ok (.iload_n 2, 1) := by decide +kernel
theorem dX9_nextMoves_3 : decode cX9_nextMoves 3 = .ok (.aload_n 0, 1) := by decide +kernel
theorem dX9_nextMoves_4 : decode cX9_nextMoves 4 = .ok (.getfield 78, 3) := by decide +kernel
theorem dX9_nextMoves_7 : decode cX9_nextMoves 7 = .ok (.if_icmp .ge 36, 3) := by decide +kernel
theorem dX9_nextMoves_10 : decode cX9_nextMoves 10 = .ok (.aload_n 0, 1) := by decide +kernel
theorem dX9_nextMoves_11 : decode cX9_nextMoves 11 = .ok (.iload_n 1, 1) := by decide +kernel
theorem dX9_nextMoves_12 : decode cX9_nextMoves 12 = .ok (.iload_n 2, 1) := by decide +kernel
theorem dX9_nextMoves_13 : decode cX9_nextMoves 13 = .ok (.invokevirtual 186, 3) := by decide +kernel
theorem dX9_nextMoves_16 : decode cX9_nextMoves 16 = .ok (.ifCond .eq 12, 3) := by decide +kernel
theorem dX9_nextMoves_19 : decode cX9_nextMoves 19 = .ok (.aload_n 0, 1) := by decide +kernel
theorem dX9_nextMoves_20 : decode cX9_nextMoves 20 = .ok (.iload_n 1, 1) := by decide +kernel
theorem dX9_nextMoves_21 : decode cX9_nextMoves 21 = .ok (.iload_n 2, 1) := by decide +kernel
theorem dX9_nextMoves_22 : decode cX9_nextMoves 22 = .ok (.invokevirtual 214, 3) := by decide +kernel
theorem dX9_nextMoves_25 : decode cX9_nextMoves 25 = .ok (.goto 4, 3) := by decide +kernel
theorem dX9_nextMoves_28 : decode cX9_nextMoves 28 = .ok (.iconst (-1), 1) := by decide +kernel
theorem dX9_nextMoves_29 : decode cX9_nextMoves 29 = .ok (.istore_n 3, 1) := by decide +kernel
theorem dX9_nextMoves_30 : decode cX9_nextMoves 30 = .ok (.iload_n 3, 1) := by decide +kernel
theorem dX9_nextMoves_31 : decode cX9_nextMoves 31 = .ok (.iconst (-1), 1) := by decide +kernel
theorem dX9_nextMoves_32 : decode cX9_nextMoves 32 = .ok (.if_icmp .eq 5, 3) := by decide +kernel
theorem dX9_nextMoves_35 : decode cX9_nextMoves 35 = .ok (.iload_n 3, 1) := by decide +kernel
theorem dX9_nextMoves_36 : decode cX9_nextMoves 36 = .ok (.ireturn, 1) := by decide +kernel
theorem dX9_nextMoves_37 : decode cX9_nextMoves 37 = .ok (.iinc 2 1, 3) := by decide +kernel
theorem dX9_nextMoves_40 : decode cX9_nextMoves 40 = .ok (.goto (-38), 3) := by decide +kernel
theorem dX9_nextMoves_43 : decode cX9_nextMoves 43 = .ok (.iconst (-1), 1) := by decide +kernel
theorem dX9_nextMoves_44 : decode cX9_nextMoves 44 = .ok (.ireturn, 1) := by decide +kernel
theorem dX9_lanes_0 : decode cX9_lanes 0 = .ok (.aload_n 0, 1) := by decide +kernel
theorem dX9_lanes_1 : decode cX9_lanes 1 = .ok (.getfield 16, 3) := by decide +kernel
theorem dX9_lanes_4 : decode cX9_lanes 4 = .ok (.iload_n 1, 1) := by decide +kernel
theorem dX9_lanes_5 : decode cX9_lanes 5 = .ok (.dup2, 1) := by decide +kernel
theorem dX9_lanes_6 : decode cX9_lanes 6 = .ok (.iaload, 1) := by decide +kernel
theorem dX9_lanes_7 : decode cX9_lanes 7 = .ok (.iconst 1, 1) := by decide +kernel
theorem dX9_lanes_8 : decode cX9_lanes 8 = .ok (.iload_n 2, 1) := by decide +kernel
theorem dX9_lanes_9 : decode cX9_lanes 9 = .ok (.ishl, 1) := by decide +kernel
theorem dX9_lanes_10 : decode cX9_lanes 10 = .ok (.ior, 1) := by decide +kernel
theorem dX9_lanes_11 : decode cX9_lanes 11 = .ok (.iastore, 1) := by decide +kernel
theorem dX9_lanes_12 : decode cX9_lanes 12 = .ok (.aload_n 0, 1) := by decide +kernel
theorem dX9_lanes_13 : decode cX9_lanes 13 = .ok (.getfield 16, 3) := by decide +kernel
theorem dX9_lanes_16 : decode cX9_lanes 16 = .ok (.iload_n 2, 1) := by decide +kernel
theorem dX9_lanes_17 : decode cX9_lanes 17 = .ok (.dup2, 1) := by decide +kernel
theorem dX9_lanes_18 : decode cX9_lanes 18 = .ok (.iaload, 1) := by decide +kernel
theorem dX9_lanes_19 : decode cX9_lanes 19 = .ok (.iconst 1, 1) := by decide +kernel
theorem dX9_lanes_20 : decode cX9_lanes 20 = .ok (.iload_n 1, 1) := by decide +kernel
theorem dX9_lanes_21 : decode cX9_lanes 21 = .ok (.ishl, 1) := by decide +kernel
theorem dX9_lanes_22 : decode cX9_lanes 22 = .ok (.ior, 1) := by decide +kernel
theorem dX9_lanes_23 : decode cX9_lanes 23 = .ok (.iastore, 1) := by decide +kernel
theorem dX9_lanes_24 : decode cX9_lanes 24 = .ok (.iconst 0, 1) := by decide +kernel
theorem dX9_lanes_25 : decode cX9_lanes 25 = .ok (.istore_n 3, 1) := by decide +kernel
theorem dX9_lanes_26 : decode cX9_lanes 26 = .ok (.aload_n 0, 1) := by decide +kernel
theorem dX9_lanes_27 : decode cX9_lanes 27 = .ok (.iload_n 1, 1) := by decide +kernel
theorem dX9_lanes_28 : decode cX9_lanes 28 = .ok (.iload_n 2, 1) := by decide +kernel
theorem dX9_lanes_29 : decode cX9_lanes 29 = .ok (.invokevirtual 214, 3) := by decide +kernel
theorem dX9_lanes_32 : decode cX9_lanes 32 = .ok (.istore 4, 2) := by decide +kernel
theorem dX9_lanes_34 : decode cX9_lanes 34 = .ok (.iload 4, 2) := by decide +kernel
theorem dX9_lanes_36 : decode cX9_lanes 36 = .ok (.iconst (-1), 1) := by decide +kernel
theorem dX9_lanes_37 : decode cX9_lanes 37 = .ok (.if_icmp .eq 40, 3) := by decide +kernel
theorem dX9_lanes_40 : decode cX9_lanes 40 = .ok (.aload_n 0, 1) := by decide +kernel
theorem dX9_lanes_41 : decode cX9_lanes 41 = .ok (.getfield 19, 3) := by decide +kernel
theorem dX9_lanes_44 : decode cX9_lanes 44 = .ok (.iload 4, 2) := by decide +kernel
theorem dX9_lanes_46 : decode cX9_lanes 46 = .ok (.aload_n 0, 1) := by decide +kernel
theorem dX9_lanes_47 : decode cX9_lanes 47 = .ok (.iload 4, 2) := by decide +kernel
theorem dX9_lanes_49 : decode cX9_lanes 49 = .ok (.invokevirtual 202, 3) := by decide +kernel
theorem dX9_lanes_52 : decode cX9_lanes 52 = .ok (.iastore, 1) := by decide +kernel
theorem dX9_lanes_53 : decode cX9_lanes 53 = .ok (.iinc 3 1, 3) := by decide +kernel
theorem dX9_lanes_56 : decode cX9_lanes 56 = .ok (.iload_n 3, 1) := by decide +kernel
theorem dX9_lanes_57 : decode cX9_lanes 57 = .ok (.bipush 20, 2) := by decide +kernel
theorem dX9_lanes_59 : decode cX9_lanes 59 = .ok (.if_icmp .ge 12, 3) := by decide +kernel
theorem dX9_lanes_62 : decode cX9_lanes 62 = .ok (.aload_n 0, 1) := by decide +kernel
theorem dX9_lanes_63 : decode cX9_lanes 63 = .ok (.iload 4, 2) := by decide +kernel
theorem dX9_lanes_65 : decode cX9_lanes 65 = .ok (.invokevirtual 217, 3) := by decide +kernel
theorem dX9_lanes_68 : decode cX9_lanes 68 = .ok (.goto 4, 3) := by decide +kernel
theorem dX9_lanes_71 : decode cX9_lanes 71 = .ok (.iconst (-1), 1) := by decide +kernel
theorem dX9_lanes_72 : decode cX9_lanes 72 = .ok (.istore 4, 2) := by decide +kernel
theorem dX9_lanes_74 : decode cX9_lanes 74 = .ok (.goto (-40), 3) := by decide +kernel
theorem dX9_lanes_77 : decode cX9_lanes 77 = .ok (.iload_n 3, 1) := by decide +kernel
theorem dX9_lanes_78 : decode cX9_lanes 78 = .ok (.ireturn, 1) := by decide +kernel
theorem dX9_lane_0 : decode cX9_lane 0 = .ok (.aload_n 0, 1) := by decide +kernel
theorem dX9_lane_1 : decode cX9_lane 1 = .ok (.iload_n 1, 1) := by decide +kernel
theorem dX9_lane_2 : decode cX9_lane 2 = .ok (.iload_n 2, 1) := by decide +kernel
theorem dX9_lane_3 : decode cX9_lane 3 = .ok (.invokevirtual 220, 3) := by decide +kernel
theorem dX9_lane_6 : decode cX9_lane 6 = .ok (.ifCond .ne 6, 3) := by decide +kernel
theorem dX9_lane_9 : decode cX9_lane 9 = .ok (.bipush (-5), 2) := by decide +kernel
theorem dX9_lane_11 : decode cX9_lane 11 = .ok (.ireturn, 1) := by decide +kernel
theorem dX9_lane_12 : decode cX9_lane 12 = .ok (.aload_n 0, 1) := by decide +kernel
theorem dX9_lane_13 : decode cX9_lane 13 = .ok (.iload_n 1, 1) := by decide +kernel
theorem dX9_lane_14 : decode cX9_lane 14 = .ok (.iload_n 2, 1) := by decide +kernel
theorem dX9_lane_15 : decode cX9_lane 15 = .ok (.invokevirtual 186, 3) := by decide +kernel
theorem dX9_lane_18 : decode cX9_lane 18 = .ok (.ifCond .eq 8, 3) := by decide +kernel
theorem dX9_lane_21 : decode cX9_lane 21 = .ok (.bipush (-3), 2) := by decide +kernel
theorem dX9_lane_23 : decode cX9_lane 23 = .ok (.goto 9, 3) := by decide +kernel
theorem dX9_lane_26 : decode cX9_lane 26 = .ok (.aload_n 0, 1) := by decide +kernel
theorem dX9_lane_27 : decode cX9_lane 27 = .ok (.iload_n 1, 1) := by decide +kernel
theorem dX9_lane_28 : decode cX9_lane 28 = .ok (.iload_n 2, 1) := by decide +kernel
theorem dX9_lane_29 : decode cX9_lane 29 = .ok (.invokevirtual 223, 3) := by decide +kernel
theorem dX9_lane_32 : decode cX9_lane 32 = .ok (.ireturn, 1) := by decide +kernel
theorem dX9_close_0 : decode cX9_close 0 = .ok (.aload_n 0, 1) := by decide +kernel
theorem dX9_close_1 : decode cX9_close 1 = .ok (.iload_n 1, 1) := by decide +kernel
theorem dX9_close_2 : decode cX9_close 2 = .ok (.iload_n 2, 1) := by decide +kernel
theorem dX9_close_3 : decode cX9_close 3 = .ok (.invokevirtual 220, 3) := by decide +kernel
theorem dX9_close_6 : decode cX9_close 6 = .ok (.ifCond .ne 6, 3) := by decide +kernel
theorem dX9_close_9 : decode cX9_close 9 = .ok (.bipush (-5), 2) := by decide +kernel
theorem dX9_close_11 : decode cX9_close 11 = .ok (.ireturn, 1) := by decide +kernel
theorem dX9_close_12 : decode cX9_close 12 = .ok (.aload_n 0, 1) := by decide +kernel
theorem dX9_close_13 : decode cX9_close 13 = .ok (.iload_n 1, 1) := by decide +kernel
theorem dX9_close_14 : decode cX9_close 14 = .ok (.iload_n 2, 1) := by decide +kernel
theorem dX9_close_15 : decode cX9_close 15 = .ok (.invokevirtual 186, 3) := by decide +kernel
theorem dX9_close_18 : decode cX9_close 18 = .ok (.ifCond .eq 7, 3) := by decide +kernel
theorem dX9_close_21 : decode cX9_close 21 = .ok (.iconst 1, 1) := by decide +kernel
theorem dX9_close_22 : decode cX9_close 22 = .ok (.goto 4, 3) := by decide +kernel
theorem dX9_close_25 : decode cX9_close 25 = .ok (.iconst 0, 1) := by decide +kernel
theorem dX9_close_26 : decode cX9_close 26 = .ok (.istore_n 3, 1) := by decide +kernel
theorem dX9_close_27 : decode cX9_close 27 = .ok (.aload_n 0, 1) := by decide +kernel
theorem dX9_close_28 : decode cX9_close 28 = .ok (.getfield 16, 3) := by decide +kernel
theorem dX9_close_31 : decode cX9_close 31 = .ok (.iload_n 1, 1) := by decide +kernel
theorem dX9_close_32 : decode cX9_close 32 = .ok (.dup2, 1) := by decide +kernel
theorem dX9_close_33 : decode cX9_close 33 = .ok (.iaload, 1) := by decide +kernel
theorem dX9_close_34 : decode cX9_close 34 = .ok (.iconst 1, 1) := by decide +kernel
theorem dX9_close_35 : decode cX9_close 35 = .ok (.iload_n 2, 1) := by decide +kernel
theorem dX9_close_36 : decode cX9_close 36 = .ok (.ishl, 1) := by decide +kernel
theorem dX9_close_37 : decode cX9_close 37 = .ok (.iconst (-1), 1) := by decide +kernel
theorem dX9_close_38 : decode cX9_close 38 = .ok (.ixor, 1) := by decide +kernel
theorem dX9_close_39 : decode cX9_close 39 = .ok (.iand, 1) := by decide +kernel
theorem dX9_close_40 : decode cX9_close 40 = .ok (.iastore, 1) := by decide +kernel
theorem dX9_close_41 : decode cX9_close 41 = .ok (.aload_n 0, 1) := by decide +kernel
theorem dX9_close_42 : decode cX9_close 42 = .ok (.getfield 16, 3) := by decide +kernel
theorem dX9_close_45 : decode cX9_close 45 = .ok (.iload_n 2, 1) := by decide +kernel
theorem dX9_close_46 : decode cX9_close 46 = .ok (.dup2, 1) := by decide +kernel
theorem dX9_close_47 : decode cX9_close 47 = .ok (.iaload, 1) := by decide +kernel
theorem dX9_close_48 : decode cX9_close 48 = .ok (.iconst 1, 1) := by decide +kernel
theorem dX9_close_49 : decode cX9_close 49 = .ok (.iload_n 1, 1) := by decide +kernel
theorem dX9_close_50 : decode cX9_close 50 = .ok (.ishl, 1) := by decide +kernel
theorem dX9_close_51 : decode cX9_close 51 = .ok (.iconst (-1), 1) := by decide +kernel
theorem dX9_close_52 : decode cX9_close 52 = .ok (.ixor, 1) := by decide +kernel
theorem dX9_close_53 : decode cX9_close 53 = .ok (.iand, 1) := by decide +kernel
theorem dX9_close_54 : decode cX9_close 54 = .ok (.iastore, 1) := by decide +kernel
theorem dX9_close_55 : decode cX9_close 55 = .ok (.iload_n 3, 1) := by decide +kernel
theorem dX9_close_56 : decode cX9_close 56 = .ok (.ireturn, 1) := by decide +kernel
theorem dX9_lanesThought_0 : decode cX9_lanesThought 0 = .ok (.aload_n 0, 1) := by decide +kernel
theorem dX9_lanesThought_1 : decode cX9_lanesThought 1 = .ok (.invokevirtual 226, 3) := by decide +kernel
theorem dX9_lanesThought_4 : decode cX9_lanesThought 4 = .ok (.aload_n 0, 1) := by decide +kernel
theorem dX9_lanesThought_5 : decode cX9_lanesThought 5 = .ok (.iload_n 1, 1) := by decide +kernel
theorem dX9_lanesThought_6 : decode cX9_lanesThought 6 = .ok (.iload_n 2, 1) := by decide +kernel
theorem dX9_lanesThought_7 : decode cX9_lanesThought 7 = .ok (.invokevirtual 223, 3) := by decide +kernel
theorem dX9_lanesThought_10 : decode cX9_lanesThought 10 = .ok (.istore_n 3, 1) := by decide +kernel
theorem dX9_lanesThought_11 : decode cX9_lanesThought 11 = .ok (.aload_n 0, 1) := by decide +kernel
theorem dX9_lanesThought_12 : decode cX9_lanesThought 12 = .ok (.invokevirtual 229, 3) := by decide +kernel
theorem dX9_lanesThought_15 : decode cX9_lanesThought 15 = .ok (.iload_n 3, 1) := by decide +kernel
theorem dX9_lanesThought_16 : decode cX9_lanesThought 16 = .ok (.ireturn, 1) := by decide +kernel
theorem dX9_idle_0 : decode cX9_idle 0 = .ok (.iload_n 1, 1) := by decide +kernel
theorem dX9_idle_1 : decode cX9_idle 1 = .ok (.iconst 0, 1) := by decide +kernel
theorem dX9_idle_2 : decode cX9_idle 2 = .ok (.iconst 2, 1) := by decide +kernel
theorem dX9_idle_3 : decode cX9_idle 3 = .ok (.invokestatic 81, 3) := by decide +kernel
theorem dX9_idle_6 : decode cX9_idle 6 = .ok (.ifCond .ne 6, 3) := by decide +kernel
theorem dX9_idle_9 : decode cX9_idle 9 = .ok (.bipush (-2), 2) := by decide +kernel
theorem dX9_idle_11 : decode cX9_idle 11 = .ok (.ireturn, 1) := by decide +kernel
theorem dX9_idle_12 : decode cX9_idle 12 = .ok (.iconst 0, 1) := by decide +kernel
theorem dX9_idle_13 : decode cX9_idle 13 = .ok (.istore_n 2, 1) := by decide +kernel
theorem dX9_idle_14 : decode cX9_idle 14 = .ok (.iconst (-1), 1) := by decide +kernel
theorem dX9_idle_15 : decode cX9_idle 15 = .ok (.istore_n 3, 1) := by decide +kernel
theorem dX9_idle_16 : decode cX9_idle 16 = .ok (.iconst 0, 1) := by decide +kernel
theorem dX9_idle_17 : decode cX9_idle 17 = .ok (.istore 4, 2) := by decide +kernel
theorem dX9_idle_19 : decode cX9_idle 19 = .ok (.iconst 0, 1) := by decide +kernel
theorem dX9_idle_20 : decode cX9_idle 20 = .ok (.istore 5, 2) := by decide +kernel
theorem dX9_idle_22 : decode cX9_idle 22 = .ok (.iload 5, 2) := by decide +kernel
theorem dX9_idle_24 : decode cX9_idle 24 = .ok (.aload_n 0, 1) := by decide +kernel
theorem dX9_idle_25 : decode cX9_idle 25 = .ok (.getfield 78, 3) := by decide +kernel
theorem dX9_idle_28 : decode cX9_idle 28 = .ok (.if_icmp .ge 104, 3) := by decide +kernel
theorem dX9_idle_31 : decode cX9_idle 31 = .ok (.iload 5, 2) := by decide +kernel
theorem dX9_idle_33 : decode cX9_idle 33 = .ok (.iconst 1, 1) := by decide +kernel
theorem dX9_idle_34 : decode cX9_idle 34 = .ok (.iadd, 1) := by decide +kernel
theorem dX9_idle_35 : decode cX9_idle 35 = .ok (.istore 6, 2) := by decide +kernel
theorem dX9_idle_37 : decode cX9_idle 37 = .ok (.iload 6, 2) := by decide +kernel
theorem dX9_idle_39 : decode cX9_idle 39 = .ok (.aload_n 0, 1) := by decide +kernel
theorem dX9_idle_40 : decode cX9_idle 40 = .ok (.getfield 78, 3) := by decide +kernel
theorem dX9_idle_43 : decode cX9_idle 43 = .ok (.if_icmp .ge 83, 3) := by decide +kernel
theorem dX9_idle_46 : decode cX9_idle 46 = .ok (.aload_n 0, 1) := by decide +kernel
theorem dX9_idle_47 : decode cX9_idle 47 = .ok (.iload 5, 2) := by decide +kernel
theorem dX9_idle_49 : decode cX9_idle 49 = .ok (.iload 6, 2) := by decide +kernel
theorem dX9_idle_51 : decode cX9_idle 51 = .ok (.invokevirtual 186, 3) := by decide +kernel
theorem dX9_idle_54 : decode cX9_idle 54 = .ok (.ifCond .eq 7, 3) := by decide +kernel
theorem dX9_idle_57 : decode cX9_idle 57 = .ok (.iconst (-1), 1) := by decide +kernel
theorem dX9_idle_58 : decode cX9_idle 58 = .ok (.goto 11, 3) := by decide +kernel
theorem dX9_idle_61 : decode cX9_idle 61 = .ok (.aload_n 0, 1) := by decide +kernel
theorem dX9_idle_62 : decode cX9_idle 62 = .ok (.iload 5, 2) := by decide +kernel
theorem dX9_idle_64 : decode cX9_idle 64 = .ok (.iload 6, 2) := by decide +kernel
theorem dX9_idle_66 : decode cX9_idle 66 = .ok (.invokevirtual 232, 3) := by decide +kernel
theorem dX9_idle_69 : decode cX9_idle 69 = .ok (.istore 7, 2) := by decide +kernel
theorem dX9_idle_71 : decode cX9_idle 71 = .ok (.iload_n 2, 1) := by decide +kernel
theorem dX9_idle_72 : decode cX9_idle 72 = .ok (.iload 7, 2) := by decide +kernel
theorem dX9_idle_74 : decode cX9_idle 74 = .ok (.ifCond .ne 7, 3) := by decide +kernel
theorem dX9_idle_77 : decode cX9_idle 77 = .ok (.iconst 1, 1) := by decide +kernel
theorem dX9_idle_78 : decode cX9_idle 78 = .ok (.goto 4, 3) := by decide +kernel
theorem dX9_idle_81 : decode cX9_idle 81 = .ok (.iconst 0, 1) := by decide +kernel
theorem dX9_idle_82 : decode cX9_idle 82 = .ok (.iadd, 1) := by decide +kernel
theorem dX9_idle_83 : decode cX9_idle 83 = .ok (.istore_n 2, 1) := by decide +kernel
theorem dX9_idle_84 : decode cX9_idle 84 = .ok (.iload 7, 2) := by decide +kernel
theorem dX9_idle_86 : decode cX9_idle 86 = .ok (.iload 4, 2) := by decide +kernel
theorem dX9_idle_88 : decode cX9_idle 88 = .ok (.if_icmp .le 14, 3) := by decide +kernel
theorem dX9_idle_91 : decode cX9_idle 91 = .ok (.bipush 10, 2) := by decide +kernel
theorem dX9_idle_93 : decode cX9_idle 93 = .ok (.iload 5, 2) := by decide +kernel
theorem dX9_idle_95 : decode cX9_idle 95 = .ok (.imul, 1) := by decide +kernel
theorem dX9_idle_96 : decode cX9_idle 96 = .ok (.iload 6, 2) := by decide +kernel
theorem dX9_idle_98 : decode cX9_idle 98 = .ok (.iadd, 1) := by decide +kernel
theorem dX9_idle_99 : decode cX9_idle 99 = .ok (.goto 4, 3) := by decide +kernel
theorem dX9_idle_102 : decode cX9_idle 102 = .ok (.iload_n 3, 1) := by decide +kernel
theorem dX9_idle_103 : decode cX9_idle 103 = .ok (.istore_n 3, 1) := by decide +kernel
theorem dX9_idle_104 : decode cX9_idle 104 = .ok (.iload 7, 2) := by decide +kernel
theorem dX9_idle_106 : decode cX9_idle 106 = .ok (.iload 4, 2) := by decide +kernel
theorem dX9_idle_108 : decode cX9_idle 108 = .ok (.if_icmp .le 8, 3) := by decide +kernel
theorem dX9_idle_111 : decode cX9_idle 111 = .ok (.iload 7, 2) := by decide +kernel
theorem dX9_idle_113 : decode cX9_idle 113 = .ok (.goto 5, 3) := by decide +kernel
theorem dX9_idle_116 : decode cX9_idle 116 = .ok (.iload 4, 2) := by decide +kernel
theorem dX9_idle_118 : decode cX9_idle 118 = .ok (.istore 4, 2) := by decide +kernel
theorem dX9_idle_120 : decode cX9_idle 120 = .ok (.iinc 6 1, 3) := by decide +kernel
theorem dX9_idle_123 : decode cX9_idle 123 = .ok (.goto (-86), 3) := by decide +kernel
theorem dX9_idle_126 : decode cX9_idle 126 = .ok (.iinc 5 1, 3) := by decide +kernel
theorem dX9_idle_129 : decode cX9_idle 129 = .ok (.goto (-107), 3) := by decide +kernel
theorem dX9_idle_132 : decode cX9_idle 132 = .ok (.iload_n 1, 1) := by decide +kernel
theorem dX9_idle_133 : decode cX9_idle 133 = .ok (.ifCond .ne 7, 3) := by decide +kernel
theorem dX9_idle_136 : decode cX9_idle 136 = .ok (.iload_n 2, 1) := by decide +kernel
theorem dX9_idle_137 : decode cX9_idle 137 = .ok (.goto 14, 3) := by decide +kernel
theorem dX9_idle_140 : decode cX9_idle 140 = .ok (.iload_n 1, 1) := by decide +kernel
theorem dX9_idle_141 : decode cX9_idle 141 = .ok (.iconst 1, 1) := by decide +kernel
theorem dX9_idle_142 : decode cX9_idle 142 = .ok (.if_icmp .ne 7, 3) := by decide +kernel
theorem dX9_idle_145 : decode cX9_idle 145 = .ok (.iload_n 3, 1) := by decide +kernel
theorem dX9_idle_146 : decode cX9_idle 146 = .ok (.goto 5, 3) := by decide +kernel
theorem dX9_idle_149 : decode cX9_idle 149 = .ok (.iload 4, 2) := by decide +kernel
theorem dX9_idle_151 : decode cX9_idle 151 = .ok (.ireturn, 1) := by decide +kernel
theorem dX9_begins_0 : decode cX9_begins 0 = .ok (.aload_n 0, 1) := by decide +kernel
theorem dX9_begins_1 : decode cX9_begins 1 = .ok (.iconst 0, 1) := by decide +kernel
theorem dX9_begins_2 : decode cX9_begins 2 = .ok (.putfield 235, 3) := by decide +kernel
theorem dX9_begins_5 : decode cX9_begins 5 = .ok (.iconst 0, 1) := by decide +kernel
theorem dX9_begins_6 : decode cX9_begins 6 = .ok (.istore_n 2, 1) := by decide +kernel
theorem dX9_begins_7 : decode cX9_begins 7 = .ok (.iload_n 2, 1) := by decide +kernel
theorem dX9_begins_8 : decode cX9_begins 8 = .ok (.aload_n 0, 1) := by decide +kernel
theorem dX9_begins_9 : decode cX9_begins 9 = .ok (.getfield 78, 3) := by decide +kernel
theorem dX9_begins_12 : decode cX9_begins 12 = .ok (.if_icmp .ge 38, 3) := by decide +kernel
theorem dX9_begins_15 : decode cX9_begins 15 = .ok (.iload_n 1, 1) := by decide +kernel
theorem dX9_begins_16 : decode cX9_begins 16 = .ok (.iload_n 2, 1) := by decide +kernel
theorem dX9_begins_17 : decode cX9_begins 17 = .ok (.ishr, 1) := by decide +kernel
theorem dX9_begins_18 : decode cX9_begins 18 = .ok (.iconst 1, 1) := by decide +kernel
theorem dX9_begins_19 : decode cX9_begins 19 = .ok (.iand, 1) := by decide +kernel
theorem dX9_begins_20 : decode cX9_begins 20 = .ok (.iconst 1, 1) := by decide +kernel
theorem dX9_begins_21 : decode cX9_begins 21 = .ok (.if_icmp .ne 23, 3) := by decide +kernel
theorem dX9_begins_24 : decode cX9_begins 24 = .ok (.aload_n 0, 1) := by decide +kernel
theorem dX9_begins_25 : decode cX9_begins 25 = .ok (.getfield 64, 3) := by decide +kernel
theorem dX9_begins_28 : decode cX9_begins 28 = .ok (.aload_n 0, 1) := by decide +kernel
theorem dX9_begins_29 : decode cX9_begins 29 = .ok (.getfield 235, 3) := by decide +kernel
theorem dX9_begins_32 : decode cX9_begins 32 = .ok (.iload_n 2, 1) := by decide +kernel
theorem dX9_begins_33 : decode cX9_begins 33 = .ok (.iastore, 1) := by decide +kernel
theorem dX9_begins_34 : decode cX9_begins 34 = .ok (.aload_n 0, 1) := by decide +kernel
theorem dX9_begins_35 : decode cX9_begins 35 = .ok (.dup, 1) := by decide +kernel
theorem dX9_begins_36 : decode cX9_begins 36 = .ok (.getfield 235, 3) := by decide +kernel
theorem dX9_begins_39 : decode cX9_begins 39 = .ok (.iconst 1, 1) := by decide +kernel
theorem dX9_begins_40 : decode cX9_begins 40 = .ok (.iadd, 1) := by decide +kernel
theorem dX9_begins_41 : decode cX9_begins 41 = .ok (.putfield 235, 3) := by decide +kernel
theorem dX9_begins_44 : decode cX9_begins 44 = .ok (.iinc 2 1, 3) := by decide +kernel
theorem dX9_begins_47 : decode cX9_begins 47 = .ok (.goto (-40), 3) := by decide +kernel
theorem dX9_begins_50 : decode cX9_begins 50 = .ok (.return_, 1) := by decide +kernel
theorem dX9_nextRow_0 : decode cX9_nextRow 0 = .ok (.aload_n 0, 1) := by decide +kernel
theorem dX9_nextRow_1 : decode cX9_nextRow 1 = .ok (.getfield 235, 3) := by decide +kernel
theorem dX9_nextRow_4 : decode cX9_nextRow 4 = .ok (.iconst 2, 1) := by decide +kernel
theorem dX9_nextRow_5 : decode cX9_nextRow 5 = .ok (.isub, 1) := by decide +kernel
theorem dX9_nextRow_6 : decode cX9_nextRow 6 = .ok (.istore_n 1, 1) := by decide +kernel
theorem dX9_nextRow_7 : decode cX9_nextRow 7 = .ok (.iload_n 1, 1) := by decide +kernel
theorem dX9_nextRow_8 : decode cX9_nextRow 8 = .ok (.ifCond .lt 26, 3) := by decide +kernel
theorem dX9_nextRow_11 : decode cX9_nextRow 11 = .ok (.aload_n 0, 1) := by decide +kernel
theorem dX9_nextRow_12 : decode cX9_nextRow 12 = .ok (.getfield 64, 3) := by decide +kernel
theorem dX9_nextRow_15 : decode cX9_nextRow 15 = .ok (.iload_n 1, 1) := by decide +kernel
theorem dX9_nextRow_16 : decode cX9_nextRow 16 = .ok (.iaload, 1) := by decide +kernel
theorem dX9_nextRow_17 : decode cX9_nextRow 17 = .ok (.aload_n 0, 1) := by decide +kernel
theorem dX9_nextRow_18 : decode cX9_nextRow 18 = .ok (.getfield 64, 3) := by decide +kernel
theorem dX9_nextRow_21 : decode cX9_nextRow 21 = .ok (.iload_n 1, 1) := by decide +kernel
theorem dX9_nextRow_22 : decode cX9_nextRow 22 = .ok (.iconst 1, 1) := by decide +kernel
theorem dX9_nextRow_23 : decode cX9_nextRow 23 = .ok (.iadd, 1) := by decide +kernel
theorem dX9_nextRow_24 : decode cX9_nextRow 24 = .ok (.iaload, 1) := by decide +kernel
theorem dX9_nextRow_25 : decode cX9_nextRow 25 = .ok (.if_icmp .le 9, 3) := by decide +kernel
theorem dX9_nextRow_28 : decode cX9_nextRow 28 = .ok (.iinc 1 (-1), 3) := by decide +kernel
theorem dX9_nextRow_31 : decode cX9_nextRow 31 = .ok (.goto (-24), 3) := by decide +kernel
theorem dX9_nextRow_34 : decode cX9_nextRow 34 = .ok (.iload_n 1, 1) := by decide +kernel
theorem dX9_nextRow_35 : decode cX9_nextRow 35 = .ok (.ifCond .ge 5, 3) := by decide +kernel
theorem dX9_nextRow_38 : decode cX9_nextRow 38 = .ok (.iconst 0, 1) := by decide +kernel
theorem dX9_nextRow_39 : decode cX9_nextRow 39 = .ok (.ireturn, 1) := by decide +kernel
theorem dX9_nextRow_40 : decode cX9_nextRow 40 = .ok (.aload_n 0, 1) := by decide +kernel
theorem dX9_nextRow_41 : decode cX9_nextRow 41 = .ok (.getfield 235, 3) := by decide +kernel
theorem dX9_nextRow_44 : decode cX9_nextRow 44 = .ok (.iconst 1, 1) := by decide +kernel
theorem dX9_nextRow_45 : decode cX9_nextRow 45 = .ok (.isub, 1) := by decide +kernel
theorem dX9_nextRow_46 : decode cX9_nextRow 46 = .ok (.istore_n 2, 1) := by decide +kernel
theorem dX9_nextRow_47 : decode cX9_nextRow 47 = .ok (.aload_n 0, 1) := by decide +kernel
theorem dX9_nextRow_48 : decode cX9_nextRow 48 = .ok (.getfield 64, 3) := by decide +kernel
theorem dX9_nextRow_51 : decode cX9_nextRow 51 = .ok (.iload_n 2, 1) := by decide +kernel
theorem dX9_nextRow_52 : decode cX9_nextRow 52 = .ok (.iaload, 1) := by decide +kernel
theorem dX9_nextRow_53 : decode cX9_nextRow 53 = .ok (.aload_n 0, 1) := by decide +kernel
theorem dX9_nextRow_54 : decode cX9_nextRow 54 = .ok (.getfield 64, 3) := by decide +kernel
theorem dX9_nextRow_57 : decode cX9_nextRow 57 = .ok (.iload_n 1, 1) := by decide +kernel
theorem dX9_nextRow_58 : decode cX9_nextRow 58 = .ok (.iaload, 1) := by decide +kernel
theorem dX9_nextRow_59 : decode cX9_nextRow 59 = .ok (.if_icmp .ge 9, 3) := by decide +kernel
theorem dX9_nextRow_62 : decode cX9_nextRow 62 = .ok (.iinc 2 (-1), 3) := by decide +kernel
theorem dX9_nextRow_65 : decode cX9_nextRow 65 = .ok (.goto (-18), 3) := by decide +kernel
theorem dX9_nextRow_68 : decode cX9_nextRow 68 = .ok (.aload_n 0, 1) := by decide +kernel
theorem dX9_nextRow_69 : decode cX9_nextRow 69 = .ok (.iload_n 1, 1) := by decide +kernel
theorem dX9_nextRow_70 : decode cX9_nextRow 70 = .ok (.iload_n 2, 1) := by decide +kernel
theorem dX9_nextRow_71 : decode cX9_nextRow 71 = .ok (.invokevirtual 238, 3) := by decide +kernel
theorem dX9_nextRow_74 : decode cX9_nextRow 74 = .ok (.aload_n 0, 1) := by decide +kernel
theorem dX9_nextRow_75 : decode cX9_nextRow 75 = .ok (.getfield 235, 3) := by decide +kernel
theorem dX9_nextRow_78 : decode cX9_nextRow 78 = .ok (.iconst 1, 1) := by decide +kernel
theorem dX9_nextRow_79 : decode cX9_nextRow 79 = .ok (.isub, 1) := by decide +kernel
theorem dX9_nextRow_80 : decode cX9_nextRow 80 = .ok (.istore_n 3, 1) := by decide +kernel
theorem dX9_nextRow_81 : decode cX9_nextRow 81 = .ok (.iload_n 1, 1) := by decide +kernel
theorem dX9_nextRow_82 : decode cX9_nextRow 82 = .ok (.iconst 1, 1) := by decide +kernel
theorem dX9_nextRow_83 : decode cX9_nextRow 83 = .ok (.iadd, 1) := by decide +kernel
theorem dX9_nextRow_84 : decode cX9_nextRow 84 = .ok (.istore 4, 2) := by decide +kernel
theorem dX9_nextRow_86 : decode cX9_nextRow 86 = .ok (.iload 4, 2) := by decide +kernel
theorem dX9_nextRow_88 : decode cX9_nextRow 88 = .ok (.iload_n 3, 1) := by decide +kernel
theorem dX9_nextRow_89 : decode cX9_nextRow 89 = .ok (.if_icmp .ge 19, 3) := by decide +kernel
theorem dX9_nextRow_92 : decode cX9_nextRow 92 = .ok (.aload_n 0, 1) := by decide +kernel
theorem dX9_nextRow_93 : decode cX9_nextRow 93 = .ok (.iload 4, 2) := by decide +kernel
theorem dX9_nextRow_95 : decode cX9_nextRow 95 = .ok (.iload_n 3, 1) := by decide +kernel
theorem dX9_nextRow_96 : decode cX9_nextRow 96 = .ok (.invokevirtual 238, 3) := by decide +kernel
theorem dX9_nextRow_99 : decode cX9_nextRow 99 = .ok (.iinc 3 (-1), 3) := by decide +kernel
theorem dX9_nextRow_102 : decode cX9_nextRow 102 = .ok (.iinc 4 1, 3) := by decide +kernel
theorem dX9_nextRow_105 : decode cX9_nextRow 105 = .ok (.goto (-19), 3) := by decide +kernel
theorem dX9_nextRow_108 : decode cX9_nextRow 108 = .ok (.iconst 1, 1) := by decide +kernel
theorem dX9_nextRow_109 : decode cX9_nextRow 109 = .ok (.ireturn, 1) := by decide +kernel
theorem dX9_swapsRow_0 : decode cX9_swapsRow 0 = .ok (.aload_n 0, 1) := by decide +kernel
theorem dX9_swapsRow_1 : decode cX9_swapsRow 1 = .ok (.getfield 64, 3) := by decide +kernel
theorem dX9_swapsRow_4 : decode cX9_swapsRow 4 = .ok (.iload_n 1, 1) := by decide +kernel
theorem dX9_swapsRow_5 : decode cX9_swapsRow 5 = .ok (.iaload, 1) := by decide +kernel
theorem dX9_swapsRow_6 : decode cX9_swapsRow 6 = .ok (.istore_n 3, 1) := by decide +kernel
theorem dX9_swapsRow_7 : decode cX9_swapsRow 7 = .ok (.aload_n 0, 1) := by decide +kernel
theorem dX9_swapsRow_8 : decode cX9_swapsRow 8 = .ok (.getfield 64, 3) := by decide +kernel
theorem dX9_swapsRow_11 : decode cX9_swapsRow 11 = .ok (.iload_n 1, 1) := by decide +kernel
theorem dX9_swapsRow_12 : decode cX9_swapsRow 12 = .ok (.aload_n 0, 1) := by decide +kernel
theorem dX9_swapsRow_13 : decode cX9_swapsRow 13 = .ok (.getfield 64, 3) := by decide +kernel
theorem dX9_swapsRow_16 : decode cX9_swapsRow 16 = .ok (.iload_n 2, 1) := by decide +kernel
theorem dX9_swapsRow_17 : decode cX9_swapsRow 17 = .ok (.iaload, 1) := by decide +kernel
theorem dX9_swapsRow_18 : decode cX9_swapsRow 18 = .ok (.iastore, 1) := by decide +kernel
theorem dX9_swapsRow_19 : decode cX9_swapsRow 19 = .ok (.aload_n 0, 1) := by decide +kernel
theorem dX9_swapsRow_20 : decode cX9_swapsRow 20 = .ok (.getfield 64, 3) := by decide +kernel
theorem dX9_swapsRow_23 : decode cX9_swapsRow 23 = .ok (.iload_n 2, 1) := by decide +kernel
theorem dX9_swapsRow_24 : decode cX9_swapsRow 24 = .ok (.iload_n 3, 1) := by decide +kernel
theorem dX9_swapsRow_25 : decode cX9_swapsRow 25 = .ok (.iastore, 1) := by decide +kernel
theorem dX9_swapsRow_26 : decode cX9_swapsRow 26 = .ok (.return_, 1) := by decide +kernel
theorem dX9_rowDigits_0 : decode cX9_rowDigits 0 = .ok (.iconst 0, 1) := by decide +kernel
theorem dX9_rowDigits_1 : decode cX9_rowDigits 1 = .ok (.istore_n 1, 1) := by decide +kernel
theorem dX9_rowDigits_2 : decode cX9_rowDigits 2 = .ok (.iconst 0, 1) := by decide +kernel
theorem dX9_rowDigits_3 : decode cX9_rowDigits 3 = .ok (.istore_n 2, 1) := by decide +kernel
theorem dX9_rowDigits_4 : decode cX9_rowDigits 4 = .ok (.iload_n 2, 1) := by decide +kernel
theorem dX9_rowDigits_5 : decode cX9_rowDigits 5 = .ok (.aload_n 0, 1) := by decide +kernel
theorem dX9_rowDigits_6 : decode cX9_rowDigits 6 = .ok (.getfield 235, 3) := by decide +kernel
theorem dX9_rowDigits_9 : decode cX9_rowDigits 9 = .ok (.if_icmp .ge 23, 3) := by decide +kernel
theorem dX9_rowDigits_12 : decode cX9_rowDigits 12 = .ok (.bipush 10, 2) := by decide +kernel
theorem dX9_rowDigits_14 : decode cX9_rowDigits 14 = .ok (.iload_n 1, 1) := by decide +kernel
theorem dX9_rowDigits_15 : decode cX9_rowDigits 15 = .ok (.imul, 1) := by decide +kernel
theorem dX9_rowDigits_16 : decode cX9_rowDigits 16 = .ok (.aload_n 0, 1) := by decide +kernel
theorem dX9_rowDigits_17 : decode cX9_rowDigits 17 = .ok (.getfield 64, 3) := by decide +kernel
theorem dX9_rowDigits_20 : decode cX9_rowDigits 20 = .ok (.iload_n 2, 1) := by decide +kernel
theorem dX9_rowDigits_21 : decode cX9_rowDigits 21 = .ok (.iaload, 1) := by decide +kernel
theorem dX9_rowDigits_22 : decode cX9_rowDigits 22 = .ok (.iadd, 1) := by decide +kernel
theorem dX9_rowDigits_23 : decode cX9_rowDigits 23 = .ok (.iconst 1, 1) := by decide +kernel
theorem dX9_rowDigits_24 : decode cX9_rowDigits 24 = .ok (.iadd, 1) := by decide +kernel
theorem dX9_rowDigits_25 : decode cX9_rowDigits 25 = .ok (.istore_n 1, 1) := by decide +kernel
theorem dX9_rowDigits_26 : decode cX9_rowDigits 26 = .ok (.iinc 2 1, 3) := by decide +kernel
theorem dX9_rowDigits_29 : decode cX9_rowDigits 29 = .ok (.goto (-25), 3) := by decide +kernel
theorem dX9_rowDigits_32 : decode cX9_rowDigits 32 = .ok (.iload_n 1, 1) := by decide +kernel
theorem dX9_rowDigits_33 : decode cX9_rowDigits 33 = .ok (.ireturn, 1) := by decide +kernel
theorem dX9_buildsRow_0 : decode cX9_buildsRow 0 = .ok (.iconst 0, 1) := by decide +kernel
theorem dX9_buildsRow_1 : decode cX9_buildsRow 1 = .ok (.istore_n 2, 1) := by decide +kernel
theorem dX9_buildsRow_2 : decode cX9_buildsRow 2 = .ok (.iload_n 2, 1) := by decide +kernel
theorem dX9_buildsRow_3 : decode cX9_buildsRow 3 = .ok (.iload_n 1, 1) := by decide +kernel
theorem dX9_buildsRow_4 : decode cX9_buildsRow 4 = .ok (.if_icmp .ge 29, 3) := by decide +kernel
theorem dX9_buildsRow_7 : decode cX9_buildsRow 7 = .ok (.aload_n 0, 1) := by decide +kernel
theorem dX9_buildsRow_8 : decode cX9_buildsRow 8 = .ok (.aload_n 0, 1) := by decide +kernel
theorem dX9_buildsRow_9 : decode cX9_buildsRow 9 = .ok (.getfield 64, 3) := by decide +kernel
theorem dX9_buildsRow_12 : decode cX9_buildsRow 12 = .ok (.iload_n 2, 1) := by decide +kernel
theorem dX9_buildsRow_13 : decode cX9_buildsRow 13 = .ok (.iaload, 1) := by decide +kernel
theorem dX9_buildsRow_14 : decode cX9_buildsRow 14 = .ok (.aload_n 0, 1) := by decide +kernel
theorem dX9_buildsRow_15 : decode cX9_buildsRow 15 = .ok (.aload_n 0, 1) := by decide +kernel
theorem dX9_buildsRow_16 : decode cX9_buildsRow 16 = .ok (.getfield 64, 3) := by decide +kernel
theorem dX9_buildsRow_19 : decode cX9_buildsRow 19 = .ok (.iload_n 2, 1) := by decide +kernel
theorem dX9_buildsRow_20 : decode cX9_buildsRow 20 = .ok (.iaload, 1) := by decide +kernel
theorem dX9_buildsRow_21 : decode cX9_buildsRow 21 = .ok (.invokevirtual 202, 3) := by decide +kernel
theorem dX9_buildsRow_24 : decode cX9_buildsRow 24 = .ok (.invokevirtual 205, 3) := by decide +kernel
theorem dX9_buildsRow_27 : decode cX9_buildsRow 27 = .ok (.iinc 2 1, 3) := by decide +kernel
theorem dX9_buildsRow_30 : decode cX9_buildsRow 30 = .ok (.goto (-28), 3) := by decide +kernel
theorem dX9_buildsRow_33 : decode cX9_buildsRow 33 = .ok (.return_, 1) := by decide +kernel
theorem dX9_manyByRow_0 : decode cX9_manyByRow 0 = .ok (.aload_n 0, 1) := by decide +kernel
theorem dX9_manyByRow_1 : decode cX9_manyByRow 1 = .ok (.invokevirtual 226, 3) := by decide +kernel
theorem dX9_manyByRow_4 : decode cX9_manyByRow 4 = .ok (.aload_n 0, 1) := by decide +kernel
theorem dX9_manyByRow_5 : decode cX9_manyByRow 5 = .ok (.aload_n 0, 1) := by decide +kernel
theorem dX9_manyByRow_6 : decode cX9_manyByRow 6 = .ok (.getfield 235, 3) := by decide +kernel
theorem dX9_manyByRow_9 : decode cX9_manyByRow 9 = .ok (.invokevirtual 241, 3) := by decide +kernel
theorem dX9_manyByRow_12 : decode cX9_manyByRow 12 = .ok (.aload_n 0, 1) := by decide +kernel
theorem dX9_manyByRow_13 : decode cX9_manyByRow 13 = .ok (.invokevirtual 99, 3) := by decide +kernel
theorem dX9_manyByRow_16 : decode cX9_manyByRow 16 = .ok (.istore_n 1, 1) := by decide +kernel
theorem dX9_manyByRow_17 : decode cX9_manyByRow 17 = .ok (.aload_n 0, 1) := by decide +kernel
theorem dX9_manyByRow_18 : decode cX9_manyByRow 18 = .ok (.invokevirtual 229, 3) := by decide +kernel
theorem dX9_manyByRow_21 : decode cX9_manyByRow 21 = .ok (.iload_n 1, 1) := by decide +kernel
theorem dX9_manyByRow_22 : decode cX9_manyByRow 22 = .ok (.ireturn, 1) := by decide +kernel
theorem dX9_notBuilt_0 : decode cX9_notBuilt 0 = .ok (.aload_n 0, 1) := by decide +kernel
theorem dX9_notBuilt_1 : decode cX9_notBuilt 1 = .ok (.invokevirtual 183, 3) := by decide +kernel
theorem dX9_notBuilt_4 : decode cX9_notBuilt 4 = .ok (.aload_n 0, 1) := by decide +kernel
theorem dX9_notBuilt_5 : decode cX9_notBuilt 5 = .ok (.invokevirtual 96, 3) := by decide +kernel
theorem dX9_notBuilt_8 : decode cX9_notBuilt 8 = .ok (.iconst (-1), 1) := by decide +kernel
theorem dX9_notBuilt_9 : decode cX9_notBuilt 9 = .ok (.ixor, 1) := by decide +kernel
theorem dX9_notBuilt_10 : decode cX9_notBuilt 10 = .ok (.iand, 1) := by decide +kernel
theorem dX9_notBuilt_11 : decode cX9_notBuilt 11 = .ok (.ireturn, 1) := by decide +kernel
theorem dX9_order_0 : decode cX9_order 0 = .ok (.iload_n 1, 1) := by decide +kernel
theorem dX9_order_1 : decode cX9_order 1 = .ok (.iconst 0, 1) := by decide +kernel
theorem dX9_order_2 : decode cX9_order 2 = .ok (.iconst 1, 1) := by decide +kernel
theorem dX9_order_3 : decode cX9_order 3 = .ok (.invokestatic 81, 3) := by decide +kernel
theorem dX9_order_6 : decode cX9_order 6 = .ok (.ifCond .eq 12, 3) := by decide +kernel
theorem dX9_order_9 : decode cX9_order 9 = .ok (.iload_n 2, 1) := by decide +kernel
theorem dX9_order_10 : decode cX9_order 10 = .ok (.iconst 0, 1) := by decide +kernel
theorem dX9_order_11 : decode cX9_order 11 = .ok (.iconst 1, 1) := by decide +kernel
theorem dX9_order_12 : decode cX9_order 12 = .ok (.invokestatic 81, 3) := by decide +kernel
theorem dX9_order_15 : decode cX9_order 15 = .ok (.ifCond .ne 6, 3) := by decide +kernel
theorem dX9_order_18 : decode cX9_order 18 = .ok (.bipush (-2), 2) := by decide +kernel
theorem dX9_order_20 : decode cX9_order 20 = .ok (.ireturn, 1) := by decide +kernel
theorem dX9_order_21 : decode cX9_order 21 = .ok (.aload_n 0, 1) := by decide +kernel
theorem dX9_order_22 : decode cX9_order 22 = .ok (.aload_n 0, 1) := by decide +kernel
theorem dX9_order_23 : decode cX9_order 23 = .ok (.invokevirtual 244, 3) := by decide +kernel
theorem dX9_order_26 : decode cX9_order 26 = .ok (.invokevirtual 247, 3) := by decide +kernel
theorem dX9_order_29 : decode cX9_order 29 = .ok (.iconst (-1), 1) := by decide +kernel
theorem dX9_order_30 : decode cX9_order 30 = .ok (.istore_n 3, 1) := by decide +kernel
theorem dX9_order_31 : decode cX9_order 31 = .ok (.iconst 0, 1) := by decide +kernel
theorem dX9_order_32 : decode cX9_order 32 = .ok (.istore 4, 2) := by decide +kernel
theorem dX9_order_34 : decode cX9_order 34 = .ok (.iconst 1, 1) := by decide +kernel
theorem dX9_order_35 : decode cX9_order 35 = .ok (.istore 5, 2) := by decide +kernel
theorem dX9_order_37 : decode cX9_order 37 = .ok (.iload 5, 2) := by decide +kernel
theorem dX9_order_39 : decode cX9_order 39 = .ok (.ifCond .eq 77, 3) := by decide +kernel
theorem dX9_order_42 : decode cX9_order 42 = .ok (.aload_n 0, 1) := by decide +kernel
theorem dX9_order_43 : decode cX9_order 43 = .ok (.invokevirtual 250, 3) := by decide +kernel
theorem dX9_order_46 : decode cX9_order 46 = .ok (.istore 6, 2) := by decide +kernel
theorem dX9_order_48 : decode cX9_order 48 = .ok (.iload_n 3, 1) := by decide +kernel
theorem dX9_order_49 : decode cX9_order 49 = .ok (.iconst (-1), 1) := by decide +kernel
theorem dX9_order_50 : decode cX9_order 50 = .ok (.if_icmp .eq 22, 3) := by decide +kernel
theorem dX9_order_53 : decode cX9_order 53 = .ok (.iload_n 1, 1) := by decide +kernel
theorem dX9_order_54 : decode cX9_order 54 = .ok (.ifCond .ne 12, 3) := by decide +kernel
theorem dX9_order_57 : decode cX9_order 57 = .ok (.iload 6, 2) := by decide +kernel
theorem dX9_order_59 : decode cX9_order 59 = .ok (.iload_n 3, 1) := by decide +kernel
theorem dX9_order_60 : decode cX9_order 60 = .ok (.if_icmp .ge 16, 3) := by decide +kernel
theorem dX9_order_63 : decode cX9_order 63 = .ok (.goto 9, 3) := by decide +kernel
theorem dX9_order_66 : decode cX9_order 66 = .ok (.iload 6, 2) := by decide +kernel
theorem dX9_order_68 : decode cX9_order 68 = .ok (.iload_n 3, 1) := by decide +kernel
theorem dX9_order_69 : decode cX9_order 69 = .ok (.if_icmp .le 7, 3) := by decide +kernel
theorem dX9_order_72 : decode cX9_order 72 = .ok (.iconst 1, 1) := by decide +kernel
theorem dX9_order_73 : decode cX9_order 73 = .ok (.goto 4, 3) := by decide +kernel
theorem dX9_order_76 : decode cX9_order 76 = .ok (.iconst 0, 1) := by decide +kernel
theorem dX9_order_77 : decode cX9_order 77 = .ok (.istore 7, 2) := by decide +kernel
theorem dX9_order_79 : decode cX9_order 79 = .ok (.iload 7, 2) := by decide +kernel
theorem dX9_order_81 : decode cX9_order 81 = .ok (.ifCond .eq 10, 3) := by decide +kernel
theorem dX9_order_84 : decode cX9_order 84 = .ok (.aload_n 0, 1) := by decide +kernel
theorem dX9_order_85 : decode cX9_order 85 = .ok (.invokevirtual 253, 3) := by decide +kernel
theorem dX9_order_88 : decode cX9_order 88 = .ok (.goto 5, 3) := by decide +kernel
theorem dX9_order_91 : decode cX9_order 91 = .ok (.iload 4, 2) := by decide +kernel
theorem dX9_order_93 : decode cX9_order 93 = .ok (.istore 4, 2) := by decide +kernel
theorem dX9_order_95 : decode cX9_order 95 = .ok (.iload 7, 2) := by decide +kernel
theorem dX9_order_97 : decode cX9_order 97 = .ok (.ifCond .eq 8, 3) := by decide +kernel
theorem dX9_order_100 : decode cX9_order 100 = .ok (.iload 6, 2) := by decide +kernel
theorem dX9_order_102 : decode cX9_order 102 = .ok (.goto 4, 3) := by decide +kernel
theorem dX9_order_105 : decode cX9_order 105 = .ok (.iload_n 3, 1) := by decide +kernel
theorem dX9_order_106 : decode cX9_order 106 = .ok (.istore_n 3, 1) := by decide +kernel
theorem dX9_order_107 : decode cX9_order 107 = .ok (.aload_n 0, 1) := by decide +kernel
theorem dX9_order_108 : decode cX9_order 108 = .ok (.invokevirtual 256, 3) := by decide +kernel
theorem dX9_order_111 : decode cX9_order 111 = .ok (.istore 5, 2) := by decide +kernel
theorem dX9_order_113 : decode cX9_order 113 = .ok (.goto (-76), 3) := by decide +kernel
theorem dX9_order_116 : decode cX9_order 116 = .ok (.iload_n 2, 1) := by decide +kernel
theorem dX9_order_117 : decode cX9_order 117 = .ok (.ifCond .ne 7, 3) := by decide +kernel
theorem dX9_order_120 : decode cX9_order 120 = .ok (.iload_n 3, 1) := by decide +kernel
theorem dX9_order_121 : decode cX9_order 121 = .ok (.goto 5, 3) := by decide +kernel
theorem dX9_order_124 : decode cX9_order 124 = .ok (.iload 4, 2) := by decide +kernel
theorem dX9_order_126 : decode cX9_order 126 = .ok (.ireturn, 1) := by decide +kernel
theorem dX9_canPaint_0 : decode cX9_canPaint 0 = .ok (.iload_n 1, 1) := by decide +kernel
theorem dX9_canPaint_1 : decode cX9_canPaint 1 = .ok (.aload_n 0, 1) := by decide +kernel
theorem dX9_canPaint_2 : decode cX9_canPaint 2 = .ok (.getfield 78, 3) := by decide +kernel
theorem dX9_canPaint_5 : decode cX9_canPaint 5 = .ok (.if_icmp .ne 5, 3) := by decide +kernel
theorem dX9_canPaint_8 : decode cX9_canPaint 8 = .ok (.iconst 1, 1) := by decide +kernel
theorem dX9_canPaint_9 : decode cX9_canPaint 9 = .ok (.ireturn, 1) := by decide +kernel
theorem dX9_canPaint_10 : decode cX9_canPaint 10 = .ok (.iconst 0, 1) := by decide +kernel
theorem dX9_canPaint_11 : decode cX9_canPaint 11 = .ok (.istore_n 3, 1) := by decide +kernel
theorem dX9_canPaint_12 : decode cX9_canPaint 12 = .ok (.iload_n 3, 1) := by decide +kernel
theorem dX9_canPaint_13 : decode cX9_canPaint 13 = .ok (.iload_n 2, 1) := by decide +kernel
theorem dX9_canPaint_14 : decode cX9_canPaint 14 = .ok (.if_icmp .ge 85, 3) := by decide +kernel
theorem dX9_canPaint_17 : decode cX9_canPaint 17 = .ok (.iconst 1, 1) := by decide +kernel
theorem dX9_canPaint_18 : decode cX9_canPaint 18 = .ok (.istore 4, 2) := by decide +kernel
theorem dX9_canPaint_20 : decode cX9_canPaint 20 = .ok (.iconst 0, 1) := by decide +kernel
theorem dX9_canPaint_21 : decode cX9_canPaint 21 = .ok (.istore 5, 2) := by decide +kernel
theorem dX9_canPaint_23 : decode cX9_canPaint 23 = .ok (.iload 5, 2) := by decide +kernel
theorem dX9_canPaint_25 : decode cX9_canPaint 25 = .ok (.iload_n 1, 1) := by decide +kernel
theorem dX9_canPaint_26 : decode cX9_canPaint 26 = .ok (.if_icmp .ge 42, 3) := by decide +kernel
theorem dX9_canPaint_29 : decode cX9_canPaint 29 = .ok (.iload 4, 2) := by decide +kernel
theorem dX9_canPaint_31 : decode cX9_canPaint 31 = .ok (.ifCond .eq 28, 3) := by decide +kernel
theorem dX9_canPaint_34 : decode cX9_canPaint 34 = .ok (.aload_n 0, 1) := by decide +kernel
theorem dX9_canPaint_35 : decode cX9_canPaint 35 = .ok (.iload_n 1, 1) := by decide +kernel
theorem dX9_canPaint_36 : decode cX9_canPaint 36 = .ok (.iload 5, 2) := by decide +kernel
theorem dX9_canPaint_38 : decode cX9_canPaint 38 = .ok (.invokevirtual 186, 3) := by decide +kernel
theorem dX9_canPaint_41 : decode cX9_canPaint 41 = .ok (.ifCond .eq 14, 3) := by decide +kernel
theorem dX9_canPaint_44 : decode cX9_canPaint 44 = .ok (.aload_n 0, 1) := by decide +kernel
theorem dX9_canPaint_45 : decode cX9_canPaint 45 = .ok (.getfield 67, 3) := by decide +kernel
theorem dX9_canPaint_48 : decode cX9_canPaint 48 = .ok (.iload 5, 2) := by decide +kernel
theorem dX9_canPaint_50 : decode cX9_canPaint 50 = .ok (.iaload, 1) := by decide +kernel
theorem dX9_canPaint_51 : decode cX9_canPaint 51 = .ok (.iload_n 3, 1) := by decide +kernel
theorem dX9_canPaint_52 : decode cX9_canPaint 52 = .ok (.if_icmp .eq 7, 3) := by decide +kernel
theorem dX9_canPaint_55 : decode cX9_canPaint 55 = .ok (.iconst 1, 1) := by decide +kernel
theorem dX9_canPaint_56 : decode cX9_canPaint 56 = .ok (.goto 4, 3) := by decide +kernel
theorem dX9_canPaint_59 : decode cX9_canPaint 59 = .ok (.iconst 0, 1) := by decide +kernel
theorem dX9_canPaint_60 : decode cX9_canPaint 60 = .ok (.istore 4, 2) := by decide +kernel
theorem dX9_canPaint_62 : decode cX9_canPaint 62 = .ok (.iinc 5 1, 3) := by decide +kernel
theorem dX9_canPaint_65 : decode cX9_canPaint 65 = .ok (.goto (-42), 3) := by decide +kernel
theorem dX9_canPaint_68 : decode cX9_canPaint 68 = .ok (.aload_n 0, 1) := by decide +kernel
theorem dX9_canPaint_69 : decode cX9_canPaint 69 = .ok (.getfield 67, 3) := by decide +kernel
theorem dX9_canPaint_72 : decode cX9_canPaint 72 = .ok (.iload_n 1, 1) := by decide +kernel
theorem dX9_canPaint_73 : decode cX9_canPaint 73 = .ok (.iload_n 3, 1) := by decide +kernel
theorem dX9_canPaint_74 : decode cX9_canPaint 74 = .ok (.iastore, 1) := by decide +kernel
theorem dX9_canPaint_75 : decode cX9_canPaint 75 = .ok (.iload 4, 2) := by decide +kernel
theorem dX9_canPaint_77 : decode cX9_canPaint 77 = .ok (.ifCond .eq 16, 3) := by decide +kernel
theorem dX9_canPaint_80 : decode cX9_canPaint 80 = .ok (.aload_n 0, 1) := by decide +kernel
theorem dX9_canPaint_81 : decode cX9_canPaint 81 = .ok (.iload_n 1, 1) := by decide +kernel
theorem dX9_canPaint_82 : decode cX9_canPaint 82 = .ok (.iconst 1, 1) := by decide +kernel
theorem dX9_canPaint_83 : decode cX9_canPaint 83 = .ok (.iadd, 1) := by decide +kernel
theorem dX9_canPaint_84 : decode cX9_canPaint 84 = .ok (.iload_n 2, 1) := by decide +kernel
theorem dX9_canPaint_85 : decode cX9_canPaint 85 = .ok (.invokevirtual 259, 3) := by decide +kernel
theorem dX9_canPaint_88 : decode cX9_canPaint 88 = .ok (.ifCond .eq 5, 3) := by decide +kernel
theorem dX9_canPaint_91 : decode cX9_canPaint 91 = .ok (.iconst 1, 1) := by decide +kernel
theorem dX9_canPaint_92 : decode cX9_canPaint 92 = .ok (.ireturn, 1) := by decide +kernel
theorem dX9_canPaint_93 : decode cX9_canPaint 93 = .ok (.iinc 3 1, 3) := by decide +kernel
theorem dX9_canPaint_96 : decode cX9_canPaint 96 = .ok (.goto (-84), 3) := by decide +kernel
theorem dX9_canPaint_99 : decode cX9_canPaint 99 = .ok (.iconst 0, 1) := by decide +kernel
theorem dX9_canPaint_100 : decode cX9_canPaint 100 = .ok (.ireturn, 1) := by decide +kernel
theorem dX9_fewest_0 : decode cX9_fewest 0 = .ok (.iconst 0, 1) := by decide +kernel
theorem dX9_fewest_1 : decode cX9_fewest 1 = .ok (.istore_n 1, 1) := by decide +kernel
theorem dX9_fewest_2 : decode cX9_fewest 2 = .ok (.aload_n 0, 1) := by decide +kernel
theorem dX9_fewest_3 : decode cX9_fewest 3 = .ok (.iconst 0, 1) := by decide +kernel
theorem dX9_fewest_4 : decode cX9_fewest 4 = .ok (.iload_n 1, 1) := by decide +kernel
theorem dX9_fewest_5 : decode cX9_fewest 5 = .ok (.invokevirtual 259, 3) := by decide +kernel
theorem dX9_fewest_8 : decode cX9_fewest 8 = .ok (.ifCond .ne 9, 3) := by decide +kernel
theorem dX9_fewest_11 : decode cX9_fewest 11 = .ok (.iinc 1 1, 3) := by decide +kernel
theorem dX9_fewest_14 : decode cX9_fewest 14 = .ok (.goto (-12), 3) := by decide +kernel
theorem dX9_fewest_17 : decode cX9_fewest 17 = .ok (.iload_n 1, 1) := by decide +kernel
theorem dX9_fewest_18 : decode cX9_fewest 18 = .ok (.ireturn, 1) := by decide +kernel
theorem dX9_readsRow_0 : decode cX9_readsRow 0 = .ok (.iload_n 1, 1) := by decide +kernel
theorem dX9_readsRow_1 : decode cX9_readsRow 1 = .ok (.iconst 0, 1) := by decide +kernel
theorem dX9_readsRow_2 : decode cX9_readsRow 2 = .ok (.iconst 3, 1) := by decide +kernel
theorem dX9_readsRow_3 : decode cX9_readsRow 3 = .ok (.invokestatic 81, 3) := by decide +kernel
theorem dX9_readsRow_6 : decode cX9_readsRow 6 = .ok (.ifCond .ne 6, 3) := by decide +kernel
theorem dX9_readsRow_9 : decode cX9_readsRow 9 = .ok (.bipush (-2), 2) := by decide +kernel
theorem dX9_readsRow_11 : decode cX9_readsRow 11 = .ok (.ireturn, 1) := by decide +kernel
theorem dX9_readsRow_12 : decode cX9_readsRow 12 = .ok (.aload_n 0, 1) := by decide +kernel
theorem dX9_readsRow_13 : decode cX9_readsRow 13 = .ok (.getfield 37, 3) := by decide +kernel
theorem dX9_readsRow_16 : decode cX9_readsRow 16 = .ok (.iload_n 1, 1) := by decide +kernel
theorem dX9_readsRow_17 : decode cX9_readsRow 17 = .ok (.iaload, 1) := by decide +kernel
theorem dX9_readsRow_18 : decode cX9_readsRow 18 = .ok (.iconst (-1), 1) := by decide +kernel
theorem dX9_readsRow_19 : decode cX9_readsRow 19 = .ok (.if_icmp .ne 6, 3) := by decide +kernel
theorem dX9_readsRow_22 : decode cX9_readsRow 22 = .ok (.bipush (-11), 2) := by decide +kernel
theorem dX9_readsRow_24 : decode cX9_readsRow 24 = .ok (.ireturn, 1) := by decide +kernel
theorem dX9_readsRow_25 : decode cX9_readsRow 25 = .ok (.iconst 0, 1) := by decide +kernel
theorem dX9_readsRow_26 : decode cX9_readsRow 26 = .ok (.istore_n 3, 1) := by decide +kernel
theorem dX9_readsRow_27 : decode cX9_readsRow 27 = .ok (.aload_n 0, 1) := by decide +kernel
theorem dX9_readsRow_28 : decode cX9_readsRow 28 = .ok (.iconst 0, 1) := by decide +kernel
theorem dX9_readsRow_29 : decode cX9_readsRow 29 = .ok (.putfield 235, 3) := by decide +kernel
theorem dX9_readsRow_32 : decode cX9_readsRow 32 = .ok (.iconst 0, 1) := by decide +kernel
theorem dX9_readsRow_33 : decode cX9_readsRow 33 = .ok (.istore 4, 2) := by decide +kernel
theorem dX9_readsRow_35 : decode cX9_readsRow 35 = .ok (.iload 4, 2) := by decide +kernel
theorem dX9_readsRow_37 : decode cX9_readsRow 37 = .ok (.aload_n 0, 1) := by decide +kernel
theorem dX9_readsRow_38 : decode cX9_readsRow 38 = .ok (.getfield 40, 3) := by decide +kernel
theorem dX9_readsRow_41 : decode cX9_readsRow 41 = .ok (.iload_n 1, 1) := by decide +kernel
theorem dX9_readsRow_42 : decode cX9_readsRow 42 = .ok (.iaload, 1) := by decide +kernel
theorem dX9_readsRow_43 : decode cX9_readsRow 43 = .ok (.if_icmp .ge 82, 3) := by decide +kernel
theorem dX9_readsRow_46 : decode cX9_readsRow 46 = .ok (.aload_n 0, 1) := by decide +kernel
theorem dX9_readsRow_47 : decode cX9_readsRow 47 = .ok (.getfield 43, 3) := by decide +kernel
theorem dX9_readsRow_50 : decode cX9_readsRow 50 = .ok (.bipush 40, 2) := by decide +kernel
theorem dX9_readsRow_52 : decode cX9_readsRow 52 = .ok (.iload_n 1, 1) := by decide +kernel
theorem dX9_readsRow_53 : decode cX9_readsRow 53 = .ok (.imul, 1) := by decide +kernel
theorem dX9_readsRow_54 : decode cX9_readsRow 54 = .ok (.iload 4, 2) := by decide +kernel
theorem dX9_readsRow_56 : decode cX9_readsRow 56 = .ok (.iadd, 1) := by decide +kernel
theorem dX9_readsRow_57 : decode cX9_readsRow 57 = .ok (.iaload, 1) := by decide +kernel
theorem dX9_readsRow_58 : decode cX9_readsRow 58 = .ok (.istore 5, 2) := by decide +kernel
theorem dX9_readsRow_60 : decode cX9_readsRow 60 = .ok (.aload_n 0, 1) := by decide +kernel
theorem dX9_readsRow_61 : decode cX9_readsRow 61 = .ok (.iload 5, 2) := by decide +kernel
theorem dX9_readsRow_63 : decode cX9_readsRow 63 = .ok (.invokevirtual 85, 3) := by decide +kernel
theorem dX9_readsRow_66 : decode cX9_readsRow 66 = .ok (.ifCond .eq 22, 3) := by decide +kernel
theorem dX9_readsRow_69 : decode cX9_readsRow 69 = .ok (.iload_n 2, 1) := by decide +kernel
theorem dX9_readsRow_70 : decode cX9_readsRow 70 = .ok (.iload 5, 2) := by decide +kernel
theorem dX9_readsRow_72 : decode cX9_readsRow 72 = .ok (.ishr, 1) := by decide +kernel
theorem dX9_readsRow_73 : decode cX9_readsRow 73 = .ok (.iconst 1, 1) := by decide +kernel
theorem dX9_readsRow_74 : decode cX9_readsRow 74 = .ok (.iand, 1) := by decide +kernel
theorem dX9_readsRow_75 : decode cX9_readsRow 75 = .ok (.ifCond .eq 13, 3) := by decide +kernel
theorem dX9_readsRow_78 : decode cX9_readsRow 78 = .ok (.iload_n 3, 1) := by decide +kernel
theorem dX9_readsRow_79 : decode cX9_readsRow 79 = .ok (.iload 5, 2) := by decide +kernel
theorem dX9_readsRow_81 : decode cX9_readsRow 81 = .ok (.ishr, 1) := by decide +kernel
theorem dX9_readsRow_82 : decode cX9_readsRow 82 = .ok (.iconst 1, 1) := by decide +kernel
theorem dX9_readsRow_83 : decode cX9_readsRow 83 = .ok (.iand, 1) := by decide +kernel
theorem dX9_readsRow_84 : decode cX9_readsRow 84 = .ok (.iconst 1, 1) := by decide +kernel
theorem dX9_readsRow_85 : decode cX9_readsRow 85 = .ok (.if_icmp .ne 6, 3) := by decide +kernel
theorem dX9_readsRow_88 : decode cX9_readsRow 88 = .ok (.bipush (-2), 2) := by decide +kernel
theorem dX9_readsRow_90 : decode cX9_readsRow 90 = .ok (.ireturn, 1) := by decide +kernel
theorem dX9_readsRow_91 : decode cX9_readsRow 91 = .ok (.iload_n 3, 1) := by decide +kernel
theorem dX9_readsRow_92 : decode cX9_readsRow 92 = .ok (.iconst 1, 1) := by decide +kernel
theorem dX9_readsRow_93 : decode cX9_readsRow 93 = .ok (.iload 5, 2) := by decide +kernel
theorem dX9_readsRow_95 : decode cX9_readsRow 95 = .ok (.ishl, 1) := by decide +kernel
theorem dX9_readsRow_96 : decode cX9_readsRow 96 = .ok (.ior, 1) := by decide +kernel
theorem dX9_readsRow_97 : decode cX9_readsRow 97 = .ok (.istore_n 3, 1) := by decide +kernel
theorem dX9_readsRow_98 : decode cX9_readsRow 98 = .ok (.aload_n 0, 1) := by decide +kernel
theorem dX9_readsRow_99 : decode cX9_readsRow 99 = .ok (.getfield 64, 3) := by decide +kernel
theorem dX9_readsRow_102 : decode cX9_readsRow 102 = .ok (.aload_n 0, 1) := by decide +kernel
theorem dX9_readsRow_103 : decode cX9_readsRow 103 = .ok (.getfield 235, 3) := by decide +kernel
theorem dX9_readsRow_106 : decode cX9_readsRow 106 = .ok (.iload 5, 2) := by decide +kernel
theorem dX9_readsRow_108 : decode cX9_readsRow 108 = .ok (.iastore, 1) := by decide +kernel
theorem dX9_readsRow_109 : decode cX9_readsRow 109 = .ok (.aload_n 0, 1) := by decide +kernel
theorem dX9_readsRow_110 : decode cX9_readsRow 110 = .ok (.dup, 1) := by decide +kernel
theorem dX9_readsRow_111 : decode cX9_readsRow 111 = .ok (.getfield 235, 3) := by decide +kernel
theorem dX9_readsRow_114 : decode cX9_readsRow 114 = .ok (.iconst 1, 1) := by decide +kernel
theorem dX9_readsRow_115 : decode cX9_readsRow 115 = .ok (.iadd, 1) := by decide +kernel
theorem dX9_readsRow_116 : decode cX9_readsRow 116 = .ok (.putfield 235, 3) := by decide +kernel
theorem dX9_readsRow_119 : decode cX9_readsRow 119 = .ok (.iinc 4 1, 3) := by decide +kernel
theorem dX9_readsRow_122 : decode cX9_readsRow 122 = .ok (.goto (-87), 3) := by decide +kernel
theorem dX9_readsRow_125 : decode cX9_readsRow 125 = .ok (.iload_n 3, 1) := by decide +kernel
theorem dX9_readsRow_126 : decode cX9_readsRow 126 = .ok (.iload_n 2, 1) := by decide +kernel
theorem dX9_readsRow_127 : decode cX9_readsRow 127 = .ok (.if_icmp .ne 7, 3) := by decide +kernel
theorem dX9_readsRow_130 : decode cX9_readsRow 130 = .ok (.iconst 0, 1) := by decide +kernel
theorem dX9_readsRow_131 : decode cX9_readsRow 131 = .ok (.goto 5, 3) := by decide +kernel
theorem dX9_readsRow_134 : decode cX9_readsRow 134 = .ok (.bipush (-2), 2) := by decide +kernel
theorem dX9_readsRow_136 : decode cX9_readsRow 136 = .ok (.ireturn, 1) := by decide +kernel
theorem dX9_paints_0 : decode cX9_paints 0 = .ok (.aload_n 0, 1) := by decide +kernel
theorem dX9_paints_1 : decode cX9_paints 1 = .ok (.iload_n 1, 1) := by decide +kernel
theorem dX9_paints_2 : decode cX9_paints 2 = .ok (.aload_n 0, 1) := by decide +kernel
theorem dX9_paints_3 : decode cX9_paints 3 = .ok (.invokevirtual 244, 3) := by decide +kernel
theorem dX9_paints_6 : decode cX9_paints 6 = .ok (.invokevirtual 262, 3) := by decide +kernel
theorem dX9_paints_9 : decode cX9_paints 9 = .ok (.istore_n 3, 1) := by decide +kernel
theorem dX9_paints_10 : decode cX9_paints 10 = .ok (.iload_n 3, 1) := by decide +kernel
theorem dX9_paints_11 : decode cX9_paints 11 = .ok (.ifCond .eq 5, 3) := by decide +kernel
theorem dX9_paints_14 : decode cX9_paints 14 = .ok (.iload_n 3, 1) := by decide +kernel
theorem dX9_paints_15 : decode cX9_paints 15 = .ok (.ireturn, 1) := by decide +kernel
theorem dX9_paints_16 : decode cX9_paints 16 = .ok (.iload_n 2, 1) := by decide +kernel
theorem dX9_paints_17 : decode cX9_paints 17 = .ok (.iconst 0, 1) := by decide +kernel
theorem dX9_paints_18 : decode cX9_paints 18 = .ok (.aload_n 0, 1) := by decide +kernel
theorem dX9_paints_19 : decode cX9_paints 19 = .ok (.getfield 78, 3) := by decide +kernel
theorem dX9_paints_22 : decode cX9_paints 22 = .ok (.invokestatic 81, 3) := by decide +kernel
theorem dX9_paints_25 : decode cX9_paints 25 = .ok (.ifCond .ne 6, 3) := by decide +kernel
theorem dX9_paints_28 : decode cX9_paints 28 = .ok (.bipush (-7), 2) := by decide +kernel
theorem dX9_paints_30 : decode cX9_paints 30 = .ok (.ireturn, 1) := by decide +kernel
theorem dX9_paints_31 : decode cX9_paints 31 = .ok (.aload_n 0, 1) := by decide +kernel
theorem dX9_paints_32 : decode cX9_paints 32 = .ok (.invokevirtual 226, 3) := by decide +kernel
theorem dX9_paints_35 : decode cX9_paints 35 = .ok (.aload_n 0, 1) := by decide +kernel
theorem dX9_paints_36 : decode cX9_paints 36 = .ok (.aload_n 0, 1) := by decide +kernel
theorem dX9_paints_37 : decode cX9_paints 37 = .ok (.getfield 235, 3) := by decide +kernel
theorem dX9_paints_40 : decode cX9_paints 40 = .ok (.invokevirtual 241, 3) := by decide +kernel
theorem dX9_paints_43 : decode cX9_paints 43 = .ok (.iload_n 2, 1) := by decide +kernel
theorem dX9_paints_44 : decode cX9_paints 44 = .ok (.ifCond .ne 10, 3) := by decide +kernel
theorem dX9_paints_47 : decode cX9_paints 47 = .ok (.aload_n 0, 1) := by decide +kernel
theorem dX9_paints_48 : decode cX9_paints 48 = .ok (.invokevirtual 99, 3) := by decide +kernel
theorem dX9_paints_51 : decode cX9_paints 51 = .ok (.goto 11, 3) := by decide +kernel
theorem dX9_paints_54 : decode cX9_paints 54 = .ok (.aload_n 0, 1) := by decide +kernel
theorem dX9_paints_55 : decode cX9_paints 55 = .ok (.getfield 19, 3) := by decide +kernel
theorem dX9_paints_58 : decode cX9_paints 58 = .ok (.iload_n 2, 1) := by decide +kernel
theorem dX9_paints_59 : decode cX9_paints 59 = .ok (.iconst 1, 1) := by decide +kernel
theorem dX9_paints_60 : decode cX9_paints 60 = .ok (.isub, 1) := by decide +kernel
theorem dX9_paints_61 : decode cX9_paints 61 = .ok (.iaload, 1) := by decide +kernel
theorem dX9_paints_62 : decode cX9_paints 62 = .ok (.istore 4, 2) := by decide +kernel
theorem dX9_paints_64 : decode cX9_paints 64 = .ok (.aload_n 0, 1) := by decide +kernel
theorem dX9_paints_65 : decode cX9_paints 65 = .ok (.invokevirtual 229, 3) := by decide +kernel
theorem dX9_paints_68 : decode cX9_paints 68 = .ok (.iload 4, 2) := by decide +kernel
theorem dX9_paints_70 : decode cX9_paints 70 = .ok (.ireturn, 1) := by decide +kernel
theorem dX9_raise_0 : decode cX9_raise 0 = .ok (.aload_n 0, 1) := by decide +kernel
theorem dX9_raise_1 : decode cX9_raise 1 = .ok (.iload_n 1, 1) := by decide +kernel
theorem dX9_raise_2 : decode cX9_raise 2 = .ok (.aload_n 0, 1) := by decide +kernel
theorem dX9_raise_3 : decode cX9_raise 3 = .ok (.invokevirtual 244, 3) := by decide +kernel
theorem dX9_raise_6 : decode cX9_raise 6 = .ok (.invokevirtual 262, 3) := by decide +kernel
theorem dX9_raise_9 : decode cX9_raise 9 = .ok (.istore_n 2, 1) := by decide +kernel
theorem dX9_raise_10 : decode cX9_raise 10 = .ok (.iload_n 2, 1) := by decide +kernel
theorem dX9_raise_11 : decode cX9_raise 11 = .ok (.ifCond .eq 5, 3) := by decide +kernel
theorem dX9_raise_14 : decode cX9_raise 14 = .ok (.iload_n 2, 1) := by decide +kernel
theorem dX9_raise_15 : decode cX9_raise 15 = .ok (.ireturn, 1) := by decide +kernel
theorem dX9_raise_16 : decode cX9_raise 16 = .ok (.aload_n 0, 1) := by decide +kernel
theorem dX9_raise_17 : decode cX9_raise 17 = .ok (.aload_n 0, 1) := by decide +kernel
theorem dX9_raise_18 : decode cX9_raise 18 = .ok (.getfield 235, 3) := by decide +kernel
theorem dX9_raise_21 : decode cX9_raise 21 = .ok (.invokevirtual 241, 3) := by decide +kernel
theorem dX9_raise_24 : decode cX9_raise 24 = .ok (.aload_n 0, 1) := by decide +kernel
theorem dX9_raise_25 : decode cX9_raise 25 = .ok (.invokevirtual 99, 3) := by decide +kernel
theorem dX9_raise_28 : decode cX9_raise 28 = .ok (.ireturn, 1) := by decide +kernel
theorem dX9_worthBehind_0 : decode cX9_worthBehind 0 = .ok (.aload_n 0, 1) := by decide +kernel
theorem dX9_worthBehind_1 : decode cX9_worthBehind 1 = .ok (.invokevirtual 226, 3) := by decide +kernel
theorem dX9_worthBehind_4 : decode cX9_worthBehind 4 = .ok (.aload_n 0, 1) := by decide +kernel
theorem dX9_worthBehind_5 : decode cX9_worthBehind 5 = .ok (.iload_n 2, 1) := by decide +kernel
theorem dX9_worthBehind_6 : decode cX9_worthBehind 6 = .ok (.invokevirtual 241, 3) := by decide +kernel
theorem dX9_worthBehind_9 : decode cX9_worthBehind 9 = .ok (.aload_n 0, 1) := by decide +kernel
theorem dX9_worthBehind_10 : decode cX9_worthBehind 10 = .ok (.iload_n 1, 1) := by decide +kernel
theorem dX9_worthBehind_11 : decode cX9_worthBehind 11 = .ok (.invokevirtual 202, 3) := by decide +kernel
theorem dX9_worthBehind_14 : decode cX9_worthBehind 14 = .ok (.istore_n 3, 1) := by decide +kernel
theorem dX9_worthBehind_15 : decode cX9_worthBehind 15 = .ok (.aload_n 0, 1) := by decide +kernel
theorem dX9_worthBehind_16 : decode cX9_worthBehind 16 = .ok (.invokevirtual 229, 3) := by decide +kernel
theorem dX9_worthBehind_19 : decode cX9_worthBehind 19 = .ok (.aload_n 0, 1) := by decide +kernel
theorem dX9_worthBehind_20 : decode cX9_worthBehind 20 = .ok (.iconst 0, 1) := by decide +kernel
theorem dX9_worthBehind_21 : decode cX9_worthBehind 21 = .ok (.iload_n 1, 1) := by decide +kernel
theorem dX9_worthBehind_22 : decode cX9_worthBehind 22 = .ok (.iload_n 3, 1) := by decide +kernel
theorem dX9_worthBehind_23 : decode cX9_worthBehind 23 = .ok (.iload_n 2, 1) := by decide +kernel
theorem dX9_worthBehind_24 : decode cX9_worthBehind 24 = .ok (.invokevirtual 179, 3) := by decide +kernel
theorem dX9_worthBehind_27 : decode cX9_worthBehind 27 = .ok (.aload_n 0, 1) := by decide +kernel
theorem dX9_worthBehind_28 : decode cX9_worthBehind 28 = .ok (.iconst 1, 1) := by decide +kernel
theorem dX9_worthBehind_29 : decode cX9_worthBehind 29 = .ok (.iload_n 1, 1) := by decide +kernel
theorem dX9_worthBehind_30 : decode cX9_worthBehind 30 = .ok (.iload_n 3, 1) := by decide +kernel
theorem dX9_worthBehind_31 : decode cX9_worthBehind 31 = .ok (.iload_n 2, 1) := by decide +kernel
theorem dX9_worthBehind_32 : decode cX9_worthBehind 32 = .ok (.invokevirtual 179, 3) := by decide +kernel
theorem dX9_worthBehind_35 : decode cX9_worthBehind 35 = .ok (.isub, 1) := by decide +kernel
theorem dX9_worthBehind_36 : decode cX9_worthBehind 36 = .ok (.ireturn, 1) := by decide +kernel
theorem dX9_when_0 : decode cX9_when 0 = .ok (.aload_n 0, 1) := by decide +kernel
theorem dX9_when_1 : decode cX9_when 1 = .ok (.iload_n 1, 1) := by decide +kernel
theorem dX9_when_2 : decode cX9_when 2 = .ok (.invokevirtual 85, 3) := by decide +kernel
theorem dX9_when_5 : decode cX9_when 5 = .ok (.ifCond .ne 6, 3) := by decide +kernel
theorem dX9_when_8 : decode cX9_when 8 = .ok (.bipush (-5), 2) := by decide +kernel
theorem dX9_when_10 : decode cX9_when 10 = .ok (.ireturn, 1) := by decide +kernel
theorem dX9_when_11 : decode cX9_when 11 = .ok (.aload_n 0, 1) := by decide +kernel
theorem dX9_when_12 : decode cX9_when 12 = .ok (.iload_n 1, 1) := by decide +kernel
theorem dX9_when_13 : decode cX9_when 13 = .ok (.invokevirtual 89, 3) := by decide +kernel
theorem dX9_when_16 : decode cX9_when 16 = .ok (.ifCond .eq 6, 3) := by decide +kernel
theorem dX9_when_19 : decode cX9_when 19 = .ok (.bipush (-3), 2) := by decide +kernel
theorem dX9_when_21 : decode cX9_when 21 = .ok (.ireturn, 1) := by decide +kernel
theorem dX9_when_22 : decode cX9_when 22 = .ok (.aload_n 0, 1) := by decide +kernel
theorem dX9_when_23 : decode cX9_when 23 = .ok (.iload_n 2, 1) := by decide +kernel
theorem dX9_when_24 : decode cX9_when 24 = .ok (.aload_n 0, 1) := by decide +kernel
theorem dX9_when_25 : decode cX9_when 25 = .ok (.invokevirtual 244, 3) := by decide +kernel
theorem dX9_when_28 : decode cX9_when 28 = .ok (.iconst 1, 1) := by decide +kernel
theorem dX9_when_29 : decode cX9_when 29 = .ok (.iload_n 1, 1) := by decide +kernel
theorem dX9_when_30 : decode cX9_when 30 = .ok (.ishl, 1) := by decide +kernel
theorem dX9_when_31 : decode cX9_when 31 = .ok (.iconst (-1), 1) := by decide +kernel
theorem dX9_when_32 : decode cX9_when 32 = .ok (.ixor, 1) := by decide +kernel
theorem dX9_when_33 : decode cX9_when 33 = .ok (.iand, 1) := by decide +kernel
theorem dX9_when_34 : decode cX9_when 34 = .ok (.invokevirtual 262, 3) := by decide +kernel
theorem dX9_when_37 : decode cX9_when 37 = .ok (.istore 4, 2) := by decide +kernel
theorem dX9_when_39 : decode cX9_when 39 = .ok (.iload 4, 2) := by decide +kernel
theorem dX9_when_41 : decode cX9_when 41 = .ok (.ifCond .eq 6, 3) := by decide +kernel
theorem dX9_when_44 : decode cX9_when 44 = .ok (.iload 4, 2) := by decide +kernel
theorem dX9_when_46 : decode cX9_when 46 = .ok (.ireturn, 1) := by decide +kernel
theorem dX9_when_47 : decode cX9_when 47 = .ok (.iload_n 3, 1) := by decide +kernel
theorem dX9_when_48 : decode cX9_when 48 = .ok (.iconst 0, 1) := by decide +kernel
theorem dX9_when_49 : decode cX9_when 49 = .ok (.iconst 1, 1) := by decide +kernel
theorem dX9_when_50 : decode cX9_when 50 = .ok (.invokestatic 81, 3) := by decide +kernel
theorem dX9_when_53 : decode cX9_when 53 = .ok (.ifCond .ne 6, 3) := by decide +kernel
theorem dX9_when_56 : decode cX9_when 56 = .ok (.bipush (-7), 2) := by decide +kernel
theorem dX9_when_58 : decode cX9_when 58 = .ok (.ireturn, 1) := by decide +kernel
theorem dX9_when_59 : decode cX9_when 59 = .ok (.iconst 0, 1) := by decide +kernel
theorem dX9_when_60 : decode cX9_when 60 = .ok (.istore 5, 2) := by decide +kernel
theorem dX9_when_62 : decode cX9_when 62 = .ok (.aload_n 0, 1) := by decide +kernel
theorem dX9_when_63 : decode cX9_when 63 = .ok (.iload_n 1, 1) := by decide +kernel
theorem dX9_when_64 : decode cX9_when 64 = .ok (.iconst 0, 1) := by decide +kernel
theorem dX9_when_65 : decode cX9_when 65 = .ok (.invokevirtual 265, 3) := by decide +kernel
theorem dX9_when_68 : decode cX9_when 68 = .ok (.istore 6, 2) := by decide +kernel
theorem dX9_when_70 : decode cX9_when 70 = .ok (.iconst 1, 1) := by decide +kernel
theorem dX9_when_71 : decode cX9_when 71 = .ok (.istore 7, 2) := by decide +kernel
theorem dX9_when_73 : decode cX9_when 73 = .ok (.iload 7, 2) := by decide +kernel
theorem dX9_when_75 : decode cX9_when 75 = .ok (.aload_n 0, 1) := by decide +kernel
theorem dX9_when_76 : decode cX9_when 76 = .ok (.getfield 235, 3) := by decide +kernel
theorem dX9_when_79 : decode cX9_when 79 = .ok (.if_icmp .gt 50, 3) := by decide +kernel
theorem dX9_when_82 : decode cX9_when 82 = .ok (.aload_n 0, 1) := by decide +kernel
theorem dX9_when_83 : decode cX9_when 83 = .ok (.iload_n 1, 1) := by decide +kernel
theorem dX9_when_84 : decode cX9_when 84 = .ok (.iload 7, 2) := by decide +kernel
theorem dX9_when_86 : decode cX9_when 86 = .ok (.invokevirtual 265, 3) := by decide +kernel
theorem dX9_when_89 : decode cX9_when 89 = .ok (.istore 8, 2) := by decide +kernel
theorem dX9_when_91 : decode cX9_when 91 = .ok (.iload 8, 2) := by decide +kernel
theorem dX9_when_93 : decode cX9_when 93 = .ok (.iload 6, 2) := by decide +kernel
theorem dX9_when_95 : decode cX9_when 95 = .ok (.if_icmp .le 8, 3) := by decide +kernel
theorem dX9_when_98 : decode cX9_when 98 = .ok (.iload 7, 2) := by decide +kernel
theorem dX9_when_100 : decode cX9_when 100 = .ok (.goto 5, 3) := by decide +kernel
theorem dX9_when_103 : decode cX9_when 103 = .ok (.iload 5, 2) := by decide +kernel
theorem dX9_when_105 : decode cX9_when 105 = .ok (.istore 5, 2) := by decide +kernel
theorem dX9_when_107 : decode cX9_when 107 = .ok (.iload 8, 2) := by decide +kernel
theorem dX9_when_109 : decode cX9_when 109 = .ok (.iload 6, 2) := by decide +kernel
theorem dX9_when_111 : decode cX9_when 111 = .ok (.if_icmp .le 8, 3) := by decide +kernel
theorem dX9_when_114 : decode cX9_when 114 = .ok (.iload 8, 2) := by decide +kernel
theorem dX9_when_116 : decode cX9_when 116 = .ok (.goto 5, 3) := by decide +kernel
theorem dX9_when_119 : decode cX9_when 119 = .ok (.iload 6, 2) := by decide +kernel
theorem dX9_when_121 : decode cX9_when 121 = .ok (.istore 6, 2) := by decide +kernel
theorem dX9_when_123 : decode cX9_when 123 = .ok (.iinc 7 1, 3) := by decide +kernel
theorem dX9_when_126 : decode cX9_when 126 = .ok (.goto (-53), 3) := by decide +kernel
theorem dX9_when_129 : decode cX9_when 129 = .ok (.iload_n 3, 1) := by decide +kernel
theorem dX9_when_130 : decode cX9_when 130 = .ok (.ifCond .ne 8, 3) := by decide +kernel
theorem dX9_when_133 : decode cX9_when 133 = .ok (.iload 5, 2) := by decide +kernel
theorem dX9_when_135 : decode cX9_when 135 = .ok (.goto 5, 3) := by decide +kernel
theorem dX9_when_138 : decode cX9_when 138 = .ok (.iload 6, 2) := by decide +kernel
theorem dX9_when_140 : decode cX9_when 140 = .ok (.ireturn, 1) := by decide +kernel
theorem dX9_sortsRow_0 : decode cX9_sortsRow 0 = .ok (.iconst 1, 1) := by decide +kernel
theorem dX9_sortsRow_1 : decode cX9_sortsRow 1 = .ok (.istore_n 2, 1) := by decide +kernel
theorem dX9_sortsRow_2 : decode cX9_sortsRow 2 = .ok (.iload_n 2, 1) := by decide +kernel
theorem dX9_sortsRow_3 : decode cX9_sortsRow 3 = .ok (.aload_n 0, 1) := by decide +kernel
theorem dX9_sortsRow_4 : decode cX9_sortsRow 4 = .ok (.getfield 235, 3) := by decide +kernel
theorem dX9_sortsRow_7 : decode cX9_sortsRow 7 = .ok (.if_icmp .ge 85, 3) := by decide +kernel
theorem dX9_sortsRow_10 : decode cX9_sortsRow 10 = .ok (.iload_n 2, 1) := by decide +kernel
theorem dX9_sortsRow_11 : decode cX9_sortsRow 11 = .ok (.istore_n 3, 1) := by decide +kernel
theorem dX9_sortsRow_12 : decode cX9_sortsRow 12 = .ok (.iload_n 3, 1) := by decide +kernel
theorem dX9_sortsRow_13 : decode cX9_sortsRow 13 = .ok (.ifCond .le 73, 3) := by decide +kernel
theorem dX9_sortsRow_16 : decode cX9_sortsRow 16 = .ok (.aload_n 0, 1) := by decide +kernel
theorem dX9_sortsRow_17 : decode cX9_sortsRow 17 = .ok (.getfield 16, 3) := by decide +kernel
theorem dX9_sortsRow_20 : decode cX9_sortsRow 20 = .ok (.aload_n 0, 1) := by decide +kernel
theorem dX9_sortsRow_21 : decode cX9_sortsRow 21 = .ok (.getfield 64, 3) := by decide +kernel
theorem dX9_sortsRow_24 : decode cX9_sortsRow 24 = .ok (.iload_n 3, 1) := by decide +kernel
theorem dX9_sortsRow_25 : decode cX9_sortsRow 25 = .ok (.iconst 1, 1) := by decide +kernel
theorem dX9_sortsRow_26 : decode cX9_sortsRow 26 = .ok (.isub, 1) := by decide +kernel
theorem dX9_sortsRow_27 : decode cX9_sortsRow 27 = .ok (.iaload, 1) := by decide +kernel
theorem dX9_sortsRow_28 : decode cX9_sortsRow 28 = .ok (.iaload, 1) := by decide +kernel
theorem dX9_sortsRow_29 : decode cX9_sortsRow 29 = .ok (.invokestatic 92, 3) := by decide +kernel
theorem dX9_sortsRow_32 : decode cX9_sortsRow 32 = .ok (.istore 4, 2) := by decide +kernel
theorem dX9_sortsRow_34 : decode cX9_sortsRow 34 = .ok (.aload_n 0, 1) := by decide +kernel
theorem dX9_sortsRow_35 : decode cX9_sortsRow 35 = .ok (.getfield 16, 3) := by decide +kernel
theorem dX9_sortsRow_38 : decode cX9_sortsRow 38 = .ok (.aload_n 0, 1) := by decide +kernel
theorem dX9_sortsRow_39 : decode cX9_sortsRow 39 = .ok (.getfield 64, 3) := by decide +kernel
theorem dX9_sortsRow_42 : decode cX9_sortsRow 42 = .ok (.iload_n 3, 1) := by decide +kernel
theorem dX9_sortsRow_43 : decode cX9_sortsRow 43 = .ok (.iaload, 1) := by decide +kernel
theorem dX9_sortsRow_44 : decode cX9_sortsRow 44 = .ok (.iaload, 1) := by decide +kernel
theorem dX9_sortsRow_45 : decode cX9_sortsRow 45 = .ok (.invokestatic 92, 3) := by decide +kernel
theorem dX9_sortsRow_48 : decode cX9_sortsRow 48 = .ok (.istore 5, 2) := by decide +kernel
theorem dX9_sortsRow_50 : decode cX9_sortsRow 50 = .ok (.iload_n 1, 1) := by decide +kernel
theorem dX9_sortsRow_51 : decode cX9_sortsRow 51 = .ok (.iconst 1, 1) := by decide +kernel
theorem dX9_sortsRow_52 : decode cX9_sortsRow 52 = .ok (.if_icmp .ne 13, 3) := by decide +kernel
theorem dX9_sortsRow_55 : decode cX9_sortsRow 55 = .ok (.iload 5, 2) := by decide +kernel
theorem dX9_sortsRow_57 : decode cX9_sortsRow 57 = .ok (.iload 4, 2) := by decide +kernel
theorem dX9_sortsRow_59 : decode cX9_sortsRow 59 = .ok (.if_icmp .le 21, 3) := by decide +kernel
theorem dX9_sortsRow_62 : decode cX9_sortsRow 62 = .ok (.goto 10, 3) := by decide +kernel
theorem dX9_sortsRow_65 : decode cX9_sortsRow 65 = .ok (.iload 5, 2) := by decide +kernel
theorem dX9_sortsRow_67 : decode cX9_sortsRow 67 = .ok (.iload 4, 2) := by decide +kernel
theorem dX9_sortsRow_69 : decode cX9_sortsRow 69 = .ok (.if_icmp .ge 11, 3) := by decide +kernel
theorem dX9_sortsRow_72 : decode cX9_sortsRow 72 = .ok (.aload_n 0, 1) := by decide +kernel
theorem dX9_sortsRow_73 : decode cX9_sortsRow 73 = .ok (.iload_n 3, 1) := by decide +kernel
theorem dX9_sortsRow_74 : decode cX9_sortsRow 74 = .ok (.iconst 1, 1) := by decide +kernel
theorem dX9_sortsRow_75 : decode cX9_sortsRow 75 = .ok (.isub, 1) := by decide +kernel
theorem dX9_sortsRow_76 : decode cX9_sortsRow 76 = .ok (.iload_n 3, 1) := by decide +kernel
theorem dX9_sortsRow_77 : decode cX9_sortsRow 77 = .ok (.invokevirtual 238, 3) := by decide +kernel
theorem dX9_sortsRow_80 : decode cX9_sortsRow 80 = .ok (.iinc 3 (-1), 3) := by decide +kernel
theorem dX9_sortsRow_83 : decode cX9_sortsRow 83 = .ok (.goto (-71), 3) := by decide +kernel
theorem dX9_sortsRow_86 : decode cX9_sortsRow 86 = .ok (.iinc 2 1, 3) := by decide +kernel
theorem dX9_sortsRow_89 : decode cX9_sortsRow 89 = .ok (.goto (-87), 3) := by decide +kernel
theorem dX9_sortsRow_92 : decode cX9_sortsRow 92 = .ok (.return_, 1) := by decide +kernel
theorem dX9_rule_0 : decode cX9_rule 0 = .ok (.iload_n 1, 1) := by decide +kernel
theorem dX9_rule_1 : decode cX9_rule 1 = .ok (.iconst 0, 1) := by decide +kernel
theorem dX9_rule_2 : decode cX9_rule 2 = .ok (.iconst 2, 1) := by decide +kernel
theorem dX9_rule_3 : decode cX9_rule 3 = .ok (.invokestatic 81, 3) := by decide +kernel
theorem dX9_rule_6 : decode cX9_rule 6 = .ok (.ifCond .eq 12, 3) := by decide +kernel
theorem dX9_rule_9 : decode cX9_rule 9 = .ok (.iload_n 2, 1) := by decide +kernel
theorem dX9_rule_10 : decode cX9_rule 10 = .ok (.iconst 0, 1) := by decide +kernel
theorem dX9_rule_11 : decode cX9_rule 11 = .ok (.iconst 1, 1) := by decide +kernel
theorem dX9_rule_12 : decode cX9_rule 12 = .ok (.invokestatic 81, 3) := by decide +kernel
theorem dX9_rule_15 : decode cX9_rule 15 = .ok (.ifCond .ne 6, 3) := by decide +kernel
theorem dX9_rule_18 : decode cX9_rule 18 = .ok (.bipush (-2), 2) := by decide +kernel
theorem dX9_rule_20 : decode cX9_rule 20 = .ok (.ireturn, 1) := by decide +kernel
theorem dX9_rule_21 : decode cX9_rule 21 = .ok (.aload_n 0, 1) := by decide +kernel
theorem dX9_rule_22 : decode cX9_rule 22 = .ok (.aload_n 0, 1) := by decide +kernel
theorem dX9_rule_23 : decode cX9_rule 23 = .ok (.invokevirtual 244, 3) := by decide +kernel
theorem dX9_rule_26 : decode cX9_rule 26 = .ok (.invokevirtual 247, 3) := by decide +kernel
theorem dX9_rule_29 : decode cX9_rule 29 = .ok (.iload_n 1, 1) := by decide +kernel
theorem dX9_rule_30 : decode cX9_rule 30 = .ok (.ifCond .le 8, 3) := by decide +kernel
theorem dX9_rule_33 : decode cX9_rule 33 = .ok (.aload_n 0, 1) := by decide +kernel
theorem dX9_rule_34 : decode cX9_rule 34 = .ok (.iload_n 1, 1) := by decide +kernel
theorem dX9_rule_35 : decode cX9_rule 35 = .ok (.invokevirtual 268, 3) := by decide +kernel
theorem dX9_rule_38 : decode cX9_rule 38 = .ok (.iload_n 2, 1) := by decide +kernel
theorem dX9_rule_39 : decode cX9_rule 39 = .ok (.ifCond .ne 10, 3) := by decide +kernel
theorem dX9_rule_42 : decode cX9_rule 42 = .ok (.aload_n 0, 1) := by decide +kernel
theorem dX9_rule_43 : decode cX9_rule 43 = .ok (.invokevirtual 250, 3) := by decide +kernel
theorem dX9_rule_46 : decode cX9_rule 46 = .ok (.goto 7, 3) := by decide +kernel
theorem dX9_rule_49 : decode cX9_rule 49 = .ok (.aload_n 0, 1) := by decide +kernel
theorem dX9_rule_50 : decode cX9_rule 50 = .ok (.invokevirtual 253, 3) := by decide +kernel
theorem dX9_rule_53 : decode cX9_rule 53 = .ok (.ireturn, 1) := by decide +kernel
theorem dX9_placeOf_0 : decode cX9_placeOf 0 = .ok (.iconst 0, 1) := by decide +kernel
theorem dX9_placeOf_1 : decode cX9_placeOf 1 = .ok (.istore_n 2, 1) := by decide +kernel
theorem dX9_placeOf_2 : decode cX9_placeOf 2 = .ok (.aload_n 0, 1) := by decide +kernel
theorem dX9_placeOf_3 : decode cX9_placeOf 3 = .ok (.getfield 64, 3) := by decide +kernel
theorem dX9_placeOf_6 : decode cX9_placeOf 6 = .ok (.iload_n 2, 1) := by decide +kernel
theorem dX9_placeOf_7 : decode cX9_placeOf 7 = .ok (.iaload, 1) := by decide +kernel
theorem dX9_placeOf_8 : decode cX9_placeOf 8 = .ok (.iload_n 1, 1) := by decide +kernel
theorem dX9_placeOf_9 : decode cX9_placeOf 9 = .ok (.if_icmp .eq 9, 3) := by decide +kernel
theorem dX9_placeOf_12 : decode cX9_placeOf 12 = .ok (.iinc 2 1, 3) := by decide +kernel
theorem dX9_placeOf_15 : decode cX9_placeOf 15 = .ok (.goto (-13), 3) := by decide +kernel
theorem dX9_placeOf_18 : decode cX9_placeOf 18 = .ok (.iload_n 2, 1) := by decide +kernel
theorem dX9_placeOf_19 : decode cX9_placeOf 19 = .ok (.ireturn, 1) := by decide +kernel
theorem dX9_worthInRow_0 : decode cX9_worthInRow 0 = .ok (.aload_n 0, 1) := by decide +kernel
theorem dX9_worthInRow_1 : decode cX9_worthInRow 1 = .ok (.iload_n 1, 1) := by decide +kernel
theorem dX9_worthInRow_2 : decode cX9_worthInRow 2 = .ok (.invokevirtual 271, 3) := by decide +kernel
theorem dX9_worthInRow_5 : decode cX9_worthInRow 5 = .ok (.istore_n 2, 1) := by decide +kernel
theorem dX9_worthInRow_6 : decode cX9_worthInRow 6 = .ok (.aload_n 0, 1) := by decide +kernel
theorem dX9_worthInRow_7 : decode cX9_worthInRow 7 = .ok (.invokevirtual 226, 3) := by decide +kernel
theorem dX9_worthInRow_10 : decode cX9_worthInRow 10 = .ok (.aload_n 0, 1) := by decide +kernel
theorem dX9_worthInRow_11 : decode cX9_worthInRow 11 = .ok (.iload_n 2, 1) := by decide +kernel
theorem dX9_worthInRow_12 : decode cX9_worthInRow 12 = .ok (.invokevirtual 241, 3) := by decide +kernel
theorem dX9_worthInRow_15 : decode cX9_worthInRow 15 = .ok (.aload_n 0, 1) := by decide +kernel
theorem dX9_worthInRow_16 : decode cX9_worthInRow 16 = .ok (.iload_n 1, 1) := by decide +kernel
theorem dX9_worthInRow_17 : decode cX9_worthInRow 17 = .ok (.invokevirtual 202, 3) := by decide +kernel
theorem dX9_worthInRow_20 : decode cX9_worthInRow 20 = .ok (.istore_n 3, 1) := by decide +kernel
theorem dX9_worthInRow_21 : decode cX9_worthInRow 21 = .ok (.aload_n 0, 1) := by decide +kernel
theorem dX9_worthInRow_22 : decode cX9_worthInRow 22 = .ok (.invokevirtual 229, 3) := by decide +kernel
theorem dX9_worthInRow_25 : decode cX9_worthInRow 25 = .ok (.aload_n 0, 1) := by decide +kernel
theorem dX9_worthInRow_26 : decode cX9_worthInRow 26 = .ok (.iconst 0, 1) := by decide +kernel
theorem dX9_worthInRow_27 : decode cX9_worthInRow 27 = .ok (.iload_n 1, 1) := by decide +kernel
theorem dX9_worthInRow_28 : decode cX9_worthInRow 28 = .ok (.iload_n 3, 1) := by decide +kernel
theorem dX9_worthInRow_29 : decode cX9_worthInRow 29 = .ok (.iload_n 2, 1) := by decide +kernel
theorem dX9_worthInRow_30 : decode cX9_worthInRow 30 = .ok (.invokevirtual 179, 3) := by decide +kernel
theorem dX9_worthInRow_33 : decode cX9_worthInRow 33 = .ok (.ireturn, 1) := by decide +kernel
theorem dX9_ahead_0 : decode cX9_ahead 0 = .ok (.aload_n 0, 1) := by decide +kernel
theorem dX9_ahead_1 : decode cX9_ahead 1 = .ok (.iload_n 1, 1) := by decide +kernel
theorem dX9_ahead_2 : decode cX9_ahead 2 = .ok (.iload_n 2, 1) := by decide +kernel
theorem dX9_ahead_3 : decode cX9_ahead 3 = .ok (.invokevirtual 220, 3) := by decide +kernel
theorem dX9_ahead_6 : decode cX9_ahead 6 = .ok (.ifCond .eq 19, 3) := by decide +kernel
theorem dX9_ahead_9 : decode cX9_ahead 9 = .ok (.aload_n 0, 1) := by decide +kernel
theorem dX9_ahead_10 : decode cX9_ahead 10 = .ok (.iload_n 1, 1) := by decide +kernel
theorem dX9_ahead_11 : decode cX9_ahead 11 = .ok (.invokevirtual 89, 3) := by decide +kernel
theorem dX9_ahead_14 : decode cX9_ahead 14 = .ok (.ifCond .ne 11, 3) := by decide +kernel
theorem dX9_ahead_17 : decode cX9_ahead 17 = .ok (.aload_n 0, 1) := by decide +kernel
theorem dX9_ahead_18 : decode cX9_ahead 18 = .ok (.iload_n 2, 1) := by decide +kernel
theorem dX9_ahead_19 : decode cX9_ahead 19 = .ok (.invokevirtual 89, 3) := by decide +kernel
theorem dX9_ahead_22 : decode cX9_ahead 22 = .ok (.ifCond .eq 7, 3) := by decide +kernel
theorem dX9_ahead_25 : decode cX9_ahead 25 = .ok (.ldc_w 274, 3) := by decide +kernel
theorem dX9_ahead_28 : decode cX9_ahead 28 = .ok (.ireturn, 1) := by decide +kernel
theorem dX9_ahead_29 : decode cX9_ahead 29 = .ok (.aload_n 0, 1) := by decide +kernel
theorem dX9_ahead_30 : decode cX9_ahead 30 = .ok (.aload_n 0, 1) := by decide +kernel
theorem dX9_ahead_31 : decode cX9_ahead 31 = .ok (.invokevirtual 244, 3) := by decide +kernel
theorem dX9_ahead_34 : decode cX9_ahead 34 = .ok (.invokevirtual 247, 3) := by decide +kernel
theorem dX9_ahead_37 : decode cX9_ahead 37 = .ok (.aload_n 0, 1) := by decide +kernel
theorem dX9_ahead_38 : decode cX9_ahead 38 = .ok (.iload_n 1, 1) := by decide +kernel
theorem dX9_ahead_39 : decode cX9_ahead 39 = .ok (.invokevirtual 275, 3) := by decide +kernel
theorem dX9_ahead_42 : decode cX9_ahead 42 = .ok (.istore_n 3, 1) := by decide +kernel
theorem dX9_ahead_43 : decode cX9_ahead 43 = .ok (.aload_n 0, 1) := by decide +kernel
theorem dX9_ahead_44 : decode cX9_ahead 44 = .ok (.aload_n 0, 1) := by decide +kernel
theorem dX9_ahead_45 : decode cX9_ahead 45 = .ok (.iload_n 1, 1) := by decide +kernel
theorem dX9_ahead_46 : decode cX9_ahead 46 = .ok (.invokevirtual 271, 3) := by decide +kernel
theorem dX9_ahead_49 : decode cX9_ahead 49 = .ok (.aload_n 0, 1) := by decide +kernel
theorem dX9_ahead_50 : decode cX9_ahead 50 = .ok (.iload_n 2, 1) := by decide +kernel
theorem dX9_ahead_51 : decode cX9_ahead 51 = .ok (.invokevirtual 271, 3) := by decide +kernel
theorem dX9_ahead_54 : decode cX9_ahead 54 = .ok (.invokevirtual 238, 3) := by decide +kernel
theorem dX9_ahead_57 : decode cX9_ahead 57 = .ok (.aload_n 0, 1) := by decide +kernel
theorem dX9_ahead_58 : decode cX9_ahead 58 = .ok (.iload_n 1, 1) := by decide +kernel
theorem dX9_ahead_59 : decode cX9_ahead 59 = .ok (.invokevirtual 275, 3) := by decide +kernel
theorem dX9_ahead_62 : decode cX9_ahead 62 = .ok (.iload_n 3, 1) := by decide +kernel
theorem dX9_ahead_63 : decode cX9_ahead 63 = .ok (.isub, 1) := by decide +kernel
theorem dX9_ahead_64 : decode cX9_ahead 64 = .ok (.ireturn, 1) := by decide +kernel
theorem dX9_fitsRow_0 : decode cX9_fitsRow 0 = .ok (.iconst 1, 1) := by decide +kernel
theorem dX9_fitsRow_1 : decode cX9_fitsRow 1 = .ok (.istore_n 2, 1) := by decide +kernel
theorem dX9_fitsRow_2 : decode cX9_fitsRow 2 = .ok (.aload_n 0, 1) := by decide +kernel
theorem dX9_fitsRow_3 : decode cX9_fitsRow 3 = .ok (.invokevirtual 226, 3) := by decide +kernel
theorem dX9_fitsRow_6 : decode cX9_fitsRow 6 = .ok (.iconst 0, 1) := by decide +kernel
theorem dX9_fitsRow_7 : decode cX9_fitsRow 7 = .ok (.istore_n 3, 1) := by decide +kernel
theorem dX9_fitsRow_8 : decode cX9_fitsRow 8 = .ok (.iload_n 3, 1) := by decide +kernel
theorem dX9_fitsRow_9 : decode cX9_fitsRow 9 = .ok (.aload_n 0, 1) := by decide +kernel
theorem dX9_fitsRow_10 : decode cX9_fitsRow 10 = .ok (.getfield 78, 3) := by decide +kernel
theorem dX9_fitsRow_13 : decode cX9_fitsRow 13 = .ok (.if_icmp .ge 16, 3) := by decide +kernel
theorem dX9_fitsRow_16 : decode cX9_fitsRow 16 = .ok (.aload_n 0, 1) := by decide +kernel
theorem dX9_fitsRow_17 : decode cX9_fitsRow 17 = .ok (.getfield 19, 3) := by decide +kernel
theorem dX9_fitsRow_20 : decode cX9_fitsRow 20 = .ok (.iload_n 3, 1) := by decide +kernel
theorem dX9_fitsRow_21 : decode cX9_fitsRow 21 = .ok (.iconst (-1), 1) := by decide +kernel
theorem dX9_fitsRow_22 : decode cX9_fitsRow 22 = .ok (.iastore, 1) := by decide +kernel
theorem dX9_fitsRow_23 : decode cX9_fitsRow 23 = .ok (.iinc 3 1, 3) := by decide +kernel
theorem dX9_fitsRow_26 : decode cX9_fitsRow 26 = .ok (.goto (-18), 3) := by decide +kernel
theorem dX9_fitsRow_29 : decode cX9_fitsRow 29 = .ok (.iconst 0, 1) := by decide +kernel
theorem dX9_fitsRow_30 : decode cX9_fitsRow 30 = .ok (.istore_n 3, 1) := by decide +kernel
theorem dX9_fitsRow_31 : decode cX9_fitsRow 31 = .ok (.iload_n 3, 1) := by decide +kernel
theorem dX9_fitsRow_32 : decode cX9_fitsRow 32 = .ok (.aload_n 0, 1) := by decide +kernel
theorem dX9_fitsRow_33 : decode cX9_fitsRow 33 = .ok (.getfield 235, 3) := by decide +kernel
theorem dX9_fitsRow_36 : decode cX9_fitsRow 36 = .ok (.if_icmp .ge 75, 3) := by decide +kernel
theorem dX9_fitsRow_39 : decode cX9_fitsRow 39 = .ok (.iload_n 2, 1) := by decide +kernel
theorem dX9_fitsRow_40 : decode cX9_fitsRow 40 = .ok (.ifCond .eq 71, 3) := by decide +kernel
theorem dX9_fitsRow_43 : decode cX9_fitsRow 43 = .ok (.aload_n 0, 1) := by decide +kernel
theorem dX9_fitsRow_44 : decode cX9_fitsRow 44 = .ok (.getfield 64, 3) := by decide +kernel
theorem dX9_fitsRow_47 : decode cX9_fitsRow 47 = .ok (.iload_n 3, 1) := by decide +kernel
theorem dX9_fitsRow_48 : decode cX9_fitsRow 48 = .ok (.iaload, 1) := by decide +kernel
theorem dX9_fitsRow_49 : decode cX9_fitsRow 49 = .ok (.iload_n 1, 1) := by decide +kernel
theorem dX9_fitsRow_50 : decode cX9_fitsRow 50 = .ok (.if_icmp .eq 27, 3) := by decide +kernel
theorem dX9_fitsRow_53 : decode cX9_fitsRow 53 = .ok (.aload_n 0, 1) := by decide +kernel
theorem dX9_fitsRow_54 : decode cX9_fitsRow 54 = .ok (.aload_n 0, 1) := by decide +kernel
theorem dX9_fitsRow_55 : decode cX9_fitsRow 55 = .ok (.getfield 64, 3) := by decide +kernel
theorem dX9_fitsRow_58 : decode cX9_fitsRow 58 = .ok (.iload_n 3, 1) := by decide +kernel
theorem dX9_fitsRow_59 : decode cX9_fitsRow 59 = .ok (.iaload, 1) := by decide +kernel
theorem dX9_fitsRow_60 : decode cX9_fitsRow 60 = .ok (.invokevirtual 202, 3) := by decide +kernel
theorem dX9_fitsRow_63 : decode cX9_fitsRow 63 = .ok (.aload_n 0, 1) := by decide +kernel
theorem dX9_fitsRow_64 : decode cX9_fitsRow 64 = .ok (.getfield 61, 3) := by decide +kernel
theorem dX9_fitsRow_67 : decode cX9_fitsRow 67 = .ok (.aload_n 0, 1) := by decide +kernel
theorem dX9_fitsRow_68 : decode cX9_fitsRow 68 = .ok (.getfield 64, 3) := by decide +kernel
theorem dX9_fitsRow_71 : decode cX9_fitsRow 71 = .ok (.iload_n 3, 1) := by decide +kernel
theorem dX9_fitsRow_72 : decode cX9_fitsRow 72 = .ok (.iaload, 1) := by decide +kernel
theorem dX9_fitsRow_73 : decode cX9_fitsRow 73 = .ok (.iaload, 1) := by decide +kernel
theorem dX9_fitsRow_74 : decode cX9_fitsRow 74 = .ok (.if_icmp .ne 7, 3) := by decide +kernel
theorem dX9_fitsRow_77 : decode cX9_fitsRow 77 = .ok (.iconst 1, 1) := by decide +kernel
theorem dX9_fitsRow_78 : decode cX9_fitsRow 78 = .ok (.goto 4, 3) := by decide +kernel
theorem dX9_fitsRow_81 : decode cX9_fitsRow 81 = .ok (.iconst 0, 1) := by decide +kernel
theorem dX9_fitsRow_82 : decode cX9_fitsRow 82 = .ok (.istore_n 2, 1) := by decide +kernel
theorem dX9_fitsRow_83 : decode cX9_fitsRow 83 = .ok (.aload_n 0, 1) := by decide +kernel
theorem dX9_fitsRow_84 : decode cX9_fitsRow 84 = .ok (.getfield 19, 3) := by decide +kernel
theorem dX9_fitsRow_87 : decode cX9_fitsRow 87 = .ok (.aload_n 0, 1) := by decide +kernel
theorem dX9_fitsRow_88 : decode cX9_fitsRow 88 = .ok (.getfield 64, 3) := by decide +kernel
theorem dX9_fitsRow_91 : decode cX9_fitsRow 91 = .ok (.iload_n 3, 1) := by decide +kernel
theorem dX9_fitsRow_92 : decode cX9_fitsRow 92 = .ok (.iaload, 1) := by decide +kernel
theorem dX9_fitsRow_93 : decode cX9_fitsRow 93 = .ok (.aload_n 0, 1) := by decide +kernel
theorem dX9_fitsRow_94 : decode cX9_fitsRow 94 = .ok (.getfield 61, 3) := by decide +kernel
theorem dX9_fitsRow_97 : decode cX9_fitsRow 97 = .ok (.aload_n 0, 1) := by decide +kernel
theorem dX9_fitsRow_98 : decode cX9_fitsRow 98 = .ok (.getfield 64, 3) := by decide +kernel
theorem dX9_fitsRow_101 : decode cX9_fitsRow 101 = .ok (.iload_n 3, 1) := by decide +kernel
theorem dX9_fitsRow_102 : decode cX9_fitsRow 102 = .ok (.iaload, 1) := by decide +kernel
theorem dX9_fitsRow_103 : decode cX9_fitsRow 103 = .ok (.iaload, 1) := by decide +kernel
theorem dX9_fitsRow_104 : decode cX9_fitsRow 104 = .ok (.iastore, 1) := by decide +kernel
theorem dX9_fitsRow_105 : decode cX9_fitsRow 105 = .ok (.iinc 3 1, 3) := by decide +kernel
theorem dX9_fitsRow_108 : decode cX9_fitsRow 108 = .ok (.goto (-77), 3) := by decide +kernel
theorem dX9_fitsRow_111 : decode cX9_fitsRow 111 = .ok (.aload_n 0, 1) := by decide +kernel
theorem dX9_fitsRow_112 : decode cX9_fitsRow 112 = .ok (.invokevirtual 229, 3) := by decide +kernel
theorem dX9_fitsRow_115 : decode cX9_fitsRow 115 = .ok (.iload_n 2, 1) := by decide +kernel
theorem dX9_fitsRow_116 : decode cX9_fitsRow 116 = .ok (.ireturn, 1) := by decide +kernel
theorem dX9_fittingRows_0 : decode cX9_fittingRows 0 = .ok (.aload_n 0, 1) := by decide +kernel
theorem dX9_fittingRows_1 : decode cX9_fittingRows 1 = .ok (.aload_n 0, 1) := by decide +kernel
theorem dX9_fittingRows_2 : decode cX9_fittingRows 2 = .ok (.invokevirtual 96, 3) := by decide +kernel
theorem dX9_fittingRows_5 : decode cX9_fittingRows 5 = .ok (.invokevirtual 247, 3) := by decide +kernel
theorem dX9_fittingRows_8 : decode cX9_fittingRows 8 = .ok (.iconst 0, 1) := by decide +kernel
theorem dX9_fittingRows_9 : decode cX9_fittingRows 9 = .ok (.istore_n 2, 1) := by decide +kernel
theorem dX9_fittingRows_10 : decode cX9_fittingRows 10 = .ok (.aload_n 0, 1) := by decide +kernel
theorem dX9_fittingRows_11 : decode cX9_fittingRows 11 = .ok (.iconst (-1), 1) := by decide +kernel
theorem dX9_fittingRows_12 : decode cX9_fittingRows 12 = .ok (.putfield 278, 3) := by decide +kernel
theorem dX9_fittingRows_15 : decode cX9_fittingRows 15 = .ok (.iconst 1, 1) := by decide +kernel
theorem dX9_fittingRows_16 : decode cX9_fittingRows 16 = .ok (.istore_n 3, 1) := by decide +kernel
theorem dX9_fittingRows_17 : decode cX9_fittingRows 17 = .ok (.iload_n 3, 1) := by decide +kernel
theorem dX9_fittingRows_18 : decode cX9_fittingRows 18 = .ok (.ifCond .eq 41, 3) := by decide +kernel
theorem dX9_fittingRows_21 : decode cX9_fittingRows 21 = .ok (.aload_n 0, 1) := by decide +kernel
theorem dX9_fittingRows_22 : decode cX9_fittingRows 22 = .ok (.iload_n 1, 1) := by decide +kernel
theorem dX9_fittingRows_23 : decode cX9_fittingRows 23 = .ok (.invokevirtual 281, 3) := by decide +kernel
theorem dX9_fittingRows_26 : decode cX9_fittingRows 26 = .ok (.ifCond .eq 25, 3) := by decide +kernel
theorem dX9_fittingRows_29 : decode cX9_fittingRows 29 = .ok (.aload_n 0, 1) := by decide +kernel
theorem dX9_fittingRows_30 : decode cX9_fittingRows 30 = .ok (.iload_n 2, 1) := by decide +kernel
theorem dX9_fittingRows_31 : decode cX9_fittingRows 31 = .ok (.ifCond .ne 10, 3) := by decide +kernel
theorem dX9_fittingRows_34 : decode cX9_fittingRows 34 = .ok (.aload_n 0, 1) := by decide +kernel
theorem dX9_fittingRows_35 : decode cX9_fittingRows 35 = .ok (.invokevirtual 253, 3) := by decide +kernel
theorem dX9_fittingRows_38 : decode cX9_fittingRows 38 = .ok (.goto 7, 3) := by decide +kernel
theorem dX9_fittingRows_41 : decode cX9_fittingRows 41 = .ok (.aload_n 0, 1) := by decide +kernel
theorem dX9_fittingRows_42 : decode cX9_fittingRows 42 = .ok (.getfield 278, 3) := by decide +kernel
theorem dX9_fittingRows_45 : decode cX9_fittingRows 45 = .ok (.putfield 278, 3) := by decide +kernel
theorem dX9_fittingRows_48 : decode cX9_fittingRows 48 = .ok (.iinc 2 1, 3) := by decide +kernel
theorem dX9_fittingRows_51 : decode cX9_fittingRows 51 = .ok (.aload_n 0, 1) := by decide +kernel
theorem dX9_fittingRows_52 : decode cX9_fittingRows 52 = .ok (.invokevirtual 256, 3) := by decide +kernel
theorem dX9_fittingRows_55 : decode cX9_fittingRows 55 = .ok (.istore_n 3, 1) := by decide +kernel
theorem dX9_fittingRows_56 : decode cX9_fittingRows 56 = .ok (.goto (-39), 3) := by decide +kernel
theorem dX9_fittingRows_59 : decode cX9_fittingRows 59 = .ok (.iload_n 2, 1) := by decide +kernel
theorem dX9_fittingRows_60 : decode cX9_fittingRows 60 = .ok (.ireturn, 1) := by decide +kernel
theorem dX9_built_0 : decode cX9_built 0 = .ok (.iload_n 1, 1) := by decide +kernel
theorem dX9_built_1 : decode cX9_built 1 = .ok (.iconst 0, 1) := by decide +kernel
theorem dX9_built_2 : decode cX9_built 2 = .ok (.iconst 1, 1) := by decide +kernel
theorem dX9_built_3 : decode cX9_built 3 = .ok (.invokestatic 81, 3) := by decide +kernel
theorem dX9_built_6 : decode cX9_built 6 = .ok (.ifCond .ne 6, 3) := by decide +kernel
theorem dX9_built_9 : decode cX9_built 9 = .ok (.bipush (-2), 2) := by decide +kernel
theorem dX9_built_11 : decode cX9_built 11 = .ok (.ireturn, 1) := by decide +kernel
theorem dX9_built_12 : decode cX9_built 12 = .ok (.aload_n 0, 1) := by decide +kernel
theorem dX9_built_13 : decode cX9_built 13 = .ok (.iconst (-1), 1) := by decide +kernel
theorem dX9_built_14 : decode cX9_built 14 = .ok (.invokevirtual 284, 3) := by decide +kernel
theorem dX9_built_17 : decode cX9_built 17 = .ok (.istore_n 2, 1) := by decide +kernel
theorem dX9_built_18 : decode cX9_built 18 = .ok (.iload_n 1, 1) := by decide +kernel
theorem dX9_built_19 : decode cX9_built 19 = .ok (.ifCond .ne 7, 3) := by decide +kernel
theorem dX9_built_22 : decode cX9_built 22 = .ok (.iload_n 2, 1) := by decide +kernel
theorem dX9_built_23 : decode cX9_built 23 = .ok (.goto 7, 3) := by decide +kernel
theorem dX9_built_26 : decode cX9_built 26 = .ok (.aload_n 0, 1) := by decide +kernel
theorem dX9_built_27 : decode cX9_built 27 = .ok (.getfield 278, 3) := by decide +kernel
theorem dX9_built_30 : decode cX9_built 30 = .ok (.ireturn, 1) := by decide +kernel
theorem dX9_blame_0 : decode cX9_blame 0 = .ok (.iconst 0, 1) := by decide +kernel
theorem dX9_blame_1 : decode cX9_blame 1 = .ok (.istore_n 1, 1) := by decide +kernel
theorem dX9_blame_2 : decode cX9_blame 2 = .ok (.aload_n 0, 1) := by decide +kernel
theorem dX9_blame_3 : decode cX9_blame 3 = .ok (.iconst (-1), 1) := by decide +kernel
theorem dX9_blame_4 : decode cX9_blame 4 = .ok (.invokevirtual 284, 3) := by decide +kernel
theorem dX9_blame_7 : decode cX9_blame 7 = .ok (.ifCond .ne 7, 3) := by decide +kernel
theorem dX9_blame_10 : decode cX9_blame 10 = .ok (.iconst 1, 1) := by decide +kernel
theorem dX9_blame_11 : decode cX9_blame 11 = .ok (.goto 4, 3) := by decide +kernel
theorem dX9_blame_14 : decode cX9_blame 14 = .ok (.iconst 0, 1) := by decide +kernel
theorem dX9_blame_15 : decode cX9_blame 15 = .ok (.istore_n 2, 1) := by decide +kernel
theorem dX9_blame_16 : decode cX9_blame 16 = .ok (.iconst 0, 1) := by decide +kernel
theorem dX9_blame_17 : decode cX9_blame 17 = .ok (.istore_n 3, 1) := by decide +kernel
theorem dX9_blame_18 : decode cX9_blame 18 = .ok (.iload_n 3, 1) := by decide +kernel
theorem dX9_blame_19 : decode cX9_blame 19 = .ok (.aload_n 0, 1) := by decide +kernel
theorem dX9_blame_20 : decode cX9_blame 20 = .ok (.getfield 78, 3) := by decide +kernel
theorem dX9_blame_23 : decode cX9_blame 23 = .ok (.if_icmp .ge 39, 3) := by decide +kernel
theorem dX9_blame_26 : decode cX9_blame 26 = .ok (.iload_n 2, 1) := by decide +kernel
theorem dX9_blame_27 : decode cX9_blame 27 = .ok (.ifCond .eq 35, 3) := by decide +kernel
theorem dX9_blame_30 : decode cX9_blame 30 = .ok (.iload_n 1, 1) := by decide +kernel
theorem dX9_blame_31 : decode cX9_blame 31 = .ok (.aload_n 0, 1) := by decide +kernel
theorem dX9_blame_32 : decode cX9_blame 32 = .ok (.iload_n 3, 1) := by decide +kernel
theorem dX9_blame_33 : decode cX9_blame 33 = .ok (.invokevirtual 89, 3) := by decide +kernel
theorem dX9_blame_36 : decode cX9_blame 36 = .ok (.ifCond .eq 17, 3) := by decide +kernel
theorem dX9_blame_39 : decode cX9_blame 39 = .ok (.aload_n 0, 1) := by decide +kernel
theorem dX9_blame_40 : decode cX9_blame 40 = .ok (.iload_n 3, 1) := by decide +kernel
theorem dX9_blame_41 : decode cX9_blame 41 = .ok (.invokevirtual 284, 3) := by decide +kernel
theorem dX9_blame_44 : decode cX9_blame 44 = .ok (.ifCond .le 9, 3) := by decide +kernel
theorem dX9_blame_47 : decode cX9_blame 47 = .ok (.iconst 1, 1) := by decide +kernel
theorem dX9_blame_48 : decode cX9_blame 48 = .ok (.iload_n 3, 1) := by decide +kernel
theorem dX9_blame_49 : decode cX9_blame 49 = .ok (.ishl, 1) := by decide +kernel
theorem dX9_blame_50 : decode cX9_blame 50 = .ok (.goto 4, 3) := by decide +kernel
theorem dX9_blame_53 : decode cX9_blame 53 = .ok (.iconst 0, 1) := by decide +kernel
theorem dX9_blame_54 : decode cX9_blame 54 = .ok (.ior, 1) := by decide +kernel
theorem dX9_blame_55 : decode cX9_blame 55 = .ok (.istore_n 1, 1) := by decide +kernel
theorem dX9_blame_56 : decode cX9_blame 56 = .ok (.iinc 3 1, 3) := by decide +kernel
theorem dX9_blame_59 : decode cX9_blame 59 = .ok (.goto (-41), 3) := by decide +kernel
theorem dX9_blame_62 : decode cX9_blame 62 = .ok (.iload_n 1, 1) := by decide +kernel
theorem dX9_blame_63 : decode cX9_blame 63 = .ok (.ireturn, 1) := by decide +kernel
theorem dX9_sheetWrong_0 : decode cX9_sheetWrong 0 = .ok (.iload_n 1, 1) := by decide +kernel
theorem dX9_sheetWrong_1 : decode cX9_sheetWrong 1 = .ok (.iconst 0, 1) := by decide +kernel
theorem dX9_sheetWrong_2 : decode cX9_sheetWrong 2 = .ok (.iconst 3, 1) := by decide +kernel
theorem dX9_sheetWrong_3 : decode cX9_sheetWrong 3 = .ok (.invokestatic 81, 3) := by decide +kernel
theorem dX9_sheetWrong_6 : decode cX9_sheetWrong 6 = .ok (.ifCond .ne 6, 3) := by decide +kernel
theorem dX9_sheetWrong_9 : decode cX9_sheetWrong 9 = .ok (.bipush (-2), 2) := by decide +kernel
theorem dX9_sheetWrong_11 : decode cX9_sheetWrong 11 = .ok (.ireturn, 1) := by decide +kernel
theorem dX9_sheetWrong_12 : decode cX9_sheetWrong 12 = .ok (.aload_n 0, 1) := by decide +kernel
theorem dX9_sheetWrong_13 : decode cX9_sheetWrong 13 = .ok (.getfield 37, 3) := by decide +kernel
theorem dX9_sheetWrong_16 : decode cX9_sheetWrong 16 = .ok (.iload_n 1, 1) := by decide +kernel
theorem dX9_sheetWrong_17 : decode cX9_sheetWrong 17 = .ok (.iaload, 1) := by decide +kernel
theorem dX9_sheetWrong_18 : decode cX9_sheetWrong 18 = .ok (.iconst (-1), 1) := by decide +kernel
theorem dX9_sheetWrong_19 : decode cX9_sheetWrong 19 = .ok (.if_icmp .ne 6, 3) := by decide +kernel
theorem dX9_sheetWrong_22 : decode cX9_sheetWrong 22 = .ok (.bipush (-11), 2) := by decide +kernel
theorem dX9_sheetWrong_24 : decode cX9_sheetWrong 24 = .ok (.ireturn, 1) := by decide +kernel
theorem dX9_sheetWrong_25 : decode cX9_sheetWrong 25 = .ok (.aload_n 0, 1) := by decide +kernel
theorem dX9_sheetWrong_26 : decode cX9_sheetWrong 26 = .ok (.getfield 40, 3) := by decide +kernel
theorem dX9_sheetWrong_29 : decode cX9_sheetWrong 29 = .ok (.iload_n 1, 1) := by decide +kernel
theorem dX9_sheetWrong_30 : decode cX9_sheetWrong 30 = .ok (.iaload, 1) := by decide +kernel
theorem dX9_sheetWrong_31 : decode cX9_sheetWrong 31 = .ok (.aload_n 0, 1) := by decide +kernel
theorem dX9_sheetWrong_32 : decode cX9_sheetWrong 32 = .ok (.getfield 78, 3) := by decide +kernel
theorem dX9_sheetWrong_35 : decode cX9_sheetWrong 35 = .ok (.if_icmp .ne 7, 3) := by decide +kernel
theorem dX9_sheetWrong_38 : decode cX9_sheetWrong 38 = .ok (.iconst 0, 1) := by decide +kernel
theorem dX9_sheetWrong_39 : decode cX9_sheetWrong 39 = .ok (.goto 5, 3) := by decide +kernel
theorem dX9_sheetWrong_42 : decode cX9_sheetWrong 42 = .ok (.bipush (-2), 2) := by decide +kernel
theorem dX9_sheetWrong_44 : decode cX9_sheetWrong 44 = .ok (.ireturn, 1) := by decide +kernel
theorem dX9_unlike_0 : decode cX9_unlike 0 = .ok (.iconst 0, 1) := by decide +kernel
theorem dX9_unlike_1 : decode cX9_unlike 1 = .ok (.istore_n 2, 1) := by decide +kernel
theorem dX9_unlike_2 : decode cX9_unlike 2 = .ok (.iload_n 2, 1) := by decide +kernel
theorem dX9_unlike_3 : decode cX9_unlike 3 = .ok (.aload_n 0, 1) := by decide +kernel
theorem dX9_unlike_4 : decode cX9_unlike 4 = .ok (.getfield 78, 3) := by decide +kernel
theorem dX9_unlike_7 : decode cX9_unlike 7 = .ok (.if_icmp .ge 31, 3) := by decide +kernel
theorem dX9_unlike_10 : decode cX9_unlike 10 = .ok (.aload_n 0, 1) := by decide +kernel
theorem dX9_unlike_11 : decode cX9_unlike 11 = .ok (.getfield 43, 3) := by decide +kernel
theorem dX9_unlike_14 : decode cX9_unlike 14 = .ok (.bipush 40, 2) := by decide +kernel
theorem dX9_unlike_16 : decode cX9_unlike 16 = .ok (.iload_n 1, 1) := by decide +kernel
theorem dX9_unlike_17 : decode cX9_unlike 17 = .ok (.imul, 1) := by decide +kernel
theorem dX9_unlike_18 : decode cX9_unlike 18 = .ok (.iload_n 2, 1) := by decide +kernel
theorem dX9_unlike_19 : decode cX9_unlike 19 = .ok (.iadd, 1) := by decide +kernel
theorem dX9_unlike_20 : decode cX9_unlike 20 = .ok (.iaload, 1) := by decide +kernel
theorem dX9_unlike_21 : decode cX9_unlike 21 = .ok (.aload_n 0, 1) := by decide +kernel
