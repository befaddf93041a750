theorem dX9_next_345 : decode cX9_next 345 = .ok (.bipush 43, 2) := by decide +kernel
theorem dX9_next_347 : decode cX9_next 347 = .ok (.if_icmp .eq 27, 3) := by decide +kernel
theorem dX9_next_350 : decode cX9_next 350 = .ok (.iload_n 1, 1) := by decide +kernel
theorem dX9_next_351 : decode cX9_next 351 = .ok (.bipush 45, 2) := by decide +kernel
theorem dX9_next_353 : decode cX9_next 353 = .ok (.if_icmp .eq 21, 3) := by decide +kernel
theorem dX9_next_356 : decode cX9_next 356 = .ok (.iload_n 1, 1) := by decide +kernel
theorem dX9_next_357 : decode cX9_next 357 = .ok (.bipush 42, 2) := by decide +kernel
theorem dX9_next_359 : decode cX9_next 359 = .ok (.if_icmp .eq 15, 3) := by decide +kernel
theorem dX9_next_362 : decode cX9_next 362 = .ok (.iload_n 1, 1) := by decide +kernel
theorem dX9_next_363 : decode cX9_next 363 = .ok (.bipush 60, 2) := by decide +kernel
theorem dX9_next_365 : decode cX9_next 365 = .ok (.if_icmp .eq 9, 3) := by decide +kernel
theorem dX9_next_368 : decode cX9_next 368 = .ok (.iload_n 1, 1) := by decide +kernel
theorem dX9_next_369 : decode cX9_next 369 = .ok (.bipush 61, 2) := by decide +kernel
theorem dX9_next_371 : decode cX9_next 371 = .ok (.if_icmp .ne 7, 3) := by decide +kernel
theorem dX9_next_374 : decode cX9_next 374 = .ok (.iconst 1, 1) := by decide +kernel
theorem dX9_next_375 : decode cX9_next 375 = .ok (.goto 4, 3) := by decide +kernel
theorem dX9_next_378 : decode cX9_next 378 = .ok (.iconst 0, 1) := by decide +kernel
theorem dX9_next_379 : decode cX9_next 379 = .ok (.istore_n 2, 1) := by decide +kernel
theorem dX9_next_380 : decode cX9_next 380 = .ok (.aload_n 0, 1) := by decide +kernel
theorem dX9_next_381 : decode cX9_next 381 = .ok (.iload_n 2, 1) := by decide +kernel
theorem dX9_next_382 : decode cX9_next 382 = .ok (.ifCond .eq 7, 3) := by decide +kernel
theorem dX9_next_385 : decode cX9_next 385 = .ok (.iload_n 1, 1) := by decide +kernel
theorem dX9_next_386 : decode cX9_next 386 = .ok (.goto 4, 3) := by decide +kernel
theorem dX9_next_389 : decode cX9_next 389 = .ok (.iconst (-1), 1) := by decide +kernel
theorem dX9_next_390 : decode cX9_next 390 = .ok (.putfield 120, 3) := by decide +kernel
theorem dX9_next_393 : decode cX9_next 393 = .ok (.aload_n 0, 1) := by decide +kernel
theorem dX9_next_394 : decode cX9_next 394 = .ok (.dup, 1) := by decide +kernel
theorem dX9_next_395 : decode cX9_next 395 = .ok (.getfield 114, 3) := by decide +kernel
theorem dX9_next_398 : decode cX9_next 398 = .ok (.iconst 1, 1) := by decide +kernel
theorem dX9_next_399 : decode cX9_next 399 = .ok (.iadd, 1) := by decide +kernel
theorem dX9_next_400 : decode cX9_next 400 = .ok (.putfield 114, 3) := by decide +kernel
theorem dX9_next_403 : decode cX9_next 403 = .ok (.return_, 1) := by decide +kernel
theorem dX9_rank_0 : decode cX9_rank 0 = .ok (.iload_n 0, 1) := by decide +kernel
theorem dX9_rank_1 : decode cX9_rank 1 = .ok (.ifCond .ne 7, 3) := by decide +kernel
theorem dX9_rank_4 : decode cX9_rank 4 = .ok (.iconst 0, 1) := by decide +kernel
theorem dX9_rank_5 : decode cX9_rank 5 = .ok (.goto 66, 3) := by decide +kernel
theorem dX9_rank_8 : decode cX9_rank 8 = .ok (.iload_n 0, 1) := by decide +kernel
theorem dX9_rank_9 : decode cX9_rank 9 = .ok (.bipush 11, 2) := by decide +kernel
theorem dX9_rank_11 : decode cX9_rank 11 = .ok (.if_icmp .ne 7, 3) := by decide +kernel
theorem dX9_rank_14 : decode cX9_rank 14 = .ok (.iconst 1, 1) := by decide +kernel
theorem dX9_rank_15 : decode cX9_rank 15 = .ok (.goto 56, 3) := by decide +kernel
theorem dX9_rank_18 : decode cX9_rank 18 = .ok (.iload_n 0, 1) := by decide +kernel
theorem dX9_rank_19 : decode cX9_rank 19 = .ok (.bipush 12, 2) := by decide +kernel
theorem dX9_rank_21 : decode cX9_rank 21 = .ok (.if_icmp .ne 7, 3) := by decide +kernel
theorem dX9_rank_24 : decode cX9_rank 24 = .ok (.iconst 2, 1) := by decide +kernel
theorem dX9_rank_25 : decode cX9_rank 25 = .ok (.goto 46, 3) := by decide +kernel
theorem dX9_rank_28 : decode cX9_rank 28 = .ok (.iload_n 0, 1) := by decide +kernel
theorem dX9_rank_29 : decode cX9_rank 29 = .ok (.bipush 13, 2) := by decide +kernel
theorem dX9_rank_31 : decode cX9_rank 31 = .ok (.if_icmp .ne 7, 3) := by decide +kernel
theorem dX9_rank_34 : decode cX9_rank 34 = .ok (.iconst 3, 1) := by decide +kernel
theorem dX9_rank_35 : decode cX9_rank 35 = .ok (.goto 36, 3) := by decide +kernel
theorem dX9_rank_38 : decode cX9_rank 38 = .ok (.iload_n 0, 1) := by decide +kernel
theorem dX9_rank_39 : decode cX9_rank 39 = .ok (.bipush 15, 2) := by decide +kernel
theorem dX9_rank_41 : decode cX9_rank 41 = .ok (.if_icmp .gt 7, 3) := by decide +kernel
theorem dX9_rank_44 : decode cX9_rank 44 = .ok (.iconst 4, 1) := by decide +kernel
theorem dX9_rank_45 : decode cX9_rank 45 = .ok (.goto 26, 3) := by decide +kernel
theorem dX9_rank_48 : decode cX9_rank 48 = .ok (.iload_n 0, 1) := by decide +kernel
theorem dX9_rank_49 : decode cX9_rank 49 = .ok (.bipush 17, 2) := by decide +kernel
theorem dX9_rank_51 : decode cX9_rank 51 = .ok (.if_icmp .gt 7, 3) := by decide +kernel
theorem dX9_rank_54 : decode cX9_rank 54 = .ok (.iconst 5, 1) := by decide +kernel
theorem dX9_rank_55 : decode cX9_rank 55 = .ok (.goto 16, 3) := by decide +kernel
theorem dX9_rank_58 : decode cX9_rank 58 = .ok (.iload_n 0, 1) := by decide +kernel
theorem dX9_rank_59 : decode cX9_rank 59 = .ok (.bipush 18, 2) := by decide +kernel
theorem dX9_rank_61 : decode cX9_rank 61 = .ok (.if_icmp .ne 8, 3) := by decide +kernel
theorem dX9_rank_64 : decode cX9_rank 64 = .ok (.bipush 6, 2) := by decide +kernel
theorem dX9_rank_66 : decode cX9_rank 66 = .ok (.goto 5, 3) := by decide +kernel
theorem dX9_rank_69 : decode cX9_rank 69 = .ok (.bipush 7, 2) := by decide +kernel
theorem dX9_rank_71 : decode cX9_rank 71 = .ok (.ireturn, 1) := by decide +kernel
theorem dX9_puts_0 : decode cX9_puts 0 = .ok (.aload_n 0, 1) := by decide +kernel
theorem dX9_puts_1 : decode cX9_puts 1 = .ok (.getfield 28, 3) := by decide +kernel
theorem dX9_puts_4 : decode cX9_puts 4 = .ok (.sipush 200, 3) := by decide +kernel
theorem dX9_puts_7 : decode cX9_puts 7 = .ok (.aload_n 0, 1) := by decide +kernel
theorem dX9_puts_8 : decode cX9_puts 8 = .ok (.getfield 105, 3) := by decide +kernel
theorem dX9_puts_11 : decode cX9_puts 11 = .ok (.imul, 1) := by decide +kernel
theorem dX9_puts_12 : decode cX9_puts 12 = .ok (.aload_n 0, 1) := by decide +kernel
theorem dX9_puts_13 : decode cX9_puts 13 = .ok (.getfield 130, 3) := by decide +kernel
theorem dX9_puts_16 : decode cX9_puts 16 = .ok (.iadd, 1) := by decide +kernel
theorem dX9_puts_17 : decode cX9_puts 17 = .ok (.iload_n 1, 1) := by decide +kernel
theorem dX9_puts_18 : decode cX9_puts 18 = .ok (.iastore, 1) := by decide +kernel
theorem dX9_puts_19 : decode cX9_puts 19 = .ok (.aload_n 0, 1) := by decide +kernel
theorem dX9_puts_20 : decode cX9_puts 20 = .ok (.dup, 1) := by decide +kernel
theorem dX9_puts_21 : decode cX9_puts 21 = .ok (.getfield 130, 3) := by decide +kernel
theorem dX9_puts_24 : decode cX9_puts 24 = .ok (.iconst 1, 1) := by decide +kernel
theorem dX9_puts_25 : decode cX9_puts 25 = .ok (.iadd, 1) := by decide +kernel
theorem dX9_puts_26 : decode cX9_puts 26 = .ok (.putfield 130, 3) := by decide +kernel
theorem dX9_puts_29 : decode cX9_puts 29 = .ok (.return_, 1) := by decide +kernel
theorem dX9_unwinds_0 : decode cX9_unwinds 0 = .ok (.aload_n 0, 1) := by decide +kernel
theorem dX9_unwinds_1 : decode cX9_unwinds 1 = .ok (.getfield 133, 3) := by decide +kernel
theorem dX9_unwinds_4 : decode cX9_unwinds 4 = .ok (.ifCond .le 75, 3) := by decide +kernel
theorem dX9_unwinds_7 : decode cX9_unwinds 7 = .ok (.aload_n 0, 1) := by decide +kernel
theorem dX9_unwinds_8 : decode cX9_unwinds 8 = .ok (.getfield 52, 3) := by decide +kernel
theorem dX9_unwinds_11 : decode cX9_unwinds 11 = .ok (.aload_n 0, 1) := by decide +kernel
theorem dX9_unwinds_12 : decode cX9_unwinds 12 = .ok (.getfield 133, 3) := by decide +kernel
theorem dX9_unwinds_15 : decode cX9_unwinds 15 = .ok (.iconst 1, 1) := by decide +kernel
theorem dX9_unwinds_16 : decode cX9_unwinds 16 = .ok (.isub, 1) := by decide +kernel
theorem dX9_unwinds_17 : decode cX9_unwinds 17 = .ok (.iaload, 1) := by decide +kernel
theorem dX9_unwinds_18 : decode cX9_unwinds 18 = .ok (.invokestatic 136, 3) := by decide +kernel
theorem dX9_unwinds_21 : decode cX9_unwinds 21 = .ok (.iload_n 1, 1) := by decide +kernel
theorem dX9_unwinds_22 : decode cX9_unwinds 22 = .ok (.if_icmp .lt 57, 3) := by decide +kernel
theorem dX9_unwinds_25 : decode cX9_unwinds 25 = .ok (.aload_n 0, 1) := by decide +kernel
theorem dX9_unwinds_26 : decode cX9_unwinds 26 = .ok (.dup, 1) := by decide +kernel
theorem dX9_unwinds_27 : decode cX9_unwinds 27 = .ok (.getfield 133, 3) := by decide +kernel
theorem dX9_unwinds_30 : decode cX9_unwinds 30 = .ok (.iconst 1, 1) := by decide +kernel
theorem dX9_unwinds_31 : decode cX9_unwinds 31 = .ok (.isub, 1) := by decide +kernel
theorem dX9_unwinds_32 : decode cX9_unwinds 32 = .ok (.putfield 133, 3) := by decide +kernel
theorem dX9_unwinds_35 : decode cX9_unwinds 35 = .ok (.aload_n 0, 1) := by decide +kernel
theorem dX9_unwinds_36 : decode cX9_unwinds 36 = .ok (.getfield 52, 3) := by decide +kernel
theorem dX9_unwinds_39 : decode cX9_unwinds 39 = .ok (.aload_n 0, 1) := by decide +kernel
theorem dX9_unwinds_40 : decode cX9_unwinds 40 = .ok (.getfield 133, 3) := by decide +kernel
theorem dX9_unwinds_43 : decode cX9_unwinds 43 = .ok (.iaload, 1) := by decide +kernel
theorem dX9_unwinds_44 : decode cX9_unwinds 44 = .ok (.istore_n 2, 1) := by decide +kernel
theorem dX9_unwinds_45 : decode cX9_unwinds 45 = .ok (.aload_n 0, 1) := by decide +kernel
theorem dX9_unwinds_46 : decode cX9_unwinds 46 = .ok (.dup, 1) := by decide +kernel
theorem dX9_unwinds_47 : decode cX9_unwinds 47 = .ok (.getfield 139, 3) := by decide +kernel
theorem dX9_unwinds_50 : decode cX9_unwinds 50 = .ok (.iload_n 2, 1) := by decide +kernel
theorem dX9_unwinds_51 : decode cX9_unwinds 51 = .ok (.bipush 13, 2) := by decide +kernel
theorem dX9_unwinds_53 : decode cX9_unwinds 53 = .ok (.if_icmp .eq 9, 3) := by decide +kernel
theorem dX9_unwinds_56 : decode cX9_unwinds 56 = .ok (.iload_n 2, 1) := by decide +kernel
theorem dX9_unwinds_57 : decode cX9_unwinds 57 = .ok (.bipush 19, 2) := by decide +kernel
theorem dX9_unwinds_59 : decode cX9_unwinds 59 = .ok (.if_icmp .ne 7, 3) := by decide +kernel
theorem dX9_unwinds_62 : decode cX9_unwinds 62 = .ok (.iconst 1, 1) := by decide +kernel
theorem dX9_unwinds_63 : decode cX9_unwinds 63 = .ok (.goto 4, 3) := by decide +kernel
theorem dX9_unwinds_66 : decode cX9_unwinds 66 = .ok (.iconst 0, 1) := by decide +kernel
theorem dX9_unwinds_67 : decode cX9_unwinds 67 = .ok (.isub, 1) := by decide +kernel
theorem dX9_unwinds_68 : decode cX9_unwinds 68 = .ok (.putfield 139, 3) := by decide +kernel
theorem dX9_unwinds_71 : decode cX9_unwinds 71 = .ok (.aload_n 0, 1) := by decide +kernel
theorem dX9_unwinds_72 : decode cX9_unwinds 72 = .ok (.iload_n 2, 1) := by decide +kernel
theorem dX9_unwinds_73 : decode cX9_unwinds 73 = .ok (.invokevirtual 142, 3) := by decide +kernel
theorem dX9_unwinds_76 : decode cX9_unwinds 76 = .ok (.goto (-76), 3) := by decide +kernel
theorem dX9_unwinds_79 : decode cX9_unwinds 79 = .ok (.return_, 1) := by decide +kernel
theorem dX9_holds_0 : decode cX9_holds 0 = .ok (.aload_n 0, 1) := by decide +kernel
theorem dX9_holds_1 : decode cX9_holds 1 = .ok (.getfield 52, 3) := by decide +kernel
theorem dX9_holds_4 : decode cX9_holds 4 = .ok (.aload_n 0, 1) := by decide +kernel
theorem dX9_holds_5 : decode cX9_holds 5 = .ok (.getfield 133, 3) := by decide +kernel
theorem dX9_holds_8 : decode cX9_holds 8 = .ok (.iload_n 1, 1) := by decide +kernel
theorem dX9_holds_9 : decode cX9_holds 9 = .ok (.iastore, 1) := by decide +kernel
theorem dX9_holds_10 : decode cX9_holds 10 = .ok (.aload_n 0, 1) := by decide +kernel
theorem dX9_holds_11 : decode cX9_holds 11 = .ok (.dup, 1) := by decide +kernel
theorem dX9_holds_12 : decode cX9_holds 12 = .ok (.getfield 133, 3) := by decide +kernel
theorem dX9_holds_15 : decode cX9_holds 15 = .ok (.iconst 1, 1) := by decide +kernel
theorem dX9_holds_16 : decode cX9_holds 16 = .ok (.iadd, 1) := by decide +kernel
theorem dX9_holds_17 : decode cX9_holds 17 = .ok (.putfield 133, 3) := by decide +kernel
theorem dX9_holds_20 : decode cX9_holds 20 = .ok (.return_, 1) := by decide +kernel
theorem dX9_opensOne_0 : decode cX9_opensOne 0 = .ok (.aload_n 0, 1) := by decide +kernel
theorem dX9_opensOne_1 : decode cX9_opensOne 1 = .ok (.getfield 139, 3) := by decide +kernel
theorem dX9_opensOne_4 : decode cX9_opensOne 4 = .ok (.iconst 5, 1) := by decide +kernel
theorem dX9_opensOne_5 : decode cX9_opensOne 5 = .ok (.if_icmp .ne 5, 3) := by decide +kernel
theorem dX9_opensOne_8 : decode cX9_opensOne 8 = .ok (.iconst 0, 1) := by decide +kernel
theorem dX9_opensOne_9 : decode cX9_opensOne 9 = .ok (.ireturn, 1) := by decide +kernel
theorem dX9_opensOne_10 : decode cX9_opensOne 10 = .ok (.aload_n 0, 1) := by decide +kernel
theorem dX9_opensOne_11 : decode cX9_opensOne 11 = .ok (.dup, 1) := by decide +kernel
theorem dX9_opensOne_12 : decode cX9_opensOne 12 = .ok (.getfield 139, 3) := by decide +kernel
theorem dX9_opensOne_15 : decode cX9_opensOne 15 = .ok (.iconst 1, 1) := by decide +kernel
theorem dX9_opensOne_16 : decode cX9_opensOne 16 = .ok (.iadd, 1) := by decide +kernel
theorem dX9_opensOne_17 : decode cX9_opensOne 17 = .ok (.putfield 139, 3) := by decide +kernel
theorem dX9_opensOne_20 : decode cX9_opensOne 20 = .ok (.aload_n 0, 1) := by decide +kernel
theorem dX9_opensOne_21 : decode cX9_opensOne 21 = .ok (.iload_n 1, 1) := by decide +kernel
theorem dX9_opensOne_22 : decode cX9_opensOne 22 = .ok (.invokevirtual 146, 3) := by decide +kernel
theorem dX9_opensOne_25 : decode cX9_opensOne 25 = .ok (.iconst 1, 1) := by decide +kernel
theorem dX9_opensOne_26 : decode cX9_opensOne 26 = .ok (.ireturn, 1) := by decide +kernel
theorem dX9_between_0 : decode cX9_between 0 = .ok (.aload_n 0, 1) := by decide +kernel
theorem dX9_between_1 : decode cX9_between 1 = .ok (.iload_n 1, 1) := by decide +kernel
theorem dX9_between_2 : decode cX9_between 2 = .ok (.invokestatic 136, 3) := by decide +kernel
theorem dX9_between_5 : decode cX9_between 5 = .ok (.iconst 4, 1) := by decide +kernel
theorem dX9_between_6 : decode cX9_between 6 = .ok (.if_icmp .ne 7, 3) := by decide +kernel
theorem dX9_between_9 : decode cX9_between 9 = .ok (.iconst 5, 1) := by decide +kernel
theorem dX9_between_10 : decode cX9_between 10 = .ok (.goto 7, 3) := by decide +kernel
theorem dX9_between_13 : decode cX9_between 13 = .ok (.iload_n 1, 1) := by decide +kernel
theorem dX9_between_14 : decode cX9_between 14 = .ok (.invokestatic 136, 3) := by decide +kernel
theorem dX9_between_17 : decode cX9_between 17 = .ok (.invokevirtual 149, 3) := by decide +kernel
theorem dX9_between_20 : decode cX9_between 20 = .ok (.iload_n 1, 1) := by decide +kernel
theorem dX9_between_21 : decode cX9_between 21 = .ok (.invokestatic 136, 3) := by decide +kernel
theorem dX9_between_24 : decode cX9_between 24 = .ok (.iconst 4, 1) := by decide +kernel
theorem dX9_between_25 : decode cX9_between 25 = .ok (.if_icmp .ne 30, 3) := by decide +kernel
theorem dX9_between_28 : decode cX9_between 28 = .ok (.aload_n 0, 1) := by decide +kernel
theorem dX9_between_29 : decode cX9_between 29 = .ok (.getfield 133, 3) := by decide +kernel
theorem dX9_between_32 : decode cX9_between 32 = .ok (.ifCond .le 23, 3) := by decide +kernel
theorem dX9_between_35 : decode cX9_between 35 = .ok (.aload_n 0, 1) := by decide +kernel
theorem dX9_between_36 : decode cX9_between 36 = .ok (.getfield 52, 3) := by decide +kernel
theorem dX9_between_39 : decode cX9_between 39 = .ok (.aload_n 0, 1) := by decide +kernel
theorem dX9_between_40 : decode cX9_between 40 = .ok (.getfield 133, 3) := by decide +kernel
theorem dX9_between_43 : decode cX9_between 43 = .ok (.iconst 1, 1) := by decide +kernel
theorem dX9_between_44 : decode cX9_between 44 = .ok (.isub, 1) := by decide +kernel
theorem dX9_between_45 : decode cX9_between 45 = .ok (.iaload, 1) := by decide +kernel
theorem dX9_between_46 : decode cX9_between 46 = .ok (.invokestatic 136, 3) := by decide +kernel
theorem dX9_between_49 : decode cX9_between 49 = .ok (.iconst 4, 1) := by decide +kernel
theorem dX9_between_50 : decode cX9_between 50 = .ok (.if_icmp .ne 5, 3) := by decide +kernel
theorem dX9_between_53 : decode cX9_between 53 = .ok (.iconst 0, 1) := by decide +kernel
theorem dX9_between_54 : decode cX9_between 54 = .ok (.ireturn, 1) := by decide +kernel
theorem dX9_between_55 : decode cX9_between 55 = .ok (.aload_n 0, 1) := by decide +kernel
theorem dX9_between_56 : decode cX9_between 56 = .ok (.iload_n 1, 1) := by decide +kernel
theorem dX9_between_57 : decode cX9_between 57 = .ok (.invokevirtual 146, 3) := by decide +kernel
theorem dX9_between_60 : decode cX9_between 60 = .ok (.iconst 1, 1) := by decide +kernel
theorem dX9_between_61 : decode cX9_between 61 = .ok (.ireturn, 1) := by decide +kernel
theorem dX9_signOf_0 : decode cX9_signOf 0 = .ok (.aload_n 0, 1) := by decide +kernel
theorem dX9_signOf_1 : decode cX9_signOf 1 = .ok (.getfield 120, 3) := by decide +kernel
theorem dX9_signOf_4 : decode cX9_signOf 4 = .ok (.iconst 4, 1) := by decide +kernel
theorem dX9_signOf_5 : decode cX9_signOf 5 = .ok (.if_icmp .ne 8, 3) := by decide +kernel
theorem dX9_signOf_8 : decode cX9_signOf 8 = .ok (.bipush 11, 2) := by decide +kernel
theorem dX9_signOf_10 : decode cX9_signOf 10 = .ok (.goto 87, 3) := by decide +kernel
theorem dX9_signOf_13 : decode cX9_signOf 13 = .ok (.aload_n 0, 1) := by decide +kernel
theorem dX9_signOf_14 : decode cX9_signOf 14 = .ok (.getfield 120, 3) := by decide +kernel
theorem dX9_signOf_17 : decode cX9_signOf 17 = .ok (.iconst 5, 1) := by decide +kernel
theorem dX9_signOf_18 : decode cX9_signOf 18 = .ok (.if_icmp .ne 8, 3) := by decide +kernel
theorem dX9_signOf_21 : decode cX9_signOf 21 = .ok (.bipush 12, 2) := by decide +kernel
theorem dX9_signOf_23 : decode cX9_signOf 23 = .ok (.goto 74, 3) := by decide +kernel
theorem dX9_signOf_26 : decode cX9_signOf 26 = .ok (.aload_n 0, 1) := by decide +kernel
theorem dX9_signOf_27 : decode cX9_signOf 27 = .ok (.getfield 120, 3) := by decide +kernel
theorem dX9_signOf_30 : decode cX9_signOf 30 = .ok (.bipush 60, 2) := by decide +kernel
theorem dX9_signOf_32 : decode cX9_signOf 32 = .ok (.if_icmp .ne 8, 3) := by decide +kernel
theorem dX9_signOf_35 : decode cX9_signOf 35 = .ok (.bipush 14, 2) := by decide +kernel
theorem dX9_signOf_37 : decode cX9_signOf 37 = .ok (.goto 60, 3) := by decide +kernel
theorem dX9_signOf_40 : decode cX9_signOf 40 = .ok (.aload_n 0, 1) := by decide +kernel
theorem dX9_signOf_41 : decode cX9_signOf 41 = .ok (.getfield 120, 3) := by decide +kernel
theorem dX9_signOf_44 : decode cX9_signOf 44 = .ok (.bipush 61, 2) := by decide +kernel
theorem dX9_signOf_46 : decode cX9_signOf 46 = .ok (.if_icmp .ne 8, 3) := by decide +kernel
theorem dX9_signOf_49 : decode cX9_signOf 49 = .ok (.bipush 15, 2) := by decide +kernel
theorem dX9_signOf_51 : decode cX9_signOf 51 = .ok (.goto 46, 3) := by decide +kernel
theorem dX9_signOf_54 : decode cX9_signOf 54 = .ok (.aload_n 0, 1) := by decide +kernel
theorem dX9_signOf_55 : decode cX9_signOf 55 = .ok (.getfield 120, 3) := by decide +kernel
theorem dX9_signOf_58 : decode cX9_signOf 58 = .ok (.bipush 43, 2) := by decide +kernel
theorem dX9_signOf_60 : decode cX9_signOf 60 = .ok (.if_icmp .ne 8, 3) := by decide +kernel
theorem dX9_signOf_63 : decode cX9_signOf 63 = .ok (.bipush 16, 2) := by decide +kernel
theorem dX9_signOf_65 : decode cX9_signOf 65 = .ok (.goto 32, 3) := by decide +kernel
theorem dX9_signOf_68 : decode cX9_signOf 68 = .ok (.aload_n 0, 1) := by decide +kernel
theorem dX9_signOf_69 : decode cX9_signOf 69 = .ok (.getfield 120, 3) := by decide +kernel
theorem dX9_signOf_72 : decode cX9_signOf 72 = .ok (.bipush 45, 2) := by decide +kernel
theorem dX9_signOf_74 : decode cX9_signOf 74 = .ok (.if_icmp .ne 8, 3) := by decide +kernel
theorem dX9_signOf_77 : decode cX9_signOf 77 = .ok (.bipush 17, 2) := by decide +kernel
theorem dX9_signOf_79 : decode cX9_signOf 79 = .ok (.goto 18, 3) := by decide +kernel
theorem dX9_signOf_82 : decode cX9_signOf 82 = .ok (.aload_n 0, 1) := by decide +kernel
theorem dX9_signOf_83 : decode cX9_signOf 83 = .ok (.getfield 120, 3) := by decide +kernel
theorem dX9_signOf_86 : decode cX9_signOf 86 = .ok (.bipush 42, 2) := by decide +kernel
theorem dX9_signOf_88 : decode cX9_signOf 88 = .ok (.if_icmp .ne 8, 3) := by decide +kernel
theorem dX9_signOf_91 : decode cX9_signOf 91 = .ok (.bipush 18, 2) := by decide +kernel
theorem dX9_signOf_93 : decode cX9_signOf 93 = .ok (.goto 4, 3) := by decide +kernel
theorem dX9_signOf_96 : decode cX9_signOf 96 = .ok (.iconst (-1), 1) := by decide +kernel
theorem dX9_signOf_97 : decode cX9_signOf 97 = .ok (.ireturn, 1) := by decide +kernel
theorem dX9_eRead_0 : decode cX9_eRead 0 = .ok (.aload_n 0, 1) := by decide +kernel
theorem dX9_eRead_1 : decode cX9_eRead 1 = .ok (.iconst 0, 1) := by decide +kernel
theorem dX9_eRead_2 : decode cX9_eRead 2 = .ok (.putfield 133, 3) := by decide +kernel
theorem dX9_eRead_5 : decode cX9_eRead 5 = .ok (.aload_n 0, 1) := by decide +kernel
theorem dX9_eRead_6 : decode cX9_eRead 6 = .ok (.iconst 0, 1) := by decide +kernel
theorem dX9_eRead_7 : decode cX9_eRead 7 = .ok (.putfield 139, 3) := by decide +kernel
theorem dX9_eRead_10 : decode cX9_eRead 10 = .ok (.iconst 1, 1) := by decide +kernel
theorem dX9_eRead_11 : decode cX9_eRead 11 = .ok (.istore_n 1, 1) := by decide +kernel
theorem dX9_eRead_12 : decode cX9_eRead 12 = .ok (.iconst 1, 1) := by decide +kernel
theorem dX9_eRead_13 : decode cX9_eRead 13 = .ok (.istore_n 2, 1) := by decide +kernel
theorem dX9_eRead_14 : decode cX9_eRead 14 = .ok (.aload_n 0, 1) := by decide +kernel
theorem dX9_eRead_15 : decode cX9_eRead 15 = .ok (.invokevirtual 152, 3) := by decide +kernel
theorem dX9_eRead_18 : decode cX9_eRead 18 = .ok (.iload_n 1, 1) := by decide +kernel
theorem dX9_eRead_19 : decode cX9_eRead 19 = .ok (.ifCond .eq 131, 3) := by decide +kernel
theorem dX9_eRead_22 : decode cX9_eRead 22 = .ok (.aload_n 0, 1) := by decide +kernel
theorem dX9_eRead_23 : decode cX9_eRead 23 = .ok (.getfield 120, 3) := by decide +kernel
theorem dX9_eRead_26 : decode cX9_eRead 26 = .ok (.iconst 1, 1) := by decide +kernel
theorem dX9_eRead_27 : decode cX9_eRead 27 = .ok (.if_icmp .eq 11, 3) := by decide +kernel
theorem dX9_eRead_30 : decode cX9_eRead 30 = .ok (.aload_n 0, 1) := by decide +kernel
theorem dX9_eRead_31 : decode cX9_eRead 31 = .ok (.getfield 120, 3) := by decide +kernel
theorem dX9_eRead_34 : decode cX9_eRead 34 = .ok (.iconst 2, 1) := by decide +kernel
theorem dX9_eRead_35 : decode cX9_eRead 35 = .ok (.if_icmp .ne 40, 3) := by decide +kernel
theorem dX9_eRead_38 : decode cX9_eRead 38 = .ok (.aload_n 0, 1) := by decide +kernel
theorem dX9_eRead_39 : decode cX9_eRead 39 = .ok (.aload_n 0, 1) := by decide +kernel
theorem dX9_eRead_40 : decode cX9_eRead 40 = .ok (.getfield 120, 3) := by decide +kernel
theorem dX9_eRead_43 : decode cX9_eRead 43 = .ok (.iconst 1, 1) := by decide +kernel
theorem dX9_eRead_44 : decode cX9_eRead 44 = .ok (.if_icmp .ne 13, 3) := by decide +kernel
theorem dX9_eRead_47 : decode cX9_eRead 47 = .ok (.ldc 155, 2) := by decide +kernel
theorem dX9_eRead_49 : decode cX9_eRead 49 = .ok (.aload_n 0, 1) := by decide +kernel
theorem dX9_eRead_50 : decode cX9_eRead 50 = .ok (.getfield 123, 3) := by decide +kernel
theorem dX9_eRead_53 : decode cX9_eRead 53 = .ok (.iadd, 1) := by decide +kernel
theorem dX9_eRead_54 : decode cX9_eRead 54 = .ok (.goto 7, 3) := by decide +kernel
theorem dX9_eRead_57 : decode cX9_eRead 57 = .ok (.aload_n 0, 1) := by decide +kernel
theorem dX9_eRead_58 : decode cX9_eRead 58 = .ok (.getfield 123, 3) := by decide +kernel
theorem dX9_eRead_61 : decode cX9_eRead 61 = .ok (.invokevirtual 142, 3) := by decide +kernel
theorem dX9_eRead_64 : decode cX9_eRead 64 = .ok (.aload_n 0, 1) := by decide +kernel
theorem dX9_eRead_65 : decode cX9_eRead 65 = .ok (.bipush 7, 2) := by decide +kernel
theorem dX9_eRead_67 : decode cX9_eRead 67 = .ok (.invokevirtual 149, 3) := by decide +kernel
theorem dX9_eRead_70 : decode cX9_eRead 70 = .ok (.iconst 0, 1) := by decide +kernel
theorem dX9_eRead_71 : decode cX9_eRead 71 = .ok (.istore_n 1, 1) := by decide +kernel
theorem dX9_eRead_72 : decode cX9_eRead 72 = .ok (.goto (-58), 3) := by decide +kernel
theorem dX9_eRead_75 : decode cX9_eRead 75 = .ok (.aload_n 0, 1) := by decide +kernel
theorem dX9_eRead_76 : decode cX9_eRead 76 = .ok (.getfield 120, 3) := by decide +kernel
theorem dX9_eRead_79 : decode cX9_eRead 79 = .ok (.bipush 6, 2) := by decide +kernel
theorem dX9_eRead_81 : decode cX9_eRead 81 = .ok (.if_icmp .ne 18, 3) := by decide +kernel
theorem dX9_eRead_84 : decode cX9_eRead 84 = .ok (.iload_n 2, 1) := by decide +kernel
theorem dX9_eRead_85 : decode cX9_eRead 85 = .ok (.ifCond .eq 14, 3) := by decide +kernel
theorem dX9_eRead_88 : decode cX9_eRead 88 = .ok (.aload_n 0, 1) := by decide +kernel
theorem dX9_eRead_89 : decode cX9_eRead 89 = .ok (.bipush 13, 2) := by decide +kernel
theorem dX9_eRead_91 : decode cX9_eRead 91 = .ok (.invokevirtual 156, 3) := by decide +kernel
theorem dX9_eRead_94 : decode cX9_eRead 94 = .ok (.ifCond .ne (-80), 3) := by decide +kernel
theorem dX9_eRead_97 : decode cX9_eRead 97 = .ok (.iconst 0, 1) := by decide +kernel
theorem dX9_eRead_98 : decode cX9_eRead 98 = .ok (.ireturn, 1) := by decide +kernel
theorem dX9_eRead_99 : decode cX9_eRead 99 = .ok (.aload_n 0, 1) := by decide +kernel
theorem dX9_eRead_100 : decode cX9_eRead 100 = .ok (.getfield 120, 3) := by decide +kernel
theorem dX9_eRead_103 : decode cX9_eRead 103 = .ok (.bipush 45, 2) := by decide +kernel
theorem dX9_eRead_105 : decode cX9_eRead 105 = .ok (.if_icmp .ne 19, 3) := by decide +kernel
theorem dX9_eRead_108 : decode cX9_eRead 108 = .ok (.aload_n 0, 1) := by decide +kernel
theorem dX9_eRead_109 : decode cX9_eRead 109 = .ok (.bipush 19, 2) := by decide +kernel
theorem dX9_eRead_111 : decode cX9_eRead 111 = .ok (.invokevirtual 156, 3) := by decide +kernel
theorem dX9_eRead_114 : decode cX9_eRead 114 = .ok (.ifCond .ne 5, 3) := by decide +kernel
theorem dX9_eRead_117 : decode cX9_eRead 117 = .ok (.iconst 0, 1) := by decide +kernel
theorem dX9_eRead_118 : decode cX9_eRead 118 = .ok (.ireturn, 1) := by decide +kernel
theorem dX9_eRead_119 : decode cX9_eRead 119 = .ok (.iconst 0, 1) := by decide +kernel
theorem dX9_eRead_120 : decode cX9_eRead 120 = .ok (.istore_n 2, 1) := by decide +kernel
theorem dX9_eRead_121 : decode cX9_eRead 121 = .ok (.goto (-107), 3) := by decide +kernel
theorem dX9_eRead_124 : decode cX9_eRead 124 = .ok (.aload_n 0, 1) := by decide +kernel
theorem dX9_eRead_125 : decode cX9_eRead 125 = .ok (.getfield 120, 3) := by decide +kernel
theorem dX9_eRead_128 : decode cX9_eRead 128 = .ok (.bipush 40, 2) := by decide +kernel
theorem dX9_eRead_130 : decode cX9_eRead 130 = .ok (.if_icmp .ne 18, 3) := by decide +kernel
theorem dX9_eRead_133 : decode cX9_eRead 133 = .ok (.aload_n 0, 1) := by decide +kernel
theorem dX9_eRead_134 : decode cX9_eRead 134 = .ok (.iconst 0, 1) := by decide +kernel
theorem dX9_eRead_135 : decode cX9_eRead 135 = .ok (.invokevirtual 156, 3) := by decide +kernel
theorem dX9_eRead_138 : decode cX9_eRead 138 = .ok (.ifCond .ne 5, 3) := by decide +kernel
theorem dX9_eRead_141 : decode cX9_eRead 141 = .ok (.iconst 0, 1) := by decide +kernel
theorem dX9_eRead_142 : decode cX9_eRead 142 = .ok (.ireturn, 1) := by decide +kernel
theorem dX9_eRead_143 : decode cX9_eRead 143 = .ok (.iconst 1, 1) := by decide +kernel
theorem dX9_eRead_144 : decode cX9_eRead 144 = .ok (.istore_n 2, 1) := by decide +kernel
theorem dX9_eRead_145 : decode cX9_eRead 145 = .ok (.goto (-131), 3) := by decide +kernel
theorem dX9_eRead_148 : decode cX9_eRead 148 = .ok (.iconst 0, 1) := by decide +kernel
theorem dX9_eRead_149 : decode cX9_eRead 149 = .ok (.ireturn, 1) := by decide +kernel
theorem dX9_eRead_150 : decode cX9_eRead 150 = .ok (.aload_n 0, 1) := by decide +kernel
theorem dX9_eRead_151 : decode cX9_eRead 151 = .ok (.getfield 120, 3) := by decide +kernel
theorem dX9_eRead_154 : decode cX9_eRead 154 = .ok (.bipush 59, 2) := by decide +kernel
theorem dX9_eRead_156 : decode cX9_eRead 156 = .ok (.if_icmp .ne 21, 3) := by decide +kernel
theorem dX9_eRead_159 : decode cX9_eRead 159 = .ok (.aload_n 0, 1) := by decide +kernel
theorem dX9_eRead_160 : decode cX9_eRead 160 = .ok (.iconst 1, 1) := by decide +kernel
theorem dX9_eRead_161 : decode cX9_eRead 161 = .ok (.invokevirtual 149, 3) := by decide +kernel
theorem dX9_eRead_164 : decode cX9_eRead 164 = .ok (.aload_n 0, 1) := by decide +kernel
theorem dX9_eRead_165 : decode cX9_eRead 165 = .ok (.getfield 133, 3) := by decide +kernel
theorem dX9_eRead_168 : decode cX9_eRead 168 = .ok (.ifCond .ne 7, 3) := by decide +kernel
theorem dX9_eRead_171 : decode cX9_eRead 171 = .ok (.iconst 1, 1) := by decide +kernel
theorem dX9_eRead_172 : decode cX9_eRead 172 = .ok (.goto 4, 3) := by decide +kernel
theorem dX9_eRead_175 : decode cX9_eRead 175 = .ok (.iconst 0, 1) := by decide +kernel
theorem dX9_eRead_176 : decode cX9_eRead 176 = .ok (.ireturn, 1) := by decide +kernel
theorem dX9_eRead_177 : decode cX9_eRead 177 = .ok (.aload_n 0, 1) := by decide +kernel
theorem dX9_eRead_178 : decode cX9_eRead 178 = .ok (.getfield 120, 3) := by decide +kernel
theorem dX9_eRead_181 : decode cX9_eRead 181 = .ok (.bipush 41, 2) := by decide +kernel
theorem dX9_eRead_183 : decode cX9_eRead 183 = .ok (.if_icmp .ne 46, 3) := by decide +kernel
theorem dX9_eRead_186 : decode cX9_eRead 186 = .ok (.aload_n 0, 1) := by decide +kernel
theorem dX9_eRead_187 : decode cX9_eRead 187 = .ok (.iconst 1, 1) := by decide +kernel
theorem dX9_eRead_188 : decode cX9_eRead 188 = .ok (.invokevirtual 149, 3) := by decide +kernel
theorem dX9_eRead_191 : decode cX9_eRead 191 = .ok (.aload_n 0, 1) := by decide +kernel
theorem dX9_eRead_192 : decode cX9_eRead 192 = .ok (.getfield 133, 3) := by decide +kernel
theorem dX9_eRead_195 : decode cX9_eRead 195 = .ok (.ifCond .ne 5, 3) := by decide +kernel
theorem dX9_eRead_198 : decode cX9_eRead 198 = .ok (.iconst 0, 1) := by decide +kernel
theorem dX9_eRead_199 : decode cX9_eRead 199 = .ok (.ireturn, 1) := by decide +kernel
theorem dX9_eRead_200 : decode cX9_eRead 200 = .ok (.aload_n 0, 1) := by decide +kernel
theorem dX9_eRead_201 : decode cX9_eRead 201 = .ok (.dup, 1) := by decide +kernel
theorem dX9_eRead_202 : decode cX9_eRead 202 = .ok (.getfield 133, 3) := by decide +kernel
theorem dX9_eRead_205 : decode cX9_eRead 205 = .ok (.iconst 1, 1) := by decide +kernel
theorem dX9_eRead_206 : decode cX9_eRead 206 = .ok (.isub, 1) := by decide +kernel
theorem dX9_eRead_207 : decode cX9_eRead 207 = .ok (.putfield 133, 3) := by decide +kernel
theorem dX9_eRead_210 : decode cX9_eRead 210 = .ok (.aload_n 0, 1) := by decide +kernel
theorem dX9_eRead_211 : decode cX9_eRead 211 = .ok (.dup, 1) := by decide +kernel
theorem dX9_eRead_212 : decode cX9_eRead 212 = .ok (.getfield 139, 3) := by decide +kernel
theorem dX9_eRead_215 : decode cX9_eRead 215 = .ok (.iconst 1, 1) := by decide +kernel
theorem dX9_eRead_216 : decode cX9_eRead 216 = .ok (.isub, 1) := by decide +kernel
theorem dX9_eRead_217 : decode cX9_eRead 217 = .ok (.putfield 139, 3) := by decide +kernel
theorem dX9_eRead_220 : decode cX9_eRead 220 = .ok (.aload_n 0, 1) := by decide +kernel
theorem dX9_eRead_221 : decode cX9_eRead 221 = .ok (.bipush 7, 2) := by decide +kernel
theorem dX9_eRead_223 : decode cX9_eRead 223 = .ok (.invokevirtual 149, 3) := by decide +kernel
theorem dX9_eRead_226 : decode cX9_eRead 226 = .ok (.goto (-212), 3) := by decide +kernel
theorem dX9_eRead_229 : decode cX9_eRead 229 = .ok (.aload_n 0, 1) := by decide +kernel
theorem dX9_eRead_230 : decode cX9_eRead 230 = .ok (.invokevirtual 159, 3) := by decide +kernel
theorem dX9_eRead_233 : decode cX9_eRead 233 = .ok (.istore_n 3, 1) := by decide +kernel
theorem dX9_eRead_234 : decode cX9_eRead 234 = .ok (.iload_n 3, 1) := by decide +kernel
theorem dX9_eRead_235 : decode cX9_eRead 235 = .ok (.iconst (-1), 1) := by decide +kernel
theorem dX9_eRead_236 : decode cX9_eRead 236 = .ok (.if_icmp .eq 11, 3) := by decide +kernel
theorem dX9_eRead_239 : decode cX9_eRead 239 = .ok (.aload_n 0, 1) := by decide +kernel
theorem dX9_eRead_240 : decode cX9_eRead 240 = .ok (.iload_n 3, 1) := by decide +kernel
theorem dX9_eRead_241 : decode cX9_eRead 241 = .ok (.invokevirtual 162, 3) := by decide +kernel
theorem dX9_eRead_244 : decode cX9_eRead 244 = .ok (.ifCond .ne 5, 3) := by decide +kernel
theorem dX9_eRead_247 : decode cX9_eRead 247 = .ok (.iconst 0, 1) := by decide +kernel
theorem dX9_eRead_248 : decode cX9_eRead 248 = .ok (.ireturn, 1) := by decide +kernel
theorem dX9_eRead_249 : decode cX9_eRead 249 = .ok (.iconst 1, 1) := by decide +kernel
theorem dX9_eRead_250 : decode cX9_eRead 250 = .ok (.istore_n 1, 1) := by decide +kernel
theorem dX9_eRead_251 : decode cX9_eRead 251 = .ok (.iload_n 3, 1) := by decide +kernel
theorem dX9_eRead_252 : decode cX9_eRead 252 = .ok (.bipush 12, 2) := by decide +kernel
theorem dX9_eRead_254 : decode cX9_eRead 254 = .ok (.if_icmp .gt 7, 3) := by decide +kernel
theorem dX9_eRead_257 : decode cX9_eRead 257 = .ok (.iconst 1, 1) := by decide +kernel
theorem dX9_eRead_258 : decode cX9_eRead 258 = .ok (.goto 4, 3) := by decide +kernel
theorem dX9_eRead_261 : decode cX9_eRead 261 = .ok (.iconst 0, 1) := by decide +kernel
theorem dX9_eRead_262 : decode cX9_eRead 262 = .ok (.istore_n 2, 1) := by decide +kernel
theorem dX9_eRead_263 : decode cX9_eRead 263 = .ok (.goto (-249), 3) := by decide +kernel
theorem dX9_text_0 : decode cX9_text 0 = .ok (.aload_n 0, 1) := by decide +kernel
theorem dX9_text_1 : decode cX9_text 1 = .ok (.getfield 105, 3) := by decide +kernel
theorem dX9_text_4 : decode cX9_text 4 = .ok (.bipush 6, 2) := by decide +kernel
theorem dX9_text_6 : decode cX9_text 6 = .ok (.if_icmp .ne 6, 3) := by decide +kernel
theorem dX9_text_9 : decode cX9_text 9 = .ok (.bipush (-4), 2) := by decide +kernel
theorem dX9_text_11 : decode cX9_text 11 = .ok (.ireturn, 1) := by decide +kernel
theorem dX9_text_12 : decode cX9_text 12 = .ok (.aload_n 0, 1) := by decide +kernel
theorem dX9_text_13 : decode cX9_text 13 = .ok (.iconst 0, 1) := by decide +kernel
theorem dX9_text_14 : decode cX9_text 14 = .ok (.putfield 114, 3) := by decide +kernel
theorem dX9_text_17 : decode cX9_text 17 = .ok (.aload_n 0, 1) := by decide +kernel
theorem dX9_text_18 : decode cX9_text 18 = .ok (.iconst 0, 1) := by decide +kernel
theorem dX9_text_19 : decode cX9_text 19 = .ok (.putfield 130, 3) := by decide +kernel
theorem dX9_text_22 : decode cX9_text 22 = .ok (.iconst 1, 1) := by decide +kernel
theorem dX9_text_23 : decode cX9_text 23 = .ok (.istore_n 1, 1) := by decide +kernel
theorem dX9_text_24 : decode cX9_text 24 = .ok (.iconst 0, 1) := by decide +kernel
theorem dX9_text_25 : decode cX9_text 25 = .ok (.istore_n 2, 1) := by decide +kernel
theorem dX9_text_26 : decode cX9_text 26 = .ok (.iload_n 2, 1) := by decide +kernel
theorem dX9_text_27 : decode cX9_text 27 = .ok (.iconst 3, 1) := by decide +kernel
theorem dX9_text_28 : decode cX9_text 28 = .ok (.if_icmp .ge 73, 3) := by decide +kernel
theorem dX9_text_31 : decode cX9_text 31 = .ok (.iload_n 1, 1) := by decide +kernel
theorem dX9_text_32 : decode cX9_text 32 = .ok (.ifCond .eq 69, 3) := by decide +kernel
theorem dX9_text_35 : decode cX9_text 35 = .ok (.aload_n 0, 1) := by decide +kernel
theorem dX9_text_36 : decode cX9_text 36 = .ok (.invokevirtual 152, 3) := by decide +kernel
theorem dX9_text_39 : decode cX9_text 39 = .ok (.aload_n 0, 1) := by decide +kernel
theorem dX9_text_40 : decode cX9_text 40 = .ok (.getfield 120, 3) := by decide +kernel
theorem dX9_text_43 : decode cX9_text 43 = .ok (.iconst 3, 1) := by decide +kernel
theorem dX9_text_44 : decode cX9_text 44 = .ok (.if_icmp .ne 15, 3) := by decide +kernel
theorem dX9_text_47 : decode cX9_text 47 = .ok (.aload_n 0, 1) := by decide +kernel
theorem dX9_text_48 : decode cX9_text 48 = .ok (.getfield 123, 3) := by decide +kernel
theorem dX9_text_51 : decode cX9_text 51 = .ok (.iload_n 2, 1) := by decide +kernel
theorem dX9_text_52 : decode cX9_text 52 = .ok (.if_icmp .ne 7, 3) := by decide +kernel
theorem dX9_text_55 : decode cX9_text 55 = .ok (.iconst 1, 1) := by decide +kernel
theorem dX9_text_56 : decode cX9_text 56 = .ok (.goto 4, 3) := by decide +kernel
theorem dX9_text_59 : decode cX9_text 59 = .ok (.iconst 0, 1) := by decide +kernel
theorem dX9_text_60 : decode cX9_text 60 = .ok (.istore_n 1, 1) := by decide +kernel
theorem dX9_text_61 : decode cX9_text 61 = .ok (.aload_n 0, 1) := by decide +kernel
theorem dX9_text_62 : decode cX9_text 62 = .ok (.getfield 31, 3) := by decide +kernel
theorem dX9_text_65 : decode cX9_text 65 = .ok (.iconst 4, 1) := by decide +kernel
theorem dX9_text_66 : decode cX9_text 66 = .ok (.aload_n 0, 1) := by decide +kernel
theorem dX9_text_67 : decode cX9_text 67 = .ok (.getfield 105, 3) := by decide +kernel
theorem dX9_text_70 : decode cX9_text 70 = .ok (.imul, 1) := by decide +kernel
theorem dX9_text_71 : decode cX9_text 71 = .ok (.iload_n 2, 1) := by decide +kernel
theorem dX9_text_72 : decode cX9_text 72 = .ok (.iadd, 1) := by decide +kernel
theorem dX9_text_73 : decode cX9_text 73 = .ok (.aload_n 0, 1) := by decide +kernel
theorem dX9_text_74 : decode cX9_text 74 = .ok (.getfield 130, 3) := by decide +kernel
theorem dX9_text_77 : decode cX9_text 77 = .ok (.iastore, 1) := by decide +kernel
theorem dX9_text_78 : decode cX9_text 78 = .ok (.iload_n 1, 1) := by decide +kernel
theorem dX9_text_79 : decode cX9_text 79 = .ok (.ifCond .eq 14, 3) := by decide +kernel
theorem dX9_text_82 : decode cX9_text 82 = .ok (.aload_n 0, 1) := by decide +kernel
theorem dX9_text_83 : decode cX9_text 83 = .ok (.invokevirtual 165, 3) := by decide +kernel
theorem dX9_text_86 : decode cX9_text 86 = .ok (.ifCond .eq 7, 3) := by decide +kernel
theorem dX9_text_89 : decode cX9_text 89 = .ok (.iconst 1, 1) := by decide +kernel
theorem dX9_text_90 : decode cX9_text 90 = .ok (.goto 4, 3) := by decide +kernel
theorem dX9_text_93 : decode cX9_text 93 = .ok (.iconst 0, 1) := by decide +kernel
theorem dX9_text_94 : decode cX9_text 94 = .ok (.istore_n 1, 1) := by decide +kernel
theorem dX9_text_95 : decode cX9_text 95 = .ok (.iinc 2 1, 3) := by decide +kernel
theorem dX9_text_98 : decode cX9_text 98 = .ok (.goto (-72), 3) := by decide +kernel
theorem dX9_text_101 : decode cX9_text 101 = .ok (.iload_n 1, 1) := by decide +kernel
theorem dX9_text_102 : decode cX9_text 102 = .ok (.ifCond .eq 20, 3) := by decide +kernel
theorem dX9_text_105 : decode cX9_text 105 = .ok (.aload_n 0, 1) := by decide +kernel
theorem dX9_text_106 : decode cX9_text 106 = .ok (.invokevirtual 152, 3) := by decide +kernel
theorem dX9_text_109 : decode cX9_text 109 = .ok (.aload_n 0, 1) := by decide +kernel
theorem dX9_text_110 : decode cX9_text 110 = .ok (.getfield 120, 3) := by decide +kernel
theorem dX9_text_113 : decode cX9_text 113 = .ok (.ifCond .ne 7, 3) := by decide +kernel
theorem dX9_text_116 : decode cX9_text 116 = .ok (.iconst 1, 1) := by decide +kernel
theorem dX9_text_117 : decode cX9_text 117 = .ok (.goto 4, 3) := by decide +kernel
theorem dX9_text_120 : decode cX9_text 120 = .ok (.iconst 0, 1) := by decide +kernel
theorem dX9_text_121 : decode cX9_text 121 = .ok (.istore_n 1, 1) := by decide +kernel
theorem dX9_text_122 : decode cX9_text 122 = .ok (.aload_n 0, 1) := by decide +kernel
theorem dX9_text_123 : decode cX9_text 123 = .ok (.getfield 31, 3) := by decide +kernel
theorem dX9_text_126 : decode cX9_text 126 = .ok (.iconst 4, 1) := by decide +kernel
theorem dX9_text_127 : decode cX9_text 127 = .ok (.aload_n 0, 1) := by decide +kernel
theorem dX9_text_128 : decode cX9_text 128 = .ok (.getfield 105, 3) := by decide +kernel
theorem dX9_text_131 : decode cX9_text 131 = .ok (.imul, 1) := by decide +kernel
theorem dX9_text_132 : decode cX9_text 132 = .ok (.iconst 3, 1) := by decide +kernel
theorem dX9_text_133 : decode cX9_text 133 = .ok (.iadd, 1) := by decide +kernel
theorem dX9_text_134 : decode cX9_text 134 = .ok (.aload_n 0, 1) := by decide +kernel
theorem dX9_text_135 : decode cX9_text 135 = .ok (.getfield 130, 3) := by decide +kernel
theorem dX9_text_138 : decode cX9_text 138 = .ok (.iastore, 1) := by decide +kernel
theorem dX9_text_139 : decode cX9_text 139 = .ok (.aload_n 0, 1) := by decide +kernel
theorem dX9_text_140 : decode cX9_text 140 = .ok (.iconst 0, 1) := by decide +kernel
theorem dX9_text_141 : decode cX9_text 141 = .ok (.putfield 70, 3) := by decide +kernel
theorem dX9_text_144 : decode cX9_text 144 = .ok (.iload_n 1, 1) := by decide +kernel
theorem dX9_text_145 : decode cX9_text 145 = .ok (.ifCond .ne 11, 3) := by decide +kernel
theorem dX9_text_148 : decode cX9_text 148 = .ok (.bipush (-100), 2) := by decide +kernel
theorem dX9_text_150 : decode cX9_text 150 = .ok (.aload_n 0, 1) := by decide +kernel
theorem dX9_text_151 : decode cX9_text 151 = .ok (.getfield 117, 3) := by decide +kernel
theorem dX9_text_154 : decode cX9_text 154 = .ok (.isub, 1) := by decide +kernel
theorem dX9_text_155 : decode cX9_text 155 = .ok (.ireturn, 1) := by decide +kernel
theorem dX9_text_156 : decode cX9_text 156 = .ok (.aload_n 0, 1) := by decide +kernel
theorem dX9_text_157 : decode cX9_text 157 = .ok (.dup, 1) := by decide +kernel
theorem dX9_text_158 : decode cX9_text 158 = .ok (.getfield 105, 3) := by decide +kernel
theorem dX9_text_161 : decode cX9_text 161 = .ok (.iconst 1, 1) := by decide +kernel
theorem dX9_text_162 : decode cX9_text 162 = .ok (.iadd, 1) := by decide +kernel
theorem dX9_text_163 : decode cX9_text 163 = .ok (.putfield 105, 3) := by decide +kernel
theorem dX9_text_166 : decode cX9_text 166 = .ok (.aload_n 0, 1) := by decide +kernel
theorem dX9_text_167 : decode cX9_text 167 = .ok (.getfield 105, 3) := by decide +kernel
theorem dX9_text_170 : decode cX9_text 170 = .ok (.iconst 1, 1) := by decide +kernel
theorem dX9_text_171 : decode cX9_text 171 = .ok (.isub, 1) := by decide +kernel
theorem dX9_text_172 : decode cX9_text 172 = .ok (.ireturn, 1) := by decide +kernel
theorem dX9_two_0 : decode cX9_two 0 = .ok (.iload_n 0, 1) := by decide +kernel
theorem dX9_two_1 : decode cX9_two 1 = .ok (.tableswitch 101 11 17 #[43, 57, 101, 71, 82, 93, 97], 43) := by decide +kernel
theorem dX9_two_44 : decode cX9_two 44 = .ok (.iload_n 1, 1) := by decide +kernel
theorem dX9_two_45 : decode cX9_two 45 = .ok (.ifCond .ne 7, 3) := by decide +kernel
theorem dX9_two_48 : decode cX9_two 48 = .ok (.iload_n 2, 1) := by decide +kernel
theorem dX9_two_49 : decode cX9_two 49 = .ok (.ifCond .eq 7, 3) := by decide +kernel
theorem dX9_two_52 : decode cX9_two 52 = .ok (.iconst 1, 1) := by decide +kernel
theorem dX9_two_53 : decode cX9_two 53 = .ok (.goto 4, 3) := by decide +kernel
theorem dX9_two_56 : decode cX9_two 56 = .ok (.iconst 0, 1) := by decide +kernel
theorem dX9_two_57 : decode cX9_two 57 = .ok (.ireturn, 1) := by decide +kernel
theorem dX9_two_58 : decode cX9_two 58 = .ok (.iload_n 1, 1) := by decide +kernel
theorem dX9_two_59 : decode cX9_two 59 = .ok (.ifCond .eq 11, 3) := by decide +kernel
theorem dX9_two_62 : decode cX9_two 62 = .ok (.iload_n 2, 1) := by decide +kernel
theorem dX9_two_63 : decode cX9_two 63 = .ok (.ifCond .eq 7, 3) := by decide +kernel
theorem dX9_two_66 : decode cX9_two 66 = .ok (.iconst 1, 1) := by decide +kernel
theorem dX9_two_67 : decode cX9_two 67 = .ok (.goto 4, 3) := by decide +kernel
theorem dX9_two_70 : decode cX9_two 70 = .ok (.iconst 0, 1) := by decide +kernel
theorem dX9_two_71 : decode cX9_two 71 = .ok (.ireturn, 1) := by decide +kernel
theorem dX9_two_72 : decode cX9_two 72 = .ok (.iload_n 1, 1) := by decide +kernel
theorem dX9_two_73 : decode cX9_two 73 = .ok (.iload_n 2, 1) := by decide +kernel
theorem dX9_two_74 : decode cX9_two 74 = .ok (.if_icmp .ge 7, 3) := by decide +kernel
theorem dX9_two_77 : decode cX9_two 77 = .ok (.iconst 1, 1) := by decide +kernel
theorem dX9_two_78 : decode cX9_two 78 = .ok (.goto 4, 3) := by decide +kernel
theorem dX9_two_81 : decode cX9_two 81 = .ok (.iconst 0, 1) := by decide +kernel
theorem dX9_two_82 : decode cX9_two 82 = .ok (.ireturn, 1) := by decide +kernel
theorem dX9_two_83 : decode cX9_two 83 = .ok (.iload_n 1, 1) := by decide +kernel
theorem dX9_two_84 : decode cX9_two 84 = .ok (.iload_n 2, 1) := by decide +kernel
theorem dX9_two_85 : decode cX9_two 85 = .ok (.if_icmp .ne 7, 3) := by decide +kernel
theorem dX9_two_88 : decode cX9_two 88 = .ok (.iconst 1, 1) := by decide +kernel
theorem dX9_two_89 : decode cX9_two 89 = .ok (.goto 4, 3) := by decide +kernel
theorem dX9_two_92 : decode cX9_two 92 = .ok (.iconst 0, 1) := by decide +kernel
theorem dX9_two_93 : decode cX9_two 93 = .ok (.ireturn, 1) := by decide +kernel
theorem dX9_two_94 : decode cX9_two 94 = .ok (.iload_n 1, 1) := by decide +kernel
theorem dX9_two_95 : decode cX9_two 95 = .ok (.iload_n 2, 1) := by decide +kernel
theorem dX9_two_96 : decode cX9_two 96 = .ok (.iadd, 1) := by decide +kernel
theorem dX9_two_97 : decode cX9_two 97 = .ok (.ireturn, 1) := by decide +kernel
theorem dX9_two_98 : decode cX9_two 98 = .ok (.iload_n 1, 1) := by decide +kernel
theorem dX9_two_99 : decode cX9_two 99 = .ok (.iload_n 2, 1) := by decide +kernel
theorem dX9_two_100 : decode cX9_two 100 = .ok (.isub, 1) := by decide +kernel
theorem dX9_two_101 : decode cX9_two 101 = .ok (.ireturn, 1) := by decide +kernel
theorem dX9_two_102 : decode cX9_two 102 = .ok (.iload_n 1, 1) := by decide +kernel
theorem dX9_two_103 : decode cX9_two 103 = .ok (.iload_n 2, 1) := by decide +kernel
theorem dX9_two_104 : decode cX9_two 104 = .ok (.imul, 1) := by decide +kernel
theorem dX9_two_105 : decode cX9_two 105 = .ok (.ireturn, 1) := by decide +kernel
theorem dX9_says_0 : decode cX9_says 0 = .ok (.iconst 0, 1) := by decide +kernel
theorem dX9_says_1 : decode cX9_says 1 = .ok (.istore_n 2, 1) := by decide +kernel
theorem dX9_says_2 : decode cX9_says 2 = .ok (.aload_n 0, 1) := by decide +kernel
theorem dX9_says_3 : decode cX9_says 3 = .ok (.getfield 31, 3) := by decide +kernel
theorem dX9_says_6 : decode cX9_says 6 = .ok (.iconst 4, 1) := by decide +kernel
theorem dX9_says_7 : decode cX9_says 7 = .ok (.aload_n 0, 1) := by decide +kernel
theorem dX9_says_8 : decode cX9_says 8 = .ok (.getfield 108, 3) := by decide +kernel
theorem dX9_says_11 : decode cX9_says 11 = .ok (.imul, 1) := by decide +kernel
theorem dX9_says_12 : decode cX9_says 12 = .ok (.iload_n 1, 1) := by decide +kernel
theorem dX9_says_13 : decode cX9_says 13 = .ok (.iadd, 1) := by decide +kernel
theorem dX9_says_14 : decode cX9_says 14 = .ok (.iaload, 1) := by decide +kernel
theorem dX9_says_15 : decode cX9_says 15 = .ok (.istore_n 3, 1) := by decide +kernel
theorem dX9_says_16 : decode cX9_says 16 = .ok (.iload_n 3, 1) := by decide +kernel
theorem dX9_says_17 : decode cX9_says 17 = .ok (.aload_n 0, 1) := by decide +kernel
theorem dX9_says_18 : decode cX9_says 18 = .ok (.getfield 31, 3) := by decide +kernel
theorem dX9_says_21 : decode cX9_says 21 = .ok (.iconst 4, 1) := by decide +kernel
theorem dX9_says_22 : decode cX9_says 22 = .ok (.aload_n 0, 1) := by decide +kernel
theorem dX9_says_23 : decode cX9_says 23 = .ok (.getfield 108, 3) := by decide +kernel
theorem dX9_says_26 : decode cX9_says 26 = .ok (.imul, 1) := by decide +kernel
theorem dX9_says_27 : decode cX9_says 27 = .ok (.iload_n 1, 1) := by decide +kernel
theorem dX9_says_28 : decode cX9_says 28 = .ok (.iadd, 1) := by decide +kernel
theorem dX9_says_29 : decode cX9_says 29 = .ok (.iconst 1, 1) := by decide +kernel
theorem dX9_says_30 : decode cX9_says 30 = .ok (.iadd, 1) := by decide +kernel
theorem dX9_says_31 : decode cX9_says 31 = .ok (.iaload, 1) := by decide +kernel
theorem dX9_says_32 : decode cX9_says 32 = .ok (.if_icmp .ge 165, 3) := by decide +kernel
theorem dX9_says_35 : decode cX9_says 35 = .ok (.aload_n 0, 1) := by decide +kernel
theorem dX9_says_36 : decode cX9_says 36 = .ok (.getfield 28, 3) := by decide +kernel
theorem dX9_says_39 : decode cX9_says 39 = .ok (.sipush 200, 3) := by decide +kernel
theorem dX9_says_42 : decode cX9_says 42 = .ok (.aload_n 0, 1) := by decide +kernel
theorem dX9_says_43 : decode cX9_says 43 = .ok (.getfield 108, 3) := by decide +kernel
theorem dX9_says_46 : decode cX9_says 46 = .ok (.imul, 1) := by decide +kernel
theorem dX9_says_47 : decode cX9_says 47 = .ok (.iload_n 3, 1) := by decide +kernel
theorem dX9_says_48 : decode cX9_says 48 = .ok (.iadd, 1) := by decide +kernel
theorem dX9_says_49 : decode cX9_says 49 = .ok (.iaload, 1) := by decide +kernel
theorem dX9_says_50 : decode cX9_says 50 = .ok (.istore 4, 2) := by decide +kernel
theorem dX9_says_52 : decode cX9_says 52 = .ok (.iload 4, 2) := by decide +kernel
theorem dX9_says_54 : decode cX9_says 54 = .ok (.ldc 155, 2) := by decide +kernel
theorem dX9_says_56 : decode cX9_says 56 = .ok (.if_icmp .ge 10, 3) := by decide +kernel
theorem dX9_says_59 : decode cX9_says 59 = .ok (.iload 4, 2) := by decide +kernel
theorem dX9_says_61 : decode cX9_says 61 = .ok (.bipush 11, 2) := by decide +kernel
theorem dX9_says_63 : decode cX9_says 63 = .ok (.if_icmp .ge 37, 3) := by decide +kernel
theorem dX9_says_66 : decode cX9_says 66 = .ok (.aload_n 0, 1) := by decide +kernel
theorem dX9_says_67 : decode cX9_says 67 = .ok (.getfield 55, 3) := by decide +kernel
theorem dX9_says_70 : decode cX9_says 70 = .ok (.iload_n 2, 1) := by decide +kernel
theorem dX9_says_71 : decode cX9_says 71 = .ok (.iload 4, 2) := by decide +kernel
theorem dX9_says_73 : decode cX9_says 73 = .ok (.bipush 11, 2) := by decide +kernel
theorem dX9_says_75 : decode cX9_says 75 = .ok (.if_icmp .ge 13, 3) := by decide +kernel
theorem dX9_says_78 : decode cX9_says 78 = .ok (.aload_n 0, 1) := by decide +kernel
theorem dX9_says_79 : decode cX9_says 79 = .ok (.getfield 58, 3) := by decide +kernel
theorem dX9_says_82 : decode cX9_says 82 = .ok (.iload 4, 2) := by decide +kernel
theorem dX9_says_84 : decode cX9_says 84 = .ok (.iaload, 1) := by decide +kernel
theorem dX9_says_85 : decode cX9_says 85 = .ok (.goto 8, 3) := by decide +kernel
theorem dX9_says_88 : decode cX9_says 88 = .ok (.iload 4, 2) := by decide +kernel
theorem dX9_says_90 : decode cX9_says 90 = .ok (.ldc 155, 2) := by decide +kernel
theorem dX9_says_92 : decode cX9_says 92 = .ok (.isub, 1) := by decide +kernel
theorem dX9_says_93 : decode cX9_says 93 = .ok (.iastore, 1) := by decide +kernel
theorem dX9_says_94 : decode cX9_says 94 = .ok (.iinc 2 1, 3) := by decide +kernel
theorem dX9_says_97 : decode cX9_says 97 = .ok (.goto 94, 3) := by decide +kernel
theorem dX9_says_100 : decode cX9_says 100 = .ok (.iload 4, 2) := by decide +kernel
theorem dX9_says_102 : decode cX9_says 102 = .ok (.bipush 13, 2) := by decide +kernel
theorem dX9_says_104 : decode cX9_says 104 = .ok (.if_icmp .ne 30, 3) := by decide +kernel
theorem dX9_says_107 : decode cX9_says 107 = .ok (.aload_n 0, 1) := by decide +kernel
theorem dX9_says_108 : decode cX9_says 108 = .ok (.getfield 55, 3) := by decide +kernel
theorem dX9_says_111 : decode cX9_says 111 = .ok (.iload_n 2, 1) := by decide +kernel
theorem dX9_says_112 : decode cX9_says 112 = .ok (.iconst 1, 1) := by decide +kernel
theorem dX9_says_113 : decode cX9_says 113 = .ok (.isub, 1) := by decide +kernel
theorem dX9_says_114 : decode cX9_says 114 = .ok (.aload_n 0, 1) := by decide +kernel
theorem dX9_says_115 : decode cX9_says 115 = .ok (.getfield 55, 3) := by decide +kernel
theorem dX9_says_118 : decode cX9_says 118 = .ok (.iload_n 2, 1) := by decide +kernel
theorem dX9_says_119 : decode cX9_says 119 = .ok (.iconst 1, 1) := by decide +kernel
theorem dX9_says_120 : decode cX9_says 120 = .ok (.isub, 1) := by decide +kernel
theorem dX9_says_121 : decode cX9_says 121 = .ok (.iaload, 1) := by decide +kernel
theorem dX9_says_122 : decode cX9_says 122 = .ok (.ifCond .ne 7, 3) := by decide +kernel
theorem dX9_says_125 : decode cX9_says 125 = .ok (.iconst 1, 1) := by decide +kernel
theorem dX9_says_126 : decode cX9_says 126 = .ok (.goto 4, 3) := by decide +kernel
theorem dX9_says_129 : decode cX9_says 129 = .ok (.iconst 0, 1) := by decide +kernel
theorem dX9_says_130 : decode cX9_says 130 = .ok (.iastore, 1) := by decide +kernel
theorem dX9_says_131 : decode cX9_says 131 = .ok (.goto 60, 3) := by decide +kernel
theorem dX9_says_134 : decode cX9_says 134 = .ok (.iload 4, 2) := by decide +kernel
theorem dX9_says_136 : decode cX9_says 136 = .ok (.bipush 19, 2) := by decide +kernel
theorem dX9_says_138 : decode cX9_says 138 = .ok (.if_icmp .ne 23, 3) := by decide +kernel
theorem dX9_says_141 : decode cX9_says 141 = .ok (.aload_n 0, 1) := by decide +kernel
theorem dX9_says_142 : decode cX9_says 142 = .ok (.getfield 55, 3) := by decide +kernel
theorem dX9_says_145 : decode cX9_says 145 = .ok (.iload_n 2, 1) := by decide +kernel
theorem dX9_says_146 : decode cX9_says 146 = .ok (.iconst 1, 1) := by decide +kernel
theorem dX9_says_147 : decode cX9_says 147 = .ok (.isub, 1) := by decide +kernel
theorem dX9_says_148 : decode cX9_says 148 = .ok (.aload_n 0, 1) := by decide +kernel
theorem dX9_says_149 : decode cX9_says 149 = .ok (.getfield 55, 3) := by decide +kernel
theorem dX9_says_152 : decode cX9_says 152 = .ok (.iload_n 2, 1) := by decide +kernel
theorem dX9_says_153 : decode cX9_says 153 = .ok (.iconst 1, 1) := by decide +kernel
theorem dX9_says_154 : decode cX9_says 154 = .ok (.isub, 1) := by decide +kernel
theorem dX9_says_155 : decode cX9_says 155 = .ok (.iaload, 1) := by decide +kernel
theorem dX9_says_156 : decode cX9_says 156 = .ok (.ineg, 1) := by decide +kernel
theorem dX9_says_157 : decode cX9_says 157 = .ok (.iastore, 1) := by decide +kernel
theorem dX9_says_158 : decode cX9_says 158 = .ok (.goto 33, 3) := by decide +kernel
theorem dX9_says_161 : decode cX9_says 161 = .ok (.iinc 2 (-1), 3) := by decide +kernel
theorem dX9_says_164 : decode cX9_says 164 = .ok (.aload_n 0, 1) := by decide +kernel
theorem dX9_says_165 : decode cX9_says 165 = .ok (.getfield 55, 3) := by decide +kernel
theorem dX9_says_168 : decode cX9_says 168 = .ok (.iload_n 2, 1) := by decide +kernel
theorem dX9_says_169 : decode cX9_says 169 = .ok (.iconst 1, 1) := by decide +kernel
theorem dX9_says_170 : decode cX9_says 170 = .ok (.isub, 1) := by decide +kernel
theorem dX9_says_171 : decode cX9_says 171 = .ok (.iload 4, 2) := by decide +kernel
theorem dX9_says_173 : decode cX9_says 173 = .ok (.aload_n 0, 1) := by decide +kernel
theorem dX9_says_174 : decode cX9_says 174 = .ok (.getfield 55, 3) := by decide +kernel
theorem dX9_says_177 : decode cX9_says 177 = .ok (.iload_n 2, 1) := by decide +kernel
theorem dX9_says_178 : decode cX9_says 178 = .ok (.iconst 1, 1) := by decide +kernel
theorem dX9_says_179 : decode cX9_says 179 = .ok (.isub, 1) := by decide +kernel
theorem dX9_says_180 : decode cX9_says 180 = .ok (.iaload, 1) := by decide +kernel
theorem dX9_says_181 : decode cX9_says 181 = .ok (.aload_n 0, 1) := by decide +kernel
theorem dX9_says_182 : decode cX9_says 182 = .ok (.getfield 55, 3) := by decide +kernel
theorem dX9_says_185 : decode cX9_says 185 = .ok (.iload_n 2, 1) := by decide +kernel
theorem dX9_says_186 : decode cX9_says 186 = .ok (.iaload, 1) := by decide +kernel
theorem dX9_says_187 : decode cX9_says 187 = .ok (.invokestatic 169, 3) := by decide +kernel
theorem dX9_says_190 : decode cX9_says 190 = .ok (.iastore, 1) := by decide +kernel
theorem dX9_says_191 : decode cX9_says 191 = .ok (.iinc 3 1, 3) := by decide +kernel
theorem dX9_says_194 : decode cX9_says 194 = .ok (.goto (-178), 3) := by decide +kernel
theorem dX9_says_197 : decode cX9_says 197 = .ok (.aload_n 0, 1) := by decide +kernel
theorem dX9_says_198 : decode cX9_says 198 = .ok (.getfield 55, 3) := by decide +kernel
theorem dX9_says_201 : decode cX9_says 201 = .ok (.iconst 0, 1) := by decide +kernel
theorem dX9_says_202 : decode cX9_says 202 = .ok (.iaload, 1) := by decide +kernel
theorem dX9_says_203 : decode cX9_says 203 = .ok (.ireturn, 1) := by decide +kernel
theorem dX9_force_0 : decode cX9_force 0 = .ok (.iload_n 1, 1) := by decide +kernel
theorem dX9_force_1 : decode cX9_force 1 = .ok (.iconst 0, 1) := by decide +kernel
theorem dX9_force_2 : decode cX9_force 2 = .ok (.aload_n 0, 1) := by decide +kernel
theorem dX9_force_3 : decode cX9_force 3 = .ok (.getfield 105, 3) := by decide +kernel
theorem dX9_force_6 : decode cX9_force 6 = .ok (.iconst 1, 1) := by decide +kernel
theorem dX9_force_7 : decode cX9_force 7 = .ok (.isub, 1) := by decide +kernel
theorem dX9_force_8 : decode cX9_force 8 = .ok (.invokestatic 81, 3) := by decide +kernel
theorem dX9_force_11 : decode cX9_force 11 = .ok (.ifCond .ne 6, 3) := by decide +kernel
theorem dX9_force_14 : decode cX9_force 14 = .ok (.bipush (-2), 2) := by decide +kernel
theorem dX9_force_16 : decode cX9_force 16 = .ok (.ireturn, 1) := by decide +kernel
theorem dX9_force_17 : decode cX9_force 17 = .ok (.aload_n 0, 1) := by decide +kernel
theorem dX9_force_18 : decode cX9_force 18 = .ok (.getfield 108, 3) := by decide +kernel
theorem dX9_force_21 : decode cX9_force 21 = .ok (.istore_n 2, 1) := by decide +kernel
theorem dX9_force_22 : decode cX9_force 22 = .ok (.aload_n 0, 1) := by decide +kernel
theorem dX9_force_23 : decode cX9_force 23 = .ok (.iload_n 1, 1) := by decide +kernel
theorem dX9_force_24 : decode cX9_force 24 = .ok (.putfield 108, 3) := by decide +kernel
theorem dX9_force_27 : decode cX9_force 27 = .ok (.iload_n 2, 1) := by decide +kernel
theorem dX9_force_28 : decode cX9_force 28 = .ok (.ireturn, 1) := by decide +kernel
theorem dX9_asksOf_0 : decode cX9_asksOf 0 = .ok (.aload_n 0, 1) := by decide +kernel
theorem dX9_asksOf_1 : decode cX9_asksOf 1 = .ok (.getfield 58, 3) := by decide +kernel
theorem dX9_asksOf_4 : decode cX9_asksOf 4 = .ok (.iconst 0, 1) := by decide +kernel
theorem dX9_asksOf_5 : decode cX9_asksOf 5 = .ok (.iload_n 3, 1) := by decide +kernel
theorem dX9_asksOf_6 : decode cX9_asksOf 6 = .ok (.iastore, 1) := by decide +kernel
theorem dX9_asksOf_7 : decode cX9_asksOf 7 = .ok (.aload_n 0, 1) := by decide +kernel
theorem dX9_asksOf_8 : decode cX9_asksOf 8 = .ok (.getfield 58, 3) := by decide +kernel
theorem dX9_asksOf_11 : decode cX9_asksOf 11 = .ok (.iconst 1, 1) := by decide +kernel
theorem dX9_asksOf_12 : decode cX9_asksOf 12 = .ok (.iload_n 2, 1) := by decide +kernel
theorem dX9_asksOf_13 : decode cX9_asksOf 13 = .ok (.iastore, 1) := by decide +kernel
theorem dX9_asksOf_14 : decode cX9_asksOf 14 = .ok (.aload_n 0, 1) := by decide +kernel
theorem dX9_asksOf_15 : decode cX9_asksOf 15 = .ok (.getfield 58, 3) := by decide +kernel
theorem dX9_asksOf_18 : decode cX9_asksOf 18 = .ok (.iconst 2, 1) := by decide +kernel
theorem dX9_asksOf_19 : decode cX9_asksOf 19 = .ok (.aload_n 0, 1) := by decide +kernel
theorem dX9_asksOf_20 : decode cX9_asksOf 20 = .ok (.getfield 16, 3) := by decide +kernel
theorem dX9_asksOf_23 : decode cX9_asksOf 23 = .ok (.iload_n 2, 1) := by decide +kernel
theorem dX9_asksOf_24 : decode cX9_asksOf 24 = .ok (.iaload, 1) := by decide +kernel
theorem dX9_asksOf_25 : decode cX9_asksOf 25 = .ok (.invokestatic 92, 3) := by decide +kernel
theorem dX9_asksOf_28 : decode cX9_asksOf 28 = .ok (.iastore, 1) := by decide +kernel
theorem dX9_asksOf_29 : decode cX9_asksOf 29 = .ok (.aload_n 0, 1) := by decide +kernel
theorem dX9_asksOf_30 : decode cX9_asksOf 30 = .ok (.getfield 58, 3) := by decide +kernel
theorem dX9_asksOf_33 : decode cX9_asksOf 33 = .ok (.iconst 3, 1) := by decide +kernel
theorem dX9_asksOf_34 : decode cX9_asksOf 34 = .ok (.iload 4, 2) := by decide +kernel
theorem dX9_asksOf_36 : decode cX9_asksOf 36 = .ok (.iastore, 1) := by decide +kernel
theorem dX9_asksOf_37 : decode cX9_asksOf 37 = .ok (.aload_n 0, 1) := by decide +kernel
theorem dX9_asksOf_38 : decode cX9_asksOf 38 = .ok (.getfield 58, 3) := by decide +kernel
theorem dX9_asksOf_41 : decode cX9_asksOf 41 = .ok (.iconst 4, 1) := by decide +kernel
theorem dX9_asksOf_42 : decode cX9_asksOf 42 = .ok (.aload_n 0, 1) := by decide +kernel
theorem dX9_asksOf_43 : decode cX9_asksOf 43 = .ok (.getfield 13, 3) := by decide +kernel
theorem dX9_asksOf_46 : decode cX9_asksOf 46 = .ok (.iload_n 2, 1) := by decide +kernel
theorem dX9_asksOf_47 : decode cX9_asksOf 47 = .ok (.iaload, 1) := by decide +kernel
theorem dX9_asksOf_48 : decode cX9_asksOf 48 = .ok (.iastore, 1) := by decide +kernel
theorem dX9_asksOf_49 : decode cX9_asksOf 49 = .ok (.aload_n 0, 1) := by decide +kernel
theorem dX9_asksOf_50 : decode cX9_asksOf 50 = .ok (.getfield 58, 3) := by decide +kernel
theorem dX9_asksOf_53 : decode cX9_asksOf 53 = .ok (.iconst 5, 1) := by decide +kernel
theorem dX9_asksOf_54 : decode cX9_asksOf 54 = .ok (.aload_n 0, 1) := by decide +kernel
theorem dX9_asksOf_55 : decode cX9_asksOf 55 = .ok (.getfield 78, 3) := by decide +kernel
theorem dX9_asksOf_58 : decode cX9_asksOf 58 = .ok (.iastore, 1) := by decide +kernel
theorem dX9_asksOf_59 : decode cX9_asksOf 59 = .ok (.aload_n 0, 1) := by decide +kernel
theorem dX9_asksOf_60 : decode cX9_asksOf 60 = .ok (.iload_n 1, 1) := by decide +kernel
theorem dX9_asksOf_61 : decode cX9_asksOf 61 = .ok (.invokevirtual 173, 3) := by decide +kernel
theorem dX9_asksOf_64 : decode cX9_asksOf 64 = .ok (.istore 5, 2) := by decide +kernel
theorem dX9_asksOf_66 : decode cX9_asksOf 66 = .ok (.iload_n 1, 1) := by decide +kernel
theorem dX9_asksOf_67 : decode cX9_asksOf 67 = .ok (.iconst 2, 1) := by decide +kernel
theorem dX9_asksOf_68 : decode cX9_asksOf 68 = .ok (.if_icmp .ne 16, 3) := by decide +kernel
theorem dX9_asksOf_71 : decode cX9_asksOf 71 = .ok (.iload 5, 2) := by decide +kernel
theorem dX9_asksOf_73 : decode cX9_asksOf 73 = .ok (.ifCond .ne 7, 3) := by decide +kernel
theorem dX9_asksOf_76 : decode cX9_asksOf 76 = .ok (.iconst 0, 1) := by decide +kernel
theorem dX9_asksOf_77 : decode cX9_asksOf 77 = .ok (.goto 15, 3) := by decide +kernel
theorem dX9_asksOf_80 : decode cX9_asksOf 80 = .ok (.iconst 1, 1) := by decide +kernel
theorem dX9_asksOf_81 : decode cX9_asksOf 81 = .ok (.goto 11, 3) := by decide +kernel
theorem dX9_asksOf_84 : decode cX9_asksOf 84 = .ok (.iload 5, 2) := by decide +kernel
theorem dX9_asksOf_86 : decode cX9_asksOf 86 = .ok (.iconst 0, 1) := by decide +kernel
theorem dX9_asksOf_87 : decode cX9_asksOf 87 = .ok (.bipush 99, 2) := by decide +kernel
theorem dX9_asksOf_89 : decode cX9_asksOf 89 = .ok (.invokestatic 176, 3) := by decide +kernel
theorem dX9_asksOf_92 : decode cX9_asksOf 92 = .ok (.ireturn, 1) := by decide +kernel
theorem dX9_asks_0 : decode cX9_asks 0 = .ok (.aload_n 0, 1) := by decide +kernel
theorem dX9_asks_1 : decode cX9_asks 1 = .ok (.iload_n 2, 1) := by decide +kernel
theorem dX9_asks_2 : decode cX9_asks 2 = .ok (.invokevirtual 85, 3) := by decide +kernel
theorem dX9_asks_5 : decode cX9_asks 5 = .ok (.ifCond .ne 6, 3) := by decide +kernel
theorem dX9_asks_8 : decode cX9_asks 8 = .ok (.bipush (-5), 2) := by decide +kernel
theorem dX9_asks_10 : decode cX9_asks 10 = .ok (.ireturn, 1) := by decide +kernel
theorem dX9_asks_11 : decode cX9_asks 11 = .ok (.iload_n 1, 1) := by decide +kernel
theorem dX9_asks_12 : decode cX9_asks 12 = .ok (.iconst 0, 1) := by decide +kernel
theorem dX9_asks_13 : decode cX9_asks 13 = .ok (.iconst 2, 1) := by decide +kernel
theorem dX9_asks_14 : decode cX9_asks 14 = .ok (.invokestatic 81, 3) := by decide +kernel
theorem dX9_asks_17 : decode cX9_asks 17 = .ok (.ifCond .eq 36, 3) := by decide +kernel
theorem dX9_asks_20 : decode cX9_asks 20 = .ok (.iload_n 3, 1) := by decide +kernel
theorem dX9_asks_21 : decode cX9_asks 21 = .ok (.iconst 0, 1) := by decide +kernel
theorem dX9_asks_22 : decode cX9_asks 22 = .ok (.bipush 11, 2) := by decide +kernel
theorem dX9_asks_24 : decode cX9_asks 24 = .ok (.invokestatic 81, 3) := by decide +kernel
theorem dX9_asks_27 : decode cX9_asks 27 = .ok (.ifCond .eq 26, 3) := by decide +kernel
theorem dX9_asks_30 : decode cX9_asks 30 = .ok (.iload 4, 2) := by decide +kernel
theorem dX9_asks_32 : decode cX9_asks 32 = .ok (.iconst 0, 1) := by decide +kernel
theorem dX9_asks_33 : decode cX9_asks 33 = .ok (.bipush 7, 2) := by decide +kernel
theorem dX9_asks_35 : decode cX9_asks 35 = .ok (.invokestatic 81, 3) := by decide +kernel
theorem dX9_asks_38 : decode cX9_asks 38 = .ok (.ifCond .eq 15, 3) := by decide +kernel
theorem dX9_asks_41 : decode cX9_asks 41 = .ok (.aload_n 0, 1) := by decide +kernel
theorem dX9_asks_42 : decode cX9_asks 42 = .ok (.iload_n 1, 1) := by decide +kernel
theorem dX9_asks_43 : decode cX9_asks 43 = .ok (.iload_n 2, 1) := by decide +kernel
theorem dX9_asks_44 : decode cX9_asks 44 = .ok (.iload_n 3, 1) := by decide +kernel
theorem dX9_asks_45 : decode cX9_asks 45 = .ok (.iload 4, 2) := by decide +kernel
theorem dX9_asks_47 : decode cX9_asks 47 = .ok (.invokevirtual 179, 3) := by decide +kernel
theorem dX9_asks_50 : decode cX9_asks 50 = .ok (.goto 5, 3) := by decide +kernel
theorem dX9_asks_53 : decode cX9_asks 53 = .ok (.bipush (-7), 2) := by decide +kernel
theorem dX9_asks_55 : decode cX9_asks 55 = .ok (.ireturn, 1) := by decide +kernel
theorem dX9_lot_0 : decode cX9_lot 0 = .ok (.iload_n 1, 1) := by decide +kernel
theorem dX9_lot_1 : decode cX9_lot 1 = .ok (.iconst 0, 1) := by decide +kernel
theorem dX9_lot_2 : decode cX9_lot 2 = .ok (.iconst 5, 1) := by decide +kernel
theorem dX9_lot_3 : decode cX9_lot 3 = .ok (.invokestatic 81, 3) := by decide +kernel
theorem dX9_lot_6 : decode cX9_lot 6 = .ok (.ifCond .eq 25, 3) := by decide +kernel
theorem dX9_lot_9 : decode cX9_lot 9 = .ok (.iload_n 2, 1) := by decide +kernel
theorem dX9_lot_10 : decode cX9_lot 10 = .ok (.iconst 0, 1) := by decide +kernel
theorem dX9_lot_11 : decode cX9_lot 11 = .ok (.bipush 9, 2) := by decide +kernel
theorem dX9_lot_13 : decode cX9_lot 13 = .ok (.invokestatic 81, 3) := by decide +kernel
theorem dX9_lot_16 : decode cX9_lot 16 = .ok (.ifCond .eq 15, 3) := by decide +kernel
theorem dX9_lot_19 : decode cX9_lot 19 = .ok (.iload_n 3, 1) := by decide +kernel
theorem dX9_lot_20 : decode cX9_lot 20 = .ok (.iconst 0, 1) := by decide +kernel
theorem dX9_lot_21 : decode cX9_lot 21 = .ok (.aload_n 0, 1) := by decide +kernel
theorem dX9_lot_22 : decode cX9_lot 22 = .ok (.invokevirtual 183, 3) := by decide +kernel
theorem dX9_lot_25 : decode cX9_lot 25 = .ok (.invokestatic 81, 3) := by decide +kernel
theorem dX9_lot_28 : decode cX9_lot 28 = .ok (.ifCond .ne 6, 3) := by decide +kernel
theorem dX9_lot_31 : decode cX9_lot 31 = .ok (.bipush (-2), 2) := by decide +kernel
theorem dX9_lot_33 : decode cX9_lot 33 = .ok (.ireturn, 1) := by decide +kernel
theorem dX9_lot_34 : decode cX9_lot 34 = .ok (.aload_n 0, 1) := by decide +kernel
theorem dX9_lot_35 : decode cX9_lot 35 = .ok (.getfield 78, 3) := by decide +kernel
theorem dX9_lot_38 : decode cX9_lot 38 = .ok (.bipush 7, 2) := by decide +kernel
theorem dX9_lot_40 : decode cX9_lot 40 = .ok (.if_icmp .ne 6, 3) := by decide +kernel
theorem dX9_lot_43 : decode cX9_lot 43 = .ok (.bipush (-4), 2) := by decide +kernel
theorem dX9_lot_45 : decode cX9_lot 45 = .ok (.ireturn, 1) := by decide +kernel
theorem dX9_lot_46 : decode cX9_lot 46 = .ok (.aload_n 0, 1) := by decide +kernel
theorem dX9_lot_47 : decode cX9_lot 47 = .ok (.getfield 7, 3) := by decide +kernel
theorem dX9_lot_50 : decode cX9_lot 50 = .ok (.aload_n 0, 1) := by decide +kernel
theorem dX9_lot_51 : decode cX9_lot 51 = .ok (.getfield 78, 3) := by decide +kernel
theorem dX9_lot_54 : decode cX9_lot 54 = .ok (.iload_n 1, 1) := by decide +kernel
theorem dX9_lot_55 : decode cX9_lot 55 = .ok (.iastore, 1) := by decide +kernel
theorem dX9_lot_56 : decode cX9_lot 56 = .ok (.aload_n 0, 1) := by decide +kernel
theorem dX9_lot_57 : decode cX9_lot 57 = .ok (.getfield 13, 3) := by decide +kernel
theorem dX9_lot_60 : decode cX9_lot 60 = .ok (.aload_n 0, 1) := by decide +kernel
theorem dX9_lot_61 : decode cX9_lot 61 = .ok (.getfield 78, 3) := by decide +kernel
theorem dX9_lot_64 : decode cX9_lot 64 = .ok (.iload_n 2, 1) := by decide +kernel
theorem dX9_lot_65 : decode cX9_lot 65 = .ok (.iastore, 1) := by decide +kernel
theorem dX9_lot_66 : decode cX9_lot 66 = .ok (.aload_n 0, 1) := by decide +kernel
theorem dX9_lot_67 : decode cX9_lot 67 = .ok (.getfield 19, 3) := by decide +kernel
theorem dX9_lot_70 : decode cX9_lot 70 = .ok (.aload_n 0, 1) := by decide +kernel
theorem dX9_lot_71 : decode cX9_lot 71 = .ok (.getfield 78, 3) := by decide +kernel
theorem dX9_lot_74 : decode cX9_lot 74 = .ok (.iconst (-1), 1) := by decide +kernel
theorem dX9_lot_75 : decode cX9_lot 75 = .ok (.iastore, 1) := by decide +kernel
theorem dX9_lot_76 : decode cX9_lot 76 = .ok (.aload_n 0, 1) := by decide +kernel
theorem dX9_lot_77 : decode cX9_lot 77 = .ok (.getfield 22, 3) := by decide +kernel
theorem dX9_lot_80 : decode cX9_lot 80 = .ok (.aload_n 0, 1) := by decide +kernel
theorem dX9_lot_81 : decode cX9_lot 81 = .ok (.getfield 78, 3) := by decide +kernel
theorem dX9_lot_84 : decode cX9_lot 84 = .ok (.iconst (-1), 1) := by decide +kernel
theorem dX9_lot_85 : decode cX9_lot 85 = .ok (.iastore, 1) := by decide +kernel
theorem dX9_lot_86 : decode cX9_lot 86 = .ok (.aload_n 0, 1) := by decide +kernel
theorem dX9_lot_87 : decode cX9_lot 87 = .ok (.getfield 16, 3) := by decide +kernel
theorem dX9_lot_90 : decode cX9_lot 90 = .ok (.aload_n 0, 1) := by decide +kernel
theorem dX9_lot_91 : decode cX9_lot 91 = .ok (.getfield 78, 3) := by decide +kernel
theorem dX9_lot_94 : decode cX9_lot 94 = .ok (.iload_n 3, 1) := by decide +kernel
theorem dX9_lot_95 : decode cX9_lot 95 = .ok (.iastore, 1) := by decide +kernel
theorem dX9_lot_96 : decode cX9_lot 96 = .ok (.iconst 0, 1) := by decide +kernel
theorem dX9_lot_97 : decode cX9_lot 97 = .ok (.istore 4, 2) := by decide +kernel
theorem dX9_lot_99 : decode cX9_lot 99 = .ok (.iload 4, 2) := by decide +kernel
theorem dX9_lot_101 : decode cX9_lot 101 = .ok (.aload_n 0, 1) := by decide +kernel
theorem dX9_lot_102 : decode cX9_lot 102 = .ok (.getfield 78, 3) := by decide +kernel
theorem dX9_lot_105 : decode cX9_lot 105 = .ok (.if_icmp .ge 59, 3) := by decide +kernel
theorem dX9_lot_108 : decode cX9_lot 108 = .ok (.aload_n 0, 1) := by decide +kernel
theorem dX9_lot_109 : decode cX9_lot 109 = .ok (.getfield 16, 3) := by decide +kernel
theorem dX9_lot_112 : decode cX9_lot 112 = .ok (.iload 4, 2) := by decide +kernel
theorem dX9_lot_114 : decode cX9_lot 114 = .ok (.iload_n 3, 1) := by decide +kernel
theorem dX9_lot_115 : decode cX9_lot 115 = .ok (.iload 4, 2) := by decide +kernel
theorem dX9_lot_117 : decode cX9_lot 117 = .ok (.ishr, 1) := by decide +kernel
theorem dX9_lot_118 : decode cX9_lot 118 = .ok (.iconst 1, 1) := by decide +kernel
theorem dX9_lot_119 : decode cX9_lot 119 = .ok (.iand, 1) := by decide +kernel
theorem dX9_lot_120 : decode cX9_lot 120 = .ok (.iconst 1, 1) := by decide +kernel
theorem dX9_lot_121 : decode cX9_lot 121 = .ok (.if_icmp .ne 20, 3) := by decide +kernel
theorem dX9_lot_124 : decode cX9_lot 124 = .ok (.aload_n 0, 1) := by decide +kernel
theorem dX9_lot_125 : decode cX9_lot 125 = .ok (.getfield 16, 3) := by decide +kernel
theorem dX9_lot_128 : decode cX9_lot 128 = .ok (.iload 4, 2) := by decide +kernel
theorem dX9_lot_130 : decode cX9_lot 130 = .ok (.iaload, 1) := by decide +kernel
theorem dX9_lot_131 : decode cX9_lot 131 = .ok (.iconst 1, 1) := by decide +kernel
theorem dX9_lot_132 : decode cX9_lot 132 = .ok (.aload_n 0, 1) := by decide +kernel
theorem dX9_lot_133 : decode cX9_lot 133 = .ok (.getfield 78, 3) := by decide +kernel
theorem dX9_lot_136 : decode cX9_lot 136 = .ok (.ishl, 1) := by decide +kernel
theorem dX9_lot_137 : decode cX9_lot 137 = .ok (.ior, 1) := by decide +kernel
theorem dX9_lot_138 : decode cX9_lot 138 = .ok (.goto 19, 3) := by decide +kernel
theorem dX9_lot_141 : decode cX9_lot 141 = .ok (.aload_n 0, 1) := by decide +kernel
theorem dX9_lot_142 : decode cX9_lot 142 = .ok (.getfield 16, 3) := by decide +kernel
theorem dX9_lot_145 : decode cX9_lot 145 = .ok (.iload 4, 2) := by decide +kernel
theorem dX9_lot_147 : decode cX9_lot 147 = .ok (.iaload, 1) := by decide +kernel
theorem dX9_lot_148 : decode cX9_lot 148 = .ok (.iconst 1, 1) := by decide +kernel
theorem dX9_lot_149 : decode cX9_lot 149 = .ok (.aload_n 0, 1) := by decide +kernel
theorem dX9_lot_150 : decode cX9_lot 150 = .ok (.getfield 78, 3) := by decide +kernel
theorem dX9_lot_153 : decode cX9_lot 153 = .ok (.ishl, 1) := by decide +kernel
theorem dX9_lot_154 : decode cX9_lot 154 = .ok (.iconst (-1), 1) := by decide +kernel
theorem dX9_lot_155 : decode cX9_lot 155 = .ok (.ixor, 1) := by decide +kernel
theorem dX9_lot_156 : decode cX9_lot 156 = .ok (.iand, 1) := by decide +kernel
theorem dX9_lot_157 : decode cX9_lot 157 = .ok (.iastore, 1) := by decide +kernel
theorem dX9_lot_158 : decode cX9_lot 158 = .ok (.iinc 4 1, 3) := by decide +kernel
theorem dX9_lot_161 : decode cX9_lot 161 = .ok (.goto (-62), 3) := by decide +kernel
theorem dX9_lot_164 : decode cX9_lot 164 = .ok (.aload_n 0, 1) := by decide +kernel
theorem dX9_lot_165 : decode cX9_lot 165 = .ok (.dup, 1) := by decide +kernel
theorem dX9_lot_166 : decode cX9_lot 166 = .ok (.getfield 78, 3) := by decide +kernel
theorem dX9_lot_169 : decode cX9_lot 169 = .ok (.iconst 1, 1) := by decide +kernel
theorem dX9_lot_170 : decode cX9_lot 170 = .ok (.iadd, 1) := by decide +kernel
theorem dX9_lot_171 : decode cX9_lot 171 = .ok (.putfield 78, 3) := by decide +kernel
theorem dX9_lot_174 : decode cX9_lot 174 = .ok (.aload_n 0, 1) := by decide +kernel
theorem dX9_lot_175 : decode cX9_lot 175 = .ok (.getfield 78, 3) := by decide +kernel
theorem dX9_lot_178 : decode cX9_lot 178 = .ok (.iconst 1, 1) := by decide +kernel
theorem dX9_lot_179 : decode cX9_lot 179 = .ok (.isub, 1) := by decide +kernel
theorem dX9_lot_180 : decode cX9_lot 180 = .ok (.ireturn, 1) := by decide +kernel
theorem dX9_told_0 : decode cX9_told 0 = .ok (.aload_n 0, 1) := by decide +kernel
theorem dX9_told_1 : decode cX9_told 1 = .ok (.iload_n 1, 1) := by decide +kernel
theorem dX9_told_2 : decode cX9_told 2 = .ok (.invokevirtual 85, 3) := by decide +kernel
theorem dX9_told_5 : decode cX9_told 5 = .ok (.ifCond .ne 6, 3) := by decide +kernel
theorem dX9_told_8 : decode cX9_told 8 = .ok (.bipush (-5), 2) := by decide +kernel
theorem dX9_told_10 : decode cX9_told 10 = .ok (.ireturn, 1) := by decide +kernel
theorem dX9_told_11 : decode cX9_told 11 = .ok (.iload_n 2, 1) := by decide +kernel
theorem dX9_told_12 : decode cX9_told 12 = .ok (.tableswitch 71 0 4 #[36, 43, 50, 57, 64], 36) := by decide +kernel
theorem dX9_told_48 : decode cX9_told 48 = .ok (.aload_n 0, 1) := by decide +kernel
theorem dX9_told_49 : decode cX9_told 49 = .ok (.getfield 7, 3) := by decide +kernel
theorem dX9_told_52 : decode cX9_told 52 = .ok (.iload_n 1, 1) := by decide +kernel
theorem dX9_told_53 : decode cX9_told 53 = .ok (.iaload, 1) := by decide +kernel
theorem dX9_told_54 : decode cX9_told 54 = .ok (.ireturn, 1) := by decide +kernel
theorem dX9_told_55 : decode cX9_told 55 = .ok (.aload_n 0, 1) := by decide +kernel
theorem dX9_told_56 : decode cX9_told 56 = .ok (.getfield 13, 3) := by decide +kernel
theorem dX9_told_59 : decode cX9_told 59 = .ok (.iload_n 1, 1) := by decide +kernel
theorem dX9_told_60 : decode cX9_told 60 = .ok (.iaload, 1) := by decide +kernel
theorem dX9_told_61 : decode cX9_told 61 = .ok (.ireturn, 1) := by decide +kernel
theorem dX9_told_62 : decode cX9_told 62 = .ok (.aload_n 0, 1) := by decide +kernel
theorem dX9_told_63 : decode cX9_told 63 = .ok (.getfield 16, 3) := by decide +kernel
theorem dX9_told_66 : decode cX9_told 66 = .ok (.iload_n 1, 1) := by decide +kernel
theorem dX9_told_67 : decode cX9_told 67 = .ok (.iaload, 1) := by decide +kernel
theorem dX9_told_68 : decode cX9_told 68 = .ok (.ireturn, 1) := by decide +kernel
theorem dX9_told_69 : decode cX9_told 69 = .ok (.aload_n 0, 1) := by decide +kernel
theorem dX9_told_70 : decode cX9_told 70 = .ok (.getfield 19, 3) := by decide +kernel
theorem dX9_told_73 : decode cX9_told 73 = .ok (.iload_n 1, 1) := by decide +kernel
theorem dX9_told_74 : decode cX9_told 74 = .ok (.iaload, 1) := by decide +kernel
theorem dX9_told_75 : decode cX9_told 75 = .ok (.ireturn, 1) := by decide +kernel
theorem dX9_told_76 : decode cX9_told 76 = .ok (.aload_n 0, 1) := by decide +kernel
theorem dX9_told_77 : decode cX9_told 77 = .ok (.getfield 22, 3) := by decide +kernel
theorem dX9_told_80 : decode cX9_told 80 = .ok (.iload_n 1, 1) := by decide +kernel
theorem dX9_told_81 : decode cX9_told 81 = .ok (.iaload, 1) := by decide +kernel
theorem dX9_told_82 : decode cX9_told 82 = .ok (.ireturn, 1) := by decide +kernel
theorem dX9_told_83 : decode cX9_told 83 = .ok (.bipush (-7), 2) := by decide +kernel
theorem dX9_told_85 : decode cX9_told 85 = .ok (.ireturn, 1) := by decide +kernel
theorem dX9_takenBeside_0 : decode cX9_takenBeside 0 = .ok (.iconst 0, 1) := by decide +kernel
theorem dX9_takenBeside_1 : decode cX9_takenBeside 1 = .ok (.istore_n 2, 1) := by decide +kernel
theorem dX9_takenBeside_2 : decode cX9_takenBeside 2 = .ok (.iconst 0, 1) := by decide +kernel
theorem dX9_takenBeside_3 : decode cX9_takenBeside 3 = .ok (.istore_n 3, 1) := by decide +kernel
theorem dX9_takenBeside_4 : decode cX9_takenBeside 4 = .ok (.iload_n 3, 1) := by decide +kernel
theorem dX9_takenBeside_5 : decode cX9_takenBeside 5 = .ok (.aload_n 0, 1) := by decide +kernel
theorem dX9_takenBeside_6 : decode cX9_takenBeside 6 = .ok (.getfield 78, 3) := by decide +kernel
theorem dX9_takenBeside_9 : decode cX9_takenBeside 9 = .ok (.if_icmp .ge 51, 3) := by decide +kernel
theorem dX9_takenBeside_12 : decode cX9_takenBeside 12 = .ok (.iload_n 2, 1) := by decide +kernel
theorem dX9_takenBeside_13 : decode cX9_takenBeside 13 = .ok (.aload_n 0, 1) := by decide +kernel
theorem dX9_takenBeside_14 : decode cX9_takenBeside 14 = .ok (.iload_n 1, 1) := by decide +kernel
theorem dX9_takenBeside_15 : decode cX9_takenBeside 15 = .ok (.iload_n 3, 1) := by decide +kernel
theorem dX9_takenBeside_16 : decode cX9_takenBeside 16 = .ok (.invokevirtual 186, 3) := by decide +kernel
theorem dX9_takenBeside_19 : decode cX9_takenBeside 19 = .ok (.ifCond .eq 32, 3) := by decide +kernel
theorem dX9_takenBeside_22 : decode cX9_takenBeside 22 = .ok (.aload_n 0, 1) := by decide +kernel
theorem dX9_takenBeside_23 : decode cX9_takenBeside 23 = .ok (.iload_n 3, 1) := by decide +kernel
theorem dX9_takenBeside_24 : decode cX9_takenBeside 24 = .ok (.invokevirtual 89, 3) := by decide +kernel
theorem dX9_takenBeside_27 : decode cX9_takenBeside 27 = .ok (.ifCond .eq 24, 3) := by decide +kernel
theorem dX9_takenBeside_30 : decode cX9_takenBeside 30 = .ok (.aload_n 0, 1) := by decide +kernel
theorem dX9_takenBeside_31 : decode cX9_takenBeside 31 = .ok (.getfield 7, 3) := by decide +kernel
theorem dX9_takenBeside_34 : decode cX9_takenBeside 34 = .ok (.iload_n 3, 1) := by decide +kernel
theorem dX9_takenBeside_35 : decode cX9_takenBeside 35 = .ok (.iaload, 1) := by decide +kernel
theorem dX9_takenBeside_36 : decode cX9_takenBeside 36 = .ok (.iconst 4, 1) := by decide +kernel
theorem dX9_takenBeside_37 : decode cX9_takenBeside 37 = .ok (.if_icmp .eq 14, 3) := by decide +kernel
theorem dX9_takenBeside_40 : decode cX9_takenBeside 40 = .ok (.iconst 1, 1) := by decide +kernel
theorem dX9_takenBeside_41 : decode cX9_takenBeside 41 = .ok (.aload_n 0, 1) := by decide +kernel
theorem dX9_takenBeside_42 : decode cX9_takenBeside 42 = .ok (.getfield 19, 3) := by decide +kernel
theorem dX9_takenBeside_45 : decode cX9_takenBeside 45 = .ok (.iload_n 3, 1) := by decide +kernel
theorem dX9_takenBeside_46 : decode cX9_takenBeside 46 = .ok (.iaload, 1) := by decide +kernel
theorem dX9_takenBeside_47 : decode cX9_takenBeside 47 = .ok (.ishl, 1) := by decide +kernel
theorem dX9_takenBeside_48 : decode cX9_takenBeside 48 = .ok (.goto 4, 3) := by decide +kernel
theorem dX9_takenBeside_51 : decode cX9_takenBeside 51 = .ok (.iconst 0, 1) := by decide +kernel
theorem dX9_takenBeside_52 : decode cX9_takenBeside 52 = .ok (.ior, 1) := by decide +kernel
theorem dX9_takenBeside_53 : decode cX9_takenBeside 53 = .ok (.istore_n 2, 1) := by decide +kernel
theorem dX9_takenBeside_54 : decode cX9_takenBeside 54 = .ok (.iinc 3 1, 3) := by decide +kernel
theorem dX9_takenBeside_57 : decode cX9_takenBeside 57 = .ok (.goto (-53), 3) := by decide +kernel
theorem dX9_takenBeside_60 : decode cX9_takenBeside 60 = .ok (.iload_n 2, 1) := by decide +kernel
theorem dX9_takenBeside_61 : decode cX9_takenBeside 61 = .ok (.ireturn, 1) := by decide +kernel
theorem dX9_least_0 : decode cX9_least 0 = .ok (.iconst 0, 1) := by decide +kernel
theorem dX9_least_1 : decode cX9_least 1 = .ok (.istore_n 1, 1) := by decide +kernel
theorem dX9_least_2 : decode cX9_least 2 = .ok (.iload_n 1, 1) := by decide +kernel
theorem dX9_least_3 : decode cX9_least 3 = .ok (.bipush 11, 2) := by decide +kernel
theorem dX9_least_5 : decode cX9_least 5 = .ok (.if_icmp .ge 18, 3) := by decide +kernel
theorem dX9_least_8 : decode cX9_least 8 = .ok (.iload_n 0, 1) := by decide +kernel
theorem dX9_least_9 : decode cX9_least 9 = .ok (.iload_n 1, 1) := by decide +kernel
theorem dX9_least_10 : decode cX9_least 10 = .ok (.ishr, 1) := by decide +kernel
theorem dX9_least_11 : decode cX9_least 11 = .ok (.iconst 1, 1) := by decide +kernel
theorem dX9_least_12 : decode cX9_least 12 = .ok (.iand, 1) := by decide +kernel
theorem dX9_least_13 : decode cX9_least 13 = .ok (.iconst 1, 1) := by decide +kernel
theorem dX9_least_14 : decode cX9_least 14 = .ok (.if_icmp .ne 9, 3) := by decide +kernel
theorem dX9_least_17 : decode cX9_least 17 = .ok (.iinc 1 1, 3) := by decide +kernel
theorem dX9_least_20 : decode cX9_least 20 = .ok (.goto (-18), 3) := by decide +kernel
theorem dX9_least_23 : decode cX9_least 23 = .ok (.iload_n 1, 1) := by decide +kernel
theorem dX9_least_24 : decode cX9_least 24 = .ok (.ireturn, 1) := by decide +kernel
theorem dX9_greatest_0 : decode cX9_greatest 0 = .ok (.bipush 11, 2) := by decide +kernel
theorem dX9_greatest_2 : decode cX9_greatest 2 = .ok (.istore_n 1, 1) := by decide +kernel
theorem dX9_greatest_3 : decode cX9_greatest 3 = .ok (.iload_n 1, 1) := by decide +kernel
theorem dX9_greatest_4 : decode cX9_greatest 4 = .ok (.ifCond .lt 17, 3) := by decide +kernel
theorem dX9_greatest_7 : decode cX9_greatest 7 = .ok (.iload_n 0, 1) := by decide +kernel
theorem dX9_greatest_8 : decode cX9_greatest 8 = .ok (.iload_n 1, 1) := by decide +kernel
theorem dX9_greatest_9 : decode cX9_greatest 9 = .ok (.ishr, 1) := by decide +kernel
theorem dX9_greatest_10 : decode cX9_greatest 10 = .ok (.iconst 1, 1) := by decide +kernel
theorem dX9_greatest_11 : decode cX9_greatest 11 = .ok (.iand, 1) := by decide +kernel
theorem dX9_greatest_12 : decode cX9_greatest 12 = .ok (.ifCond .ne 9, 3) := by decide +kernel
theorem dX9_greatest_15 : decode cX9_greatest 15 = .ok (.iinc 1 (-1), 3) := by decide +kernel
theorem dX9_greatest_18 : decode cX9_greatest 18 = .ok (.goto (-15), 3) := by decide +kernel
theorem dX9_greatest_21 : decode cX9_greatest 21 = .ok (.iload_n 1, 1) := by decide +kernel
theorem dX9_greatest_22 : decode cX9_greatest 22 = .ok (.ireturn, 1) := by decide +kernel
theorem dX9_wouldTake_0 : decode cX9_wouldTake 0 = .ok (.aload_n 0, 1) := by decide +kernel
theorem dX9_wouldTake_1 : decode cX9_wouldTake 1 = .ok (.iload_n 1, 1) := by decide +kernel
theorem dX9_wouldTake_2 : decode cX9_wouldTake 2 = .ok (.invokevirtual 190, 3) := by decide +kernel
theorem dX9_wouldTake_5 : decode cX9_wouldTake 5 = .ok (.istore_n 2, 1) := by decide +kernel
theorem dX9_wouldTake_6 : decode cX9_wouldTake 6 = .ok (.aload_n 0, 1) := by decide +kernel
theorem dX9_wouldTake_7 : decode cX9_wouldTake 7 = .ok (.getfield 7, 3) := by decide +kernel
theorem dX9_wouldTake_10 : decode cX9_wouldTake 10 = .ok (.iload_n 1, 1) := by decide +kernel
theorem dX9_wouldTake_11 : decode cX9_wouldTake 11 = .ok (.iaload, 1) := by decide +kernel
theorem dX9_wouldTake_12 : decode cX9_wouldTake 12 = .ok (.istore_n 3, 1) := by decide +kernel
theorem dX9_wouldTake_13 : decode cX9_wouldTake 13 = .ok (.iload_n 3, 1) := by decide +kernel
theorem dX9_wouldTake_14 : decode cX9_wouldTake 14 = .ok (.iconst 5, 1) := by decide +kernel
theorem dX9_wouldTake_15 : decode cX9_wouldTake 15 = .ok (.if_icmp .ne 5, 3) := by decide +kernel
theorem dX9_wouldTake_18 : decode cX9_wouldTake 18 = .ok (.iconst 0, 1) := by decide +kernel
theorem dX9_wouldTake_19 : decode cX9_wouldTake 19 = .ok (.ireturn, 1) := by decide +kernel
theorem dX9_wouldTake_20 : decode cX9_wouldTake 20 = .ok (.iload_n 3, 1) := by decide +kernel
theorem dX9_wouldTake_21 : decode cX9_wouldTake 21 = .ok (.iconst 3, 1) := by decide +kernel
theorem dX9_wouldTake_22 : decode cX9_wouldTake 22 = .ok (.if_icmp .ne 31, 3) := by decide +kernel
theorem dX9_wouldTake_25 : decode cX9_wouldTake 25 = .ok (.iload_n 2, 1) := by decide +kernel
theorem dX9_wouldTake_26 : decode cX9_wouldTake 26 = .ok (.invokestatic 92, 3) := by decide +kernel
theorem dX9_wouldTake_29 : decode cX9_wouldTake 29 = .ok (.aload_n 0, 1) := by decide +kernel
theorem dX9_wouldTake_30 : decode cX9_wouldTake 30 = .ok (.getfield 13, 3) := by decide +kernel
theorem dX9_wouldTake_33 : decode cX9_wouldTake 33 = .ok (.iload_n 1, 1) := by decide +kernel
theorem dX9_wouldTake_34 : decode cX9_wouldTake 34 = .ok (.iaload, 1) := by decide +kernel
theorem dX9_wouldTake_35 : decode cX9_wouldTake 35 = .ok (.iconst 4, 1) := by decide +kernel
theorem dX9_wouldTake_36 : decode cX9_wouldTake 36 = .ok (.irem, 1) := by decide +kernel
theorem dX9_wouldTake_37 : decode cX9_wouldTake 37 = .ok (.if_icmp .le 16, 3) := by decide +kernel
theorem dX9_wouldTake_40 : decode cX9_wouldTake 40 = .ok (.iload_n 2, 1) := by decide +kernel
theorem dX9_wouldTake_41 : decode cX9_wouldTake 41 = .ok (.invokestatic 193, 3) := by decide +kernel
theorem dX9_wouldTake_44 : decode cX9_wouldTake 44 = .ok (.iconst 1, 1) := by decide +kernel
theorem dX9_wouldTake_45 : decode cX9_wouldTake 45 = .ok (.iadd, 1) := by decide +kernel
theorem dX9_wouldTake_46 : decode cX9_wouldTake 46 = .ok (.iconst 0, 1) := by decide +kernel
theorem dX9_wouldTake_47 : decode cX9_wouldTake 47 = .ok (.bipush 11, 2) := by decide +kernel
theorem dX9_wouldTake_49 : decode cX9_wouldTake 49 = .ok (.invokestatic 176, 3) := by decide +kernel
theorem dX9_wouldTake_52 : decode cX9_wouldTake 52 = .ok (.ireturn, 1) := by decide +kernel
theorem dX9_wouldTake_53 : decode cX9_wouldTake 53 = .ok (.iload_n 3, 1) := by decide +kernel
theorem dX9_wouldTake_54 : decode cX9_wouldTake 54 = .ok (.iconst 1, 1) := by decide +kernel
theorem dX9_wouldTake_55 : decode cX9_wouldTake 55 = .ok (.if_icmp .eq 8, 3) := by decide +kernel
theorem dX9_wouldTake_58 : decode cX9_wouldTake 58 = .ok (.iload_n 3, 1) := by decide +kernel
theorem dX9_wouldTake_59 : decode cX9_wouldTake 59 = .ok (.iconst 3, 1) := by decide +kernel
theorem dX9_wouldTake_60 : decode cX9_wouldTake 60 = .ok (.if_icmp .ne 9, 3) := by decide +kernel
theorem dX9_wouldTake_63 : decode cX9_wouldTake 63 = .ok (.iload_n 2, 1) := by decide +kernel
theorem dX9_wouldTake_64 : decode cX9_wouldTake 64 = .ok (.iconst 1, 1) := by decide +kernel
theorem dX9_wouldTake_65 : decode cX9_wouldTake 65 = .ok (.ior, 1) := by decide +kernel
theorem dX9_wouldTake_66 : decode cX9_wouldTake 66 = .ok (.goto 29, 3) := by decide +kernel
theorem dX9_wouldTake_69 : decode cX9_wouldTake 69 = .ok (.iload_n 3, 1) := by decide +kernel
theorem dX9_wouldTake_70 : decode cX9_wouldTake 70 = .ok (.iconst 2, 1) := by decide +kernel
theorem dX9_wouldTake_71 : decode cX9_wouldTake 71 = .ok (.if_icmp .eq 8, 3) := by decide +kernel
theorem dX9_wouldTake_74 : decode cX9_wouldTake 74 = .ok (.iload_n 3, 1) := by decide +kernel
theorem dX9_wouldTake_75 : decode cX9_wouldTake 75 = .ok (.iconst 4, 1) := by decide +kernel
theorem dX9_wouldTake_76 : decode cX9_wouldTake 76 = .ok (.if_icmp .ne 18, 3) := by decide +kernel
theorem dX9_wouldTake_79 : decode cX9_wouldTake 79 = .ok (.iload_n 2, 1) := by decide +kernel
theorem dX9_wouldTake_80 : decode cX9_wouldTake 80 = .ok (.iconst 1, 1) := by decide +kernel
theorem dX9_wouldTake_81 : decode cX9_wouldTake 81 = .ok (.aload_n 0, 1) := by decide +kernel
theorem dX9_wouldTake_82 : decode cX9_wouldTake 82 = .ok (.getfield 13, 3) := by decide +kernel
theorem dX9_wouldTake_85 : decode cX9_wouldTake 85 = .ok (.iload_n 1, 1) := by decide +kernel
theorem dX9_wouldTake_86 : decode cX9_wouldTake 86 = .ok (.iaload, 1) := by decide +kernel
theorem dX9_wouldTake_87 : decode cX9_wouldTake 87 = .ok (.iconst 5, 1) := by decide +kernel
theorem dX9_wouldTake_88 : decode cX9_wouldTake 88 = .ok (.irem, 1) := by decide +kernel
theorem dX9_wouldTake_89 : decode cX9_wouldTake 89 = .ok (.ishl, 1) := by decide +kernel
theorem dX9_wouldTake_90 : decode cX9_wouldTake 90 = .ok (.ior, 1) := by decide +kernel
theorem dX9_wouldTake_91 : decode cX9_wouldTake 91 = .ok (.goto 4, 3) := by decide +kernel
theorem dX9_wouldTake_94 : decode cX9_wouldTake 94 = .ok (.iload_n 2, 1) := by decide +kernel
theorem dX9_wouldTake_95 : decode cX9_wouldTake 95 = .ok (.invokestatic 196, 3) := by decide +kernel
theorem dX9_wouldTake_98 : decode cX9_wouldTake 98 = .ok (.ireturn, 1) := by decide +kernel
theorem dX9_builds_0 : decode cX9_builds 0 = .ok (.aload_n 0, 1) := by decide +kernel
theorem dX9_builds_1 : decode cX9_builds 1 = .ok (.dup, 1) := by decide +kernel
theorem dX9_builds_2 : decode cX9_builds 2 = .ok (.getfield 199, 3) := by decide +kernel
theorem dX9_builds_5 : decode cX9_builds 5 = .ok (.iconst 1, 1) := by decide +kernel
theorem dX9_builds_6 : decode cX9_builds 6 = .ok (.iadd, 1) := by decide +kernel
theorem dX9_builds_7 : decode cX9_builds 7 = .ok (.putfield 199, 3) := by decide +kernel
theorem dX9_builds_10 : decode cX9_builds 10 = .ok (.aload_n 0, 1) := by decide +kernel
theorem dX9_builds_11 : decode cX9_builds 11 = .ok (.getfield 19, 3) := by decide +kernel
theorem dX9_builds_14 : decode cX9_builds 14 = .ok (.iload_n 1, 1) := by decide +kernel
theorem dX9_builds_15 : decode cX9_builds 15 = .ok (.iload_n 2, 1) := by decide +kernel
theorem dX9_builds_16 : decode cX9_builds 16 = .ok (.iastore, 1) := by decide +kernel
theorem dX9_builds_17 : decode cX9_builds 17 = .ok (.aload_n 0, 1) := by decide +kernel
theorem dX9_builds_18 : decode cX9_builds 18 = .ok (.getfield 22, 3) := by decide +kernel
theorem dX9_builds_21 : decode cX9_builds 21 = .ok (.iload_n 1, 1) := by decide +kernel
theorem dX9_builds_22 : decode cX9_builds 22 = .ok (.aload_n 0, 1) := by decide +kernel
theorem dX9_builds_23 : decode cX9_builds 23 = .ok (.getfield 199, 3) := by decide +kernel
theorem dX9_builds_26 : decode cX9_builds 26 = .ok (.iastore, 1) := by decide +kernel
theorem dX9_builds_27 : decode cX9_builds 27 = .ok (.return_, 1) := by decide +kernel
theorem dX9_build_0 : decode cX9_build 0 = .ok (.aload_n 0, 1) := by decide +kernel
theorem dX9_build_1 : decode cX9_build 1 = .ok (.iload_n 1, 1) := by decide +kernel
theorem dX9_build_2 : decode cX9_build 2 = .ok (.invokevirtual 85, 3) := by decide +kernel
theorem dX9_build_5 : decode cX9_build 5 = .ok (.ifCond .ne 6, 3) := by decide +kernel
theorem dX9_build_8 : decode cX9_build 8 = .ok (.bipush (-5), 2) := by decide +kernel
theorem dX9_build_10 : decode cX9_build 10 = .ok (.ireturn, 1) := by decide +kernel
theorem dX9_build_11 : decode cX9_build 11 = .ok (.aload_n 0, 1) := by decide +kernel
theorem dX9_build_12 : decode cX9_build 12 = .ok (.iload_n 1, 1) := by decide +kernel
theorem dX9_build_13 : decode cX9_build 13 = .ok (.invokevirtual 89, 3) := by decide +kernel
theorem dX9_build_16 : decode cX9_build 16 = .ok (.ifCond .eq 6, 3) := by decide +kernel
theorem dX9_build_19 : decode cX9_build 19 = .ok (.bipush (-3), 2) := by decide +kernel
theorem dX9_build_21 : decode cX9_build 21 = .ok (.ireturn, 1) := by decide +kernel
theorem dX9_build_22 : decode cX9_build 22 = .ok (.aload_n 0, 1) := by decide +kernel
theorem dX9_build_23 : decode cX9_build 23 = .ok (.iload_n 1, 1) := by decide +kernel
theorem dX9_build_24 : decode cX9_build 24 = .ok (.aload_n 0, 1) := by decide +kernel
theorem dX9_build_25 : decode cX9_build 25 = .ok (.iload_n 1, 1) := by decide +kernel
theorem dX9_build_26 : decode cX9_build 26 = .ok (.invokevirtual 202, 3) := by decide +kernel
theorem dX9_build_29 : decode cX9_build 29 = .ok (.invokevirtual 205, 3) := by decide +kernel
theorem dX9_build_32 : decode cX9_build 32 = .ok (.aload_n 0, 1) := by decide +kernel
theorem dX9_build_33 : decode cX9_build 33 = .ok (.getfield 19, 3) := by decide +kernel
theorem dX9_build_36 : decode cX9_build 36 = .ok (.iload_n 1, 1) := by decide +kernel
theorem dX9_build_37 : decode cX9_build 37 = .ok (.iaload, 1) := by decide +kernel
theorem dX9_build_38 : decode cX9_build 38 = .ok (.ireturn, 1) := by decide +kernel
theorem dX9_would_0 : decode cX9_would 0 = .ok (.aload_n 0, 1) := by decide +kernel
theorem dX9_would_1 : decode cX9_would 1 = .ok (.iload_n 1, 1) := by decide +kernel
theorem dX9_would_2 : decode cX9_would 2 = .ok (.invokevirtual 85, 3) := by decide +kernel
theorem dX9_would_5 : decode cX9_would 5 = .ok (.ifCond .eq 11, 3) := by decide +kernel
theorem dX9_would_8 : decode cX9_would 8 = .ok (.aload_n 0, 1) := by decide +kernel
theorem dX9_would_9 : decode cX9_would 9 = .ok (.iload_n 1, 1) := by decide +kernel
theorem dX9_would_10 : decode cX9_would 10 = .ok (.invokevirtual 202, 3) := by decide +kernel
theorem dX9_would_13 : decode cX9_would 13 = .ok (.goto 5, 3) := by decide +kernel
theorem dX9_would_16 : decode cX9_would 16 = .ok (.bipush (-5), 2) := by decide +kernel
theorem dX9_would_18 : decode cX9_would 18 = .ok (.ireturn, 1) := by decide +kernel
theorem dX9_pull_0 : decode cX9_pull 0 = .ok (.aload_n 0, 1) := by decide +kernel
theorem dX9_pull_1 : decode cX9_pull 1 = .ok (.iload_n 1, 1) := by decide +kernel
theorem dX9_pull_2 : decode cX9_pull 2 = .ok (.invokevirtual 85, 3) := by decide +kernel
theorem dX9_pull_5 : decode cX9_pull 5 = .ok (.ifCond .ne 6, 3) := by decide +kernel
theorem dX9_pull_8 : decode cX9_pull 8 = .ok (.bipush (-5), 2) := by decide +kernel
theorem dX9_pull_10 : decode cX9_pull 10 = .ok (.ireturn, 1) := by decide +kernel
theorem dX9_pull_11 : decode cX9_pull 11 = .ok (.aload_n 0, 1) := by decide +kernel
theorem dX9_pull_12 : decode cX9_pull 12 = .ok (.iload_n 1, 1) := by decide +kernel
theorem dX9_pull_13 : decode cX9_pull 13 = .ok (.invokevirtual 89, 3) := by decide +kernel
theorem dX9_pull_16 : decode cX9_pull 16 = .ok (.ifCond .ne 6, 3) := by decide +kernel
theorem dX9_pull_19 : decode cX9_pull 19 = .ok (.bipush (-3), 2) := by decide +kernel
theorem dX9_pull_21 : decode cX9_pull 21 = .ok (.ireturn, 1) := by decide +kernel
theorem dX9_pull_22 : decode cX9_pull 22 = .ok (.aload_n 0, 1) := by decide +kernel
theorem dX9_pull_23 : decode cX9_pull 23 = .ok (.getfield 19, 3) := by decide +kernel
theorem dX9_pull_26 : decode cX9_pull 26 = .ok (.iload_n 1, 1) := by decide +kernel
theorem dX9_pull_27 : decode cX9_pull 27 = .ok (.iaload, 1) := by decide +kernel
theorem dX9_pull_28 : decode cX9_pull 28 = .ok (.istore_n 2, 1) := by decide +kernel
theorem dX9_pull_29 : decode cX9_pull 29 = .ok (.aload_n 0, 1) := by decide +kernel
theorem dX9_pull_30 : decode cX9_pull 30 = .ok (.getfield 19, 3) := by decide +kernel
theorem dX9_pull_33 : decode cX9_pull 33 = .ok (.iload_n 1, 1) := by decide +kernel
theorem dX9_pull_34 : decode cX9_pull 34 = .ok (.iconst (-1), 1) := by decide +kernel
theorem dX9_pull_35 : decode cX9_pull 35 = .ok (.iastore, 1) := by decide +kernel
theorem dX9_pull_36 : decode cX9_pull 36 = .ok (.aload_n 0, 1) := by decide +kernel
theorem dX9_pull_37 : decode cX9_pull 37 = .ok (.getfield 22, 3) := by decide +kernel
theorem dX9_pull_40 : decode cX9_pull 40 = .ok (.iload_n 1, 1) := by decide +kernel
theorem dX9_pull_41 : decode cX9_pull 41 = .ok (.iconst (-1), 1) := by decide +kernel
theorem dX9_pull_42 : decode cX9_pull 42 = .ok (.iastore, 1) := by decide +kernel
theorem dX9_pull_43 : decode cX9_pull 43 = .ok (.iload_n 2, 1) := by decide +kernel
theorem dX9_pull_44 : decode cX9_pull 44 = .ok (.ireturn, 1) := by decide +kernel
theorem dX9_paint_0 : decode cX9_paint 0 = .ok (.aload_n 0, 1) := by decide +kernel
theorem dX9_paint_1 : decode cX9_paint 1 = .ok (.iload_n 1, 1) := by decide +kernel
theorem dX9_paint_2 : decode cX9_paint 2 = .ok (.invokevirtual 85, 3) := by decide +kernel
theorem dX9_paint_5 : decode cX9_paint 5 = .ok (.ifCond .ne 6, 3) := by decide +kernel
theorem dX9_paint_8 : decode cX9_paint 8 = .ok (.bipush (-5), 2) := by decide +kernel
theorem dX9_paint_10 : decode cX9_paint 10 = .ok (.ireturn, 1) := by decide +kernel
theorem dX9_paint_11 : decode cX9_paint 11 = .ok (.iload_n 2, 1) := by decide +kernel
theorem dX9_paint_12 : decode cX9_paint 12 = .ok (.iconst 0, 1) := by decide +kernel
theorem dX9_paint_13 : decode cX9_paint 13 = .ok (.bipush 11, 2) := by decide +kernel
theorem dX9_paint_15 : decode cX9_paint 15 = .ok (.invokestatic 81, 3) := by decide +kernel
theorem dX9_paint_18 : decode cX9_paint 18 = .ok (.ifCond .ne 6, 3) := by decide +kernel
theorem dX9_paint_21 : decode cX9_paint 21 = .ok (.bipush (-7), 2) := by decide +kernel
theorem dX9_paint_23 : decode cX9_paint 23 = .ok (.ireturn, 1) := by decide +kernel
theorem dX9_paint_24 : decode cX9_paint 24 = .ok (.aload_n 0, 1) := by decide +kernel
theorem dX9_paint_25 : decode cX9_paint 25 = .ok (.getfield 19, 3) := by decide +kernel
theorem dX9_paint_28 : decode cX9_paint 28 = .ok (.iload_n 1, 1) := by decide +kernel
theorem dX9_paint_29 : decode cX9_paint 29 = .ok (.iaload, 1) := by decide +kernel
theorem dX9_paint_30 : decode cX9_paint 30 = .ok (.istore_n 3, 1) := by decide +kernel
theorem dX9_paint_31 : decode cX9_paint 31 = .ok (.iload_n 3, 1) := by decide +kernel
theorem dX9_paint_32 : decode cX9_paint 32 = .ok (.iconst (-1), 1) := by decide +kernel
theorem dX9_paint_33 : decode cX9_paint 33 = .ok (.if_icmp .ne 9, 3) := by decide +kernel
theorem dX9_paint_36 : decode cX9_paint 36 = .ok (.aload_n 0, 1) := by decide +kernel
theorem dX9_paint_37 : decode cX9_paint 37 = .ok (.iload_n 1, 1) := by decide +kernel
theorem dX9_paint_38 : decode cX9_paint 38 = .ok (.iload_n 2, 1) := by decide +kernel
theorem dX9_paint_39 : decode cX9_paint 39 = .ok (.invokevirtual 205, 3) := by decide +kernel
theorem dX9_paint_42 : decode cX9_paint 42 = .ok (.aload_n 0, 1) := by decide +kernel
theorem dX9_paint_43 : decode cX9_paint 43 = .ok (.getfield 19, 3) := by decide +kernel
theorem dX9_paint_46 : decode cX9_paint 46 = .ok (.iload_n 1, 1) := by decide +kernel
theorem dX9_paint_47 : decode cX9_paint 47 = .ok (.iload_n 2, 1) := by decide +kernel
theorem dX9_paint_48 : decode cX9_paint 48 = .ok (.iastore, 1) := by decide +kernel
theorem dX9_paint_49 : decode cX9_paint 49 = .ok (.iload_n 3, 1) := by decide +kernel
theorem dX9_paint_50 : decode cX9_paint 50 = .ok (.ireturn, 1) := by decide +kernel
theorem dX9_keeps_0 : decode cX9_keeps 0 = .ok (.iconst 0, 1) := by decide +kernel
theorem dX9_keeps_1 : decode cX9_keeps 1 = .ok (.istore_n 1, 1) := by decide +kernel
theorem dX9_keeps_2 : decode cX9_keeps 2 = .ok (.iload_n 1, 1) := by decide +kernel
theorem dX9_keeps_3 : decode cX9_keeps 3 = .ok (.bipush 7, 2) := by decide +kernel
theorem dX9_keeps_5 : decode cX9_keeps 5 = .ok (.if_icmp .ge 51, 3) := by decide +kernel
theorem dX9_keeps_8 : decode cX9_keeps 8 = .ok (.aload_n 0, 1) := by decide +kernel
theorem dX9_keeps_9 : decode cX9_keeps 9 = .ok (.getfield 61, 3) := by decide +kernel
theorem dX9_keeps_12 : decode cX9_keeps 12 = .ok (.iload_n 1, 1) := by decide +kernel
theorem dX9_keeps_13 : decode cX9_keeps 13 = .ok (.aload_n 0, 1) := by decide +kernel
theorem dX9_keeps_14 : decode cX9_keeps 14 = .ok (.getfield 19, 3) := by decide +kernel
theorem dX9_keeps_17 : decode cX9_keeps 17 = .ok (.iload_n 1, 1) := by decide +kernel
theorem dX9_keeps_18 : decode cX9_keeps 18 = .ok (.iaload, 1) := by decide +kernel
theorem dX9_keeps_19 : decode cX9_keeps 19 = .ok (.iastore, 1) := by decide +kernel
theorem dX9_keeps_20 : decode cX9_keeps 20 = .ok (.aload_n 0, 1) := by decide +kernel
theorem dX9_keeps_21 : decode cX9_keeps 21 = .ok (.getfield 61, 3) := by decide +kernel
theorem dX9_keeps_24 : decode cX9_keeps 24 = .ok (.bipush 7, 2) := by decide +kernel
theorem dX9_keeps_26 : decode cX9_keeps 26 = .ok (.iload_n 1, 1) := by decide +kernel
theorem dX9_keeps_27 : decode cX9_keeps 27 = .ok (.iadd, 1) := by decide +kernel
theorem dX9_keeps_28 : decode cX9_keeps 28 = .ok (.aload_n 0, 1) := by decide +kernel
theorem dX9_keeps_29 : decode cX9_keeps 29 = .ok (.getfield 22, 3) := by decide +kernel
theorem dX9_keeps_32 : decode cX9_keeps 32 = .ok (.iload_n 1, 1) := by decide +kernel
theorem dX9_keeps_33 : decode cX9_keeps 33 = .ok (.iaload, 1) := by decide +kernel
theorem dX9_keeps_34 : decode cX9_keeps 34 = .ok (.iastore, 1) := by decide +kernel
theorem dX9_keeps_35 : decode cX9_keeps 35 = .ok (.aload_n 0, 1) := by decide +kernel
theorem dX9_keeps_36 : decode cX9_keeps 36 = .ok (.getfield 61, 3) := by decide +kernel
theorem dX9_keeps_39 : decode cX9_keeps 39 = .ok (.bipush 14, 2) := by decide +kernel
theorem dX9_keeps_41 : decode cX9_keeps 41 = .ok (.iload_n 1, 1) := by decide +kernel
theorem dX9_keeps_42 : decode cX9_keeps 42 = .ok (.iadd, 1) := by decide +kernel
theorem dX9_keeps_43 : decode cX9_keeps 43 = .ok (.aload_n 0, 1) := by decide +kernel
theorem dX9_keeps_44 : decode cX9_keeps 44 = .ok (.getfield 16, 3) := by decide +kernel
theorem dX9_keeps_47 : decode cX9_keeps 47 = .ok (.iload_n 1, 1) := by decide +kernel
theorem dX9_keeps_48 : decode cX9_keeps 48 = .ok (.iaload, 1) := by decide +kernel
theorem dX9_keeps_49 : decode cX9_keeps 49 = .ok (.iastore, 1) := by decide +kernel
theorem dX9_keeps_50 : decode cX9_keeps 50 = .ok (.iinc 1 1, 3) := by decide +kernel
theorem dX9_keeps_53 : decode cX9_keeps 53 = .ok (.goto (-51), 3) := by decide +kernel
theorem dX9_keeps_56 : decode cX9_keeps 56 = .ok (.aload_n 0, 1) := by decide +kernel
theorem dX9_keeps_57 : decode cX9_keeps 57 = .ok (.aload_n 0, 1) := by decide +kernel
theorem dX9_keeps_58 : decode cX9_keeps 58 = .ok (.getfield 199, 3) := by decide +kernel
theorem dX9_keeps_61 : decode cX9_keeps 61 = .ok (.putfield 208, 3) := by decide +kernel
theorem dX9_keeps_64 : decode cX9_keeps 64 = .ok (.return_, 1) := by decide +kernel
theorem dX9_laysBack_0 : decode cX9_laysBack 0 = .ok (.iconst 0, 1) := by decide +kernel
theorem dX9_laysBack_1 : decode cX9_laysBack 1 = .ok (.istore_n 1, 1) := by decide +kernel
theorem dX9_laysBack_2 : decode cX9_laysBack 2 = .ok (.iload_n 1, 1) := by decide +kernel
theorem dX9_laysBack_3 : decode cX9_laysBack 3 = .ok (.bipush 7, 2) := by decide +kernel
theorem dX9_laysBack_5 : decode cX9_laysBack 5 = .ok (.if_icmp .ge 51, 3) := by decide +kernel
theorem dX9_laysBack_8 : decode cX9_laysBack 8 = .ok (.aload_n 0, 1) := by decide +kernel
theorem dX9_laysBack_9 : decode cX9_laysBack 9 = .ok (.getfield 19, 3) := by decide +kernel
theorem dX9_laysBack_12 : decode cX9_laysBack 12 = .ok (.iload_n 1, 1) := by decide +kernel
theorem dX9_laysBack_13 : decode cX9_laysBack 13 = .ok (.aload_n 0, 1) := by decide +kernel
theorem dX9_laysBack_14 : decode cX9_laysBack 14 = .ok (.getfield 61, 3) := by decide +kernel
theorem dX9_laysBack_17 : decode cX9_laysBack 17 = .ok (.iload_n 1, 1) := by decide +kernel
theorem dX9_laysBack_18 : decode cX9_laysBack 18 = .ok (.iaload, 1) := by decide +kernel
theorem dX9_laysBack_19 : decode cX9_laysBack 19 = .ok (.iastore, 1) := by decide +kernel
theorem dX9_laysBack_20 : decode cX9_laysBack 20 = .ok (.aload_n 0, 1) := by decide +kernel
theorem dX9_laysBack_21 : decode cX9_laysBack 21 = .ok (.getfield 22, 3) := by decide +kernel
theorem dX9_laysBack_24 : decode cX9_laysBack 24 = .ok (.iload_n 1, 1) := by decide +kernel
theorem dX9_laysBack_25 : decode cX9_laysBack 25 = .ok (.aload_n 0, 1) := by decide +kernel
theorem dX9_laysBack_26 : decode cX9_laysBack 26 = .ok (.getfield 61, 3) := by decide +kernel
theorem dX9_laysBack_29 : decode cX9_laysBack 29 = .ok (.bipush 7, 2) := by decide +kernel
theorem dX9_laysBack_31 : decode cX9_laysBack 31 = .ok (.iload_n 1, 1) := by decide +kernel
theorem dX9_laysBack_32 : decode cX9_laysBack 32 = .ok (.iadd, 1) := by decide +kernel
theorem dX9_laysBack_33 : decode cX9_laysBack 33 = .ok (.iaload, 1) := by decide +kernel
theorem dX9_laysBack_34 : decode cX9_laysBack 34 = .ok (.iastore, 1) := by decide +kernel
theorem dX9_laysBack_35 : decode cX9_laysBack 35 = .ok (.aload_n 0, 1) := by decide +kernel
