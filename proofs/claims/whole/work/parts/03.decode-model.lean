theorem dX9_init_0 : decode cX9_init 0 = .ok (.aload_n 0, 1) := by decide +kernel
theorem dX9_init_1 : decode cX9_init 1 = .ok (.invokespecial 1, 3) := by decide +kernel
theorem dX9_init_4 : decode cX9_init 4 = .ok (.aload_n 0, 1) := by decide +kernel
theorem dX9_init_5 : decode cX9_init 5 = .ok (.sipush 404, 3) := by decide +kernel
theorem dX9_init_8 : decode cX9_init 8 = .ok (.newarray .int, 2) := by decide +kernel
theorem dX9_init_10 : decode cX9_init 10 = .ok (.putfield 7, 3) := by decide +kernel
theorem dX9_init_13 : decode cX9_init 13 = .ok (.aload_n 0, 1) := by decide +kernel
theorem dX9_init_14 : decode cX9_init 14 = .ok (.sipush 1212, 3) := by decide +kernel
theorem dX9_init_17 : decode cX9_init 17 = .ok (.newarray .int, 2) := by decide +kernel
theorem dX9_init_19 : decode cX9_init 19 = .ok (.putfield 13, 3) := by decide +kernel
theorem dX9_init_22 : decode cX9_init 22 = .ok (.aload_n 0, 1) := by decide +kernel
theorem dX9_init_23 : decode cX9_init 23 = .ok (.bipush 9, 2) := by decide +kernel
theorem dX9_init_25 : decode cX9_init 25 = .ok (.newarray .int, 2) := by decide +kernel
theorem dX9_init_27 : decode cX9_init 27 = .ok (.putfield 16, 3) := by decide +kernel
theorem dX9_init_30 : decode cX9_init 30 = .ok (.aload_n 0, 1) := by decide +kernel
theorem dX9_init_31 : decode cX9_init 31 = .ok (.getfield 7, 3) := by decide +kernel
theorem dX9_init_34 : decode cX9_init 34 = .ok (.iconst 1, 1) := by decide +kernel
theorem dX9_init_35 : decode cX9_init 35 = .ok (.iconst 1, 1) := by decide +kernel
theorem dX9_init_36 : decode cX9_init 36 = .ok (.iastore, 1) := by decide +kernel
theorem dX9_init_37 : decode cX9_init 37 = .ok (.aload_n 0, 1) := by decide +kernel
theorem dX9_init_38 : decode cX9_init 38 = .ok (.getfield 7, 3) := by decide +kernel
theorem dX9_init_41 : decode cX9_init 41 = .ok (.iconst 2, 1) := by decide +kernel
theorem dX9_init_42 : decode cX9_init 42 = .ok (.iconst (-1), 1) := by decide +kernel
theorem dX9_init_43 : decode cX9_init 43 = .ok (.iastore, 1) := by decide +kernel
theorem dX9_init_44 : decode cX9_init 44 = .ok (.return_, 1) := by decide +kernel
theorem dX9_within_0 : decode cX9_within 0 = .ok (.iload_n 0, 1) := by decide +kernel
theorem dX9_within_1 : decode cX9_within 1 = .ok (.iload_n 1, 1) := by decide +kernel
theorem dX9_within_2 : decode cX9_within 2 = .ok (.if_icmp .lt 12, 3) := by decide +kernel
theorem dX9_within_5 : decode cX9_within 5 = .ok (.iload_n 0, 1) := by decide +kernel
theorem dX9_within_6 : decode cX9_within 6 = .ok (.iload_n 2, 1) := by decide +kernel
theorem dX9_within_7 : decode cX9_within 7 = .ok (.if_icmp .gt 7, 3) := by decide +kernel
theorem dX9_within_10 : decode cX9_within 10 = .ok (.iconst 1, 1) := by decide +kernel
theorem dX9_within_11 : decode cX9_within 11 = .ok (.goto 4, 3) := by decide +kernel
theorem dX9_within_14 : decode cX9_within 14 = .ok (.iconst 0, 1) := by decide +kernel
theorem dX9_within_15 : decode cX9_within 15 = .ok (.ireturn, 1) := by decide +kernel
theorem dX9_fails_0 : decode cX9_fails 0 = .ok (.aload_n 0, 1) := by decide +kernel
theorem dX9_fails_1 : decode cX9_fails 1 = .ok (.getfield 16, 3) := by decide +kernel
theorem dX9_fails_4 : decode cX9_fails 4 = .ok (.bipush (-2), 2) := by decide +kernel
theorem dX9_fails_6 : decode cX9_fails 6 = .ok (.iload_n 1, 1) := by decide +kernel
theorem dX9_fails_7 : decode cX9_fails 7 = .ok (.isub, 1) := by decide +kernel
theorem dX9_fails_8 : decode cX9_fails 8 = .ok (.dup2, 1) := by decide +kernel
theorem dX9_fails_9 : decode cX9_fails 9 = .ok (.iaload, 1) := by decide +kernel
theorem dX9_fails_10 : decode cX9_fails 10 = .ok (.iconst 1, 1) := by decide +kernel
theorem dX9_fails_11 : decode cX9_fails 11 = .ok (.iadd, 1) := by decide +kernel
theorem dX9_fails_12 : decode cX9_fails 12 = .ok (.iastore, 1) := by decide +kernel
theorem dX9_fails_13 : decode cX9_fails 13 = .ok (.iload_n 1, 1) := by decide +kernel
theorem dX9_fails_14 : decode cX9_fails 14 = .ok (.ireturn, 1) := by decide +kernel
theorem dX9_isPort_0 : decode cX9_isPort 0 = .ok (.iload_n 0, 1) := by decide +kernel
theorem dX9_isPort_1 : decode cX9_isPort 1 = .ok (.iconst 0, 1) := by decide +kernel
theorem dX9_isPort_2 : decode cX9_isPort 2 = .ok (.bipush 15, 2) := by decide +kernel
theorem dX9_isPort_4 : decode cX9_isPort 4 = .ok (.invokestatic 19, 3) := by decide +kernel
theorem dX9_isPort_7 : decode cX9_isPort 7 = .ok (.ifCond .eq 17, 3) := by decide +kernel
theorem dX9_isPort_10 : decode cX9_isPort 10 = .ok (.iload_n 1, 1) := by decide +kernel
theorem dX9_isPort_11 : decode cX9_isPort 11 = .ok (.iconst 0, 1) := by decide +kernel
theorem dX9_isPort_12 : decode cX9_isPort 12 = .ok (.bipush 7, 2) := by decide +kernel
theorem dX9_isPort_14 : decode cX9_isPort 14 = .ok (.invokestatic 19, 3) := by decide +kernel
theorem dX9_isPort_17 : decode cX9_isPort 17 = .ok (.ifCond .eq 7, 3) := by decide +kernel
theorem dX9_isPort_20 : decode cX9_isPort 20 = .ok (.iconst 1, 1) := by decide +kernel
theorem dX9_isPort_21 : decode cX9_isPort 21 = .ok (.goto 4, 3) := by decide +kernel
theorem dX9_isPort_24 : decode cX9_isPort 24 = .ok (.iconst 0, 1) := by decide +kernel
theorem dX9_isPort_25 : decode cX9_isPort 25 = .ok (.ireturn, 1) := by decide +kernel
theorem dX9_isClient_0 : decode cX9_isClient 0 = .ok (.iload_n 0, 1) := by decide +kernel
theorem dX9_isClient_1 : decode cX9_isClient 1 = .ok (.iconst 0, 1) := by decide +kernel
theorem dX9_isClient_2 : decode cX9_isClient 2 = .ok (.bipush 15, 2) := by decide +kernel
theorem dX9_isClient_4 : decode cX9_isClient 4 = .ok (.invokestatic 19, 3) := by decide +kernel
theorem dX9_isClient_7 : decode cX9_isClient 7 = .ok (.ireturn, 1) := by decide +kernel
theorem dX9_isCookie_0 : decode cX9_isCookie 0 = .ok (.iload_n 0, 1) := by decide +kernel
theorem dX9_isCookie_1 : decode cX9_isCookie 1 = .ok (.iconst 0, 1) := by decide +kernel
theorem dX9_isCookie_2 : decode cX9_isCookie 2 = .ok (.ldc 23, 2) := by decide +kernel
theorem dX9_isCookie_4 : decode cX9_isCookie 4 = .ok (.invokestatic 19, 3) := by decide +kernel
theorem dX9_isCookie_7 : decode cX9_isCookie 7 = .ok (.ireturn, 1) := by decide +kernel
theorem dX9_saves_0 : decode cX9_saves 0 = .ok (.aload_n 0, 1) := by decide +kernel
theorem dX9_saves_1 : decode cX9_saves 1 = .ok (.getfield 24, 3) := by decide +kernel
theorem dX9_saves_4 : decode cX9_saves 4 = .ok (.iconst 3, 1) := by decide +kernel
theorem dX9_saves_5 : decode cX9_saves 5 = .ok (.if_icmp .ne 44, 3) := by decide +kernel
theorem dX9_saves_8 : decode cX9_saves 8 = .ok (.iconst 0, 1) := by decide +kernel
theorem dX9_saves_9 : decode cX9_saves 9 = .ok (.istore_n 1, 1) := by decide +kernel
theorem dX9_saves_10 : decode cX9_saves 10 = .ok (.iload_n 1, 1) := by decide +kernel
theorem dX9_saves_11 : decode cX9_saves 11 = .ok (.sipush 808, 3) := by decide +kernel
theorem dX9_saves_14 : decode cX9_saves 14 = .ok (.if_icmp .ge 25, 3) := by decide +kernel
theorem dX9_saves_17 : decode cX9_saves 17 = .ok (.aload_n 0, 1) := by decide +kernel
theorem dX9_saves_18 : decode cX9_saves 18 = .ok (.getfield 13, 3) := by decide +kernel
theorem dX9_saves_21 : decode cX9_saves 21 = .ok (.iload_n 1, 1) := by decide +kernel
theorem dX9_saves_22 : decode cX9_saves 22 = .ok (.aload_n 0, 1) := by decide +kernel
theorem dX9_saves_23 : decode cX9_saves 23 = .ok (.getfield 13, 3) := by decide +kernel
theorem dX9_saves_26 : decode cX9_saves 26 = .ok (.iload_n 1, 1) := by decide +kernel
theorem dX9_saves_27 : decode cX9_saves 27 = .ok (.sipush 404, 3) := by decide +kernel
theorem dX9_saves_30 : decode cX9_saves 30 = .ok (.iadd, 1) := by decide +kernel
theorem dX9_saves_31 : decode cX9_saves 31 = .ok (.iaload, 1) := by decide +kernel
theorem dX9_saves_32 : decode cX9_saves 32 = .ok (.iastore, 1) := by decide +kernel
theorem dX9_saves_33 : decode cX9_saves 33 = .ok (.iinc 1 1, 3) := by decide +kernel
theorem dX9_saves_36 : decode cX9_saves 36 = .ok (.goto (-26), 3) := by decide +kernel
theorem dX9_saves_39 : decode cX9_saves 39 = .ok (.aload_n 0, 1) := by decide +kernel
theorem dX9_saves_40 : decode cX9_saves 40 = .ok (.dup, 1) := by decide +kernel
theorem dX9_saves_41 : decode cX9_saves 41 = .ok (.getfield 24, 3) := by decide +kernel
theorem dX9_saves_44 : decode cX9_saves 44 = .ok (.iconst 1, 1) := by decide +kernel
theorem dX9_saves_45 : decode cX9_saves 45 = .ok (.isub, 1) := by decide +kernel
theorem dX9_saves_46 : decode cX9_saves 46 = .ok (.putfield 24, 3) := by decide +kernel
theorem dX9_saves_49 : decode cX9_saves 49 = .ok (.iconst 0, 1) := by decide +kernel
theorem dX9_saves_50 : decode cX9_saves 50 = .ok (.istore_n 1, 1) := by decide +kernel
theorem dX9_saves_51 : decode cX9_saves 51 = .ok (.iload_n 1, 1) := by decide +kernel
theorem dX9_saves_52 : decode cX9_saves 52 = .ok (.sipush 404, 3) := by decide +kernel
theorem dX9_saves_55 : decode cX9_saves 55 = .ok (.if_icmp .ge 30, 3) := by decide +kernel
theorem dX9_saves_58 : decode cX9_saves 58 = .ok (.aload_n 0, 1) := by decide +kernel
theorem dX9_saves_59 : decode cX9_saves 59 = .ok (.getfield 13, 3) := by decide +kernel
theorem dX9_saves_62 : decode cX9_saves 62 = .ok (.sipush 404, 3) := by decide +kernel
theorem dX9_saves_65 : decode cX9_saves 65 = .ok (.aload_n 0, 1) := by decide +kernel
theorem dX9_saves_66 : decode cX9_saves 66 = .ok (.getfield 24, 3) := by decide +kernel
theorem dX9_saves_69 : decode cX9_saves 69 = .ok (.imul, 1) := by decide +kernel
theorem dX9_saves_70 : decode cX9_saves 70 = .ok (.iload_n 1, 1) := by decide +kernel
theorem dX9_saves_71 : decode cX9_saves 71 = .ok (.iadd, 1) := by decide +kernel
theorem dX9_saves_72 : decode cX9_saves 72 = .ok (.aload_n 0, 1) := by decide +kernel
theorem dX9_saves_73 : decode cX9_saves 73 = .ok (.getfield 7, 3) := by decide +kernel
theorem dX9_saves_76 : decode cX9_saves 76 = .ok (.iload_n 1, 1) := by decide +kernel
theorem dX9_saves_77 : decode cX9_saves 77 = .ok (.iaload, 1) := by decide +kernel
theorem dX9_saves_78 : decode cX9_saves 78 = .ok (.iastore, 1) := by decide +kernel
theorem dX9_saves_79 : decode cX9_saves 79 = .ok (.iinc 1 1, 3) := by decide +kernel
theorem dX9_saves_82 : decode cX9_saves 82 = .ok (.goto (-31), 3) := by decide +kernel
theorem dX9_saves_85 : decode cX9_saves 85 = .ok (.aload_n 0, 1) := by decide +kernel
theorem dX9_saves_86 : decode cX9_saves 86 = .ok (.dup, 1) := by decide +kernel
theorem dX9_saves_87 : decode cX9_saves 87 = .ok (.getfield 24, 3) := by decide +kernel
theorem dX9_saves_90 : decode cX9_saves 90 = .ok (.iconst 1, 1) := by decide +kernel
theorem dX9_saves_91 : decode cX9_saves 91 = .ok (.iadd, 1) := by decide +kernel
theorem dX9_saves_92 : decode cX9_saves 92 = .ok (.putfield 24, 3) := by decide +kernel
theorem dX9_saves_95 : decode cX9_saves 95 = .ok (.return_, 1) := by decide +kernel
theorem dX9_undo_0 : decode cX9_undo 0 = .ok (.aload_n 0, 1) := by decide +kernel
theorem dX9_undo_1 : decode cX9_undo 1 = .ok (.getfield 24, 3) := by decide +kernel
theorem dX9_undo_4 : decode cX9_undo 4 = .ok (.ifCond .ne 10, 3) := by decide +kernel
theorem dX9_undo_7 : decode cX9_undo 7 = .ok (.aload_n 0, 1) := by decide +kernel
theorem dX9_undo_8 : decode cX9_undo 8 = .ok (.bipush (-10), 2) := by decide +kernel
theorem dX9_undo_10 : decode cX9_undo 10 = .ok (.invokevirtual 28, 3) := by decide +kernel
theorem dX9_undo_13 : decode cX9_undo 13 = .ok (.ireturn, 1) := by decide +kernel
theorem dX9_undo_14 : decode cX9_undo 14 = .ok (.aload_n 0, 1) := by decide +kernel
theorem dX9_undo_15 : decode cX9_undo 15 = .ok (.dup, 1) := by decide +kernel
theorem dX9_undo_16 : decode cX9_undo 16 = .ok (.getfield 24, 3) := by decide +kernel
theorem dX9_undo_19 : decode cX9_undo 19 = .ok (.iconst 1, 1) := by decide +kernel
theorem dX9_undo_20 : decode cX9_undo 20 = .ok (.isub, 1) := by decide +kernel
theorem dX9_undo_21 : decode cX9_undo 21 = .ok (.putfield 24, 3) := by decide +kernel
theorem dX9_undo_24 : decode cX9_undo 24 = .ok (.iconst 0, 1) := by decide +kernel
theorem dX9_undo_25 : decode cX9_undo 25 = .ok (.istore_n 1, 1) := by decide +kernel
theorem dX9_undo_26 : decode cX9_undo 26 = .ok (.iload_n 1, 1) := by decide +kernel
theorem dX9_undo_27 : decode cX9_undo 27 = .ok (.sipush 404, 3) := by decide +kernel
theorem dX9_undo_30 : decode cX9_undo 30 = .ok (.if_icmp .ge 30, 3) := by decide +kernel
theorem dX9_undo_33 : decode cX9_undo 33 = .ok (.aload_n 0, 1) := by decide +kernel
theorem dX9_undo_34 : decode cX9_undo 34 = .ok (.getfield 7, 3) := by decide +kernel
theorem dX9_undo_37 : decode cX9_undo 37 = .ok (.iload_n 1, 1) := by decide +kernel
theorem dX9_undo_38 : decode cX9_undo 38 = .ok (.aload_n 0, 1) := by decide +kernel
theorem dX9_undo_39 : decode cX9_undo 39 = .ok (.getfield 13, 3) := by decide +kernel
theorem dX9_undo_42 : decode cX9_undo 42 = .ok (.sipush 404, 3) := by decide +kernel
theorem dX9_undo_45 : decode cX9_undo 45 = .ok (.aload_n 0, 1) := by decide +kernel
theorem dX9_undo_46 : decode cX9_undo 46 = .ok (.getfield 24, 3) := by decide +kernel
theorem dX9_undo_49 : decode cX9_undo 49 = .ok (.imul, 1) := by decide +kernel
theorem dX9_undo_50 : decode cX9_undo 50 = .ok (.iload_n 1, 1) := by decide +kernel
theorem dX9_undo_51 : decode cX9_undo 51 = .ok (.iadd, 1) := by decide +kernel
theorem dX9_undo_52 : decode cX9_undo 52 = .ok (.iaload, 1) := by decide +kernel
theorem dX9_undo_53 : decode cX9_undo 53 = .ok (.iastore, 1) := by decide +kernel
theorem dX9_undo_54 : decode cX9_undo 54 = .ok (.iinc 1 1, 3) := by decide +kernel
theorem dX9_undo_57 : decode cX9_undo 57 = .ok (.goto (-31), 3) := by decide +kernel
theorem dX9_undo_60 : decode cX9_undo 60 = .ok (.aload_n 0, 1) := by decide +kernel
theorem dX9_undo_61 : decode cX9_undo 61 = .ok (.getfield 24, 3) := by decide +kernel
theorem dX9_undo_64 : decode cX9_undo 64 = .ok (.ireturn, 1) := by decide +kernel
theorem dX9_epochNow_0 : decode cX9_epochNow 0 = .ok (.aload_n 0, 1) := by decide +kernel
theorem dX9_epochNow_1 : decode cX9_epochNow 1 = .ok (.getfield 7, 3) := by decide +kernel
theorem dX9_epochNow_4 : decode cX9_epochNow 4 = .ok (.iconst 0, 1) := by decide +kernel
theorem dX9_epochNow_5 : decode cX9_epochNow 5 = .ok (.iaload, 1) := by decide +kernel
theorem dX9_epochNow_6 : decode cX9_epochNow 6 = .ok (.bipush 64, 2) := by decide +kernel
theorem dX9_epochNow_8 : decode cX9_epochNow 8 = .ok (.idiv, 1) := by decide +kernel
theorem dX9_epochNow_9 : decode cX9_epochNow 9 = .ok (.ireturn, 1) := by decide +kernel
theorem dX9_stampOf_0 : decode cX9_stampOf 0 = .ok (.iload_n 0, 1) := by decide +kernel
theorem dX9_stampOf_1 : decode cX9_stampOf 1 = .ok (.ldc 32, 2) := by decide +kernel
theorem dX9_stampOf_3 : decode cX9_stampOf 3 = .ok (.idiv, 1) := by decide +kernel
theorem dX9_stampOf_4 : decode cX9_stampOf 4 = .ok (.ireturn, 1) := by decide +kernel
theorem dX9_optionOf_0 : decode cX9_optionOf 0 = .ok (.iload_n 0, 1) := by decide +kernel
theorem dX9_optionOf_1 : decode cX9_optionOf 1 = .ok (.sipush 4096, 3) := by decide +kernel
theorem dX9_optionOf_4 : decode cX9_optionOf 4 = .ok (.idiv, 1) := by decide +kernel
theorem dX9_optionOf_5 : decode cX9_optionOf 5 = .ok (.bipush 8, 2) := by decide +kernel
theorem dX9_optionOf_7 : decode cX9_optionOf 7 = .ok (.irem, 1) := by decide +kernel
theorem dX9_optionOf_8 : decode cX9_optionOf 8 = .ok (.ireturn, 1) := by decide +kernel
theorem dX9_ageOf_0 : decode cX9_ageOf 0 = .ok (.aload_n 0, 1) := by decide +kernel
theorem dX9_ageOf_1 : decode cX9_ageOf 1 = .ok (.invokevirtual 33, 3) := by decide +kernel
theorem dX9_ageOf_4 : decode cX9_ageOf 4 = .ok (.bipush 32, 2) := by decide +kernel
theorem dX9_ageOf_6 : decode cX9_ageOf 6 = .ok (.irem, 1) := by decide +kernel
theorem dX9_ageOf_7 : decode cX9_ageOf 7 = .ok (.bipush 32, 2) := by decide +kernel
theorem dX9_ageOf_9 : decode cX9_ageOf 9 = .ok (.iadd, 1) := by decide +kernel
theorem dX9_ageOf_10 : decode cX9_ageOf 10 = .ok (.iload_n 1, 1) := by decide +kernel
theorem dX9_ageOf_11 : decode cX9_ageOf 11 = .ok (.invokestatic 37, 3) := by decide +kernel
theorem dX9_ageOf_14 : decode cX9_ageOf 14 = .ok (.isub, 1) := by decide +kernel
theorem dX9_ageOf_15 : decode cX9_ageOf 15 = .ok (.bipush 32, 2) := by decide +kernel
theorem dX9_ageOf_17 : decode cX9_ageOf 17 = .ok (.irem, 1) := by decide +kernel
theorem dX9_ageOf_18 : decode cX9_ageOf 18 = .ok (.ireturn, 1) := by decide +kernel
theorem dX9_drops_0 : decode cX9_drops 0 = .ok (.iload_n 1, 1) := by decide +kernel
theorem dX9_drops_1 : decode cX9_drops 1 = .ok (.iload_n 2, 1) := by decide +kernel
theorem dX9_drops_2 : decode cX9_drops 2 = .ok (.iload 4, 2) := by decide +kernel
theorem dX9_drops_4 : decode cX9_drops 4 = .ok (.imul, 1) := by decide +kernel
theorem dX9_drops_5 : decode cX9_drops 5 = .ok (.iadd, 1) := by decide +kernel
theorem dX9_drops_6 : decode cX9_drops 6 = .ok (.istore 5, 2) := by decide +kernel
theorem dX9_drops_8 : decode cX9_drops 8 = .ok (.iload 5, 2) := by decide +kernel
theorem dX9_drops_10 : decode cX9_drops 10 = .ok (.iload_n 1, 1) := by decide +kernel
theorem dX9_drops_11 : decode cX9_drops 11 = .ok (.iload_n 2, 1) := by decide +kernel
theorem dX9_drops_12 : decode cX9_drops 12 = .ok (.aload_n 0, 1) := by decide +kernel
theorem dX9_drops_13 : decode cX9_drops 13 = .ok (.getfield 7, 3) := by decide +kernel
theorem dX9_drops_16 : decode cX9_drops 16 = .ok (.iload_n 3, 1) := by decide +kernel
theorem dX9_drops_17 : decode cX9_drops 17 = .ok (.iaload, 1) := by decide +kernel
theorem dX9_drops_18 : decode cX9_drops 18 = .ok (.iconst 1, 1) := by decide +kernel
theorem dX9_drops_19 : decode cX9_drops 19 = .ok (.isub, 1) := by decide +kernel
theorem dX9_drops_20 : decode cX9_drops 20 = .ok (.imul, 1) := by decide +kernel
theorem dX9_drops_21 : decode cX9_drops 21 = .ok (.iadd, 1) := by decide +kernel
theorem dX9_drops_22 : decode cX9_drops 22 = .ok (.if_icmp .ge 25, 3) := by decide +kernel
theorem dX9_drops_25 : decode cX9_drops 25 = .ok (.aload_n 0, 1) := by decide +kernel
theorem dX9_drops_26 : decode cX9_drops 26 = .ok (.getfield 7, 3) := by decide +kernel
theorem dX9_drops_29 : decode cX9_drops 29 = .ok (.iload 5, 2) := by decide +kernel
theorem dX9_drops_31 : decode cX9_drops 31 = .ok (.aload_n 0, 1) := by decide +kernel
theorem dX9_drops_32 : decode cX9_drops 32 = .ok (.getfield 7, 3) := by decide +kernel
theorem dX9_drops_35 : decode cX9_drops 35 = .ok (.iload 5, 2) := by decide +kernel
theorem dX9_drops_37 : decode cX9_drops 37 = .ok (.iload_n 2, 1) := by decide +kernel
theorem dX9_drops_38 : decode cX9_drops 38 = .ok (.iadd, 1) := by decide +kernel
theorem dX9_drops_39 : decode cX9_drops 39 = .ok (.iaload, 1) := by decide +kernel
theorem dX9_drops_40 : decode cX9_drops 40 = .ok (.iastore, 1) := by decide +kernel
theorem dX9_drops_41 : decode cX9_drops 41 = .ok (.iinc 5 1, 3) := by decide +kernel
theorem dX9_drops_44 : decode cX9_drops 44 = .ok (.goto (-36), 3) := by decide +kernel
theorem dX9_drops_47 : decode cX9_drops 47 = .ok (.aload_n 0, 1) := by decide +kernel
theorem dX9_drops_48 : decode cX9_drops 48 = .ok (.getfield 7, 3) := by decide +kernel
theorem dX9_drops_51 : decode cX9_drops 51 = .ok (.iload_n 3, 1) := by decide +kernel
theorem dX9_drops_52 : decode cX9_drops 52 = .ok (.dup2, 1) := by decide +kernel
theorem dX9_drops_53 : decode cX9_drops 53 = .ok (.iaload, 1) := by decide +kernel
theorem dX9_drops_54 : decode cX9_drops 54 = .ok (.iconst 1, 1) := by decide +kernel
theorem dX9_drops_55 : decode cX9_drops 55 = .ok (.isub, 1) := by decide +kernel
theorem dX9_drops_56 : decode cX9_drops 56 = .ok (.iastore, 1) := by decide +kernel
theorem dX9_drops_57 : decode cX9_drops 57 = .ok (.return_, 1) := by decide +kernel
theorem dX9_ticks_0 : decode cX9_ticks 0 = .ok (.aload_n 0, 1) := by decide +kernel
theorem dX9_ticks_1 : decode cX9_ticks 1 = .ok (.getfield 7, 3) := by decide +kernel
theorem dX9_ticks_4 : decode cX9_ticks 4 = .ok (.iconst 0, 1) := by decide +kernel
theorem dX9_ticks_5 : decode cX9_ticks 5 = .ok (.dup2, 1) := by decide +kernel
theorem dX9_ticks_6 : decode cX9_ticks 6 = .ok (.iaload, 1) := by decide +kernel
theorem dX9_ticks_7 : decode cX9_ticks 7 = .ok (.iconst 1, 1) := by decide +kernel
theorem dX9_ticks_8 : decode cX9_ticks 8 = .ok (.iadd, 1) := by decide +kernel
theorem dX9_ticks_9 : decode cX9_ticks 9 = .ok (.iastore, 1) := by decide +kernel
theorem dX9_ticks_10 : decode cX9_ticks 10 = .ok (.aload_n 0, 1) := by decide +kernel
theorem dX9_ticks_11 : decode cX9_ticks 11 = .ok (.getfield 7, 3) := by decide +kernel
theorem dX9_ticks_14 : decode cX9_ticks 14 = .ok (.bipush 8, 2) := by decide +kernel
theorem dX9_ticks_16 : decode cX9_ticks 16 = .ok (.aload_n 0, 1) := by decide +kernel
theorem dX9_ticks_17 : decode cX9_ticks 17 = .ok (.getfield 7, 3) := by decide +kernel
theorem dX9_ticks_20 : decode cX9_ticks 20 = .ok (.iconst 0, 1) := by decide +kernel
theorem dX9_ticks_21 : decode cX9_ticks 21 = .ok (.iaload, 1) := by decide +kernel
theorem dX9_ticks_22 : decode cX9_ticks 22 = .ok (.bipush 16, 2) := by decide +kernel
theorem dX9_ticks_24 : decode cX9_ticks 24 = .ok (.irem, 1) := by decide +kernel
theorem dX9_ticks_25 : decode cX9_ticks 25 = .ok (.iadd, 1) := by decide +kernel
theorem dX9_ticks_26 : decode cX9_ticks 26 = .ok (.iconst 0, 1) := by decide +kernel
theorem dX9_ticks_27 : decode cX9_ticks 27 = .ok (.iastore, 1) := by decide +kernel
theorem dX9_ticks_28 : decode cX9_ticks 28 = .ok (.aload_n 0, 1) := by decide +kernel
theorem dX9_ticks_29 : decode cX9_ticks 29 = .ok (.getfield 7, 3) := by decide +kernel
theorem dX9_ticks_32 : decode cX9_ticks 32 = .ok (.iconst 3, 1) := by decide +kernel
theorem dX9_ticks_33 : decode cX9_ticks 33 = .ok (.iaload, 1) := by decide +kernel
theorem dX9_ticks_34 : decode cX9_ticks 34 = .ok (.iconst 1, 1) := by decide +kernel
theorem dX9_ticks_35 : decode cX9_ticks 35 = .ok (.isub, 1) := by decide +kernel
theorem dX9_ticks_36 : decode cX9_ticks 36 = .ok (.istore_n 1, 1) := by decide +kernel
theorem dX9_ticks_37 : decode cX9_ticks 37 = .ok (.iload_n 1, 1) := by decide +kernel
theorem dX9_ticks_38 : decode cX9_ticks 38 = .ok (.ifCond .lt 43, 3) := by decide +kernel
theorem dX9_ticks_41 : decode cX9_ticks 41 = .ok (.aload_n 0, 1) := by decide +kernel
theorem dX9_ticks_42 : decode cX9_ticks 42 = .ok (.getfield 7, 3) := by decide +kernel
theorem dX9_ticks_45 : decode cX9_ticks 45 = .ok (.iconst 0, 1) := by decide +kernel
theorem dX9_ticks_46 : decode cX9_ticks 46 = .ok (.iaload, 1) := by decide +kernel
theorem dX9_ticks_47 : decode cX9_ticks 47 = .ok (.aload_n 0, 1) := by decide +kernel
theorem dX9_ticks_48 : decode cX9_ticks 48 = .ok (.getfield 7, 3) := by decide +kernel
theorem dX9_ticks_51 : decode cX9_ticks 51 = .ok (.bipush 24, 2) := by decide +kernel
theorem dX9_ticks_53 : decode cX9_ticks 53 = .ok (.iconst 4, 1) := by decide +kernel
theorem dX9_ticks_54 : decode cX9_ticks 54 = .ok (.iload_n 1, 1) := by decide +kernel
theorem dX9_ticks_55 : decode cX9_ticks 55 = .ok (.imul, 1) := by decide +kernel
theorem dX9_ticks_56 : decode cX9_ticks 56 = .ok (.iadd, 1) := by decide +kernel
theorem dX9_ticks_57 : decode cX9_ticks 57 = .ok (.iconst 3, 1) := by decide +kernel
theorem dX9_ticks_58 : decode cX9_ticks 58 = .ok (.iadd, 1) := by decide +kernel
theorem dX9_ticks_59 : decode cX9_ticks 59 = .ok (.iaload, 1) := by decide +kernel
theorem dX9_ticks_60 : decode cX9_ticks 60 = .ok (.isub, 1) := by decide +kernel
theorem dX9_ticks_61 : decode cX9_ticks 61 = .ok (.bipush 20, 2) := by decide +kernel
theorem dX9_ticks_63 : decode cX9_ticks 63 = .ok (.if_icmp .lt 12, 3) := by decide +kernel
theorem dX9_ticks_66 : decode cX9_ticks 66 = .ok (.aload_n 0, 1) := by decide +kernel
theorem dX9_ticks_67 : decode cX9_ticks 67 = .ok (.bipush 24, 2) := by decide +kernel
theorem dX9_ticks_69 : decode cX9_ticks 69 = .ok (.iconst 4, 1) := by decide +kernel
theorem dX9_ticks_70 : decode cX9_ticks 70 = .ok (.iconst 3, 1) := by decide +kernel
theorem dX9_ticks_71 : decode cX9_ticks 71 = .ok (.iload_n 1, 1) := by decide +kernel
theorem dX9_ticks_72 : decode cX9_ticks 72 = .ok (.invokevirtual 40, 3) := by decide +kernel
theorem dX9_ticks_75 : decode cX9_ticks 75 = .ok (.iinc 1 (-1), 3) := by decide +kernel
theorem dX9_ticks_78 : decode cX9_ticks 78 = .ok (.goto (-41), 3) := by decide +kernel
theorem dX9_ticks_81 : decode cX9_ticks 81 = .ok (.aload_n 0, 1) := by decide +kernel
theorem dX9_ticks_82 : decode cX9_ticks 82 = .ok (.getfield 7, 3) := by decide +kernel
theorem dX9_ticks_85 : decode cX9_ticks 85 = .ok (.iconst 4, 1) := by decide +kernel
theorem dX9_ticks_86 : decode cX9_ticks 86 = .ok (.iaload, 1) := by decide +kernel
theorem dX9_ticks_87 : decode cX9_ticks 87 = .ok (.iconst 1, 1) := by decide +kernel
theorem dX9_ticks_88 : decode cX9_ticks 88 = .ok (.isub, 1) := by decide +kernel
theorem dX9_ticks_89 : decode cX9_ticks 89 = .ok (.istore_n 1, 1) := by decide +kernel
theorem dX9_ticks_90 : decode cX9_ticks 90 = .ok (.iload_n 1, 1) := by decide +kernel
theorem dX9_ticks_91 : decode cX9_ticks 91 = .ok (.ifCond .lt 51, 3) := by decide +kernel
theorem dX9_ticks_94 : decode cX9_ticks 94 = .ok (.aload_n 0, 1) := by decide +kernel
theorem dX9_ticks_95 : decode cX9_ticks 95 = .ok (.getfield 7, 3) := by decide +kernel
theorem dX9_ticks_98 : decode cX9_ticks 98 = .ok (.iconst 0, 1) := by decide +kernel
theorem dX9_ticks_99 : decode cX9_ticks 99 = .ok (.iaload, 1) := by decide +kernel
theorem dX9_ticks_100 : decode cX9_ticks 100 = .ok (.bipush 64, 2) := by decide +kernel
theorem dX9_ticks_102 : decode cX9_ticks 102 = .ok (.irem, 1) := by decide +kernel
theorem dX9_ticks_103 : decode cX9_ticks 103 = .ok (.ifCond .ne 39, 3) := by decide +kernel
theorem dX9_ticks_106 : decode cX9_ticks 106 = .ok (.aload_n 0, 1) := by decide +kernel
theorem dX9_ticks_107 : decode cX9_ticks 107 = .ok (.aload_n 0, 1) := by decide +kernel
theorem dX9_ticks_108 : decode cX9_ticks 108 = .ok (.getfield 7, 3) := by decide +kernel
theorem dX9_ticks_111 : decode cX9_ticks 111 = .ok (.sipush 168, 3) := by decide +kernel
theorem dX9_ticks_114 : decode cX9_ticks 114 = .ok (.iconst 3, 1) := by decide +kernel
theorem dX9_ticks_115 : decode cX9_ticks 115 = .ok (.iload_n 1, 1) := by decide +kernel
theorem dX9_ticks_116 : decode cX9_ticks 116 = .ok (.imul, 1) := by decide +kernel
theorem dX9_ticks_117 : decode cX9_ticks 117 = .ok (.iadd, 1) := by decide +kernel
theorem dX9_ticks_118 : decode cX9_ticks 118 = .ok (.iaload, 1) := by decide +kernel
theorem dX9_ticks_119 : decode cX9_ticks 119 = .ok (.invokevirtual 44, 3) := by decide +kernel
theorem dX9_ticks_122 : decode cX9_ticks 122 = .ok (.iconst 1, 1) := by decide +kernel
theorem dX9_ticks_123 : decode cX9_ticks 123 = .ok (.if_icmp .le 13, 3) := by decide +kernel
theorem dX9_ticks_126 : decode cX9_ticks 126 = .ok (.aload_n 0, 1) := by decide +kernel
theorem dX9_ticks_127 : decode cX9_ticks 127 = .ok (.sipush 168, 3) := by decide +kernel
theorem dX9_ticks_130 : decode cX9_ticks 130 = .ok (.iconst 3, 1) := by decide +kernel
theorem dX9_ticks_131 : decode cX9_ticks 131 = .ok (.iconst 4, 1) := by decide +kernel
theorem dX9_ticks_132 : decode cX9_ticks 132 = .ok (.iload_n 1, 1) := by decide +kernel
theorem dX9_ticks_133 : decode cX9_ticks 133 = .ok (.invokevirtual 40, 3) := by decide +kernel
theorem dX9_ticks_136 : decode cX9_ticks 136 = .ok (.iinc 1 (-1), 3) := by decide +kernel
theorem dX9_ticks_139 : decode cX9_ticks 139 = .ok (.goto (-49), 3) := by decide +kernel
theorem dX9_ticks_142 : decode cX9_ticks 142 = .ok (.return_, 1) := by decide +kernel
theorem dX9_advance_0 : decode cX9_advance 0 = .ok (.iload_n 1, 1) := by decide +kernel
theorem dX9_advance_1 : decode cX9_advance 1 = .ok (.iconst 0, 1) := by decide +kernel
theorem dX9_advance_2 : decode cX9_advance 2 = .ok (.sipush 1000, 3) := by decide +kernel
theorem dX9_advance_5 : decode cX9_advance 5 = .ok (.invokestatic 19, 3) := by decide +kernel
theorem dX9_advance_8 : decode cX9_advance 8 = .ok (.ifCond .ne 10, 3) := by decide +kernel
theorem dX9_advance_11 : decode cX9_advance 11 = .ok (.aload_n 0, 1) := by decide +kernel
theorem dX9_advance_12 : decode cX9_advance 12 = .ok (.bipush (-2), 2) := by decide +kernel
theorem dX9_advance_14 : decode cX9_advance 14 = .ok (.invokevirtual 28, 3) := by decide +kernel
theorem dX9_advance_17 : decode cX9_advance 17 = .ok (.ireturn, 1) := by decide +kernel
theorem dX9_advance_18 : decode cX9_advance 18 = .ok (.aload_n 0, 1) := by decide +kernel
theorem dX9_advance_19 : decode cX9_advance 19 = .ok (.invokevirtual 47, 3) := by decide +kernel
theorem dX9_advance_22 : decode cX9_advance 22 = .ok (.iconst 0, 1) := by decide +kernel
theorem dX9_advance_23 : decode cX9_advance 23 = .ok (.istore_n 2, 1) := by decide +kernel
theorem dX9_advance_24 : decode cX9_advance 24 = .ok (.iload_n 2, 1) := by decide +kernel
theorem dX9_advance_25 : decode cX9_advance 25 = .ok (.iload_n 1, 1) := by decide +kernel
theorem dX9_advance_26 : decode cX9_advance 26 = .ok (.if_icmp .ge 13, 3) := by decide +kernel
theorem dX9_advance_29 : decode cX9_advance 29 = .ok (.aload_n 0, 1) := by decide +kernel
theorem dX9_advance_30 : decode cX9_advance 30 = .ok (.invokevirtual 50, 3) := by decide +kernel
theorem dX9_advance_33 : decode cX9_advance 33 = .ok (.iinc 2 1, 3) := by decide +kernel
theorem dX9_advance_36 : decode cX9_advance 36 = .ok (.goto (-12), 3) := by decide +kernel
theorem dX9_advance_39 : decode cX9_advance 39 = .ok (.aload_n 0, 1) := by decide +kernel
theorem dX9_advance_40 : decode cX9_advance 40 = .ok (.getfield 7, 3) := by decide +kernel
theorem dX9_advance_43 : decode cX9_advance 43 = .ok (.iconst 0, 1) := by decide +kernel
theorem dX9_advance_44 : decode cX9_advance 44 = .ok (.iaload, 1) := by decide +kernel
theorem dX9_advance_45 : decode cX9_advance 45 = .ok (.ireturn, 1) := by decide +kernel
theorem dX9_rotateKey_0 : decode cX9_rotateKey 0 = .ok (.iload_n 1, 1) := by decide +kernel
theorem dX9_rotateKey_1 : decode cX9_rotateKey 1 = .ok (.iconst 0, 1) := by decide +kernel
theorem dX9_rotateKey_2 : decode cX9_rotateKey 2 = .ok (.ldc 53, 2) := by decide +kernel
theorem dX9_rotateKey_4 : decode cX9_rotateKey 4 = .ok (.invokestatic 19, 3) := by decide +kernel
theorem dX9_rotateKey_7 : decode cX9_rotateKey 7 = .ok (.ifCond .ne 10, 3) := by decide +kernel
theorem dX9_rotateKey_10 : decode cX9_rotateKey 10 = .ok (.aload_n 0, 1) := by decide +kernel
theorem dX9_rotateKey_11 : decode cX9_rotateKey 11 = .ok (.bipush (-2), 2) := by decide +kernel
theorem dX9_rotateKey_13 : decode cX9_rotateKey 13 = .ok (.invokevirtual 28, 3) := by decide +kernel
theorem dX9_rotateKey_16 : decode cX9_rotateKey 16 = .ok (.ireturn, 1) := by decide +kernel
theorem dX9_rotateKey_17 : decode cX9_rotateKey 17 = .ok (.aload_n 0, 1) := by decide +kernel
theorem dX9_rotateKey_18 : decode cX9_rotateKey 18 = .ok (.invokevirtual 47, 3) := by decide +kernel
theorem dX9_rotateKey_21 : decode cX9_rotateKey 21 = .ok (.aload_n 0, 1) := by decide +kernel
theorem dX9_rotateKey_22 : decode cX9_rotateKey 22 = .ok (.getfield 7, 3) := by decide +kernel
theorem dX9_rotateKey_25 : decode cX9_rotateKey 25 = .ok (.iconst 2, 1) := by decide +kernel
theorem dX9_rotateKey_26 : decode cX9_rotateKey 26 = .ok (.aload_n 0, 1) := by decide +kernel
theorem dX9_rotateKey_27 : decode cX9_rotateKey 27 = .ok (.getfield 7, 3) := by decide +kernel
theorem dX9_rotateKey_30 : decode cX9_rotateKey 30 = .ok (.iconst 1, 1) := by decide +kernel
theorem dX9_rotateKey_31 : decode cX9_rotateKey 31 = .ok (.iaload, 1) := by decide +kernel
theorem dX9_rotateKey_32 : decode cX9_rotateKey 32 = .ok (.iastore, 1) := by decide +kernel
theorem dX9_rotateKey_33 : decode cX9_rotateKey 33 = .ok (.aload_n 0, 1) := by decide +kernel
theorem dX9_rotateKey_34 : decode cX9_rotateKey 34 = .ok (.getfield 7, 3) := by decide +kernel
theorem dX9_rotateKey_37 : decode cX9_rotateKey 37 = .ok (.iconst 1, 1) := by decide +kernel
theorem dX9_rotateKey_38 : decode cX9_rotateKey 38 = .ok (.iload_n 1, 1) := by decide +kernel
theorem dX9_rotateKey_39 : decode cX9_rotateKey 39 = .ok (.iastore, 1) := by decide +kernel
theorem dX9_rotateKey_40 : decode cX9_rotateKey 40 = .ok (.aload_n 0, 1) := by decide +kernel
theorem dX9_rotateKey_41 : decode cX9_rotateKey 41 = .ok (.getfield 7, 3) := by decide +kernel
theorem dX9_rotateKey_44 : decode cX9_rotateKey 44 = .ok (.iconst 2, 1) := by decide +kernel
theorem dX9_rotateKey_45 : decode cX9_rotateKey 45 = .ok (.iaload, 1) := by decide +kernel
theorem dX9_rotateKey_46 : decode cX9_rotateKey 46 = .ok (.ireturn, 1) := by decide +kernel
theorem dX9_more_0 : decode cX9_more 0 = .ok (.lload_n 0, 1) := by decide +kernel
theorem dX9_more_1 : decode cX9_more 1 = .ok (.ldc2_w 54, 3) := by decide +kernel
theorem dX9_more_4 : decode cX9_more 4 = .ok (.lmul, 1) := by decide +kernel
theorem dX9_more_5 : decode cX9_more 5 = .ok (.iload_n 2, 1) := by decide +kernel
theorem dX9_more_6 : decode cX9_more 6 = .ok (.i2l, 1) := by decide +kernel
theorem dX9_more_7 : decode cX9_more 7 = .ok (.ladd, 1) := by decide +kernel
theorem dX9_more_8 : decode cX9_more 8 = .ok (.lconst 1, 1) := by decide +kernel
theorem dX9_more_9 : decode cX9_more 9 = .ok (.ladd, 1) := by decide +kernel
theorem dX9_more_10 : decode cX9_more 10 = .ok (.ldc2_w 56, 3) := by decide +kernel
theorem dX9_more_13 : decode cX9_more 13 = .ok (.lrem, 1) := by decide +kernel
theorem dX9_more_14 : decode cX9_more 14 = .ok (.lreturn, 1) := by decide +kernel
theorem dX9_markOf_0 : decode cX9_markOf 0 = .ok (.iload 4, 2) := by decide +kernel
theorem dX9_markOf_2 : decode cX9_markOf 2 = .ok (.i2l, 1) := by decide +kernel
theorem dX9_markOf_3 : decode cX9_markOf 3 = .ok (.iload_n 0, 1) := by decide +kernel
theorem dX9_markOf_4 : decode cX9_markOf 4 = .ok (.invokestatic 58, 3) := by decide +kernel
theorem dX9_markOf_7 : decode cX9_markOf 7 = .ok (.iload_n 1, 1) := by decide +kernel
theorem dX9_markOf_8 : decode cX9_markOf 8 = .ok (.invokestatic 58, 3) := by decide +kernel
theorem dX9_markOf_11 : decode cX9_markOf 11 = .ok (.iload_n 2, 1) := by decide +kernel
theorem dX9_markOf_12 : decode cX9_markOf 12 = .ok (.invokestatic 58, 3) := by decide +kernel
theorem dX9_markOf_15 : decode cX9_markOf 15 = .ok (.iload_n 3, 1) := by decide +kernel
theorem dX9_markOf_16 : decode cX9_markOf 16 = .ok (.invokestatic 58, 3) := by decide +kernel
theorem dX9_markOf_19 : decode cX9_markOf 19 = .ok (.ldc2_w 62, 3) := by decide +kernel
theorem dX9_markOf_22 : decode cX9_markOf 22 = .ok (.lrem, 1) := by decide +kernel
theorem dX9_markOf_23 : decode cX9_markOf 23 = .ok (.l2i, 1) := by decide +kernel
theorem dX9_markOf_24 : decode cX9_markOf 24 = .ok (.ireturn, 1) := by decide +kernel
theorem dX9_isSolution_0 : decode cX9_isSolution 0 = .ok (.lconst 0, 1) := by decide +kernel
theorem dX9_isSolution_1 : decode cX9_isSolution 1 = .ok (.iload_n 0, 1) := by decide +kernel
theorem dX9_isSolution_2 : decode cX9_isSolution 2 = .ok (.invokestatic 58, 3) := by decide +kernel
theorem dX9_isSolution_5 : decode cX9_isSolution 5 = .ok (.iload_n 1, 1) := by decide +kernel
theorem dX9_isSolution_6 : decode cX9_isSolution 6 = .ok (.invokestatic 58, 3) := by decide +kernel
theorem dX9_isSolution_9 : decode cX9_isSolution 9 = .ok (.ldc2_w 62, 3) := by decide +kernel
theorem dX9_isSolution_12 : decode cX9_isSolution 12 = .ok (.lrem, 1) := by decide +kernel
theorem dX9_isSolution_13 : decode cX9_isSolution 13 = .ok (.lstore_n 3, 1) := by decide +kernel
theorem dX9_isSolution_14 : decode cX9_isSolution 14 = .ok (.iconst 0, 1) := by decide +kernel
theorem dX9_isSolution_15 : decode cX9_isSolution 15 = .ok (.istore 5, 2) := by decide +kernel
theorem dX9_isSolution_17 : decode cX9_isSolution 17 = .ok (.iload 5, 2) := by decide +kernel
theorem dX9_isSolution_19 : decode cX9_isSolution 19 = .ok (.iload_n 2, 1) := by decide +kernel
theorem dX9_isSolution_20 : decode cX9_isSolution 20 = .ok (.if_icmp .ge 27, 3) := by decide +kernel
theorem dX9_isSolution_23 : decode cX9_isSolution 23 = .ok (.lload_n 3, 1) := by decide +kernel
theorem dX9_isSolution_24 : decode cX9_isSolution 24 = .ok (.ldc2_w 64, 3) := by decide +kernel
theorem dX9_isSolution_27 : decode cX9_isSolution 27 = .ok (.lrem, 1) := by decide +kernel
theorem dX9_isSolution_28 : decode cX9_isSolution 28 = .ok (.lconst 1, 1) := by decide +kernel
theorem dX9_isSolution_29 : decode cX9_isSolution 29 = .ok (.lcmp, 1) := by decide +kernel
theorem dX9_isSolution_30 : decode cX9_isSolution 30 = .ok (.ifCond .ne 5, 3) := by decide +kernel
theorem dX9_isSolution_33 : decode cX9_isSolution 33 = .ok (.iconst 0, 1) := by decide +kernel
theorem dX9_isSolution_34 : decode cX9_isSolution 34 = .ok (.ireturn, 1) := by decide +kernel
theorem dX9_isSolution_35 : decode cX9_isSolution 35 = .ok (.lload_n 3, 1) := by decide +kernel
theorem dX9_isSolution_36 : decode cX9_isSolution 36 = .ok (.ldc2_w 64, 3) := by decide +kernel
theorem dX9_isSolution_39 : decode cX9_isSolution 39 = .ok (.ldiv, 1) := by decide +kernel
theorem dX9_isSolution_40 : decode cX9_isSolution 40 = .ok (.lstore_n 3, 1) := by decide +kernel
theorem dX9_isSolution_41 : decode cX9_isSolution 41 = .ok (.iinc 5 1, 3) := by decide +kernel
theorem dX9_isSolution_44 : decode cX9_isSolution 44 = .ok (.goto (-27), 3) := by decide +kernel
theorem dX9_isSolution_47 : decode cX9_isSolution 47 = .ok (.iconst 1, 1) := by decide +kernel
theorem dX9_isSolution_48 : decode cX9_isSolution 48 = .ok (.ireturn, 1) := by decide +kernel
theorem dX9_loadNow_0 : decode cX9_loadNow 0 = .ok (.iconst 0, 1) := by decide +kernel
theorem dX9_loadNow_1 : decode cX9_loadNow 1 = .ok (.istore_n 1, 1) := by decide +kernel
theorem dX9_loadNow_2 : decode cX9_loadNow 2 = .ok (.iconst 0, 1) := by decide +kernel
theorem dX9_loadNow_3 : decode cX9_loadNow 3 = .ok (.istore_n 2, 1) := by decide +kernel
theorem dX9_loadNow_4 : decode cX9_loadNow 4 = .ok (.iload_n 2, 1) := by decide +kernel
theorem dX9_loadNow_5 : decode cX9_loadNow 5 = .ok (.bipush 16, 2) := by decide +kernel
theorem dX9_loadNow_7 : decode cX9_loadNow 7 = .ok (.if_icmp .ge 21, 3) := by decide +kernel
theorem dX9_loadNow_10 : decode cX9_loadNow 10 = .ok (.iload_n 1, 1) := by decide +kernel
theorem dX9_loadNow_11 : decode cX9_loadNow 11 = .ok (.aload_n 0, 1) := by decide +kernel
theorem dX9_loadNow_12 : decode cX9_loadNow 12 = .ok (.getfield 7, 3) := by decide +kernel
theorem dX9_loadNow_15 : decode cX9_loadNow 15 = .ok (.bipush 8, 2) := by decide +kernel
theorem dX9_loadNow_17 : decode cX9_loadNow 17 = .ok (.iload_n 2, 1) := by decide +kernel
theorem dX9_loadNow_18 : decode cX9_loadNow 18 = .ok (.iadd, 1) := by decide +kernel
theorem dX9_loadNow_19 : decode cX9_loadNow 19 = .ok (.iaload, 1) := by decide +kernel
theorem dX9_loadNow_20 : decode cX9_loadNow 20 = .ok (.iadd, 1) := by decide +kernel
theorem dX9_loadNow_21 : decode cX9_loadNow 21 = .ok (.istore_n 1, 1) := by decide +kernel
theorem dX9_loadNow_22 : decode cX9_loadNow 22 = .ok (.iinc 2 1, 3) := by decide +kernel
theorem dX9_loadNow_25 : decode cX9_loadNow 25 = .ok (.goto (-21), 3) := by decide +kernel
theorem dX9_loadNow_28 : decode cX9_loadNow 28 = .ok (.iload_n 1, 1) := by decide +kernel
theorem dX9_loadNow_29 : decode cX9_loadNow 29 = .ok (.ireturn, 1) := by decide +kernel
theorem dX9_difficultyNow_0 : decode cX9_difficultyNow 0 = .ok (.aload_n 0, 1) := by decide +kernel
theorem dX9_difficultyNow_1 : decode cX9_difficultyNow 1 = .ok (.invokevirtual 66, 3) := by decide +kernel
theorem dX9_difficultyNow_4 : decode cX9_difficultyNow 4 = .ok (.bipush 8, 2) := by decide +kernel
theorem dX9_difficultyNow_6 : decode cX9_difficultyNow 6 = .ok (.idiv, 1) := by decide +kernel
theorem dX9_difficultyNow_7 : decode cX9_difficultyNow 7 = .ok (.istore_n 1, 1) := by decide +kernel
theorem dX9_difficultyNow_8 : decode cX9_difficultyNow 8 = .ok (.iload_n 1, 1) := by decide +kernel
theorem dX9_difficultyNow_9 : decode cX9_difficultyNow 9 = .ok (.bipush 6, 2) := by decide +kernel
theorem dX9_difficultyNow_11 : decode cX9_difficultyNow 11 = .ok (.if_icmp .le 8, 3) := by decide +kernel
theorem dX9_difficultyNow_14 : decode cX9_difficultyNow 14 = .ok (.bipush 6, 2) := by decide +kernel
theorem dX9_difficultyNow_16 : decode cX9_difficultyNow 16 = .ok (.goto 4, 3) := by decide +kernel
theorem dX9_difficultyNow_19 : decode cX9_difficultyNow 19 = .ok (.iload_n 1, 1) := by decide +kernel
theorem dX9_difficultyNow_20 : decode cX9_difficultyNow 20 = .ok (.ireturn, 1) := by decide +kernel
theorem dX9_sizeOf_0 : decode cX9_sizeOf 0 = .ok (.iload_n 0, 1) := by decide +kernel
theorem dX9_sizeOf_1 : decode cX9_sizeOf 1 = .ok (.tableswitch 70 0 6 #[43, 46, 50, 54, 58, 62, 66], 43) := by decide +kernel
theorem dX9_sizeOf_44 : decode cX9_sizeOf 44 = .ok (.bipush 64, 2) := by decide +kernel
theorem dX9_sizeOf_46 : decode cX9_sizeOf 46 = .ok (.ireturn, 1) := by decide +kernel
theorem dX9_sizeOf_47 : decode cX9_sizeOf 47 = .ok (.sipush 128, 3) := by decide +kernel
theorem dX9_sizeOf_50 : decode cX9_sizeOf 50 = .ok (.ireturn, 1) := by decide +kernel
theorem dX9_sizeOf_51 : decode cX9_sizeOf 51 = .ok (.sipush 256, 3) := by decide +kernel
theorem dX9_sizeOf_54 : decode cX9_sizeOf 54 = .ok (.ireturn, 1) := by decide +kernel
theorem dX9_sizeOf_55 : decode cX9_sizeOf 55 = .ok (.sipush 536, 3) := by decide +kernel
theorem dX9_sizeOf_58 : decode cX9_sizeOf 58 = .ok (.ireturn, 1) := by decide +kernel
theorem dX9_sizeOf_59 : decode cX9_sizeOf 59 = .ok (.sipush 1024, 3) := by decide +kernel
theorem dX9_sizeOf_62 : decode cX9_sizeOf 62 = .ok (.ireturn, 1) := by decide +kernel
theorem dX9_sizeOf_63 : decode cX9_sizeOf 63 = .ok (.sipush 1360, 3) := by decide +kernel
theorem dX9_sizeOf_66 : decode cX9_sizeOf 66 = .ok (.ireturn, 1) := by decide +kernel
theorem dX9_sizeOf_67 : decode cX9_sizeOf 67 = .ok (.sipush 1440, 3) := by decide +kernel
theorem dX9_sizeOf_70 : decode cX9_sizeOf 70 = .ok (.ireturn, 1) := by decide +kernel
theorem dX9_sizeOf_71 : decode cX9_sizeOf 71 = .ok (.sipush 1460, 3) := by decide +kernel
theorem dX9_sizeOf_74 : decode cX9_sizeOf 74 = .ok (.ireturn, 1) := by decide +kernel
theorem dX9_indexOf_0 : decode cX9_indexOf 0 = .ok (.bipush 7, 2) := by decide +kernel
theorem dX9_indexOf_2 : decode cX9_indexOf 2 = .ok (.istore_n 1, 1) := by decide +kernel
theorem dX9_indexOf_3 : decode cX9_indexOf 3 = .ok (.iload_n 1, 1) := by decide +kernel
theorem dX9_indexOf_4 : decode cX9_indexOf 4 = .ok (.invokestatic 69, 3) := by decide +kernel
theorem dX9_indexOf_7 : decode cX9_indexOf 7 = .ok (.iload_n 0, 1) := by decide +kernel
theorem dX9_indexOf_8 : decode cX9_indexOf 8 = .ok (.if_icmp .le 9, 3) := by decide +kernel
theorem dX9_indexOf_11 : decode cX9_indexOf 11 = .ok (.iinc 1 (-1), 3) := by decide +kernel
theorem dX9_indexOf_14 : decode cX9_indexOf 14 = .ok (.goto (-11), 3) := by decide +kernel
theorem dX9_indexOf_17 : decode cX9_indexOf 17 = .ok (.iload_n 1, 1) := by decide +kernel
theorem dX9_indexOf_18 : decode cX9_indexOf 18 = .ok (.ireturn, 1) := by decide +kernel
theorem dX9_sizeAt_0 : decode cX9_sizeAt 0 = .ok (.bipush 40, 2) := by decide +kernel
theorem dX9_sizeAt_2 : decode cX9_sizeAt 2 = .ok (.bipush 8, 2) := by decide +kernel
theorem dX9_sizeAt_4 : decode cX9_sizeAt 4 = .ok (.iload_n 1, 1) := by decide +kernel
theorem dX9_sizeAt_5 : decode cX9_sizeAt 5 = .ok (.imul, 1) := by decide +kernel
theorem dX9_sizeAt_6 : decode cX9_sizeAt 6 = .ok (.iadd, 1) := by decide +kernel
theorem dX9_sizeAt_7 : decode cX9_sizeAt 7 = .ok (.iload_n 2, 1) := by decide +kernel
theorem dX9_sizeAt_8 : decode cX9_sizeAt 8 = .ok (.iadd, 1) := by decide +kernel
theorem dX9_sizeAt_9 : decode cX9_sizeAt 9 = .ok (.ireturn, 1) := by decide +kernel
theorem dX9_isConnected_0 : decode cX9_isConnected 0 = .ok (.aload_n 0, 1) := by decide +kernel
theorem dX9_isConnected_1 : decode cX9_isConnected 1 = .ok (.getfield 7, 3) := by decide +kernel
theorem dX9_isConnected_4 : decode cX9_isConnected 4 = .ok (.aload_n 0, 1) := by decide +kernel
theorem dX9_isConnected_5 : decode cX9_isConnected 5 = .ok (.iload_n 1, 1) := by decide +kernel
theorem dX9_isConnected_6 : decode cX9_isConnected 6 = .ok (.iload_n 2, 1) := by decide +kernel
theorem dX9_isConnected_7 : decode cX9_isConnected 7 = .ok (.invokevirtual 72, 3) := by decide +kernel
theorem dX9_isConnected_10 : decode cX9_isConnected 10 = .ok (.iaload, 1) := by decide +kernel
theorem dX9_isConnected_11 : decode cX9_isConnected 11 = .ok (.ifCond .le 7, 3) := by decide +kernel
theorem dX9_isConnected_14 : decode cX9_isConnected 14 = .ok (.iconst 1, 1) := by decide +kernel
theorem dX9_isConnected_15 : decode cX9_isConnected 15 = .ok (.goto 4, 3) := by decide +kernel
theorem dX9_isConnected_18 : decode cX9_isConnected 18 = .ok (.iconst 0, 1) := by decide +kernel
theorem dX9_isConnected_19 : decode cX9_isConnected 19 = .ok (.ireturn, 1) := by decide +kernel
theorem dX9_connectionsOf_0 : decode cX9_connectionsOf 0 = .ok (.iconst 0, 1) := by decide +kernel
theorem dX9_connectionsOf_1 : decode cX9_connectionsOf 1 = .ok (.istore_n 2, 1) := by decide +kernel
theorem dX9_connectionsOf_2 : decode cX9_connectionsOf 2 = .ok (.iconst 0, 1) := by decide +kernel
theorem dX9_connectionsOf_3 : decode cX9_connectionsOf 3 = .ok (.istore_n 3, 1) := by decide +kernel
theorem dX9_connectionsOf_4 : decode cX9_connectionsOf 4 = .ok (.iload_n 3, 1) := by decide +kernel
theorem dX9_connectionsOf_5 : decode cX9_connectionsOf 5 = .ok (.bipush 8, 2) := by decide +kernel
theorem dX9_connectionsOf_7 : decode cX9_connectionsOf 7 = .ok (.if_icmp .ge 26, 3) := by decide +kernel
theorem dX9_connectionsOf_10 : decode cX9_connectionsOf 10 = .ok (.iload_n 2, 1) := by decide +kernel
theorem dX9_connectionsOf_11 : decode cX9_connectionsOf 11 = .ok (.aload_n 0, 1) := by decide +kernel
theorem dX9_connectionsOf_12 : decode cX9_connectionsOf 12 = .ok (.iload_n 1, 1) := by decide +kernel
theorem dX9_connectionsOf_13 : decode cX9_connectionsOf 13 = .ok (.iload_n 3, 1) := by decide +kernel
theorem dX9_connectionsOf_14 : decode cX9_connectionsOf 14 = .ok (.invokevirtual 76, 3) := by decide +kernel
theorem dX9_connectionsOf_17 : decode cX9_connectionsOf 17 = .ok (.ifCond .eq 7, 3) := by decide +kernel
theorem dX9_connectionsOf_20 : decode cX9_connectionsOf 20 = .ok (.iconst 1, 1) := by decide +kernel
theorem dX9_connectionsOf_21 : decode cX9_connectionsOf 21 = .ok (.goto 4, 3) := by decide +kernel
theorem dX9_connectionsOf_24 : decode cX9_connectionsOf 24 = .ok (.iconst 0, 1) := by decide +kernel
theorem dX9_connectionsOf_25 : decode cX9_connectionsOf 25 = .ok (.iadd, 1) := by decide +kernel
theorem dX9_connectionsOf_26 : decode cX9_connectionsOf 26 = .ok (.istore_n 2, 1) := by decide +kernel
theorem dX9_connectionsOf_27 : decode cX9_connectionsOf 27 = .ok (.iinc 3 1, 3) := by decide +kernel
theorem dX9_connectionsOf_30 : decode cX9_connectionsOf 30 = .ok (.goto (-26), 3) := by decide +kernel
theorem dX9_connectionsOf_33 : decode cX9_connectionsOf 33 = .ok (.iload_n 2, 1) := by decide +kernel
theorem dX9_connectionsOf_34 : decode cX9_connectionsOf 34 = .ok (.ireturn, 1) := by decide +kernel
theorem dX9_entryOf_0 : decode cX9_entryOf 0 = .ok (.iconst (-1), 1) := by decide +kernel
theorem dX9_entryOf_1 : decode cX9_entryOf 1 = .ok (.istore_n 3, 1) := by decide +kernel
theorem dX9_entryOf_2 : decode cX9_entryOf 2 = .ok (.iconst 0, 1) := by decide +kernel
theorem dX9_entryOf_3 : decode cX9_entryOf 3 = .ok (.istore 4, 2) := by decide +kernel
theorem dX9_entryOf_5 : decode cX9_entryOf 5 = .ok (.iload 4, 2) := by decide +kernel
theorem dX9_entryOf_7 : decode cX9_entryOf 7 = .ok (.aload_n 0, 1) := by decide +kernel
theorem dX9_entryOf_8 : decode cX9_entryOf 8 = .ok (.getfield 7, 3) := by decide +kernel
theorem dX9_entryOf_11 : decode cX9_entryOf 11 = .ok (.iconst 3, 1) := by decide +kernel
theorem dX9_entryOf_12 : decode cX9_entryOf 12 = .ok (.iaload, 1) := by decide +kernel
theorem dX9_entryOf_13 : decode cX9_entryOf 13 = .ok (.if_icmp .ge 50, 3) := by decide +kernel
theorem dX9_entryOf_16 : decode cX9_entryOf 16 = .ok (.aload_n 0, 1) := by decide +kernel
theorem dX9_entryOf_17 : decode cX9_entryOf 17 = .ok (.getfield 7, 3) := by decide +kernel
theorem dX9_entryOf_20 : decode cX9_entryOf 20 = .ok (.bipush 24, 2) := by decide +kernel
theorem dX9_entryOf_22 : decode cX9_entryOf 22 = .ok (.iconst 4, 1) := by decide +kernel
theorem dX9_entryOf_23 : decode cX9_entryOf 23 = .ok (.iload 4, 2) := by decide +kernel
theorem dX9_entryOf_25 : decode cX9_entryOf 25 = .ok (.imul, 1) := by decide +kernel
theorem dX9_entryOf_26 : decode cX9_entryOf 26 = .ok (.iadd, 1) := by decide +kernel
theorem dX9_entryOf_27 : decode cX9_entryOf 27 = .ok (.iaload, 1) := by decide +kernel
theorem dX9_entryOf_28 : decode cX9_entryOf 28 = .ok (.iload_n 1, 1) := by decide +kernel
theorem dX9_entryOf_29 : decode cX9_entryOf 29 = .ok (.if_icmp .ne 26, 3) := by decide +kernel
theorem dX9_entryOf_32 : decode cX9_entryOf 32 = .ok (.aload_n 0, 1) := by decide +kernel
theorem dX9_entryOf_33 : decode cX9_entryOf 33 = .ok (.getfield 7, 3) := by decide +kernel
theorem dX9_entryOf_36 : decode cX9_entryOf 36 = .ok (.bipush 24, 2) := by decide +kernel
theorem dX9_entryOf_38 : decode cX9_entryOf 38 = .ok (.iconst 4, 1) := by decide +kernel
theorem dX9_entryOf_39 : decode cX9_entryOf 39 = .ok (.iload 4, 2) := by decide +kernel
theorem dX9_entryOf_41 : decode cX9_entryOf 41 = .ok (.imul, 1) := by decide +kernel
theorem dX9_entryOf_42 : decode cX9_entryOf 42 = .ok (.iadd, 1) := by decide +kernel
theorem dX9_entryOf_43 : decode cX9_entryOf 43 = .ok (.iconst 1, 1) := by decide +kernel
theorem dX9_entryOf_44 : decode cX9_entryOf 44 = .ok (.iadd, 1) := by decide +kernel
theorem dX9_entryOf_45 : decode cX9_entryOf 45 = .ok (.iaload, 1) := by decide +kernel
theorem dX9_entryOf_46 : decode cX9_entryOf 46 = .ok (.iload_n 2, 1) := by decide +kernel
theorem dX9_entryOf_47 : decode cX9_entryOf 47 = .ok (.if_icmp .ne 8, 3) := by decide +kernel
theorem dX9_entryOf_50 : decode cX9_entryOf 50 = .ok (.iload 4, 2) := by decide +kernel
theorem dX9_entryOf_52 : decode cX9_entryOf 52 = .ok (.goto 4, 3) := by decide +kernel
theorem dX9_entryOf_55 : decode cX9_entryOf 55 = .ok (.iload_n 3, 1) := by decide +kernel
theorem dX9_entryOf_56 : decode cX9_entryOf 56 = .ok (.istore_n 3, 1) := by decide +kernel
theorem dX9_entryOf_57 : decode cX9_entryOf 57 = .ok (.iinc 4 1, 3) := by decide +kernel
theorem dX9_entryOf_60 : decode cX9_entryOf 60 = .ok (.goto (-55), 3) := by decide +kernel
theorem dX9_entryOf_63 : decode cX9_entryOf 63 = .ok (.iload_n 3, 1) := by decide +kernel
theorem dX9_entryOf_64 : decode cX9_entryOf 64 = .ok (.ireturn, 1) := by decide +kernel
theorem dX9_open_0 : decode cX9_open 0 = .ok (.iload_n 1, 1) := by decide +kernel
theorem dX9_open_1 : decode cX9_open 1 = .ok (.iload_n 2, 1) := by decide +kernel
theorem dX9_open_2 : decode cX9_open 2 = .ok (.invokestatic 80, 3) := by decide +kernel
theorem dX9_open_5 : decode cX9_open 5 = .ok (.ifCond .eq 15, 3) := by decide +kernel
theorem dX9_open_8 : decode cX9_open 8 = .ok (.iload_n 3, 1) := by decide +kernel
theorem dX9_open_9 : decode cX9_open 9 = .ok (.bipush 64, 2) := by decide +kernel
theorem dX9_open_11 : decode cX9_open 11 = .ok (.sipush 9999, 3) := by decide +kernel
theorem dX9_open_14 : decode cX9_open 14 = .ok (.invokestatic 19, 3) := by decide +kernel
theorem dX9_open_17 : decode cX9_open 17 = .ok (.ifCond .ne 10, 3) := by decide +kernel
theorem dX9_open_20 : decode cX9_open 20 = .ok (.aload_n 0, 1) := by decide +kernel
theorem dX9_open_21 : decode cX9_open 21 = .ok (.bipush (-2), 2) := by decide +kernel
theorem dX9_open_23 : decode cX9_open 23 = .ok (.invokevirtual 28, 3) := by decide +kernel
theorem dX9_open_26 : decode cX9_open 26 = .ok (.ireturn, 1) := by decide +kernel
theorem dX9_open_27 : decode cX9_open 27 = .ok (.aload_n 0, 1) := by decide +kernel
theorem dX9_open_28 : decode cX9_open 28 = .ok (.iload_n 1, 1) := by decide +kernel
theorem dX9_open_29 : decode cX9_open 29 = .ok (.iload_n 2, 1) := by decide +kernel
theorem dX9_open_30 : decode cX9_open 30 = .ok (.invokevirtual 76, 3) := by decide +kernel
theorem dX9_open_33 : decode cX9_open 33 = .ok (.ifCond .eq 10, 3) := by decide +kernel
theorem dX9_open_36 : decode cX9_open 36 = .ok (.aload_n 0, 1) := by decide +kernel
theorem dX9_open_37 : decode cX9_open 37 = .ok (.bipush (-3), 2) := by decide +kernel
theorem dX9_open_39 : decode cX9_open 39 = .ok (.invokevirtual 28, 3) := by decide +kernel
theorem dX9_open_42 : decode cX9_open 42 = .ok (.ireturn, 1) := by decide +kernel
theorem dX9_open_43 : decode cX9_open 43 = .ok (.aload_n 0, 1) := by decide +kernel
theorem dX9_open_44 : decode cX9_open 44 = .ok (.invokevirtual 47, 3) := by decide +kernel
theorem dX9_open_47 : decode cX9_open 47 = .ok (.aload_n 0, 1) := by decide +kernel
theorem dX9_open_48 : decode cX9_open 48 = .ok (.getfield 7, 3) := by decide +kernel
theorem dX9_open_51 : decode cX9_open 51 = .ok (.bipush 8, 2) := by decide +kernel
theorem dX9_open_53 : decode cX9_open 53 = .ok (.aload_n 0, 1) := by decide +kernel
theorem dX9_open_54 : decode cX9_open 54 = .ok (.getfield 7, 3) := by decide +kernel
theorem dX9_open_57 : decode cX9_open 57 = .ok (.iconst 0, 1) := by decide +kernel
theorem dX9_open_58 : decode cX9_open 58 = .ok (.iaload, 1) := by decide +kernel
theorem dX9_open_59 : decode cX9_open 59 = .ok (.bipush 16, 2) := by decide +kernel
theorem dX9_open_61 : decode cX9_open 61 = .ok (.irem, 1) := by decide +kernel
theorem dX9_open_62 : decode cX9_open 62 = .ok (.iadd, 1) := by decide +kernel
theorem dX9_open_63 : decode cX9_open 63 = .ok (.dup2, 1) := by decide +kernel
theorem dX9_open_64 : decode cX9_open 64 = .ok (.iaload, 1) := by decide +kernel
theorem dX9_open_65 : decode cX9_open 65 = .ok (.iconst 1, 1) := by decide +kernel
theorem dX9_open_66 : decode cX9_open 66 = .ok (.iadd, 1) := by decide +kernel
theorem dX9_open_67 : decode cX9_open 67 = .ok (.iastore, 1) := by decide +kernel
theorem dX9_open_68 : decode cX9_open 68 = .ok (.aload_n 0, 1) := by decide +kernel
theorem dX9_open_69 : decode cX9_open 69 = .ok (.invokevirtual 33, 3) := by decide +kernel
theorem dX9_open_72 : decode cX9_open 72 = .ok (.bipush 32, 2) := by decide +kernel
theorem dX9_open_74 : decode cX9_open 74 = .ok (.irem, 1) := by decide +kernel
theorem dX9_open_75 : decode cX9_open 75 = .ok (.istore 4, 2) := by decide +kernel
theorem dX9_open_77 : decode cX9_open 77 = .ok (.iload_n 3, 1) := by decide +kernel
theorem dX9_open_78 : decode cX9_open 78 = .ok (.invokestatic 83, 3) := by decide +kernel
theorem dX9_open_81 : decode cX9_open 81 = .ok (.istore 5, 2) := by decide +kernel
theorem dX9_open_83 : decode cX9_open 83 = .ok (.ldc 32, 2) := by decide +kernel
theorem dX9_open_85 : decode cX9_open 85 = .ok (.iload 4, 2) := by decide +kernel
theorem dX9_open_87 : decode cX9_open 87 = .ok (.imul, 1) := by decide +kernel
theorem dX9_open_88 : decode cX9_open 88 = .ok (.sipush 4096, 3) := by decide +kernel
theorem dX9_open_91 : decode cX9_open 91 = .ok (.iload 5, 2) := by decide +kernel
theorem dX9_open_93 : decode cX9_open 93 = .ok (.imul, 1) := by decide +kernel
theorem dX9_open_94 : decode cX9_open 94 = .ok (.iadd, 1) := by decide +kernel
theorem dX9_open_95 : decode cX9_open 95 = .ok (.iload_n 1, 1) := by decide +kernel
theorem dX9_open_96 : decode cX9_open 96 = .ok (.iload_n 2, 1) := by decide +kernel
theorem dX9_open_97 : decode cX9_open 97 = .ok (.iload 4, 2) := by decide +kernel
theorem dX9_open_99 : decode cX9_open 99 = .ok (.iload 5, 2) := by decide +kernel
theorem dX9_open_101 : decode cX9_open 101 = .ok (.aload_n 0, 1) := by decide +kernel
theorem dX9_open_102 : decode cX9_open 102 = .ok (.getfield 7, 3) := by decide +kernel
theorem dX9_open_105 : decode cX9_open 105 = .ok (.iconst 1, 1) := by decide +kernel
theorem dX9_open_106 : decode cX9_open 106 = .ok (.iaload, 1) := by decide +kernel
theorem dX9_open_107 : decode cX9_open 107 = .ok (.invokestatic 86, 3) := by decide +kernel
theorem dX9_open_110 : decode cX9_open 110 = .ok (.iadd, 1) := by decide +kernel
theorem dX9_open_111 : decode cX9_open 111 = .ok (.istore 6, 2) := by decide +kernel
theorem dX9_open_113 : decode cX9_open 113 = .ok (.aload_n 0, 1) := by decide +kernel
theorem dX9_open_114 : decode cX9_open 114 = .ok (.iload_n 1, 1) := by decide +kernel
theorem dX9_open_115 : decode cX9_open 115 = .ok (.iload_n 2, 1) := by decide +kernel
theorem dX9_open_116 : decode cX9_open 116 = .ok (.invokevirtual 90, 3) := by decide +kernel
theorem dX9_open_119 : decode cX9_open 119 = .ok (.istore 7, 2) := by decide +kernel
theorem dX9_open_121 : decode cX9_open 121 = .ok (.iload 7, 2) := by decide +kernel
theorem dX9_open_123 : decode cX9_open 123 = .ok (.iconst (-1), 1) := by decide +kernel
theorem dX9_open_124 : decode cX9_open 124 = .ok (.if_icmp .ne 40, 3) := by decide +kernel
theorem dX9_open_127 : decode cX9_open 127 = .ok (.aload_n 0, 1) := by decide +kernel
theorem dX9_open_128 : decode cX9_open 128 = .ok (.invokevirtual 66, 3) := by decide +kernel
theorem dX9_open_131 : decode cX9_open 131 = .ok (.bipush 12, 2) := by decide +kernel
theorem dX9_open_133 : decode cX9_open 133 = .ok (.if_icmp .ge 31, 3) := by decide +kernel
theorem dX9_open_136 : decode cX9_open 136 = .ok (.aload_n 0, 1) := by decide +kernel
theorem dX9_open_137 : decode cX9_open 137 = .ok (.getfield 7, 3) := by decide +kernel
theorem dX9_open_140 : decode cX9_open 140 = .ok (.iconst 3, 1) := by decide +kernel
theorem dX9_open_141 : decode cX9_open 141 = .ok (.iaload, 1) := by decide +kernel
theorem dX9_open_142 : decode cX9_open 142 = .ok (.iconst 4, 1) := by decide +kernel
theorem dX9_open_143 : decode cX9_open 143 = .ok (.if_icmp .ge 21, 3) := by decide +kernel
theorem dX9_open_146 : decode cX9_open 146 = .ok (.aload_n 0, 1) := by decide +kernel
theorem dX9_open_147 : decode cX9_open 147 = .ok (.getfield 7, 3) := by decide +kernel
theorem dX9_open_150 : decode cX9_open 150 = .ok (.iconst 3, 1) := by decide +kernel
theorem dX9_open_151 : decode cX9_open 151 = .ok (.iaload, 1) := by decide +kernel
theorem dX9_open_152 : decode cX9_open 152 = .ok (.istore 7, 2) := by decide +kernel
theorem dX9_open_154 : decode cX9_open 154 = .ok (.aload_n 0, 1) := by decide +kernel
theorem dX9_open_155 : decode cX9_open 155 = .ok (.getfield 7, 3) := by decide +kernel
theorem dX9_open_158 : decode cX9_open 158 = .ok (.iconst 3, 1) := by decide +kernel
theorem dX9_open_159 : decode cX9_open 159 = .ok (.dup2, 1) := by decide +kernel
theorem dX9_open_160 : decode cX9_open 160 = .ok (.iaload, 1) := by decide +kernel
theorem dX9_open_161 : decode cX9_open 161 = .ok (.iconst 1, 1) := by decide +kernel
theorem dX9_open_162 : decode cX9_open 162 = .ok (.iadd, 1) := by decide +kernel
theorem dX9_open_163 : decode cX9_open 163 = .ok (.iastore, 1) := by decide +kernel
theorem dX9_open_164 : decode cX9_open 164 = .ok (.iload 7, 2) := by decide +kernel
theorem dX9_open_166 : decode cX9_open 166 = .ok (.iconst (-1), 1) := by decide +kernel
theorem dX9_open_167 : decode cX9_open 167 = .ok (.if_icmp .eq 67, 3) := by decide +kernel
theorem dX9_open_170 : decode cX9_open 170 = .ok (.aload_n 0, 1) := by decide +kernel
theorem dX9_open_171 : decode cX9_open 171 = .ok (.getfield 7, 3) := by decide +kernel
theorem dX9_open_174 : decode cX9_open 174 = .ok (.bipush 24, 2) := by decide +kernel
theorem dX9_open_176 : decode cX9_open 176 = .ok (.iconst 4, 1) := by decide +kernel
theorem dX9_open_177 : decode cX9_open 177 = .ok (.iload 7, 2) := by decide +kernel
theorem dX9_open_179 : decode cX9_open 179 = .ok (.imul, 1) := by decide +kernel
theorem dX9_open_180 : decode cX9_open 180 = .ok (.iadd, 1) := by decide +kernel
theorem dX9_open_181 : decode cX9_open 181 = .ok (.iload_n 1, 1) := by decide +kernel
theorem dX9_open_182 : decode cX9_open 182 = .ok (.iastore, 1) := by decide +kernel
theorem dX9_open_183 : decode cX9_open 183 = .ok (.aload_n 0, 1) := by decide +kernel
theorem dX9_open_184 : decode cX9_open 184 = .ok (.getfield 7, 3) := by decide +kernel
theorem dX9_open_187 : decode cX9_open 187 = .ok (.bipush 24, 2) := by decide +kernel
theorem dX9_open_189 : decode cX9_open 189 = .ok (.iconst 4, 1) := by decide +kernel
theorem dX9_open_190 : decode cX9_open 190 = .ok (.iload 7, 2) := by decide +kernel
theorem dX9_open_192 : decode cX9_open 192 = .ok (.imul, 1) := by decide +kernel
theorem dX9_open_193 : decode cX9_open 193 = .ok (.iadd, 1) := by decide +kernel
theorem dX9_open_194 : decode cX9_open 194 = .ok (.iconst 1, 1) := by decide +kernel
theorem dX9_open_195 : decode cX9_open 195 = .ok (.iadd, 1) := by decide +kernel
theorem dX9_open_196 : decode cX9_open 196 = .ok (.iload_n 2, 1) := by decide +kernel
theorem dX9_open_197 : decode cX9_open 197 = .ok (.iastore, 1) := by decide +kernel
theorem dX9_open_198 : decode cX9_open 198 = .ok (.aload_n 0, 1) := by decide +kernel
theorem dX9_open_199 : decode cX9_open 199 = .ok (.getfield 7, 3) := by decide +kernel
theorem dX9_open_202 : decode cX9_open 202 = .ok (.bipush 24, 2) := by decide +kernel
theorem dX9_open_204 : decode cX9_open 204 = .ok (.iconst 4, 1) := by decide +kernel
theorem dX9_open_205 : decode cX9_open 205 = .ok (.iload 7, 2) := by decide +kernel
theorem dX9_open_207 : decode cX9_open 207 = .ok (.imul, 1) := by decide +kernel
theorem dX9_open_208 : decode cX9_open 208 = .ok (.iadd, 1) := by decide +kernel
theorem dX9_open_209 : decode cX9_open 209 = .ok (.iconst 2, 1) := by decide +kernel
theorem dX9_open_210 : decode cX9_open 210 = .ok (.iadd, 1) := by decide +kernel
theorem dX9_open_211 : decode cX9_open 211 = .ok (.iload 6, 2) := by decide +kernel
theorem dX9_open_213 : decode cX9_open 213 = .ok (.iastore, 1) := by decide +kernel
theorem dX9_open_214 : decode cX9_open 214 = .ok (.aload_n 0, 1) := by decide +kernel
theorem dX9_open_215 : decode cX9_open 215 = .ok (.getfield 7, 3) := by decide +kernel
theorem dX9_open_218 : decode cX9_open 218 = .ok (.bipush 24, 2) := by decide +kernel
theorem dX9_open_220 : decode cX9_open 220 = .ok (.iconst 4, 1) := by decide +kernel
theorem dX9_open_221 : decode cX9_open 221 = .ok (.iload 7, 2) := by decide +kernel
theorem dX9_open_223 : decode cX9_open 223 = .ok (.imul, 1) := by decide +kernel
theorem dX9_open_224 : decode cX9_open 224 = .ok (.iadd, 1) := by decide +kernel
theorem dX9_open_225 : decode cX9_open 225 = .ok (.iconst 3, 1) := by decide +kernel
theorem dX9_open_226 : decode cX9_open 226 = .ok (.iadd, 1) := by decide +kernel
theorem dX9_open_227 : decode cX9_open 227 = .ok (.aload_n 0, 1) := by decide +kernel
theorem dX9_open_228 : decode cX9_open 228 = .ok (.getfield 7, 3) := by decide +kernel
theorem dX9_open_231 : decode cX9_open 231 = .ok (.iconst 0, 1) := by decide +kernel
theorem dX9_open_232 : decode cX9_open 232 = .ok (.iaload, 1) := by decide +kernel
theorem dX9_open_233 : decode cX9_open 233 = .ok (.iastore, 1) := by decide +kernel
theorem dX9_open_234 : decode cX9_open 234 = .ok (.iload 6, 2) := by decide +kernel
theorem dX9_open_236 : decode cX9_open 236 = .ok (.ireturn, 1) := by decide +kernel
theorem dX9_checks_0 : decode cX9_checks 0 = .ok (.aload_n 0, 1) := by decide +kernel
theorem dX9_checks_1 : decode cX9_checks 1 = .ok (.iload_n 3, 1) := by decide +kernel
theorem dX9_checks_2 : decode cX9_checks 2 = .ok (.invokevirtual 44, 3) := by decide +kernel
theorem dX9_checks_5 : decode cX9_checks 5 = .ok (.iconst 1, 1) := by decide +kernel
theorem dX9_checks_6 : decode cX9_checks 6 = .ok (.if_icmp .le 6, 3) := by decide +kernel
theorem dX9_checks_9 : decode cX9_checks 9 = .ok (.bipush (-5), 2) := by decide +kernel
theorem dX9_checks_11 : decode cX9_checks 11 = .ok (.ireturn, 1) := by decide +kernel
theorem dX9_checks_12 : decode cX9_checks 12 = .ok (.aload_n 0, 1) := by decide +kernel
theorem dX9_checks_13 : decode cX9_checks 13 = .ok (.invokevirtual 93, 3) := by decide +kernel
theorem dX9_checks_16 : decode cX9_checks 16 = .ok (.ifCond .le 29, 3) := by decide +kernel
theorem dX9_checks_19 : decode cX9_checks 19 = .ok (.aload_n 0, 1) := by decide +kernel
theorem dX9_checks_20 : decode cX9_checks 20 = .ok (.getfield 7, 3) := by decide +kernel
theorem dX9_checks_23 : decode cX9_checks 23 = .ok (.iconst 5, 1) := by decide +kernel
theorem dX9_checks_24 : decode cX9_checks 24 = .ok (.dup2, 1) := by decide +kernel
theorem dX9_checks_25 : decode cX9_checks 25 = .ok (.iaload, 1) := by decide +kernel
theorem dX9_checks_26 : decode cX9_checks 26 = .ok (.iconst 1, 1) := by decide +kernel
theorem dX9_checks_27 : decode cX9_checks 27 = .ok (.iadd, 1) := by decide +kernel
theorem dX9_checks_28 : decode cX9_checks 28 = .ok (.iastore, 1) := by decide +kernel
theorem dX9_checks_29 : decode cX9_checks 29 = .ok (.iload_n 3, 1) := by decide +kernel
theorem dX9_checks_30 : decode cX9_checks 30 = .ok (.iload 4, 2) := by decide +kernel
theorem dX9_checks_32 : decode cX9_checks 32 = .ok (.aload_n 0, 1) := by decide +kernel
theorem dX9_checks_33 : decode cX9_checks 33 = .ok (.invokevirtual 93, 3) := by decide +kernel
theorem dX9_checks_36 : decode cX9_checks 36 = .ok (.invokestatic 96, 3) := by decide +kernel
theorem dX9_checks_39 : decode cX9_checks 39 = .ok (.ifCond .ne 6, 3) := by decide +kernel
theorem dX9_checks_42 : decode cX9_checks 42 = .ok (.bipush (-6), 2) := by decide +kernel
theorem dX9_checks_44 : decode cX9_checks 44 = .ok (.ireturn, 1) := by decide +kernel
theorem dX9_checks_45 : decode cX9_checks 45 = .ok (.aload_n 0, 1) := by decide +kernel
theorem dX9_checks_46 : decode cX9_checks 46 = .ok (.getfield 7, 3) := by decide +kernel
theorem dX9_checks_49 : decode cX9_checks 49 = .ok (.iconst 5, 1) := by decide +kernel
theorem dX9_checks_50 : decode cX9_checks 50 = .ok (.dup2, 1) := by decide +kernel
theorem dX9_checks_51 : decode cX9_checks 51 = .ok (.iaload, 1) := by decide +kernel
theorem dX9_checks_52 : decode cX9_checks 52 = .ok (.iconst 1, 1) := by decide +kernel
theorem dX9_checks_53 : decode cX9_checks 53 = .ok (.iadd, 1) := by decide +kernel
theorem dX9_checks_54 : decode cX9_checks 54 = .ok (.iastore, 1) := by decide +kernel
theorem dX9_checks_55 : decode cX9_checks 55 = .ok (.iload_n 3, 1) := by decide +kernel
theorem dX9_checks_56 : decode cX9_checks 56 = .ok (.sipush 4096, 3) := by decide +kernel
theorem dX9_checks_59 : decode cX9_checks 59 = .ok (.irem, 1) := by decide +kernel
theorem dX9_checks_60 : decode cX9_checks 60 = .ok (.iload_n 1, 1) := by decide +kernel
theorem dX9_checks_61 : decode cX9_checks 61 = .ok (.iload_n 2, 1) := by decide +kernel
theorem dX9_checks_62 : decode cX9_checks 62 = .ok (.iload_n 3, 1) := by decide +kernel
theorem dX9_checks_63 : decode cX9_checks 63 = .ok (.invokestatic 37, 3) := by decide +kernel
theorem dX9_checks_66 : decode cX9_checks 66 = .ok (.iload_n 3, 1) := by decide +kernel
theorem dX9_checks_67 : decode cX9_checks 67 = .ok (.invokestatic 99, 3) := by decide +kernel
theorem dX9_checks_70 : decode cX9_checks 70 = .ok (.aload_n 0, 1) := by decide +kernel
theorem dX9_checks_71 : decode cX9_checks 71 = .ok (.getfield 7, 3) := by decide +kernel
theorem dX9_checks_74 : decode cX9_checks 74 = .ok (.iconst 1, 1) := by decide +kernel
theorem dX9_checks_75 : decode cX9_checks 75 = .ok (.iaload, 1) := by decide +kernel
theorem dX9_checks_76 : decode cX9_checks 76 = .ok (.invokestatic 86, 3) := by decide +kernel
theorem dX9_checks_79 : decode cX9_checks 79 = .ok (.if_icmp .ne 7, 3) := by decide +kernel
theorem dX9_checks_82 : decode cX9_checks 82 = .ok (.iconst 1, 1) := by decide +kernel
theorem dX9_checks_83 : decode cX9_checks 83 = .ok (.goto 4, 3) := by decide +kernel
theorem dX9_checks_86 : decode cX9_checks 86 = .ok (.iconst 0, 1) := by decide +kernel
theorem dX9_checks_87 : decode cX9_checks 87 = .ok (.istore 5, 2) := by decide +kernel
theorem dX9_checks_89 : decode cX9_checks 89 = .ok (.iload 5, 2) := by decide +kernel
theorem dX9_checks_91 : decode cX9_checks 91 = .ok (.ifCond .ne 57, 3) := by decide +kernel
theorem dX9_checks_94 : decode cX9_checks 94 = .ok (.aload_n 0, 1) := by decide +kernel
theorem dX9_checks_95 : decode cX9_checks 95 = .ok (.getfield 7, 3) := by decide +kernel
theorem dX9_checks_98 : decode cX9_checks 98 = .ok (.iconst 2, 1) := by decide +kernel
theorem dX9_checks_99 : decode cX9_checks 99 = .ok (.iaload, 1) := by decide +kernel
theorem dX9_checks_100 : decode cX9_checks 100 = .ok (.iconst (-1), 1) := by decide +kernel
theorem dX9_checks_101 : decode cX9_checks 101 = .ok (.if_icmp .eq 47, 3) := by decide +kernel
theorem dX9_checks_104 : decode cX9_checks 104 = .ok (.aload_n 0, 1) := by decide +kernel
theorem dX9_checks_105 : decode cX9_checks 105 = .ok (.getfield 7, 3) := by decide +kernel
theorem dX9_checks_108 : decode cX9_checks 108 = .ok (.iconst 5, 1) := by decide +kernel
theorem dX9_checks_109 : decode cX9_checks 109 = .ok (.dup2, 1) := by decide +kernel
theorem dX9_checks_110 : decode cX9_checks 110 = .ok (.iaload, 1) := by decide +kernel
theorem dX9_checks_111 : decode cX9_checks 111 = .ok (.iconst 1, 1) := by decide +kernel
theorem dX9_checks_112 : decode cX9_checks 112 = .ok (.iadd, 1) := by decide +kernel
theorem dX9_checks_113 : decode cX9_checks 113 = .ok (.iastore, 1) := by decide +kernel
theorem dX9_checks_114 : decode cX9_checks 114 = .ok (.iload_n 3, 1) := by decide +kernel
theorem dX9_checks_115 : decode cX9_checks 115 = .ok (.sipush 4096, 3) := by decide +kernel
theorem dX9_checks_118 : decode cX9_checks 118 = .ok (.irem, 1) := by decide +kernel
theorem dX9_checks_119 : decode cX9_checks 119 = .ok (.iload_n 1, 1) := by decide +kernel
theorem dX9_checks_120 : decode cX9_checks 120 = .ok (.iload_n 2, 1) := by decide +kernel
theorem dX9_checks_121 : decode cX9_checks 121 = .ok (.iload_n 3, 1) := by decide +kernel
theorem dX9_checks_122 : decode cX9_checks 122 = .ok (.invokestatic 37, 3) := by decide +kernel
theorem dX9_checks_125 : decode cX9_checks 125 = .ok (.iload_n 3, 1) := by decide +kernel
theorem dX9_checks_126 : decode cX9_checks 126 = .ok (.invokestatic 99, 3) := by decide +kernel
theorem dX9_checks_129 : decode cX9_checks 129 = .ok (.aload_n 0, 1) := by decide +kernel
theorem dX9_checks_130 : decode cX9_checks 130 = .ok (.getfield 7, 3) := by decide +kernel
theorem dX9_checks_133 : decode cX9_checks 133 = .ok (.iconst 2, 1) := by decide +kernel
theorem dX9_checks_134 : decode cX9_checks 134 = .ok (.iaload, 1) := by decide +kernel
theorem dX9_checks_135 : decode cX9_checks 135 = .ok (.invokestatic 86, 3) := by decide +kernel
theorem dX9_checks_138 : decode cX9_checks 138 = .ok (.if_icmp .ne 7, 3) := by decide +kernel
theorem dX9_checks_141 : decode cX9_checks 141 = .ok (.iconst 1, 1) := by decide +kernel
theorem dX9_checks_142 : decode cX9_checks 142 = .ok (.goto 4, 3) := by decide +kernel
theorem dX9_checks_145 : decode cX9_checks 145 = .ok (.iconst 0, 1) := by decide +kernel
theorem dX9_checks_146 : decode cX9_checks 146 = .ok (.istore 5, 2) := by decide +kernel
theorem dX9_checks_148 : decode cX9_checks 148 = .ok (.iload 5, 2) := by decide +kernel
theorem dX9_checks_150 : decode cX9_checks 150 = .ok (.ifCond .ne 6, 3) := by decide +kernel
theorem dX9_checks_153 : decode cX9_checks 153 = .ok (.bipush (-7), 2) := by decide +kernel
theorem dX9_checks_155 : decode cX9_checks 155 = .ok (.ireturn, 1) := by decide +kernel
theorem dX9_checks_156 : decode cX9_checks 156 = .ok (.iconst 0, 1) := by decide +kernel
theorem dX9_checks_157 : decode cX9_checks 157 = .ok (.istore 6, 2) := by decide +kernel
theorem dX9_checks_159 : decode cX9_checks 159 = .ok (.iload 6, 2) := by decide +kernel
theorem dX9_checks_161 : decode cX9_checks 161 = .ok (.aload_n 0, 1) := by decide +kernel
theorem dX9_checks_162 : decode cX9_checks 162 = .ok (.getfield 7, 3) := by decide +kernel
theorem dX9_checks_165 : decode cX9_checks 165 = .ok (.iconst 4, 1) := by decide +kernel
theorem dX9_checks_166 : decode cX9_checks 166 = .ok (.iaload, 1) := by decide +kernel
theorem dX9_checks_167 : decode cX9_checks 167 = .ok (.if_icmp .ge 59, 3) := by decide +kernel
theorem dX9_checks_170 : decode cX9_checks 170 = .ok (.sipush 168, 3) := by decide +kernel
theorem dX9_checks_173 : decode cX9_checks 173 = .ok (.iconst 3, 1) := by decide +kernel
theorem dX9_checks_174 : decode cX9_checks 174 = .ok (.iload 6, 2) := by decide +kernel
theorem dX9_checks_176 : decode cX9_checks 176 = .ok (.imul, 1) := by decide +kernel
theorem dX9_checks_177 : decode cX9_checks 177 = .ok (.iadd, 1) := by decide +kernel
theorem dX9_checks_178 : decode cX9_checks 178 = .ok (.istore 7, 2) := by decide +kernel
theorem dX9_checks_180 : decode cX9_checks 180 = .ok (.aload_n 0, 1) := by decide +kernel
theorem dX9_checks_181 : decode cX9_checks 181 = .ok (.getfield 7, 3) := by decide +kernel
theorem dX9_checks_184 : decode cX9_checks 184 = .ok (.iload 7, 2) := by decide +kernel
theorem dX9_checks_186 : decode cX9_checks 186 = .ok (.iaload, 1) := by decide +kernel
theorem dX9_checks_187 : decode cX9_checks 187 = .ok (.iload_n 3, 1) := by decide +kernel
theorem dX9_checks_188 : decode cX9_checks 188 = .ok (.if_icmp .ne 32, 3) := by decide +kernel
theorem dX9_checks_191 : decode cX9_checks 191 = .ok (.aload_n 0, 1) := by decide +kernel
theorem dX9_checks_192 : decode cX9_checks 192 = .ok (.getfield 7, 3) := by decide +kernel
theorem dX9_checks_195 : decode cX9_checks 195 = .ok (.iload 7, 2) := by decide +kernel
theorem dX9_checks_197 : decode cX9_checks 197 = .ok (.iconst 1, 1) := by decide +kernel
theorem dX9_checks_198 : decode cX9_checks 198 = .ok (.iadd, 1) := by decide +kernel
theorem dX9_checks_199 : decode cX9_checks 199 = .ok (.iaload, 1) := by decide +kernel
theorem dX9_checks_200 : decode cX9_checks 200 = .ok (.iload_n 1, 1) := by decide +kernel
theorem dX9_checks_201 : decode cX9_checks 201 = .ok (.if_icmp .ne 19, 3) := by decide +kernel
theorem dX9_checks_204 : decode cX9_checks 204 = .ok (.aload_n 0, 1) := by decide +kernel
theorem dX9_checks_205 : decode cX9_checks 205 = .ok (.getfield 7, 3) := by decide +kernel
theorem dX9_checks_208 : decode cX9_checks 208 = .ok (.iload 7, 2) := by decide +kernel
theorem dX9_checks_210 : decode cX9_checks 210 = .ok (.iconst 2, 1) := by decide +kernel
theorem dX9_checks_211 : decode cX9_checks 211 = .ok (.iadd, 1) := by decide +kernel
theorem dX9_checks_212 : decode cX9_checks 212 = .ok (.iaload, 1) := by decide +kernel
theorem dX9_checks_213 : decode cX9_checks 213 = .ok (.iload_n 2, 1) := by decide +kernel
theorem dX9_checks_214 : decode cX9_checks 214 = .ok (.if_icmp .ne 6, 3) := by decide +kernel
theorem dX9_checks_217 : decode cX9_checks 217 = .ok (.bipush (-8), 2) := by decide +kernel
theorem dX9_checks_219 : decode cX9_checks 219 = .ok (.ireturn, 1) := by decide +kernel
theorem dX9_checks_220 : decode cX9_checks 220 = .ok (.iinc 6 1, 3) := by decide +kernel
theorem dX9_checks_223 : decode cX9_checks 223 = .ok (.goto (-64), 3) := by decide +kernel
theorem dX9_checks_226 : decode cX9_checks 226 = .ok (.iconst 0, 1) := by decide +kernel
theorem dX9_checks_227 : decode cX9_checks 227 = .ok (.ireturn, 1) := by decide +kernel
theorem dX9_remembers_0 : decode cX9_remembers 0 = .ok (.aload_n 0, 1) := by decide +kernel
theorem dX9_remembers_1 : decode cX9_remembers 1 = .ok (.getfield 7, 3) := by decide +kernel
theorem dX9_remembers_4 : decode cX9_remembers 4 = .ok (.iconst 4, 1) := by decide +kernel
theorem dX9_remembers_5 : decode cX9_remembers 5 = .ok (.iaload, 1) := by decide +kernel
theorem dX9_remembers_6 : decode cX9_remembers 6 = .ok (.bipush 20, 2) := by decide +kernel
theorem dX9_remembers_8 : decode cX9_remembers 8 = .ok (.if_icmp .ne 13, 3) := by decide +kernel
theorem dX9_remembers_11 : decode cX9_remembers 11 = .ok (.aload_n 0, 1) := by decide +kernel
theorem dX9_remembers_12 : decode cX9_remembers 12 = .ok (.sipush 168, 3) := by decide +kernel
theorem dX9_remembers_15 : decode cX9_remembers 15 = .ok (.iconst 3, 1) := by decide +kernel
theorem dX9_remembers_16 : decode cX9_remembers 16 = .ok (.iconst 4, 1) := by decide +kernel
theorem dX9_remembers_17 : decode cX9_remembers 17 = .ok (.iconst 0, 1) := by decide +kernel
theorem dX9_remembers_18 : decode cX9_remembers 18 = .ok (.invokevirtual 40, 3) := by decide +kernel
theorem dX9_remembers_21 : decode cX9_remembers 21 = .ok (.sipush 168, 3) := by decide +kernel
theorem dX9_remembers_24 : decode cX9_remembers 24 = .ok (.iconst 3, 1) := by decide +kernel
theorem dX9_remembers_25 : decode cX9_remembers 25 = .ok (.aload_n 0, 1) := by decide +kernel
theorem dX9_remembers_26 : decode cX9_remembers 26 = .ok (.getfield 7, 3) := by decide +kernel
theorem dX9_remembers_29 : decode cX9_remembers 29 = .ok (.iconst 4, 1) := by decide +kernel
theorem dX9_remembers_30 : decode cX9_remembers 30 = .ok (.iaload, 1) := by decide +kernel
theorem dX9_remembers_31 : decode cX9_remembers 31 = .ok (.imul, 1) := by decide +kernel
theorem dX9_remembers_32 : decode cX9_remembers 32 = .ok (.iadd, 1) := by decide +kernel
theorem dX9_remembers_33 : decode cX9_remembers 33 = .ok (.istore 4, 2) := by decide +kernel
theorem dX9_remembers_35 : decode cX9_remembers 35 = .ok (.aload_n 0, 1) := by decide +kernel
theorem dX9_remembers_36 : decode cX9_remembers 36 = .ok (.getfield 7, 3) := by decide +kernel
theorem dX9_remembers_39 : decode cX9_remembers 39 = .ok (.iload 4, 2) := by decide +kernel
theorem dX9_remembers_41 : decode cX9_remembers 41 = .ok (.iload_n 3, 1) := by decide +kernel
theorem dX9_remembers_42 : decode cX9_remembers 42 = .ok (.iastore, 1) := by decide +kernel
theorem dX9_remembers_43 : decode cX9_remembers 43 = .ok (.aload_n 0, 1) := by decide +kernel
theorem dX9_remembers_44 : decode cX9_remembers 44 = .ok (.getfield 7, 3) := by decide +kernel
theorem dX9_remembers_47 : decode cX9_remembers 47 = .ok (.iload 4, 2) := by decide +kernel
theorem dX9_remembers_49 : decode cX9_remembers 49 = .ok (.iconst 1, 1) := by decide +kernel
theorem dX9_remembers_50 : decode cX9_remembers 50 = .ok (.iadd, 1) := by decide +kernel
theorem dX9_remembers_51 : decode cX9_remembers 51 = .ok (.iload_n 1, 1) := by decide +kernel
theorem dX9_remembers_52 : decode cX9_remembers 52 = .ok (.iastore, 1) := by decide +kernel
theorem dX9_remembers_53 : decode cX9_remembers 53 = .ok (.aload_n 0, 1) := by decide +kernel
theorem dX9_remembers_54 : decode cX9_remembers 54 = .ok (.getfield 7, 3) := by decide +kernel
theorem dX9_remembers_57 : decode cX9_remembers 57 = .ok (.iload 4, 2) := by decide +kernel
theorem dX9_remembers_59 : decode cX9_remembers 59 = .ok (.iconst 2, 1) := by decide +kernel
theorem dX9_remembers_60 : decode cX9_remembers 60 = .ok (.iadd, 1) := by decide +kernel
theorem dX9_remembers_61 : decode cX9_remembers 61 = .ok (.iload_n 2, 1) := by decide +kernel
theorem dX9_remembers_62 : decode cX9_remembers 62 = .ok (.iastore, 1) := by decide +kernel
theorem dX9_remembers_63 : decode cX9_remembers 63 = .ok (.aload_n 0, 1) := by decide +kernel
theorem dX9_remembers_64 : decode cX9_remembers 64 = .ok (.getfield 7, 3) := by decide +kernel
theorem dX9_remembers_67 : decode cX9_remembers 67 = .ok (.iconst 4, 1) := by decide +kernel
theorem dX9_remembers_68 : decode cX9_remembers 68 = .ok (.dup2, 1) := by decide +kernel
theorem dX9_remembers_69 : decode cX9_remembers 69 = .ok (.iaload, 1) := by decide +kernel
theorem dX9_remembers_70 : decode cX9_remembers 70 = .ok (.iconst 1, 1) := by decide +kernel
theorem dX9_remembers_71 : decode cX9_remembers 71 = .ok (.iadd, 1) := by decide +kernel
theorem dX9_remembers_72 : decode cX9_remembers 72 = .ok (.iastore, 1) := by decide +kernel
theorem dX9_remembers_73 : decode cX9_remembers 73 = .ok (.return_, 1) := by decide +kernel
theorem dX9_accept_0 : decode cX9_accept 0 = .ok (.iload_n 1, 1) := by decide +kernel
theorem dX9_accept_1 : decode cX9_accept 1 = .ok (.iload_n 2, 1) := by decide +kernel
theorem dX9_accept_2 : decode cX9_accept 2 = .ok (.invokestatic 80, 3) := by decide +kernel
theorem dX9_accept_5 : decode cX9_accept 5 = .ok (.ifCond .eq 22, 3) := by decide +kernel
theorem dX9_accept_8 : decode cX9_accept 8 = .ok (.iload_n 3, 1) := by decide +kernel
theorem dX9_accept_9 : decode cX9_accept 9 = .ok (.invokestatic 102, 3) := by decide +kernel
theorem dX9_accept_12 : decode cX9_accept 12 = .ok (.ifCond .eq 15, 3) := by decide +kernel
theorem dX9_accept_15 : decode cX9_accept 15 = .ok (.iload 4, 2) := by decide +kernel
theorem dX9_accept_17 : decode cX9_accept 17 = .ok (.iconst 0, 1) := by decide +kernel
theorem dX9_accept_18 : decode cX9_accept 18 = .ok (.sipush 9999, 3) := by decide +kernel
theorem dX9_accept_21 : decode cX9_accept 21 = .ok (.invokestatic 19, 3) := by decide +kernel
theorem dX9_accept_24 : decode cX9_accept 24 = .ok (.ifCond .ne 10, 3) := by decide +kernel
theorem dX9_accept_27 : decode cX9_accept 27 = .ok (.aload_n 0, 1) := by decide +kernel
theorem dX9_accept_28 : decode cX9_accept 28 = .ok (.bipush (-2), 2) := by decide +kernel
theorem dX9_accept_30 : decode cX9_accept 30 = .ok (.invokevirtual 28, 3) := by decide +kernel
theorem dX9_accept_33 : decode cX9_accept 33 = .ok (.ireturn, 1) := by decide +kernel
theorem dX9_accept_34 : decode cX9_accept 34 = .ok (.aload_n 0, 1) := by decide +kernel
theorem dX9_accept_35 : decode cX9_accept 35 = .ok (.iload_n 1, 1) := by decide +kernel
theorem dX9_accept_36 : decode cX9_accept 36 = .ok (.iload_n 2, 1) := by decide +kernel
theorem dX9_accept_37 : decode cX9_accept 37 = .ok (.invokevirtual 76, 3) := by decide +kernel
theorem dX9_accept_40 : decode cX9_accept 40 = .ok (.ifCond .eq 10, 3) := by decide +kernel
theorem dX9_accept_43 : decode cX9_accept 43 = .ok (.aload_n 0, 1) := by decide +kernel
theorem dX9_accept_44 : decode cX9_accept 44 = .ok (.bipush (-3), 2) := by decide +kernel
theorem dX9_accept_46 : decode cX9_accept 46 = .ok (.invokevirtual 28, 3) := by decide +kernel
theorem dX9_accept_49 : decode cX9_accept 49 = .ok (.ireturn, 1) := by decide +kernel
theorem dX9_accept_50 : decode cX9_accept 50 = .ok (.aload_n 0, 1) := by decide +kernel
theorem dX9_accept_51 : decode cX9_accept 51 = .ok (.invokevirtual 106, 3) := by decide +kernel
theorem dX9_accept_54 : decode cX9_accept 54 = .ok (.bipush 10, 2) := by decide +kernel
theorem dX9_accept_56 : decode cX9_accept 56 = .ok (.if_icmp .ne 10, 3) := by decide +kernel
theorem dX9_accept_59 : decode cX9_accept 59 = .ok (.aload_n 0, 1) := by decide +kernel
theorem dX9_accept_60 : decode cX9_accept 60 = .ok (.bipush (-4), 2) := by decide +kernel
theorem dX9_accept_62 : decode cX9_accept 62 = .ok (.invokevirtual 28, 3) := by decide +kernel
theorem dX9_accept_65 : decode cX9_accept 65 = .ok (.ireturn, 1) := by decide +kernel
theorem dX9_accept_66 : decode cX9_accept 66 = .ok (.aload_n 0, 1) := by decide +kernel
theorem dX9_accept_67 : decode cX9_accept 67 = .ok (.iload_n 1, 1) := by decide +kernel
theorem dX9_accept_68 : decode cX9_accept 68 = .ok (.iload_n 2, 1) := by decide +kernel
theorem dX9_accept_69 : decode cX9_accept 69 = .ok (.invokevirtual 90, 3) := by decide +kernel
theorem dX9_accept_72 : decode cX9_accept 72 = .ok (.istore 5, 2) := by decide +kernel
theorem dX9_accept_74 : decode cX9_accept 74 = .ok (.iload 5, 2) := by decide +kernel
theorem dX9_accept_76 : decode cX9_accept 76 = .ok (.iconst (-1), 1) := by decide +kernel
theorem dX9_accept_77 : decode cX9_accept 77 = .ok (.if_icmp .eq 25, 3) := by decide +kernel
theorem dX9_accept_80 : decode cX9_accept 80 = .ok (.aload_n 0, 1) := by decide +kernel
theorem dX9_accept_81 : decode cX9_accept 81 = .ok (.getfield 7, 3) := by decide +kernel
theorem dX9_accept_84 : decode cX9_accept 84 = .ok (.bipush 24, 2) := by decide +kernel
theorem dX9_accept_86 : decode cX9_accept 86 = .ok (.iconst 4, 1) := by decide +kernel
theorem dX9_accept_87 : decode cX9_accept 87 = .ok (.iload 5, 2) := by decide +kernel
theorem dX9_accept_89 : decode cX9_accept 89 = .ok (.imul, 1) := by decide +kernel
theorem dX9_accept_90 : decode cX9_accept 90 = .ok (.iadd, 1) := by decide +kernel
theorem dX9_accept_91 : decode cX9_accept 91 = .ok (.iconst 2, 1) := by decide +kernel
theorem dX9_accept_92 : decode cX9_accept 92 = .ok (.iadd, 1) := by decide +kernel
theorem dX9_accept_93 : decode cX9_accept 93 = .ok (.iaload, 1) := by decide +kernel
theorem dX9_accept_94 : decode cX9_accept 94 = .ok (.iload_n 3, 1) := by decide +kernel
theorem dX9_accept_95 : decode cX9_accept 95 = .ok (.if_icmp .ne 7, 3) := by decide +kernel
theorem dX9_accept_98 : decode cX9_accept 98 = .ok (.iconst 1, 1) := by decide +kernel
theorem dX9_accept_99 : decode cX9_accept 99 = .ok (.goto 4, 3) := by decide +kernel
theorem dX9_accept_102 : decode cX9_accept 102 = .ok (.iconst 0, 1) := by decide +kernel
theorem dX9_accept_103 : decode cX9_accept 103 = .ok (.istore 6, 2) := by decide +kernel
theorem dX9_accept_105 : decode cX9_accept 105 = .ok (.aload_n 0, 1) := by decide +kernel
theorem dX9_accept_106 : decode cX9_accept 106 = .ok (.getfield 7, 3) := by decide +kernel
theorem dX9_accept_109 : decode cX9_accept 109 = .ok (.iconst 5, 1) := by decide +kernel
theorem dX9_accept_110 : decode cX9_accept 110 = .ok (.iaload, 1) := by decide +kernel
theorem dX9_accept_111 : decode cX9_accept 111 = .ok (.istore 7, 2) := by decide +kernel
theorem dX9_accept_113 : decode cX9_accept 113 = .ok (.iload 6, 2) := by decide +kernel
theorem dX9_accept_115 : decode cX9_accept 115 = .ok (.ifCond .eq 7, 3) := by decide +kernel
theorem dX9_accept_118 : decode cX9_accept 118 = .ok (.iconst 0, 1) := by decide +kernel
theorem dX9_accept_119 : decode cX9_accept 119 = .ok (.goto 12, 3) := by decide +kernel
theorem dX9_accept_122 : decode cX9_accept 122 = .ok (.aload_n 0, 1) := by decide +kernel
theorem dX9_accept_123 : decode cX9_accept 123 = .ok (.iload_n 1, 1) := by decide +kernel
theorem dX9_accept_124 : decode cX9_accept 124 = .ok (.iload_n 2, 1) := by decide +kernel
theorem dX9_accept_125 : decode cX9_accept 125 = .ok (.iload_n 3, 1) := by decide +kernel
theorem dX9_accept_126 : decode cX9_accept 126 = .ok (.iload 4, 2) := by decide +kernel
theorem dX9_accept_128 : decode cX9_accept 128 = .ok (.invokevirtual 109, 3) := by decide +kernel
theorem dX9_accept_131 : decode cX9_accept 131 = .ok (.istore 8, 2) := by decide +kernel
theorem dX9_accept_133 : decode cX9_accept 133 = .ok (.iload 8, 2) := by decide +kernel
theorem dX9_accept_135 : decode cX9_accept 135 = .ok (.ifCond .ge 10, 3) := by decide +kernel
theorem dX9_accept_138 : decode cX9_accept 138 = .ok (.aload_n 0, 1) := by decide +kernel
theorem dX9_accept_139 : decode cX9_accept 139 = .ok (.iload 8, 2) := by decide +kernel
theorem dX9_accept_141 : decode cX9_accept 141 = .ok (.invokevirtual 28, 3) := by decide +kernel
theorem dX9_accept_144 : decode cX9_accept 144 = .ok (.ireturn, 1) := by decide +kernel
theorem dX9_accept_145 : decode cX9_accept 145 = .ok (.aload_n 0, 1) := by decide +kernel
theorem dX9_accept_146 : decode cX9_accept 146 = .ok (.getfield 7, 3) := by decide +kernel
theorem dX9_accept_149 : decode cX9_accept 149 = .ok (.iconst 5, 1) := by decide +kernel
theorem dX9_accept_150 : decode cX9_accept 150 = .ok (.iaload, 1) := by decide +kernel
theorem dX9_accept_151 : decode cX9_accept 151 = .ok (.istore 9, 2) := by decide +kernel
theorem dX9_accept_153 : decode cX9_accept 153 = .ok (.aload_n 0, 1) := by decide +kernel
theorem dX9_accept_154 : decode cX9_accept 154 = .ok (.getfield 7, 3) := by decide +kernel
theorem dX9_accept_157 : decode cX9_accept 157 = .ok (.iconst 5, 1) := by decide +kernel
theorem dX9_accept_158 : decode cX9_accept 158 = .ok (.iload 7, 2) := by decide +kernel
theorem dX9_accept_160 : decode cX9_accept 160 = .ok (.iastore, 1) := by decide +kernel
theorem dX9_accept_161 : decode cX9_accept 161 = .ok (.aload_n 0, 1) := by decide +kernel
theorem dX9_accept_162 : decode cX9_accept 162 = .ok (.invokevirtual 47, 3) := by decide +kernel
theorem dX9_accept_165 : decode cX9_accept 165 = .ok (.aload_n 0, 1) := by decide +kernel
theorem dX9_accept_166 : decode cX9_accept 166 = .ok (.getfield 7, 3) := by decide +kernel
theorem dX9_accept_169 : decode cX9_accept 169 = .ok (.iconst 5, 1) := by decide +kernel
theorem dX9_accept_170 : decode cX9_accept 170 = .ok (.iload 9, 2) := by decide +kernel
theorem dX9_accept_172 : decode cX9_accept 172 = .ok (.iastore, 1) := by decide +kernel
theorem dX9_accept_173 : decode cX9_accept 173 = .ok (.iload 6, 2) := by decide +kernel
theorem dX9_accept_175 : decode cX9_accept 175 = .ok (.ifCond .eq 16, 3) := by decide +kernel
theorem dX9_accept_178 : decode cX9_accept 178 = .ok (.aload_n 0, 1) := by decide +kernel
theorem dX9_accept_179 : decode cX9_accept 179 = .ok (.bipush 24, 2) := by decide +kernel
theorem dX9_accept_181 : decode cX9_accept 181 = .ok (.iconst 4, 1) := by decide +kernel
theorem dX9_accept_182 : decode cX9_accept 182 = .ok (.iconst 3, 1) := by decide +kernel
theorem dX9_accept_183 : decode cX9_accept 183 = .ok (.iload 5, 2) := by decide +kernel
theorem dX9_accept_185 : decode cX9_accept 185 = .ok (.invokevirtual 40, 3) := by decide +kernel
theorem dX9_accept_188 : decode cX9_accept 188 = .ok (.goto 10, 3) := by decide +kernel
theorem dX9_accept_191 : decode cX9_accept 191 = .ok (.aload_n 0, 1) := by decide +kernel
theorem dX9_accept_192 : decode cX9_accept 192 = .ok (.iload_n 1, 1) := by decide +kernel
theorem dX9_accept_193 : decode cX9_accept 193 = .ok (.iload_n 2, 1) := by decide +kernel
theorem dX9_accept_194 : decode cX9_accept 194 = .ok (.iload_n 3, 1) := by decide +kernel
theorem dX9_accept_195 : decode cX9_accept 195 = .ok (.invokevirtual 113, 3) := by decide +kernel
theorem dX9_accept_198 : decode cX9_accept 198 = .ok (.aload_n 0, 1) := by decide +kernel
theorem dX9_accept_199 : decode cX9_accept 199 = .ok (.getfield 7, 3) := by decide +kernel
theorem dX9_accept_202 : decode cX9_accept 202 = .ok (.aload_n 0, 1) := by decide +kernel
theorem dX9_accept_203 : decode cX9_accept 203 = .ok (.iload_n 1, 1) := by decide +kernel
theorem dX9_accept_204 : decode cX9_accept 204 = .ok (.iload_n 2, 1) := by decide +kernel
theorem dX9_accept_205 : decode cX9_accept 205 = .ok (.invokevirtual 72, 3) := by decide +kernel
theorem dX9_accept_208 : decode cX9_accept 208 = .ok (.iconst 1, 1) := by decide +kernel
theorem dX9_accept_209 : decode cX9_accept 209 = .ok (.iload_n 3, 1) := by decide +kernel
theorem dX9_accept_210 : decode cX9_accept 210 = .ok (.invokestatic 99, 3) := by decide +kernel
theorem dX9_accept_213 : decode cX9_accept 213 = .ok (.iadd, 1) := by decide +kernel
theorem dX9_accept_214 : decode cX9_accept 214 = .ok (.iastore, 1) := by decide +kernel
theorem dX9_accept_215 : decode cX9_accept 215 = .ok (.iload_n 3, 1) := by decide +kernel
theorem dX9_accept_216 : decode cX9_accept 216 = .ok (.invokestatic 99, 3) := by decide +kernel
theorem dX9_accept_219 : decode cX9_accept 219 = .ok (.invokestatic 69, 3) := by decide +kernel
theorem dX9_accept_222 : decode cX9_accept 222 = .ok (.ireturn, 1) := by decide +kernel
theorem dX9_close_0 : decode cX9_close 0 = .ok (.iload_n 1, 1) := by decide +kernel
theorem dX9_close_1 : decode cX9_close 1 = .ok (.iload_n 2, 1) := by decide +kernel
theorem dX9_close_2 : decode cX9_close 2 = .ok (.invokestatic 80, 3) := by decide +kernel
theorem dX9_close_5 : decode cX9_close 5 = .ok (.ifCond .ne 10, 3) := by decide +kernel
theorem dX9_close_8 : decode cX9_close 8 = .ok (.aload_n 0, 1) := by decide +kernel
theorem dX9_close_9 : decode cX9_close 9 = .ok (.bipush (-2), 2) := by decide +kernel
theorem dX9_close_11 : decode cX9_close 11 = .ok (.invokevirtual 28, 3) := by decide +kernel
theorem dX9_close_14 : decode cX9_close 14 = .ok (.ireturn, 1) := by decide +kernel
theorem dX9_close_15 : decode cX9_close 15 = .ok (.aload_n 0, 1) := by decide +kernel
theorem dX9_close_16 : decode cX9_close 16 = .ok (.iload_n 1, 1) := by decide +kernel
theorem dX9_close_17 : decode cX9_close 17 = .ok (.iload_n 2, 1) := by decide +kernel
theorem dX9_close_18 : decode cX9_close 18 = .ok (.invokevirtual 76, 3) := by decide +kernel
theorem dX9_close_21 : decode cX9_close 21 = .ok (.ifCond .ne 10, 3) := by decide +kernel
theorem dX9_close_24 : decode cX9_close 24 = .ok (.aload_n 0, 1) := by decide +kernel
theorem dX9_close_25 : decode cX9_close 25 = .ok (.bipush (-9), 2) := by decide +kernel
theorem dX9_close_27 : decode cX9_close 27 = .ok (.invokevirtual 28, 3) := by decide +kernel
theorem dX9_close_30 : decode cX9_close 30 = .ok (.ireturn, 1) := by decide +kernel
theorem dX9_close_31 : decode cX9_close 31 = .ok (.aload_n 0, 1) := by decide +kernel
theorem dX9_close_32 : decode cX9_close 32 = .ok (.invokevirtual 47, 3) := by decide +kernel
theorem dX9_close_35 : decode cX9_close 35 = .ok (.aload_n 0, 1) := by decide +kernel
theorem dX9_close_36 : decode cX9_close 36 = .ok (.getfield 7, 3) := by decide +kernel
theorem dX9_close_39 : decode cX9_close 39 = .ok (.aload_n 0, 1) := by decide +kernel
theorem dX9_close_40 : decode cX9_close 40 = .ok (.iload_n 1, 1) := by decide +kernel
theorem dX9_close_41 : decode cX9_close 41 = .ok (.iload_n 2, 1) := by decide +kernel
theorem dX9_close_42 : decode cX9_close 42 = .ok (.invokevirtual 72, 3) := by decide +kernel
theorem dX9_close_45 : decode cX9_close 45 = .ok (.iconst 0, 1) := by decide +kernel
theorem dX9_close_46 : decode cX9_close 46 = .ok (.iastore, 1) := by decide +kernel
theorem dX9_close_47 : decode cX9_close 47 = .ok (.aload_n 0, 1) := by decide +kernel
theorem dX9_close_48 : decode cX9_close 48 = .ok (.iload_n 1, 1) := by decide +kernel
theorem dX9_close_49 : decode cX9_close 49 = .ok (.invokevirtual 117, 3) := by decide +kernel
theorem dX9_close_52 : decode cX9_close 52 = .ok (.istore_n 3, 1) := by decide +kernel
theorem dX9_close_53 : decode cX9_close 53 = .ok (.iload_n 3, 1) := by decide +kernel
theorem dX9_close_54 : decode cX9_close 54 = .ok (.ifCond .ne 25, 3) := by decide +kernel
theorem dX9_close_57 : decode cX9_close 57 = .ok (.aload_n 0, 1) := by decide +kernel
theorem dX9_close_58 : decode cX9_close 58 = .ok (.getfield 7, 3) := by decide +kernel
theorem dX9_close_61 : decode cX9_close 61 = .ok (.sipush 228, 3) := by decide +kernel
theorem dX9_close_64 : decode cX9_close 64 = .ok (.iload_n 1, 1) := by decide +kernel
theorem dX9_close_65 : decode cX9_close 65 = .ok (.iadd, 1) := by decide +kernel
theorem dX9_close_66 : decode cX9_close 66 = .ok (.iconst 0, 1) := by decide +kernel
theorem dX9_close_67 : decode cX9_close 67 = .ok (.iastore, 1) := by decide +kernel
theorem dX9_close_68 : decode cX9_close 68 = .ok (.aload_n 0, 1) := by decide +kernel
theorem dX9_close_69 : decode cX9_close 69 = .ok (.getfield 7, 3) := by decide +kernel
theorem dX9_close_72 : decode cX9_close 72 = .ok (.sipush 372, 3) := by decide +kernel
theorem dX9_close_75 : decode cX9_close 75 = .ok (.iload_n 1, 1) := by decide +kernel
theorem dX9_close_76 : decode cX9_close 76 = .ok (.iadd, 1) := by decide +kernel
theorem dX9_close_77 : decode cX9_close 77 = .ok (.iconst 0, 1) := by decide +kernel
theorem dX9_close_78 : decode cX9_close 78 = .ok (.iastore, 1) := by decide +kernel
theorem dX9_close_79 : decode cX9_close 79 = .ok (.iload_n 3, 1) := by decide +kernel
theorem dX9_close_80 : decode cX9_close 80 = .ok (.ireturn, 1) := by decide +kernel
theorem dX9_segmentSize_0 : decode cX9_segmentSize 0 = .ok (.iload_n 1, 1) := by decide +kernel
theorem dX9_segmentSize_1 : decode cX9_segmentSize 1 = .ok (.iload_n 2, 1) := by decide +kernel
theorem dX9_segmentSize_2 : decode cX9_segmentSize 2 = .ok (.invokestatic 80, 3) := by decide +kernel
theorem dX9_segmentSize_5 : decode cX9_segmentSize 5 = .ok (.ifCond .ne 12, 3) := by decide +kernel
theorem dX9_segmentSize_8 : decode cX9_segmentSize 8 = .ok (.aload_n 0, 1) := by decide +kernel
theorem dX9_segmentSize_9 : decode cX9_segmentSize 9 = .ok (.bipush (-2), 2) := by decide +kernel
theorem dX9_segmentSize_11 : decode cX9_segmentSize 11 = .ok (.invokevirtual 28, 3) := by decide +kernel
theorem dX9_segmentSize_14 : decode cX9_segmentSize 14 = .ok (.goto 32, 3) := by decide +kernel
theorem dX9_segmentSize_17 : decode cX9_segmentSize 17 = .ok (.aload_n 0, 1) := by decide +kernel
theorem dX9_segmentSize_18 : decode cX9_segmentSize 18 = .ok (.iload_n 1, 1) := by decide +kernel
theorem dX9_segmentSize_19 : decode cX9_segmentSize 19 = .ok (.iload_n 2, 1) := by decide +kernel
theorem dX9_segmentSize_20 : decode cX9_segmentSize 20 = .ok (.invokevirtual 76, 3) := by decide +kernel
theorem dX9_segmentSize_23 : decode cX9_segmentSize 23 = .ok (.ifCond .eq 22, 3) := by decide +kernel
theorem dX9_segmentSize_26 : decode cX9_segmentSize 26 = .ok (.aload_n 0, 1) := by decide +kernel
theorem dX9_segmentSize_27 : decode cX9_segmentSize 27 = .ok (.getfield 7, 3) := by decide +kernel
theorem dX9_segmentSize_30 : decode cX9_segmentSize 30 = .ok (.aload_n 0, 1) := by decide +kernel
theorem dX9_segmentSize_31 : decode cX9_segmentSize 31 = .ok (.iload_n 1, 1) := by decide +kernel
theorem dX9_segmentSize_32 : decode cX9_segmentSize 32 = .ok (.iload_n 2, 1) := by decide +kernel
theorem dX9_segmentSize_33 : decode cX9_segmentSize 33 = .ok (.invokevirtual 72, 3) := by decide +kernel
theorem dX9_segmentSize_36 : decode cX9_segmentSize 36 = .ok (.iaload, 1) := by decide +kernel
theorem dX9_segmentSize_37 : decode cX9_segmentSize 37 = .ok (.iconst 1, 1) := by decide +kernel
theorem dX9_segmentSize_38 : decode cX9_segmentSize 38 = .ok (.isub, 1) := by decide +kernel
theorem dX9_segmentSize_39 : decode cX9_segmentSize 39 = .ok (.invokestatic 69, 3) := by decide +kernel
theorem dX9_segmentSize_42 : decode cX9_segmentSize 42 = .ok (.goto 4, 3) := by decide +kernel
theorem dX9_segmentSize_45 : decode cX9_segmentSize 45 = .ok (.iconst (-1), 1) := by decide +kernel
theorem dX9_segmentSize_46 : decode cX9_segmentSize 46 = .ok (.ireturn, 1) := by decide +kernel
theorem dX9_connections_0 : decode cX9_connections 0 = .ok (.iconst 0, 1) := by decide +kernel
theorem dX9_connections_1 : decode cX9_connections 1 = .ok (.istore_n 1, 1) := by decide +kernel
theorem dX9_connections_2 : decode cX9_connections 2 = .ok (.iconst 0, 1) := by decide +kernel
theorem dX9_connections_3 : decode cX9_connections 3 = .ok (.istore_n 2, 1) := by decide +kernel
theorem dX9_connections_4 : decode cX9_connections 4 = .ok (.iload_n 2, 1) := by decide +kernel
theorem dX9_connections_5 : decode cX9_connections 5 = .ok (.bipush 16, 2) := by decide +kernel
theorem dX9_connections_7 : decode cX9_connections 7 = .ok (.if_icmp .ge 17, 3) := by decide +kernel
theorem dX9_connections_10 : decode cX9_connections 10 = .ok (.iload_n 1, 1) := by decide +kernel
theorem dX9_connections_11 : decode cX9_connections 11 = .ok (.aload_n 0, 1) := by decide +kernel
theorem dX9_connections_12 : decode cX9_connections 12 = .ok (.iload_n 2, 1) := by decide +kernel
theorem dX9_connections_13 : decode cX9_connections 13 = .ok (.invokevirtual 117, 3) := by decide +kernel
theorem dX9_connections_16 : decode cX9_connections 16 = .ok (.iadd, 1) := by decide +kernel
theorem dX9_connections_17 : decode cX9_connections 17 = .ok (.istore_n 1, 1) := by decide +kernel
theorem dX9_connections_18 : decode cX9_connections 18 = .ok (.iinc 2 1, 3) := by decide +kernel
theorem dX9_connections_21 : decode cX9_connections 21 = .ok (.goto (-17), 3) := by decide +kernel
theorem dX9_connections_24 : decode cX9_connections 24 = .ok (.iload_n 1, 1) := by decide +kernel
theorem dX9_connections_25 : decode cX9_connections 25 = .ok (.ireturn, 1) := by decide +kernel
theorem dX9_halfOpen_0 : decode cX9_halfOpen 0 = .ok (.aload_n 0, 1) := by decide +kernel
theorem dX9_halfOpen_1 : decode cX9_halfOpen 1 = .ok (.getfield 7, 3) := by decide +kernel
theorem dX9_halfOpen_4 : decode cX9_halfOpen 4 = .ok (.iconst 3, 1) := by decide +kernel
theorem dX9_halfOpen_5 : decode cX9_halfOpen 5 = .ok (.iaload, 1) := by decide +kernel
theorem dX9_halfOpen_6 : decode cX9_halfOpen 6 = .ok (.ireturn, 1) := by decide +kernel
theorem dX9_entryAge_0 : decode cX9_entryAge 0 = .ok (.iload_n 1, 1) := by decide +kernel
theorem dX9_entryAge_1 : decode cX9_entryAge 1 = .ok (.iload_n 2, 1) := by decide +kernel
theorem dX9_entryAge_2 : decode cX9_entryAge 2 = .ok (.invokestatic 80, 3) := by decide +kernel
theorem dX9_entryAge_5 : decode cX9_entryAge 5 = .ok (.ifCond .ne 10, 3) := by decide +kernel
theorem dX9_entryAge_8 : decode cX9_entryAge 8 = .ok (.aload_n 0, 1) := by decide +kernel
theorem dX9_entryAge_9 : decode cX9_entryAge 9 = .ok (.bipush (-2), 2) := by decide +kernel
theorem dX9_entryAge_11 : decode cX9_entryAge 11 = .ok (.invokevirtual 28, 3) := by decide +kernel
theorem dX9_entryAge_14 : decode cX9_entryAge 14 = .ok (.ireturn, 1) := by decide +kernel
theorem dX9_entryAge_15 : decode cX9_entryAge 15 = .ok (.aload_n 0, 1) := by decide +kernel
theorem dX9_entryAge_16 : decode cX9_entryAge 16 = .ok (.iload_n 1, 1) := by decide +kernel
theorem dX9_entryAge_17 : decode cX9_entryAge 17 = .ok (.iload_n 2, 1) := by decide +kernel
theorem dX9_entryAge_18 : decode cX9_entryAge 18 = .ok (.invokevirtual 90, 3) := by decide +kernel
theorem dX9_entryAge_21 : decode cX9_entryAge 21 = .ok (.istore_n 3, 1) := by decide +kernel
theorem dX9_entryAge_22 : decode cX9_entryAge 22 = .ok (.iload_n 3, 1) := by decide +kernel
theorem dX9_entryAge_23 : decode cX9_entryAge 23 = .ok (.iconst (-1), 1) := by decide +kernel
theorem dX9_entryAge_24 : decode cX9_entryAge 24 = .ok (.if_icmp .ne 7, 3) := by decide +kernel
theorem dX9_entryAge_27 : decode cX9_entryAge 27 = .ok (.iconst (-1), 1) := by decide +kernel
theorem dX9_entryAge_28 : decode cX9_entryAge 28 = .ok (.goto 23, 3) := by decide +kernel
theorem dX9_entryAge_31 : decode cX9_entryAge 31 = .ok (.aload_n 0, 1) := by decide +kernel
theorem dX9_entryAge_32 : decode cX9_entryAge 32 = .ok (.getfield 7, 3) := by decide +kernel
theorem dX9_entryAge_35 : decode cX9_entryAge 35 = .ok (.iconst 0, 1) := by decide +kernel
theorem dX9_entryAge_36 : decode cX9_entryAge 36 = .ok (.iaload, 1) := by decide +kernel
theorem dX9_entryAge_37 : decode cX9_entryAge 37 = .ok (.aload_n 0, 1) := by decide +kernel
theorem dX9_entryAge_38 : decode cX9_entryAge 38 = .ok (.getfield 7, 3) := by decide +kernel
theorem dX9_entryAge_41 : decode cX9_entryAge 41 = .ok (.bipush 24, 2) := by decide +kernel
theorem dX9_entryAge_43 : decode cX9_entryAge 43 = .ok (.iconst 4, 1) := by decide +kernel
theorem dX9_entryAge_44 : decode cX9_entryAge 44 = .ok (.iload_n 3, 1) := by decide +kernel
theorem dX9_entryAge_45 : decode cX9_entryAge 45 = .ok (.imul, 1) := by decide +kernel
theorem dX9_entryAge_46 : decode cX9_entryAge 46 = .ok (.iadd, 1) := by decide +kernel
theorem dX9_entryAge_47 : decode cX9_entryAge 47 = .ok (.iconst 3, 1) := by decide +kernel
theorem dX9_entryAge_48 : decode cX9_entryAge 48 = .ok (.iadd, 1) := by decide +kernel
theorem dX9_entryAge_49 : decode cX9_entryAge 49 = .ok (.iaload, 1) := by decide +kernel
theorem dX9_entryAge_50 : decode cX9_entryAge 50 = .ok (.isub, 1) := by decide +kernel
theorem dX9_entryAge_51 : decode cX9_entryAge 51 = .ok (.ireturn, 1) := by decide +kernel
theorem dX9_remembered_0 : decode cX9_remembered 0 = .ok (.aload_n 0, 1) := by decide +kernel
theorem dX9_remembered_1 : decode cX9_remembered 1 = .ok (.getfield 7, 3) := by decide +kernel
theorem dX9_remembered_4 : decode cX9_remembered 4 = .ok (.iconst 4, 1) := by decide +kernel
theorem dX9_remembered_5 : decode cX9_remembered 5 = .ok (.iaload, 1) := by decide +kernel
theorem dX9_remembered_6 : decode cX9_remembered 6 = .ok (.ireturn, 1) := by decide +kernel
theorem dX9_epoch_0 : decode cX9_epoch 0 = .ok (.aload_n 0, 1) := by decide +kernel
theorem dX9_epoch_1 : decode cX9_epoch 1 = .ok (.invokevirtual 33, 3) := by decide +kernel
theorem dX9_epoch_4 : decode cX9_epoch 4 = .ok (.ireturn, 1) := by decide +kernel
theorem dX9_load_0 : decode cX9_load 0 = .ok (.aload_n 0, 1) := by decide +kernel
theorem dX9_load_1 : decode cX9_load 1 = .ok (.invokevirtual 66, 3) := by decide +kernel
theorem dX9_load_4 : decode cX9_load 4 = .ok (.ireturn, 1) := by decide +kernel
theorem dX9_difficulty_0 : decode cX9_difficulty 0 = .ok (.aload_n 0, 1) := by decide +kernel
theorem dX9_difficulty_1 : decode cX9_difficulty 1 = .ok (.invokevirtual 93, 3) := by decide +kernel
theorem dX9_difficulty_4 : decode cX9_difficulty 4 = .ok (.ireturn, 1) := by decide +kernel
theorem dX9_solve_0 : decode cX9_solve 0 = .ok (.iload_n 1, 1) := by decide +kernel
theorem dX9_solve_1 : decode cX9_solve 1 = .ok (.invokestatic 102, 3) := by decide +kernel
theorem dX9_solve_4 : decode cX9_solve 4 = .ok (.ifCond .eq 24, 3) := by decide +kernel
theorem dX9_solve_7 : decode cX9_solve 7 = .ok (.iload_n 2, 1) := by decide +kernel
theorem dX9_solve_8 : decode cX9_solve 8 = .ok (.iconst 0, 1) := by decide +kernel
theorem dX9_solve_9 : decode cX9_solve 9 = .ok (.bipush 6, 2) := by decide +kernel
theorem dX9_solve_11 : decode cX9_solve 11 = .ok (.invokestatic 19, 3) := by decide +kernel
theorem dX9_solve_14 : decode cX9_solve 14 = .ok (.ifCond .eq 14, 3) := by decide +kernel
theorem dX9_solve_17 : decode cX9_solve 17 = .ok (.iload_n 3, 1) := by decide +kernel
theorem dX9_solve_18 : decode cX9_solve 18 = .ok (.iconst 0, 1) := by decide +kernel
theorem dX9_solve_19 : decode cX9_solve 19 = .ok (.sipush 9999, 3) := by decide +kernel
theorem dX9_solve_22 : decode cX9_solve 22 = .ok (.invokestatic 19, 3) := by decide +kernel
theorem dX9_solve_25 : decode cX9_solve 25 = .ok (.ifCond .ne 10, 3) := by decide +kernel
theorem dX9_solve_28 : decode cX9_solve 28 = .ok (.aload_n 0, 1) := by decide +kernel
theorem dX9_solve_29 : decode cX9_solve 29 = .ok (.bipush (-2), 2) := by decide +kernel
theorem dX9_solve_31 : decode cX9_solve 31 = .ok (.invokevirtual 28, 3) := by decide +kernel
theorem dX9_solve_34 : decode cX9_solve 34 = .ok (.ireturn, 1) := by decide +kernel
theorem dX9_solve_35 : decode cX9_solve 35 = .ok (.iload_n 3, 1) := by decide +kernel
theorem dX9_solve_36 : decode cX9_solve 36 = .ok (.istore 4, 2) := by decide +kernel
theorem dX9_solve_38 : decode cX9_solve 38 = .ok (.iload 4, 2) := by decide +kernel
theorem dX9_solve_40 : decode cX9_solve 40 = .ok (.sipush 9999, 3) := by decide +kernel
theorem dX9_solve_43 : decode cX9_solve 43 = .ok (.if_icmp .gt 19, 3) := by decide +kernel
theorem dX9_solve_46 : decode cX9_solve 46 = .ok (.iload_n 1, 1) := by decide +kernel
theorem dX9_solve_47 : decode cX9_solve 47 = .ok (.iload 4, 2) := by decide +kernel
theorem dX9_solve_49 : decode cX9_solve 49 = .ok (.iload_n 2, 1) := by decide +kernel
theorem dX9_solve_50 : decode cX9_solve 50 = .ok (.invokestatic 96, 3) := by decide +kernel
theorem dX9_solve_53 : decode cX9_solve 53 = .ok (.ifCond .ne 9, 3) := by decide +kernel
theorem dX9_solve_56 : decode cX9_solve 56 = .ok (.iinc 4 1, 3) := by decide +kernel
theorem dX9_solve_59 : decode cX9_solve 59 = .ok (.goto (-21), 3) := by decide +kernel
theorem dX9_solve_62 : decode cX9_solve 62 = .ok (.iload 4, 2) := by decide +kernel
theorem dX9_solve_64 : decode cX9_solve 64 = .ok (.sipush 9999, 3) := by decide +kernel
theorem dX9_solve_67 : decode cX9_solve 67 = .ok (.if_icmp .gt 8, 3) := by decide +kernel
theorem dX9_solve_70 : decode cX9_solve 70 = .ok (.iload 4, 2) := by decide +kernel
theorem dX9_solve_72 : decode cX9_solve 72 = .ok (.goto 4, 3) := by decide +kernel
theorem dX9_solve_75 : decode cX9_solve 75 = .ok (.iconst (-1), 1) := by decide +kernel
theorem dX9_solve_76 : decode cX9_solve 76 = .ok (.ireturn, 1) := by decide +kernel
theorem dX9_cookieAge_0 : decode cX9_cookieAge 0 = .ok (.iload_n 1, 1) := by decide +kernel
theorem dX9_cookieAge_1 : decode cX9_cookieAge 1 = .ok (.invokestatic 102, 3) := by decide +kernel
theorem dX9_cookieAge_4 : decode cX9_cookieAge 4 = .ok (.ifCond .eq 11, 3) := by decide +kernel
theorem dX9_cookieAge_7 : decode cX9_cookieAge 7 = .ok (.aload_n 0, 1) := by decide +kernel
theorem dX9_cookieAge_8 : decode cX9_cookieAge 8 = .ok (.iload_n 1, 1) := by decide +kernel
theorem dX9_cookieAge_9 : decode cX9_cookieAge 9 = .ok (.invokevirtual 44, 3) := by decide +kernel
theorem dX9_cookieAge_12 : decode cX9_cookieAge 12 = .ok (.goto 9, 3) := by decide +kernel
theorem dX9_cookieAge_15 : decode cX9_cookieAge 15 = .ok (.aload_n 0, 1) := by decide +kernel
theorem dX9_cookieAge_16 : decode cX9_cookieAge 16 = .ok (.bipush (-2), 2) := by decide +kernel
theorem dX9_cookieAge_18 : decode cX9_cookieAge 18 = .ok (.invokevirtual 28, 3) := by decide +kernel
theorem dX9_cookieAge_21 : decode cX9_cookieAge 21 = .ok (.ireturn, 1) := by decide +kernel
theorem dX9_cookieSize_0 : decode cX9_cookieSize 0 = .ok (.iload_n 1, 1) := by decide +kernel
theorem dX9_cookieSize_1 : decode cX9_cookieSize 1 = .ok (.invokestatic 102, 3) := by decide +kernel
theorem dX9_cookieSize_4 : decode cX9_cookieSize 4 = .ok (.ifCond .eq 13, 3) := by decide +kernel
theorem dX9_cookieSize_7 : decode cX9_cookieSize 7 = .ok (.iload_n 1, 1) := by decide +kernel
theorem dX9_cookieSize_8 : decode cX9_cookieSize 8 = .ok (.invokestatic 99, 3) := by decide +kernel
theorem dX9_cookieSize_11 : decode cX9_cookieSize 11 = .ok (.invokestatic 69, 3) := by decide +kernel
theorem dX9_cookieSize_14 : decode cX9_cookieSize 14 = .ok (.goto 9, 3) := by decide +kernel
theorem dX9_cookieSize_17 : decode cX9_cookieSize 17 = .ok (.aload_n 0, 1) := by decide +kernel
theorem dX9_cookieSize_18 : decode cX9_cookieSize 18 = .ok (.bipush (-2), 2) := by decide +kernel
theorem dX9_cookieSize_20 : decode cX9_cookieSize 20 = .ok (.invokevirtual 28, 3) := by decide +kernel
theorem dX9_cookieSize_23 : decode cX9_cookieSize 23 = .ok (.ireturn, 1) := by decide +kernel
theorem dX9_work_0 : decode cX9_work 0 = .ok (.aload_n 0, 1) := by decide +kernel
theorem dX9_work_1 : decode cX9_work 1 = .ok (.getfield 7, 3) := by decide +kernel
theorem dX9_work_4 : decode cX9_work 4 = .ok (.iconst 5, 1) := by decide +kernel
theorem dX9_work_5 : decode cX9_work 5 = .ok (.iaload, 1) := by decide +kernel
theorem dX9_work_6 : decode cX9_work 6 = .ok (.ireturn, 1) := by decide +kernel
theorem dX9_request_0 : decode cX9_request 0 = .ok (.iload_n 1, 1) := by decide +kernel
theorem dX9_request_1 : decode cX9_request 1 = .ok (.invokestatic 120, 3) := by decide +kernel
theorem dX9_request_4 : decode cX9_request 4 = .ok (.ifCond .eq 13, 3) := by decide +kernel
theorem dX9_request_7 : decode cX9_request 7 = .ok (.iload_n 2, 1) := by decide +kernel
theorem dX9_request_8 : decode cX9_request 8 = .ok (.iconst 1, 1) := by decide +kernel
theorem dX9_request_9 : decode cX9_request 9 = .ok (.bipush 9, 2) := by decide +kernel
theorem dX9_request_11 : decode cX9_request 11 = .ok (.invokestatic 19, 3) := by decide +kernel
theorem dX9_request_14 : decode cX9_request 14 = .ok (.ifCond .ne 10, 3) := by decide +kernel
theorem dX9_request_17 : decode cX9_request 17 = .ok (.aload_n 0, 1) := by decide +kernel
theorem dX9_request_18 : decode cX9_request 18 = .ok (.bipush (-2), 2) := by decide +kernel
theorem dX9_request_20 : decode cX9_request 20 = .ok (.invokevirtual 28, 3) := by decide +kernel
theorem dX9_request_23 : decode cX9_request 23 = .ok (.ireturn, 1) := by decide +kernel
theorem dX9_request_24 : decode cX9_request 24 = .ok (.aload_n 0, 1) := by decide +kernel
theorem dX9_request_25 : decode cX9_request 25 = .ok (.getfield 7, 3) := by decide +kernel
theorem dX9_request_28 : decode cX9_request 28 = .ok (.sipush 228, 3) := by decide +kernel
theorem dX9_request_31 : decode cX9_request 31 = .ok (.iload_n 1, 1) := by decide +kernel
theorem dX9_request_32 : decode cX9_request 32 = .ok (.iadd, 1) := by decide +kernel
theorem dX9_request_33 : decode cX9_request 33 = .ok (.iaload, 1) := by decide +kernel
theorem dX9_request_34 : decode cX9_request 34 = .ok (.bipush 8, 2) := by decide +kernel
theorem dX9_request_36 : decode cX9_request 36 = .ok (.if_icmp .ne 10, 3) := by decide +kernel
theorem dX9_request_39 : decode cX9_request 39 = .ok (.aload_n 0, 1) := by decide +kernel
theorem dX9_request_40 : decode cX9_request 40 = .ok (.bipush (-4), 2) := by decide +kernel
theorem dX9_request_42 : decode cX9_request 42 = .ok (.invokevirtual 28, 3) := by decide +kernel
theorem dX9_request_45 : decode cX9_request 45 = .ok (.ireturn, 1) := by decide +kernel
theorem dX9_request_46 : decode cX9_request 46 = .ok (.aload_n 0, 1) := by decide +kernel
theorem dX9_request_47 : decode cX9_request 47 = .ok (.iload_n 1, 1) := by decide +kernel
theorem dX9_request_48 : decode cX9_request 48 = .ok (.invokevirtual 117, 3) := by decide +kernel
theorem dX9_request_51 : decode cX9_request 51 = .ok (.ifCond .ne 10, 3) := by decide +kernel
theorem dX9_request_54 : decode cX9_request 54 = .ok (.aload_n 0, 1) := by decide +kernel
theorem dX9_request_55 : decode cX9_request 55 = .ok (.bipush (-9), 2) := by decide +kernel
theorem dX9_request_57 : decode cX9_request 57 = .ok (.invokevirtual 28, 3) := by decide +kernel
theorem dX9_request_60 : decode cX9_request 60 = .ok (.ireturn, 1) := by decide +kernel
theorem dX9_request_61 : decode cX9_request 61 = .ok (.aload_n 0, 1) := by decide +kernel
theorem dX9_request_62 : decode cX9_request 62 = .ok (.invokevirtual 47, 3) := by decide +kernel
theorem dX9_request_65 : decode cX9_request 65 = .ok (.aload_n 0, 1) := by decide +kernel
theorem dX9_request_66 : decode cX9_request 66 = .ok (.getfield 7, 3) := by decide +kernel
theorem dX9_request_69 : decode cX9_request 69 = .ok (.sipush 244, 3) := by decide +kernel
theorem dX9_request_72 : decode cX9_request 72 = .ok (.bipush 8, 2) := by decide +kernel
theorem dX9_request_74 : decode cX9_request 74 = .ok (.iload_n 1, 1) := by decide +kernel
theorem dX9_request_75 : decode cX9_request 75 = .ok (.imul, 1) := by decide +kernel
theorem dX9_request_76 : decode cX9_request 76 = .ok (.iadd, 1) := by decide +kernel
theorem dX9_request_77 : decode cX9_request 77 = .ok (.aload_n 0, 1) := by decide +kernel
theorem dX9_request_78 : decode cX9_request 78 = .ok (.getfield 7, 3) := by decide +kernel
theorem dX9_request_81 : decode cX9_request 81 = .ok (.sipush 228, 3) := by decide +kernel
theorem dX9_request_84 : decode cX9_request 84 = .ok (.iload_n 1, 1) := by decide +kernel
theorem dX9_request_85 : decode cX9_request 85 = .ok (.iadd, 1) := by decide +kernel
theorem dX9_request_86 : decode cX9_request 86 = .ok (.iaload, 1) := by decide +kernel
theorem dX9_request_87 : decode cX9_request 87 = .ok (.iadd, 1) := by decide +kernel
theorem dX9_request_88 : decode cX9_request 88 = .ok (.iload_n 2, 1) := by decide +kernel
theorem dX9_request_89 : decode cX9_request 89 = .ok (.iastore, 1) := by decide +kernel
theorem dX9_request_90 : decode cX9_request 90 = .ok (.aload_n 0, 1) := by decide +kernel
theorem dX9_request_91 : decode cX9_request 91 = .ok (.getfield 7, 3) := by decide +kernel
theorem dX9_request_94 : decode cX9_request 94 = .ok (.sipush 228, 3) := by decide +kernel
theorem dX9_request_97 : decode cX9_request 97 = .ok (.iload_n 1, 1) := by decide +kernel
theorem dX9_request_98 : decode cX9_request 98 = .ok (.iadd, 1) := by decide +kernel
theorem dX9_request_99 : decode cX9_request 99 = .ok (.dup2, 1) := by decide +kernel
theorem dX9_request_100 : decode cX9_request 100 = .ok (.iaload, 1) := by decide +kernel
theorem dX9_request_101 : decode cX9_request 101 = .ok (.iconst 1, 1) := by decide +kernel
theorem dX9_request_102 : decode cX9_request 102 = .ok (.iadd, 1) := by decide +kernel
theorem dX9_request_103 : decode cX9_request 103 = .ok (.iastore, 1) := by decide +kernel
theorem dX9_request_104 : decode cX9_request 104 = .ok (.aload_n 0, 1) := by decide +kernel
theorem dX9_request_105 : decode cX9_request 105 = .ok (.getfield 7, 3) := by decide +kernel
theorem dX9_request_108 : decode cX9_request 108 = .ok (.sipush 228, 3) := by decide +kernel
theorem dX9_request_111 : decode cX9_request 111 = .ok (.iload_n 1, 1) := by decide +kernel
theorem dX9_request_112 : decode cX9_request 112 = .ok (.iadd, 1) := by decide +kernel
theorem dX9_request_113 : decode cX9_request 113 = .ok (.iaload, 1) := by decide +kernel
theorem dX9_request_114 : decode cX9_request 114 = .ok (.ireturn, 1) := by decide +kernel
theorem dX9_waiting_0 : decode cX9_waiting 0 = .ok (.iconst 0, 1) := by decide +kernel
theorem dX9_waiting_1 : decode cX9_waiting 1 = .ok (.istore_n 1, 1) := by decide +kernel
theorem dX9_waiting_2 : decode cX9_waiting 2 = .ok (.iconst 0, 1) := by decide +kernel
theorem dX9_waiting_3 : decode cX9_waiting 3 = .ok (.istore_n 2, 1) := by decide +kernel
theorem dX9_waiting_4 : decode cX9_waiting 4 = .ok (.iload_n 2, 1) := by decide +kernel
theorem dX9_waiting_5 : decode cX9_waiting 5 = .ok (.bipush 16, 2) := by decide +kernel
theorem dX9_waiting_7 : decode cX9_waiting 7 = .ok (.if_icmp .ge 22, 3) := by decide +kernel
theorem dX9_waiting_10 : decode cX9_waiting 10 = .ok (.iload_n 1, 1) := by decide +kernel
theorem dX9_waiting_11 : decode cX9_waiting 11 = .ok (.aload_n 0, 1) := by decide +kernel
theorem dX9_waiting_12 : decode cX9_waiting 12 = .ok (.getfield 7, 3) := by decide +kernel
theorem dX9_waiting_15 : decode cX9_waiting 15 = .ok (.sipush 228, 3) := by decide +kernel
theorem dX9_waiting_18 : decode cX9_waiting 18 = .ok (.iload_n 2, 1) := by decide +kernel
theorem dX9_waiting_19 : decode cX9_waiting 19 = .ok (.iadd, 1) := by decide +kernel
theorem dX9_waiting_20 : decode cX9_waiting 20 = .ok (.iaload, 1) := by decide +kernel
theorem dX9_waiting_21 : decode cX9_waiting 21 = .ok (.iadd, 1) := by decide +kernel
theorem dX9_waiting_22 : decode cX9_waiting 22 = .ok (.istore_n 1, 1) := by decide +kernel
theorem dX9_waiting_23 : decode cX9_waiting 23 = .ok (.iinc 2 1, 3) := by decide +kernel
theorem dX9_waiting_26 : decode cX9_waiting 26 = .ok (.goto (-22), 3) := by decide +kernel
theorem dX9_waiting_29 : decode cX9_waiting 29 = .ok (.iload_n 1, 1) := by decide +kernel
theorem dX9_waiting_30 : decode cX9_waiting 30 = .ok (.ireturn, 1) := by decide +kernel
theorem dX9_moves_0 : decode cX9_moves 0 = .ok (.aload_n 0, 1) := by decide +kernel
theorem dX9_moves_1 : decode cX9_moves 1 = .ok (.getfield 7, 3) := by decide +kernel
theorem dX9_moves_4 : decode cX9_moves 4 = .ok (.bipush 6, 2) := by decide +kernel
theorem dX9_moves_6 : decode cX9_moves 6 = .ok (.iaload, 1) := by decide +kernel
theorem dX9_moves_7 : decode cX9_moves 7 = .ok (.istore_n 1, 1) := by decide +kernel
theorem dX9_moves_8 : decode cX9_moves 8 = .ok (.aload_n 0, 1) := by decide +kernel
theorem dX9_moves_9 : decode cX9_moves 9 = .ok (.getfield 7, 3) := by decide +kernel
theorem dX9_moves_12 : decode cX9_moves 12 = .ok (.sipush 372, 3) := by decide +kernel
theorem dX9_moves_15 : decode cX9_moves 15 = .ok (.iload_n 1, 1) := by decide +kernel
theorem dX9_moves_16 : decode cX9_moves 16 = .ok (.iadd, 1) := by decide +kernel
theorem dX9_moves_17 : decode cX9_moves 17 = .ok (.aload_n 0, 1) := by decide +kernel
theorem dX9_moves_18 : decode cX9_moves 18 = .ok (.getfield 7, 3) := by decide +kernel
theorem dX9_moves_21 : decode cX9_moves 21 = .ok (.sipush 228, 3) := by decide +kernel
theorem dX9_moves_24 : decode cX9_moves 24 = .ok (.iload_n 1, 1) := by decide +kernel
theorem dX9_moves_25 : decode cX9_moves 25 = .ok (.iadd, 1) := by decide +kernel
theorem dX9_moves_26 : decode cX9_moves 26 = .ok (.iaload, 1) := by decide +kernel
theorem dX9_moves_27 : decode cX9_moves 27 = .ok (.ifCond .ne 7, 3) := by decide +kernel
theorem dX9_moves_30 : decode cX9_moves 30 = .ok (.iconst 0, 1) := by decide +kernel
theorem dX9_moves_31 : decode cX9_moves 31 = .ok (.goto 13, 3) := by decide +kernel
theorem dX9_moves_34 : decode cX9_moves 34 = .ok (.aload_n 0, 1) := by decide +kernel
theorem dX9_moves_35 : decode cX9_moves 35 = .ok (.getfield 7, 3) := by decide +kernel
theorem dX9_moves_38 : decode cX9_moves 38 = .ok (.sipush 372, 3) := by decide +kernel
theorem dX9_moves_41 : decode cX9_moves 41 = .ok (.iload_n 1, 1) := by decide +kernel
theorem dX9_moves_42 : decode cX9_moves 42 = .ok (.iadd, 1) := by decide +kernel
theorem dX9_moves_43 : decode cX9_moves 43 = .ok (.iaload, 1) := by decide +kernel
theorem dX9_moves_44 : decode cX9_moves 44 = .ok (.iastore, 1) := by decide +kernel
theorem dX9_moves_45 : decode cX9_moves 45 = .ok (.aload_n 0, 1) := by decide +kernel
theorem dX9_moves_46 : decode cX9_moves 46 = .ok (.getfield 7, 3) := by decide +kernel
theorem dX9_moves_49 : decode cX9_moves 49 = .ok (.bipush 6, 2) := by decide +kernel
theorem dX9_moves_51 : decode cX9_moves 51 = .ok (.iload_n 1, 1) := by decide +kernel
theorem dX9_moves_52 : decode cX9_moves 52 = .ok (.iconst 1, 1) := by decide +kernel
theorem dX9_moves_53 : decode cX9_moves 53 = .ok (.iadd, 1) := by decide +kernel
theorem dX9_moves_54 : decode cX9_moves 54 = .ok (.bipush 16, 2) := by decide +kernel
theorem dX9_moves_56 : decode cX9_moves 56 = .ok (.irem, 1) := by decide +kernel
theorem dX9_moves_57 : decode cX9_moves 57 = .ok (.iastore, 1) := by decide +kernel
theorem dX9_moves_58 : decode cX9_moves 58 = .ok (.aload_n 0, 1) := by decide +kernel
theorem dX9_moves_59 : decode cX9_moves 59 = .ok (.getfield 7, 3) := by decide +kernel
theorem dX9_moves_62 : decode cX9_moves 62 = .ok (.bipush 7, 2) := by decide +kernel
theorem dX9_moves_64 : decode cX9_moves 64 = .ok (.iconst 0, 1) := by decide +kernel
theorem dX9_moves_65 : decode cX9_moves 65 = .ok (.iastore, 1) := by decide +kernel
theorem dX9_moves_66 : decode cX9_moves 66 = .ok (.return_, 1) := by decide +kernel
theorem dX9_takes_0 : decode cX9_takes 0 = .ok (.aload_n 0, 1) := by decide +kernel
theorem dX9_takes_1 : decode cX9_takes 1 = .ok (.getfield 7, 3) := by decide +kernel
theorem dX9_takes_4 : decode cX9_takes 4 = .ok (.sipush 244, 3) := by decide +kernel
theorem dX9_takes_7 : decode cX9_takes 7 = .ok (.bipush 8, 2) := by decide +kernel
theorem dX9_takes_9 : decode cX9_takes 9 = .ok (.iload_n 1, 1) := by decide +kernel
theorem dX9_takes_10 : decode cX9_takes 10 = .ok (.imul, 1) := by decide +kernel
theorem dX9_takes_11 : decode cX9_takes 11 = .ok (.iadd, 1) := by decide +kernel
theorem dX9_takes_12 : decode cX9_takes 12 = .ok (.iaload, 1) := by decide +kernel
theorem dX9_takes_13 : decode cX9_takes 13 = .ok (.istore_n 2, 1) := by decide +kernel
theorem dX9_takes_14 : decode cX9_takes 14 = .ok (.aload_n 0, 1) := by decide +kernel
theorem dX9_takes_15 : decode cX9_takes 15 = .ok (.getfield 7, 3) := by decide +kernel
theorem dX9_takes_18 : decode cX9_takes 18 = .ok (.sipush 228, 3) := by decide +kernel
theorem dX9_takes_21 : decode cX9_takes 21 = .ok (.iload_n 1, 1) := by decide +kernel
theorem dX9_takes_22 : decode cX9_takes 22 = .ok (.iadd, 1) := by decide +kernel
theorem dX9_takes_23 : decode cX9_takes 23 = .ok (.dup2, 1) := by decide +kernel
theorem dX9_takes_24 : decode cX9_takes 24 = .ok (.iaload, 1) := by decide +kernel
theorem dX9_takes_25 : decode cX9_takes 25 = .ok (.iconst 1, 1) := by decide +kernel
theorem dX9_takes_26 : decode cX9_takes 26 = .ok (.isub, 1) := by decide +kernel
theorem dX9_takes_27 : decode cX9_takes 27 = .ok (.iastore, 1) := by decide +kernel
theorem dX9_takes_28 : decode cX9_takes 28 = .ok (.iconst 0, 1) := by decide +kernel
theorem dX9_takes_29 : decode cX9_takes 29 = .ok (.istore_n 3, 1) := by decide +kernel
theorem dX9_takes_30 : decode cX9_takes 30 = .ok (.iload_n 3, 1) := by decide +kernel
theorem dX9_takes_31 : decode cX9_takes 31 = .ok (.aload_n 0, 1) := by decide +kernel
theorem dX9_takes_32 : decode cX9_takes 32 = .ok (.getfield 7, 3) := by decide +kernel
theorem dX9_takes_35 : decode cX9_takes 35 = .ok (.sipush 228, 3) := by decide +kernel
theorem dX9_takes_38 : decode cX9_takes 38 = .ok (.iload_n 1, 1) := by decide +kernel
theorem dX9_takes_39 : decode cX9_takes 39 = .ok (.iadd, 1) := by decide +kernel
theorem dX9_takes_40 : decode cX9_takes 40 = .ok (.iaload, 1) := by decide +kernel
theorem dX9_takes_41 : decode cX9_takes 41 = .ok (.if_icmp .ge 41, 3) := by decide +kernel
theorem dX9_takes_44 : decode cX9_takes 44 = .ok (.aload_n 0, 1) := by decide +kernel
theorem dX9_takes_45 : decode cX9_takes 45 = .ok (.getfield 7, 3) := by decide +kernel
theorem dX9_takes_48 : decode cX9_takes 48 = .ok (.sipush 244, 3) := by decide +kernel
theorem dX9_takes_51 : decode cX9_takes 51 = .ok (.bipush 8, 2) := by decide +kernel
theorem dX9_takes_53 : decode cX9_takes 53 = .ok (.iload_n 1, 1) := by decide +kernel
theorem dX9_takes_54 : decode cX9_takes 54 = .ok (.imul, 1) := by decide +kernel
theorem dX9_takes_55 : decode cX9_takes 55 = .ok (.iadd, 1) := by decide +kernel
theorem dX9_takes_56 : decode cX9_takes 56 = .ok (.iload_n 3, 1) := by decide +kernel
theorem dX9_takes_57 : decode cX9_takes 57 = .ok (.iadd, 1) := by decide +kernel
theorem dX9_takes_58 : decode cX9_takes 58 = .ok (.aload_n 0, 1) := by decide +kernel
theorem dX9_takes_59 : decode cX9_takes 59 = .ok (.getfield 7, 3) := by decide +kernel
theorem dX9_takes_62 : decode cX9_takes 62 = .ok (.sipush 244, 3) := by decide +kernel
theorem dX9_takes_65 : decode cX9_takes 65 = .ok (.bipush 8, 2) := by decide +kernel
theorem dX9_takes_67 : decode cX9_takes 67 = .ok (.iload_n 1, 1) := by decide +kernel
theorem dX9_takes_68 : decode cX9_takes 68 = .ok (.imul, 1) := by decide +kernel
theorem dX9_takes_69 : decode cX9_takes 69 = .ok (.iadd, 1) := by decide +kernel
theorem dX9_takes_70 : decode cX9_takes 70 = .ok (.iload_n 3, 1) := by decide +kernel
theorem dX9_takes_71 : decode cX9_takes 71 = .ok (.iadd, 1) := by decide +kernel
theorem dX9_takes_72 : decode cX9_takes 72 = .ok (.iconst 1, 1) := by decide +kernel
theorem dX9_takes_73 : decode cX9_takes 73 = .ok (.iadd, 1) := by decide +kernel
theorem dX9_takes_74 : decode cX9_takes 74 = .ok (.iaload, 1) := by decide +kernel
theorem dX9_takes_75 : decode cX9_takes 75 = .ok (.iastore, 1) := by decide +kernel
theorem dX9_takes_76 : decode cX9_takes 76 = .ok (.iinc 3 1, 3) := by decide +kernel
theorem dX9_takes_79 : decode cX9_takes 79 = .ok (.goto (-49), 3) := by decide +kernel
theorem dX9_takes_82 : decode cX9_takes 82 = .ok (.aload_n 0, 1) := by decide +kernel
theorem dX9_takes_83 : decode cX9_takes 83 = .ok (.getfield 7, 3) := by decide +kernel
theorem dX9_takes_86 : decode cX9_takes 86 = .ok (.sipush 372, 3) := by decide +kernel
theorem dX9_takes_89 : decode cX9_takes 89 = .ok (.iload_n 1, 1) := by decide +kernel
theorem dX9_takes_90 : decode cX9_takes 90 = .ok (.iadd, 1) := by decide +kernel
theorem dX9_takes_91 : decode cX9_takes 91 = .ok (.dup2, 1) := by decide +kernel
theorem dX9_takes_92 : decode cX9_takes 92 = .ok (.iaload, 1) := by decide +kernel
theorem dX9_takes_93 : decode cX9_takes 93 = .ok (.iload_n 2, 1) := by decide +kernel
theorem dX9_takes_94 : decode cX9_takes 94 = .ok (.isub, 1) := by decide +kernel
theorem dX9_takes_95 : decode cX9_takes 95 = .ok (.iastore, 1) := by decide +kernel
theorem dX9_takes_96 : decode cX9_takes 96 = .ok (.aload_n 0, 1) := by decide +kernel
theorem dX9_takes_97 : decode cX9_takes 97 = .ok (.getfield 7, 3) := by decide +kernel
theorem dX9_takes_100 : decode cX9_takes 100 = .ok (.sipush 388, 3) := by decide +kernel
theorem dX9_takes_103 : decode cX9_takes 103 = .ok (.iload_n 1, 1) := by decide +kernel
theorem dX9_takes_104 : decode cX9_takes 104 = .ok (.iadd, 1) := by decide +kernel
theorem dX9_takes_105 : decode cX9_takes 105 = .ok (.dup2, 1) := by decide +kernel
theorem dX9_takes_106 : decode cX9_takes 106 = .ok (.iaload, 1) := by decide +kernel
theorem dX9_takes_107 : decode cX9_takes 107 = .ok (.iload_n 2, 1) := by decide +kernel
theorem dX9_takes_108 : decode cX9_takes 108 = .ok (.iadd, 1) := by decide +kernel
theorem dX9_takes_109 : decode cX9_takes 109 = .ok (.iastore, 1) := by decide +kernel
theorem dX9_takes_110 : decode cX9_takes 110 = .ok (.iload_n 2, 1) := by decide +kernel
theorem dX9_takes_111 : decode cX9_takes 111 = .ok (.ireturn, 1) := by decide +kernel
theorem dX9_serve_0 : decode cX9_serve 0 = .ok (.iload_n 1, 1) := by decide +kernel
theorem dX9_serve_1 : decode cX9_serve 1 = .ok (.iconst 0, 1) := by decide +kernel
theorem dX9_serve_2 : decode cX9_serve 2 = .ok (.sipush 200, 3) := by decide +kernel
theorem dX9_serve_5 : decode cX9_serve 5 = .ok (.invokestatic 19, 3) := by decide +kernel
theorem dX9_serve_8 : decode cX9_serve 8 = .ok (.ifCond .ne 10, 3) := by decide +kernel
theorem dX9_serve_11 : decode cX9_serve 11 = .ok (.aload_n 0, 1) := by decide +kernel
theorem dX9_serve_12 : decode cX9_serve 12 = .ok (.bipush (-2), 2) := by decide +kernel
theorem dX9_serve_14 : decode cX9_serve 14 = .ok (.invokevirtual 28, 3) := by decide +kernel
theorem dX9_serve_17 : decode cX9_serve 17 = .ok (.ireturn, 1) := by decide +kernel
theorem dX9_serve_18 : decode cX9_serve 18 = .ok (.aload_n 0, 1) := by decide +kernel
theorem dX9_serve_19 : decode cX9_serve 19 = .ok (.invokevirtual 47, 3) := by decide +kernel
theorem dX9_serve_22 : decode cX9_serve 22 = .ok (.iload_n 1, 1) := by decide +kernel
theorem dX9_serve_23 : decode cX9_serve 23 = .ok (.istore_n 2, 1) := by decide +kernel
theorem dX9_serve_24 : decode cX9_serve 24 = .ok (.iconst 0, 1) := by decide +kernel
theorem dX9_serve_25 : decode cX9_serve 25 = .ok (.istore_n 3, 1) := by decide +kernel
theorem dX9_serve_26 : decode cX9_serve 26 = .ok (.iconst 0, 1) := by decide +kernel
theorem dX9_serve_27 : decode cX9_serve 27 = .ok (.istore 4, 2) := by decide +kernel
theorem dX9_serve_29 : decode cX9_serve 29 = .ok (.iload 4, 2) := by decide +kernel
theorem dX9_serve_31 : decode cX9_serve 31 = .ok (.ifCond .ne 164, 3) := by decide +kernel
theorem dX9_serve_34 : decode cX9_serve 34 = .ok (.aload_n 0, 1) := by decide +kernel
theorem dX9_serve_35 : decode cX9_serve 35 = .ok (.invokevirtual 123, 3) := by decide +kernel
theorem dX9_serve_38 : decode cX9_serve 38 = .ok (.ifCond .le 157, 3) := by decide +kernel
theorem dX9_serve_41 : decode cX9_serve 41 = .ok (.aload_n 0, 1) := by decide +kernel
theorem dX9_serve_42 : decode cX9_serve 42 = .ok (.getfield 7, 3) := by decide +kernel
theorem dX9_serve_45 : decode cX9_serve 45 = .ok (.bipush 6, 2) := by decide +kernel
theorem dX9_serve_47 : decode cX9_serve 47 = .ok (.iaload, 1) := by decide +kernel
theorem dX9_serve_48 : decode cX9_serve 48 = .ok (.istore 5, 2) := by decide +kernel
theorem dX9_serve_50 : decode cX9_serve 50 = .ok (.aload_n 0, 1) := by decide +kernel
theorem dX9_serve_51 : decode cX9_serve 51 = .ok (.getfield 7, 3) := by decide +kernel
theorem dX9_serve_54 : decode cX9_serve 54 = .ok (.sipush 244, 3) := by decide +kernel
theorem dX9_serve_57 : decode cX9_serve 57 = .ok (.bipush 8, 2) := by decide +kernel
theorem dX9_serve_59 : decode cX9_serve 59 = .ok (.iload 5, 2) := by decide +kernel
theorem dX9_serve_61 : decode cX9_serve 61 = .ok (.imul, 1) := by decide +kernel
theorem dX9_serve_62 : decode cX9_serve 62 = .ok (.iadd, 1) := by decide +kernel
theorem dX9_serve_63 : decode cX9_serve 63 = .ok (.iaload, 1) := by decide +kernel
theorem dX9_serve_64 : decode cX9_serve 64 = .ok (.istore 6, 2) := by decide +kernel
theorem dX9_serve_66 : decode cX9_serve 66 = .ok (.aload_n 0, 1) := by decide +kernel
theorem dX9_serve_67 : decode cX9_serve 67 = .ok (.getfield 7, 3) := by decide +kernel
theorem dX9_serve_70 : decode cX9_serve 70 = .ok (.sipush 228, 3) := by decide +kernel
theorem dX9_serve_73 : decode cX9_serve 73 = .ok (.iload 5, 2) := by decide +kernel
theorem dX9_serve_75 : decode cX9_serve 75 = .ok (.iadd, 1) := by decide +kernel
theorem dX9_serve_76 : decode cX9_serve 76 = .ok (.iaload, 1) := by decide +kernel
theorem dX9_serve_77 : decode cX9_serve 77 = .ok (.ifCond .le 36, 3) := by decide +kernel
theorem dX9_serve_80 : decode cX9_serve 80 = .ok (.aload_n 0, 1) := by decide +kernel
theorem dX9_serve_81 : decode cX9_serve 81 = .ok (.getfield 7, 3) := by decide +kernel
theorem dX9_serve_84 : decode cX9_serve 84 = .ok (.bipush 7, 2) := by decide +kernel
theorem dX9_serve_86 : decode cX9_serve 86 = .ok (.iaload, 1) := by decide +kernel
theorem dX9_serve_87 : decode cX9_serve 87 = .ok (.ifCond .ne 26, 3) := by decide +kernel
theorem dX9_serve_90 : decode cX9_serve 90 = .ok (.aload_n 0, 1) := by decide +kernel
theorem dX9_serve_91 : decode cX9_serve 91 = .ok (.getfield 7, 3) := by decide +kernel
theorem dX9_serve_94 : decode cX9_serve 94 = .ok (.sipush 372, 3) := by decide +kernel
theorem dX9_serve_97 : decode cX9_serve 97 = .ok (.iload 5, 2) := by decide +kernel
theorem dX9_serve_99 : decode cX9_serve 99 = .ok (.iadd, 1) := by decide +kernel
theorem dX9_serve_100 : decode cX9_serve 100 = .ok (.dup2, 1) := by decide +kernel
theorem dX9_serve_101 : decode cX9_serve 101 = .ok (.iaload, 1) := by decide +kernel
theorem dX9_serve_102 : decode cX9_serve 102 = .ok (.iconst 4, 1) := by decide +kernel
theorem dX9_serve_103 : decode cX9_serve 103 = .ok (.iadd, 1) := by decide +kernel
theorem dX9_serve_104 : decode cX9_serve 104 = .ok (.iastore, 1) := by decide +kernel
theorem dX9_serve_105 : decode cX9_serve 105 = .ok (.aload_n 0, 1) := by decide +kernel
theorem dX9_serve_106 : decode cX9_serve 106 = .ok (.getfield 7, 3) := by decide +kernel
theorem dX9_serve_109 : decode cX9_serve 109 = .ok (.bipush 7, 2) := by decide +kernel
theorem dX9_serve_111 : decode cX9_serve 111 = .ok (.iconst 1, 1) := by decide +kernel
theorem dX9_serve_112 : decode cX9_serve 112 = .ok (.iastore, 1) := by decide +kernel
theorem dX9_serve_113 : decode cX9_serve 113 = .ok (.aload_n 0, 1) := by decide +kernel
theorem dX9_serve_114 : decode cX9_serve 114 = .ok (.getfield 7, 3) := by decide +kernel
theorem dX9_serve_117 : decode cX9_serve 117 = .ok (.sipush 228, 3) := by decide +kernel
theorem dX9_serve_120 : decode cX9_serve 120 = .ok (.iload 5, 2) := by decide +kernel
theorem dX9_serve_122 : decode cX9_serve 122 = .ok (.iadd, 1) := by decide +kernel
theorem dX9_serve_123 : decode cX9_serve 123 = .ok (.iaload, 1) := by decide +kernel
theorem dX9_serve_124 : decode cX9_serve 124 = .ok (.ifCond .eq 19, 3) := by decide +kernel
theorem dX9_serve_127 : decode cX9_serve 127 = .ok (.iload 6, 2) := by decide +kernel
theorem dX9_serve_129 : decode cX9_serve 129 = .ok (.aload_n 0, 1) := by decide +kernel
theorem dX9_serve_130 : decode cX9_serve 130 = .ok (.getfield 7, 3) := by decide +kernel
theorem dX9_serve_133 : decode cX9_serve 133 = .ok (.sipush 372, 3) := by decide +kernel
theorem dX9_serve_136 : decode cX9_serve 136 = .ok (.iload 5, 2) := by decide +kernel
theorem dX9_serve_138 : decode cX9_serve 138 = .ok (.iadd, 1) := by decide +kernel
theorem dX9_serve_139 : decode cX9_serve 139 = .ok (.iaload, 1) := by decide +kernel
theorem dX9_serve_140 : decode cX9_serve 140 = .ok (.if_icmp .le 10, 3) := by decide +kernel
theorem dX9_serve_143 : decode cX9_serve 143 = .ok (.aload_n 0, 1) := by decide +kernel
theorem dX9_serve_144 : decode cX9_serve 144 = .ok (.invokevirtual 126, 3) := by decide +kernel
theorem dX9_serve_147 : decode cX9_serve 147 = .ok (.goto 45, 3) := by decide +kernel
theorem dX9_serve_150 : decode cX9_serve 150 = .ok (.iload 6, 2) := by decide +kernel
theorem dX9_serve_152 : decode cX9_serve 152 = .ok (.iload_n 2, 1) := by decide +kernel
theorem dX9_serve_153 : decode cX9_serve 153 = .ok (.if_icmp .le 9, 3) := by decide +kernel
theorem dX9_serve_156 : decode cX9_serve 156 = .ok (.iconst 1, 1) := by decide +kernel
theorem dX9_serve_157 : decode cX9_serve 157 = .ok (.istore 4, 2) := by decide +kernel
theorem dX9_serve_159 : decode cX9_serve 159 = .ok (.goto 33, 3) := by decide +kernel
theorem dX9_serve_162 : decode cX9_serve 162 = .ok (.iload_n 2, 1) := by decide +kernel
theorem dX9_serve_163 : decode cX9_serve 163 = .ok (.aload_n 0, 1) := by decide +kernel
theorem dX9_serve_164 : decode cX9_serve 164 = .ok (.iload 5, 2) := by decide +kernel
theorem dX9_serve_166 : decode cX9_serve 166 = .ok (.invokevirtual 129, 3) := by decide +kernel
theorem dX9_serve_169 : decode cX9_serve 169 = .ok (.isub, 1) := by decide +kernel
theorem dX9_serve_170 : decode cX9_serve 170 = .ok (.istore_n 2, 1) := by decide +kernel
theorem dX9_serve_171 : decode cX9_serve 171 = .ok (.iinc 3 1, 3) := by decide +kernel
theorem dX9_serve_174 : decode cX9_serve 174 = .ok (.aload_n 0, 1) := by decide +kernel
theorem dX9_serve_175 : decode cX9_serve 175 = .ok (.getfield 7, 3) := by decide +kernel
theorem dX9_serve_178 : decode cX9_serve 178 = .ok (.sipush 228, 3) := by decide +kernel
theorem dX9_serve_181 : decode cX9_serve 181 = .ok (.iload 5, 2) := by decide +kernel
theorem dX9_serve_183 : decode cX9_serve 183 = .ok (.iadd, 1) := by decide +kernel
theorem dX9_serve_184 : decode cX9_serve 184 = .ok (.iaload, 1) := by decide +kernel
theorem dX9_serve_185 : decode cX9_serve 185 = .ok (.ifCond .ne 7, 3) := by decide +kernel
theorem dX9_serve_188 : decode cX9_serve 188 = .ok (.aload_n 0, 1) := by decide +kernel
theorem dX9_serve_189 : decode cX9_serve 189 = .ok (.invokevirtual 126, 3) := by decide +kernel
theorem dX9_serve_192 : decode cX9_serve 192 = .ok (.goto (-163), 3) := by decide +kernel
theorem dX9_serve_195 : decode cX9_serve 195 = .ok (.iload_n 3, 1) := by decide +kernel
theorem dX9_serve_196 : decode cX9_serve 196 = .ok (.ireturn, 1) := by decide +kernel
theorem dX9_queued_0 : decode cX9_queued 0 = .ok (.iload_n 1, 1) := by decide +kernel
theorem dX9_queued_1 : decode cX9_queued 1 = .ok (.invokestatic 120, 3) := by decide +kernel
theorem dX9_queued_4 : decode cX9_queued 4 = .ok (.ifCond .eq 16, 3) := by decide +kernel
theorem dX9_queued_7 : decode cX9_queued 7 = .ok (.aload_n 0, 1) := by decide +kernel
theorem dX9_queued_8 : decode cX9_queued 8 = .ok (.getfield 7, 3) := by decide +kernel
theorem dX9_queued_11 : decode cX9_queued 11 = .ok (.sipush 228, 3) := by decide +kernel
theorem dX9_queued_14 : decode cX9_queued 14 = .ok (.iload_n 1, 1) := by decide +kernel
theorem dX9_queued_15 : decode cX9_queued 15 = .ok (.iadd, 1) := by decide +kernel
theorem dX9_queued_16 : decode cX9_queued 16 = .ok (.iaload, 1) := by decide +kernel
theorem dX9_queued_17 : decode cX9_queued 17 = .ok (.goto 9, 3) := by decide +kernel
theorem dX9_queued_20 : decode cX9_queued 20 = .ok (.aload_n 0, 1) := by decide +kernel
theorem dX9_queued_21 : decode cX9_queued 21 = .ok (.bipush (-2), 2) := by decide +kernel
theorem dX9_queued_23 : decode cX9_queued 23 = .ok (.invokevirtual 28, 3) := by decide +kernel
theorem dX9_queued_26 : decode cX9_queued 26 = .ok (.ireturn, 1) := by decide +kernel
theorem dX9_credit_0 : decode cX9_credit 0 = .ok (.iload_n 1, 1) := by decide +kernel
theorem dX9_credit_1 : decode cX9_credit 1 = .ok (.invokestatic 120, 3) := by decide +kernel
theorem dX9_credit_4 : decode cX9_credit 4 = .ok (.ifCond .eq 16, 3) := by decide +kernel
theorem dX9_credit_7 : decode cX9_credit 7 = .ok (.aload_n 0, 1) := by decide +kernel
theorem dX9_credit_8 : decode cX9_credit 8 = .ok (.getfield 7, 3) := by decide +kernel
theorem dX9_credit_11 : decode cX9_credit 11 = .ok (.sipush 372, 3) := by decide +kernel
theorem dX9_credit_14 : decode cX9_credit 14 = .ok (.iload_n 1, 1) := by decide +kernel
theorem dX9_credit_15 : decode cX9_credit 15 = .ok (.iadd, 1) := by decide +kernel
theorem dX9_credit_16 : decode cX9_credit 16 = .ok (.iaload, 1) := by decide +kernel
theorem dX9_credit_17 : decode cX9_credit 17 = .ok (.goto 9, 3) := by decide +kernel
theorem dX9_credit_20 : decode cX9_credit 20 = .ok (.aload_n 0, 1) := by decide +kernel
theorem dX9_credit_21 : decode cX9_credit 21 = .ok (.bipush (-2), 2) := by decide +kernel
theorem dX9_credit_23 : decode cX9_credit 23 = .ok (.invokevirtual 28, 3) := by decide +kernel
theorem dX9_credit_26 : decode cX9_credit 26 = .ok (.ireturn, 1) := by decide +kernel
theorem dX9_served_0 : decode cX9_served 0 = .ok (.iload_n 1, 1) := by decide +kernel
theorem dX9_served_1 : decode cX9_served 1 = .ok (.invokestatic 120, 3) := by decide +kernel
theorem dX9_served_4 : decode cX9_served 4 = .ok (.ifCond .eq 16, 3) := by decide +kernel
theorem dX9_served_7 : decode cX9_served 7 = .ok (.aload_n 0, 1) := by decide +kernel
theorem dX9_served_8 : decode cX9_served 8 = .ok (.getfield 7, 3) := by decide +kernel
theorem dX9_served_11 : decode cX9_served 11 = .ok (.sipush 388, 3) := by decide +kernel
theorem dX9_served_14 : decode cX9_served 14 = .ok (.iload_n 1, 1) := by decide +kernel
theorem dX9_served_15 : decode cX9_served 15 = .ok (.iadd, 1) := by decide +kernel
theorem dX9_served_16 : decode cX9_served 16 = .ok (.iaload, 1) := by decide +kernel
theorem dX9_served_17 : decode cX9_served 17 = .ok (.goto 9, 3) := by decide +kernel
theorem dX9_served_20 : decode cX9_served 20 = .ok (.aload_n 0, 1) := by decide +kernel
theorem dX9_served_21 : decode cX9_served 21 = .ok (.bipush (-2), 2) := by decide +kernel
theorem dX9_served_23 : decode cX9_served 23 = .ok (.invokevirtual 28, 3) := by decide +kernel
theorem dX9_served_26 : decode cX9_served 26 = .ok (.ireturn, 1) := by decide +kernel
theorem dX9_quotient_0 : decode cX9_quotient 0 = .ok (.lload_n 0, 1) := by decide +kernel
theorem dX9_quotient_1 : decode cX9_quotient 1 = .ok (.lconst 0, 1) := by decide +kernel
theorem dX9_quotient_2 : decode cX9_quotient 2 = .ok (.lcmp, 1) := by decide +kernel
theorem dX9_quotient_3 : decode cX9_quotient 3 = .ok (.ifCond .ne 5, 3) := by decide +kernel
theorem dX9_quotient_6 : decode cX9_quotient 6 = .ok (.iconst 0, 1) := by decide +kernel
theorem dX9_quotient_7 : decode cX9_quotient 7 = .ok (.ireturn, 1) := by decide +kernel
theorem dX9_quotient_8 : decode cX9_quotient 8 = .ok (.bipush 127, 2) := by decide +kernel
theorem dX9_quotient_10 : decode cX9_quotient 10 = .ok (.istore 4, 2) := by decide +kernel
theorem dX9_quotient_12 : decode cX9_quotient 12 = .ok (.lload_n 0, 1) := by decide +kernel
theorem dX9_quotient_13 : decode cX9_quotient 13 = .ok (.lstore 5, 2) := by decide +kernel
theorem dX9_quotient_15 : decode cX9_quotient 15 = .ok (.lload 5, 2) := by decide +kernel
theorem dX9_quotient_17 : decode cX9_quotient 17 = .ok (.lload_n 2, 1) := by decide +kernel
theorem dX9_quotient_18 : decode cX9_quotient 18 = .ok (.lcmp, 1) := by decide +kernel
theorem dX9_quotient_19 : decode cX9_quotient 19 = .ok (.ifCond .ge 17, 3) := by decide +kernel
theorem dX9_quotient_22 : decode cX9_quotient 22 = .ok (.lload 5, 2) := by decide +kernel
theorem dX9_quotient_24 : decode cX9_quotient 24 = .ok (.ldc2_w 64, 3) := by decide +kernel
theorem dX9_quotient_27 : decode cX9_quotient 27 = .ok (.lmul, 1) := by decide +kernel
theorem dX9_quotient_28 : decode cX9_quotient 28 = .ok (.lstore 5, 2) := by decide +kernel
theorem dX9_quotient_30 : decode cX9_quotient 30 = .ok (.iinc 4 (-1), 3) := by decide +kernel
theorem dX9_quotient_33 : decode cX9_quotient 33 = .ok (.goto (-18), 3) := by decide +kernel
theorem dX9_quotient_36 : decode cX9_quotient 36 = .ok (.lload 5, 2) := by decide +kernel
theorem dX9_quotient_38 : decode cX9_quotient 38 = .ok (.bipush 23, 2) := by decide +kernel
theorem dX9_quotient_40 : decode cX9_quotient 40 = .ok (.lshl, 1) := by decide +kernel
theorem dX9_quotient_41 : decode cX9_quotient 41 = .ok (.lload_n 2, 1) := by decide +kernel
theorem dX9_quotient_42 : decode cX9_quotient 42 = .ok (.ldiv, 1) := by decide +kernel
theorem dX9_quotient_43 : decode cX9_quotient 43 = .ok (.lstore 7, 2) := by decide +kernel
theorem dX9_quotient_45 : decode cX9_quotient 45 = .ok (.ldc2_w 64, 3) := by decide +kernel
theorem dX9_quotient_48 : decode cX9_quotient 48 = .ok (.lload 5, 2) := by decide +kernel
theorem dX9_quotient_50 : decode cX9_quotient 50 = .ok (.bipush 23, 2) := by decide +kernel
theorem dX9_quotient_52 : decode cX9_quotient 52 = .ok (.lshl, 1) := by decide +kernel
theorem dX9_quotient_53 : decode cX9_quotient 53 = .ok (.lload_n 2, 1) := by decide +kernel
theorem dX9_quotient_54 : decode cX9_quotient 54 = .ok (.lrem, 1) := by decide +kernel
theorem dX9_quotient_55 : decode cX9_quotient 55 = .ok (.lmul, 1) := by decide +kernel
theorem dX9_quotient_56 : decode cX9_quotient 56 = .ok (.lstore 9, 2) := by decide +kernel
theorem dX9_quotient_58 : decode cX9_quotient 58 = .ok (.lload 7, 2) := by decide +kernel
theorem dX9_quotient_60 : decode cX9_quotient 60 = .ok (.lload 9, 2) := by decide +kernel
theorem dX9_quotient_62 : decode cX9_quotient 62 = .ok (.lload_n 2, 1) := by decide +kernel
theorem dX9_quotient_63 : decode cX9_quotient 63 = .ok (.lcmp, 1) := by decide +kernel
theorem dX9_quotient_64 : decode cX9_quotient 64 = .ok (.ifCond .gt 21, 3) := by decide +kernel
theorem dX9_quotient_67 : decode cX9_quotient 67 = .ok (.lload 9, 2) := by decide +kernel
theorem dX9_quotient_69 : decode cX9_quotient 69 = .ok (.lload_n 2, 1) := by decide +kernel
theorem dX9_quotient_70 : decode cX9_quotient 70 = .ok (.lcmp, 1) := by decide +kernel
theorem dX9_quotient_71 : decode cX9_quotient 71 = .ok (.ifCond .ne 18, 3) := by decide +kernel
theorem dX9_quotient_74 : decode cX9_quotient 74 = .ok (.lload 7, 2) := by decide +kernel
theorem dX9_quotient_76 : decode cX9_quotient 76 = .ok (.ldc2_w 64, 3) := by decide +kernel
theorem dX9_quotient_79 : decode cX9_quotient 79 = .ok (.lrem, 1) := by decide +kernel
theorem dX9_quotient_80 : decode cX9_quotient 80 = .ok (.lconst 1, 1) := by decide +kernel
theorem dX9_quotient_81 : decode cX9_quotient 81 = .ok (.lcmp, 1) := by decide +kernel
theorem dX9_quotient_82 : decode cX9_quotient 82 = .ok (.ifCond .ne 7, 3) := by decide +kernel
theorem dX9_quotient_85 : decode cX9_quotient 85 = .ok (.lconst 1, 1) := by decide +kernel
theorem dX9_quotient_86 : decode cX9_quotient 86 = .ok (.goto 4, 3) := by decide +kernel
theorem dX9_quotient_89 : decode cX9_quotient 89 = .ok (.lconst 0, 1) := by decide +kernel
theorem dX9_quotient_90 : decode cX9_quotient 90 = .ok (.ladd, 1) := by decide +kernel
theorem dX9_quotient_91 : decode cX9_quotient 91 = .ok (.lstore 7, 2) := by decide +kernel
theorem dX9_quotient_93 : decode cX9_quotient 93 = .ok (.iload 4, 2) := by decide +kernel
theorem dX9_quotient_95 : decode cX9_quotient 95 = .ok (.i2l, 1) := by decide +kernel
theorem dX9_quotient_96 : decode cX9_quotient 96 = .ok (.bipush 23, 2) := by decide +kernel
theorem dX9_quotient_98 : decode cX9_quotient 98 = .ok (.lshl, 1) := by decide +kernel
theorem dX9_quotient_99 : decode cX9_quotient 99 = .ok (.lload 7, 2) := by decide +kernel
theorem dX9_quotient_101 : decode cX9_quotient 101 = .ok (.ladd, 1) := by decide +kernel
theorem dX9_quotient_102 : decode cX9_quotient 102 = .ok (.ldc2_w 132, 3) := by decide +kernel
theorem dX9_quotient_105 : decode cX9_quotient 105 = .ok (.lsub, 1) := by decide +kernel
theorem dX9_quotient_106 : decode cX9_quotient 106 = .ok (.l2i, 1) := by decide +kernel
theorem dX9_quotient_107 : decode cX9_quotient 107 = .ok (.ireturn, 1) := by decide +kernel
theorem dX9_shareBits_0 : decode cX9_shareBits 0 = .ok (.iload_n 1, 1) := by decide +kernel
theorem dX9_shareBits_1 : decode cX9_shareBits 1 = .ok (.invokestatic 120, 3) := by decide +kernel
theorem dX9_shareBits_4 : decode cX9_shareBits 4 = .ok (.ifCond .ne 10, 3) := by decide +kernel
theorem dX9_shareBits_7 : decode cX9_shareBits 7 = .ok (.aload_n 0, 1) := by decide +kernel
theorem dX9_shareBits_8 : decode cX9_shareBits 8 = .ok (.bipush (-2), 2) := by decide +kernel
theorem dX9_shareBits_10 : decode cX9_shareBits 10 = .ok (.invokevirtual 28, 3) := by decide +kernel
theorem dX9_shareBits_13 : decode cX9_shareBits 13 = .ok (.ireturn, 1) := by decide +kernel
theorem dX9_shareBits_14 : decode cX9_shareBits 14 = .ok (.iconst 0, 1) := by decide +kernel
theorem dX9_shareBits_15 : decode cX9_shareBits 15 = .ok (.istore_n 2, 1) := by decide +kernel
theorem dX9_shareBits_16 : decode cX9_shareBits 16 = .ok (.iconst 0, 1) := by decide +kernel
theorem dX9_shareBits_17 : decode cX9_shareBits 17 = .ok (.istore_n 3, 1) := by decide +kernel
theorem dX9_shareBits_18 : decode cX9_shareBits 18 = .ok (.iload_n 3, 1) := by decide +kernel
theorem dX9_shareBits_19 : decode cX9_shareBits 19 = .ok (.bipush 16, 2) := by decide +kernel
theorem dX9_shareBits_21 : decode cX9_shareBits 21 = .ok (.if_icmp .ge 22, 3) := by decide +kernel
theorem dX9_shareBits_24 : decode cX9_shareBits 24 = .ok (.iload_n 2, 1) := by decide +kernel
theorem dX9_shareBits_25 : decode cX9_shareBits 25 = .ok (.aload_n 0, 1) := by decide +kernel
theorem dX9_shareBits_26 : decode cX9_shareBits 26 = .ok (.getfield 7, 3) := by decide +kernel
theorem dX9_shareBits_29 : decode cX9_shareBits 29 = .ok (.sipush 388, 3) := by decide +kernel
theorem dX9_shareBits_32 : decode cX9_shareBits 32 = .ok (.iload_n 3, 1) := by decide +kernel
theorem dX9_shareBits_33 : decode cX9_shareBits 33 = .ok (.iadd, 1) := by decide +kernel
theorem dX9_shareBits_34 : decode cX9_shareBits 34 = .ok (.iaload, 1) := by decide +kernel
theorem dX9_shareBits_35 : decode cX9_shareBits 35 = .ok (.iadd, 1) := by decide +kernel
theorem dX9_shareBits_36 : decode cX9_shareBits 36 = .ok (.istore_n 2, 1) := by decide +kernel
theorem dX9_shareBits_37 : decode cX9_shareBits 37 = .ok (.iinc 3 1, 3) := by decide +kernel
theorem dX9_shareBits_40 : decode cX9_shareBits 40 = .ok (.goto (-22), 3) := by decide +kernel
theorem dX9_shareBits_43 : decode cX9_shareBits 43 = .ok (.iload_n 2, 1) := by decide +kernel
theorem dX9_shareBits_44 : decode cX9_shareBits 44 = .ok (.ifCond .ne 7, 3) := by decide +kernel
theorem dX9_shareBits_47 : decode cX9_shareBits 47 = .ok (.iconst 0, 1) := by decide +kernel
theorem dX9_shareBits_48 : decode cX9_shareBits 48 = .ok (.goto 19, 3) := by decide +kernel
theorem dX9_shareBits_51 : decode cX9_shareBits 51 = .ok (.aload_n 0, 1) := by decide +kernel
theorem dX9_shareBits_52 : decode cX9_shareBits 52 = .ok (.getfield 7, 3) := by decide +kernel
theorem dX9_shareBits_55 : decode cX9_shareBits 55 = .ok (.sipush 388, 3) := by decide +kernel
theorem dX9_shareBits_58 : decode cX9_shareBits 58 = .ok (.iload_n 1, 1) := by decide +kernel
theorem dX9_shareBits_59 : decode cX9_shareBits 59 = .ok (.iadd, 1) := by decide +kernel
theorem dX9_shareBits_60 : decode cX9_shareBits 60 = .ok (.iaload, 1) := by decide +kernel
theorem dX9_shareBits_61 : decode cX9_shareBits 61 = .ok (.i2l, 1) := by decide +kernel
theorem dX9_shareBits_62 : decode cX9_shareBits 62 = .ok (.iload_n 2, 1) := by decide +kernel
theorem dX9_shareBits_63 : decode cX9_shareBits 63 = .ok (.i2l, 1) := by decide +kernel
theorem dX9_shareBits_64 : decode cX9_shareBits 64 = .ok (.invokestatic 134, 3) := by decide +kernel
theorem dX9_shareBits_67 : decode cX9_shareBits 67 = .ok (.ireturn, 1) := by decide +kernel
theorem dX9_errorCount_0 : decode cX9_errorCount 0 = .ok (.iload_n 1, 1) := by decide +kernel
theorem dX9_errorCount_1 : decode cX9_errorCount 1 = .ok (.bipush (-10), 2) := by decide +kernel
theorem dX9_errorCount_3 : decode cX9_errorCount 3 = .ok (.bipush (-2), 2) := by decide +kernel
theorem dX9_errorCount_5 : decode cX9_errorCount 5 = .ok (.invokestatic 19, 3) := by decide +kernel
theorem dX9_errorCount_8 : decode cX9_errorCount 8 = .ok (.ifCond .eq 15, 3) := by decide +kernel
theorem dX9_errorCount_11 : decode cX9_errorCount 11 = .ok (.aload_n 0, 1) := by decide +kernel
theorem dX9_errorCount_12 : decode cX9_errorCount 12 = .ok (.getfield 16, 3) := by decide +kernel
theorem dX9_errorCount_15 : decode cX9_errorCount 15 = .ok (.bipush (-2), 2) := by decide +kernel
theorem dX9_errorCount_17 : decode cX9_errorCount 17 = .ok (.iload_n 1, 1) := by decide +kernel
theorem dX9_errorCount_18 : decode cX9_errorCount 18 = .ok (.isub, 1) := by decide +kernel
theorem dX9_errorCount_19 : decode cX9_errorCount 19 = .ok (.iaload, 1) := by decide +kernel
theorem dX9_errorCount_20 : decode cX9_errorCount 20 = .ok (.goto 9, 3) := by decide +kernel
theorem dX9_errorCount_23 : decode cX9_errorCount 23 = .ok (.aload_n 0, 1) := by decide +kernel
theorem dX9_errorCount_24 : decode cX9_errorCount 24 = .ok (.bipush (-2), 2) := by decide +kernel
theorem dX9_errorCount_26 : decode cX9_errorCount 26 = .ok (.invokevirtual 28, 3) := by decide +kernel
theorem dX9_errorCount_29 : decode cX9_errorCount 29 = .ok (.ireturn, 1) := by decide +kernel
theorem dX9_mix_0 : decode cX9_mix 0 = .ok (.aload_n 0, 1) := by decide +kernel
theorem dX9_mix_1 : decode cX9_mix 1 = .ok (.ldc2_w 138, 3) := by decide +kernel
theorem dX9_mix_4 : decode cX9_mix 4 = .ok (.aload_n 0, 1) := by decide +kernel
theorem dX9_mix_5 : decode cX9_mix 5 = .ok (.getfield 140, 3) := by decide +kernel
theorem dX9_mix_8 : decode cX9_mix 8 = .ok (.lmul, 1) := by decide +kernel
theorem dX9_mix_9 : decode cX9_mix 9 = .ok (.iload_n 1, 1) := by decide +kernel
theorem dX9_mix_10 : decode cX9_mix 10 = .ok (.i2l, 1) := by decide +kernel
theorem dX9_mix_11 : decode cX9_mix 11 = .ok (.ladd, 1) := by decide +kernel
theorem dX9_mix_12 : decode cX9_mix 12 = .ok (.putfield 140, 3) := by decide +kernel
theorem dX9_mix_15 : decode cX9_mix 15 = .ok (.return_, 1) := by decide +kernel
theorem dX9_mixClient_0 : decode cX9_mixClient 0 = .ok (.aload_n 0, 1) := by decide +kernel
theorem dX9_mixClient_1 : decode cX9_mixClient 1 = .ok (.aload_n 0, 1) := by decide +kernel
theorem dX9_mixClient_2 : decode cX9_mixClient 2 = .ok (.getfield 7, 3) := by decide +kernel
theorem dX9_mixClient_5 : decode cX9_mixClient 5 = .ok (.sipush 228, 3) := by decide +kernel
theorem dX9_mixClient_8 : decode cX9_mixClient 8 = .ok (.iload_n 1, 1) := by decide +kernel
theorem dX9_mixClient_9 : decode cX9_mixClient 9 = .ok (.iadd, 1) := by decide +kernel
theorem dX9_mixClient_10 : decode cX9_mixClient 10 = .ok (.iaload, 1) := by decide +kernel
theorem dX9_mixClient_11 : decode cX9_mixClient 11 = .ok (.invokevirtual 144, 3) := by decide +kernel
theorem dX9_mixClient_14 : decode cX9_mixClient 14 = .ok (.iconst 0, 1) := by decide +kernel
theorem dX9_mixClient_15 : decode cX9_mixClient 15 = .ok (.istore_n 2, 1) := by decide +kernel
theorem dX9_mixClient_16 : decode cX9_mixClient 16 = .ok (.iload_n 2, 1) := by decide +kernel
theorem dX9_mixClient_17 : decode cX9_mixClient 17 = .ok (.aload_n 0, 1) := by decide +kernel
theorem dX9_mixClient_18 : decode cX9_mixClient 18 = .ok (.getfield 7, 3) := by decide +kernel
theorem dX9_mixClient_21 : decode cX9_mixClient 21 = .ok (.sipush 228, 3) := by decide +kernel
theorem dX9_mixClient_24 : decode cX9_mixClient 24 = .ok (.iload_n 1, 1) := by decide +kernel
theorem dX9_mixClient_25 : decode cX9_mixClient 25 = .ok (.iadd, 1) := by decide +kernel
theorem dX9_mixClient_26 : decode cX9_mixClient 26 = .ok (.iaload, 1) := by decide +kernel
theorem dX9_mixClient_27 : decode cX9_mixClient 27 = .ok (.if_icmp .ge 28, 3) := by decide +kernel
theorem dX9_mixClient_30 : decode cX9_mixClient 30 = .ok (.aload_n 0, 1) := by decide +kernel
theorem dX9_mixClient_31 : decode cX9_mixClient 31 = .ok (.aload_n 0, 1) := by decide +kernel
theorem dX9_mixClient_32 : decode cX9_mixClient 32 = .ok (.getfield 7, 3) := by decide +kernel
theorem dX9_mixClient_35 : decode cX9_mixClient 35 = .ok (.sipush 244, 3) := by decide +kernel
theorem dX9_mixClient_38 : decode cX9_mixClient 38 = .ok (.bipush 8, 2) := by decide +kernel
theorem dX9_mixClient_40 : decode cX9_mixClient 40 = .ok (.iload_n 1, 1) := by decide +kernel
theorem dX9_mixClient_41 : decode cX9_mixClient 41 = .ok (.imul, 1) := by decide +kernel
theorem dX9_mixClient_42 : decode cX9_mixClient 42 = .ok (.iadd, 1) := by decide +kernel
theorem dX9_mixClient_43 : decode cX9_mixClient 43 = .ok (.iload_n 2, 1) := by decide +kernel
theorem dX9_mixClient_44 : decode cX9_mixClient 44 = .ok (.iadd, 1) := by decide +kernel
theorem dX9_mixClient_45 : decode cX9_mixClient 45 = .ok (.iaload, 1) := by decide +kernel
theorem dX9_mixClient_46 : decode cX9_mixClient 46 = .ok (.invokevirtual 144, 3) := by decide +kernel
theorem dX9_mixClient_49 : decode cX9_mixClient 49 = .ok (.iinc 2 1, 3) := by decide +kernel
theorem dX9_mixClient_52 : decode cX9_mixClient 52 = .ok (.goto (-36), 3) := by decide +kernel
theorem dX9_mixClient_55 : decode cX9_mixClient 55 = .ok (.aload_n 0, 1) := by decide +kernel
theorem dX9_mixClient_56 : decode cX9_mixClient 56 = .ok (.aload_n 0, 1) := by decide +kernel
theorem dX9_mixClient_57 : decode cX9_mixClient 57 = .ok (.getfield 7, 3) := by decide +kernel
theorem dX9_mixClient_60 : decode cX9_mixClient 60 = .ok (.sipush 372, 3) := by decide +kernel
theorem dX9_mixClient_63 : decode cX9_mixClient 63 = .ok (.iload_n 1, 1) := by decide +kernel
theorem dX9_mixClient_64 : decode cX9_mixClient 64 = .ok (.iadd, 1) := by decide +kernel
theorem dX9_mixClient_65 : decode cX9_mixClient 65 = .ok (.iaload, 1) := by decide +kernel
theorem dX9_mixClient_66 : decode cX9_mixClient 66 = .ok (.invokevirtual 144, 3) := by decide +kernel
theorem dX9_mixClient_69 : decode cX9_mixClient 69 = .ok (.aload_n 0, 1) := by decide +kernel
theorem dX9_mixClient_70 : decode cX9_mixClient 70 = .ok (.aload_n 0, 1) := by decide +kernel
theorem dX9_mixClient_71 : decode cX9_mixClient 71 = .ok (.getfield 7, 3) := by decide +kernel
theorem dX9_mixClient_74 : decode cX9_mixClient 74 = .ok (.sipush 388, 3) := by decide +kernel
theorem dX9_mixClient_77 : decode cX9_mixClient 77 = .ok (.iload_n 1, 1) := by decide +kernel
theorem dX9_mixClient_78 : decode cX9_mixClient 78 = .ok (.iadd, 1) := by decide +kernel
theorem dX9_mixClient_79 : decode cX9_mixClient 79 = .ok (.iaload, 1) := by decide +kernel
theorem dX9_mixClient_80 : decode cX9_mixClient 80 = .ok (.invokevirtual 144, 3) := by decide +kernel
theorem dX9_mixClient_83 : decode cX9_mixClient 83 = .ok (.return_, 1) := by decide +kernel
theorem dX9_digest_0 : decode cX9_digest 0 = .ok (.aload_n 0, 1) := by decide +kernel
theorem dX9_digest_1 : decode cX9_digest 1 = .ok (.ldc2_w 148, 3) := by decide +kernel
theorem dX9_digest_4 : decode cX9_digest 4 = .ok (.putfield 140, 3) := by decide +kernel
theorem dX9_digest_7 : decode cX9_digest 7 = .ok (.iconst 0, 1) := by decide +kernel
theorem dX9_digest_8 : decode cX9_digest 8 = .ok (.istore_n 1, 1) := by decide +kernel
theorem dX9_digest_9 : decode cX9_digest 9 = .ok (.iload_n 1, 1) := by decide +kernel
theorem dX9_digest_10 : decode cX9_digest 10 = .ok (.bipush 9, 2) := by decide +kernel
theorem dX9_digest_12 : decode cX9_digest 12 = .ok (.if_icmp .ge 19, 3) := by decide +kernel
theorem dX9_digest_15 : decode cX9_digest 15 = .ok (.aload_n 0, 1) := by decide +kernel
theorem dX9_digest_16 : decode cX9_digest 16 = .ok (.aload_n 0, 1) := by decide +kernel
theorem dX9_digest_17 : decode cX9_digest 17 = .ok (.getfield 16, 3) := by decide +kernel
theorem dX9_digest_20 : decode cX9_digest 20 = .ok (.iload_n 1, 1) := by decide +kernel
theorem dX9_digest_21 : decode cX9_digest 21 = .ok (.iaload, 1) := by decide +kernel
theorem dX9_digest_22 : decode cX9_digest 22 = .ok (.invokevirtual 144, 3) := by decide +kernel
theorem dX9_digest_25 : decode cX9_digest 25 = .ok (.iinc 1 1, 3) := by decide +kernel
theorem dX9_digest_28 : decode cX9_digest 28 = .ok (.goto (-19), 3) := by decide +kernel
theorem dX9_digest_31 : decode cX9_digest 31 = .ok (.aload_n 0, 1) := by decide +kernel
theorem dX9_digest_32 : decode cX9_digest 32 = .ok (.aload_n 0, 1) := by decide +kernel
theorem dX9_digest_33 : decode cX9_digest 33 = .ok (.getfield 7, 3) := by decide +kernel
theorem dX9_digest_36 : decode cX9_digest 36 = .ok (.iconst 0, 1) := by decide +kernel
theorem dX9_digest_37 : decode cX9_digest 37 = .ok (.iaload, 1) := by decide +kernel
theorem dX9_digest_38 : decode cX9_digest 38 = .ok (.invokevirtual 144, 3) := by decide +kernel
theorem dX9_digest_41 : decode cX9_digest 41 = .ok (.aload_n 0, 1) := by decide +kernel
theorem dX9_digest_42 : decode cX9_digest 42 = .ok (.aload_n 0, 1) := by decide +kernel
theorem dX9_digest_43 : decode cX9_digest 43 = .ok (.getfield 7, 3) := by decide +kernel
theorem dX9_digest_46 : decode cX9_digest 46 = .ok (.iconst 1, 1) := by decide +kernel
theorem dX9_digest_47 : decode cX9_digest 47 = .ok (.iaload, 1) := by decide +kernel
theorem dX9_digest_48 : decode cX9_digest 48 = .ok (.invokevirtual 144, 3) := by decide +kernel
theorem dX9_digest_51 : decode cX9_digest 51 = .ok (.aload_n 0, 1) := by decide +kernel
theorem dX9_digest_52 : decode cX9_digest 52 = .ok (.aload_n 0, 1) := by decide +kernel
theorem dX9_digest_53 : decode cX9_digest 53 = .ok (.getfield 7, 3) := by decide +kernel
theorem dX9_digest_56 : decode cX9_digest 56 = .ok (.iconst 2, 1) := by decide +kernel
theorem dX9_digest_57 : decode cX9_digest 57 = .ok (.iaload, 1) := by decide +kernel
theorem dX9_digest_58 : decode cX9_digest 58 = .ok (.invokevirtual 144, 3) := by decide +kernel
theorem dX9_digest_61 : decode cX9_digest 61 = .ok (.aload_n 0, 1) := by decide +kernel
theorem dX9_digest_62 : decode cX9_digest 62 = .ok (.aload_n 0, 1) := by decide +kernel
theorem dX9_digest_63 : decode cX9_digest 63 = .ok (.invokevirtual 66, 3) := by decide +kernel
theorem dX9_digest_66 : decode cX9_digest 66 = .ok (.invokevirtual 144, 3) := by decide +kernel
theorem dX9_digest_69 : decode cX9_digest 69 = .ok (.aload_n 0, 1) := by decide +kernel
theorem dX9_digest_70 : decode cX9_digest 70 = .ok (.aload_n 0, 1) := by decide +kernel
theorem dX9_digest_71 : decode cX9_digest 71 = .ok (.invokevirtual 93, 3) := by decide +kernel
theorem dX9_digest_74 : decode cX9_digest 74 = .ok (.invokevirtual 144, 3) := by decide +kernel
theorem dX9_digest_77 : decode cX9_digest 77 = .ok (.aload_n 0, 1) := by decide +kernel
theorem dX9_digest_78 : decode cX9_digest 78 = .ok (.aload_n 0, 1) := by decide +kernel
theorem dX9_digest_79 : decode cX9_digest 79 = .ok (.getfield 7, 3) := by decide +kernel
theorem dX9_digest_82 : decode cX9_digest 82 = .ok (.iconst 3, 1) := by decide +kernel
theorem dX9_digest_83 : decode cX9_digest 83 = .ok (.iaload, 1) := by decide +kernel
theorem dX9_digest_84 : decode cX9_digest 84 = .ok (.invokevirtual 144, 3) := by decide +kernel
theorem dX9_digest_87 : decode cX9_digest 87 = .ok (.iconst 0, 1) := by decide +kernel
theorem dX9_digest_88 : decode cX9_digest 88 = .ok (.istore_n 1, 1) := by decide +kernel
theorem dX9_digest_89 : decode cX9_digest 89 = .ok (.iload_n 1, 1) := by decide +kernel
theorem dX9_digest_90 : decode cX9_digest 90 = .ok (.aload_n 0, 1) := by decide +kernel
theorem dX9_digest_91 : decode cX9_digest 91 = .ok (.getfield 7, 3) := by decide +kernel
theorem dX9_digest_94 : decode cX9_digest 94 = .ok (.iconst 3, 1) := by decide +kernel
theorem dX9_digest_95 : decode cX9_digest 95 = .ok (.iaload, 1) := by decide +kernel
theorem dX9_digest_96 : decode cX9_digest 96 = .ok (.if_icmp .ge 82, 3) := by decide +kernel
theorem dX9_digest_99 : decode cX9_digest 99 = .ok (.aload_n 0, 1) := by decide +kernel
theorem dX9_digest_100 : decode cX9_digest 100 = .ok (.aload_n 0, 1) := by decide +kernel
theorem dX9_digest_101 : decode cX9_digest 101 = .ok (.getfield 7, 3) := by decide +kernel
theorem dX9_digest_104 : decode cX9_digest 104 = .ok (.bipush 24, 2) := by decide +kernel
theorem dX9_digest_106 : decode cX9_digest 106 = .ok (.iconst 4, 1) := by decide +kernel
theorem dX9_digest_107 : decode cX9_digest 107 = .ok (.iload_n 1, 1) := by decide +kernel
theorem dX9_digest_108 : decode cX9_digest 108 = .ok (.imul, 1) := by decide +kernel
theorem dX9_digest_109 : decode cX9_digest 109 = .ok (.iadd, 1) := by decide +kernel
theorem dX9_digest_110 : decode cX9_digest 110 = .ok (.iaload, 1) := by decide +kernel
theorem dX9_digest_111 : decode cX9_digest 111 = .ok (.invokevirtual 144, 3) := by decide +kernel
theorem dX9_digest_114 : decode cX9_digest 114 = .ok (.aload_n 0, 1) := by decide +kernel
theorem dX9_digest_115 : decode cX9_digest 115 = .ok (.aload_n 0, 1) := by decide +kernel
theorem dX9_digest_116 : decode cX9_digest 116 = .ok (.getfield 7, 3) := by decide +kernel
theorem dX9_digest_119 : decode cX9_digest 119 = .ok (.bipush 24, 2) := by decide +kernel
theorem dX9_digest_121 : decode cX9_digest 121 = .ok (.iconst 4, 1) := by decide +kernel
theorem dX9_digest_122 : decode cX9_digest 122 = .ok (.iload_n 1, 1) := by decide +kernel
theorem dX9_digest_123 : decode cX9_digest 123 = .ok (.imul, 1) := by decide +kernel
theorem dX9_digest_124 : decode cX9_digest 124 = .ok (.iadd, 1) := by decide +kernel
theorem dX9_digest_125 : decode cX9_digest 125 = .ok (.iconst 1, 1) := by decide +kernel
theorem dX9_digest_126 : decode cX9_digest 126 = .ok (.iadd, 1) := by decide +kernel
theorem dX9_digest_127 : decode cX9_digest 127 = .ok (.iaload, 1) := by decide +kernel
theorem dX9_digest_128 : decode cX9_digest 128 = .ok (.invokevirtual 144, 3) := by decide +kernel
theorem dX9_digest_131 : decode cX9_digest 131 = .ok (.aload_n 0, 1) := by decide +kernel
theorem dX9_digest_132 : decode cX9_digest 132 = .ok (.aload_n 0, 1) := by decide +kernel
theorem dX9_digest_133 : decode cX9_digest 133 = .ok (.getfield 7, 3) := by decide +kernel
theorem dX9_digest_136 : decode cX9_digest 136 = .ok (.bipush 24, 2) := by decide +kernel
theorem dX9_digest_138 : decode cX9_digest 138 = .ok (.iconst 4, 1) := by decide +kernel
theorem dX9_digest_139 : decode cX9_digest 139 = .ok (.iload_n 1, 1) := by decide +kernel
theorem dX9_digest_140 : decode cX9_digest 140 = .ok (.imul, 1) := by decide +kernel
theorem dX9_digest_141 : decode cX9_digest 141 = .ok (.iadd, 1) := by decide +kernel
theorem dX9_digest_142 : decode cX9_digest 142 = .ok (.iconst 2, 1) := by decide +kernel
theorem dX9_digest_143 : decode cX9_digest 143 = .ok (.iadd, 1) := by decide +kernel
theorem dX9_digest_144 : decode cX9_digest 144 = .ok (.iaload, 1) := by decide +kernel
theorem dX9_digest_145 : decode cX9_digest 145 = .ok (.invokevirtual 144, 3) := by decide +kernel
theorem dX9_digest_148 : decode cX9_digest 148 = .ok (.aload_n 0, 1) := by decide +kernel
theorem dX9_digest_149 : decode cX9_digest 149 = .ok (.aload_n 0, 1) := by decide +kernel
theorem dX9_digest_150 : decode cX9_digest 150 = .ok (.getfield 7, 3) := by decide +kernel
theorem dX9_digest_153 : decode cX9_digest 153 = .ok (.iconst 0, 1) := by decide +kernel
theorem dX9_digest_154 : decode cX9_digest 154 = .ok (.iaload, 1) := by decide +kernel
theorem dX9_digest_155 : decode cX9_digest 155 = .ok (.aload_n 0, 1) := by decide +kernel
theorem dX9_digest_156 : decode cX9_digest 156 = .ok (.getfield 7, 3) := by decide +kernel
theorem dX9_digest_159 : decode cX9_digest 159 = .ok (.bipush 24, 2) := by decide +kernel
theorem dX9_digest_161 : decode cX9_digest 161 = .ok (.iconst 4, 1) := by decide +kernel
theorem dX9_digest_162 : decode cX9_digest 162 = .ok (.iload_n 1, 1) := by decide +kernel
theorem dX9_digest_163 : decode cX9_digest 163 = .ok (.imul, 1) := by decide +kernel
theorem dX9_digest_164 : decode cX9_digest 164 = .ok (.iadd, 1) := by decide +kernel
theorem dX9_digest_165 : decode cX9_digest 165 = .ok (.iconst 3, 1) := by decide +kernel
theorem dX9_digest_166 : decode cX9_digest 166 = .ok (.iadd, 1) := by decide +kernel
theorem dX9_digest_167 : decode cX9_digest 167 = .ok (.iaload, 1) := by decide +kernel
theorem dX9_digest_168 : decode cX9_digest 168 = .ok (.isub, 1) := by decide +kernel
theorem dX9_digest_169 : decode cX9_digest 169 = .ok (.invokevirtual 144, 3) := by decide +kernel
theorem dX9_digest_172 : decode cX9_digest 172 = .ok (.iinc 1 1, 3) := by decide +kernel
theorem dX9_digest_175 : decode cX9_digest 175 = .ok (.goto (-86), 3) := by decide +kernel
theorem dX9_digest_178 : decode cX9_digest 178 = .ok (.aload_n 0, 1) := by decide +kernel
theorem dX9_digest_179 : decode cX9_digest 179 = .ok (.aload_n 0, 1) := by decide +kernel
theorem dX9_digest_180 : decode cX9_digest 180 = .ok (.invokevirtual 106, 3) := by decide +kernel
theorem dX9_digest_183 : decode cX9_digest 183 = .ok (.invokevirtual 144, 3) := by decide +kernel
theorem dX9_digest_186 : decode cX9_digest 186 = .ok (.iconst 0, 1) := by decide +kernel
theorem dX9_digest_187 : decode cX9_digest 187 = .ok (.istore_n 1, 1) := by decide +kernel
theorem dX9_digest_188 : decode cX9_digest 188 = .ok (.iload_n 1, 1) := by decide +kernel
theorem dX9_digest_189 : decode cX9_digest 189 = .ok (.sipush 128, 3) := by decide +kernel
theorem dX9_digest_192 : decode cX9_digest 192 = .ok (.if_icmp .ge 22, 3) := by decide +kernel
theorem dX9_digest_195 : decode cX9_digest 195 = .ok (.aload_n 0, 1) := by decide +kernel
theorem dX9_digest_196 : decode cX9_digest 196 = .ok (.aload_n 0, 1) := by decide +kernel
theorem dX9_digest_197 : decode cX9_digest 197 = .ok (.getfield 7, 3) := by decide +kernel
theorem dX9_digest_200 : decode cX9_digest 200 = .ok (.bipush 40, 2) := by decide +kernel
theorem dX9_digest_202 : decode cX9_digest 202 = .ok (.iload_n 1, 1) := by decide +kernel
theorem dX9_digest_203 : decode cX9_digest 203 = .ok (.iadd, 1) := by decide +kernel
theorem dX9_digest_204 : decode cX9_digest 204 = .ok (.iaload, 1) := by decide +kernel
theorem dX9_digest_205 : decode cX9_digest 205 = .ok (.invokevirtual 144, 3) := by decide +kernel
theorem dX9_digest_208 : decode cX9_digest 208 = .ok (.iinc 1 1, 3) := by decide +kernel
theorem dX9_digest_211 : decode cX9_digest 211 = .ok (.goto (-23), 3) := by decide +kernel
theorem dX9_digest_214 : decode cX9_digest 214 = .ok (.aload_n 0, 1) := by decide +kernel
theorem dX9_digest_215 : decode cX9_digest 215 = .ok (.aload_n 0, 1) := by decide +kernel
theorem dX9_digest_216 : decode cX9_digest 216 = .ok (.getfield 7, 3) := by decide +kernel
theorem dX9_digest_219 : decode cX9_digest 219 = .ok (.iconst 4, 1) := by decide +kernel
theorem dX9_digest_220 : decode cX9_digest 220 = .ok (.iaload, 1) := by decide +kernel
theorem dX9_digest_221 : decode cX9_digest 221 = .ok (.invokevirtual 144, 3) := by decide +kernel
theorem dX9_digest_224 : decode cX9_digest 224 = .ok (.iconst 0, 1) := by decide +kernel
theorem dX9_digest_225 : decode cX9_digest 225 = .ok (.istore_n 1, 1) := by decide +kernel
theorem dX9_digest_226 : decode cX9_digest 226 = .ok (.iload_n 1, 1) := by decide +kernel
theorem dX9_digest_227 : decode cX9_digest 227 = .ok (.aload_n 0, 1) := by decide +kernel
theorem dX9_digest_228 : decode cX9_digest 228 = .ok (.getfield 7, 3) := by decide +kernel
theorem dX9_digest_231 : decode cX9_digest 231 = .ok (.iconst 4, 1) := by decide +kernel
theorem dX9_digest_232 : decode cX9_digest 232 = .ok (.iaload, 1) := by decide +kernel
theorem dX9_digest_233 : decode cX9_digest 233 = .ok (.if_icmp .ge 25, 3) := by decide +kernel
theorem dX9_digest_236 : decode cX9_digest 236 = .ok (.aload_n 0, 1) := by decide +kernel
theorem dX9_digest_237 : decode cX9_digest 237 = .ok (.aload_n 0, 1) := by decide +kernel
theorem dX9_digest_238 : decode cX9_digest 238 = .ok (.getfield 7, 3) := by decide +kernel
theorem dX9_digest_241 : decode cX9_digest 241 = .ok (.sipush 168, 3) := by decide +kernel
theorem dX9_digest_244 : decode cX9_digest 244 = .ok (.iconst 3, 1) := by decide +kernel
theorem dX9_digest_245 : decode cX9_digest 245 = .ok (.iload_n 1, 1) := by decide +kernel
theorem dX9_digest_246 : decode cX9_digest 246 = .ok (.imul, 1) := by decide +kernel
theorem dX9_digest_247 : decode cX9_digest 247 = .ok (.iadd, 1) := by decide +kernel
theorem dX9_digest_248 : decode cX9_digest 248 = .ok (.iaload, 1) := by decide +kernel
theorem dX9_digest_249 : decode cX9_digest 249 = .ok (.invokevirtual 144, 3) := by decide +kernel
theorem dX9_digest_252 : decode cX9_digest 252 = .ok (.iinc 1 1, 3) := by decide +kernel
theorem dX9_digest_255 : decode cX9_digest 255 = .ok (.goto (-29), 3) := by decide +kernel
theorem dX9_digest_258 : decode cX9_digest 258 = .ok (.aload_n 0, 1) := by decide +kernel
theorem dX9_digest_259 : decode cX9_digest 259 = .ok (.aload_n 0, 1) := by decide +kernel
theorem dX9_digest_260 : decode cX9_digest 260 = .ok (.getfield 7, 3) := by decide +kernel
theorem dX9_digest_263 : decode cX9_digest 263 = .ok (.iconst 5, 1) := by decide +kernel
theorem dX9_digest_264 : decode cX9_digest 264 = .ok (.iaload, 1) := by decide +kernel
theorem dX9_digest_265 : decode cX9_digest 265 = .ok (.invokevirtual 144, 3) := by decide +kernel
theorem dX9_digest_268 : decode cX9_digest 268 = .ok (.aload_n 0, 1) := by decide +kernel
theorem dX9_digest_269 : decode cX9_digest 269 = .ok (.aload_n 0, 1) := by decide +kernel
theorem dX9_digest_270 : decode cX9_digest 270 = .ok (.getfield 7, 3) := by decide +kernel
theorem dX9_digest_273 : decode cX9_digest 273 = .ok (.bipush 6, 2) := by decide +kernel
theorem dX9_digest_275 : decode cX9_digest 275 = .ok (.iaload, 1) := by decide +kernel
theorem dX9_digest_276 : decode cX9_digest 276 = .ok (.invokevirtual 144, 3) := by decide +kernel
theorem dX9_digest_279 : decode cX9_digest 279 = .ok (.iconst 0, 1) := by decide +kernel
theorem dX9_digest_280 : decode cX9_digest 280 = .ok (.istore_n 1, 1) := by decide +kernel
theorem dX9_digest_281 : decode cX9_digest 281 = .ok (.iload_n 1, 1) := by decide +kernel
theorem dX9_digest_282 : decode cX9_digest 282 = .ok (.bipush 16, 2) := by decide +kernel
theorem dX9_digest_284 : decode cX9_digest 284 = .ok (.if_icmp .ge 14, 3) := by decide +kernel
theorem dX9_digest_287 : decode cX9_digest 287 = .ok (.aload_n 0, 1) := by decide +kernel
theorem dX9_digest_288 : decode cX9_digest 288 = .ok (.iload_n 1, 1) := by decide +kernel
theorem dX9_digest_289 : decode cX9_digest 289 = .ok (.invokevirtual 150, 3) := by decide +kernel
theorem dX9_digest_292 : decode cX9_digest 292 = .ok (.iinc 1 1, 3) := by decide +kernel
theorem dX9_digest_295 : decode cX9_digest 295 = .ok (.goto (-14), 3) := by decide +kernel
theorem dX9_digest_298 : decode cX9_digest 298 = .ok (.aload_n 0, 1) := by decide +kernel
theorem dX9_digest_299 : decode cX9_digest 299 = .ok (.aload_n 0, 1) := by decide +kernel
theorem dX9_digest_300 : decode cX9_digest 300 = .ok (.getfield 24, 3) := by decide +kernel
theorem dX9_digest_303 : decode cX9_digest 303 = .ok (.invokevirtual 144, 3) := by decide +kernel
theorem dX9_digest_306 : decode cX9_digest 306 = .ok (.aload_n 0, 1) := by decide +kernel
theorem dX9_digest_307 : decode cX9_digest 307 = .ok (.getfield 140, 3) := by decide +kernel
theorem dX9_digest_310 : decode cX9_digest 310 = .ok (.lreturn, 1) := by decide +kernel
