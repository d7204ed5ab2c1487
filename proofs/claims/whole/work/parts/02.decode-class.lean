theorem dX0_make_0 : decode cX0_make 0 = .ok (.iload_n 2, 1) := by decide +kernel
theorem dX0_make_1 : decode cX0_make 1 = .ok (.bipush 8, 2) := by decide +kernel
theorem dX0_make_3 : decode cX0_make 3 = .ok (.imul, 1) := by decide +kernel
theorem dX0_make_4 : decode cX0_make 4 = .ok (.iload_n 3, 1) := by decide +kernel
theorem dX0_make_5 : decode cX0_make 5 = .ok (.iadd, 1) := by decide +kernel
theorem dX0_make_6 : decode cX0_make 6 = .ok (.sipush 4096, 3) := by decide +kernel
theorem dX0_make_9 : decode cX0_make 9 = .ok (.imul, 1) := by decide +kernel
theorem dX0_make_10 : decode cX0_make 10 = .ok (.iload_n 0, 1) := by decide +kernel
theorem dX0_make_11 : decode cX0_make 11 = .ok (.iload_n 1, 1) := by decide +kernel
theorem dX0_make_12 : decode cX0_make 12 = .ok (.iload_n 2, 1) := by decide +kernel
theorem dX0_make_13 : decode cX0_make 13 = .ok (.iload_n 3, 1) := by decide +kernel
theorem dX0_make_14 : decode cX0_make 14 = .ok (.invokestatic 9, 3) := by decide +kernel
theorem dX0_make_17 : decode cX0_make 17 = .ok (.iadd, 1) := by decide +kernel
theorem dX0_make_18 : decode cX0_make 18 = .ok (.ireturn, 1) := by decide +kernel
theorem dX0_mark_0 : decode cX0_mark 0 = .ok (.iload_n 0, 1) := by decide +kernel
theorem dX0_mark_1 : decode cX0_mark 1 = .ok (.iload_n 1, 1) := by decide +kernel
theorem dX0_mark_2 : decode cX0_mark 2 = .ok (.bipush 8, 2) := by decide +kernel
theorem dX0_mark_4 : decode cX0_mark 4 = .ok (.idiv, 1) := by decide +kernel
theorem dX0_mark_5 : decode cX0_mark 5 = .ok (.invokestatic 15, 3) := by decide +kernel
theorem dX0_mark_8 : decode cX0_mark 8 = .ok (.istore 4, 2) := by decide +kernel
theorem dX0_mark_10 : decode cX0_mark 10 = .ok (.iload 4, 2) := by decide +kernel
theorem dX0_mark_12 : decode cX0_mark 12 = .ok (.iload_n 1, 1) := by decide +kernel
theorem dX0_mark_13 : decode cX0_mark 13 = .ok (.bipush 8, 2) := by decide +kernel
theorem dX0_mark_15 : decode cX0_mark 15 = .ok (.irem, 1) := by decide +kernel
theorem dX0_mark_16 : decode cX0_mark 16 = .ok (.invokestatic 15, 3) := by decide +kernel
theorem dX0_mark_19 : decode cX0_mark 19 = .ok (.istore 4, 2) := by decide +kernel
theorem dX0_mark_21 : decode cX0_mark 21 = .ok (.iload 4, 2) := by decide +kernel
theorem dX0_mark_23 : decode cX0_mark 23 = .ok (.iload_n 2, 1) := by decide +kernel
theorem dX0_mark_24 : decode cX0_mark 24 = .ok (.invokestatic 15, 3) := by decide +kernel
theorem dX0_mark_27 : decode cX0_mark 27 = .ok (.istore 4, 2) := by decide +kernel
theorem dX0_mark_29 : decode cX0_mark 29 = .ok (.iload 4, 2) := by decide +kernel
theorem dX0_mark_31 : decode cX0_mark 31 = .ok (.iload_n 3, 1) := by decide +kernel
theorem dX0_mark_32 : decode cX0_mark 32 = .ok (.invokestatic 15, 3) := by decide +kernel
theorem dX0_mark_35 : decode cX0_mark 35 = .ok (.istore 4, 2) := by decide +kernel
theorem dX0_mark_37 : decode cX0_mark 37 = .ok (.iload 4, 2) := by decide +kernel
theorem dX0_mark_39 : decode cX0_mark 39 = .ok (.sipush 4096, 3) := by decide +kernel
theorem dX0_mark_42 : decode cX0_mark 42 = .ok (.irem, 1) := by decide +kernel
theorem dX0_mark_43 : decode cX0_mark 43 = .ok (.ireturn, 1) := by decide +kernel
theorem dX0_step_0 : decode cX0_step 0 = .ok (.iload_n 0, 1) := by decide +kernel
theorem dX0_step_1 : decode cX0_step 1 = .ok (.sipush 16807, 3) := by decide +kernel
theorem dX0_step_4 : decode cX0_step 4 = .ok (.imul, 1) := by decide +kernel
theorem dX0_step_5 : decode cX0_step 5 = .ok (.iload_n 1, 1) := by decide +kernel
theorem dX0_step_6 : decode cX0_step 6 = .ok (.iadd, 1) := by decide +kernel
theorem dX0_step_7 : decode cX0_step 7 = .ok (.iconst 1, 1) := by decide +kernel
theorem dX0_step_8 : decode cX0_step 8 = .ok (.iadd, 1) := by decide +kernel
theorem dX0_step_9 : decode cX0_step 9 = .ok (.ldc 19, 2) := by decide +kernel
theorem dX0_step_11 : decode cX0_step 11 = .ok (.irem, 1) := by decide +kernel
theorem dX0_step_12 : decode cX0_step 12 = .ok (.ireturn, 1) := by decide +kernel
theorem dX0_stampOf_0 : decode cX0_stampOf 0 = .ok (.iload_n 0, 1) := by decide +kernel
theorem dX0_stampOf_1 : decode cX0_stampOf 1 = .ok (.ldc 20, 2) := by decide +kernel
theorem dX0_stampOf_3 : decode cX0_stampOf 3 = .ok (.idiv, 1) := by decide +kernel
theorem dX0_stampOf_4 : decode cX0_stampOf 4 = .ok (.ireturn, 1) := by decide +kernel
theorem dX0_optionOf_0 : decode cX0_optionOf 0 = .ok (.iload_n 0, 1) := by decide +kernel
theorem dX0_optionOf_1 : decode cX0_optionOf 1 = .ok (.sipush 4096, 3) := by decide +kernel
theorem dX0_optionOf_4 : decode cX0_optionOf 4 = .ok (.idiv, 1) := by decide +kernel
theorem dX0_optionOf_5 : decode cX0_optionOf 5 = .ok (.bipush 8, 2) := by decide +kernel
theorem dX0_optionOf_7 : decode cX0_optionOf 7 = .ok (.irem, 1) := by decide +kernel
theorem dX0_optionOf_8 : decode cX0_optionOf 8 = .ok (.ireturn, 1) := by decide +kernel
theorem dX0_isMarkedWith_0 : decode cX0_isMarkedWith 0 = .ok (.iload_n 2, 1) := by decide +kernel
theorem dX0_isMarkedWith_1 : decode cX0_isMarkedWith 1 = .ok (.sipush 4096, 3) := by decide +kernel
theorem dX0_isMarkedWith_4 : decode cX0_isMarkedWith 4 = .ok (.irem, 1) := by decide +kernel
theorem dX0_isMarkedWith_5 : decode cX0_isMarkedWith 5 = .ok (.iload_n 0, 1) := by decide +kernel
theorem dX0_isMarkedWith_6 : decode cX0_isMarkedWith 6 = .ok (.iload_n 1, 1) := by decide +kernel
theorem dX0_isMarkedWith_7 : decode cX0_isMarkedWith 7 = .ok (.iload_n 2, 1) := by decide +kernel
theorem dX0_isMarkedWith_8 : decode cX0_isMarkedWith 8 = .ok (.invokestatic 21, 3) := by decide +kernel
theorem dX0_isMarkedWith_11 : decode cX0_isMarkedWith 11 = .ok (.iload_n 2, 1) := by decide +kernel
theorem dX0_isMarkedWith_12 : decode cX0_isMarkedWith 12 = .ok (.invokestatic 25, 3) := by decide +kernel
theorem dX0_isMarkedWith_15 : decode cX0_isMarkedWith 15 = .ok (.invokestatic 9, 3) := by decide +kernel
theorem dX0_isMarkedWith_18 : decode cX0_isMarkedWith 18 = .ok (.if_icmp .ne 7, 3) := by decide +kernel
theorem dX0_isMarkedWith_21 : decode cX0_isMarkedWith 21 = .ok (.iconst 1, 1) := by decide +kernel
theorem dX0_isMarkedWith_22 : decode cX0_isMarkedWith 22 = .ok (.goto 4, 3) := by decide +kernel
theorem dX0_isMarkedWith_25 : decode cX0_isMarkedWith 25 = .ok (.iconst 0, 1) := by decide +kernel
theorem dX0_isMarkedWith_26 : decode cX0_isMarkedWith 26 = .ok (.ireturn, 1) := by decide +kernel
theorem dX0_age_0 : decode cX0_age 0 = .ok (.iload_n 1, 1) := by decide +kernel
theorem dX0_age_1 : decode cX0_age 1 = .ok (.iload_n 0, 1) := by decide +kernel
theorem dX0_age_2 : decode cX0_age 2 = .ok (.invokestatic 21, 3) := by decide +kernel
theorem dX0_age_5 : decode cX0_age 5 = .ok (.isub, 1) := by decide +kernel
theorem dX0_age_6 : decode cX0_age 6 = .ok (.bipush 32, 2) := by decide +kernel
theorem dX0_age_8 : decode cX0_age 8 = .ok (.invokestatic 28, 3) := by decide +kernel
theorem dX0_age_11 : decode cX0_age 11 = .ok (.ireturn, 1) := by decide +kernel
theorem dX0_isSolution_0 : decode cX0_isSolution 0 = .ok (.iconst 0, 1) := by decide +kernel
theorem dX0_isSolution_1 : decode cX0_isSolution 1 = .ok (.iload_n 0, 1) := by decide +kernel
theorem dX0_isSolution_2 : decode cX0_isSolution 2 = .ok (.invokestatic 15, 3) := by decide +kernel
theorem dX0_isSolution_5 : decode cX0_isSolution 5 = .ok (.iload_n 2, 1) := by decide +kernel
theorem dX0_isSolution_6 : decode cX0_isSolution 6 = .ok (.invokestatic 15, 3) := by decide +kernel
theorem dX0_isSolution_9 : decode cX0_isSolution 9 = .ok (.sipush 4096, 3) := by decide +kernel
theorem dX0_isSolution_12 : decode cX0_isSolution 12 = .ok (.irem, 1) := by decide +kernel
theorem dX0_isSolution_13 : decode cX0_isSolution 13 = .ok (.istore_n 3, 1) := by decide +kernel
theorem dX0_isSolution_14 : decode cX0_isSolution 14 = .ok (.iconst 1, 1) := by decide +kernel
theorem dX0_isSolution_15 : decode cX0_isSolution 15 = .ok (.iload_n 1, 1) := by decide +kernel
theorem dX0_isSolution_16 : decode cX0_isSolution 16 = .ok (.ishl, 1) := by decide +kernel
theorem dX0_isSolution_17 : decode cX0_isSolution 17 = .ok (.iconst 1, 1) := by decide +kernel
theorem dX0_isSolution_18 : decode cX0_isSolution 18 = .ok (.isub, 1) := by decide +kernel
theorem dX0_isSolution_19 : decode cX0_isSolution 19 = .ok (.istore 4, 2) := by decide +kernel
theorem dX0_isSolution_21 : decode cX0_isSolution 21 = .ok (.iload_n 3, 1) := by decide +kernel
theorem dX0_isSolution_22 : decode cX0_isSolution 22 = .ok (.iload 4, 2) := by decide +kernel
theorem dX0_isSolution_24 : decode cX0_isSolution 24 = .ok (.iand, 1) := by decide +kernel
theorem dX0_isSolution_25 : decode cX0_isSolution 25 = .ok (.ifCond .ne 7, 3) := by decide +kernel
theorem dX0_isSolution_28 : decode cX0_isSolution 28 = .ok (.iconst 1, 1) := by decide +kernel
theorem dX0_isSolution_29 : decode cX0_isSolution 29 = .ok (.goto 4, 3) := by decide +kernel
theorem dX0_isSolution_32 : decode cX0_isSolution 32 = .ok (.iconst 0, 1) := by decide +kernel
theorem dX0_isSolution_33 : decode cX0_isSolution 33 = .ok (.ireturn, 1) := by decide +kernel
theorem dX0_optionForWish_0 : decode cX0_optionForWish 0 = .ok (.iconst 0, 1) := by decide +kernel
theorem dX0_optionForWish_1 : decode cX0_optionForWish 1 = .ok (.istore_n 1, 1) := by decide +kernel
theorem dX0_optionForWish_2 : decode cX0_optionForWish 2 = .ok (.iconst 1, 1) := by decide +kernel
theorem dX0_optionForWish_3 : decode cX0_optionForWish 3 = .ok (.istore_n 2, 1) := by decide +kernel
theorem dX0_optionForWish_4 : decode cX0_optionForWish 4 = .ok (.iload_n 2, 1) := by decide +kernel
theorem dX0_optionForWish_5 : decode cX0_optionForWish 5 = .ok (.bipush 8, 2) := by decide +kernel
theorem dX0_optionForWish_7 : decode cX0_optionForWish 7 = .ok (.if_icmp .ge 20, 3) := by decide +kernel
theorem dX0_optionForWish_10 : decode cX0_optionForWish 10 = .ok (.getstatic 33, 3) := by decide +kernel
theorem dX0_optionForWish_13 : decode cX0_optionForWish 13 = .ok (.iload_n 2, 1) := by decide +kernel
theorem dX0_optionForWish_14 : decode cX0_optionForWish 14 = .ok (.iaload, 1) := by decide +kernel
theorem dX0_optionForWish_15 : decode cX0_optionForWish 15 = .ok (.iload_n 0, 1) := by decide +kernel
theorem dX0_optionForWish_16 : decode cX0_optionForWish 16 = .ok (.if_icmp .gt 5, 3) := by decide +kernel
theorem dX0_optionForWish_19 : decode cX0_optionForWish 19 = .ok (.iload_n 2, 1) := by decide +kernel
theorem dX0_optionForWish_20 : decode cX0_optionForWish 20 = .ok (.istore_n 1, 1) := by decide +kernel
theorem dX0_optionForWish_21 : decode cX0_optionForWish 21 = .ok (.iinc 2 1, 3) := by decide +kernel
theorem dX0_optionForWish_24 : decode cX0_optionForWish 24 = .ok (.goto (-20), 3) := by decide +kernel
theorem dX0_optionForWish_27 : decode cX0_optionForWish 27 = .ok (.iload_n 1, 1) := by decide +kernel
theorem dX0_optionForWish_28 : decode cX0_optionForWish 28 = .ok (.ireturn, 1) := by decide +kernel
theorem dX0_sizeOfOption_0 : decode cX0_sizeOfOption 0 = .ok (.iload_n 0, 1) := by decide +kernel
theorem dX0_sizeOfOption_1 : decode cX0_sizeOfOption 1 = .ok (.iconst 0, 1) := by decide +kernel
theorem dX0_sizeOfOption_2 : decode cX0_sizeOfOption 2 = .ok (.bipush 7, 2) := by decide +kernel
theorem dX0_sizeOfOption_4 : decode cX0_sizeOfOption 4 = .ok (.invokestatic 37, 3) := by decide +kernel
theorem dX0_sizeOfOption_7 : decode cX0_sizeOfOption 7 = .ok (.ifCond .eq 11, 3) := by decide +kernel
theorem dX0_sizeOfOption_10 : decode cX0_sizeOfOption 10 = .ok (.getstatic 33, 3) := by decide +kernel
theorem dX0_sizeOfOption_13 : decode cX0_sizeOfOption 13 = .ok (.iload_n 0, 1) := by decide +kernel
theorem dX0_sizeOfOption_14 : decode cX0_sizeOfOption 14 = .ok (.iaload, 1) := by decide +kernel
theorem dX0_sizeOfOption_15 : decode cX0_sizeOfOption 15 = .ok (.goto 4, 3) := by decide +kernel
theorem dX0_sizeOfOption_18 : decode cX0_sizeOfOption 18 = .ok (.iconst (-1), 1) := by decide +kernel
theorem dX0_sizeOfOption_19 : decode cX0_sizeOfOption 19 = .ok (.ireturn, 1) := by decide +kernel
theorem dX1_init_0 : decode cX1_init 0 = .ok (.aload_n 0, 1) := by decide +kernel
theorem dX1_init_1 : decode cX1_init 1 = .ok (.invokespecial 3, 3) := by decide +kernel
theorem dX1_init_4 : decode cX1_init 4 = .ok (.aload_n 0, 1) := by decide +kernel
theorem dX1_init_5 : decode cX1_init 5 = .ok (.iconst 4, 1) := by decide +kernel
theorem dX1_init_6 : decode cX1_init 6 = .ok (.newarray .int, 2) := by decide +kernel
theorem dX1_init_8 : decode cX1_init 8 = .ok (.putfield 9, 3) := by decide +kernel
theorem dX1_init_11 : decode cX1_init 11 = .ok (.aload_n 0, 1) := by decide +kernel
theorem dX1_init_12 : decode cX1_init 12 = .ok (.iconst 4, 1) := by decide +kernel
theorem dX1_init_13 : decode cX1_init 13 = .ok (.newarray .int, 2) := by decide +kernel
theorem dX1_init_15 : decode cX1_init 15 = .ok (.putfield 15, 3) := by decide +kernel
theorem dX1_init_18 : decode cX1_init 18 = .ok (.aload_n 0, 1) := by decide +kernel
theorem dX1_init_19 : decode cX1_init 19 = .ok (.iconst 4, 1) := by decide +kernel
theorem dX1_init_20 : decode cX1_init 20 = .ok (.newarray .int, 2) := by decide +kernel
theorem dX1_init_22 : decode cX1_init 22 = .ok (.putfield 18, 3) := by decide +kernel
theorem dX1_init_25 : decode cX1_init 25 = .ok (.aload_n 0, 1) := by decide +kernel
theorem dX1_init_26 : decode cX1_init 26 = .ok (.iconst 0, 1) := by decide +kernel
theorem dX1_init_27 : decode cX1_init 27 = .ok (.putfield 21, 3) := by decide +kernel
theorem dX1_init_30 : decode cX1_init 30 = .ok (.return_, 1) := by decide +kernel
theorem dX1_copyFrom_0 : decode cX1_copyFrom 0 = .ok (.aload_n 1, 1) := by decide +kernel
theorem dX1_copyFrom_1 : decode cX1_copyFrom 1 = .ok (.getfield 9, 3) := by decide +kernel
theorem dX1_copyFrom_4 : decode cX1_copyFrom 4 = .ok (.iconst 0, 1) := by decide +kernel
theorem dX1_copyFrom_5 : decode cX1_copyFrom 5 = .ok (.aload_n 0, 1) := by decide +kernel
theorem dX1_copyFrom_6 : decode cX1_copyFrom 6 = .ok (.getfield 9, 3) := by decide +kernel
theorem dX1_copyFrom_9 : decode cX1_copyFrom 9 = .ok (.iconst 0, 1) := by decide +kernel
theorem dX1_copyFrom_10 : decode cX1_copyFrom 10 = .ok (.iconst 4, 1) := by decide +kernel
theorem dX1_copyFrom_11 : decode cX1_copyFrom 11 = .ok (.invokestatic 25, 3) := by decide +kernel
theorem dX1_copyFrom_14 : decode cX1_copyFrom 14 = .ok (.aload_n 1, 1) := by decide +kernel
theorem dX1_copyFrom_15 : decode cX1_copyFrom 15 = .ok (.getfield 15, 3) := by decide +kernel
theorem dX1_copyFrom_18 : decode cX1_copyFrom 18 = .ok (.iconst 0, 1) := by decide +kernel
theorem dX1_copyFrom_19 : decode cX1_copyFrom 19 = .ok (.aload_n 0, 1) := by decide +kernel
theorem dX1_copyFrom_20 : decode cX1_copyFrom 20 = .ok (.getfield 15, 3) := by decide +kernel
theorem dX1_copyFrom_23 : decode cX1_copyFrom 23 = .ok (.iconst 0, 1) := by decide +kernel
theorem dX1_copyFrom_24 : decode cX1_copyFrom 24 = .ok (.iconst 4, 1) := by decide +kernel
theorem dX1_copyFrom_25 : decode cX1_copyFrom 25 = .ok (.invokestatic 25, 3) := by decide +kernel
theorem dX1_copyFrom_28 : decode cX1_copyFrom 28 = .ok (.aload_n 1, 1) := by decide +kernel
theorem dX1_copyFrom_29 : decode cX1_copyFrom 29 = .ok (.getfield 18, 3) := by decide +kernel
theorem dX1_copyFrom_32 : decode cX1_copyFrom 32 = .ok (.iconst 0, 1) := by decide +kernel
theorem dX1_copyFrom_33 : decode cX1_copyFrom 33 = .ok (.aload_n 0, 1) := by decide +kernel
theorem dX1_copyFrom_34 : decode cX1_copyFrom 34 = .ok (.getfield 18, 3) := by decide +kernel
theorem dX1_copyFrom_37 : decode cX1_copyFrom 37 = .ok (.iconst 0, 1) := by decide +kernel
theorem dX1_copyFrom_38 : decode cX1_copyFrom 38 = .ok (.iconst 4, 1) := by decide +kernel
theorem dX1_copyFrom_39 : decode cX1_copyFrom 39 = .ok (.invokestatic 25, 3) := by decide +kernel
theorem dX1_copyFrom_42 : decode cX1_copyFrom 42 = .ok (.aload_n 0, 1) := by decide +kernel
theorem dX1_copyFrom_43 : decode cX1_copyFrom 43 = .ok (.aload_n 1, 1) := by decide +kernel
theorem dX1_copyFrom_44 : decode cX1_copyFrom 44 = .ok (.getfield 21, 3) := by decide +kernel
theorem dX1_copyFrom_47 : decode cX1_copyFrom 47 = .ok (.putfield 21, 3) := by decide +kernel
theorem dX1_copyFrom_50 : decode cX1_copyFrom 50 = .ok (.return_, 1) := by decide +kernel
theorem dX1_find_0 : decode cX1_find 0 = .ok (.iconst 0, 1) := by decide +kernel
theorem dX1_find_1 : decode cX1_find 1 = .ok (.istore_n 2, 1) := by decide +kernel
theorem dX1_find_2 : decode cX1_find 2 = .ok (.iload_n 2, 1) := by decide +kernel
theorem dX1_find_3 : decode cX1_find 3 = .ok (.aload_n 0, 1) := by decide +kernel
theorem dX1_find_4 : decode cX1_find 4 = .ok (.getfield 21, 3) := by decide +kernel
theorem dX1_find_7 : decode cX1_find 7 = .ok (.if_icmp .ge 21, 3) := by decide +kernel
theorem dX1_find_10 : decode cX1_find 10 = .ok (.aload_n 0, 1) := by decide +kernel
theorem dX1_find_11 : decode cX1_find 11 = .ok (.getfield 9, 3) := by decide +kernel
theorem dX1_find_14 : decode cX1_find 14 = .ok (.iload_n 2, 1) := by decide +kernel
theorem dX1_find_15 : decode cX1_find 15 = .ok (.iaload, 1) := by decide +kernel
theorem dX1_find_16 : decode cX1_find 16 = .ok (.iload_n 1, 1) := by decide +kernel
theorem dX1_find_17 : decode cX1_find 17 = .ok (.if_icmp .ne 5, 3) := by decide +kernel
theorem dX1_find_20 : decode cX1_find 20 = .ok (.iload_n 2, 1) := by decide +kernel
theorem dX1_find_21 : decode cX1_find 21 = .ok (.ireturn, 1) := by decide +kernel
theorem dX1_find_22 : decode cX1_find 22 = .ok (.iinc 2 1, 3) := by decide +kernel
theorem dX1_find_25 : decode cX1_find 25 = .ok (.goto (-23), 3) := by decide +kernel
theorem dX1_find_28 : decode cX1_find 28 = .ok (.iconst (-1), 1) := by decide +kernel
theorem dX1_find_29 : decode cX1_find 29 = .ok (.ireturn, 1) := by decide +kernel
theorem dX1_holds_0 : decode cX1_holds 0 = .ok (.aload_n 0, 1) := by decide +kernel
theorem dX1_holds_1 : decode cX1_holds 1 = .ok (.iload_n 1, 1) := by decide +kernel
theorem dX1_holds_2 : decode cX1_holds 2 = .ok (.invokevirtual 31, 3) := by decide +kernel
theorem dX1_holds_5 : decode cX1_holds 5 = .ok (.istore_n 3, 1) := by decide +kernel
theorem dX1_holds_6 : decode cX1_holds 6 = .ok (.iload_n 3, 1) := by decide +kernel
theorem dX1_holds_7 : decode cX1_holds 7 = .ok (.ifCond .lt 17, 3) := by decide +kernel
theorem dX1_holds_10 : decode cX1_holds 10 = .ok (.aload_n 0, 1) := by decide +kernel
theorem dX1_holds_11 : decode cX1_holds 11 = .ok (.getfield 15, 3) := by decide +kernel
theorem dX1_holds_14 : decode cX1_holds 14 = .ok (.iload_n 3, 1) := by decide +kernel
theorem dX1_holds_15 : decode cX1_holds 15 = .ok (.iaload, 1) := by decide +kernel
theorem dX1_holds_16 : decode cX1_holds 16 = .ok (.iload_n 2, 1) := by decide +kernel
theorem dX1_holds_17 : decode cX1_holds 17 = .ok (.if_icmp .ne 7, 3) := by decide +kernel
theorem dX1_holds_20 : decode cX1_holds 20 = .ok (.iconst 1, 1) := by decide +kernel
theorem dX1_holds_21 : decode cX1_holds 21 = .ok (.goto 4, 3) := by decide +kernel
theorem dX1_holds_24 : decode cX1_holds 24 = .ok (.iconst 0, 1) := by decide +kernel
theorem dX1_holds_25 : decode cX1_holds 25 = .ok (.ireturn, 1) := by decide +kernel
theorem dX1_ageOf_0 : decode cX1_ageOf 0 = .ok (.aload_n 0, 1) := by decide +kernel
theorem dX1_ageOf_1 : decode cX1_ageOf 1 = .ok (.iload_n 1, 1) := by decide +kernel
theorem dX1_ageOf_2 : decode cX1_ageOf 2 = .ok (.invokevirtual 31, 3) := by decide +kernel
theorem dX1_ageOf_5 : decode cX1_ageOf 5 = .ok (.istore_n 3, 1) := by decide +kernel
theorem dX1_ageOf_6 : decode cX1_ageOf 6 = .ok (.iload_n 3, 1) := by decide +kernel
theorem dX1_ageOf_7 : decode cX1_ageOf 7 = .ok (.ifCond .lt 14, 3) := by decide +kernel
theorem dX1_ageOf_10 : decode cX1_ageOf 10 = .ok (.iload_n 2, 1) := by decide +kernel
theorem dX1_ageOf_11 : decode cX1_ageOf 11 = .ok (.aload_n 0, 1) := by decide +kernel
theorem dX1_ageOf_12 : decode cX1_ageOf 12 = .ok (.getfield 18, 3) := by decide +kernel
theorem dX1_ageOf_15 : decode cX1_ageOf 15 = .ok (.iload_n 3, 1) := by decide +kernel
theorem dX1_ageOf_16 : decode cX1_ageOf 16 = .ok (.iaload, 1) := by decide +kernel
theorem dX1_ageOf_17 : decode cX1_ageOf 17 = .ok (.isub, 1) := by decide +kernel
theorem dX1_ageOf_18 : decode cX1_ageOf 18 = .ok (.goto 4, 3) := by decide +kernel
theorem dX1_ageOf_21 : decode cX1_ageOf 21 = .ok (.iconst (-1), 1) := by decide +kernel
theorem dX1_ageOf_22 : decode cX1_ageOf 22 = .ok (.ireturn, 1) := by decide +kernel
theorem dX1_keep_0 : decode cX1_keep 0 = .ok (.aload_n 0, 1) := by decide +kernel
theorem dX1_keep_1 : decode cX1_keep 1 = .ok (.iload_n 1, 1) := by decide +kernel
theorem dX1_keep_2 : decode cX1_keep 2 = .ok (.invokevirtual 31, 3) := by decide +kernel
theorem dX1_keep_5 : decode cX1_keep 5 = .ok (.istore 5, 2) := by decide +kernel
theorem dX1_keep_7 : decode cX1_keep 7 = .ok (.iload 5, 2) := by decide +kernel
theorem dX1_keep_9 : decode cX1_keep 9 = .ok (.ifCond .ge 33, 3) := by decide +kernel
theorem dX1_keep_12 : decode cX1_keep 12 = .ok (.iload 4, 2) := by decide +kernel
theorem dX1_keep_14 : decode cX1_keep 14 = .ok (.ifCond .eq 11, 3) := by decide +kernel
theorem dX1_keep_17 : decode cX1_keep 17 = .ok (.aload_n 0, 1) := by decide +kernel
theorem dX1_keep_18 : decode cX1_keep 18 = .ok (.getfield 21, 3) := by decide +kernel
theorem dX1_keep_21 : decode cX1_keep 21 = .ok (.iconst 4, 1) := by decide +kernel
theorem dX1_keep_22 : decode cX1_keep 22 = .ok (.if_icmp .lt 4, 3) := by decide +kernel
theorem dX1_keep_25 : decode cX1_keep 25 = .ok (.return_, 1) := by decide +kernel
theorem dX1_keep_26 : decode cX1_keep 26 = .ok (.aload_n 0, 1) := by decide +kernel
theorem dX1_keep_27 : decode cX1_keep 27 = .ok (.getfield 21, 3) := by decide +kernel
theorem dX1_keep_30 : decode cX1_keep 30 = .ok (.istore 5, 2) := by decide +kernel
theorem dX1_keep_32 : decode cX1_keep 32 = .ok (.aload_n 0, 1) := by decide +kernel
theorem dX1_keep_33 : decode cX1_keep 33 = .ok (.dup, 1) := by decide +kernel
theorem dX1_keep_34 : decode cX1_keep 34 = .ok (.getfield 21, 3) := by decide +kernel
theorem dX1_keep_37 : decode cX1_keep 37 = .ok (.iconst 1, 1) := by decide +kernel
theorem dX1_keep_38 : decode cX1_keep 38 = .ok (.iadd, 1) := by decide +kernel
theorem dX1_keep_39 : decode cX1_keep 39 = .ok (.putfield 21, 3) := by decide +kernel
theorem dX1_keep_42 : decode cX1_keep 42 = .ok (.aload_n 0, 1) := by decide +kernel
theorem dX1_keep_43 : decode cX1_keep 43 = .ok (.getfield 9, 3) := by decide +kernel
theorem dX1_keep_46 : decode cX1_keep 46 = .ok (.iload 5, 2) := by decide +kernel
theorem dX1_keep_48 : decode cX1_keep 48 = .ok (.iload_n 1, 1) := by decide +kernel
theorem dX1_keep_49 : decode cX1_keep 49 = .ok (.iastore, 1) := by decide +kernel
theorem dX1_keep_50 : decode cX1_keep 50 = .ok (.aload_n 0, 1) := by decide +kernel
theorem dX1_keep_51 : decode cX1_keep 51 = .ok (.getfield 15, 3) := by decide +kernel
theorem dX1_keep_54 : decode cX1_keep 54 = .ok (.iload 5, 2) := by decide +kernel
theorem dX1_keep_56 : decode cX1_keep 56 = .ok (.iload_n 2, 1) := by decide +kernel
theorem dX1_keep_57 : decode cX1_keep 57 = .ok (.iastore, 1) := by decide +kernel
theorem dX1_keep_58 : decode cX1_keep 58 = .ok (.aload_n 0, 1) := by decide +kernel
theorem dX1_keep_59 : decode cX1_keep 59 = .ok (.getfield 18, 3) := by decide +kernel
theorem dX1_keep_62 : decode cX1_keep 62 = .ok (.iload 5, 2) := by decide +kernel
theorem dX1_keep_64 : decode cX1_keep 64 = .ok (.iload_n 3, 1) := by decide +kernel
theorem dX1_keep_65 : decode cX1_keep 65 = .ok (.iastore, 1) := by decide +kernel
theorem dX1_keep_66 : decode cX1_keep 66 = .ok (.return_, 1) := by decide +kernel
theorem dX1_drop_0 : decode cX1_drop 0 = .ok (.iconst 0, 1) := by decide +kernel
theorem dX1_drop_1 : decode cX1_drop 1 = .ok (.istore_n 2, 1) := by decide +kernel
theorem dX1_drop_2 : decode cX1_drop 2 = .ok (.iconst 0, 1) := by decide +kernel
theorem dX1_drop_3 : decode cX1_drop 3 = .ok (.istore_n 3, 1) := by decide +kernel
theorem dX1_drop_4 : decode cX1_drop 4 = .ok (.iload_n 3, 1) := by decide +kernel
theorem dX1_drop_5 : decode cX1_drop 5 = .ok (.aload_n 0, 1) := by decide +kernel
theorem dX1_drop_6 : decode cX1_drop 6 = .ok (.getfield 21, 3) := by decide +kernel
theorem dX1_drop_9 : decode cX1_drop 9 = .ok (.if_icmp .ge 28, 3) := by decide +kernel
theorem dX1_drop_12 : decode cX1_drop 12 = .ok (.aload_n 0, 1) := by decide +kernel
theorem dX1_drop_13 : decode cX1_drop 13 = .ok (.getfield 9, 3) := by decide +kernel
theorem dX1_drop_16 : decode cX1_drop 16 = .ok (.iload_n 3, 1) := by decide +kernel
theorem dX1_drop_17 : decode cX1_drop 17 = .ok (.iaload, 1) := by decide +kernel
theorem dX1_drop_18 : decode cX1_drop 18 = .ok (.iload_n 1, 1) := by decide +kernel
theorem dX1_drop_19 : decode cX1_drop 19 = .ok (.if_icmp .eq 12, 3) := by decide +kernel
theorem dX1_drop_22 : decode cX1_drop 22 = .ok (.aload_n 0, 1) := by decide +kernel
theorem dX1_drop_23 : decode cX1_drop 23 = .ok (.iload_n 3, 1) := by decide +kernel
theorem dX1_drop_24 : decode cX1_drop 24 = .ok (.iload_n 2, 1) := by decide +kernel
theorem dX1_drop_25 : decode cX1_drop 25 = .ok (.invokevirtual 35, 3) := by decide +kernel
theorem dX1_drop_28 : decode cX1_drop 28 = .ok (.iinc 2 1, 3) := by decide +kernel
theorem dX1_drop_31 : decode cX1_drop 31 = .ok (.iinc 3 1, 3) := by decide +kernel
theorem dX1_drop_34 : decode cX1_drop 34 = .ok (.goto (-30), 3) := by decide +kernel
theorem dX1_drop_37 : decode cX1_drop 37 = .ok (.aload_n 0, 1) := by decide +kernel
theorem dX1_drop_38 : decode cX1_drop 38 = .ok (.iload_n 2, 1) := by decide +kernel
theorem dX1_drop_39 : decode cX1_drop 39 = .ok (.putfield 21, 3) := by decide +kernel
theorem dX1_drop_42 : decode cX1_drop 42 = .ok (.return_, 1) := by decide +kernel
theorem dX1_expire_0 : decode cX1_expire 0 = .ok (.iconst 0, 1) := by decide +kernel
theorem dX1_expire_1 : decode cX1_expire 1 = .ok (.istore_n 2, 1) := by decide +kernel
theorem dX1_expire_2 : decode cX1_expire 2 = .ok (.iconst 0, 1) := by decide +kernel
theorem dX1_expire_3 : decode cX1_expire 3 = .ok (.istore_n 3, 1) := by decide +kernel
theorem dX1_expire_4 : decode cX1_expire 4 = .ok (.iload_n 3, 1) := by decide +kernel
theorem dX1_expire_5 : decode cX1_expire 5 = .ok (.aload_n 0, 1) := by decide +kernel
theorem dX1_expire_6 : decode cX1_expire 6 = .ok (.getfield 21, 3) := by decide +kernel
theorem dX1_expire_9 : decode cX1_expire 9 = .ok (.if_icmp .ge 31, 3) := by decide +kernel
theorem dX1_expire_12 : decode cX1_expire 12 = .ok (.iload_n 1, 1) := by decide +kernel
theorem dX1_expire_13 : decode cX1_expire 13 = .ok (.aload_n 0, 1) := by decide +kernel
theorem dX1_expire_14 : decode cX1_expire 14 = .ok (.getfield 18, 3) := by decide +kernel
theorem dX1_expire_17 : decode cX1_expire 17 = .ok (.iload_n 3, 1) := by decide +kernel
theorem dX1_expire_18 : decode cX1_expire 18 = .ok (.iaload, 1) := by decide +kernel
theorem dX1_expire_19 : decode cX1_expire 19 = .ok (.isub, 1) := by decide +kernel
theorem dX1_expire_20 : decode cX1_expire 20 = .ok (.bipush 20, 2) := by decide +kernel
theorem dX1_expire_22 : decode cX1_expire 22 = .ok (.if_icmp .ge 12, 3) := by decide +kernel
theorem dX1_expire_25 : decode cX1_expire 25 = .ok (.aload_n 0, 1) := by decide +kernel
theorem dX1_expire_26 : decode cX1_expire 26 = .ok (.iload_n 3, 1) := by decide +kernel
theorem dX1_expire_27 : decode cX1_expire 27 = .ok (.iload_n 2, 1) := by decide +kernel
theorem dX1_expire_28 : decode cX1_expire 28 = .ok (.invokevirtual 35, 3) := by decide +kernel
theorem dX1_expire_31 : decode cX1_expire 31 = .ok (.iinc 2 1, 3) := by decide +kernel
theorem dX1_expire_34 : decode cX1_expire 34 = .ok (.iinc 3 1, 3) := by decide +kernel
theorem dX1_expire_37 : decode cX1_expire 37 = .ok (.goto (-33), 3) := by decide +kernel
theorem dX1_expire_40 : decode cX1_expire 40 = .ok (.aload_n 0, 1) := by decide +kernel
theorem dX1_expire_41 : decode cX1_expire 41 = .ok (.iload_n 2, 1) := by decide +kernel
theorem dX1_expire_42 : decode cX1_expire 42 = .ok (.putfield 21, 3) := by decide +kernel
theorem dX1_expire_45 : decode cX1_expire 45 = .ok (.return_, 1) := by decide +kernel
theorem dX1_move_0 : decode cX1_move 0 = .ok (.aload_n 0, 1) := by decide +kernel
theorem dX1_move_1 : decode cX1_move 1 = .ok (.getfield 9, 3) := by decide +kernel
theorem dX1_move_4 : decode cX1_move 4 = .ok (.iload_n 2, 1) := by decide +kernel
theorem dX1_move_5 : decode cX1_move 5 = .ok (.aload_n 0, 1) := by decide +kernel
theorem dX1_move_6 : decode cX1_move 6 = .ok (.getfield 9, 3) := by decide +kernel
theorem dX1_move_9 : decode cX1_move 9 = .ok (.iload_n 1, 1) := by decide +kernel
theorem dX1_move_10 : decode cX1_move 10 = .ok (.iaload, 1) := by decide +kernel
theorem dX1_move_11 : decode cX1_move 11 = .ok (.iastore, 1) := by decide +kernel
theorem dX1_move_12 : decode cX1_move 12 = .ok (.aload_n 0, 1) := by decide +kernel
theorem dX1_move_13 : decode cX1_move 13 = .ok (.getfield 15, 3) := by decide +kernel
theorem dX1_move_16 : decode cX1_move 16 = .ok (.iload_n 2, 1) := by decide +kernel
theorem dX1_move_17 : decode cX1_move 17 = .ok (.aload_n 0, 1) := by decide +kernel
theorem dX1_move_18 : decode cX1_move 18 = .ok (.getfield 15, 3) := by decide +kernel
theorem dX1_move_21 : decode cX1_move 21 = .ok (.iload_n 1, 1) := by decide +kernel
theorem dX1_move_22 : decode cX1_move 22 = .ok (.iaload, 1) := by decide +kernel
theorem dX1_move_23 : decode cX1_move 23 = .ok (.iastore, 1) := by decide +kernel
theorem dX1_move_24 : decode cX1_move 24 = .ok (.aload_n 0, 1) := by decide +kernel
theorem dX1_move_25 : decode cX1_move 25 = .ok (.getfield 18, 3) := by decide +kernel
theorem dX1_move_28 : decode cX1_move 28 = .ok (.iload_n 2, 1) := by decide +kernel
theorem dX1_move_29 : decode cX1_move 29 = .ok (.aload_n 0, 1) := by decide +kernel
theorem dX1_move_30 : decode cX1_move 30 = .ok (.getfield 18, 3) := by decide +kernel
theorem dX1_move_33 : decode cX1_move 33 = .ok (.iload_n 1, 1) := by decide +kernel
theorem dX1_move_34 : decode cX1_move 34 = .ok (.iaload, 1) := by decide +kernel
theorem dX1_move_35 : decode cX1_move 35 = .ok (.iastore, 1) := by decide +kernel
theorem dX1_move_36 : decode cX1_move 36 = .ok (.return_, 1) := by decide +kernel
theorem dX1_mixInto_0 : decode cX1_mixInto 0 = .ok (.lload_n 1, 1) := by decide +kernel
theorem dX1_mixInto_1 : decode cX1_mixInto 1 = .ok (.aload_n 0, 1) := by decide +kernel
theorem dX1_mixInto_2 : decode cX1_mixInto 2 = .ok (.getfield 21, 3) := by decide +kernel
theorem dX1_mixInto_5 : decode cX1_mixInto 5 = .ok (.i2l, 1) := by decide +kernel
theorem dX1_mixInto_6 : decode cX1_mixInto 6 = .ok (.invokestatic 39, 3) := by decide +kernel
theorem dX1_mixInto_9 : decode cX1_mixInto 9 = .ok (.lstore 4, 2) := by decide +kernel
theorem dX1_mixInto_11 : decode cX1_mixInto 11 = .ok (.iconst 0, 1) := by decide +kernel
theorem dX1_mixInto_12 : decode cX1_mixInto 12 = .ok (.istore 6, 2) := by decide +kernel
theorem dX1_mixInto_14 : decode cX1_mixInto 14 = .ok (.iload 6, 2) := by decide +kernel
theorem dX1_mixInto_16 : decode cX1_mixInto 16 = .ok (.aload_n 0, 1) := by decide +kernel
theorem dX1_mixInto_17 : decode cX1_mixInto 17 = .ok (.getfield 21, 3) := by decide +kernel
theorem dX1_mixInto_20 : decode cX1_mixInto 20 = .ok (.if_icmp .ge 77, 3) := by decide +kernel
theorem dX1_mixInto_23 : decode cX1_mixInto 23 = .ok (.lload 4, 2) := by decide +kernel
theorem dX1_mixInto_25 : decode cX1_mixInto 25 = .ok (.aload_n 0, 1) := by decide +kernel
theorem dX1_mixInto_26 : decode cX1_mixInto 26 = .ok (.getfield 9, 3) := by decide +kernel
theorem dX1_mixInto_29 : decode cX1_mixInto 29 = .ok (.iload 6, 2) := by decide +kernel
theorem dX1_mixInto_31 : decode cX1_mixInto 31 = .ok (.iaload, 1) := by decide +kernel
theorem dX1_mixInto_32 : decode cX1_mixInto 32 = .ok (.bipush 8, 2) := by decide +kernel
theorem dX1_mixInto_34 : decode cX1_mixInto 34 = .ok (.idiv, 1) := by decide +kernel
theorem dX1_mixInto_35 : decode cX1_mixInto 35 = .ok (.i2l, 1) := by decide +kernel
theorem dX1_mixInto_36 : decode cX1_mixInto 36 = .ok (.invokestatic 39, 3) := by decide +kernel
theorem dX1_mixInto_39 : decode cX1_mixInto 39 = .ok (.lstore 4, 2) := by decide +kernel
theorem dX1_mixInto_41 : decode cX1_mixInto 41 = .ok (.lload 4, 2) := by decide +kernel
theorem dX1_mixInto_43 : decode cX1_mixInto 43 = .ok (.aload_n 0, 1) := by decide +kernel
theorem dX1_mixInto_44 : decode cX1_mixInto 44 = .ok (.getfield 9, 3) := by decide +kernel
theorem dX1_mixInto_47 : decode cX1_mixInto 47 = .ok (.iload 6, 2) := by decide +kernel
theorem dX1_mixInto_49 : decode cX1_mixInto 49 = .ok (.iaload, 1) := by decide +kernel
theorem dX1_mixInto_50 : decode cX1_mixInto 50 = .ok (.bipush 8, 2) := by decide +kernel
theorem dX1_mixInto_52 : decode cX1_mixInto 52 = .ok (.irem, 1) := by decide +kernel
theorem dX1_mixInto_53 : decode cX1_mixInto 53 = .ok (.i2l, 1) := by decide +kernel
theorem dX1_mixInto_54 : decode cX1_mixInto 54 = .ok (.invokestatic 39, 3) := by decide +kernel
theorem dX1_mixInto_57 : decode cX1_mixInto 57 = .ok (.lstore 4, 2) := by decide +kernel
theorem dX1_mixInto_59 : decode cX1_mixInto 59 = .ok (.lload 4, 2) := by decide +kernel
theorem dX1_mixInto_61 : decode cX1_mixInto 61 = .ok (.aload_n 0, 1) := by decide +kernel
theorem dX1_mixInto_62 : decode cX1_mixInto 62 = .ok (.getfield 15, 3) := by decide +kernel
theorem dX1_mixInto_65 : decode cX1_mixInto 65 = .ok (.iload 6, 2) := by decide +kernel
theorem dX1_mixInto_67 : decode cX1_mixInto 67 = .ok (.iaload, 1) := by decide +kernel
theorem dX1_mixInto_68 : decode cX1_mixInto 68 = .ok (.i2l, 1) := by decide +kernel
theorem dX1_mixInto_69 : decode cX1_mixInto 69 = .ok (.invokestatic 39, 3) := by decide +kernel
theorem dX1_mixInto_72 : decode cX1_mixInto 72 = .ok (.lstore 4, 2) := by decide +kernel
theorem dX1_mixInto_74 : decode cX1_mixInto 74 = .ok (.lload 4, 2) := by decide +kernel
theorem dX1_mixInto_76 : decode cX1_mixInto 76 = .ok (.iload_n 3, 1) := by decide +kernel
theorem dX1_mixInto_77 : decode cX1_mixInto 77 = .ok (.aload_n 0, 1) := by decide +kernel
theorem dX1_mixInto_78 : decode cX1_mixInto 78 = .ok (.getfield 18, 3) := by decide +kernel
theorem dX1_mixInto_81 : decode cX1_mixInto 81 = .ok (.iload 6, 2) := by decide +kernel
theorem dX1_mixInto_83 : decode cX1_mixInto 83 = .ok (.iaload, 1) := by decide +kernel
theorem dX1_mixInto_84 : decode cX1_mixInto 84 = .ok (.isub, 1) := by decide +kernel
theorem dX1_mixInto_85 : decode cX1_mixInto 85 = .ok (.i2l, 1) := by decide +kernel
theorem dX1_mixInto_86 : decode cX1_mixInto 86 = .ok (.invokestatic 39, 3) := by decide +kernel
theorem dX1_mixInto_89 : decode cX1_mixInto 89 = .ok (.lstore 4, 2) := by decide +kernel
theorem dX1_mixInto_91 : decode cX1_mixInto 91 = .ok (.iinc 6 1, 3) := by decide +kernel
theorem dX1_mixInto_94 : decode cX1_mixInto 94 = .ok (.goto (-80), 3) := by decide +kernel
theorem dX1_mixInto_97 : decode cX1_mixInto 97 = .ok (.lload 4, 2) := by decide +kernel
theorem dX1_mixInto_99 : decode cX1_mixInto 99 = .ok (.lreturn, 1) := by decide +kernel
theorem dX2_init_0 : decode cX2_init 0 = .ok (.aload_n 0, 1) := by decide +kernel
theorem dX2_init_1 : decode cX2_init 1 = .ok (.invokespecial 3, 3) := by decide +kernel
theorem dX2_init_4 : decode cX2_init 4 = .ok (.aload_n 0, 1) := by decide +kernel
theorem dX2_init_5 : decode cX2_init 5 = .ok (.iconst 3, 1) := by decide +kernel
theorem dX2_init_6 : decode cX2_init 6 = .ok (.anewarray 9, 3) := by decide +kernel
theorem dX2_init_9 : decode cX2_init 9 = .ok (.putfield 11, 3) := by decide +kernel
theorem dX2_init_12 : decode cX2_init 12 = .ok (.iconst 0, 1) := by decide +kernel
theorem dX2_init_13 : decode cX2_init 13 = .ok (.istore_n 1, 1) := by decide +kernel
theorem dX2_init_14 : decode cX2_init 14 = .ok (.iload_n 1, 1) := by decide +kernel
theorem dX2_init_15 : decode cX2_init 15 = .ok (.iconst 3, 1) := by decide +kernel
theorem dX2_init_16 : decode cX2_init 16 = .ok (.if_icmp .ge 22, 3) := by decide +kernel
theorem dX2_init_19 : decode cX2_init 19 = .ok (.aload_n 0, 1) := by decide +kernel
theorem dX2_init_20 : decode cX2_init 20 = .ok (.getfield 11, 3) := by decide +kernel
theorem dX2_init_23 : decode cX2_init 23 = .ok (.iload_n 1, 1) := by decide +kernel
theorem dX2_init_24 : decode cX2_init 24 = .ok (.new 9, 3) := by decide +kernel
theorem dX2_init_27 : decode cX2_init 27 = .ok (.dup, 1) := by decide +kernel
theorem dX2_init_28 : decode cX2_init 28 = .ok (.invokespecial 17, 3) := by decide +kernel
theorem dX2_init_31 : decode cX2_init 31 = .ok (.aastore, 1) := by decide +kernel
theorem dX2_init_32 : decode cX2_init 32 = .ok (.iinc 1 1, 3) := by decide +kernel
theorem dX2_init_35 : decode cX2_init 35 = .ok (.goto (-21), 3) := by decide +kernel
theorem dX2_init_38 : decode cX2_init 38 = .ok (.aload_n 0, 1) := by decide +kernel
theorem dX2_init_39 : decode cX2_init 39 = .ok (.iconst 0, 1) := by decide +kernel
theorem dX2_init_40 : decode cX2_init 40 = .ok (.putfield 18, 3) := by decide +kernel
theorem dX2_init_43 : decode cX2_init 43 = .ok (.return_, 1) := by decide +kernel
theorem dX2_save_0 : decode cX2_save 0 = .ok (.aload_n 0, 1) := by decide +kernel
theorem dX2_save_1 : decode cX2_save 1 = .ok (.getfield 18, 3) := by decide +kernel
theorem dX2_save_4 : decode cX2_save 4 = .ok (.iconst 3, 1) := by decide +kernel
theorem dX2_save_5 : decode cX2_save 5 = .ok (.if_icmp .lt 7, 3) := by decide +kernel
theorem dX2_save_8 : decode cX2_save 8 = .ok (.aload_n 0, 1) := by decide +kernel
theorem dX2_save_9 : decode cX2_save 9 = .ok (.invokevirtual 22, 3) := by decide +kernel
theorem dX2_save_12 : decode cX2_save 12 = .ok (.aload_n 0, 1) := by decide +kernel
theorem dX2_save_13 : decode cX2_save 13 = .ok (.getfield 11, 3) := by decide +kernel
theorem dX2_save_16 : decode cX2_save 16 = .ok (.aload_n 0, 1) := by decide +kernel
theorem dX2_save_17 : decode cX2_save 17 = .ok (.getfield 18, 3) := by decide +kernel
theorem dX2_save_20 : decode cX2_save 20 = .ok (.aaload, 1) := by decide +kernel
theorem dX2_save_21 : decode cX2_save 21 = .ok (.aload_n 1, 1) := by decide +kernel
theorem dX2_save_22 : decode cX2_save 22 = .ok (.invokevirtual 25, 3) := by decide +kernel
theorem dX2_save_25 : decode cX2_save 25 = .ok (.aload_n 0, 1) := by decide +kernel
theorem dX2_save_26 : decode cX2_save 26 = .ok (.dup, 1) := by decide +kernel
theorem dX2_save_27 : decode cX2_save 27 = .ok (.getfield 18, 3) := by decide +kernel
theorem dX2_save_30 : decode cX2_save 30 = .ok (.iconst 1, 1) := by decide +kernel
theorem dX2_save_31 : decode cX2_save 31 = .ok (.iadd, 1) := by decide +kernel
theorem dX2_save_32 : decode cX2_save 32 = .ok (.putfield 18, 3) := by decide +kernel
theorem dX2_save_35 : decode cX2_save 35 = .ok (.return_, 1) := by decide +kernel
theorem dX2_dropOldest_0 : decode cX2_dropOldest 0 = .ok (.aload_n 0, 1) := by decide +kernel
theorem dX2_dropOldest_1 : decode cX2_dropOldest 1 = .ok (.getfield 11, 3) := by decide +kernel
theorem dX2_dropOldest_4 : decode cX2_dropOldest 4 = .ok (.iconst 0, 1) := by decide +kernel
theorem dX2_dropOldest_5 : decode cX2_dropOldest 5 = .ok (.aaload, 1) := by decide +kernel
theorem dX2_dropOldest_6 : decode cX2_dropOldest 6 = .ok (.astore_n 1, 1) := by decide +kernel
theorem dX2_dropOldest_7 : decode cX2_dropOldest 7 = .ok (.iconst 1, 1) := by decide +kernel
theorem dX2_dropOldest_8 : decode cX2_dropOldest 8 = .ok (.istore_n 2, 1) := by decide +kernel
theorem dX2_dropOldest_9 : decode cX2_dropOldest 9 = .ok (.iload_n 2, 1) := by decide +kernel
theorem dX2_dropOldest_10 : decode cX2_dropOldest 10 = .ok (.iconst 3, 1) := by decide +kernel
theorem dX2_dropOldest_11 : decode cX2_dropOldest 11 = .ok (.if_icmp .ge 23, 3) := by decide +kernel
theorem dX2_dropOldest_14 : decode cX2_dropOldest 14 = .ok (.aload_n 0, 1) := by decide +kernel
theorem dX2_dropOldest_15 : decode cX2_dropOldest 15 = .ok (.getfield 11, 3) := by decide +kernel
theorem dX2_dropOldest_18 : decode cX2_dropOldest 18 = .ok (.iload_n 2, 1) := by decide +kernel
theorem dX2_dropOldest_19 : decode cX2_dropOldest 19 = .ok (.iconst 1, 1) := by decide +kernel
theorem dX2_dropOldest_20 : decode cX2_dropOldest 20 = .ok (.isub, 1) := by decide +kernel
theorem dX2_dropOldest_21 : decode cX2_dropOldest 21 = .ok (.aload_n 0, 1) := by decide +kernel
theorem dX2_dropOldest_22 : decode cX2_dropOldest 22 = .ok (.getfield 11, 3) := by decide +kernel
theorem dX2_dropOldest_25 : decode cX2_dropOldest 25 = .ok (.iload_n 2, 1) := by decide +kernel
theorem dX2_dropOldest_26 : decode cX2_dropOldest 26 = .ok (.aaload, 1) := by decide +kernel
theorem dX2_dropOldest_27 : decode cX2_dropOldest 27 = .ok (.aastore, 1) := by decide +kernel
theorem dX2_dropOldest_28 : decode cX2_dropOldest 28 = .ok (.iinc 2 1, 3) := by decide +kernel
theorem dX2_dropOldest_31 : decode cX2_dropOldest 31 = .ok (.goto (-22), 3) := by decide +kernel
theorem dX2_dropOldest_34 : decode cX2_dropOldest 34 = .ok (.aload_n 0, 1) := by decide +kernel
theorem dX2_dropOldest_35 : decode cX2_dropOldest 35 = .ok (.getfield 11, 3) := by decide +kernel
theorem dX2_dropOldest_38 : decode cX2_dropOldest 38 = .ok (.iconst 2, 1) := by decide +kernel
theorem dX2_dropOldest_39 : decode cX2_dropOldest 39 = .ok (.aload_n 1, 1) := by decide +kernel
theorem dX2_dropOldest_40 : decode cX2_dropOldest 40 = .ok (.aastore, 1) := by decide +kernel
theorem dX2_dropOldest_41 : decode cX2_dropOldest 41 = .ok (.aload_n 0, 1) := by decide +kernel
theorem dX2_dropOldest_42 : decode cX2_dropOldest 42 = .ok (.iconst 2, 1) := by decide +kernel
theorem dX2_dropOldest_43 : decode cX2_dropOldest 43 = .ok (.putfield 18, 3) := by decide +kernel
theorem dX2_dropOldest_46 : decode cX2_dropOldest 46 = .ok (.return_, 1) := by decide +kernel
theorem dX2_takeBack_0 : decode cX2_takeBack 0 = .ok (.aload_n 0, 1) := by decide +kernel
theorem dX2_takeBack_1 : decode cX2_takeBack 1 = .ok (.getfield 18, 3) := by decide +kernel
theorem dX2_takeBack_4 : decode cX2_takeBack 4 = .ok (.ifCond .gt 5, 3) := by decide +kernel
theorem dX2_takeBack_7 : decode cX2_takeBack 7 = .ok (.aload_n 1, 1) := by decide +kernel
theorem dX2_takeBack_8 : decode cX2_takeBack 8 = .ok (.areturn, 1) := by decide +kernel
theorem dX2_takeBack_9 : decode cX2_takeBack 9 = .ok (.aload_n 0, 1) := by decide +kernel
theorem dX2_takeBack_10 : decode cX2_takeBack 10 = .ok (.dup, 1) := by decide +kernel
theorem dX2_takeBack_11 : decode cX2_takeBack 11 = .ok (.getfield 18, 3) := by decide +kernel
theorem dX2_takeBack_14 : decode cX2_takeBack 14 = .ok (.iconst 1, 1) := by decide +kernel
theorem dX2_takeBack_15 : decode cX2_takeBack 15 = .ok (.isub, 1) := by decide +kernel
theorem dX2_takeBack_16 : decode cX2_takeBack 16 = .ok (.putfield 18, 3) := by decide +kernel
theorem dX2_takeBack_19 : decode cX2_takeBack 19 = .ok (.aload_n 0, 1) := by decide +kernel
theorem dX2_takeBack_20 : decode cX2_takeBack 20 = .ok (.getfield 11, 3) := by decide +kernel
theorem dX2_takeBack_23 : decode cX2_takeBack 23 = .ok (.aload_n 0, 1) := by decide +kernel
theorem dX2_takeBack_24 : decode cX2_takeBack 24 = .ok (.getfield 18, 3) := by decide +kernel
theorem dX2_takeBack_27 : decode cX2_takeBack 27 = .ok (.aaload, 1) := by decide +kernel
theorem dX2_takeBack_28 : decode cX2_takeBack 28 = .ok (.astore_n 2, 1) := by decide +kernel
theorem dX2_takeBack_29 : decode cX2_takeBack 29 = .ok (.aload_n 0, 1) := by decide +kernel
theorem dX2_takeBack_30 : decode cX2_takeBack 30 = .ok (.getfield 11, 3) := by decide +kernel
theorem dX2_takeBack_33 : decode cX2_takeBack 33 = .ok (.aload_n 0, 1) := by decide +kernel
theorem dX2_takeBack_34 : decode cX2_takeBack 34 = .ok (.getfield 18, 3) := by decide +kernel
theorem dX2_takeBack_37 : decode cX2_takeBack 37 = .ok (.aload_n 1, 1) := by decide +kernel
theorem dX2_takeBack_38 : decode cX2_takeBack 38 = .ok (.aastore, 1) := by decide +kernel
theorem dX2_takeBack_39 : decode cX2_takeBack 39 = .ok (.aload_n 2, 1) := by decide +kernel
theorem dX2_takeBack_40 : decode cX2_takeBack 40 = .ok (.areturn, 1) := by decide +kernel
theorem dX3_init_0 : decode cX3_init 0 = .ok (.aload_n 0, 1) := by decide +kernel
theorem dX3_init_1 : decode cX3_init 1 = .ok (.invokespecial 3, 3) := by decide +kernel
theorem dX3_init_4 : decode cX3_init 4 = .ok (.aload_n 0, 1) := by decide +kernel
theorem dX3_init_5 : decode cX3_init 5 = .ok (.bipush 16, 2) := by decide +kernel
theorem dX3_init_7 : decode cX3_init 7 = .ok (.newarray .int, 2) := by decide +kernel
theorem dX3_init_9 : decode cX3_init 9 = .ok (.putfield 9, 3) := by decide +kernel
theorem dX3_init_12 : decode cX3_init 12 = .ok (.return_, 1) := by decide +kernel
theorem dX3_copyFrom_0 : decode cX3_copyFrom 0 = .ok (.aload_n 1, 1) := by decide +kernel
theorem dX3_copyFrom_1 : decode cX3_copyFrom 1 = .ok (.getfield 9, 3) := by decide +kernel
theorem dX3_copyFrom_4 : decode cX3_copyFrom 4 = .ok (.iconst 0, 1) := by decide +kernel
theorem dX3_copyFrom_5 : decode cX3_copyFrom 5 = .ok (.aload_n 0, 1) := by decide +kernel
theorem dX3_copyFrom_6 : decode cX3_copyFrom 6 = .ok (.getfield 9, 3) := by decide +kernel
theorem dX3_copyFrom_9 : decode cX3_copyFrom 9 = .ok (.iconst 0, 1) := by decide +kernel
theorem dX3_copyFrom_10 : decode cX3_copyFrom 10 = .ok (.bipush 16, 2) := by decide +kernel
theorem dX3_copyFrom_12 : decode cX3_copyFrom 12 = .ok (.invokestatic 15, 3) := by decide +kernel
theorem dX3_copyFrom_15 : decode cX3_copyFrom 15 = .ok (.return_, 1) := by decide +kernel
theorem dX3_countAt_0 : decode cX3_countAt 0 = .ok (.aload_n 0, 1) := by decide +kernel
theorem dX3_countAt_1 : decode cX3_countAt 1 = .ok (.getfield 9, 3) := by decide +kernel
theorem dX3_countAt_4 : decode cX3_countAt 4 = .ok (.iload_n 1, 1) := by decide +kernel
theorem dX3_countAt_5 : decode cX3_countAt 5 = .ok (.bipush 16, 2) := by decide +kernel
theorem dX3_countAt_7 : decode cX3_countAt 7 = .ok (.invokestatic 21, 3) := by decide +kernel
theorem dX3_countAt_10 : decode cX3_countAt 10 = .ok (.dup2, 1) := by decide +kernel
theorem dX3_countAt_11 : decode cX3_countAt 11 = .ok (.iaload, 1) := by decide +kernel
theorem dX3_countAt_12 : decode cX3_countAt 12 = .ok (.iconst 1, 1) := by decide +kernel
theorem dX3_countAt_13 : decode cX3_countAt 13 = .ok (.iadd, 1) := by decide +kernel
theorem dX3_countAt_14 : decode cX3_countAt 14 = .ok (.iastore, 1) := by decide +kernel
theorem dX3_countAt_15 : decode cX3_countAt 15 = .ok (.return_, 1) := by decide +kernel
theorem dX3_pass_0 : decode cX3_pass 0 = .ok (.iload_n 2, 1) := by decide +kernel
theorem dX3_pass_1 : decode cX3_pass 1 = .ok (.bipush 16, 2) := by decide +kernel
theorem dX3_pass_3 : decode cX3_pass 3 = .ok (.invokestatic 27, 3) := by decide +kernel
theorem dX3_pass_6 : decode cX3_pass 6 = .ok (.istore_n 3, 1) := by decide +kernel
theorem dX3_pass_7 : decode cX3_pass 7 = .ok (.iconst 1, 1) := by decide +kernel
theorem dX3_pass_8 : decode cX3_pass 8 = .ok (.istore 4, 2) := by decide +kernel
theorem dX3_pass_10 : decode cX3_pass 10 = .ok (.iload 4, 2) := by decide +kernel
theorem dX3_pass_12 : decode cX3_pass 12 = .ok (.iload_n 3, 1) := by decide +kernel
theorem dX3_pass_13 : decode cX3_pass 13 = .ok (.if_icmp .gt 24, 3) := by decide +kernel
theorem dX3_pass_16 : decode cX3_pass 16 = .ok (.aload_n 0, 1) := by decide +kernel
theorem dX3_pass_17 : decode cX3_pass 17 = .ok (.getfield 9, 3) := by decide +kernel
theorem dX3_pass_20 : decode cX3_pass 20 = .ok (.iload_n 1, 1) := by decide +kernel
theorem dX3_pass_21 : decode cX3_pass 21 = .ok (.iload 4, 2) := by decide +kernel
theorem dX3_pass_23 : decode cX3_pass 23 = .ok (.iadd, 1) := by decide +kernel
theorem dX3_pass_24 : decode cX3_pass 24 = .ok (.bipush 16, 2) := by decide +kernel
theorem dX3_pass_26 : decode cX3_pass 26 = .ok (.invokestatic 21, 3) := by decide +kernel
theorem dX3_pass_29 : decode cX3_pass 29 = .ok (.iconst 0, 1) := by decide +kernel
theorem dX3_pass_30 : decode cX3_pass 30 = .ok (.iastore, 1) := by decide +kernel
theorem dX3_pass_31 : decode cX3_pass 31 = .ok (.iinc 4 1, 3) := by decide +kernel
theorem dX3_pass_34 : decode cX3_pass 34 = .ok (.goto (-24), 3) := by decide +kernel
theorem dX3_pass_37 : decode cX3_pass 37 = .ok (.return_, 1) := by decide +kernel
theorem dX3_total_0 : decode cX3_total 0 = .ok (.iconst 0, 1) := by decide +kernel
theorem dX3_total_1 : decode cX3_total 1 = .ok (.istore_n 1, 1) := by decide +kernel
theorem dX3_total_2 : decode cX3_total 2 = .ok (.iconst 0, 1) := by decide +kernel
theorem dX3_total_3 : decode cX3_total 3 = .ok (.istore_n 2, 1) := by decide +kernel
theorem dX3_total_4 : decode cX3_total 4 = .ok (.iload_n 2, 1) := by decide +kernel
theorem dX3_total_5 : decode cX3_total 5 = .ok (.bipush 16, 2) := by decide +kernel
theorem dX3_total_7 : decode cX3_total 7 = .ok (.if_icmp .ge 18, 3) := by decide +kernel
theorem dX3_total_10 : decode cX3_total 10 = .ok (.iload_n 1, 1) := by decide +kernel
theorem dX3_total_11 : decode cX3_total 11 = .ok (.aload_n 0, 1) := by decide +kernel
theorem dX3_total_12 : decode cX3_total 12 = .ok (.getfield 9, 3) := by decide +kernel
theorem dX3_total_15 : decode cX3_total 15 = .ok (.iload_n 2, 1) := by decide +kernel
theorem dX3_total_16 : decode cX3_total 16 = .ok (.iaload, 1) := by decide +kernel
theorem dX3_total_17 : decode cX3_total 17 = .ok (.iadd, 1) := by decide +kernel
theorem dX3_total_18 : decode cX3_total 18 = .ok (.istore_n 1, 1) := by decide +kernel
theorem dX3_total_19 : decode cX3_total 19 = .ok (.iinc 2 1, 3) := by decide +kernel
theorem dX3_total_22 : decode cX3_total 22 = .ok (.goto (-18), 3) := by decide +kernel
theorem dX3_total_25 : decode cX3_total 25 = .ok (.iload_n 1, 1) := by decide +kernel
theorem dX3_total_26 : decode cX3_total 26 = .ok (.ireturn, 1) := by decide +kernel
theorem dX4_init_0 : decode cX4_init 0 = .ok (.aload_n 0, 1) := by decide +kernel
theorem dX4_init_1 : decode cX4_init 1 = .ok (.invokespecial 3, 3) := by decide +kernel
theorem dX4_init_4 : decode cX4_init 4 = .ok (.aload_n 0, 1) := by decide +kernel
theorem dX4_init_5 : decode cX4_init 5 = .ok (.sipush 128, 3) := by decide +kernel
theorem dX4_init_8 : decode cX4_init 8 = .ok (.newarray .int, 2) := by decide +kernel
theorem dX4_init_10 : decode cX4_init 10 = .ok (.putfield 9, 3) := by decide +kernel
theorem dX4_init_13 : decode cX4_init 13 = .ok (.aload_n 0, 1) := by decide +kernel
theorem dX4_init_14 : decode cX4_init 14 = .ok (.iconst 0, 1) := by decide +kernel
theorem dX4_init_15 : decode cX4_init 15 = .ok (.putfield 15, 3) := by decide +kernel
theorem dX4_init_18 : decode cX4_init 18 = .ok (.return_, 1) := by decide +kernel
theorem dX4_copyFrom_0 : decode cX4_copyFrom 0 = .ok (.aload_n 1, 1) := by decide +kernel
theorem dX4_copyFrom_1 : decode cX4_copyFrom 1 = .ok (.getfield 9, 3) := by decide +kernel
theorem dX4_copyFrom_4 : decode cX4_copyFrom 4 = .ok (.iconst 0, 1) := by decide +kernel
theorem dX4_copyFrom_5 : decode cX4_copyFrom 5 = .ok (.aload_n 0, 1) := by decide +kernel
theorem dX4_copyFrom_6 : decode cX4_copyFrom 6 = .ok (.getfield 9, 3) := by decide +kernel
theorem dX4_copyFrom_9 : decode cX4_copyFrom 9 = .ok (.iconst 0, 1) := by decide +kernel
theorem dX4_copyFrom_10 : decode cX4_copyFrom 10 = .ok (.sipush 128, 3) := by decide +kernel
theorem dX4_copyFrom_13 : decode cX4_copyFrom 13 = .ok (.invokestatic 19, 3) := by decide +kernel
theorem dX4_copyFrom_16 : decode cX4_copyFrom 16 = .ok (.aload_n 0, 1) := by decide +kernel
theorem dX4_copyFrom_17 : decode cX4_copyFrom 17 = .ok (.aload_n 1, 1) := by decide +kernel
theorem dX4_copyFrom_18 : decode cX4_copyFrom 18 = .ok (.getfield 15, 3) := by decide +kernel
theorem dX4_copyFrom_21 : decode cX4_copyFrom 21 = .ok (.putfield 15, 3) := by decide +kernel
theorem dX4_copyFrom_24 : decode cX4_copyFrom 24 = .ok (.return_, 1) := by decide +kernel
theorem dX4_isConnected_0 : decode cX4_isConnected 0 = .ok (.aload_n 0, 1) := by decide +kernel
theorem dX4_isConnected_1 : decode cX4_isConnected 1 = .ok (.getfield 9, 3) := by decide +kernel
theorem dX4_isConnected_4 : decode cX4_isConnected 4 = .ok (.iload_n 1, 1) := by decide +kernel
theorem dX4_isConnected_5 : decode cX4_isConnected 5 = .ok (.iaload, 1) := by decide +kernel
theorem dX4_isConnected_6 : decode cX4_isConnected 6 = .ok (.ifCond .le 7, 3) := by decide +kernel
theorem dX4_isConnected_9 : decode cX4_isConnected 9 = .ok (.iconst 1, 1) := by decide +kernel
theorem dX4_isConnected_10 : decode cX4_isConnected 10 = .ok (.goto 4, 3) := by decide +kernel
theorem dX4_isConnected_13 : decode cX4_isConnected 13 = .ok (.iconst 0, 1) := by decide +kernel
theorem dX4_isConnected_14 : decode cX4_isConnected 14 = .ok (.ireturn, 1) := by decide +kernel
theorem dX4_isFull_0 : decode cX4_isFull 0 = .ok (.aload_n 0, 1) := by decide +kernel
theorem dX4_isFull_1 : decode cX4_isFull 1 = .ok (.getfield 15, 3) := by decide +kernel
theorem dX4_isFull_4 : decode cX4_isFull 4 = .ok (.bipush 10, 2) := by decide +kernel
theorem dX4_isFull_6 : decode cX4_isFull 6 = .ok (.if_icmp .lt 7, 3) := by decide +kernel
theorem dX4_isFull_9 : decode cX4_isFull 9 = .ok (.iconst 1, 1) := by decide +kernel
theorem dX4_isFull_10 : decode cX4_isFull 10 = .ok (.goto 4, 3) := by decide +kernel
theorem dX4_isFull_13 : decode cX4_isFull 13 = .ok (.iconst 0, 1) := by decide +kernel
theorem dX4_isFull_14 : decode cX4_isFull 14 = .ok (.ireturn, 1) := by decide +kernel
theorem dX4_optionAt_0 : decode cX4_optionAt 0 = .ok (.aload_n 0, 1) := by decide +kernel
theorem dX4_optionAt_1 : decode cX4_optionAt 1 = .ok (.getfield 9, 3) := by decide +kernel
theorem dX4_optionAt_4 : decode cX4_optionAt 4 = .ok (.iload_n 1, 1) := by decide +kernel
theorem dX4_optionAt_5 : decode cX4_optionAt 5 = .ok (.iaload, 1) := by decide +kernel
theorem dX4_optionAt_6 : decode cX4_optionAt 6 = .ok (.iconst 1, 1) := by decide +kernel
theorem dX4_optionAt_7 : decode cX4_optionAt 7 = .ok (.isub, 1) := by decide +kernel
theorem dX4_optionAt_8 : decode cX4_optionAt 8 = .ok (.ireturn, 1) := by decide +kernel
theorem dX4_countOf_0 : decode cX4_countOf 0 = .ok (.iconst 0, 1) := by decide +kernel
theorem dX4_countOf_1 : decode cX4_countOf 1 = .ok (.istore_n 2, 1) := by decide +kernel
theorem dX4_countOf_2 : decode cX4_countOf 2 = .ok (.iconst 0, 1) := by decide +kernel
theorem dX4_countOf_3 : decode cX4_countOf 3 = .ok (.istore_n 3, 1) := by decide +kernel
theorem dX4_countOf_4 : decode cX4_countOf 4 = .ok (.iload_n 3, 1) := by decide +kernel
theorem dX4_countOf_5 : decode cX4_countOf 5 = .ok (.bipush 8, 2) := by decide +kernel
theorem dX4_countOf_7 : decode cX4_countOf 7 = .ok (.if_icmp .ge 24, 3) := by decide +kernel
theorem dX4_countOf_10 : decode cX4_countOf 10 = .ok (.aload_n 0, 1) := by decide +kernel
theorem dX4_countOf_11 : decode cX4_countOf 11 = .ok (.iload_n 1, 1) := by decide +kernel
theorem dX4_countOf_12 : decode cX4_countOf 12 = .ok (.iload_n 3, 1) := by decide +kernel
theorem dX4_countOf_13 : decode cX4_countOf 13 = .ok (.invokestatic 25, 3) := by decide +kernel
theorem dX4_countOf_16 : decode cX4_countOf 16 = .ok (.invokevirtual 29, 3) := by decide +kernel
theorem dX4_countOf_19 : decode cX4_countOf 19 = .ok (.ifCond .eq 6, 3) := by decide +kernel
theorem dX4_countOf_22 : decode cX4_countOf 22 = .ok (.iinc 2 1, 3) := by decide +kernel
theorem dX4_countOf_25 : decode cX4_countOf 25 = .ok (.iinc 3 1, 3) := by decide +kernel
theorem dX4_countOf_28 : decode cX4_countOf 28 = .ok (.goto (-24), 3) := by decide +kernel
theorem dX4_countOf_31 : decode cX4_countOf 31 = .ok (.iload_n 2, 1) := by decide +kernel
theorem dX4_countOf_32 : decode cX4_countOf 32 = .ok (.ireturn, 1) := by decide +kernel
theorem dX4_connect_0 : decode cX4_connect 0 = .ok (.aload_n 0, 1) := by decide +kernel
theorem dX4_connect_1 : decode cX4_connect 1 = .ok (.getfield 9, 3) := by decide +kernel
theorem dX4_connect_4 : decode cX4_connect 4 = .ok (.iload_n 1, 1) := by decide +kernel
theorem dX4_connect_5 : decode cX4_connect 5 = .ok (.iconst 1, 1) := by decide +kernel
theorem dX4_connect_6 : decode cX4_connect 6 = .ok (.iload_n 2, 1) := by decide +kernel
theorem dX4_connect_7 : decode cX4_connect 7 = .ok (.iadd, 1) := by decide +kernel
theorem dX4_connect_8 : decode cX4_connect 8 = .ok (.iastore, 1) := by decide +kernel
theorem dX4_connect_9 : decode cX4_connect 9 = .ok (.aload_n 0, 1) := by decide +kernel
theorem dX4_connect_10 : decode cX4_connect 10 = .ok (.dup, 1) := by decide +kernel
theorem dX4_connect_11 : decode cX4_connect 11 = .ok (.getfield 15, 3) := by decide +kernel
theorem dX4_connect_14 : decode cX4_connect 14 = .ok (.iconst 1, 1) := by decide +kernel
theorem dX4_connect_15 : decode cX4_connect 15 = .ok (.iadd, 1) := by decide +kernel
theorem dX4_connect_16 : decode cX4_connect 16 = .ok (.putfield 15, 3) := by decide +kernel
theorem dX4_connect_19 : decode cX4_connect 19 = .ok (.return_, 1) := by decide +kernel
theorem dX4_disconnect_0 : decode cX4_disconnect 0 = .ok (.aload_n 0, 1) := by decide +kernel
theorem dX4_disconnect_1 : decode cX4_disconnect 1 = .ok (.getfield 9, 3) := by decide +kernel
theorem dX4_disconnect_4 : decode cX4_disconnect 4 = .ok (.iload_n 1, 1) := by decide +kernel
theorem dX4_disconnect_5 : decode cX4_disconnect 5 = .ok (.iconst 0, 1) := by decide +kernel
theorem dX4_disconnect_6 : decode cX4_disconnect 6 = .ok (.iastore, 1) := by decide +kernel
theorem dX4_disconnect_7 : decode cX4_disconnect 7 = .ok (.aload_n 0, 1) := by decide +kernel
theorem dX4_disconnect_8 : decode cX4_disconnect 8 = .ok (.dup, 1) := by decide +kernel
theorem dX4_disconnect_9 : decode cX4_disconnect 9 = .ok (.getfield 15, 3) := by decide +kernel
theorem dX4_disconnect_12 : decode cX4_disconnect 12 = .ok (.iconst 1, 1) := by decide +kernel
theorem dX4_disconnect_13 : decode cX4_disconnect 13 = .ok (.isub, 1) := by decide +kernel
theorem dX4_disconnect_14 : decode cX4_disconnect 14 = .ok (.putfield 15, 3) := by decide +kernel
theorem dX4_disconnect_17 : decode cX4_disconnect 17 = .ok (.return_, 1) := by decide +kernel
theorem dX4_mixInto_0 : decode cX4_mixInto 0 = .ok (.lload_n 1, 1) := by decide +kernel
theorem dX4_mixInto_1 : decode cX4_mixInto 1 = .ok (.aload_n 0, 1) := by decide +kernel
theorem dX4_mixInto_2 : decode cX4_mixInto 2 = .ok (.getfield 15, 3) := by decide +kernel
theorem dX4_mixInto_5 : decode cX4_mixInto 5 = .ok (.i2l, 1) := by decide +kernel
theorem dX4_mixInto_6 : decode cX4_mixInto 6 = .ok (.invokestatic 33, 3) := by decide +kernel
theorem dX4_mixInto_9 : decode cX4_mixInto 9 = .ok (.lstore_n 3, 1) := by decide +kernel
theorem dX4_mixInto_10 : decode cX4_mixInto 10 = .ok (.iconst 0, 1) := by decide +kernel
theorem dX4_mixInto_11 : decode cX4_mixInto 11 = .ok (.istore 5, 2) := by decide +kernel
theorem dX4_mixInto_13 : decode cX4_mixInto 13 = .ok (.iload 5, 2) := by decide +kernel
theorem dX4_mixInto_15 : decode cX4_mixInto 15 = .ok (.sipush 128, 3) := by decide +kernel
theorem dX4_mixInto_18 : decode cX4_mixInto 18 = .ok (.if_icmp .ge 22, 3) := by decide +kernel
theorem dX4_mixInto_21 : decode cX4_mixInto 21 = .ok (.lload_n 3, 1) := by decide +kernel
theorem dX4_mixInto_22 : decode cX4_mixInto 22 = .ok (.aload_n 0, 1) := by decide +kernel
theorem dX4_mixInto_23 : decode cX4_mixInto 23 = .ok (.getfield 9, 3) := by decide +kernel
theorem dX4_mixInto_26 : decode cX4_mixInto 26 = .ok (.iload 5, 2) := by decide +kernel
theorem dX4_mixInto_28 : decode cX4_mixInto 28 = .ok (.iaload, 1) := by decide +kernel
theorem dX4_mixInto_29 : decode cX4_mixInto 29 = .ok (.i2l, 1) := by decide +kernel
theorem dX4_mixInto_30 : decode cX4_mixInto 30 = .ok (.invokestatic 33, 3) := by decide +kernel
theorem dX4_mixInto_33 : decode cX4_mixInto 33 = .ok (.lstore_n 3, 1) := by decide +kernel
theorem dX4_mixInto_34 : decode cX4_mixInto 34 = .ok (.iinc 5 1, 3) := by decide +kernel
theorem dX4_mixInto_37 : decode cX4_mixInto 37 = .ok (.goto (-24), 3) := by decide +kernel
theorem dX4_mixInto_40 : decode cX4_mixInto 40 = .ok (.lload_n 3, 1) := by decide +kernel
theorem dX4_mixInto_41 : decode cX4_mixInto 41 = .ok (.lreturn, 1) := by decide +kernel
theorem dX5_init_0 : decode cX5_init 0 = .ok (.aload_n 0, 1) := by decide +kernel
theorem dX5_init_1 : decode cX5_init 1 = .ok (.invokespecial 3, 3) := by decide +kernel
theorem dX5_init_4 : decode cX5_init 4 = .ok (.aload_n 0, 1) := by decide +kernel
theorem dX5_init_5 : decode cX5_init 5 = .ok (.sipush 128, 3) := by decide +kernel
theorem dX5_init_8 : decode cX5_init 8 = .ok (.newarray .int, 2) := by decide +kernel
theorem dX5_init_10 : decode cX5_init 10 = .ok (.putfield 9, 3) := by decide +kernel
theorem dX5_init_13 : decode cX5_init 13 = .ok (.aload_n 0, 1) := by decide +kernel
theorem dX5_init_14 : decode cX5_init 14 = .ok (.bipush 16, 2) := by decide +kernel
theorem dX5_init_16 : decode cX5_init 16 = .ok (.newarray .int, 2) := by decide +kernel
theorem dX5_init_18 : decode cX5_init 18 = .ok (.putfield 15, 3) := by decide +kernel
theorem dX5_init_21 : decode cX5_init 21 = .ok (.aload_n 0, 1) := by decide +kernel
theorem dX5_init_22 : decode cX5_init 22 = .ok (.bipush 16, 2) := by decide +kernel
theorem dX5_init_24 : decode cX5_init 24 = .ok (.newarray .int, 2) := by decide +kernel
theorem dX5_init_26 : decode cX5_init 26 = .ok (.putfield 18, 3) := by decide +kernel
theorem dX5_init_29 : decode cX5_init 29 = .ok (.aload_n 0, 1) := by decide +kernel
theorem dX5_init_30 : decode cX5_init 30 = .ok (.bipush 16, 2) := by decide +kernel
theorem dX5_init_32 : decode cX5_init 32 = .ok (.newarray .int, 2) := by decide +kernel
theorem dX5_init_34 : decode cX5_init 34 = .ok (.putfield 21, 3) := by decide +kernel
theorem dX5_init_37 : decode cX5_init 37 = .ok (.aload_n 0, 1) := by decide +kernel
theorem dX5_init_38 : decode cX5_init 38 = .ok (.iconst 0, 1) := by decide +kernel
theorem dX5_init_39 : decode cX5_init 39 = .ok (.putfield 24, 3) := by decide +kernel
theorem dX5_init_42 : decode cX5_init 42 = .ok (.aload_n 0, 1) := by decide +kernel
theorem dX5_init_43 : decode cX5_init 43 = .ok (.iconst 0, 1) := by decide +kernel
theorem dX5_init_44 : decode cX5_init 44 = .ok (.putfield 28, 3) := by decide +kernel
theorem dX5_init_47 : decode cX5_init 47 = .ok (.aload_n 0, 1) := by decide +kernel
theorem dX5_init_48 : decode cX5_init 48 = .ok (.iconst 0, 1) := by decide +kernel
theorem dX5_init_49 : decode cX5_init 49 = .ok (.putfield 31, 3) := by decide +kernel
theorem dX5_init_52 : decode cX5_init 52 = .ok (.return_, 1) := by decide +kernel
theorem dX5_copyFrom_0 : decode cX5_copyFrom 0 = .ok (.aload_n 1, 1) := by decide +kernel
theorem dX5_copyFrom_1 : decode cX5_copyFrom 1 = .ok (.getfield 9, 3) := by decide +kernel
theorem dX5_copyFrom_4 : decode cX5_copyFrom 4 = .ok (.iconst 0, 1) := by decide +kernel
theorem dX5_copyFrom_5 : decode cX5_copyFrom 5 = .ok (.aload_n 0, 1) := by decide +kernel
theorem dX5_copyFrom_6 : decode cX5_copyFrom 6 = .ok (.getfield 9, 3) := by decide +kernel
theorem dX5_copyFrom_9 : decode cX5_copyFrom 9 = .ok (.iconst 0, 1) := by decide +kernel
theorem dX5_copyFrom_10 : decode cX5_copyFrom 10 = .ok (.sipush 128, 3) := by decide +kernel
theorem dX5_copyFrom_13 : decode cX5_copyFrom 13 = .ok (.invokestatic 35, 3) := by decide +kernel
theorem dX5_copyFrom_16 : decode cX5_copyFrom 16 = .ok (.aload_n 1, 1) := by decide +kernel
theorem dX5_copyFrom_17 : decode cX5_copyFrom 17 = .ok (.getfield 15, 3) := by decide +kernel
theorem dX5_copyFrom_20 : decode cX5_copyFrom 20 = .ok (.iconst 0, 1) := by decide +kernel
theorem dX5_copyFrom_21 : decode cX5_copyFrom 21 = .ok (.aload_n 0, 1) := by decide +kernel
theorem dX5_copyFrom_22 : decode cX5_copyFrom 22 = .ok (.getfield 15, 3) := by decide +kernel
theorem dX5_copyFrom_25 : decode cX5_copyFrom 25 = .ok (.iconst 0, 1) := by decide +kernel
theorem dX5_copyFrom_26 : decode cX5_copyFrom 26 = .ok (.bipush 16, 2) := by decide +kernel
theorem dX5_copyFrom_28 : decode cX5_copyFrom 28 = .ok (.invokestatic 35, 3) := by decide +kernel
theorem dX5_copyFrom_31 : decode cX5_copyFrom 31 = .ok (.aload_n 1, 1) := by decide +kernel
theorem dX5_copyFrom_32 : decode cX5_copyFrom 32 = .ok (.getfield 18, 3) := by decide +kernel
theorem dX5_copyFrom_35 : decode cX5_copyFrom 35 = .ok (.iconst 0, 1) := by decide +kernel
theorem dX5_copyFrom_36 : decode cX5_copyFrom 36 = .ok (.aload_n 0, 1) := by decide +kernel
theorem dX5_copyFrom_37 : decode cX5_copyFrom 37 = .ok (.getfield 18, 3) := by decide +kernel
theorem dX5_copyFrom_40 : decode cX5_copyFrom 40 = .ok (.iconst 0, 1) := by decide +kernel
theorem dX5_copyFrom_41 : decode cX5_copyFrom 41 = .ok (.bipush 16, 2) := by decide +kernel
theorem dX5_copyFrom_43 : decode cX5_copyFrom 43 = .ok (.invokestatic 35, 3) := by decide +kernel
theorem dX5_copyFrom_46 : decode cX5_copyFrom 46 = .ok (.aload_n 1, 1) := by decide +kernel
theorem dX5_copyFrom_47 : decode cX5_copyFrom 47 = .ok (.getfield 21, 3) := by decide +kernel
theorem dX5_copyFrom_50 : decode cX5_copyFrom 50 = .ok (.iconst 0, 1) := by decide +kernel
theorem dX5_copyFrom_51 : decode cX5_copyFrom 51 = .ok (.aload_n 0, 1) := by decide +kernel
theorem dX5_copyFrom_52 : decode cX5_copyFrom 52 = .ok (.getfield 21, 3) := by decide +kernel
theorem dX5_copyFrom_55 : decode cX5_copyFrom 55 = .ok (.iconst 0, 1) := by decide +kernel
theorem dX5_copyFrom_56 : decode cX5_copyFrom 56 = .ok (.bipush 16, 2) := by decide +kernel
theorem dX5_copyFrom_58 : decode cX5_copyFrom 58 = .ok (.invokestatic 35, 3) := by decide +kernel
theorem dX5_copyFrom_61 : decode cX5_copyFrom 61 = .ok (.aload_n 0, 1) := by decide +kernel
theorem dX5_copyFrom_62 : decode cX5_copyFrom 62 = .ok (.aload_n 1, 1) := by decide +kernel
theorem dX5_copyFrom_63 : decode cX5_copyFrom 63 = .ok (.getfield 24, 3) := by decide +kernel
theorem dX5_copyFrom_66 : decode cX5_copyFrom 66 = .ok (.putfield 24, 3) := by decide +kernel
theorem dX5_copyFrom_69 : decode cX5_copyFrom 69 = .ok (.aload_n 0, 1) := by decide +kernel
theorem dX5_copyFrom_70 : decode cX5_copyFrom 70 = .ok (.aload_n 1, 1) := by decide +kernel
theorem dX5_copyFrom_71 : decode cX5_copyFrom 71 = .ok (.getfield 28, 3) := by decide +kernel
theorem dX5_copyFrom_74 : decode cX5_copyFrom 74 = .ok (.putfield 28, 3) := by decide +kernel
theorem dX5_copyFrom_77 : decode cX5_copyFrom 77 = .ok (.aload_n 0, 1) := by decide +kernel
theorem dX5_copyFrom_78 : decode cX5_copyFrom 78 = .ok (.aload_n 1, 1) := by decide +kernel
theorem dX5_copyFrom_79 : decode cX5_copyFrom 79 = .ok (.getfield 31, 3) := by decide +kernel
theorem dX5_copyFrom_82 : decode cX5_copyFrom 82 = .ok (.putfield 31, 3) := by decide +kernel
theorem dX5_copyFrom_85 : decode cX5_copyFrom 85 = .ok (.return_, 1) := by decide +kernel
theorem dX5_enqueue_0 : decode cX5_enqueue 0 = .ok (.aload_n 0, 1) := by decide +kernel
theorem dX5_enqueue_1 : decode cX5_enqueue 1 = .ok (.getfield 15, 3) := by decide +kernel
theorem dX5_enqueue_4 : decode cX5_enqueue 4 = .ok (.iload_n 1, 1) := by decide +kernel
theorem dX5_enqueue_5 : decode cX5_enqueue 5 = .ok (.iaload, 1) := by decide +kernel
theorem dX5_enqueue_6 : decode cX5_enqueue 6 = .ok (.bipush 8, 2) := by decide +kernel
theorem dX5_enqueue_8 : decode cX5_enqueue 8 = .ok (.if_icmp .lt 4, 3) := by decide +kernel
theorem dX5_enqueue_11 : decode cX5_enqueue 11 = .ok (.return_, 1) := by decide +kernel
theorem dX5_enqueue_12 : decode cX5_enqueue 12 = .ok (.aload_n 0, 1) := by decide +kernel
theorem dX5_enqueue_13 : decode cX5_enqueue 13 = .ok (.getfield 9, 3) := by decide +kernel
theorem dX5_enqueue_16 : decode cX5_enqueue 16 = .ok (.iload_n 1, 1) := by decide +kernel
theorem dX5_enqueue_17 : decode cX5_enqueue 17 = .ok (.bipush 8, 2) := by decide +kernel
theorem dX5_enqueue_19 : decode cX5_enqueue 19 = .ok (.imul, 1) := by decide +kernel
theorem dX5_enqueue_20 : decode cX5_enqueue 20 = .ok (.aload_n 0, 1) := by decide +kernel
theorem dX5_enqueue_21 : decode cX5_enqueue 21 = .ok (.getfield 15, 3) := by decide +kernel
theorem dX5_enqueue_24 : decode cX5_enqueue 24 = .ok (.iload_n 1, 1) := by decide +kernel
theorem dX5_enqueue_25 : decode cX5_enqueue 25 = .ok (.iaload, 1) := by decide +kernel
theorem dX5_enqueue_26 : decode cX5_enqueue 26 = .ok (.iadd, 1) := by decide +kernel
theorem dX5_enqueue_27 : decode cX5_enqueue 27 = .ok (.iload_n 2, 1) := by decide +kernel
theorem dX5_enqueue_28 : decode cX5_enqueue 28 = .ok (.iastore, 1) := by decide +kernel
theorem dX5_enqueue_29 : decode cX5_enqueue 29 = .ok (.aload_n 0, 1) := by decide +kernel
theorem dX5_enqueue_30 : decode cX5_enqueue 30 = .ok (.getfield 15, 3) := by decide +kernel
theorem dX5_enqueue_33 : decode cX5_enqueue 33 = .ok (.iload_n 1, 1) := by decide +kernel
theorem dX5_enqueue_34 : decode cX5_enqueue 34 = .ok (.dup2, 1) := by decide +kernel
theorem dX5_enqueue_35 : decode cX5_enqueue 35 = .ok (.iaload, 1) := by decide +kernel
theorem dX5_enqueue_36 : decode cX5_enqueue 36 = .ok (.iconst 1, 1) := by decide +kernel
theorem dX5_enqueue_37 : decode cX5_enqueue 37 = .ok (.iadd, 1) := by decide +kernel
theorem dX5_enqueue_38 : decode cX5_enqueue 38 = .ok (.iastore, 1) := by decide +kernel
theorem dX5_enqueue_39 : decode cX5_enqueue 39 = .ok (.aload_n 0, 1) := by decide +kernel
theorem dX5_enqueue_40 : decode cX5_enqueue 40 = .ok (.dup, 1) := by decide +kernel
theorem dX5_enqueue_41 : decode cX5_enqueue 41 = .ok (.getfield 24, 3) := by decide +kernel
theorem dX5_enqueue_44 : decode cX5_enqueue 44 = .ok (.iconst 1, 1) := by decide +kernel
theorem dX5_enqueue_45 : decode cX5_enqueue 45 = .ok (.iadd, 1) := by decide +kernel
theorem dX5_enqueue_46 : decode cX5_enqueue 46 = .ok (.putfield 24, 3) := by decide +kernel
theorem dX5_enqueue_49 : decode cX5_enqueue 49 = .ok (.return_, 1) := by decide +kernel
theorem dX5_dismiss_0 : decode cX5_dismiss 0 = .ok (.aload_n 0, 1) := by decide +kernel
theorem dX5_dismiss_1 : decode cX5_dismiss 1 = .ok (.dup, 1) := by decide +kernel
theorem dX5_dismiss_2 : decode cX5_dismiss 2 = .ok (.getfield 24, 3) := by decide +kernel
theorem dX5_dismiss_5 : decode cX5_dismiss 5 = .ok (.aload_n 0, 1) := by decide +kernel
theorem dX5_dismiss_6 : decode cX5_dismiss 6 = .ok (.getfield 15, 3) := by decide +kernel
theorem dX5_dismiss_9 : decode cX5_dismiss 9 = .ok (.iload_n 1, 1) := by decide +kernel
theorem dX5_dismiss_10 : decode cX5_dismiss 10 = .ok (.iaload, 1) := by decide +kernel
theorem dX5_dismiss_11 : decode cX5_dismiss 11 = .ok (.isub, 1) := by decide +kernel
theorem dX5_dismiss_12 : decode cX5_dismiss 12 = .ok (.putfield 24, 3) := by decide +kernel
theorem dX5_dismiss_15 : decode cX5_dismiss 15 = .ok (.aload_n 0, 1) := by decide +kernel
theorem dX5_dismiss_16 : decode cX5_dismiss 16 = .ok (.getfield 15, 3) := by decide +kernel
theorem dX5_dismiss_19 : decode cX5_dismiss 19 = .ok (.iload_n 1, 1) := by decide +kernel
theorem dX5_dismiss_20 : decode cX5_dismiss 20 = .ok (.iconst 0, 1) := by decide +kernel
theorem dX5_dismiss_21 : decode cX5_dismiss 21 = .ok (.iastore, 1) := by decide +kernel
theorem dX5_dismiss_22 : decode cX5_dismiss 22 = .ok (.aload_n 0, 1) := by decide +kernel
theorem dX5_dismiss_23 : decode cX5_dismiss 23 = .ok (.getfield 18, 3) := by decide +kernel
theorem dX5_dismiss_26 : decode cX5_dismiss 26 = .ok (.iload_n 1, 1) := by decide +kernel
theorem dX5_dismiss_27 : decode cX5_dismiss 27 = .ok (.iconst 0, 1) := by decide +kernel
theorem dX5_dismiss_28 : decode cX5_dismiss 28 = .ok (.iastore, 1) := by decide +kernel
theorem dX5_dismiss_29 : decode cX5_dismiss 29 = .ok (.return_, 1) := by decide +kernel
theorem dX5_spend_0 : decode cX5_spend 0 = .ok (.iload_n 1, 1) := by decide +kernel
theorem dX5_spend_1 : decode cX5_spend 1 = .ok (.istore_n 2, 1) := by decide +kernel
theorem dX5_spend_2 : decode cX5_spend 2 = .ok (.iconst 0, 1) := by decide +kernel
theorem dX5_spend_3 : decode cX5_spend 3 = .ok (.istore_n 3, 1) := by decide +kernel
theorem dX5_spend_4 : decode cX5_spend 4 = .ok (.iconst 0, 1) := by decide +kernel
theorem dX5_spend_5 : decode cX5_spend 5 = .ok (.istore 4, 2) := by decide +kernel
theorem dX5_spend_7 : decode cX5_spend 7 = .ok (.iload 4, 2) := by decide +kernel
theorem dX5_spend_9 : decode cX5_spend 9 = .ok (.sipush 10000, 3) := by decide +kernel
theorem dX5_spend_12 : decode cX5_spend 12 = .ok (.if_icmp .ge 83, 3) := by decide +kernel
theorem dX5_spend_15 : decode cX5_spend 15 = .ok (.aload_n 0, 1) := by decide +kernel
theorem dX5_spend_16 : decode cX5_spend 16 = .ok (.getfield 24, 3) := by decide +kernel
theorem dX5_spend_19 : decode cX5_spend 19 = .ok (.ifCond .le 76, 3) := by decide +kernel
theorem dX5_spend_22 : decode cX5_spend 22 = .ok (.aload_n 0, 1) := by decide +kernel
theorem dX5_spend_23 : decode cX5_spend 23 = .ok (.invokevirtual 41, 3) := by decide +kernel
theorem dX5_spend_26 : decode cX5_spend 26 = .ok (.iconst 0, 1) := by decide +kernel
theorem dX5_spend_27 : decode cX5_spend 27 = .ok (.istore 5, 2) := by decide +kernel
theorem dX5_spend_29 : decode cX5_spend 29 = .ok (.iload 5, 2) := by decide +kernel
theorem dX5_spend_31 : decode cX5_spend 31 = .ok (.bipush 8, 2) := by decide +kernel
theorem dX5_spend_33 : decode cX5_spend 33 = .ok (.if_icmp .ge 52, 3) := by decide +kernel
theorem dX5_spend_36 : decode cX5_spend 36 = .ok (.aload_n 0, 1) := by decide +kernel
theorem dX5_spend_37 : decode cX5_spend 37 = .ok (.invokevirtual 44, 3) := by decide +kernel
theorem dX5_spend_40 : decode cX5_spend 40 = .ok (.ifCond .eq 45, 3) := by decide +kernel
theorem dX5_spend_43 : decode cX5_spend 43 = .ok (.aload_n 0, 1) := by decide +kernel
theorem dX5_spend_44 : decode cX5_spend 44 = .ok (.getfield 9, 3) := by decide +kernel
theorem dX5_spend_47 : decode cX5_spend 47 = .ok (.aload_n 0, 1) := by decide +kernel
theorem dX5_spend_48 : decode cX5_spend 48 = .ok (.getfield 28, 3) := by decide +kernel
theorem dX5_spend_51 : decode cX5_spend 51 = .ok (.bipush 8, 2) := by decide +kernel
theorem dX5_spend_53 : decode cX5_spend 53 = .ok (.imul, 1) := by decide +kernel
theorem dX5_spend_54 : decode cX5_spend 54 = .ok (.iaload, 1) := by decide +kernel
theorem dX5_spend_55 : decode cX5_spend 55 = .ok (.istore 6, 2) := by decide +kernel
theorem dX5_spend_57 : decode cX5_spend 57 = .ok (.iload 6, 2) := by decide +kernel
theorem dX5_spend_59 : decode cX5_spend 59 = .ok (.iload_n 2, 1) := by decide +kernel
theorem dX5_spend_60 : decode cX5_spend 60 = .ok (.if_icmp .le 5, 3) := by decide +kernel
theorem dX5_spend_63 : decode cX5_spend 63 = .ok (.iload_n 3, 1) := by decide +kernel
theorem dX5_spend_64 : decode cX5_spend 64 = .ok (.ireturn, 1) := by decide +kernel
theorem dX5_spend_65 : decode cX5_spend 65 = .ok (.aload_n 0, 1) := by decide +kernel
theorem dX5_spend_66 : decode cX5_spend 66 = .ok (.iload 6, 2) := by decide +kernel
theorem dX5_spend_68 : decode cX5_spend 68 = .ok (.invokevirtual 48, 3) := by decide +kernel
theorem dX5_spend_71 : decode cX5_spend 71 = .ok (.iload_n 2, 1) := by decide +kernel
theorem dX5_spend_72 : decode cX5_spend 72 = .ok (.iload 6, 2) := by decide +kernel
theorem dX5_spend_74 : decode cX5_spend 74 = .ok (.isub, 1) := by decide +kernel
theorem dX5_spend_75 : decode cX5_spend 75 = .ok (.istore_n 2, 1) := by decide +kernel
theorem dX5_spend_76 : decode cX5_spend 76 = .ok (.iinc 3 1, 3) := by decide +kernel
theorem dX5_spend_79 : decode cX5_spend 79 = .ok (.iinc 5 1, 3) := by decide +kernel
theorem dX5_spend_82 : decode cX5_spend 82 = .ok (.goto (-53), 3) := by decide +kernel
theorem dX5_spend_85 : decode cX5_spend 85 = .ok (.aload_n 0, 1) := by decide +kernel
theorem dX5_spend_86 : decode cX5_spend 86 = .ok (.invokevirtual 52, 3) := by decide +kernel
theorem dX5_spend_89 : decode cX5_spend 89 = .ok (.iinc 4 1, 3) := by decide +kernel
theorem dX5_spend_92 : decode cX5_spend 92 = .ok (.goto (-85), 3) := by decide +kernel
theorem dX5_spend_95 : decode cX5_spend 95 = .ok (.iload_n 3, 1) := by decide +kernel
theorem dX5_spend_96 : decode cX5_spend 96 = .ok (.ireturn, 1) := by decide +kernel
theorem dX5_grant_0 : decode cX5_grant 0 = .ok (.aload_n 0, 1) := by decide +kernel
theorem dX5_grant_1 : decode cX5_grant 1 = .ok (.getfield 15, 3) := by decide +kernel
theorem dX5_grant_4 : decode cX5_grant 4 = .ok (.aload_n 0, 1) := by decide +kernel
theorem dX5_grant_5 : decode cX5_grant 5 = .ok (.getfield 28, 3) := by decide +kernel
theorem dX5_grant_8 : decode cX5_grant 8 = .ok (.iaload, 1) := by decide +kernel
theorem dX5_grant_9 : decode cX5_grant 9 = .ok (.ifCond .le 28, 3) := by decide +kernel
theorem dX5_grant_12 : decode cX5_grant 12 = .ok (.aload_n 0, 1) := by decide +kernel
theorem dX5_grant_13 : decode cX5_grant 13 = .ok (.getfield 31, 3) := by decide +kernel
theorem dX5_grant_16 : decode cX5_grant 16 = .ok (.ifCond .ne 21, 3) := by decide +kernel
theorem dX5_grant_19 : decode cX5_grant 19 = .ok (.aload_n 0, 1) := by decide +kernel
theorem dX5_grant_20 : decode cX5_grant 20 = .ok (.getfield 18, 3) := by decide +kernel
theorem dX5_grant_23 : decode cX5_grant 23 = .ok (.aload_n 0, 1) := by decide +kernel
theorem dX5_grant_24 : decode cX5_grant 24 = .ok (.getfield 28, 3) := by decide +kernel
theorem dX5_grant_27 : decode cX5_grant 27 = .ok (.dup2, 1) := by decide +kernel
theorem dX5_grant_28 : decode cX5_grant 28 = .ok (.iaload, 1) := by decide +kernel
theorem dX5_grant_29 : decode cX5_grant 29 = .ok (.iconst 4, 1) := by decide +kernel
theorem dX5_grant_30 : decode cX5_grant 30 = .ok (.iadd, 1) := by decide +kernel
theorem dX5_grant_31 : decode cX5_grant 31 = .ok (.iastore, 1) := by decide +kernel
theorem dX5_grant_32 : decode cX5_grant 32 = .ok (.aload_n 0, 1) := by decide +kernel
theorem dX5_grant_33 : decode cX5_grant 33 = .ok (.iconst 1, 1) := by decide +kernel
theorem dX5_grant_34 : decode cX5_grant 34 = .ok (.putfield 31, 3) := by decide +kernel
theorem dX5_grant_37 : decode cX5_grant 37 = .ok (.return_, 1) := by decide +kernel
theorem dX5_isFirstCovered_0 : decode cX5_isFirstCovered 0 = .ok (.aload_n 0, 1) := by decide +kernel
theorem dX5_isFirstCovered_1 : decode cX5_isFirstCovered 1 = .ok (.getfield 15, 3) := by decide +kernel
theorem dX5_isFirstCovered_4 : decode cX5_isFirstCovered 4 = .ok (.aload_n 0, 1) := by decide +kernel
theorem dX5_isFirstCovered_5 : decode cX5_isFirstCovered 5 = .ok (.getfield 28, 3) := by decide +kernel
theorem dX5_isFirstCovered_8 : decode cX5_isFirstCovered 8 = .ok (.iaload, 1) := by decide +kernel
theorem dX5_isFirstCovered_9 : decode cX5_isFirstCovered 9 = .ok (.ifCond .le 31, 3) := by decide +kernel
theorem dX5_isFirstCovered_12 : decode cX5_isFirstCovered 12 = .ok (.aload_n 0, 1) := by decide +kernel
theorem dX5_isFirstCovered_13 : decode cX5_isFirstCovered 13 = .ok (.getfield 9, 3) := by decide +kernel
theorem dX5_isFirstCovered_16 : decode cX5_isFirstCovered 16 = .ok (.aload_n 0, 1) := by decide +kernel
theorem dX5_isFirstCovered_17 : decode cX5_isFirstCovered 17 = .ok (.getfield 28, 3) := by decide +kernel
theorem dX5_isFirstCovered_20 : decode cX5_isFirstCovered 20 = .ok (.bipush 8, 2) := by decide +kernel
theorem dX5_isFirstCovered_22 : decode cX5_isFirstCovered 22 = .ok (.imul, 1) := by decide +kernel
theorem dX5_isFirstCovered_23 : decode cX5_isFirstCovered 23 = .ok (.iaload, 1) := by decide +kernel
theorem dX5_isFirstCovered_24 : decode cX5_isFirstCovered 24 = .ok (.aload_n 0, 1) := by decide +kernel
theorem dX5_isFirstCovered_25 : decode cX5_isFirstCovered 25 = .ok (.getfield 18, 3) := by decide +kernel
theorem dX5_isFirstCovered_28 : decode cX5_isFirstCovered 28 = .ok (.aload_n 0, 1) := by decide +kernel
theorem dX5_isFirstCovered_29 : decode cX5_isFirstCovered 29 = .ok (.getfield 28, 3) := by decide +kernel
theorem dX5_isFirstCovered_32 : decode cX5_isFirstCovered 32 = .ok (.iaload, 1) := by decide +kernel
theorem dX5_isFirstCovered_33 : decode cX5_isFirstCovered 33 = .ok (.if_icmp .gt 7, 3) := by decide +kernel
theorem dX5_isFirstCovered_36 : decode cX5_isFirstCovered 36 = .ok (.iconst 1, 1) := by decide +kernel
theorem dX5_isFirstCovered_37 : decode cX5_isFirstCovered 37 = .ok (.goto 4, 3) := by decide +kernel
theorem dX5_isFirstCovered_40 : decode cX5_isFirstCovered 40 = .ok (.iconst 0, 1) := by decide +kernel
theorem dX5_isFirstCovered_41 : decode cX5_isFirstCovered 41 = .ok (.ireturn, 1) := by decide +kernel
theorem dX5_removeFirst_0 : decode cX5_removeFirst 0 = .ok (.aload_n 0, 1) := by decide +kernel
theorem dX5_removeFirst_1 : decode cX5_removeFirst 1 = .ok (.getfield 28, 3) := by decide +kernel
theorem dX5_removeFirst_4 : decode cX5_removeFirst 4 = .ok (.bipush 8, 2) := by decide +kernel
theorem dX5_removeFirst_6 : decode cX5_removeFirst 6 = .ok (.imul, 1) := by decide +kernel
theorem dX5_removeFirst_7 : decode cX5_removeFirst 7 = .ok (.istore_n 2, 1) := by decide +kernel
theorem dX5_removeFirst_8 : decode cX5_removeFirst 8 = .ok (.aload_n 0, 1) := by decide +kernel
theorem dX5_removeFirst_9 : decode cX5_removeFirst 9 = .ok (.getfield 15, 3) := by decide +kernel
theorem dX5_removeFirst_12 : decode cX5_removeFirst 12 = .ok (.aload_n 0, 1) := by decide +kernel
theorem dX5_removeFirst_13 : decode cX5_removeFirst 13 = .ok (.getfield 28, 3) := by decide +kernel
theorem dX5_removeFirst_16 : decode cX5_removeFirst 16 = .ok (.dup2, 1) := by decide +kernel
theorem dX5_removeFirst_17 : decode cX5_removeFirst 17 = .ok (.iaload, 1) := by decide +kernel
theorem dX5_removeFirst_18 : decode cX5_removeFirst 18 = .ok (.iconst 1, 1) := by decide +kernel
theorem dX5_removeFirst_19 : decode cX5_removeFirst 19 = .ok (.isub, 1) := by decide +kernel
theorem dX5_removeFirst_20 : decode cX5_removeFirst 20 = .ok (.iastore, 1) := by decide +kernel
theorem dX5_removeFirst_21 : decode cX5_removeFirst 21 = .ok (.iconst 0, 1) := by decide +kernel
theorem dX5_removeFirst_22 : decode cX5_removeFirst 22 = .ok (.istore_n 3, 1) := by decide +kernel
theorem dX5_removeFirst_23 : decode cX5_removeFirst 23 = .ok (.iload_n 3, 1) := by decide +kernel
theorem dX5_removeFirst_24 : decode cX5_removeFirst 24 = .ok (.aload_n 0, 1) := by decide +kernel
theorem dX5_removeFirst_25 : decode cX5_removeFirst 25 = .ok (.getfield 15, 3) := by decide +kernel
theorem dX5_removeFirst_28 : decode cX5_removeFirst 28 = .ok (.aload_n 0, 1) := by decide +kernel
theorem dX5_removeFirst_29 : decode cX5_removeFirst 29 = .ok (.getfield 28, 3) := by decide +kernel
theorem dX5_removeFirst_32 : decode cX5_removeFirst 32 = .ok (.iaload, 1) := by decide +kernel
theorem dX5_removeFirst_33 : decode cX5_removeFirst 33 = .ok (.if_icmp .ge 27, 3) := by decide +kernel
theorem dX5_removeFirst_36 : decode cX5_removeFirst 36 = .ok (.aload_n 0, 1) := by decide +kernel
theorem dX5_removeFirst_37 : decode cX5_removeFirst 37 = .ok (.getfield 9, 3) := by decide +kernel
theorem dX5_removeFirst_40 : decode cX5_removeFirst 40 = .ok (.iload_n 2, 1) := by decide +kernel
theorem dX5_removeFirst_41 : decode cX5_removeFirst 41 = .ok (.iload_n 3, 1) := by decide +kernel
theorem dX5_removeFirst_42 : decode cX5_removeFirst 42 = .ok (.iadd, 1) := by decide +kernel
theorem dX5_removeFirst_43 : decode cX5_removeFirst 43 = .ok (.aload_n 0, 1) := by decide +kernel
theorem dX5_removeFirst_44 : decode cX5_removeFirst 44 = .ok (.getfield 9, 3) := by decide +kernel
theorem dX5_removeFirst_47 : decode cX5_removeFirst 47 = .ok (.iload_n 2, 1) := by decide +kernel
theorem dX5_removeFirst_48 : decode cX5_removeFirst 48 = .ok (.iload_n 3, 1) := by decide +kernel
theorem dX5_removeFirst_49 : decode cX5_removeFirst 49 = .ok (.iadd, 1) := by decide +kernel
theorem dX5_removeFirst_50 : decode cX5_removeFirst 50 = .ok (.iconst 1, 1) := by decide +kernel
theorem dX5_removeFirst_51 : decode cX5_removeFirst 51 = .ok (.iadd, 1) := by decide +kernel
theorem dX5_removeFirst_52 : decode cX5_removeFirst 52 = .ok (.iaload, 1) := by decide +kernel
theorem dX5_removeFirst_53 : decode cX5_removeFirst 53 = .ok (.iastore, 1) := by decide +kernel
theorem dX5_removeFirst_54 : decode cX5_removeFirst 54 = .ok (.iinc 3 1, 3) := by decide +kernel
theorem dX5_removeFirst_57 : decode cX5_removeFirst 57 = .ok (.goto (-34), 3) := by decide +kernel
theorem dX5_removeFirst_60 : decode cX5_removeFirst 60 = .ok (.aload_n 0, 1) := by decide +kernel
theorem dX5_removeFirst_61 : decode cX5_removeFirst 61 = .ok (.dup, 1) := by decide +kernel
theorem dX5_removeFirst_62 : decode cX5_removeFirst 62 = .ok (.getfield 24, 3) := by decide +kernel
theorem dX5_removeFirst_65 : decode cX5_removeFirst 65 = .ok (.iconst 1, 1) := by decide +kernel
theorem dX5_removeFirst_66 : decode cX5_removeFirst 66 = .ok (.isub, 1) := by decide +kernel
theorem dX5_removeFirst_67 : decode cX5_removeFirst 67 = .ok (.putfield 24, 3) := by decide +kernel
theorem dX5_removeFirst_70 : decode cX5_removeFirst 70 = .ok (.aload_n 0, 1) := by decide +kernel
theorem dX5_removeFirst_71 : decode cX5_removeFirst 71 = .ok (.getfield 18, 3) := by decide +kernel
theorem dX5_removeFirst_74 : decode cX5_removeFirst 74 = .ok (.aload_n 0, 1) := by decide +kernel
theorem dX5_removeFirst_75 : decode cX5_removeFirst 75 = .ok (.getfield 28, 3) := by decide +kernel
theorem dX5_removeFirst_78 : decode cX5_removeFirst 78 = .ok (.dup2, 1) := by decide +kernel
theorem dX5_removeFirst_79 : decode cX5_removeFirst 79 = .ok (.iaload, 1) := by decide +kernel
theorem dX5_removeFirst_80 : decode cX5_removeFirst 80 = .ok (.iload_n 1, 1) := by decide +kernel
theorem dX5_removeFirst_81 : decode cX5_removeFirst 81 = .ok (.isub, 1) := by decide +kernel
theorem dX5_removeFirst_82 : decode cX5_removeFirst 82 = .ok (.iastore, 1) := by decide +kernel
theorem dX5_removeFirst_83 : decode cX5_removeFirst 83 = .ok (.aload_n 0, 1) := by decide +kernel
theorem dX5_removeFirst_84 : decode cX5_removeFirst 84 = .ok (.getfield 21, 3) := by decide +kernel
theorem dX5_removeFirst_87 : decode cX5_removeFirst 87 = .ok (.aload_n 0, 1) := by decide +kernel
theorem dX5_removeFirst_88 : decode cX5_removeFirst 88 = .ok (.getfield 28, 3) := by decide +kernel
theorem dX5_removeFirst_91 : decode cX5_removeFirst 91 = .ok (.dup2, 1) := by decide +kernel
theorem dX5_removeFirst_92 : decode cX5_removeFirst 92 = .ok (.iaload, 1) := by decide +kernel
theorem dX5_removeFirst_93 : decode cX5_removeFirst 93 = .ok (.iload_n 1, 1) := by decide +kernel
theorem dX5_removeFirst_94 : decode cX5_removeFirst 94 = .ok (.iadd, 1) := by decide +kernel
theorem dX5_removeFirst_95 : decode cX5_removeFirst 95 = .ok (.iastore, 1) := by decide +kernel
theorem dX5_removeFirst_96 : decode cX5_removeFirst 96 = .ok (.return_, 1) := by decide +kernel
theorem dX5_moveOn_0 : decode cX5_moveOn 0 = .ok (.aload_n 0, 1) := by decide +kernel
theorem dX5_moveOn_1 : decode cX5_moveOn 1 = .ok (.getfield 15, 3) := by decide +kernel
theorem dX5_moveOn_4 : decode cX5_moveOn 4 = .ok (.aload_n 0, 1) := by decide +kernel
theorem dX5_moveOn_5 : decode cX5_moveOn 5 = .ok (.getfield 28, 3) := by decide +kernel
theorem dX5_moveOn_8 : decode cX5_moveOn 8 = .ok (.iaload, 1) := by decide +kernel
theorem dX5_moveOn_9 : decode cX5_moveOn 9 = .ok (.ifCond .ne 13, 3) := by decide +kernel
theorem dX5_moveOn_12 : decode cX5_moveOn 12 = .ok (.aload_n 0, 1) := by decide +kernel
theorem dX5_moveOn_13 : decode cX5_moveOn 13 = .ok (.getfield 18, 3) := by decide +kernel
theorem dX5_moveOn_16 : decode cX5_moveOn 16 = .ok (.aload_n 0, 1) := by decide +kernel
theorem dX5_moveOn_17 : decode cX5_moveOn 17 = .ok (.getfield 28, 3) := by decide +kernel
theorem dX5_moveOn_20 : decode cX5_moveOn 20 = .ok (.iconst 0, 1) := by decide +kernel
theorem dX5_moveOn_21 : decode cX5_moveOn 21 = .ok (.iastore, 1) := by decide +kernel
theorem dX5_moveOn_22 : decode cX5_moveOn 22 = .ok (.aload_n 0, 1) := by decide +kernel
theorem dX5_moveOn_23 : decode cX5_moveOn 23 = .ok (.aload_n 0, 1) := by decide +kernel
theorem dX5_moveOn_24 : decode cX5_moveOn 24 = .ok (.getfield 28, 3) := by decide +kernel
theorem dX5_moveOn_27 : decode cX5_moveOn 27 = .ok (.iconst 1, 1) := by decide +kernel
theorem dX5_moveOn_28 : decode cX5_moveOn 28 = .ok (.iadd, 1) := by decide +kernel
theorem dX5_moveOn_29 : decode cX5_moveOn 29 = .ok (.bipush 16, 2) := by decide +kernel
theorem dX5_moveOn_31 : decode cX5_moveOn 31 = .ok (.irem, 1) := by decide +kernel
theorem dX5_moveOn_32 : decode cX5_moveOn 32 = .ok (.putfield 28, 3) := by decide +kernel
theorem dX5_moveOn_35 : decode cX5_moveOn 35 = .ok (.aload_n 0, 1) := by decide +kernel
theorem dX5_moveOn_36 : decode cX5_moveOn 36 = .ok (.iconst 0, 1) := by decide +kernel
theorem dX5_moveOn_37 : decode cX5_moveOn 37 = .ok (.putfield 31, 3) := by decide +kernel
theorem dX5_moveOn_40 : decode cX5_moveOn 40 = .ok (.return_, 1) := by decide +kernel
theorem dX5_totalOfAll_0 : decode cX5_totalOfAll 0 = .ok (.iconst 0, 1) := by decide +kernel
theorem dX5_totalOfAll_1 : decode cX5_totalOfAll 1 = .ok (.istore_n 1, 1) := by decide +kernel
theorem dX5_totalOfAll_2 : decode cX5_totalOfAll 2 = .ok (.iconst 0, 1) := by decide +kernel
theorem dX5_totalOfAll_3 : decode cX5_totalOfAll 3 = .ok (.istore_n 2, 1) := by decide +kernel
theorem dX5_totalOfAll_4 : decode cX5_totalOfAll 4 = .ok (.iload_n 2, 1) := by decide +kernel
theorem dX5_totalOfAll_5 : decode cX5_totalOfAll 5 = .ok (.bipush 16, 2) := by decide +kernel
theorem dX5_totalOfAll_7 : decode cX5_totalOfAll 7 = .ok (.if_icmp .ge 18, 3) := by decide +kernel
theorem dX5_totalOfAll_10 : decode cX5_totalOfAll 10 = .ok (.iload_n 1, 1) := by decide +kernel
theorem dX5_totalOfAll_11 : decode cX5_totalOfAll 11 = .ok (.aload_n 0, 1) := by decide +kernel
theorem dX5_totalOfAll_12 : decode cX5_totalOfAll 12 = .ok (.getfield 21, 3) := by decide +kernel
theorem dX5_totalOfAll_15 : decode cX5_totalOfAll 15 = .ok (.iload_n 2, 1) := by decide +kernel
theorem dX5_totalOfAll_16 : decode cX5_totalOfAll 16 = .ok (.iaload, 1) := by decide +kernel
theorem dX5_totalOfAll_17 : decode cX5_totalOfAll 17 = .ok (.iadd, 1) := by decide +kernel
theorem dX5_totalOfAll_18 : decode cX5_totalOfAll 18 = .ok (.istore_n 1, 1) := by decide +kernel
theorem dX5_totalOfAll_19 : decode cX5_totalOfAll 19 = .ok (.iinc 2 1, 3) := by decide +kernel
theorem dX5_totalOfAll_22 : decode cX5_totalOfAll 22 = .ok (.goto (-18), 3) := by decide +kernel
theorem dX5_totalOfAll_25 : decode cX5_totalOfAll 25 = .ok (.iload_n 1, 1) := by decide +kernel
theorem dX5_totalOfAll_26 : decode cX5_totalOfAll 26 = .ok (.ireturn, 1) := by decide +kernel
theorem dX5_mixInto_0 : decode cX5_mixInto 0 = .ok (.lload_n 1, 1) := by decide +kernel
theorem dX5_mixInto_1 : decode cX5_mixInto 1 = .ok (.aload_n 0, 1) := by decide +kernel
theorem dX5_mixInto_2 : decode cX5_mixInto 2 = .ok (.getfield 28, 3) := by decide +kernel
theorem dX5_mixInto_5 : decode cX5_mixInto 5 = .ok (.i2l, 1) := by decide +kernel
theorem dX5_mixInto_6 : decode cX5_mixInto 6 = .ok (.invokestatic 55, 3) := by decide +kernel
theorem dX5_mixInto_9 : decode cX5_mixInto 9 = .ok (.lstore_n 3, 1) := by decide +kernel
theorem dX5_mixInto_10 : decode cX5_mixInto 10 = .ok (.iconst 0, 1) := by decide +kernel
theorem dX5_mixInto_11 : decode cX5_mixInto 11 = .ok (.istore 5, 2) := by decide +kernel
theorem dX5_mixInto_13 : decode cX5_mixInto 13 = .ok (.iload 5, 2) := by decide +kernel
theorem dX5_mixInto_15 : decode cX5_mixInto 15 = .ok (.bipush 16, 2) := by decide +kernel
theorem dX5_mixInto_17 : decode cX5_mixInto 17 = .ok (.if_icmp .ge 88, 3) := by decide +kernel
theorem dX5_mixInto_20 : decode cX5_mixInto 20 = .ok (.lload_n 3, 1) := by decide +kernel
theorem dX5_mixInto_21 : decode cX5_mixInto 21 = .ok (.aload_n 0, 1) := by decide +kernel
theorem dX5_mixInto_22 : decode cX5_mixInto 22 = .ok (.getfield 15, 3) := by decide +kernel
theorem dX5_mixInto_25 : decode cX5_mixInto 25 = .ok (.iload 5, 2) := by decide +kernel
theorem dX5_mixInto_27 : decode cX5_mixInto 27 = .ok (.iaload, 1) := by decide +kernel
theorem dX5_mixInto_28 : decode cX5_mixInto 28 = .ok (.i2l, 1) := by decide +kernel
theorem dX5_mixInto_29 : decode cX5_mixInto 29 = .ok (.invokestatic 55, 3) := by decide +kernel
theorem dX5_mixInto_32 : decode cX5_mixInto 32 = .ok (.lstore_n 3, 1) := by decide +kernel
theorem dX5_mixInto_33 : decode cX5_mixInto 33 = .ok (.iconst 0, 1) := by decide +kernel
theorem dX5_mixInto_34 : decode cX5_mixInto 34 = .ok (.istore 6, 2) := by decide +kernel
theorem dX5_mixInto_36 : decode cX5_mixInto 36 = .ok (.iload 6, 2) := by decide +kernel
theorem dX5_mixInto_38 : decode cX5_mixInto 38 = .ok (.aload_n 0, 1) := by decide +kernel
theorem dX5_mixInto_39 : decode cX5_mixInto 39 = .ok (.getfield 15, 3) := by decide +kernel
theorem dX5_mixInto_42 : decode cX5_mixInto 42 = .ok (.iload 5, 2) := by decide +kernel
theorem dX5_mixInto_44 : decode cX5_mixInto 44 = .ok (.iaload, 1) := by decide +kernel
theorem dX5_mixInto_45 : decode cX5_mixInto 45 = .ok (.if_icmp .ge 28, 3) := by decide +kernel
theorem dX5_mixInto_48 : decode cX5_mixInto 48 = .ok (.lload_n 3, 1) := by decide +kernel
theorem dX5_mixInto_49 : decode cX5_mixInto 49 = .ok (.aload_n 0, 1) := by decide +kernel
theorem dX5_mixInto_50 : decode cX5_mixInto 50 = .ok (.getfield 9, 3) := by decide +kernel
theorem dX5_mixInto_53 : decode cX5_mixInto 53 = .ok (.iload 5, 2) := by decide +kernel
theorem dX5_mixInto_55 : decode cX5_mixInto 55 = .ok (.bipush 8, 2) := by decide +kernel
theorem dX5_mixInto_57 : decode cX5_mixInto 57 = .ok (.imul, 1) := by decide +kernel
theorem dX5_mixInto_58 : decode cX5_mixInto 58 = .ok (.iload 6, 2) := by decide +kernel
theorem dX5_mixInto_60 : decode cX5_mixInto 60 = .ok (.iadd, 1) := by decide +kernel
theorem dX5_mixInto_61 : decode cX5_mixInto 61 = .ok (.iaload, 1) := by decide +kernel
theorem dX5_mixInto_62 : decode cX5_mixInto 62 = .ok (.i2l, 1) := by decide +kernel
theorem dX5_mixInto_63 : decode cX5_mixInto 63 = .ok (.invokestatic 55, 3) := by decide +kernel
theorem dX5_mixInto_66 : decode cX5_mixInto 66 = .ok (.lstore_n 3, 1) := by decide +kernel
theorem dX5_mixInto_67 : decode cX5_mixInto 67 = .ok (.iinc 6 1, 3) := by decide +kernel
theorem dX5_mixInto_70 : decode cX5_mixInto 70 = .ok (.goto (-34), 3) := by decide +kernel
theorem dX5_mixInto_73 : decode cX5_mixInto 73 = .ok (.lload_n 3, 1) := by decide +kernel
theorem dX5_mixInto_74 : decode cX5_mixInto 74 = .ok (.aload_n 0, 1) := by decide +kernel
theorem dX5_mixInto_75 : decode cX5_mixInto 75 = .ok (.getfield 18, 3) := by decide +kernel
theorem dX5_mixInto_78 : decode cX5_mixInto 78 = .ok (.iload 5, 2) := by decide +kernel
theorem dX5_mixInto_80 : decode cX5_mixInto 80 = .ok (.iaload, 1) := by decide +kernel
theorem dX5_mixInto_81 : decode cX5_mixInto 81 = .ok (.i2l, 1) := by decide +kernel
theorem dX5_mixInto_82 : decode cX5_mixInto 82 = .ok (.invokestatic 55, 3) := by decide +kernel
theorem dX5_mixInto_85 : decode cX5_mixInto 85 = .ok (.lstore_n 3, 1) := by decide +kernel
theorem dX5_mixInto_86 : decode cX5_mixInto 86 = .ok (.lload_n 3, 1) := by decide +kernel
theorem dX5_mixInto_87 : decode cX5_mixInto 87 = .ok (.aload_n 0, 1) := by decide +kernel
theorem dX5_mixInto_88 : decode cX5_mixInto 88 = .ok (.getfield 21, 3) := by decide +kernel
theorem dX5_mixInto_91 : decode cX5_mixInto 91 = .ok (.iload 5, 2) := by decide +kernel
theorem dX5_mixInto_93 : decode cX5_mixInto 93 = .ok (.iaload, 1) := by decide +kernel
theorem dX5_mixInto_94 : decode cX5_mixInto 94 = .ok (.i2l, 1) := by decide +kernel
theorem dX5_mixInto_95 : decode cX5_mixInto 95 = .ok (.invokestatic 55, 3) := by decide +kernel
theorem dX5_mixInto_98 : decode cX5_mixInto 98 = .ok (.lstore_n 3, 1) := by decide +kernel
theorem dX5_mixInto_99 : decode cX5_mixInto 99 = .ok (.iinc 5 1, 3) := by decide +kernel
theorem dX5_mixInto_102 : decode cX5_mixInto 102 = .ok (.goto (-89), 3) := by decide +kernel
theorem dX5_mixInto_105 : decode cX5_mixInto 105 = .ok (.lload_n 3, 1) := by decide +kernel
theorem dX5_mixInto_106 : decode cX5_mixInto 106 = .ok (.lreturn, 1) := by decide +kernel
theorem dX6_init_0 : decode cX6_init 0 = .ok (.aload_n 0, 1) := by decide +kernel
theorem dX6_init_1 : decode cX6_init 1 = .ok (.invokespecial 3, 3) := by decide +kernel
theorem dX6_init_4 : decode cX6_init 4 = .ok (.aload_n 0, 1) := by decide +kernel
theorem dX6_init_5 : decode cX6_init 5 = .ok (.iconst 0, 1) := by decide +kernel
theorem dX6_init_6 : decode cX6_init 6 = .ok (.putfield 9, 3) := by decide +kernel
theorem dX6_init_9 : decode cX6_init 9 = .ok (.aload_n 0, 1) := by decide +kernel
theorem dX6_init_10 : decode cX6_init 10 = .ok (.iconst 1, 1) := by decide +kernel
theorem dX6_init_11 : decode cX6_init 11 = .ok (.putfield 15, 3) := by decide +kernel
theorem dX6_init_14 : decode cX6_init 14 = .ok (.aload_n 0, 1) := by decide +kernel
theorem dX6_init_15 : decode cX6_init 15 = .ok (.iconst (-1), 1) := by decide +kernel
theorem dX6_init_16 : decode cX6_init 16 = .ok (.putfield 18, 3) := by decide +kernel
theorem dX6_init_19 : decode cX6_init 19 = .ok (.aload_n 0, 1) := by decide +kernel
theorem dX6_init_20 : decode cX6_init 20 = .ok (.iconst 0, 1) := by decide +kernel
theorem dX6_init_21 : decode cX6_init 21 = .ok (.putfield 21, 3) := by decide +kernel
theorem dX6_init_24 : decode cX6_init 24 = .ok (.aload_n 0, 1) := by decide +kernel
theorem dX6_init_25 : decode cX6_init 25 = .ok (.new 24, 3) := by decide +kernel
theorem dX6_init_28 : decode cX6_init 28 = .ok (.dup, 1) := by decide +kernel
theorem dX6_init_29 : decode cX6_init 29 = .ok (.invokespecial 26, 3) := by decide +kernel
theorem dX6_init_32 : decode cX6_init 32 = .ok (.putfield 27, 3) := by decide +kernel
theorem dX6_init_35 : decode cX6_init 35 = .ok (.aload_n 0, 1) := by decide +kernel
theorem dX6_init_36 : decode cX6_init 36 = .ok (.new 31, 3) := by decide +kernel
theorem dX6_init_39 : decode cX6_init 39 = .ok (.dup, 1) := by decide +kernel
theorem dX6_init_40 : decode cX6_init 40 = .ok (.invokespecial 33, 3) := by decide +kernel
theorem dX6_init_43 : decode cX6_init 43 = .ok (.putfield 34, 3) := by decide +kernel
theorem dX6_init_46 : decode cX6_init 46 = .ok (.aload_n 0, 1) := by decide +kernel
theorem dX6_init_47 : decode cX6_init 47 = .ok (.new 38, 3) := by decide +kernel
theorem dX6_init_50 : decode cX6_init 50 = .ok (.dup, 1) := by decide +kernel
theorem dX6_init_51 : decode cX6_init 51 = .ok (.invokespecial 40, 3) := by decide +kernel
theorem dX6_init_54 : decode cX6_init 54 = .ok (.putfield 41, 3) := by decide +kernel
theorem dX6_init_57 : decode cX6_init 57 = .ok (.aload_n 0, 1) := by decide +kernel
theorem dX6_init_58 : decode cX6_init 58 = .ok (.new 45, 3) := by decide +kernel
theorem dX6_init_61 : decode cX6_init 61 = .ok (.dup, 1) := by decide +kernel
theorem dX6_init_62 : decode cX6_init 62 = .ok (.invokespecial 47, 3) := by decide +kernel
theorem dX6_init_65 : decode cX6_init 65 = .ok (.putfield 48, 3) := by decide +kernel
theorem dX6_init_68 : decode cX6_init 68 = .ok (.aload_n 0, 1) := by decide +kernel
theorem dX6_init_69 : decode cX6_init 69 = .ok (.new 52, 3) := by decide +kernel
theorem dX6_init_72 : decode cX6_init 72 = .ok (.dup, 1) := by decide +kernel
theorem dX6_init_73 : decode cX6_init 73 = .ok (.invokespecial 54, 3) := by decide +kernel
theorem dX6_init_76 : decode cX6_init 76 = .ok (.putfield 55, 3) := by decide +kernel
theorem dX6_init_79 : decode cX6_init 79 = .ok (.return_, 1) := by decide +kernel
theorem dX6_copyFrom_0 : decode cX6_copyFrom 0 = .ok (.aload_n 0, 1) := by decide +kernel
theorem dX6_copyFrom_1 : decode cX6_copyFrom 1 = .ok (.aload_n 1, 1) := by decide +kernel
theorem dX6_copyFrom_2 : decode cX6_copyFrom 2 = .ok (.getfield 9, 3) := by decide +kernel
theorem dX6_copyFrom_5 : decode cX6_copyFrom 5 = .ok (.putfield 9, 3) := by decide +kernel
theorem dX6_copyFrom_8 : decode cX6_copyFrom 8 = .ok (.aload_n 0, 1) := by decide +kernel
theorem dX6_copyFrom_9 : decode cX6_copyFrom 9 = .ok (.aload_n 1, 1) := by decide +kernel
theorem dX6_copyFrom_10 : decode cX6_copyFrom 10 = .ok (.getfield 15, 3) := by decide +kernel
theorem dX6_copyFrom_13 : decode cX6_copyFrom 13 = .ok (.putfield 15, 3) := by decide +kernel
theorem dX6_copyFrom_16 : decode cX6_copyFrom 16 = .ok (.aload_n 0, 1) := by decide +kernel
theorem dX6_copyFrom_17 : decode cX6_copyFrom 17 = .ok (.aload_n 1, 1) := by decide +kernel
theorem dX6_copyFrom_18 : decode cX6_copyFrom 18 = .ok (.getfield 18, 3) := by decide +kernel
theorem dX6_copyFrom_21 : decode cX6_copyFrom 21 = .ok (.putfield 18, 3) := by decide +kernel
theorem dX6_copyFrom_24 : decode cX6_copyFrom 24 = .ok (.aload_n 0, 1) := by decide +kernel
theorem dX6_copyFrom_25 : decode cX6_copyFrom 25 = .ok (.aload_n 1, 1) := by decide +kernel
theorem dX6_copyFrom_26 : decode cX6_copyFrom 26 = .ok (.getfield 21, 3) := by decide +kernel
theorem dX6_copyFrom_29 : decode cX6_copyFrom 29 = .ok (.putfield 21, 3) := by decide +kernel
theorem dX6_copyFrom_32 : decode cX6_copyFrom 32 = .ok (.aload_n 0, 1) := by decide +kernel
theorem dX6_copyFrom_33 : decode cX6_copyFrom 33 = .ok (.getfield 27, 3) := by decide +kernel
theorem dX6_copyFrom_36 : decode cX6_copyFrom 36 = .ok (.aload_n 1, 1) := by decide +kernel
theorem dX6_copyFrom_37 : decode cX6_copyFrom 37 = .ok (.getfield 27, 3) := by decide +kernel
theorem dX6_copyFrom_40 : decode cX6_copyFrom 40 = .ok (.invokevirtual 59, 3) := by decide +kernel
theorem dX6_copyFrom_43 : decode cX6_copyFrom 43 = .ok (.aload_n 0, 1) := by decide +kernel
theorem dX6_copyFrom_44 : decode cX6_copyFrom 44 = .ok (.getfield 34, 3) := by decide +kernel
theorem dX6_copyFrom_47 : decode cX6_copyFrom 47 = .ok (.aload_n 1, 1) := by decide +kernel
theorem dX6_copyFrom_48 : decode cX6_copyFrom 48 = .ok (.getfield 34, 3) := by decide +kernel
theorem dX6_copyFrom_51 : decode cX6_copyFrom 51 = .ok (.invokevirtual 63, 3) := by decide +kernel
theorem dX6_copyFrom_54 : decode cX6_copyFrom 54 = .ok (.aload_n 0, 1) := by decide +kernel
theorem dX6_copyFrom_55 : decode cX6_copyFrom 55 = .ok (.getfield 41, 3) := by decide +kernel
theorem dX6_copyFrom_58 : decode cX6_copyFrom 58 = .ok (.aload_n 1, 1) := by decide +kernel
theorem dX6_copyFrom_59 : decode cX6_copyFrom 59 = .ok (.getfield 41, 3) := by decide +kernel
theorem dX6_copyFrom_62 : decode cX6_copyFrom 62 = .ok (.invokevirtual 66, 3) := by decide +kernel
theorem dX6_copyFrom_65 : decode cX6_copyFrom 65 = .ok (.aload_n 0, 1) := by decide +kernel
theorem dX6_copyFrom_66 : decode cX6_copyFrom 66 = .ok (.getfield 48, 3) := by decide +kernel
theorem dX6_copyFrom_69 : decode cX6_copyFrom 69 = .ok (.aload_n 1, 1) := by decide +kernel
theorem dX6_copyFrom_70 : decode cX6_copyFrom 70 = .ok (.getfield 48, 3) := by decide +kernel
theorem dX6_copyFrom_73 : decode cX6_copyFrom 73 = .ok (.invokevirtual 69, 3) := by decide +kernel
theorem dX6_copyFrom_76 : decode cX6_copyFrom 76 = .ok (.aload_n 0, 1) := by decide +kernel
theorem dX6_copyFrom_77 : decode cX6_copyFrom 77 = .ok (.getfield 55, 3) := by decide +kernel
theorem dX6_copyFrom_80 : decode cX6_copyFrom 80 = .ok (.aload_n 1, 1) := by decide +kernel
theorem dX6_copyFrom_81 : decode cX6_copyFrom 81 = .ok (.getfield 55, 3) := by decide +kernel
theorem dX6_copyFrom_84 : decode cX6_copyFrom 84 = .ok (.invokevirtual 72, 3) := by decide +kernel
theorem dX6_copyFrom_87 : decode cX6_copyFrom 87 = .ok (.return_, 1) := by decide +kernel
theorem dX6_currentEpoch_0 : decode cX6_currentEpoch 0 = .ok (.aload_n 0, 1) := by decide +kernel
theorem dX6_currentEpoch_1 : decode cX6_currentEpoch 1 = .ok (.getfield 9, 3) := by decide +kernel
theorem dX6_currentEpoch_4 : decode cX6_currentEpoch 4 = .ok (.bipush 64, 2) := by decide +kernel
theorem dX6_currentEpoch_6 : decode cX6_currentEpoch 6 = .ok (.idiv, 1) := by decide +kernel
theorem dX6_currentEpoch_7 : decode cX6_currentEpoch 7 = .ok (.ireturn, 1) := by decide +kernel
theorem dX6_currentDifficulty_0 : decode cX6_currentDifficulty 0 = .ok (.aload_n 0, 1) := by decide +kernel
theorem dX6_currentDifficulty_1 : decode cX6_currentDifficulty 1 = .ok (.getfield 27, 3) := by decide +kernel
theorem dX6_currentDifficulty_4 : decode cX6_currentDifficulty 4 = .ok (.invokevirtual 75, 3) := by decide +kernel
theorem dX6_currentDifficulty_7 : decode cX6_currentDifficulty 7 = .ok (.bipush 8, 2) := by decide +kernel
theorem dX6_currentDifficulty_9 : decode cX6_currentDifficulty 9 = .ok (.idiv, 1) := by decide +kernel
theorem dX6_currentDifficulty_10 : decode cX6_currentDifficulty 10 = .ok (.bipush 6, 2) := by decide +kernel
theorem dX6_currentDifficulty_12 : decode cX6_currentDifficulty 12 = .ok (.invokestatic 79, 3) := by decide +kernel
theorem dX6_currentDifficulty_15 : decode cX6_currentDifficulty 15 = .ok (.ireturn, 1) := by decide +kernel
theorem dX6_pass_0 : decode cX6_pass 0 = .ok (.aload_n 0, 1) := by decide +kernel
theorem dX6_pass_1 : decode cX6_pass 1 = .ok (.getfield 27, 3) := by decide +kernel
theorem dX6_pass_4 : decode cX6_pass 4 = .ok (.aload_n 0, 1) := by decide +kernel
theorem dX6_pass_5 : decode cX6_pass 5 = .ok (.getfield 9, 3) := by decide +kernel
theorem dX6_pass_8 : decode cX6_pass 8 = .ok (.iload_n 1, 1) := by decide +kernel
theorem dX6_pass_9 : decode cX6_pass 9 = .ok (.invokevirtual 85, 3) := by decide +kernel
theorem dX6_pass_12 : decode cX6_pass 12 = .ok (.aload_n 0, 1) := by decide +kernel
theorem dX6_pass_13 : decode cX6_pass 13 = .ok (.dup, 1) := by decide +kernel
theorem dX6_pass_14 : decode cX6_pass 14 = .ok (.getfield 9, 3) := by decide +kernel
theorem dX6_pass_17 : decode cX6_pass 17 = .ok (.iload_n 1, 1) := by decide +kernel
theorem dX6_pass_18 : decode cX6_pass 18 = .ok (.iadd, 1) := by decide +kernel
theorem dX6_pass_19 : decode cX6_pass 19 = .ok (.putfield 9, 3) := by decide +kernel
theorem dX6_pass_22 : decode cX6_pass 22 = .ok (.aload_n 0, 1) := by decide +kernel
theorem dX6_pass_23 : decode cX6_pass 23 = .ok (.getfield 34, 3) := by decide +kernel
theorem dX6_pass_26 : decode cX6_pass 26 = .ok (.aload_n 0, 1) := by decide +kernel
theorem dX6_pass_27 : decode cX6_pass 27 = .ok (.getfield 9, 3) := by decide +kernel
theorem dX6_pass_30 : decode cX6_pass 30 = .ok (.invokevirtual 89, 3) := by decide +kernel
theorem dX6_pass_33 : decode cX6_pass 33 = .ok (.aload_n 0, 1) := by decide +kernel
theorem dX6_pass_34 : decode cX6_pass 34 = .ok (.getfield 48, 3) := by decide +kernel
theorem dX6_pass_37 : decode cX6_pass 37 = .ok (.aload_n 0, 1) := by decide +kernel
theorem dX6_pass_38 : decode cX6_pass 38 = .ok (.invokevirtual 93, 3) := by decide +kernel
theorem dX6_pass_41 : decode cX6_pass 41 = .ok (.invokevirtual 96, 3) := by decide +kernel
theorem dX6_pass_44 : decode cX6_pass 44 = .ok (.return_, 1) := by decide +kernel
theorem dX6_mixInto_0 : decode cX6_mixInto 0 = .ok (.lload_n 1, 1) := by decide +kernel
theorem dX6_mixInto_1 : decode cX6_mixInto 1 = .ok (.aload_n 0, 1) := by decide +kernel
theorem dX6_mixInto_2 : decode cX6_mixInto 2 = .ok (.getfield 9, 3) := by decide +kernel
theorem dX6_mixInto_5 : decode cX6_mixInto 5 = .ok (.i2l, 1) := by decide +kernel
theorem dX6_mixInto_6 : decode cX6_mixInto 6 = .ok (.invokestatic 99, 3) := by decide +kernel
theorem dX6_mixInto_9 : decode cX6_mixInto 9 = .ok (.lstore_n 3, 1) := by decide +kernel
theorem dX6_mixInto_10 : decode cX6_mixInto 10 = .ok (.lload_n 3, 1) := by decide +kernel
theorem dX6_mixInto_11 : decode cX6_mixInto 11 = .ok (.aload_n 0, 1) := by decide +kernel
theorem dX6_mixInto_12 : decode cX6_mixInto 12 = .ok (.getfield 15, 3) := by decide +kernel
theorem dX6_mixInto_15 : decode cX6_mixInto 15 = .ok (.i2l, 1) := by decide +kernel
theorem dX6_mixInto_16 : decode cX6_mixInto 16 = .ok (.invokestatic 99, 3) := by decide +kernel
theorem dX6_mixInto_19 : decode cX6_mixInto 19 = .ok (.lstore_n 3, 1) := by decide +kernel
theorem dX6_mixInto_20 : decode cX6_mixInto 20 = .ok (.lload_n 3, 1) := by decide +kernel
theorem dX6_mixInto_21 : decode cX6_mixInto 21 = .ok (.aload_n 0, 1) := by decide +kernel
theorem dX6_mixInto_22 : decode cX6_mixInto 22 = .ok (.getfield 18, 3) := by decide +kernel
theorem dX6_mixInto_25 : decode cX6_mixInto 25 = .ok (.i2l, 1) := by decide +kernel
theorem dX6_mixInto_26 : decode cX6_mixInto 26 = .ok (.invokestatic 99, 3) := by decide +kernel
theorem dX6_mixInto_29 : decode cX6_mixInto 29 = .ok (.lstore_n 3, 1) := by decide +kernel
theorem dX6_mixInto_30 : decode cX6_mixInto 30 = .ok (.lload_n 3, 1) := by decide +kernel
theorem dX6_mixInto_31 : decode cX6_mixInto 31 = .ok (.aload_n 0, 1) := by decide +kernel
theorem dX6_mixInto_32 : decode cX6_mixInto 32 = .ok (.getfield 27, 3) := by decide +kernel
theorem dX6_mixInto_35 : decode cX6_mixInto 35 = .ok (.invokevirtual 75, 3) := by decide +kernel
theorem dX6_mixInto_38 : decode cX6_mixInto 38 = .ok (.i2l, 1) := by decide +kernel
theorem dX6_mixInto_39 : decode cX6_mixInto 39 = .ok (.invokestatic 99, 3) := by decide +kernel
theorem dX6_mixInto_42 : decode cX6_mixInto 42 = .ok (.lstore_n 3, 1) := by decide +kernel
theorem dX6_mixInto_43 : decode cX6_mixInto 43 = .ok (.lload_n 3, 1) := by decide +kernel
theorem dX6_mixInto_44 : decode cX6_mixInto 44 = .ok (.aload_n 0, 1) := by decide +kernel
theorem dX6_mixInto_45 : decode cX6_mixInto 45 = .ok (.invokevirtual 103, 3) := by decide +kernel
theorem dX6_mixInto_48 : decode cX6_mixInto 48 = .ok (.i2l, 1) := by decide +kernel
theorem dX6_mixInto_49 : decode cX6_mixInto 49 = .ok (.invokestatic 99, 3) := by decide +kernel
theorem dX6_mixInto_52 : decode cX6_mixInto 52 = .ok (.lstore_n 3, 1) := by decide +kernel
theorem dX6_mixInto_53 : decode cX6_mixInto 53 = .ok (.aload_n 0, 1) := by decide +kernel
theorem dX6_mixInto_54 : decode cX6_mixInto 54 = .ok (.getfield 34, 3) := by decide +kernel
theorem dX6_mixInto_57 : decode cX6_mixInto 57 = .ok (.lload_n 3, 1) := by decide +kernel
theorem dX6_mixInto_58 : decode cX6_mixInto 58 = .ok (.aload_n 0, 1) := by decide +kernel
theorem dX6_mixInto_59 : decode cX6_mixInto 59 = .ok (.getfield 9, 3) := by decide +kernel
theorem dX6_mixInto_62 : decode cX6_mixInto 62 = .ok (.invokevirtual 106, 3) := by decide +kernel
theorem dX6_mixInto_65 : decode cX6_mixInto 65 = .ok (.lstore_n 3, 1) := by decide +kernel
theorem dX6_mixInto_66 : decode cX6_mixInto 66 = .ok (.aload_n 0, 1) := by decide +kernel
theorem dX6_mixInto_67 : decode cX6_mixInto 67 = .ok (.getfield 41, 3) := by decide +kernel
theorem dX6_mixInto_70 : decode cX6_mixInto 70 = .ok (.lload_n 3, 1) := by decide +kernel
theorem dX6_mixInto_71 : decode cX6_mixInto 71 = .ok (.invokevirtual 110, 3) := by decide +kernel
theorem dX6_mixInto_74 : decode cX6_mixInto 74 = .ok (.lstore_n 3, 1) := by decide +kernel
theorem dX6_mixInto_75 : decode cX6_mixInto 75 = .ok (.aload_n 0, 1) := by decide +kernel
theorem dX6_mixInto_76 : decode cX6_mixInto 76 = .ok (.getfield 48, 3) := by decide +kernel
theorem dX6_mixInto_79 : decode cX6_mixInto 79 = .ok (.lload_n 3, 1) := by decide +kernel
theorem dX6_mixInto_80 : decode cX6_mixInto 80 = .ok (.invokevirtual 113, 3) := by decide +kernel
theorem dX6_mixInto_83 : decode cX6_mixInto 83 = .ok (.lstore_n 3, 1) := by decide +kernel
theorem dX6_mixInto_84 : decode cX6_mixInto 84 = .ok (.lload_n 3, 1) := by decide +kernel
theorem dX6_mixInto_85 : decode cX6_mixInto 85 = .ok (.aload_n 0, 1) := by decide +kernel
theorem dX6_mixInto_86 : decode cX6_mixInto 86 = .ok (.getfield 21, 3) := by decide +kernel
theorem dX6_mixInto_89 : decode cX6_mixInto 89 = .ok (.i2l, 1) := by decide +kernel
theorem dX6_mixInto_90 : decode cX6_mixInto 90 = .ok (.invokestatic 99, 3) := by decide +kernel
theorem dX6_mixInto_93 : decode cX6_mixInto 93 = .ok (.lstore_n 3, 1) := by decide +kernel
theorem dX6_mixInto_94 : decode cX6_mixInto 94 = .ok (.aload_n 0, 1) := by decide +kernel
theorem dX6_mixInto_95 : decode cX6_mixInto 95 = .ok (.getfield 55, 3) := by decide +kernel
theorem dX6_mixInto_98 : decode cX6_mixInto 98 = .ok (.lload_n 3, 1) := by decide +kernel
theorem dX6_mixInto_99 : decode cX6_mixInto 99 = .ok (.invokevirtual 114, 3) := by decide +kernel
theorem dX6_mixInto_102 : decode cX6_mixInto 102 = .ok (.lreturn, 1) := by decide +kernel
theorem dX7_init_0 : decode cX7_init 0 = .ok (.aload_n 0, 1) := by decide +kernel
theorem dX7_init_1 : decode cX7_init 1 = .ok (.invokespecial 3, 3) := by decide +kernel
theorem dX7_init_4 : decode cX7_init 4 = .ok (.aload_n 0, 1) := by decide +kernel
theorem dX7_init_5 : decode cX7_init 5 = .ok (.bipush 20, 2) := by decide +kernel
theorem dX7_init_7 : decode cX7_init 7 = .ok (.newarray .int, 2) := by decide +kernel
theorem dX7_init_9 : decode cX7_init 9 = .ok (.putfield 9, 3) := by decide +kernel
theorem dX7_init_12 : decode cX7_init 12 = .ok (.aload_n 0, 1) := by decide +kernel
theorem dX7_init_13 : decode cX7_init 13 = .ok (.bipush 20, 2) := by decide +kernel
theorem dX7_init_15 : decode cX7_init 15 = .ok (.newarray .int, 2) := by decide +kernel
theorem dX7_init_17 : decode cX7_init 17 = .ok (.putfield 15, 3) := by decide +kernel
theorem dX7_init_20 : decode cX7_init 20 = .ok (.aload_n 0, 1) := by decide +kernel
theorem dX7_init_21 : decode cX7_init 21 = .ok (.iconst 0, 1) := by decide +kernel
theorem dX7_init_22 : decode cX7_init 22 = .ok (.putfield 18, 3) := by decide +kernel
theorem dX7_init_25 : decode cX7_init 25 = .ok (.return_, 1) := by decide +kernel
theorem dX7_copyFrom_0 : decode cX7_copyFrom 0 = .ok (.aload_n 1, 1) := by decide +kernel
theorem dX7_copyFrom_1 : decode cX7_copyFrom 1 = .ok (.getfield 9, 3) := by decide +kernel
theorem dX7_copyFrom_4 : decode cX7_copyFrom 4 = .ok (.iconst 0, 1) := by decide +kernel
theorem dX7_copyFrom_5 : decode cX7_copyFrom 5 = .ok (.aload_n 0, 1) := by decide +kernel
theorem dX7_copyFrom_6 : decode cX7_copyFrom 6 = .ok (.getfield 9, 3) := by decide +kernel
theorem dX7_copyFrom_9 : decode cX7_copyFrom 9 = .ok (.iconst 0, 1) := by decide +kernel
theorem dX7_copyFrom_10 : decode cX7_copyFrom 10 = .ok (.bipush 20, 2) := by decide +kernel
theorem dX7_copyFrom_12 : decode cX7_copyFrom 12 = .ok (.invokestatic 22, 3) := by decide +kernel
theorem dX7_copyFrom_15 : decode cX7_copyFrom 15 = .ok (.aload_n 1, 1) := by decide +kernel
theorem dX7_copyFrom_16 : decode cX7_copyFrom 16 = .ok (.getfield 15, 3) := by decide +kernel
theorem dX7_copyFrom_19 : decode cX7_copyFrom 19 = .ok (.iconst 0, 1) := by decide +kernel
theorem dX7_copyFrom_20 : decode cX7_copyFrom 20 = .ok (.aload_n 0, 1) := by decide +kernel
theorem dX7_copyFrom_21 : decode cX7_copyFrom 21 = .ok (.getfield 15, 3) := by decide +kernel
theorem dX7_copyFrom_24 : decode cX7_copyFrom 24 = .ok (.iconst 0, 1) := by decide +kernel
theorem dX7_copyFrom_25 : decode cX7_copyFrom 25 = .ok (.bipush 20, 2) := by decide +kernel
theorem dX7_copyFrom_27 : decode cX7_copyFrom 27 = .ok (.invokestatic 22, 3) := by decide +kernel
theorem dX7_copyFrom_30 : decode cX7_copyFrom 30 = .ok (.aload_n 0, 1) := by decide +kernel
theorem dX7_copyFrom_31 : decode cX7_copyFrom 31 = .ok (.aload_n 1, 1) := by decide +kernel
theorem dX7_copyFrom_32 : decode cX7_copyFrom 32 = .ok (.getfield 18, 3) := by decide +kernel
theorem dX7_copyFrom_35 : decode cX7_copyFrom 35 = .ok (.putfield 18, 3) := by decide +kernel
theorem dX7_copyFrom_38 : decode cX7_copyFrom 38 = .ok (.return_, 1) := by decide +kernel
theorem dX7_contains_0 : decode cX7_contains 0 = .ok (.iconst 0, 1) := by decide +kernel
theorem dX7_contains_1 : decode cX7_contains 1 = .ok (.istore_n 3, 1) := by decide +kernel
theorem dX7_contains_2 : decode cX7_contains 2 = .ok (.iload_n 3, 1) := by decide +kernel
theorem dX7_contains_3 : decode cX7_contains 3 = .ok (.aload_n 0, 1) := by decide +kernel
theorem dX7_contains_4 : decode cX7_contains 4 = .ok (.getfield 18, 3) := by decide +kernel
theorem dX7_contains_7 : decode cX7_contains 7 = .ok (.if_icmp .ge 31, 3) := by decide +kernel
theorem dX7_contains_10 : decode cX7_contains 10 = .ok (.aload_n 0, 1) := by decide +kernel
theorem dX7_contains_11 : decode cX7_contains 11 = .ok (.getfield 9, 3) := by decide +kernel
theorem dX7_contains_14 : decode cX7_contains 14 = .ok (.iload_n 3, 1) := by decide +kernel
theorem dX7_contains_15 : decode cX7_contains 15 = .ok (.iaload, 1) := by decide +kernel
theorem dX7_contains_16 : decode cX7_contains 16 = .ok (.iload_n 1, 1) := by decide +kernel
theorem dX7_contains_17 : decode cX7_contains 17 = .ok (.if_icmp .ne 15, 3) := by decide +kernel
theorem dX7_contains_20 : decode cX7_contains 20 = .ok (.aload_n 0, 1) := by decide +kernel
theorem dX7_contains_21 : decode cX7_contains 21 = .ok (.getfield 15, 3) := by decide +kernel
theorem dX7_contains_24 : decode cX7_contains 24 = .ok (.iload_n 3, 1) := by decide +kernel
theorem dX7_contains_25 : decode cX7_contains 25 = .ok (.iaload, 1) := by decide +kernel
theorem dX7_contains_26 : decode cX7_contains 26 = .ok (.iload_n 2, 1) := by decide +kernel
theorem dX7_contains_27 : decode cX7_contains 27 = .ok (.if_icmp .ne 5, 3) := by decide +kernel
theorem dX7_contains_30 : decode cX7_contains 30 = .ok (.iconst 1, 1) := by decide +kernel
theorem dX7_contains_31 : decode cX7_contains 31 = .ok (.ireturn, 1) := by decide +kernel
theorem dX7_contains_32 : decode cX7_contains 32 = .ok (.iinc 3 1, 3) := by decide +kernel
theorem dX7_contains_35 : decode cX7_contains 35 = .ok (.goto (-33), 3) := by decide +kernel
theorem dX7_contains_38 : decode cX7_contains 38 = .ok (.iconst 0, 1) := by decide +kernel
theorem dX7_contains_39 : decode cX7_contains 39 = .ok (.ireturn, 1) := by decide +kernel
theorem dX7_add_0 : decode cX7_add 0 = .ok (.aload_n 0, 1) := by decide +kernel
theorem dX7_add_1 : decode cX7_add 1 = .ok (.getfield 18, 3) := by decide +kernel
theorem dX7_add_4 : decode cX7_add 4 = .ok (.bipush 20, 2) := by decide +kernel
theorem dX7_add_6 : decode cX7_add 6 = .ok (.if_icmp .lt 7, 3) := by decide +kernel
theorem dX7_add_9 : decode cX7_add 9 = .ok (.aload_n 0, 1) := by decide +kernel
theorem dX7_add_10 : decode cX7_add 10 = .ok (.invokevirtual 28, 3) := by decide +kernel
theorem dX7_add_13 : decode cX7_add 13 = .ok (.aload_n 0, 1) := by decide +kernel
theorem dX7_add_14 : decode cX7_add 14 = .ok (.getfield 9, 3) := by decide +kernel
theorem dX7_add_17 : decode cX7_add 17 = .ok (.aload_n 0, 1) := by decide +kernel
theorem dX7_add_18 : decode cX7_add 18 = .ok (.getfield 18, 3) := by decide +kernel
theorem dX7_add_21 : decode cX7_add 21 = .ok (.iload_n 1, 1) := by decide +kernel
theorem dX7_add_22 : decode cX7_add 22 = .ok (.iastore, 1) := by decide +kernel
theorem dX7_add_23 : decode cX7_add 23 = .ok (.aload_n 0, 1) := by decide +kernel
theorem dX7_add_24 : decode cX7_add 24 = .ok (.getfield 15, 3) := by decide +kernel
theorem dX7_add_27 : decode cX7_add 27 = .ok (.aload_n 0, 1) := by decide +kernel
theorem dX7_add_28 : decode cX7_add 28 = .ok (.getfield 18, 3) := by decide +kernel
theorem dX7_add_31 : decode cX7_add 31 = .ok (.iload_n 2, 1) := by decide +kernel
theorem dX7_add_32 : decode cX7_add 32 = .ok (.iastore, 1) := by decide +kernel
theorem dX7_add_33 : decode cX7_add 33 = .ok (.aload_n 0, 1) := by decide +kernel
theorem dX7_add_34 : decode cX7_add 34 = .ok (.dup, 1) := by decide +kernel
theorem dX7_add_35 : decode cX7_add 35 = .ok (.getfield 18, 3) := by decide +kernel
theorem dX7_add_38 : decode cX7_add 38 = .ok (.iconst 1, 1) := by decide +kernel
theorem dX7_add_39 : decode cX7_add 39 = .ok (.iadd, 1) := by decide +kernel
theorem dX7_add_40 : decode cX7_add 40 = .ok (.putfield 18, 3) := by decide +kernel
theorem dX7_add_43 : decode cX7_add 43 = .ok (.return_, 1) := by decide +kernel
theorem dX7_forgetOldest_0 : decode cX7_forgetOldest 0 = .ok (.iconst 1, 1) := by decide +kernel
theorem dX7_forgetOldest_1 : decode cX7_forgetOldest 1 = .ok (.istore_n 1, 1) := by decide +kernel
theorem dX7_forgetOldest_2 : decode cX7_forgetOldest 2 = .ok (.iload_n 1, 1) := by decide +kernel
theorem dX7_forgetOldest_3 : decode cX7_forgetOldest 3 = .ok (.bipush 20, 2) := by decide +kernel
theorem dX7_forgetOldest_5 : decode cX7_forgetOldest 5 = .ok (.if_icmp .ge 37, 3) := by decide +kernel
theorem dX7_forgetOldest_8 : decode cX7_forgetOldest 8 = .ok (.aload_n 0, 1) := by decide +kernel
theorem dX7_forgetOldest_9 : decode cX7_forgetOldest 9 = .ok (.getfield 9, 3) := by decide +kernel
theorem dX7_forgetOldest_12 : decode cX7_forgetOldest 12 = .ok (.iload_n 1, 1) := by decide +kernel
theorem dX7_forgetOldest_13 : decode cX7_forgetOldest 13 = .ok (.iconst 1, 1) := by decide +kernel
theorem dX7_forgetOldest_14 : decode cX7_forgetOldest 14 = .ok (.isub, 1) := by decide +kernel
theorem dX7_forgetOldest_15 : decode cX7_forgetOldest 15 = .ok (.aload_n 0, 1) := by decide +kernel
theorem dX7_forgetOldest_16 : decode cX7_forgetOldest 16 = .ok (.getfield 9, 3) := by decide +kernel
theorem dX7_forgetOldest_19 : decode cX7_forgetOldest 19 = .ok (.iload_n 1, 1) := by decide +kernel
theorem dX7_forgetOldest_20 : decode cX7_forgetOldest 20 = .ok (.iaload, 1) := by decide +kernel
theorem dX7_forgetOldest_21 : decode cX7_forgetOldest 21 = .ok (.iastore, 1) := by decide +kernel
theorem dX7_forgetOldest_22 : decode cX7_forgetOldest 22 = .ok (.aload_n 0, 1) := by decide +kernel
theorem dX7_forgetOldest_23 : decode cX7_forgetOldest 23 = .ok (.getfield 15, 3) := by decide +kernel
theorem dX7_forgetOldest_26 : decode cX7_forgetOldest 26 = .ok (.iload_n 1, 1) := by decide +kernel
theorem dX7_forgetOldest_27 : decode cX7_forgetOldest 27 = .ok (.iconst 1, 1) := by decide +kernel
theorem dX7_forgetOldest_28 : decode cX7_forgetOldest 28 = .ok (.isub, 1) := by decide +kernel
theorem dX7_forgetOldest_29 : decode cX7_forgetOldest 29 = .ok (.aload_n 0, 1) := by decide +kernel
theorem dX7_forgetOldest_30 : decode cX7_forgetOldest 30 = .ok (.getfield 15, 3) := by decide +kernel
theorem dX7_forgetOldest_33 : decode cX7_forgetOldest 33 = .ok (.iload_n 1, 1) := by decide +kernel
theorem dX7_forgetOldest_34 : decode cX7_forgetOldest 34 = .ok (.iaload, 1) := by decide +kernel
theorem dX7_forgetOldest_35 : decode cX7_forgetOldest 35 = .ok (.iastore, 1) := by decide +kernel
theorem dX7_forgetOldest_36 : decode cX7_forgetOldest 36 = .ok (.iinc 1 1, 3) := by decide +kernel
theorem dX7_forgetOldest_39 : decode cX7_forgetOldest 39 = .ok (.goto (-37), 3) := by decide +kernel
theorem dX7_forgetOldest_42 : decode cX7_forgetOldest 42 = .ok (.aload_n 0, 1) := by decide +kernel
theorem dX7_forgetOldest_43 : decode cX7_forgetOldest 43 = .ok (.bipush 19, 2) := by decide +kernel
theorem dX7_forgetOldest_45 : decode cX7_forgetOldest 45 = .ok (.putfield 18, 3) := by decide +kernel
theorem dX7_forgetOldest_48 : decode cX7_forgetOldest 48 = .ok (.return_, 1) := by decide +kernel
theorem dX7_forgetStale_0 : decode cX7_forgetStale 0 = .ok (.iconst 0, 1) := by decide +kernel
theorem dX7_forgetStale_1 : decode cX7_forgetStale 1 = .ok (.istore_n 2, 1) := by decide +kernel
theorem dX7_forgetStale_2 : decode cX7_forgetStale 2 = .ok (.iconst 0, 1) := by decide +kernel
theorem dX7_forgetStale_3 : decode cX7_forgetStale 3 = .ok (.istore_n 3, 1) := by decide +kernel
theorem dX7_forgetStale_4 : decode cX7_forgetStale 4 = .ok (.iload_n 3, 1) := by decide +kernel
theorem dX7_forgetStale_5 : decode cX7_forgetStale 5 = .ok (.aload_n 0, 1) := by decide +kernel
theorem dX7_forgetStale_6 : decode cX7_forgetStale 6 = .ok (.getfield 18, 3) := by decide +kernel
theorem dX7_forgetStale_9 : decode cX7_forgetStale 9 = .ok (.if_icmp .ge 50, 3) := by decide +kernel
theorem dX7_forgetStale_12 : decode cX7_forgetStale 12 = .ok (.aload_n 0, 1) := by decide +kernel
theorem dX7_forgetStale_13 : decode cX7_forgetStale 13 = .ok (.getfield 15, 3) := by decide +kernel
theorem dX7_forgetStale_16 : decode cX7_forgetStale 16 = .ok (.iload_n 3, 1) := by decide +kernel
theorem dX7_forgetStale_17 : decode cX7_forgetStale 17 = .ok (.iaload, 1) := by decide +kernel
theorem dX7_forgetStale_18 : decode cX7_forgetStale 18 = .ok (.iload_n 1, 1) := by decide +kernel
theorem dX7_forgetStale_19 : decode cX7_forgetStale 19 = .ok (.invokestatic 31, 3) := by decide +kernel
theorem dX7_forgetStale_22 : decode cX7_forgetStale 22 = .ok (.iconst 1, 1) := by decide +kernel
theorem dX7_forgetStale_23 : decode cX7_forgetStale 23 = .ok (.if_icmp .gt 30, 3) := by decide +kernel
theorem dX7_forgetStale_26 : decode cX7_forgetStale 26 = .ok (.aload_n 0, 1) := by decide +kernel
theorem dX7_forgetStale_27 : decode cX7_forgetStale 27 = .ok (.getfield 9, 3) := by decide +kernel
theorem dX7_forgetStale_30 : decode cX7_forgetStale 30 = .ok (.iload_n 2, 1) := by decide +kernel
theorem dX7_forgetStale_31 : decode cX7_forgetStale 31 = .ok (.aload_n 0, 1) := by decide +kernel
theorem dX7_forgetStale_32 : decode cX7_forgetStale 32 = .ok (.getfield 9, 3) := by decide +kernel
theorem dX7_forgetStale_35 : decode cX7_forgetStale 35 = .ok (.iload_n 3, 1) := by decide +kernel
theorem dX7_forgetStale_36 : decode cX7_forgetStale 36 = .ok (.iaload, 1) := by decide +kernel
theorem dX7_forgetStale_37 : decode cX7_forgetStale 37 = .ok (.iastore, 1) := by decide +kernel
theorem dX7_forgetStale_38 : decode cX7_forgetStale 38 = .ok (.aload_n 0, 1) := by decide +kernel
theorem dX7_forgetStale_39 : decode cX7_forgetStale 39 = .ok (.getfield 15, 3) := by decide +kernel
theorem dX7_forgetStale_42 : decode cX7_forgetStale 42 = .ok (.iload_n 2, 1) := by decide +kernel
theorem dX7_forgetStale_43 : decode cX7_forgetStale 43 = .ok (.aload_n 0, 1) := by decide +kernel
theorem dX7_forgetStale_44 : decode cX7_forgetStale 44 = .ok (.getfield 15, 3) := by decide +kernel
theorem dX7_forgetStale_47 : decode cX7_forgetStale 47 = .ok (.iload_n 3, 1) := by decide +kernel
theorem dX7_forgetStale_48 : decode cX7_forgetStale 48 = .ok (.iaload, 1) := by decide +kernel
theorem dX7_forgetStale_49 : decode cX7_forgetStale 49 = .ok (.iastore, 1) := by decide +kernel
theorem dX7_forgetStale_50 : decode cX7_forgetStale 50 = .ok (.iinc 2 1, 3) := by decide +kernel
theorem dX7_forgetStale_53 : decode cX7_forgetStale 53 = .ok (.iinc 3 1, 3) := by decide +kernel
theorem dX7_forgetStale_56 : decode cX7_forgetStale 56 = .ok (.goto (-52), 3) := by decide +kernel
theorem dX7_forgetStale_59 : decode cX7_forgetStale 59 = .ok (.aload_n 0, 1) := by decide +kernel
theorem dX7_forgetStale_60 : decode cX7_forgetStale 60 = .ok (.iload_n 2, 1) := by decide +kernel
theorem dX7_forgetStale_61 : decode cX7_forgetStale 61 = .ok (.putfield 18, 3) := by decide +kernel
theorem dX7_forgetStale_64 : decode cX7_forgetStale 64 = .ok (.return_, 1) := by decide +kernel
theorem dX7_mixInto_0 : decode cX7_mixInto 0 = .ok (.lload_n 1, 1) := by decide +kernel
theorem dX7_mixInto_1 : decode cX7_mixInto 1 = .ok (.aload_n 0, 1) := by decide +kernel
theorem dX7_mixInto_2 : decode cX7_mixInto 2 = .ok (.getfield 18, 3) := by decide +kernel
theorem dX7_mixInto_5 : decode cX7_mixInto 5 = .ok (.i2l, 1) := by decide +kernel
theorem dX7_mixInto_6 : decode cX7_mixInto 6 = .ok (.invokestatic 37, 3) := by decide +kernel
theorem dX7_mixInto_9 : decode cX7_mixInto 9 = .ok (.lstore_n 3, 1) := by decide +kernel
theorem dX7_mixInto_10 : decode cX7_mixInto 10 = .ok (.iconst 0, 1) := by decide +kernel
theorem dX7_mixInto_11 : decode cX7_mixInto 11 = .ok (.istore 5, 2) := by decide +kernel
theorem dX7_mixInto_13 : decode cX7_mixInto 13 = .ok (.iload 5, 2) := by decide +kernel
theorem dX7_mixInto_15 : decode cX7_mixInto 15 = .ok (.aload_n 0, 1) := by decide +kernel
theorem dX7_mixInto_16 : decode cX7_mixInto 16 = .ok (.getfield 18, 3) := by decide +kernel
theorem dX7_mixInto_19 : decode cX7_mixInto 19 = .ok (.if_icmp .ge 22, 3) := by decide +kernel
theorem dX7_mixInto_22 : decode cX7_mixInto 22 = .ok (.lload_n 3, 1) := by decide +kernel
theorem dX7_mixInto_23 : decode cX7_mixInto 23 = .ok (.aload_n 0, 1) := by decide +kernel
theorem dX7_mixInto_24 : decode cX7_mixInto 24 = .ok (.getfield 15, 3) := by decide +kernel
theorem dX7_mixInto_27 : decode cX7_mixInto 27 = .ok (.iload 5, 2) := by decide +kernel
theorem dX7_mixInto_29 : decode cX7_mixInto 29 = .ok (.iaload, 1) := by decide +kernel
theorem dX7_mixInto_30 : decode cX7_mixInto 30 = .ok (.i2l, 1) := by decide +kernel
theorem dX7_mixInto_31 : decode cX7_mixInto 31 = .ok (.invokestatic 37, 3) := by decide +kernel
theorem dX7_mixInto_34 : decode cX7_mixInto 34 = .ok (.lstore_n 3, 1) := by decide +kernel
theorem dX7_mixInto_35 : decode cX7_mixInto 35 = .ok (.iinc 5 1, 3) := by decide +kernel
theorem dX7_mixInto_38 : decode cX7_mixInto 38 = .ok (.goto (-25), 3) := by decide +kernel
theorem dX7_mixInto_41 : decode cX7_mixInto 41 = .ok (.lload_n 3, 1) := by decide +kernel
theorem dX7_mixInto_42 : decode cX7_mixInto 42 = .ok (.lreturn, 1) := by decide +kernel
theorem dX8_init_0 : decode cX8_init 0 = .ok (.aload_n 0, 1) := by decide +kernel
theorem dX8_init_1 : decode cX8_init 1 = .ok (.invokespecial 3, 3) := by decide +kernel
theorem dX8_init_4 : decode cX8_init 4 = .ok (.aload_n 0, 1) := by decide +kernel
theorem dX8_init_5 : decode cX8_init 5 = .ok (.new 9, 3) := by decide +kernel
theorem dX8_init_8 : decode cX8_init 8 = .ok (.dup, 1) := by decide +kernel
theorem dX8_init_9 : decode cX8_init 9 = .ok (.invokespecial 11, 3) := by decide +kernel
theorem dX8_init_12 : decode cX8_init 12 = .ok (.putfield 12, 3) := by decide +kernel
theorem dX8_init_15 : decode cX8_init 15 = .ok (.aload_n 0, 1) := by decide +kernel
theorem dX8_init_16 : decode cX8_init 16 = .ok (.new 16, 3) := by decide +kernel
theorem dX8_init_19 : decode cX8_init 19 = .ok (.dup, 1) := by decide +kernel
theorem dX8_init_20 : decode cX8_init 20 = .ok (.invokespecial 18, 3) := by decide +kernel
theorem dX8_init_23 : decode cX8_init 23 = .ok (.putfield 19, 3) := by decide +kernel
theorem dX8_init_26 : decode cX8_init 26 = .ok (.aload_n 0, 1) := by decide +kernel
theorem dX8_init_27 : decode cX8_init 27 = .ok (.bipush 9, 2) := by decide +kernel
theorem dX8_init_29 : decode cX8_init 29 = .ok (.newarray .int, 2) := by decide +kernel
theorem dX8_init_31 : decode cX8_init 31 = .ok (.putfield 23, 3) := by decide +kernel
theorem dX8_init_34 : decode cX8_init 34 = .ok (.return_, 1) := by decide +kernel
theorem dX8_advance_0 : decode cX8_advance 0 = .ok (.iload_n 1, 1) := by decide +kernel
theorem dX8_advance_1 : decode cX8_advance 1 = .ok (.iconst 0, 1) := by decide +kernel
theorem dX8_advance_2 : decode cX8_advance 2 = .ok (.sipush 1000, 3) := by decide +kernel
theorem dX8_advance_5 : decode cX8_advance 5 = .ok (.invokestatic 27, 3) := by decide +kernel
theorem dX8_advance_8 : decode cX8_advance 8 = .ok (.ifCond .ne 10, 3) := by decide +kernel
theorem dX8_advance_11 : decode cX8_advance 11 = .ok (.aload_n 0, 1) := by decide +kernel
theorem dX8_advance_12 : decode cX8_advance 12 = .ok (.bipush (-2), 2) := by decide +kernel
theorem dX8_advance_14 : decode cX8_advance 14 = .ok (.invokevirtual 31, 3) := by decide +kernel
theorem dX8_advance_17 : decode cX8_advance 17 = .ok (.ireturn, 1) := by decide +kernel
theorem dX8_advance_18 : decode cX8_advance 18 = .ok (.aload_n 0, 1) := by decide +kernel
theorem dX8_advance_19 : decode cX8_advance 19 = .ok (.getfield 19, 3) := by decide +kernel
theorem dX8_advance_22 : decode cX8_advance 22 = .ok (.aload_n 0, 1) := by decide +kernel
theorem dX8_advance_23 : decode cX8_advance 23 = .ok (.getfield 12, 3) := by decide +kernel
theorem dX8_advance_26 : decode cX8_advance 26 = .ok (.invokevirtual 35, 3) := by decide +kernel
theorem dX8_advance_29 : decode cX8_advance 29 = .ok (.aload_n 0, 1) := by decide +kernel
theorem dX8_advance_30 : decode cX8_advance 30 = .ok (.getfield 12, 3) := by decide +kernel
theorem dX8_advance_33 : decode cX8_advance 33 = .ok (.iload_n 1, 1) := by decide +kernel
theorem dX8_advance_34 : decode cX8_advance 34 = .ok (.invokevirtual 39, 3) := by decide +kernel
theorem dX8_advance_37 : decode cX8_advance 37 = .ok (.aload_n 0, 1) := by decide +kernel
theorem dX8_advance_38 : decode cX8_advance 38 = .ok (.getfield 12, 3) := by decide +kernel
theorem dX8_advance_41 : decode cX8_advance 41 = .ok (.getfield 43, 3) := by decide +kernel
theorem dX8_advance_44 : decode cX8_advance 44 = .ok (.ireturn, 1) := by decide +kernel
theorem dX8_rotateKey_0 : decode cX8_rotateKey 0 = .ok (.iload_n 1, 1) := by decide +kernel
theorem dX8_rotateKey_1 : decode cX8_rotateKey 1 = .ok (.iconst 0, 1) := by decide +kernel
theorem dX8_rotateKey_2 : decode cX8_rotateKey 2 = .ok (.ldc 47, 2) := by decide +kernel
theorem dX8_rotateKey_4 : decode cX8_rotateKey 4 = .ok (.invokestatic 27, 3) := by decide +kernel
theorem dX8_rotateKey_7 : decode cX8_rotateKey 7 = .ok (.ifCond .ne 10, 3) := by decide +kernel
theorem dX8_rotateKey_10 : decode cX8_rotateKey 10 = .ok (.aload_n 0, 1) := by decide +kernel
theorem dX8_rotateKey_11 : decode cX8_rotateKey 11 = .ok (.bipush (-2), 2) := by decide +kernel
theorem dX8_rotateKey_13 : decode cX8_rotateKey 13 = .ok (.invokevirtual 31, 3) := by decide +kernel
theorem dX8_rotateKey_16 : decode cX8_rotateKey 16 = .ok (.ireturn, 1) := by decide +kernel
theorem dX8_rotateKey_17 : decode cX8_rotateKey 17 = .ok (.aload_n 0, 1) := by decide +kernel
theorem dX8_rotateKey_18 : decode cX8_rotateKey 18 = .ok (.getfield 19, 3) := by decide +kernel
theorem dX8_rotateKey_21 : decode cX8_rotateKey 21 = .ok (.aload_n 0, 1) := by decide +kernel
theorem dX8_rotateKey_22 : decode cX8_rotateKey 22 = .ok (.getfield 12, 3) := by decide +kernel
theorem dX8_rotateKey_25 : decode cX8_rotateKey 25 = .ok (.invokevirtual 35, 3) := by decide +kernel
theorem dX8_rotateKey_28 : decode cX8_rotateKey 28 = .ok (.aload_n 0, 1) := by decide +kernel
theorem dX8_rotateKey_29 : decode cX8_rotateKey 29 = .ok (.getfield 12, 3) := by decide +kernel
theorem dX8_rotateKey_32 : decode cX8_rotateKey 32 = .ok (.aload_n 0, 1) := by decide +kernel
theorem dX8_rotateKey_33 : decode cX8_rotateKey 33 = .ok (.getfield 12, 3) := by decide +kernel
theorem dX8_rotateKey_36 : decode cX8_rotateKey 36 = .ok (.getfield 48, 3) := by decide +kernel
theorem dX8_rotateKey_39 : decode cX8_rotateKey 39 = .ok (.putfield 51, 3) := by decide +kernel
theorem dX8_rotateKey_42 : decode cX8_rotateKey 42 = .ok (.aload_n 0, 1) := by decide +kernel
theorem dX8_rotateKey_43 : decode cX8_rotateKey 43 = .ok (.getfield 12, 3) := by decide +kernel
theorem dX8_rotateKey_46 : decode cX8_rotateKey 46 = .ok (.iload_n 1, 1) := by decide +kernel
theorem dX8_rotateKey_47 : decode cX8_rotateKey 47 = .ok (.putfield 48, 3) := by decide +kernel
theorem dX8_rotateKey_50 : decode cX8_rotateKey 50 = .ok (.aload_n 0, 1) := by decide +kernel
theorem dX8_rotateKey_51 : decode cX8_rotateKey 51 = .ok (.getfield 12, 3) := by decide +kernel
theorem dX8_rotateKey_54 : decode cX8_rotateKey 54 = .ok (.getfield 51, 3) := by decide +kernel
theorem dX8_rotateKey_57 : decode cX8_rotateKey 57 = .ok (.ireturn, 1) := by decide +kernel
theorem dX8_open_0 : decode cX8_open 0 = .ok (.iload_n 1, 1) := by decide +kernel
theorem dX8_open_1 : decode cX8_open 1 = .ok (.iload_n 2, 1) := by decide +kernel
theorem dX8_open_2 : decode cX8_open 2 = .ok (.invokestatic 54, 3) := by decide +kernel
theorem dX8_open_5 : decode cX8_open 5 = .ok (.ifCond .eq 15, 3) := by decide +kernel
theorem dX8_open_8 : decode cX8_open 8 = .ok (.iload_n 3, 1) := by decide +kernel
theorem dX8_open_9 : decode cX8_open 9 = .ok (.bipush 64, 2) := by decide +kernel
theorem dX8_open_11 : decode cX8_open 11 = .ok (.sipush 9999, 3) := by decide +kernel
theorem dX8_open_14 : decode cX8_open 14 = .ok (.invokestatic 27, 3) := by decide +kernel
theorem dX8_open_17 : decode cX8_open 17 = .ok (.ifCond .ne 10, 3) := by decide +kernel
theorem dX8_open_20 : decode cX8_open 20 = .ok (.aload_n 0, 1) := by decide +kernel
theorem dX8_open_21 : decode cX8_open 21 = .ok (.bipush (-2), 2) := by decide +kernel
theorem dX8_open_23 : decode cX8_open 23 = .ok (.invokevirtual 31, 3) := by decide +kernel
theorem dX8_open_26 : decode cX8_open 26 = .ok (.ireturn, 1) := by decide +kernel
theorem dX8_open_27 : decode cX8_open 27 = .ok (.iload_n 1, 1) := by decide +kernel
theorem dX8_open_28 : decode cX8_open 28 = .ok (.iload_n 2, 1) := by decide +kernel
theorem dX8_open_29 : decode cX8_open 29 = .ok (.invokestatic 58, 3) := by decide +kernel
theorem dX8_open_32 : decode cX8_open 32 = .ok (.istore 4, 2) := by decide +kernel
theorem dX8_open_34 : decode cX8_open 34 = .ok (.aload_n 0, 1) := by decide +kernel
theorem dX8_open_35 : decode cX8_open 35 = .ok (.getfield 12, 3) := by decide +kernel
theorem dX8_open_38 : decode cX8_open 38 = .ok (.getfield 62, 3) := by decide +kernel
theorem dX8_open_41 : decode cX8_open 41 = .ok (.iload 4, 2) := by decide +kernel
theorem dX8_open_43 : decode cX8_open 43 = .ok (.invokevirtual 66, 3) := by decide +kernel
theorem dX8_open_46 : decode cX8_open 46 = .ok (.ifCond .eq 10, 3) := by decide +kernel
theorem dX8_open_49 : decode cX8_open 49 = .ok (.aload_n 0, 1) := by decide +kernel
theorem dX8_open_50 : decode cX8_open 50 = .ok (.bipush (-3), 2) := by decide +kernel
theorem dX8_open_52 : decode cX8_open 52 = .ok (.invokevirtual 31, 3) := by decide +kernel
theorem dX8_open_55 : decode cX8_open 55 = .ok (.ireturn, 1) := by decide +kernel
theorem dX8_open_56 : decode cX8_open 56 = .ok (.aload_n 0, 1) := by decide +kernel
theorem dX8_open_57 : decode cX8_open 57 = .ok (.getfield 19, 3) := by decide +kernel
theorem dX8_open_60 : decode cX8_open 60 = .ok (.aload_n 0, 1) := by decide +kernel
theorem dX8_open_61 : decode cX8_open 61 = .ok (.getfield 12, 3) := by decide +kernel
theorem dX8_open_64 : decode cX8_open 64 = .ok (.invokevirtual 35, 3) := by decide +kernel
theorem dX8_open_67 : decode cX8_open 67 = .ok (.aload_n 0, 1) := by decide +kernel
theorem dX8_open_68 : decode cX8_open 68 = .ok (.getfield 12, 3) := by decide +kernel
theorem dX8_open_71 : decode cX8_open 71 = .ok (.invokevirtual 72, 3) := by decide +kernel
theorem dX8_open_74 : decode cX8_open 74 = .ok (.bipush 32, 2) := by decide +kernel
theorem dX8_open_76 : decode cX8_open 76 = .ok (.invokestatic 76, 3) := by decide +kernel
theorem dX8_open_79 : decode cX8_open 79 = .ok (.istore 5, 2) := by decide +kernel
theorem dX8_open_81 : decode cX8_open 81 = .ok (.aload_n 0, 1) := by decide +kernel
theorem dX8_open_82 : decode cX8_open 82 = .ok (.getfield 12, 3) := by decide +kernel
theorem dX8_open_85 : decode cX8_open 85 = .ok (.getfield 48, 3) := by decide +kernel
theorem dX8_open_88 : decode cX8_open 88 = .ok (.iload 4, 2) := by decide +kernel
theorem dX8_open_90 : decode cX8_open 90 = .ok (.iload 5, 2) := by decide +kernel
theorem dX8_open_92 : decode cX8_open 92 = .ok (.iload_n 3, 1) := by decide +kernel
theorem dX8_open_93 : decode cX8_open 93 = .ok (.invokestatic 81, 3) := by decide +kernel
theorem dX8_open_96 : decode cX8_open 96 = .ok (.invokestatic 86, 3) := by decide +kernel
theorem dX8_open_99 : decode cX8_open 99 = .ok (.istore 6, 2) := by decide +kernel
theorem dX8_open_101 : decode cX8_open 101 = .ok (.aload_n 0, 1) := by decide +kernel
theorem dX8_open_102 : decode cX8_open 102 = .ok (.getfield 12, 3) := by decide +kernel
theorem dX8_open_105 : decode cX8_open 105 = .ok (.getfield 90, 3) := by decide +kernel
theorem dX8_open_108 : decode cX8_open 108 = .ok (.aload_n 0, 1) := by decide +kernel
theorem dX8_open_109 : decode cX8_open 109 = .ok (.getfield 12, 3) := by decide +kernel
theorem dX8_open_112 : decode cX8_open 112 = .ok (.getfield 43, 3) := by decide +kernel
theorem dX8_open_115 : decode cX8_open 115 = .ok (.invokevirtual 94, 3) := by decide +kernel
theorem dX8_open_118 : decode cX8_open 118 = .ok (.aload_n 0, 1) := by decide +kernel
theorem dX8_open_119 : decode cX8_open 119 = .ok (.getfield 12, 3) := by decide +kernel
theorem dX8_open_122 : decode cX8_open 122 = .ok (.getfield 90, 3) := by decide +kernel
theorem dX8_open_125 : decode cX8_open 125 = .ok (.invokevirtual 99, 3) := by decide +kernel
theorem dX8_open_128 : decode cX8_open 128 = .ok (.bipush 12, 2) := by decide +kernel
theorem dX8_open_130 : decode cX8_open 130 = .ok (.if_icmp .ge 7, 3) := by decide +kernel
theorem dX8_open_133 : decode cX8_open 133 = .ok (.iconst 1, 1) := by decide +kernel
theorem dX8_open_134 : decode cX8_open 134 = .ok (.goto 4, 3) := by decide +kernel
theorem dX8_open_137 : decode cX8_open 137 = .ok (.iconst 0, 1) := by decide +kernel
theorem dX8_open_138 : decode cX8_open 138 = .ok (.istore 7, 2) := by decide +kernel
theorem dX8_open_140 : decode cX8_open 140 = .ok (.aload_n 0, 1) := by decide +kernel
theorem dX8_open_141 : decode cX8_open 141 = .ok (.getfield 12, 3) := by decide +kernel
theorem dX8_open_144 : decode cX8_open 144 = .ok (.getfield 102, 3) := by decide +kernel
theorem dX8_open_147 : decode cX8_open 147 = .ok (.iload 4, 2) := by decide +kernel
theorem dX8_open_149 : decode cX8_open 149 = .ok (.iload 6, 2) := by decide +kernel
theorem dX8_open_151 : decode cX8_open 151 = .ok (.aload_n 0, 1) := by decide +kernel
theorem dX8_open_152 : decode cX8_open 152 = .ok (.getfield 12, 3) := by decide +kernel
theorem dX8_open_155 : decode cX8_open 155 = .ok (.getfield 43, 3) := by decide +kernel
theorem dX8_open_158 : decode cX8_open 158 = .ok (.iload 7, 2) := by decide +kernel
theorem dX8_open_160 : decode cX8_open 160 = .ok (.invokevirtual 106, 3) := by decide +kernel
theorem dX8_open_163 : decode cX8_open 163 = .ok (.iload 6, 2) := by decide +kernel
theorem dX8_open_165 : decode cX8_open 165 = .ok (.ireturn, 1) := by decide +kernel
theorem dX8_accept_0 : decode cX8_accept 0 = .ok (.iload_n 1, 1) := by decide +kernel
theorem dX8_accept_1 : decode cX8_accept 1 = .ok (.iload_n 2, 1) := by decide +kernel
theorem dX8_accept_2 : decode cX8_accept 2 = .ok (.invokestatic 54, 3) := by decide +kernel
theorem dX8_accept_5 : decode cX8_accept 5 = .ok (.ifCond .eq 22, 3) := by decide +kernel
theorem dX8_accept_8 : decode cX8_accept 8 = .ok (.iload_n 3, 1) := by decide +kernel
theorem dX8_accept_9 : decode cX8_accept 9 = .ok (.invokestatic 112, 3) := by decide +kernel
theorem dX8_accept_12 : decode cX8_accept 12 = .ok (.ifCond .eq 15, 3) := by decide +kernel
theorem dX8_accept_15 : decode cX8_accept 15 = .ok (.iload 4, 2) := by decide +kernel
theorem dX8_accept_17 : decode cX8_accept 17 = .ok (.iconst 0, 1) := by decide +kernel
theorem dX8_accept_18 : decode cX8_accept 18 = .ok (.sipush 9999, 3) := by decide +kernel
theorem dX8_accept_21 : decode cX8_accept 21 = .ok (.invokestatic 27, 3) := by decide +kernel
theorem dX8_accept_24 : decode cX8_accept 24 = .ok (.ifCond .ne 10, 3) := by decide +kernel
theorem dX8_accept_27 : decode cX8_accept 27 = .ok (.aload_n 0, 1) := by decide +kernel
theorem dX8_accept_28 : decode cX8_accept 28 = .ok (.bipush (-2), 2) := by decide +kernel
theorem dX8_accept_30 : decode cX8_accept 30 = .ok (.invokevirtual 31, 3) := by decide +kernel
theorem dX8_accept_33 : decode cX8_accept 33 = .ok (.ireturn, 1) := by decide +kernel
theorem dX8_accept_34 : decode cX8_accept 34 = .ok (.iload_n 1, 1) := by decide +kernel
theorem dX8_accept_35 : decode cX8_accept 35 = .ok (.iload_n 2, 1) := by decide +kernel
theorem dX8_accept_36 : decode cX8_accept 36 = .ok (.invokestatic 58, 3) := by decide +kernel
theorem dX8_accept_39 : decode cX8_accept 39 = .ok (.istore 5, 2) := by decide +kernel
theorem dX8_accept_41 : decode cX8_accept 41 = .ok (.aload_n 0, 1) := by decide +kernel
theorem dX8_accept_42 : decode cX8_accept 42 = .ok (.getfield 12, 3) := by decide +kernel
theorem dX8_accept_45 : decode cX8_accept 45 = .ok (.getfield 62, 3) := by decide +kernel
theorem dX8_accept_48 : decode cX8_accept 48 = .ok (.iload 5, 2) := by decide +kernel
theorem dX8_accept_50 : decode cX8_accept 50 = .ok (.invokevirtual 66, 3) := by decide +kernel
theorem dX8_accept_53 : decode cX8_accept 53 = .ok (.ifCond .eq 10, 3) := by decide +kernel
theorem dX8_accept_56 : decode cX8_accept 56 = .ok (.aload_n 0, 1) := by decide +kernel
theorem dX8_accept_57 : decode cX8_accept 57 = .ok (.bipush (-3), 2) := by decide +kernel
theorem dX8_accept_59 : decode cX8_accept 59 = .ok (.invokevirtual 31, 3) := by decide +kernel
theorem dX8_accept_62 : decode cX8_accept 62 = .ok (.ireturn, 1) := by decide +kernel
theorem dX8_accept_63 : decode cX8_accept 63 = .ok (.aload_n 0, 1) := by decide +kernel
theorem dX8_accept_64 : decode cX8_accept 64 = .ok (.getfield 12, 3) := by decide +kernel
theorem dX8_accept_67 : decode cX8_accept 67 = .ok (.getfield 62, 3) := by decide +kernel
theorem dX8_accept_70 : decode cX8_accept 70 = .ok (.invokevirtual 115, 3) := by decide +kernel
theorem dX8_accept_73 : decode cX8_accept 73 = .ok (.ifCond .eq 10, 3) := by decide +kernel
theorem dX8_accept_76 : decode cX8_accept 76 = .ok (.aload_n 0, 1) := by decide +kernel
theorem dX8_accept_77 : decode cX8_accept 77 = .ok (.bipush (-4), 2) := by decide +kernel
theorem dX8_accept_79 : decode cX8_accept 79 = .ok (.invokevirtual 31, 3) := by decide +kernel
theorem dX8_accept_82 : decode cX8_accept 82 = .ok (.ireturn, 1) := by decide +kernel
theorem dX8_accept_83 : decode cX8_accept 83 = .ok (.aload_n 0, 1) := by decide +kernel
theorem dX8_accept_84 : decode cX8_accept 84 = .ok (.getfield 12, 3) := by decide +kernel
theorem dX8_accept_87 : decode cX8_accept 87 = .ok (.getfield 102, 3) := by decide +kernel
theorem dX8_accept_90 : decode cX8_accept 90 = .ok (.iload 5, 2) := by decide +kernel
theorem dX8_accept_92 : decode cX8_accept 92 = .ok (.iload_n 3, 1) := by decide +kernel
theorem dX8_accept_93 : decode cX8_accept 93 = .ok (.invokevirtual 119, 3) := by decide +kernel
theorem dX8_accept_96 : decode cX8_accept 96 = .ok (.ifCond .eq 34, 3) := by decide +kernel
theorem dX8_accept_99 : decode cX8_accept 99 = .ok (.aload_n 0, 1) := by decide +kernel
theorem dX8_accept_100 : decode cX8_accept 100 = .ok (.getfield 19, 3) := by decide +kernel
theorem dX8_accept_103 : decode cX8_accept 103 = .ok (.aload_n 0, 1) := by decide +kernel
theorem dX8_accept_104 : decode cX8_accept 104 = .ok (.getfield 12, 3) := by decide +kernel
theorem dX8_accept_107 : decode cX8_accept 107 = .ok (.invokevirtual 35, 3) := by decide +kernel
theorem dX8_accept_110 : decode cX8_accept 110 = .ok (.aload_n 0, 1) := by decide +kernel
theorem dX8_accept_111 : decode cX8_accept 111 = .ok (.getfield 12, 3) := by decide +kernel
theorem dX8_accept_114 : decode cX8_accept 114 = .ok (.getfield 102, 3) := by decide +kernel
theorem dX8_accept_117 : decode cX8_accept 117 = .ok (.iload 5, 2) := by decide +kernel
theorem dX8_accept_119 : decode cX8_accept 119 = .ok (.invokevirtual 122, 3) := by decide +kernel
theorem dX8_accept_122 : decode cX8_accept 122 = .ok (.aload_n 0, 1) := by decide +kernel
theorem dX8_accept_123 : decode cX8_accept 123 = .ok (.iload 5, 2) := by decide +kernel
theorem dX8_accept_125 : decode cX8_accept 125 = .ok (.iload_n 3, 1) := by decide +kernel
theorem dX8_accept_126 : decode cX8_accept 126 = .ok (.invokevirtual 125, 3) := by decide +kernel
theorem dX8_accept_129 : decode cX8_accept 129 = .ok (.ireturn, 1) := by decide +kernel
theorem dX8_accept_130 : decode cX8_accept 130 = .ok (.aload_n 0, 1) := by decide +kernel
theorem dX8_accept_131 : decode cX8_accept 131 = .ok (.iload 5, 2) := by decide +kernel
theorem dX8_accept_133 : decode cX8_accept 133 = .ok (.iload_n 3, 1) := by decide +kernel
theorem dX8_accept_134 : decode cX8_accept 134 = .ok (.iload 4, 2) := by decide +kernel
theorem dX8_accept_136 : decode cX8_accept 136 = .ok (.invokevirtual 128, 3) := by decide +kernel
theorem dX8_accept_139 : decode cX8_accept 139 = .ok (.ireturn, 1) := by decide +kernel
theorem dX8_acceptByCookie_0 : decode cX8_acceptByCookie 0 = .ok (.iload_n 2, 1) := by decide +kernel
theorem dX8_acceptByCookie_1 : decode cX8_acceptByCookie 1 = .ok (.aload_n 0, 1) := by decide +kernel
theorem dX8_acceptByCookie_2 : decode cX8_acceptByCookie 2 = .ok (.getfield 12, 3) := by decide +kernel
theorem dX8_acceptByCookie_5 : decode cX8_acceptByCookie 5 = .ok (.invokevirtual 72, 3) := by decide +kernel
theorem dX8_acceptByCookie_8 : decode cX8_acceptByCookie 8 = .ok (.invokestatic 132, 3) := by decide +kernel
theorem dX8_acceptByCookie_11 : decode cX8_acceptByCookie 11 = .ok (.iconst 1, 1) := by decide +kernel
theorem dX8_acceptByCookie_12 : decode cX8_acceptByCookie 12 = .ok (.if_icmp .le 10, 3) := by decide +kernel
theorem dX8_acceptByCookie_15 : decode cX8_acceptByCookie 15 = .ok (.aload_n 0, 1) := by decide +kernel
theorem dX8_acceptByCookie_16 : decode cX8_acceptByCookie 16 = .ok (.bipush (-5), 2) := by decide +kernel
theorem dX8_acceptByCookie_18 : decode cX8_acceptByCookie 18 = .ok (.invokevirtual 31, 3) := by decide +kernel
theorem dX8_acceptByCookie_21 : decode cX8_acceptByCookie 21 = .ok (.ireturn, 1) := by decide +kernel
theorem dX8_acceptByCookie_22 : decode cX8_acceptByCookie 22 = .ok (.aload_n 0, 1) := by decide +kernel
theorem dX8_acceptByCookie_23 : decode cX8_acceptByCookie 23 = .ok (.getfield 12, 3) := by decide +kernel
theorem dX8_acceptByCookie_26 : decode cX8_acceptByCookie 26 = .ok (.invokevirtual 135, 3) := by decide +kernel
theorem dX8_acceptByCookie_29 : decode cX8_acceptByCookie 29 = .ok (.istore 4, 2) := by decide +kernel
theorem dX8_acceptByCookie_31 : decode cX8_acceptByCookie 31 = .ok (.iload 4, 2) := by decide +kernel
theorem dX8_acceptByCookie_33 : decode cX8_acceptByCookie 33 = .ok (.ifCond .le 7, 3) := by decide +kernel
theorem dX8_acceptByCookie_36 : decode cX8_acceptByCookie 36 = .ok (.iconst 1, 1) := by decide +kernel
theorem dX8_acceptByCookie_37 : decode cX8_acceptByCookie 37 = .ok (.goto 4, 3) := by decide +kernel
theorem dX8_acceptByCookie_40 : decode cX8_acceptByCookie 40 = .ok (.iconst 0, 1) := by decide +kernel
theorem dX8_acceptByCookie_41 : decode cX8_acceptByCookie 41 = .ok (.istore 5, 2) := by decide +kernel
theorem dX8_acceptByCookie_43 : decode cX8_acceptByCookie 43 = .ok (.iload 4, 2) := by decide +kernel
theorem dX8_acceptByCookie_45 : decode cX8_acceptByCookie 45 = .ok (.ifCond .le 22, 3) := by decide +kernel
theorem dX8_acceptByCookie_48 : decode cX8_acceptByCookie 48 = .ok (.iload_n 2, 1) := by decide +kernel
theorem dX8_acceptByCookie_49 : decode cX8_acceptByCookie 49 = .ok (.iload 4, 2) := by decide +kernel
theorem dX8_acceptByCookie_51 : decode cX8_acceptByCookie 51 = .ok (.iload_n 3, 1) := by decide +kernel
theorem dX8_acceptByCookie_52 : decode cX8_acceptByCookie 52 = .ok (.invokestatic 138, 3) := by decide +kernel
theorem dX8_acceptByCookie_55 : decode cX8_acceptByCookie 55 = .ok (.ifCond .ne 12, 3) := by decide +kernel
theorem dX8_acceptByCookie_58 : decode cX8_acceptByCookie 58 = .ok (.aload_n 0, 1) := by decide +kernel
theorem dX8_acceptByCookie_59 : decode cX8_acceptByCookie 59 = .ok (.bipush (-6), 2) := by decide +kernel
theorem dX8_acceptByCookie_61 : decode cX8_acceptByCookie 61 = .ok (.iload 5, 2) := by decide +kernel
theorem dX8_acceptByCookie_63 : decode cX8_acceptByCookie 63 = .ok (.invokevirtual 141, 3) := by decide +kernel
theorem dX8_acceptByCookie_66 : decode cX8_acceptByCookie 66 = .ok (.ireturn, 1) := by decide +kernel
theorem dX8_acceptByCookie_67 : decode cX8_acceptByCookie 67 = .ok (.aload_n 0, 1) := by decide +kernel
theorem dX8_acceptByCookie_68 : decode cX8_acceptByCookie 68 = .ok (.getfield 12, 3) := by decide +kernel
theorem dX8_acceptByCookie_71 : decode cX8_acceptByCookie 71 = .ok (.getfield 48, 3) := by decide +kernel
theorem dX8_acceptByCookie_74 : decode cX8_acceptByCookie 74 = .ok (.iload_n 1, 1) := by decide +kernel
theorem dX8_acceptByCookie_75 : decode cX8_acceptByCookie 75 = .ok (.iload_n 2, 1) := by decide +kernel
theorem dX8_acceptByCookie_76 : decode cX8_acceptByCookie 76 = .ok (.invokestatic 144, 3) := by decide +kernel
theorem dX8_acceptByCookie_79 : decode cX8_acceptByCookie 79 = .ok (.istore 6, 2) := by decide +kernel
theorem dX8_acceptByCookie_81 : decode cX8_acceptByCookie 81 = .ok (.iinc 5 1, 3) := by decide +kernel
theorem dX8_acceptByCookie_84 : decode cX8_acceptByCookie 84 = .ok (.iload 6, 2) := by decide +kernel
theorem dX8_acceptByCookie_86 : decode cX8_acceptByCookie 86 = .ok (.ifCond .ne 31, 3) := by decide +kernel
theorem dX8_acceptByCookie_89 : decode cX8_acceptByCookie 89 = .ok (.aload_n 0, 1) := by decide +kernel
theorem dX8_acceptByCookie_90 : decode cX8_acceptByCookie 90 = .ok (.getfield 12, 3) := by decide +kernel
theorem dX8_acceptByCookie_93 : decode cX8_acceptByCookie 93 = .ok (.getfield 51, 3) := by decide +kernel
theorem dX8_acceptByCookie_96 : decode cX8_acceptByCookie 96 = .ok (.iconst (-1), 1) := by decide +kernel
theorem dX8_acceptByCookie_97 : decode cX8_acceptByCookie 97 = .ok (.if_icmp .eq 20, 3) := by decide +kernel
theorem dX8_acceptByCookie_100 : decode cX8_acceptByCookie 100 = .ok (.aload_n 0, 1) := by decide +kernel
theorem dX8_acceptByCookie_101 : decode cX8_acceptByCookie 101 = .ok (.getfield 12, 3) := by decide +kernel
theorem dX8_acceptByCookie_104 : decode cX8_acceptByCookie 104 = .ok (.getfield 51, 3) := by decide +kernel
theorem dX8_acceptByCookie_107 : decode cX8_acceptByCookie 107 = .ok (.iload_n 1, 1) := by decide +kernel
theorem dX8_acceptByCookie_108 : decode cX8_acceptByCookie 108 = .ok (.iload_n 2, 1) := by decide +kernel
theorem dX8_acceptByCookie_109 : decode cX8_acceptByCookie 109 = .ok (.invokestatic 144, 3) := by decide +kernel
theorem dX8_acceptByCookie_112 : decode cX8_acceptByCookie 112 = .ok (.istore 6, 2) := by decide +kernel
theorem dX8_acceptByCookie_114 : decode cX8_acceptByCookie 114 = .ok (.iinc 5 1, 3) := by decide +kernel
theorem dX8_acceptByCookie_117 : decode cX8_acceptByCookie 117 = .ok (.iload 6, 2) := by decide +kernel
theorem dX8_acceptByCookie_119 : decode cX8_acceptByCookie 119 = .ok (.ifCond .ne 12, 3) := by decide +kernel
theorem dX8_acceptByCookie_122 : decode cX8_acceptByCookie 122 = .ok (.aload_n 0, 1) := by decide +kernel
theorem dX8_acceptByCookie_123 : decode cX8_acceptByCookie 123 = .ok (.bipush (-7), 2) := by decide +kernel
theorem dX8_acceptByCookie_125 : decode cX8_acceptByCookie 125 = .ok (.iload 5, 2) := by decide +kernel
theorem dX8_acceptByCookie_127 : decode cX8_acceptByCookie 127 = .ok (.invokevirtual 141, 3) := by decide +kernel
theorem dX8_acceptByCookie_130 : decode cX8_acceptByCookie 130 = .ok (.ireturn, 1) := by decide +kernel
theorem dX8_acceptByCookie_131 : decode cX8_acceptByCookie 131 = .ok (.aload_n 0, 1) := by decide +kernel
theorem dX8_acceptByCookie_132 : decode cX8_acceptByCookie 132 = .ok (.getfield 12, 3) := by decide +kernel
theorem dX8_acceptByCookie_135 : decode cX8_acceptByCookie 135 = .ok (.getfield 147, 3) := by decide +kernel
theorem dX8_acceptByCookie_138 : decode cX8_acceptByCookie 138 = .ok (.iload_n 1, 1) := by decide +kernel
theorem dX8_acceptByCookie_139 : decode cX8_acceptByCookie 139 = .ok (.iload_n 2, 1) := by decide +kernel
theorem dX8_acceptByCookie_140 : decode cX8_acceptByCookie 140 = .ok (.invokevirtual 151, 3) := by decide +kernel
theorem dX8_acceptByCookie_143 : decode cX8_acceptByCookie 143 = .ok (.ifCond .eq 12, 3) := by decide +kernel
theorem dX8_acceptByCookie_146 : decode cX8_acceptByCookie 146 = .ok (.aload_n 0, 1) := by decide +kernel
theorem dX8_acceptByCookie_147 : decode cX8_acceptByCookie 147 = .ok (.bipush (-8), 2) := by decide +kernel
theorem dX8_acceptByCookie_149 : decode cX8_acceptByCookie 149 = .ok (.iload 5, 2) := by decide +kernel
theorem dX8_acceptByCookie_151 : decode cX8_acceptByCookie 151 = .ok (.invokevirtual 141, 3) := by decide +kernel
theorem dX8_acceptByCookie_154 : decode cX8_acceptByCookie 154 = .ok (.ireturn, 1) := by decide +kernel
theorem dX8_acceptByCookie_155 : decode cX8_acceptByCookie 155 = .ok (.aload_n 0, 1) := by decide +kernel
theorem dX8_acceptByCookie_156 : decode cX8_acceptByCookie 156 = .ok (.getfield 19, 3) := by decide +kernel
theorem dX8_acceptByCookie_159 : decode cX8_acceptByCookie 159 = .ok (.aload_n 0, 1) := by decide +kernel
theorem dX8_acceptByCookie_160 : decode cX8_acceptByCookie 160 = .ok (.getfield 12, 3) := by decide +kernel
theorem dX8_acceptByCookie_163 : decode cX8_acceptByCookie 163 = .ok (.invokevirtual 35, 3) := by decide +kernel
theorem dX8_acceptByCookie_166 : decode cX8_acceptByCookie 166 = .ok (.aload_n 0, 1) := by decide +kernel
theorem dX8_acceptByCookie_167 : decode cX8_acceptByCookie 167 = .ok (.getfield 12, 3) := by decide +kernel
theorem dX8_acceptByCookie_170 : decode cX8_acceptByCookie 170 = .ok (.dup, 1) := by decide +kernel
theorem dX8_acceptByCookie_171 : decode cX8_acceptByCookie 171 = .ok (.getfield 156, 3) := by decide +kernel
theorem dX8_acceptByCookie_174 : decode cX8_acceptByCookie 174 = .ok (.iload 5, 2) := by decide +kernel
theorem dX8_acceptByCookie_176 : decode cX8_acceptByCookie 176 = .ok (.iadd, 1) := by decide +kernel
theorem dX8_acceptByCookie_177 : decode cX8_acceptByCookie 177 = .ok (.putfield 156, 3) := by decide +kernel
theorem dX8_acceptByCookie_180 : decode cX8_acceptByCookie 180 = .ok (.aload_n 0, 1) := by decide +kernel
theorem dX8_acceptByCookie_181 : decode cX8_acceptByCookie 181 = .ok (.getfield 12, 3) := by decide +kernel
theorem dX8_acceptByCookie_184 : decode cX8_acceptByCookie 184 = .ok (.getfield 147, 3) := by decide +kernel
theorem dX8_acceptByCookie_187 : decode cX8_acceptByCookie 187 = .ok (.iload_n 1, 1) := by decide +kernel
theorem dX8_acceptByCookie_188 : decode cX8_acceptByCookie 188 = .ok (.iload_n 2, 1) := by decide +kernel
theorem dX8_acceptByCookie_189 : decode cX8_acceptByCookie 189 = .ok (.invokevirtual 159, 3) := by decide +kernel
theorem dX8_acceptByCookie_192 : decode cX8_acceptByCookie 192 = .ok (.aload_n 0, 1) := by decide +kernel
theorem dX8_acceptByCookie_193 : decode cX8_acceptByCookie 193 = .ok (.iload_n 1, 1) := by decide +kernel
theorem dX8_acceptByCookie_194 : decode cX8_acceptByCookie 194 = .ok (.iload_n 2, 1) := by decide +kernel
theorem dX8_acceptByCookie_195 : decode cX8_acceptByCookie 195 = .ok (.invokevirtual 125, 3) := by decide +kernel
theorem dX8_acceptByCookie_198 : decode cX8_acceptByCookie 198 = .ok (.ireturn, 1) := by decide +kernel
theorem dX8_connect_0 : decode cX8_connect 0 = .ok (.iload_n 2, 1) := by decide +kernel
theorem dX8_connect_1 : decode cX8_connect 1 = .ok (.invokestatic 163, 3) := by decide +kernel
theorem dX8_connect_4 : decode cX8_connect 4 = .ok (.istore_n 3, 1) := by decide +kernel
theorem dX8_connect_5 : decode cX8_connect 5 = .ok (.aload_n 0, 1) := by decide +kernel
theorem dX8_connect_6 : decode cX8_connect 6 = .ok (.getfield 12, 3) := by decide +kernel
theorem dX8_connect_9 : decode cX8_connect 9 = .ok (.getfield 62, 3) := by decide +kernel
theorem dX8_connect_12 : decode cX8_connect 12 = .ok (.iload_n 1, 1) := by decide +kernel
theorem dX8_connect_13 : decode cX8_connect 13 = .ok (.iload_n 3, 1) := by decide +kernel
theorem dX8_connect_14 : decode cX8_connect 14 = .ok (.invokevirtual 166, 3) := by decide +kernel
theorem dX8_connect_17 : decode cX8_connect 17 = .ok (.iload_n 3, 1) := by decide +kernel
theorem dX8_connect_18 : decode cX8_connect 18 = .ok (.invokestatic 168, 3) := by decide +kernel
theorem dX8_connect_21 : decode cX8_connect 21 = .ok (.ireturn, 1) := by decide +kernel
theorem dX8_close_0 : decode cX8_close 0 = .ok (.iload_n 1, 1) := by decide +kernel
theorem dX8_close_1 : decode cX8_close 1 = .ok (.iload_n 2, 1) := by decide +kernel
theorem dX8_close_2 : decode cX8_close 2 = .ok (.invokestatic 54, 3) := by decide +kernel
theorem dX8_close_5 : decode cX8_close 5 = .ok (.ifCond .ne 10, 3) := by decide +kernel
theorem dX8_close_8 : decode cX8_close 8 = .ok (.aload_n 0, 1) := by decide +kernel
theorem dX8_close_9 : decode cX8_close 9 = .ok (.bipush (-2), 2) := by decide +kernel
theorem dX8_close_11 : decode cX8_close 11 = .ok (.invokevirtual 31, 3) := by decide +kernel
theorem dX8_close_14 : decode cX8_close 14 = .ok (.ireturn, 1) := by decide +kernel
theorem dX8_close_15 : decode cX8_close 15 = .ok (.iload_n 1, 1) := by decide +kernel
theorem dX8_close_16 : decode cX8_close 16 = .ok (.iload_n 2, 1) := by decide +kernel
theorem dX8_close_17 : decode cX8_close 17 = .ok (.invokestatic 58, 3) := by decide +kernel
theorem dX8_close_20 : decode cX8_close 20 = .ok (.istore_n 3, 1) := by decide +kernel
theorem dX8_close_21 : decode cX8_close 21 = .ok (.aload_n 0, 1) := by decide +kernel
theorem dX8_close_22 : decode cX8_close 22 = .ok (.getfield 12, 3) := by decide +kernel
theorem dX8_close_25 : decode cX8_close 25 = .ok (.getfield 62, 3) := by decide +kernel
theorem dX8_close_28 : decode cX8_close 28 = .ok (.iload_n 3, 1) := by decide +kernel
theorem dX8_close_29 : decode cX8_close 29 = .ok (.invokevirtual 66, 3) := by decide +kernel
theorem dX8_close_32 : decode cX8_close 32 = .ok (.ifCond .ne 10, 3) := by decide +kernel
theorem dX8_close_35 : decode cX8_close 35 = .ok (.aload_n 0, 1) := by decide +kernel
theorem dX8_close_36 : decode cX8_close 36 = .ok (.bipush (-9), 2) := by decide +kernel
theorem dX8_close_38 : decode cX8_close 38 = .ok (.invokevirtual 31, 3) := by decide +kernel
theorem dX8_close_41 : decode cX8_close 41 = .ok (.ireturn, 1) := by decide +kernel
theorem dX8_close_42 : decode cX8_close 42 = .ok (.aload_n 0, 1) := by decide +kernel
theorem dX8_close_43 : decode cX8_close 43 = .ok (.getfield 19, 3) := by decide +kernel
theorem dX8_close_46 : decode cX8_close 46 = .ok (.aload_n 0, 1) := by decide +kernel
theorem dX8_close_47 : decode cX8_close 47 = .ok (.getfield 12, 3) := by decide +kernel
theorem dX8_close_50 : decode cX8_close 50 = .ok (.invokevirtual 35, 3) := by decide +kernel
theorem dX8_close_53 : decode cX8_close 53 = .ok (.aload_n 0, 1) := by decide +kernel
theorem dX8_close_54 : decode cX8_close 54 = .ok (.getfield 12, 3) := by decide +kernel
theorem dX8_close_57 : decode cX8_close 57 = .ok (.getfield 62, 3) := by decide +kernel
theorem dX8_close_60 : decode cX8_close 60 = .ok (.iload_n 3, 1) := by decide +kernel
theorem dX8_close_61 : decode cX8_close 61 = .ok (.invokevirtual 171, 3) := by decide +kernel
theorem dX8_close_64 : decode cX8_close 64 = .ok (.aload_n 0, 1) := by decide +kernel
theorem dX8_close_65 : decode cX8_close 65 = .ok (.getfield 12, 3) := by decide +kernel
theorem dX8_close_68 : decode cX8_close 68 = .ok (.getfield 62, 3) := by decide +kernel
theorem dX8_close_71 : decode cX8_close 71 = .ok (.iload_n 1, 1) := by decide +kernel
theorem dX8_close_72 : decode cX8_close 72 = .ok (.invokevirtual 174, 3) := by decide +kernel
theorem dX8_close_75 : decode cX8_close 75 = .ok (.istore 4, 2) := by decide +kernel
theorem dX8_close_77 : decode cX8_close 77 = .ok (.iload 4, 2) := by decide +kernel
theorem dX8_close_79 : decode cX8_close 79 = .ok (.ifCond .ne 14, 3) := by decide +kernel
theorem dX8_close_82 : decode cX8_close 82 = .ok (.aload_n 0, 1) := by decide +kernel
theorem dX8_close_83 : decode cX8_close 83 = .ok (.getfield 12, 3) := by decide +kernel
theorem dX8_close_86 : decode cX8_close 86 = .ok (.getfield 177, 3) := by decide +kernel
theorem dX8_close_89 : decode cX8_close 89 = .ok (.iload_n 1, 1) := by decide +kernel
theorem dX8_close_90 : decode cX8_close 90 = .ok (.invokevirtual 181, 3) := by decide +kernel
theorem dX8_close_93 : decode cX8_close 93 = .ok (.iload 4, 2) := by decide +kernel
theorem dX8_close_95 : decode cX8_close 95 = .ok (.ireturn, 1) := by decide +kernel
theorem dX8_segmentSize_0 : decode cX8_segmentSize 0 = .ok (.iload_n 1, 1) := by decide +kernel
theorem dX8_segmentSize_1 : decode cX8_segmentSize 1 = .ok (.iload_n 2, 1) := by decide +kernel
theorem dX8_segmentSize_2 : decode cX8_segmentSize 2 = .ok (.invokestatic 54, 3) := by decide +kernel
theorem dX8_segmentSize_5 : decode cX8_segmentSize 5 = .ok (.ifCond .ne 10, 3) := by decide +kernel
theorem dX8_segmentSize_8 : decode cX8_segmentSize 8 = .ok (.aload_n 0, 1) := by decide +kernel
theorem dX8_segmentSize_9 : decode cX8_segmentSize 9 = .ok (.bipush (-2), 2) := by decide +kernel
theorem dX8_segmentSize_11 : decode cX8_segmentSize 11 = .ok (.invokevirtual 31, 3) := by decide +kernel
theorem dX8_segmentSize_14 : decode cX8_segmentSize 14 = .ok (.ireturn, 1) := by decide +kernel
theorem dX8_segmentSize_15 : decode cX8_segmentSize 15 = .ok (.iload_n 1, 1) := by decide +kernel
theorem dX8_segmentSize_16 : decode cX8_segmentSize 16 = .ok (.iload_n 2, 1) := by decide +kernel
theorem dX8_segmentSize_17 : decode cX8_segmentSize 17 = .ok (.invokestatic 58, 3) := by decide +kernel
theorem dX8_segmentSize_20 : decode cX8_segmentSize 20 = .ok (.istore_n 3, 1) := by decide +kernel
theorem dX8_segmentSize_21 : decode cX8_segmentSize 21 = .ok (.aload_n 0, 1) := by decide +kernel
theorem dX8_segmentSize_22 : decode cX8_segmentSize 22 = .ok (.getfield 12, 3) := by decide +kernel
theorem dX8_segmentSize_25 : decode cX8_segmentSize 25 = .ok (.getfield 62, 3) := by decide +kernel
theorem dX8_segmentSize_28 : decode cX8_segmentSize 28 = .ok (.iload_n 3, 1) := by decide +kernel
theorem dX8_segmentSize_29 : decode cX8_segmentSize 29 = .ok (.invokevirtual 66, 3) := by decide +kernel
theorem dX8_segmentSize_32 : decode cX8_segmentSize 32 = .ok (.ifCond .eq 20, 3) := by decide +kernel
theorem dX8_segmentSize_35 : decode cX8_segmentSize 35 = .ok (.aload_n 0, 1) := by decide +kernel
theorem dX8_segmentSize_36 : decode cX8_segmentSize 36 = .ok (.getfield 12, 3) := by decide +kernel
theorem dX8_segmentSize_39 : decode cX8_segmentSize 39 = .ok (.getfield 62, 3) := by decide +kernel
theorem dX8_segmentSize_42 : decode cX8_segmentSize 42 = .ok (.iload_n 3, 1) := by decide +kernel
theorem dX8_segmentSize_43 : decode cX8_segmentSize 43 = .ok (.invokevirtual 186, 3) := by decide +kernel
theorem dX8_segmentSize_46 : decode cX8_segmentSize 46 = .ok (.invokestatic 168, 3) := by decide +kernel
theorem dX8_segmentSize_49 : decode cX8_segmentSize 49 = .ok (.goto 4, 3) := by decide +kernel
theorem dX8_segmentSize_52 : decode cX8_segmentSize 52 = .ok (.iconst (-1), 1) := by decide +kernel
theorem dX8_segmentSize_53 : decode cX8_segmentSize 53 = .ok (.ireturn, 1) := by decide +kernel
theorem dX8_connections_0 : decode cX8_connections 0 = .ok (.aload_n 0, 1) := by decide +kernel
theorem dX8_connections_1 : decode cX8_connections 1 = .ok (.getfield 12, 3) := by decide +kernel
theorem dX8_connections_4 : decode cX8_connections 4 = .ok (.getfield 62, 3) := by decide +kernel
theorem dX8_connections_7 : decode cX8_connections 7 = .ok (.getfield 189, 3) := by decide +kernel
theorem dX8_connections_10 : decode cX8_connections 10 = .ok (.ireturn, 1) := by decide +kernel
theorem dX8_halfOpen_0 : decode cX8_halfOpen 0 = .ok (.aload_n 0, 1) := by decide +kernel
theorem dX8_halfOpen_1 : decode cX8_halfOpen 1 = .ok (.getfield 12, 3) := by decide +kernel
theorem dX8_halfOpen_4 : decode cX8_halfOpen 4 = .ok (.getfield 102, 3) := by decide +kernel
theorem dX8_halfOpen_7 : decode cX8_halfOpen 7 = .ok (.getfield 191, 3) := by decide +kernel
theorem dX8_halfOpen_10 : decode cX8_halfOpen 10 = .ok (.ireturn, 1) := by decide +kernel
theorem dX8_entryAge_0 : decode cX8_entryAge 0 = .ok (.iload_n 1, 1) := by decide +kernel
theorem dX8_entryAge_1 : decode cX8_entryAge 1 = .ok (.iload_n 2, 1) := by decide +kernel
theorem dX8_entryAge_2 : decode cX8_entryAge 2 = .ok (.invokestatic 54, 3) := by decide +kernel
theorem dX8_entryAge_5 : decode cX8_entryAge 5 = .ok (.ifCond .ne 10, 3) := by decide +kernel
theorem dX8_entryAge_8 : decode cX8_entryAge 8 = .ok (.aload_n 0, 1) := by decide +kernel
theorem dX8_entryAge_9 : decode cX8_entryAge 9 = .ok (.bipush (-2), 2) := by decide +kernel
theorem dX8_entryAge_11 : decode cX8_entryAge 11 = .ok (.invokevirtual 31, 3) := by decide +kernel
theorem dX8_entryAge_14 : decode cX8_entryAge 14 = .ok (.ireturn, 1) := by decide +kernel
theorem dX8_entryAge_15 : decode cX8_entryAge 15 = .ok (.aload_n 0, 1) := by decide +kernel
theorem dX8_entryAge_16 : decode cX8_entryAge 16 = .ok (.getfield 12, 3) := by decide +kernel
theorem dX8_entryAge_19 : decode cX8_entryAge 19 = .ok (.getfield 102, 3) := by decide +kernel
theorem dX8_entryAge_22 : decode cX8_entryAge 22 = .ok (.iload_n 1, 1) := by decide +kernel
theorem dX8_entryAge_23 : decode cX8_entryAge 23 = .ok (.iload_n 2, 1) := by decide +kernel
theorem dX8_entryAge_24 : decode cX8_entryAge 24 = .ok (.invokestatic 58, 3) := by decide +kernel
theorem dX8_entryAge_27 : decode cX8_entryAge 27 = .ok (.aload_n 0, 1) := by decide +kernel
theorem dX8_entryAge_28 : decode cX8_entryAge 28 = .ok (.getfield 12, 3) := by decide +kernel
theorem dX8_entryAge_31 : decode cX8_entryAge 31 = .ok (.getfield 43, 3) := by decide +kernel
theorem dX8_entryAge_34 : decode cX8_entryAge 34 = .ok (.invokevirtual 194, 3) := by decide +kernel
theorem dX8_entryAge_37 : decode cX8_entryAge 37 = .ok (.ireturn, 1) := by decide +kernel
theorem dX8_remembered_0 : decode cX8_remembered 0 = .ok (.aload_n 0, 1) := by decide +kernel
theorem dX8_remembered_1 : decode cX8_remembered 1 = .ok (.getfield 12, 3) := by decide +kernel
theorem dX8_remembered_4 : decode cX8_remembered 4 = .ok (.getfield 147, 3) := by decide +kernel
theorem dX8_remembered_7 : decode cX8_remembered 7 = .ok (.getfield 197, 3) := by decide +kernel
theorem dX8_remembered_10 : decode cX8_remembered 10 = .ok (.ireturn, 1) := by decide +kernel
theorem dX8_epoch_0 : decode cX8_epoch 0 = .ok (.aload_n 0, 1) := by decide +kernel
theorem dX8_epoch_1 : decode cX8_epoch 1 = .ok (.getfield 12, 3) := by decide +kernel
theorem dX8_epoch_4 : decode cX8_epoch 4 = .ok (.invokevirtual 72, 3) := by decide +kernel
theorem dX8_epoch_7 : decode cX8_epoch 7 = .ok (.ireturn, 1) := by decide +kernel
theorem dX8_load_0 : decode cX8_load 0 = .ok (.aload_n 0, 1) := by decide +kernel
theorem dX8_load_1 : decode cX8_load 1 = .ok (.getfield 12, 3) := by decide +kernel
theorem dX8_load_4 : decode cX8_load 4 = .ok (.getfield 90, 3) := by decide +kernel
theorem dX8_load_7 : decode cX8_load 7 = .ok (.invokevirtual 99, 3) := by decide +kernel
theorem dX8_load_10 : decode cX8_load 10 = .ok (.ireturn, 1) := by decide +kernel
theorem dX8_difficulty_0 : decode cX8_difficulty 0 = .ok (.aload_n 0, 1) := by decide +kernel
theorem dX8_difficulty_1 : decode cX8_difficulty 1 = .ok (.getfield 12, 3) := by decide +kernel
theorem dX8_difficulty_4 : decode cX8_difficulty 4 = .ok (.invokevirtual 135, 3) := by decide +kernel
theorem dX8_difficulty_7 : decode cX8_difficulty 7 = .ok (.ireturn, 1) := by decide +kernel
theorem dX8_solve_0 : decode cX8_solve 0 = .ok (.iload_n 1, 1) := by decide +kernel
theorem dX8_solve_1 : decode cX8_solve 1 = .ok (.invokestatic 112, 3) := by decide +kernel
theorem dX8_solve_4 : decode cX8_solve 4 = .ok (.ifCond .eq 24, 3) := by decide +kernel
theorem dX8_solve_7 : decode cX8_solve 7 = .ok (.iload_n 2, 1) := by decide +kernel
theorem dX8_solve_8 : decode cX8_solve 8 = .ok (.iconst 0, 1) := by decide +kernel
theorem dX8_solve_9 : decode cX8_solve 9 = .ok (.bipush 6, 2) := by decide +kernel
theorem dX8_solve_11 : decode cX8_solve 11 = .ok (.invokestatic 27, 3) := by decide +kernel
theorem dX8_solve_14 : decode cX8_solve 14 = .ok (.ifCond .eq 14, 3) := by decide +kernel
theorem dX8_solve_17 : decode cX8_solve 17 = .ok (.iload_n 3, 1) := by decide +kernel
theorem dX8_solve_18 : decode cX8_solve 18 = .ok (.iconst 0, 1) := by decide +kernel
theorem dX8_solve_19 : decode cX8_solve 19 = .ok (.sipush 9999, 3) := by decide +kernel
theorem dX8_solve_22 : decode cX8_solve 22 = .ok (.invokestatic 27, 3) := by decide +kernel
theorem dX8_solve_25 : decode cX8_solve 25 = .ok (.ifCond .ne 10, 3) := by decide +kernel
theorem dX8_solve_28 : decode cX8_solve 28 = .ok (.aload_n 0, 1) := by decide +kernel
theorem dX8_solve_29 : decode cX8_solve 29 = .ok (.bipush (-2), 2) := by decide +kernel
theorem dX8_solve_31 : decode cX8_solve 31 = .ok (.invokevirtual 31, 3) := by decide +kernel
theorem dX8_solve_34 : decode cX8_solve 34 = .ok (.ireturn, 1) := by decide +kernel
theorem dX8_solve_35 : decode cX8_solve 35 = .ok (.iload_n 3, 1) := by decide +kernel
theorem dX8_solve_36 : decode cX8_solve 36 = .ok (.istore 4, 2) := by decide +kernel
theorem dX8_solve_38 : decode cX8_solve 38 = .ok (.iload 4, 2) := by decide +kernel
theorem dX8_solve_40 : decode cX8_solve 40 = .ok (.sipush 10000, 3) := by decide +kernel
theorem dX8_solve_43 : decode cX8_solve 43 = .ok (.if_icmp .ge 22, 3) := by decide +kernel
theorem dX8_solve_46 : decode cX8_solve 46 = .ok (.iload_n 1, 1) := by decide +kernel
theorem dX8_solve_47 : decode cX8_solve 47 = .ok (.iload_n 2, 1) := by decide +kernel
theorem dX8_solve_48 : decode cX8_solve 48 = .ok (.iload 4, 2) := by decide +kernel
theorem dX8_solve_50 : decode cX8_solve 50 = .ok (.invokestatic 138, 3) := by decide +kernel
theorem dX8_solve_53 : decode cX8_solve 53 = .ok (.ifCond .eq 6, 3) := by decide +kernel
theorem dX8_solve_56 : decode cX8_solve 56 = .ok (.iload 4, 2) := by decide +kernel
theorem dX8_solve_58 : decode cX8_solve 58 = .ok (.ireturn, 1) := by decide +kernel
theorem dX8_solve_59 : decode cX8_solve 59 = .ok (.iinc 4 1, 3) := by decide +kernel
theorem dX8_solve_62 : decode cX8_solve 62 = .ok (.goto (-24), 3) := by decide +kernel
theorem dX8_solve_65 : decode cX8_solve 65 = .ok (.iconst (-1), 1) := by decide +kernel
theorem dX8_solve_66 : decode cX8_solve 66 = .ok (.ireturn, 1) := by decide +kernel
theorem dX8_cookieAge_0 : decode cX8_cookieAge 0 = .ok (.iload_n 1, 1) := by decide +kernel
theorem dX8_cookieAge_1 : decode cX8_cookieAge 1 = .ok (.invokestatic 112, 3) := by decide +kernel
theorem dX8_cookieAge_4 : decode cX8_cookieAge 4 = .ok (.ifCond .ne 10, 3) := by decide +kernel
theorem dX8_cookieAge_7 : decode cX8_cookieAge 7 = .ok (.aload_n 0, 1) := by decide +kernel
theorem dX8_cookieAge_8 : decode cX8_cookieAge 8 = .ok (.bipush (-2), 2) := by decide +kernel
theorem dX8_cookieAge_10 : decode cX8_cookieAge 10 = .ok (.invokevirtual 31, 3) := by decide +kernel
theorem dX8_cookieAge_13 : decode cX8_cookieAge 13 = .ok (.ireturn, 1) := by decide +kernel
theorem dX8_cookieAge_14 : decode cX8_cookieAge 14 = .ok (.iload_n 1, 1) := by decide +kernel
theorem dX8_cookieAge_15 : decode cX8_cookieAge 15 = .ok (.aload_n 0, 1) := by decide +kernel
theorem dX8_cookieAge_16 : decode cX8_cookieAge 16 = .ok (.getfield 12, 3) := by decide +kernel
theorem dX8_cookieAge_19 : decode cX8_cookieAge 19 = .ok (.invokevirtual 72, 3) := by decide +kernel
theorem dX8_cookieAge_22 : decode cX8_cookieAge 22 = .ok (.invokestatic 132, 3) := by decide +kernel
theorem dX8_cookieAge_25 : decode cX8_cookieAge 25 = .ok (.ireturn, 1) := by decide +kernel
theorem dX8_cookieSize_0 : decode cX8_cookieSize 0 = .ok (.iload_n 1, 1) := by decide +kernel
theorem dX8_cookieSize_1 : decode cX8_cookieSize 1 = .ok (.invokestatic 112, 3) := by decide +kernel
theorem dX8_cookieSize_4 : decode cX8_cookieSize 4 = .ok (.ifCond .ne 10, 3) := by decide +kernel
theorem dX8_cookieSize_7 : decode cX8_cookieSize 7 = .ok (.aload_n 0, 1) := by decide +kernel
theorem dX8_cookieSize_8 : decode cX8_cookieSize 8 = .ok (.bipush (-2), 2) := by decide +kernel
theorem dX8_cookieSize_10 : decode cX8_cookieSize 10 = .ok (.invokevirtual 31, 3) := by decide +kernel
theorem dX8_cookieSize_13 : decode cX8_cookieSize 13 = .ok (.ireturn, 1) := by decide +kernel
theorem dX8_cookieSize_14 : decode cX8_cookieSize 14 = .ok (.iload_n 1, 1) := by decide +kernel
theorem dX8_cookieSize_15 : decode cX8_cookieSize 15 = .ok (.invokestatic 163, 3) := by decide +kernel
theorem dX8_cookieSize_18 : decode cX8_cookieSize 18 = .ok (.invokestatic 168, 3) := by decide +kernel
theorem dX8_cookieSize_21 : decode cX8_cookieSize 21 = .ok (.ireturn, 1) := by decide +kernel
theorem dX8_work_0 : decode cX8_work 0 = .ok (.aload_n 0, 1) := by decide +kernel
theorem dX8_work_1 : decode cX8_work 1 = .ok (.getfield 12, 3) := by decide +kernel
theorem dX8_work_4 : decode cX8_work 4 = .ok (.getfield 156, 3) := by decide +kernel
theorem dX8_work_7 : decode cX8_work 7 = .ok (.ireturn, 1) := by decide +kernel
theorem dX8_request_0 : decode cX8_request 0 = .ok (.iload_n 1, 1) := by decide +kernel
theorem dX8_request_1 : decode cX8_request 1 = .ok (.invokestatic 198, 3) := by decide +kernel
theorem dX8_request_4 : decode cX8_request 4 = .ok (.ifCond .eq 13, 3) := by decide +kernel
theorem dX8_request_7 : decode cX8_request 7 = .ok (.iload_n 2, 1) := by decide +kernel
theorem dX8_request_8 : decode cX8_request 8 = .ok (.iconst 1, 1) := by decide +kernel
theorem dX8_request_9 : decode cX8_request 9 = .ok (.bipush 9, 2) := by decide +kernel
theorem dX8_request_11 : decode cX8_request 11 = .ok (.invokestatic 27, 3) := by decide +kernel
theorem dX8_request_14 : decode cX8_request 14 = .ok (.ifCond .ne 10, 3) := by decide +kernel
theorem dX8_request_17 : decode cX8_request 17 = .ok (.aload_n 0, 1) := by decide +kernel
theorem dX8_request_18 : decode cX8_request 18 = .ok (.bipush (-2), 2) := by decide +kernel
theorem dX8_request_20 : decode cX8_request 20 = .ok (.invokevirtual 31, 3) := by decide +kernel
theorem dX8_request_23 : decode cX8_request 23 = .ok (.ireturn, 1) := by decide +kernel
theorem dX8_request_24 : decode cX8_request 24 = .ok (.aload_n 0, 1) := by decide +kernel
theorem dX8_request_25 : decode cX8_request 25 = .ok (.getfield 12, 3) := by decide +kernel
theorem dX8_request_28 : decode cX8_request 28 = .ok (.getfield 177, 3) := by decide +kernel
theorem dX8_request_31 : decode cX8_request 31 = .ok (.getfield 201, 3) := by decide +kernel
theorem dX8_request_34 : decode cX8_request 34 = .ok (.iload_n 1, 1) := by decide +kernel
theorem dX8_request_35 : decode cX8_request 35 = .ok (.iaload, 1) := by decide +kernel
theorem dX8_request_36 : decode cX8_request 36 = .ok (.bipush 8, 2) := by decide +kernel
theorem dX8_request_38 : decode cX8_request 38 = .ok (.if_icmp .lt 10, 3) := by decide +kernel
theorem dX8_request_41 : decode cX8_request 41 = .ok (.aload_n 0, 1) := by decide +kernel
theorem dX8_request_42 : decode cX8_request 42 = .ok (.bipush (-4), 2) := by decide +kernel
theorem dX8_request_44 : decode cX8_request 44 = .ok (.invokevirtual 31, 3) := by decide +kernel
theorem dX8_request_47 : decode cX8_request 47 = .ok (.ireturn, 1) := by decide +kernel
theorem dX8_request_48 : decode cX8_request 48 = .ok (.aload_n 0, 1) := by decide +kernel
theorem dX8_request_49 : decode cX8_request 49 = .ok (.getfield 12, 3) := by decide +kernel
theorem dX8_request_52 : decode cX8_request 52 = .ok (.getfield 62, 3) := by decide +kernel
theorem dX8_request_55 : decode cX8_request 55 = .ok (.iload_n 1, 1) := by decide +kernel
theorem dX8_request_56 : decode cX8_request 56 = .ok (.invokevirtual 174, 3) := by decide +kernel
theorem dX8_request_59 : decode cX8_request 59 = .ok (.ifCond .ne 10, 3) := by decide +kernel
theorem dX8_request_62 : decode cX8_request 62 = .ok (.aload_n 0, 1) := by decide +kernel
theorem dX8_request_63 : decode cX8_request 63 = .ok (.bipush (-9), 2) := by decide +kernel
theorem dX8_request_65 : decode cX8_request 65 = .ok (.invokevirtual 31, 3) := by decide +kernel
theorem dX8_request_68 : decode cX8_request 68 = .ok (.ireturn, 1) := by decide +kernel
theorem dX8_request_69 : decode cX8_request 69 = .ok (.aload_n 0, 1) := by decide +kernel
theorem dX8_request_70 : decode cX8_request 70 = .ok (.getfield 19, 3) := by decide +kernel
theorem dX8_request_73 : decode cX8_request 73 = .ok (.aload_n 0, 1) := by decide +kernel
theorem dX8_request_74 : decode cX8_request 74 = .ok (.getfield 12, 3) := by decide +kernel
theorem dX8_request_77 : decode cX8_request 77 = .ok (.invokevirtual 35, 3) := by decide +kernel
theorem dX8_request_80 : decode cX8_request 80 = .ok (.aload_n 0, 1) := by decide +kernel
theorem dX8_request_81 : decode cX8_request 81 = .ok (.getfield 12, 3) := by decide +kernel
theorem dX8_request_84 : decode cX8_request 84 = .ok (.getfield 177, 3) := by decide +kernel
theorem dX8_request_87 : decode cX8_request 87 = .ok (.iload_n 1, 1) := by decide +kernel
theorem dX8_request_88 : decode cX8_request 88 = .ok (.iload_n 2, 1) := by decide +kernel
theorem dX8_request_89 : decode cX8_request 89 = .ok (.invokevirtual 204, 3) := by decide +kernel
theorem dX8_request_92 : decode cX8_request 92 = .ok (.aload_n 0, 1) := by decide +kernel
theorem dX8_request_93 : decode cX8_request 93 = .ok (.getfield 12, 3) := by decide +kernel
theorem dX8_request_96 : decode cX8_request 96 = .ok (.getfield 177, 3) := by decide +kernel
theorem dX8_request_99 : decode cX8_request 99 = .ok (.getfield 201, 3) := by decide +kernel
theorem dX8_request_102 : decode cX8_request 102 = .ok (.iload_n 1, 1) := by decide +kernel
theorem dX8_request_103 : decode cX8_request 103 = .ok (.iaload, 1) := by decide +kernel
theorem dX8_request_104 : decode cX8_request 104 = .ok (.ireturn, 1) := by decide +kernel
theorem dX8_serve_0 : decode cX8_serve 0 = .ok (.iload_n 1, 1) := by decide +kernel
theorem dX8_serve_1 : decode cX8_serve 1 = .ok (.iconst 0, 1) := by decide +kernel
theorem dX8_serve_2 : decode cX8_serve 2 = .ok (.sipush 200, 3) := by decide +kernel
theorem dX8_serve_5 : decode cX8_serve 5 = .ok (.invokestatic 27, 3) := by decide +kernel
theorem dX8_serve_8 : decode cX8_serve 8 = .ok (.ifCond .ne 10, 3) := by decide +kernel
theorem dX8_serve_11 : decode cX8_serve 11 = .ok (.aload_n 0, 1) := by decide +kernel
theorem dX8_serve_12 : decode cX8_serve 12 = .ok (.bipush (-2), 2) := by decide +kernel
theorem dX8_serve_14 : decode cX8_serve 14 = .ok (.invokevirtual 31, 3) := by decide +kernel
theorem dX8_serve_17 : decode cX8_serve 17 = .ok (.ireturn, 1) := by decide +kernel
theorem dX8_serve_18 : decode cX8_serve 18 = .ok (.aload_n 0, 1) := by decide +kernel
theorem dX8_serve_19 : decode cX8_serve 19 = .ok (.getfield 19, 3) := by decide +kernel
theorem dX8_serve_22 : decode cX8_serve 22 = .ok (.aload_n 0, 1) := by decide +kernel
theorem dX8_serve_23 : decode cX8_serve 23 = .ok (.getfield 12, 3) := by decide +kernel
theorem dX8_serve_26 : decode cX8_serve 26 = .ok (.invokevirtual 35, 3) := by decide +kernel
theorem dX8_serve_29 : decode cX8_serve 29 = .ok (.aload_n 0, 1) := by decide +kernel
theorem dX8_serve_30 : decode cX8_serve 30 = .ok (.getfield 12, 3) := by decide +kernel
theorem dX8_serve_33 : decode cX8_serve 33 = .ok (.getfield 177, 3) := by decide +kernel
theorem dX8_serve_36 : decode cX8_serve 36 = .ok (.iload_n 1, 1) := by decide +kernel
theorem dX8_serve_37 : decode cX8_serve 37 = .ok (.invokevirtual 207, 3) := by decide +kernel
theorem dX8_serve_40 : decode cX8_serve 40 = .ok (.ireturn, 1) := by decide +kernel
theorem dX8_queued_0 : decode cX8_queued 0 = .ok (.iload_n 1, 1) := by decide +kernel
theorem dX8_queued_1 : decode cX8_queued 1 = .ok (.invokestatic 198, 3) := by decide +kernel
theorem dX8_queued_4 : decode cX8_queued 4 = .ok (.ifCond .eq 18, 3) := by decide +kernel
theorem dX8_queued_7 : decode cX8_queued 7 = .ok (.aload_n 0, 1) := by decide +kernel
theorem dX8_queued_8 : decode cX8_queued 8 = .ok (.getfield 12, 3) := by decide +kernel
theorem dX8_queued_11 : decode cX8_queued 11 = .ok (.getfield 177, 3) := by decide +kernel
theorem dX8_queued_14 : decode cX8_queued 14 = .ok (.getfield 201, 3) := by decide +kernel
theorem dX8_queued_17 : decode cX8_queued 17 = .ok (.iload_n 1, 1) := by decide +kernel
theorem dX8_queued_18 : decode cX8_queued 18 = .ok (.iaload, 1) := by decide +kernel
theorem dX8_queued_19 : decode cX8_queued 19 = .ok (.goto 9, 3) := by decide +kernel
theorem dX8_queued_22 : decode cX8_queued 22 = .ok (.aload_n 0, 1) := by decide +kernel
theorem dX8_queued_23 : decode cX8_queued 23 = .ok (.bipush (-2), 2) := by decide +kernel
theorem dX8_queued_25 : decode cX8_queued 25 = .ok (.invokevirtual 31, 3) := by decide +kernel
theorem dX8_queued_28 : decode cX8_queued 28 = .ok (.ireturn, 1) := by decide +kernel
theorem dX8_credit_0 : decode cX8_credit 0 = .ok (.iload_n 1, 1) := by decide +kernel
theorem dX8_credit_1 : decode cX8_credit 1 = .ok (.invokestatic 198, 3) := by decide +kernel
theorem dX8_credit_4 : decode cX8_credit 4 = .ok (.ifCond .eq 18, 3) := by decide +kernel
theorem dX8_credit_7 : decode cX8_credit 7 = .ok (.aload_n 0, 1) := by decide +kernel
theorem dX8_credit_8 : decode cX8_credit 8 = .ok (.getfield 12, 3) := by decide +kernel
theorem dX8_credit_11 : decode cX8_credit 11 = .ok (.getfield 177, 3) := by decide +kernel
theorem dX8_credit_14 : decode cX8_credit 14 = .ok (.getfield 210, 3) := by decide +kernel
theorem dX8_credit_17 : decode cX8_credit 17 = .ok (.iload_n 1, 1) := by decide +kernel
theorem dX8_credit_18 : decode cX8_credit 18 = .ok (.iaload, 1) := by decide +kernel
theorem dX8_credit_19 : decode cX8_credit 19 = .ok (.goto 9, 3) := by decide +kernel
theorem dX8_credit_22 : decode cX8_credit 22 = .ok (.aload_n 0, 1) := by decide +kernel
theorem dX8_credit_23 : decode cX8_credit 23 = .ok (.bipush (-2), 2) := by decide +kernel
theorem dX8_credit_25 : decode cX8_credit 25 = .ok (.invokevirtual 31, 3) := by decide +kernel
theorem dX8_credit_28 : decode cX8_credit 28 = .ok (.ireturn, 1) := by decide +kernel
theorem dX8_served_0 : decode cX8_served 0 = .ok (.iload_n 1, 1) := by decide +kernel
theorem dX8_served_1 : decode cX8_served 1 = .ok (.invokestatic 198, 3) := by decide +kernel
theorem dX8_served_4 : decode cX8_served 4 = .ok (.ifCond .eq 18, 3) := by decide +kernel
theorem dX8_served_7 : decode cX8_served 7 = .ok (.aload_n 0, 1) := by decide +kernel
theorem dX8_served_8 : decode cX8_served 8 = .ok (.getfield 12, 3) := by decide +kernel
theorem dX8_served_11 : decode cX8_served 11 = .ok (.getfield 177, 3) := by decide +kernel
theorem dX8_served_14 : decode cX8_served 14 = .ok (.getfield 213, 3) := by decide +kernel
theorem dX8_served_17 : decode cX8_served 17 = .ok (.iload_n 1, 1) := by decide +kernel
theorem dX8_served_18 : decode cX8_served 18 = .ok (.iaload, 1) := by decide +kernel
theorem dX8_served_19 : decode cX8_served 19 = .ok (.goto 9, 3) := by decide +kernel
theorem dX8_served_22 : decode cX8_served 22 = .ok (.aload_n 0, 1) := by decide +kernel
theorem dX8_served_23 : decode cX8_served 23 = .ok (.bipush (-2), 2) := by decide +kernel
theorem dX8_served_25 : decode cX8_served 25 = .ok (.invokevirtual 31, 3) := by decide +kernel
theorem dX8_served_28 : decode cX8_served 28 = .ok (.ireturn, 1) := by decide +kernel
theorem dX8_shareBits_0 : decode cX8_shareBits 0 = .ok (.iload_n 1, 1) := by decide +kernel
theorem dX8_shareBits_1 : decode cX8_shareBits 1 = .ok (.invokestatic 198, 3) := by decide +kernel
theorem dX8_shareBits_4 : decode cX8_shareBits 4 = .ok (.ifCond .ne 10, 3) := by decide +kernel
theorem dX8_shareBits_7 : decode cX8_shareBits 7 = .ok (.aload_n 0, 1) := by decide +kernel
theorem dX8_shareBits_8 : decode cX8_shareBits 8 = .ok (.bipush (-2), 2) := by decide +kernel
theorem dX8_shareBits_10 : decode cX8_shareBits 10 = .ok (.invokevirtual 31, 3) := by decide +kernel
theorem dX8_shareBits_13 : decode cX8_shareBits 13 = .ok (.ireturn, 1) := by decide +kernel
theorem dX8_shareBits_14 : decode cX8_shareBits 14 = .ok (.aload_n 0, 1) := by decide +kernel
theorem dX8_shareBits_15 : decode cX8_shareBits 15 = .ok (.getfield 12, 3) := by decide +kernel
theorem dX8_shareBits_18 : decode cX8_shareBits 18 = .ok (.getfield 177, 3) := by decide +kernel
theorem dX8_shareBits_21 : decode cX8_shareBits 21 = .ok (.invokevirtual 216, 3) := by decide +kernel
theorem dX8_shareBits_24 : decode cX8_shareBits 24 = .ok (.istore_n 2, 1) := by decide +kernel
theorem dX8_shareBits_25 : decode cX8_shareBits 25 = .ok (.iload_n 2, 1) := by decide +kernel
theorem dX8_shareBits_26 : decode cX8_shareBits 26 = .ok (.ifCond .gt 5, 3) := by decide +kernel
theorem dX8_shareBits_29 : decode cX8_shareBits 29 = .ok (.iconst 0, 1) := by decide +kernel
theorem dX8_shareBits_30 : decode cX8_shareBits 30 = .ok (.ireturn, 1) := by decide +kernel
theorem dX8_shareBits_31 : decode cX8_shareBits 31 = .ok (.aload_n 0, 1) := by decide +kernel
theorem dX8_shareBits_32 : decode cX8_shareBits 32 = .ok (.getfield 12, 3) := by decide +kernel
theorem dX8_shareBits_35 : decode cX8_shareBits 35 = .ok (.getfield 177, 3) := by decide +kernel
theorem dX8_shareBits_38 : decode cX8_shareBits 38 = .ok (.getfield 213, 3) := by decide +kernel
theorem dX8_shareBits_41 : decode cX8_shareBits 41 = .ok (.iload_n 1, 1) := by decide +kernel
theorem dX8_shareBits_42 : decode cX8_shareBits 42 = .ok (.iaload, 1) := by decide +kernel
theorem dX8_shareBits_43 : decode cX8_shareBits 43 = .ok (.i2f, 1) := by decide +kernel
theorem dX8_shareBits_44 : decode cX8_shareBits 44 = .ok (.iload_n 2, 1) := by decide +kernel
theorem dX8_shareBits_45 : decode cX8_shareBits 45 = .ok (.i2f, 1) := by decide +kernel
theorem dX8_shareBits_46 : decode cX8_shareBits 46 = .ok (.fdiv, 1) := by decide +kernel
theorem dX8_shareBits_47 : decode cX8_shareBits 47 = .ok (.invokestatic 219, 3) := by decide +kernel
theorem dX8_shareBits_50 : decode cX8_shareBits 50 = .ok (.ireturn, 1) := by decide +kernel
theorem dX8_undo_0 : decode cX8_undo 0 = .ok (.aload_n 0, 1) := by decide +kernel
theorem dX8_undo_1 : decode cX8_undo 1 = .ok (.getfield 19, 3) := by decide +kernel
theorem dX8_undo_4 : decode cX8_undo 4 = .ok (.getfield 223, 3) := by decide +kernel
theorem dX8_undo_7 : decode cX8_undo 7 = .ok (.ifCond .ne 10, 3) := by decide +kernel
theorem dX8_undo_10 : decode cX8_undo 10 = .ok (.aload_n 0, 1) := by decide +kernel
theorem dX8_undo_11 : decode cX8_undo 11 = .ok (.bipush (-10), 2) := by decide +kernel
theorem dX8_undo_13 : decode cX8_undo 13 = .ok (.invokevirtual 31, 3) := by decide +kernel
theorem dX8_undo_16 : decode cX8_undo 16 = .ok (.ireturn, 1) := by decide +kernel
theorem dX8_undo_17 : decode cX8_undo 17 = .ok (.aload_n 0, 1) := by decide +kernel
theorem dX8_undo_18 : decode cX8_undo 18 = .ok (.aload_n 0, 1) := by decide +kernel
theorem dX8_undo_19 : decode cX8_undo 19 = .ok (.getfield 19, 3) := by decide +kernel
theorem dX8_undo_22 : decode cX8_undo 22 = .ok (.aload_n 0, 1) := by decide +kernel
theorem dX8_undo_23 : decode cX8_undo 23 = .ok (.getfield 12, 3) := by decide +kernel
theorem dX8_undo_26 : decode cX8_undo 26 = .ok (.invokevirtual 224, 3) := by decide +kernel
theorem dX8_undo_29 : decode cX8_undo 29 = .ok (.putfield 12, 3) := by decide +kernel
theorem dX8_undo_32 : decode cX8_undo 32 = .ok (.aload_n 0, 1) := by decide +kernel
theorem dX8_undo_33 : decode cX8_undo 33 = .ok (.getfield 19, 3) := by decide +kernel
theorem dX8_undo_36 : decode cX8_undo 36 = .ok (.getfield 223, 3) := by decide +kernel
theorem dX8_undo_39 : decode cX8_undo 39 = .ok (.ireturn, 1) := by decide +kernel
theorem dX8_errorCount_0 : decode cX8_errorCount 0 = .ok (.iload_n 1, 1) := by decide +kernel
theorem dX8_errorCount_1 : decode cX8_errorCount 1 = .ok (.bipush (-10), 2) := by decide +kernel
theorem dX8_errorCount_3 : decode cX8_errorCount 3 = .ok (.bipush (-2), 2) := by decide +kernel
theorem dX8_errorCount_5 : decode cX8_errorCount 5 = .ok (.invokestatic 27, 3) := by decide +kernel
theorem dX8_errorCount_8 : decode cX8_errorCount 8 = .ok (.ifCond .ne 10, 3) := by decide +kernel
theorem dX8_errorCount_11 : decode cX8_errorCount 11 = .ok (.aload_n 0, 1) := by decide +kernel
theorem dX8_errorCount_12 : decode cX8_errorCount 12 = .ok (.bipush (-2), 2) := by decide +kernel
theorem dX8_errorCount_14 : decode cX8_errorCount 14 = .ok (.invokevirtual 31, 3) := by decide +kernel
theorem dX8_errorCount_17 : decode cX8_errorCount 17 = .ok (.ireturn, 1) := by decide +kernel
theorem dX8_errorCount_18 : decode cX8_errorCount 18 = .ok (.aload_n 0, 1) := by decide +kernel
theorem dX8_errorCount_19 : decode cX8_errorCount 19 = .ok (.getfield 23, 3) := by decide +kernel
theorem dX8_errorCount_22 : decode cX8_errorCount 22 = .ok (.bipush (-2), 2) := by decide +kernel
theorem dX8_errorCount_24 : decode cX8_errorCount 24 = .ok (.iload_n 1, 1) := by decide +kernel
theorem dX8_errorCount_25 : decode cX8_errorCount 25 = .ok (.isub, 1) := by decide +kernel
theorem dX8_errorCount_26 : decode cX8_errorCount 26 = .ok (.iaload, 1) := by decide +kernel
theorem dX8_errorCount_27 : decode cX8_errorCount 27 = .ok (.ireturn, 1) := by decide +kernel
theorem dX8_digest_0 : decode cX8_digest 0 = .ok (.ldc2_w 228, 3) := by decide +kernel
theorem dX8_digest_3 : decode cX8_digest 3 = .ok (.lstore_n 1, 1) := by decide +kernel
theorem dX8_digest_4 : decode cX8_digest 4 = .ok (.iconst 0, 1) := by decide +kernel
theorem dX8_digest_5 : decode cX8_digest 5 = .ok (.istore_n 3, 1) := by decide +kernel
theorem dX8_digest_6 : decode cX8_digest 6 = .ok (.iload_n 3, 1) := by decide +kernel
theorem dX8_digest_7 : decode cX8_digest 7 = .ok (.bipush 9, 2) := by decide +kernel
theorem dX8_digest_9 : decode cX8_digest 9 = .ok (.if_icmp .ge 21, 3) := by decide +kernel
theorem dX8_digest_12 : decode cX8_digest 12 = .ok (.lload_n 1, 1) := by decide +kernel
theorem dX8_digest_13 : decode cX8_digest 13 = .ok (.aload_n 0, 1) := by decide +kernel
theorem dX8_digest_14 : decode cX8_digest 14 = .ok (.getfield 23, 3) := by decide +kernel
theorem dX8_digest_17 : decode cX8_digest 17 = .ok (.iload_n 3, 1) := by decide +kernel
theorem dX8_digest_18 : decode cX8_digest 18 = .ok (.iaload, 1) := by decide +kernel
theorem dX8_digest_19 : decode cX8_digest 19 = .ok (.i2l, 1) := by decide +kernel
theorem dX8_digest_20 : decode cX8_digest 20 = .ok (.invokestatic 230, 3) := by decide +kernel
theorem dX8_digest_23 : decode cX8_digest 23 = .ok (.lstore_n 1, 1) := by decide +kernel
theorem dX8_digest_24 : decode cX8_digest 24 = .ok (.iinc 3 1, 3) := by decide +kernel
theorem dX8_digest_27 : decode cX8_digest 27 = .ok (.goto (-21), 3) := by decide +kernel
theorem dX8_digest_30 : decode cX8_digest 30 = .ok (.aload_n 0, 1) := by decide +kernel
theorem dX8_digest_31 : decode cX8_digest 31 = .ok (.getfield 12, 3) := by decide +kernel
theorem dX8_digest_34 : decode cX8_digest 34 = .ok (.lload_n 1, 1) := by decide +kernel
theorem dX8_digest_35 : decode cX8_digest 35 = .ok (.invokevirtual 234, 3) := by decide +kernel
theorem dX8_digest_38 : decode cX8_digest 38 = .ok (.aload_n 0, 1) := by decide +kernel
theorem dX8_digest_39 : decode cX8_digest 39 = .ok (.getfield 19, 3) := by decide +kernel
theorem dX8_digest_42 : decode cX8_digest 42 = .ok (.getfield 223, 3) := by decide +kernel
theorem dX8_digest_45 : decode cX8_digest 45 = .ok (.i2l, 1) := by decide +kernel
theorem dX8_digest_46 : decode cX8_digest 46 = .ok (.invokestatic 230, 3) := by decide +kernel
theorem dX8_digest_49 : decode cX8_digest 49 = .ok (.lreturn, 1) := by decide +kernel
theorem dX8_fail_0 : decode cX8_fail 0 = .ok (.iload_n 1, 1) := by decide +kernel
theorem dX8_fail_1 : decode cX8_fail 1 = .ok (.bipush (-10), 2) := by decide +kernel
theorem dX8_fail_3 : decode cX8_fail 3 = .ok (.bipush (-2), 2) := by decide +kernel
theorem dX8_fail_5 : decode cX8_fail 5 = .ok (.invokestatic 27, 3) := by decide +kernel
theorem dX8_fail_8 : decode cX8_fail 8 = .ok (.ifCond .eq 16, 3) := by decide +kernel
theorem dX8_fail_11 : decode cX8_fail 11 = .ok (.aload_n 0, 1) := by decide +kernel
theorem dX8_fail_12 : decode cX8_fail 12 = .ok (.getfield 23, 3) := by decide +kernel
theorem dX8_fail_15 : decode cX8_fail 15 = .ok (.bipush (-2), 2) := by decide +kernel
theorem dX8_fail_17 : decode cX8_fail 17 = .ok (.iload_n 1, 1) := by decide +kernel
theorem dX8_fail_18 : decode cX8_fail 18 = .ok (.isub, 1) := by decide +kernel
theorem dX8_fail_19 : decode cX8_fail 19 = .ok (.dup2, 1) := by decide +kernel
theorem dX8_fail_20 : decode cX8_fail 20 = .ok (.iaload, 1) := by decide +kernel
theorem dX8_fail_21 : decode cX8_fail 21 = .ok (.iconst 1, 1) := by decide +kernel
theorem dX8_fail_22 : decode cX8_fail 22 = .ok (.iadd, 1) := by decide +kernel
theorem dX8_fail_23 : decode cX8_fail 23 = .ok (.iastore, 1) := by decide +kernel
theorem dX8_fail_24 : decode cX8_fail 24 = .ok (.iload_n 1, 1) := by decide +kernel
theorem dX8_fail_25 : decode cX8_fail 25 = .ok (.ireturn, 1) := by decide +kernel
theorem dX8_failAfterWork_0 : decode cX8_failAfterWork 0 = .ok (.aload_n 0, 1) := by decide +kernel
theorem dX8_failAfterWork_1 : decode cX8_failAfterWork 1 = .ok (.getfield 12, 3) := by decide +kernel
theorem dX8_failAfterWork_4 : decode cX8_failAfterWork 4 = .ok (.dup, 1) := by decide +kernel
theorem dX8_failAfterWork_5 : decode cX8_failAfterWork 5 = .ok (.getfield 156, 3) := by decide +kernel
theorem dX8_failAfterWork_8 : decode cX8_failAfterWork 8 = .ok (.iload_n 2, 1) := by decide +kernel
theorem dX8_failAfterWork_9 : decode cX8_failAfterWork 9 = .ok (.iadd, 1) := by decide +kernel
theorem dX8_failAfterWork_10 : decode cX8_failAfterWork 10 = .ok (.putfield 156, 3) := by decide +kernel
theorem dX8_failAfterWork_13 : decode cX8_failAfterWork 13 = .ok (.aload_n 0, 1) := by decide +kernel
theorem dX8_failAfterWork_14 : decode cX8_failAfterWork 14 = .ok (.iload_n 1, 1) := by decide +kernel
theorem dX8_failAfterWork_15 : decode cX8_failAfterWork 15 = .ok (.invokevirtual 31, 3) := by decide +kernel
theorem dX8_failAfterWork_18 : decode cX8_failAfterWork 18 = .ok (.ireturn, 1) := by decide +kernel
theorem dX8_isWithin_0 : decode cX8_isWithin 0 = .ok (.iload_n 0, 1) := by decide +kernel
theorem dX8_isWithin_1 : decode cX8_isWithin 1 = .ok (.iload_n 1, 1) := by decide +kernel
theorem dX8_isWithin_2 : decode cX8_isWithin 2 = .ok (.if_icmp .lt 12, 3) := by decide +kernel
theorem dX8_isWithin_5 : decode cX8_isWithin 5 = .ok (.iload_n 0, 1) := by decide +kernel
theorem dX8_isWithin_6 : decode cX8_isWithin 6 = .ok (.iload_n 2, 1) := by decide +kernel
theorem dX8_isWithin_7 : decode cX8_isWithin 7 = .ok (.if_icmp .gt 7, 3) := by decide +kernel
theorem dX8_isWithin_10 : decode cX8_isWithin 10 = .ok (.iconst 1, 1) := by decide +kernel
theorem dX8_isWithin_11 : decode cX8_isWithin 11 = .ok (.goto 4, 3) := by decide +kernel
theorem dX8_isWithin_14 : decode cX8_isWithin 14 = .ok (.iconst 0, 1) := by decide +kernel
theorem dX8_isWithin_15 : decode cX8_isWithin 15 = .ok (.ireturn, 1) := by decide +kernel
theorem dX8_isClient_0 : decode cX8_isClient 0 = .ok (.iload_n 0, 1) := by decide +kernel
theorem dX8_isClient_1 : decode cX8_isClient 1 = .ok (.iconst 0, 1) := by decide +kernel
theorem dX8_isClient_2 : decode cX8_isClient 2 = .ok (.bipush 15, 2) := by decide +kernel
theorem dX8_isClient_4 : decode cX8_isClient 4 = .ok (.invokestatic 27, 3) := by decide +kernel
theorem dX8_isClient_7 : decode cX8_isClient 7 = .ok (.ireturn, 1) := by decide +kernel
theorem dX8_isPlace_0 : decode cX8_isPlace 0 = .ok (.iload_n 0, 1) := by decide +kernel
theorem dX8_isPlace_1 : decode cX8_isPlace 1 = .ok (.invokestatic 198, 3) := by decide +kernel
theorem dX8_isPlace_4 : decode cX8_isPlace 4 = .ok (.ifCond .eq 17, 3) := by decide +kernel
theorem dX8_isPlace_7 : decode cX8_isPlace 7 = .ok (.iload_n 1, 1) := by decide +kernel
theorem dX8_isPlace_8 : decode cX8_isPlace 8 = .ok (.iconst 0, 1) := by decide +kernel
theorem dX8_isPlace_9 : decode cX8_isPlace 9 = .ok (.bipush 7, 2) := by decide +kernel
theorem dX8_isPlace_11 : decode cX8_isPlace 11 = .ok (.invokestatic 27, 3) := by decide +kernel
theorem dX8_isPlace_14 : decode cX8_isPlace 14 = .ok (.ifCond .eq 7, 3) := by decide +kernel
theorem dX8_isPlace_17 : decode cX8_isPlace 17 = .ok (.iconst 1, 1) := by decide +kernel
theorem dX8_isPlace_18 : decode cX8_isPlace 18 = .ok (.goto 4, 3) := by decide +kernel
theorem dX8_isPlace_21 : decode cX8_isPlace 21 = .ok (.iconst 0, 1) := by decide +kernel
theorem dX8_isPlace_22 : decode cX8_isPlace 22 = .ok (.ireturn, 1) := by decide +kernel
theorem dX8_isCookie_0 : decode cX8_isCookie 0 = .ok (.iload_n 0, 1) := by decide +kernel
theorem dX8_isCookie_1 : decode cX8_isCookie 1 = .ok (.iconst 0, 1) := by decide +kernel
theorem dX8_isCookie_2 : decode cX8_isCookie 2 = .ok (.ldc 238, 2) := by decide +kernel
theorem dX8_isCookie_4 : decode cX8_isCookie 4 = .ok (.invokestatic 27, 3) := by decide +kernel
theorem dX8_isCookie_7 : decode cX8_isCookie 7 = .ok (.ireturn, 1) := by decide +kernel
theorem dX8_placeOf_0 : decode cX8_placeOf 0 = .ok (.iload_n 0, 1) := by decide +kernel
theorem dX8_placeOf_1 : decode cX8_placeOf 1 = .ok (.bipush 8, 2) := by decide +kernel
theorem dX8_placeOf_3 : decode cX8_placeOf 3 = .ok (.imul, 1) := by decide +kernel
theorem dX8_placeOf_4 : decode cX8_placeOf 4 = .ok (.iload_n 1, 1) := by decide +kernel
theorem dX8_placeOf_5 : decode cX8_placeOf 5 = .ok (.iadd, 1) := by decide +kernel
theorem dX8_placeOf_6 : decode cX8_placeOf 6 = .ok (.ireturn, 1) := by decide +kernel
theorem dX8_mix_0 : decode cX8_mix 0 = .ok (.ldc2_w 239, 3) := by decide +kernel
theorem dX8_mix_3 : decode cX8_mix 3 = .ok (.lload_n 0, 1) := by decide +kernel
theorem dX8_mix_4 : decode cX8_mix 4 = .ok (.lmul, 1) := by decide +kernel
theorem dX8_mix_5 : decode cX8_mix 5 = .ok (.lload_n 2, 1) := by decide +kernel
theorem dX8_mix_6 : decode cX8_mix 6 = .ok (.ladd, 1) := by decide +kernel
theorem dX8_mix_7 : decode cX8_mix 7 = .ok (.lreturn, 1) := by decide +kernel
theorem dX8_bitsOfShare_0 : decode cX8_bitsOfShare 0 = .ok (.fload_n 0, 1) := by decide +kernel
theorem dX8_bitsOfShare_1 : decode cX8_bitsOfShare 1 = .ok (.fconst 0, 1) := by decide +kernel
theorem dX8_bitsOfShare_2 : decode cX8_bitsOfShare 2 = .ok (.fcmp .g, 1) := by decide +kernel
theorem dX8_bitsOfShare_3 : decode cX8_bitsOfShare 3 = .ok (.ifCond .gt 5, 3) := by decide +kernel
theorem dX8_bitsOfShare_6 : decode cX8_bitsOfShare 6 = .ok (.iconst 0, 1) := by decide +kernel
theorem dX8_bitsOfShare_7 : decode cX8_bitsOfShare 7 = .ok (.ireturn, 1) := by decide +kernel
theorem dX8_bitsOfShare_8 : decode cX8_bitsOfShare 8 = .ok (.fload_n 0, 1) := by decide +kernel
theorem dX8_bitsOfShare_9 : decode cX8_bitsOfShare 9 = .ok (.fstore_n 1, 1) := by decide +kernel
theorem dX8_bitsOfShare_10 : decode cX8_bitsOfShare 10 = .ok (.bipush 127, 2) := by decide +kernel
theorem dX8_bitsOfShare_12 : decode cX8_bitsOfShare 12 = .ok (.istore_n 2, 1) := by decide +kernel
theorem dX8_bitsOfShare_13 : decode cX8_bitsOfShare 13 = .ok (.iload_n 2, 1) := by decide +kernel
theorem dX8_bitsOfShare_14 : decode cX8_bitsOfShare 14 = .ok (.iconst 1, 1) := by decide +kernel
theorem dX8_bitsOfShare_15 : decode cX8_bitsOfShare 15 = .ok (.if_icmp .le 19, 3) := by decide +kernel
theorem dX8_bitsOfShare_18 : decode cX8_bitsOfShare 18 = .ok (.fload_n 1, 1) := by decide +kernel
theorem dX8_bitsOfShare_19 : decode cX8_bitsOfShare 19 = .ok (.fconst 1, 1) := by decide +kernel
theorem dX8_bitsOfShare_20 : decode cX8_bitsOfShare 20 = .ok (.fcmp .g, 1) := by decide +kernel
theorem dX8_bitsOfShare_21 : decode cX8_bitsOfShare 21 = .ok (.ifCond .ge 13, 3) := by decide +kernel
theorem dX8_bitsOfShare_24 : decode cX8_bitsOfShare 24 = .ok (.fload_n 1, 1) := by decide +kernel
theorem dX8_bitsOfShare_25 : decode cX8_bitsOfShare 25 = .ok (.fconst 2, 1) := by decide +kernel
theorem dX8_bitsOfShare_26 : decode cX8_bitsOfShare 26 = .ok (.fmul, 1) := by decide +kernel
theorem dX8_bitsOfShare_27 : decode cX8_bitsOfShare 27 = .ok (.fstore_n 1, 1) := by decide +kernel
theorem dX8_bitsOfShare_28 : decode cX8_bitsOfShare 28 = .ok (.iinc 2 (-1), 3) := by decide +kernel
theorem dX8_bitsOfShare_31 : decode cX8_bitsOfShare 31 = .ok (.goto (-18), 3) := by decide +kernel
theorem dX8_bitsOfShare_34 : decode cX8_bitsOfShare 34 = .ok (.fload_n 1, 1) := by decide +kernel
theorem dX8_bitsOfShare_35 : decode cX8_bitsOfShare 35 = .ok (.ldc 241, 2) := by decide +kernel
theorem dX8_bitsOfShare_37 : decode cX8_bitsOfShare 37 = .ok (.fmul, 1) := by decide +kernel
theorem dX8_bitsOfShare_38 : decode cX8_bitsOfShare 38 = .ok (.f2i, 1) := by decide +kernel
theorem dX8_bitsOfShare_39 : decode cX8_bitsOfShare 39 = .ok (.ldc 242, 2) := by decide +kernel
theorem dX8_bitsOfShare_41 : decode cX8_bitsOfShare 41 = .ok (.isub, 1) := by decide +kernel
theorem dX8_bitsOfShare_42 : decode cX8_bitsOfShare 42 = .ok (.istore_n 3, 1) := by decide +kernel
theorem dX8_bitsOfShare_43 : decode cX8_bitsOfShare 43 = .ok (.iload_n 2, 1) := by decide +kernel
theorem dX8_bitsOfShare_44 : decode cX8_bitsOfShare 44 = .ok (.ldc 242, 2) := by decide +kernel
theorem dX8_bitsOfShare_46 : decode cX8_bitsOfShare 46 = .ok (.imul, 1) := by decide +kernel
theorem dX8_bitsOfShare_47 : decode cX8_bitsOfShare 47 = .ok (.iload_n 3, 1) := by decide +kernel
theorem dX8_bitsOfShare_48 : decode cX8_bitsOfShare 48 = .ok (.iadd, 1) := by decide +kernel
theorem dX8_bitsOfShare_49 : decode cX8_bitsOfShare 49 = .ok (.ireturn, 1) := by decide +kernel
theorem dJ9_floorMod_7cf53_0 : decode cJ9_floorMod_7cf53 0 = .ok (.iload_n 0, 1) := by decide +kernel
theorem dJ9_floorMod_7cf53_1 : decode cJ9_floorMod_7cf53 1 = .ok (.iload_n 1, 1) := by decide +kernel
theorem dJ9_floorMod_7cf53_2 : decode cJ9_floorMod_7cf53 2 = .ok (.irem, 1) := by decide +kernel
theorem dJ9_floorMod_7cf53_3 : decode cJ9_floorMod_7cf53 3 = .ok (.istore_n 2, 1) := by decide +kernel
theorem dJ9_floorMod_7cf53_4 : decode cJ9_floorMod_7cf53 4 = .ok (.iload_n 0, 1) := by decide +kernel
theorem dJ9_floorMod_7cf53_5 : decode cJ9_floorMod_7cf53 5 = .ok (.iload_n 1, 1) := by decide +kernel
theorem dJ9_floorMod_7cf53_6 : decode cJ9_floorMod_7cf53 6 = .ok (.ixor, 1) := by decide +kernel
theorem dJ9_floorMod_7cf53_7 : decode cJ9_floorMod_7cf53 7 = .ok (.ifCond .ge 11, 3) := by decide +kernel
theorem dJ9_floorMod_7cf53_10 : decode cJ9_floorMod_7cf53 10 = .ok (.iload_n 2, 1) := by decide +kernel
theorem dJ9_floorMod_7cf53_11 : decode cJ9_floorMod_7cf53 11 = .ok (.ifCond .eq 7, 3) := by decide +kernel
theorem dJ9_floorMod_7cf53_14 : decode cJ9_floorMod_7cf53 14 = .ok (.iload_n 2, 1) := by decide +kernel
theorem dJ9_floorMod_7cf53_15 : decode cJ9_floorMod_7cf53 15 = .ok (.iload_n 1, 1) := by decide +kernel
theorem dJ9_floorMod_7cf53_16 : decode cJ9_floorMod_7cf53 16 = .ok (.iadd, 1) := by decide +kernel
theorem dJ9_floorMod_7cf53_17 : decode cJ9_floorMod_7cf53 17 = .ok (.ireturn, 1) := by decide +kernel
theorem dJ9_floorMod_7cf53_18 : decode cJ9_floorMod_7cf53 18 = .ok (.iload_n 2, 1) := by decide +kernel
theorem dJ9_floorMod_7cf53_19 : decode cJ9_floorMod_7cf53 19 = .ok (.ireturn, 1) := by decide +kernel
theorem dJ9_min_7cf53_0 : decode cJ9_min_7cf53 0 = .ok (.iload_n 0, 1) := by decide +kernel
theorem dJ9_min_7cf53_1 : decode cJ9_min_7cf53 1 = .ok (.iload_n 1, 1) := by decide +kernel
theorem dJ9_min_7cf53_2 : decode cJ9_min_7cf53 2 = .ok (.if_icmp .gt 7, 3) := by decide +kernel
theorem dJ9_min_7cf53_5 : decode cJ9_min_7cf53 5 = .ok (.iload_n 0, 1) := by decide +kernel
theorem dJ9_min_7cf53_6 : decode cJ9_min_7cf53 6 = .ok (.goto 4, 3) := by decide +kernel
theorem dJ9_min_7cf53_9 : decode cJ9_min_7cf53 9 = .ok (.iload_n 1, 1) := by decide +kernel
theorem dJ9_min_7cf53_10 : decode cJ9_min_7cf53 10 = .ok (.ireturn, 1) := by decide +kernel
