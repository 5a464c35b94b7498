theorem dX0_init_0 : decode cX0_init 0 = .ok (.aload_n 0, 1) := by decide +kernel
theorem dX0_init_1 : decode cX0_init 1 = .ok (.iload_n 1, 1) := by decide +kernel
theorem dX0_init_2 : decode cX0_init 2 = .ok (.iload_n 2, 1) := by decide +kernel
theorem dX0_init_3 : decode cX0_init 3 = .ok (.invokespecial 1, 3) := by decide +kernel
theorem dX0_init_6 : decode cX0_init 6 = .ok (.return_, 1) := by decide +kernel
theorem dX0_numberFor_0 : decode cX0_numberFor 0 = .ok (.aload_n 1, 1) := by decide +kernel
theorem dX0_numberFor_1 : decode cX0_numberFor 1 = .ok (.invokevirtual 7, 3) := by decide +kernel
theorem dX0_numberFor_4 : decode cX0_numberFor 4 = .ok (.ireturn, 1) := by decide +kernel
theorem dX0_levy_0 : decode cX0_levy 0 = .ok (.aload_n 0, 1) := by decide +kernel
theorem dX0_levy_1 : decode cX0_levy 1 = .ok (.invokespecial 13, 3) := by decide +kernel
theorem dX0_levy_4 : decode cX0_levy 4 = .ok (.aload_n 0, 1) := by decide +kernel
theorem dX0_levy_5 : decode cX0_levy 5 = .ok (.getfield 16, 3) := by decide +kernel
theorem dX0_levy_8 : decode cX0_levy 8 = .ok (.iadd, 1) := by decide +kernel
theorem dX0_levy_9 : decode cX0_levy 9 = .ok (.ireturn, 1) := by decide +kernel
theorem dX1_init_0 : decode cX1_init 0 = .ok (.aload_n 0, 1) := by decide +kernel
theorem dX1_init_1 : decode cX1_init 1 = .ok (.iload_n 1, 1) := by decide +kernel
theorem dX1_init_2 : decode cX1_init 2 = .ok (.iload_n 2, 1) := by decide +kernel
theorem dX1_init_3 : decode cX1_init 3 = .ok (.invokespecial 1, 3) := by decide +kernel
theorem dX1_init_6 : decode cX1_init 6 = .ok (.return_, 1) := by decide +kernel
theorem dX1_numberFor_0 : decode cX1_numberFor 0 = .ok (.aload_n 0, 1) := by decide +kernel
theorem dX1_numberFor_1 : decode cX1_numberFor 1 = .ok (.aload_n 1, 1) := by decide +kernel
theorem dX1_numberFor_2 : decode cX1_numberFor 2 = .ok (.iload_n 2, 1) := by decide +kernel
theorem dX1_numberFor_3 : decode cX1_numberFor 3 = .ok (.iload_n 3, 1) := by decide +kernel
theorem dX1_numberFor_4 : decode cX1_numberFor 4 = .ok (.invokespecial 7, 3) := by decide +kernel
theorem dX1_numberFor_7 : decode cX1_numberFor 7 = .ok (.aload_n 0, 1) := by decide +kernel
theorem dX1_numberFor_8 : decode cX1_numberFor 8 = .ok (.getfield 11, 3) := by decide +kernel
theorem dX1_numberFor_11 : decode cX1_numberFor 11 = .ok (.iload_n 3, 1) := by decide +kernel
theorem dX1_numberFor_12 : decode cX1_numberFor 12 = .ok (.imul, 1) := by decide +kernel
theorem dX1_numberFor_13 : decode cX1_numberFor 13 = .ok (.iadd, 1) := by decide +kernel
theorem dX1_numberFor_14 : decode cX1_numberFor 14 = .ok (.ireturn, 1) := by decide +kernel
theorem dX1_levy_0 : decode cX1_levy 0 = .ok (.iconst 2, 1) := by decide +kernel
theorem dX1_levy_1 : decode cX1_levy 1 = .ok (.aload_n 0, 1) := by decide +kernel
theorem dX1_levy_2 : decode cX1_levy 2 = .ok (.invokespecial 17, 3) := by decide +kernel
theorem dX1_levy_5 : decode cX1_levy 5 = .ok (.imul, 1) := by decide +kernel
theorem dX1_levy_6 : decode cX1_levy 6 = .ok (.ireturn, 1) := by decide +kernel
theorem dX2_init_0 : decode cX2_init 0 = .ok (.aload_n 0, 1) := by decide +kernel
theorem dX2_init_1 : decode cX2_init 1 = .ok (.iload_n 1, 1) := by decide +kernel
theorem dX2_init_2 : decode cX2_init 2 = .ok (.iload_n 2, 1) := by decide +kernel
theorem dX2_init_3 : decode cX2_init 3 = .ok (.invokespecial 1, 3) := by decide +kernel
theorem dX2_init_6 : decode cX2_init 6 = .ok (.return_, 1) := by decide +kernel
theorem dX2_numberFor_0 : decode cX2_numberFor 0 = .ok (.aload_n 0, 1) := by decide +kernel
theorem dX2_numberFor_1 : decode cX2_numberFor 1 = .ok (.aload_n 1, 1) := by decide +kernel
theorem dX2_numberFor_2 : decode cX2_numberFor 2 = .ok (.iload_n 2, 1) := by decide +kernel
theorem dX2_numberFor_3 : decode cX2_numberFor 3 = .ok (.iload_n 3, 1) := by decide +kernel
theorem dX2_numberFor_4 : decode cX2_numberFor 4 = .ok (.invokespecial 7, 3) := by decide +kernel
theorem dX2_numberFor_7 : decode cX2_numberFor 7 = .ok (.istore 4, 2) := by decide +kernel
theorem dX2_numberFor_9 : decode cX2_numberFor 9 = .ok (.iload 4, 2) := by decide +kernel
theorem dX2_numberFor_11 : decode cX2_numberFor 11 = .ok (.aload_n 0, 1) := by decide +kernel
theorem dX2_numberFor_12 : decode cX2_numberFor 12 = .ok (.getfield 11, 3) := by decide +kernel
theorem dX2_numberFor_15 : decode cX2_numberFor 15 = .ok (.if_icmp .ge 8, 3) := by decide +kernel
theorem dX2_numberFor_18 : decode cX2_numberFor 18 = .ok (.iload 4, 2) := by decide +kernel
theorem dX2_numberFor_20 : decode cX2_numberFor 20 = .ok (.goto 9, 3) := by decide +kernel
theorem dX2_numberFor_23 : decode cX2_numberFor 23 = .ok (.aload_n 1, 1) := by decide +kernel
theorem dX2_numberFor_24 : decode cX2_numberFor 24 = .ok (.invokevirtual 17, 3) := by decide +kernel
theorem dX2_numberFor_27 : decode cX2_numberFor 27 = .ok (.iconst 1, 1) := by decide +kernel
theorem dX2_numberFor_28 : decode cX2_numberFor 28 = .ok (.iadd, 1) := by decide +kernel
theorem dX2_numberFor_29 : decode cX2_numberFor 29 = .ok (.ireturn, 1) := by decide +kernel
theorem dX2_levy_0 : decode cX2_levy 0 = .ok (.iconst 2, 1) := by decide +kernel
theorem dX2_levy_1 : decode cX2_levy 1 = .ok (.aload_n 0, 1) := by decide +kernel
theorem dX2_levy_2 : decode cX2_levy 2 = .ok (.invokespecial 23, 3) := by decide +kernel
theorem dX2_levy_5 : decode cX2_levy 5 = .ok (.imul, 1) := by decide +kernel
theorem dX2_levy_6 : decode cX2_levy 6 = .ok (.ireturn, 1) := by decide +kernel
theorem dX2_fail_0 : decode cX2_fail 0 = .ok (.aload_n 0, 1) := by decide +kernel
theorem dX2_fail_1 : decode cX2_fail 1 = .ok (.getfield 11, 3) := by decide +kernel
theorem dX2_fail_4 : decode cX2_fail 4 = .ok (.ifCond .eq 13, 3) := by decide +kernel
theorem dX2_fail_7 : decode cX2_fail 7 = .ok (.new 26, 3) := by decide +kernel
theorem dX2_fail_10 : decode cX2_fail 10 = .ok (.dup, 1) := by decide +kernel
theorem dX2_fail_11 : decode cX2_fail 11 = .ok (.ldc 28, 2) := by decide +kernel
theorem dX2_fail_13 : decode cX2_fail 13 = .ok (.invokespecial 30, 3) := by decide +kernel
theorem dX2_fail_16 : decode cX2_fail 16 = .ok (.athrow, 1) := by decide +kernel
theorem dX2_fail_17 : decode cX2_fail 17 = .ok (.return_, 1) := by decide +kernel
theorem dX3_init_0 : decode cX3_init 0 = .ok (.aload_n 0, 1) := by decide +kernel
theorem dX3_init_1 : decode cX3_init 1 = .ok (.invokespecial 1, 3) := by decide +kernel
theorem dX3_init_4 : decode cX3_init 4 = .ok (.aload_n 0, 1) := by decide +kernel
theorem dX3_init_5 : decode cX3_init 5 = .ok (.iload_n 1, 1) := by decide +kernel
theorem dX3_init_6 : decode cX3_init 6 = .ok (.putfield 7, 3) := by decide +kernel
theorem dX3_init_9 : decode cX3_init 9 = .ok (.aload_n 0, 1) := by decide +kernel
theorem dX3_init_10 : decode cX3_init 10 = .ok (.iload_n 2, 1) := by decide +kernel
theorem dX3_init_11 : decode cX3_init 11 = .ok (.putfield 13, 3) := by decide +kernel
theorem dX3_init_14 : decode cX3_init 14 = .ok (.return_, 1) := by decide +kernel
theorem dX3_numberFor_0 : decode cX3_numberFor 0 = .ok (.aload_n 1, 1) := by decide +kernel
theorem dX3_numberFor_1 : decode cX3_numberFor 1 = .ok (.getfield 16, 3) := by decide +kernel
theorem dX3_numberFor_4 : decode cX3_numberFor 4 = .ok (.iconst 1, 1) := by decide +kernel
theorem dX3_numberFor_5 : decode cX3_numberFor 5 = .ok (.iadd, 1) := by decide +kernel
theorem dX3_numberFor_6 : decode cX3_numberFor 6 = .ok (.ireturn, 1) := by decide +kernel
theorem dX3_levy_0 : decode cX3_levy 0 = .ok (.iconst 3, 1) := by decide +kernel
theorem dX3_levy_1 : decode cX3_levy 1 = .ok (.ireturn, 1) := by decide +kernel
theorem dX3_fail_0 : decode cX3_fail 0 = .ok (.aload_n 0, 1) := by decide +kernel
theorem dX3_fail_1 : decode cX3_fail 1 = .ok (.getfield 13, 3) := by decide +kernel
theorem dX3_fail_4 : decode cX3_fail 4 = .ok (.ifCond .eq 13, 3) := by decide +kernel
theorem dX3_fail_7 : decode cX3_fail 7 = .ok (.new 21, 3) := by decide +kernel
theorem dX3_fail_10 : decode cX3_fail 10 = .ok (.dup, 1) := by decide +kernel
theorem dX3_fail_11 : decode cX3_fail 11 = .ok (.ldc 23, 2) := by decide +kernel
theorem dX3_fail_13 : decode cX3_fail 13 = .ok (.invokespecial 25, 3) := by decide +kernel
theorem dX3_fail_16 : decode cX3_fail 16 = .ok (.athrow, 1) := by decide +kernel
theorem dX3_fail_17 : decode cX3_fail 17 = .ok (.return_, 1) := by decide +kernel
theorem dX4_init_0 : decode cX4_init 0 = .ok (.aload_n 0, 1) := by decide +kernel
theorem dX4_init_1 : decode cX4_init 1 = .ok (.iload_n 1, 1) := by decide +kernel
theorem dX4_init_2 : decode cX4_init 2 = .ok (.iload_n 2, 1) := by decide +kernel
theorem dX4_init_3 : decode cX4_init 3 = .ok (.invokespecial 1, 3) := by decide +kernel
theorem dX4_init_6 : decode cX4_init 6 = .ok (.return_, 1) := by decide +kernel
theorem dX4_numberFor_0 : decode cX4_numberFor 0 = .ok (.aload_n 1, 1) := by decide +kernel
theorem dX4_numberFor_1 : decode cX4_numberFor 1 = .ok (.iload_n 2, 1) := by decide +kernel
theorem dX4_numberFor_2 : decode cX4_numberFor 2 = .ok (.invokevirtual 7, 3) := by decide +kernel
theorem dX4_numberFor_5 : decode cX4_numberFor 5 = .ok (.iconst 1, 1) := by decide +kernel
theorem dX4_numberFor_6 : decode cX4_numberFor 6 = .ok (.iadd, 1) := by decide +kernel
theorem dX4_numberFor_7 : decode cX4_numberFor 7 = .ok (.ireturn, 1) := by decide +kernel
theorem dX4_levy_0 : decode cX4_levy 0 = .ok (.aload_n 0, 1) := by decide +kernel
theorem dX4_levy_1 : decode cX4_levy 1 = .ok (.invokespecial 13, 3) := by decide +kernel
theorem dX4_levy_4 : decode cX4_levy 4 = .ok (.iconst 1, 1) := by decide +kernel
theorem dX4_levy_5 : decode cX4_levy 5 = .ok (.isub, 1) := by decide +kernel
theorem dX4_levy_6 : decode cX4_levy 6 = .ok (.ireturn, 1) := by decide +kernel
theorem dX5_init_0 : decode cX5_init 0 = .ok (.aload_n 0, 1) := by decide +kernel
theorem dX5_init_1 : decode cX5_init 1 = .ok (.invokespecial 3, 3) := by decide +kernel
theorem dX5_init_4 : decode cX5_init 4 = .ok (.aload_n 0, 1) := by decide +kernel
theorem dX5_init_5 : decode cX5_init 5 = .ok (.iconst (-1), 1) := by decide +kernel
theorem dX5_init_6 : decode cX5_init 6 = .ok (.putfield 11, 3) := by decide +kernel
theorem dX5_init_9 : decode cX5_init 9 = .ok (.aload_n 0, 1) := by decide +kernel
theorem dX5_init_10 : decode cX5_init 10 = .ok (.bipush 100, 2) := by decide +kernel
theorem dX5_init_12 : decode cX5_init 12 = .ok (.newarray .int, 2) := by decide +kernel
theorem dX5_init_14 : decode cX5_init 14 = .ok (.putfield 15, 3) := by decide +kernel
theorem dX5_init_17 : decode cX5_init 17 = .ok (.return_, 1) := by decide +kernel
theorem dX5_hold_0 : decode cX5_hold 0 = .ok (.aload_n 0, 1) := by decide +kernel
theorem dX5_hold_1 : decode cX5_hold 1 = .ok (.aload_n 1, 1) := by decide +kernel
theorem dX5_hold_2 : decode cX5_hold 2 = .ok (.putfield 19, 3) := by decide +kernel
theorem dX5_hold_5 : decode cX5_hold 5 = .ok (.aload_n 0, 1) := by decide +kernel
theorem dX5_hold_6 : decode cX5_hold 6 = .ok (.iconst (-1), 1) := by decide +kernel
theorem dX5_hold_7 : decode cX5_hold 7 = .ok (.putfield 11, 3) := by decide +kernel
theorem dX5_hold_10 : decode cX5_hold 10 = .ok (.aload_n 0, 1) := by decide +kernel
theorem dX5_hold_11 : decode cX5_hold 11 = .ok (.iconst 0, 1) := by decide +kernel
theorem dX5_hold_12 : decode cX5_hold 12 = .ok (.putfield 23, 3) := by decide +kernel
theorem dX5_hold_15 : decode cX5_hold 15 = .ok (.return_, 1) := by decide +kernel
theorem dX5_holdRow_0 : decode cX5_holdRow 0 = .ok (.aload_n 0, 1) := by decide +kernel
theorem dX5_holdRow_1 : decode cX5_holdRow 1 = .ok (.aconst_null, 1) := by decide +kernel
theorem dX5_holdRow_2 : decode cX5_holdRow 2 = .ok (.putfield 19, 3) := by decide +kernel
theorem dX5_holdRow_5 : decode cX5_holdRow 5 = .ok (.aload_n 0, 1) := by decide +kernel
theorem dX5_holdRow_6 : decode cX5_holdRow 6 = .ok (.iload_n 1, 1) := by decide +kernel
theorem dX5_holdRow_7 : decode cX5_holdRow 7 = .ok (.putfield 11, 3) := by decide +kernel
theorem dX5_holdRow_10 : decode cX5_holdRow 10 = .ok (.aload_n 0, 1) := by decide +kernel
theorem dX5_holdRow_11 : decode cX5_holdRow 11 = .ok (.iload_n 2, 1) := by decide +kernel
theorem dX5_holdRow_12 : decode cX5_holdRow 12 = .ok (.putfield 23, 3) := by decide +kernel
theorem dX5_holdRow_15 : decode cX5_holdRow 15 = .ok (.aload_n 0, 1) := by decide +kernel
theorem dX5_holdRow_16 : decode cX5_holdRow 16 = .ok (.getfield 15, 3) := by decide +kernel
theorem dX5_holdRow_19 : decode cX5_holdRow 19 = .ok (.iconst 0, 1) := by decide +kernel
theorem dX5_holdRow_20 : decode cX5_holdRow 20 = .ok (.invokestatic 26, 3) := by decide +kernel
theorem dX5_holdRow_23 : decode cX5_holdRow 23 = .ok (.return_, 1) := by decide +kernel
theorem dX5_holdsNothing_0 : decode cX5_holdsNothing 0 = .ok (.aload_n 0, 1) := by decide +kernel
theorem dX5_holdsNothing_1 : decode cX5_holdsNothing 1 = .ok (.getfield 19, 3) := by decide +kernel
theorem dX5_holdsNothing_4 : decode cX5_holdsNothing 4 = .ok (.ifnonnull 15, 3) := by decide +kernel
theorem dX5_holdsNothing_7 : decode cX5_holdsNothing 7 = .ok (.aload_n 0, 1) := by decide +kernel
theorem dX5_holdsNothing_8 : decode cX5_holdsNothing 8 = .ok (.getfield 11, 3) := by decide +kernel
theorem dX5_holdsNothing_11 : decode cX5_holdsNothing 11 = .ok (.iconst (-1), 1) := by decide +kernel
theorem dX5_holdsNothing_12 : decode cX5_holdsNothing 12 = .ok (.if_icmp .ne 7, 3) := by decide +kernel
theorem dX5_holdsNothing_15 : decode cX5_holdsNothing 15 = .ok (.iconst 1, 1) := by decide +kernel
theorem dX5_holdsNothing_16 : decode cX5_holdsNothing 16 = .ok (.goto 4, 3) := by decide +kernel
theorem dX5_holdsNothing_19 : decode cX5_holdsNothing 19 = .ok (.iconst 0, 1) := by decide +kernel
theorem dX5_holdsNothing_20 : decode cX5_holdsNothing 20 = .ok (.ireturn, 1) := by decide +kernel
theorem dX5_holdsRow_0 : decode cX5_holdsRow 0 = .ok (.aload_n 0, 1) := by decide +kernel
theorem dX5_holdsRow_1 : decode cX5_holdsRow 1 = .ok (.getfield 11, 3) := by decide +kernel
theorem dX5_holdsRow_4 : decode cX5_holdsRow 4 = .ok (.iconst (-1), 1) := by decide +kernel
theorem dX5_holdsRow_5 : decode cX5_holdsRow 5 = .ok (.if_icmp .eq 7, 3) := by decide +kernel
theorem dX5_holdsRow_8 : decode cX5_holdsRow 8 = .ok (.iconst 1, 1) := by decide +kernel
theorem dX5_holdsRow_9 : decode cX5_holdsRow 9 = .ok (.goto 4, 3) := by decide +kernel
theorem dX5_holdsRow_12 : decode cX5_holdsRow 12 = .ok (.iconst 0, 1) := by decide +kernel
theorem dX5_holdsRow_13 : decode cX5_holdsRow 13 = .ok (.ireturn, 1) := by decide +kernel
theorem dX5_refusalAsLaw_0 : decode cX5_refusalAsLaw 0 = .ok (.aload_n 0, 1) := by decide +kernel
theorem dX5_refusalAsLaw_1 : decode cX5_refusalAsLaw 1 = .ok (.invokevirtual 32, 3) := by decide +kernel
theorem dX5_refusalAsLaw_4 : decode cX5_refusalAsLaw 4 = .ok (.ifCond .eq 8, 3) := by decide +kernel
theorem dX5_refusalAsLaw_7 : decode cX5_refusalAsLaw 7 = .ok (.bipush (-11), 2) := by decide +kernel
theorem dX5_refusalAsLaw_9 : decode cX5_refusalAsLaw 9 = .ok (.goto 5, 3) := by decide +kernel
theorem dX5_refusalAsLaw_12 : decode cX5_refusalAsLaw 12 = .ok (.bipush (-12), 2) := by decide +kernel
theorem dX5_refusalAsLaw_14 : decode cX5_refusalAsLaw 14 = .ok (.ireturn, 1) := by decide +kernel
theorem dX5_refusalAsRow_0 : decode cX5_refusalAsRow 0 = .ok (.aload_n 0, 1) := by decide +kernel
theorem dX5_refusalAsRow_1 : decode cX5_refusalAsRow 1 = .ok (.invokevirtual 32, 3) := by decide +kernel
theorem dX5_refusalAsRow_4 : decode cX5_refusalAsRow 4 = .ok (.ifCond .eq 6, 3) := by decide +kernel
theorem dX5_refusalAsRow_7 : decode cX5_refusalAsRow 7 = .ok (.bipush (-11), 2) := by decide +kernel
theorem dX5_refusalAsRow_9 : decode cX5_refusalAsRow 9 = .ok (.ireturn, 1) := by decide +kernel
theorem dX5_refusalAsRow_10 : decode cX5_refusalAsRow 10 = .ok (.aload_n 0, 1) := by decide +kernel
theorem dX5_refusalAsRow_11 : decode cX5_refusalAsRow 11 = .ok (.invokevirtual 36, 3) := by decide +kernel
theorem dX5_refusalAsRow_14 : decode cX5_refusalAsRow 14 = .ok (.ifCond .eq 7, 3) := by decide +kernel
theorem dX5_refusalAsRow_17 : decode cX5_refusalAsRow 17 = .ok (.iconst 0, 1) := by decide +kernel
theorem dX5_refusalAsRow_18 : decode cX5_refusalAsRow 18 = .ok (.goto 5, 3) := by decide +kernel
theorem dX5_refusalAsRow_21 : decode cX5_refusalAsRow 21 = .ok (.bipush (-12), 2) := by decide +kernel
theorem dX5_refusalAsRow_23 : decode cX5_refusalAsRow 23 = .ok (.ireturn, 1) := by decide +kernel
theorem dX5_refusalAsRowOf_0 : decode cX5_refusalAsRowOf 0 = .ok (.aload_n 0, 1) := by decide +kernel
theorem dX5_refusalAsRowOf_1 : decode cX5_refusalAsRowOf 1 = .ok (.invokevirtual 32, 3) := by decide +kernel
theorem dX5_refusalAsRowOf_4 : decode cX5_refusalAsRowOf 4 = .ok (.ifCond .eq 6, 3) := by decide +kernel
theorem dX5_refusalAsRowOf_7 : decode cX5_refusalAsRowOf 7 = .ok (.bipush (-11), 2) := by decide +kernel
theorem dX5_refusalAsRowOf_9 : decode cX5_refusalAsRowOf 9 = .ok (.ireturn, 1) := by decide +kernel
theorem dX5_refusalAsRowOf_10 : decode cX5_refusalAsRowOf 10 = .ok (.aload_n 0, 1) := by decide +kernel
theorem dX5_refusalAsRowOf_11 : decode cX5_refusalAsRowOf 11 = .ok (.getfield 11, 3) := by decide +kernel
theorem dX5_refusalAsRowOf_14 : decode cX5_refusalAsRowOf 14 = .ok (.iload_n 1, 1) := by decide +kernel
theorem dX5_refusalAsRowOf_15 : decode cX5_refusalAsRowOf 15 = .ok (.if_icmp .ne 7, 3) := by decide +kernel
theorem dX5_refusalAsRowOf_18 : decode cX5_refusalAsRowOf 18 = .ok (.iconst 0, 1) := by decide +kernel
theorem dX5_refusalAsRowOf_19 : decode cX5_refusalAsRowOf 19 = .ok (.goto 5, 3) := by decide +kernel
theorem dX5_refusalAsRowOf_22 : decode cX5_refusalAsRowOf 22 = .ok (.bipush (-12), 2) := by decide +kernel
theorem dX5_refusalAsRowOf_24 : decode cX5_refusalAsRowOf 24 = .ok (.ireturn, 1) := by decide +kernel
theorem dX5_hasPlace_0 : decode cX5_hasPlace 0 = .ok (.iload_n 1, 1) := by decide +kernel
theorem dX5_hasPlace_1 : decode cX5_hasPlace 1 = .ok (.ifCond .lt 15, 3) := by decide +kernel
theorem dX5_hasPlace_4 : decode cX5_hasPlace 4 = .ok (.iload_n 1, 1) := by decide +kernel
theorem dX5_hasPlace_5 : decode cX5_hasPlace 5 = .ok (.aload_n 0, 1) := by decide +kernel
theorem dX5_hasPlace_6 : decode cX5_hasPlace 6 = .ok (.getfield 23, 3) := by decide +kernel
theorem dX5_hasPlace_9 : decode cX5_hasPlace 9 = .ok (.if_icmp .ge 7, 3) := by decide +kernel
theorem dX5_hasPlace_12 : decode cX5_hasPlace 12 = .ok (.iconst 1, 1) := by decide +kernel
theorem dX5_hasPlace_13 : decode cX5_hasPlace 13 = .ok (.goto 4, 3) := by decide +kernel
theorem dX5_hasPlace_16 : decode cX5_hasPlace 16 = .ok (.iconst 0, 1) := by decide +kernel
theorem dX5_hasPlace_17 : decode cX5_hasPlace 17 = .ok (.ireturn, 1) := by decide +kernel
theorem dX5_hasPlaces_0 : decode cX5_hasPlaces 0 = .ok (.iload_n 2, 1) := by decide +kernel
theorem dX5_hasPlaces_1 : decode cX5_hasPlaces 1 = .ok (.ifCond .lt 29, 3) := by decide +kernel
theorem dX5_hasPlaces_4 : decode cX5_hasPlaces 4 = .ok (.iload_n 2, 1) := by decide +kernel
theorem dX5_hasPlaces_5 : decode cX5_hasPlaces 5 = .ok (.aload_n 0, 1) := by decide +kernel
theorem dX5_hasPlaces_6 : decode cX5_hasPlaces 6 = .ok (.getfield 23, 3) := by decide +kernel
theorem dX5_hasPlaces_9 : decode cX5_hasPlaces 9 = .ok (.if_icmp .gt 21, 3) := by decide +kernel
theorem dX5_hasPlaces_12 : decode cX5_hasPlaces 12 = .ok (.iload_n 1, 1) := by decide +kernel
theorem dX5_hasPlaces_13 : decode cX5_hasPlaces 13 = .ok (.ifCond .lt 17, 3) := by decide +kernel
theorem dX5_hasPlaces_16 : decode cX5_hasPlaces 16 = .ok (.iload_n 1, 1) := by decide +kernel
theorem dX5_hasPlaces_17 : decode cX5_hasPlaces 17 = .ok (.aload_n 0, 1) := by decide +kernel
theorem dX5_hasPlaces_18 : decode cX5_hasPlaces 18 = .ok (.getfield 23, 3) := by decide +kernel
theorem dX5_hasPlaces_21 : decode cX5_hasPlaces 21 = .ok (.iload_n 2, 1) := by decide +kernel
theorem dX5_hasPlaces_22 : decode cX5_hasPlaces 22 = .ok (.isub, 1) := by decide +kernel
theorem dX5_hasPlaces_23 : decode cX5_hasPlaces 23 = .ok (.if_icmp .gt 7, 3) := by decide +kernel
theorem dX5_hasPlaces_26 : decode cX5_hasPlaces 26 = .ok (.iconst 1, 1) := by decide +kernel
theorem dX5_hasPlaces_27 : decode cX5_hasPlaces 27 = .ok (.goto 4, 3) := by decide +kernel
theorem dX5_hasPlaces_30 : decode cX5_hasPlaces 30 = .ok (.iconst 0, 1) := by decide +kernel
theorem dX5_hasPlaces_31 : decode cX5_hasPlaces 31 = .ok (.ireturn, 1) := by decide +kernel
theorem dX5_at_0 : decode cX5_at 0 = .ok (.aload_n 0, 1) := by decide +kernel
theorem dX5_at_1 : decode cX5_at 1 = .ok (.iload_n 1, 1) := by decide +kernel
theorem dX5_at_2 : decode cX5_at 2 = .ok (.invokevirtual 39, 3) := by decide +kernel
theorem dX5_at_5 : decode cX5_at 5 = .ok (.ifCond .eq 18, 3) := by decide +kernel
theorem dX5_at_8 : decode cX5_at 8 = .ok (.iload_n 1, 1) := by decide +kernel
theorem dX5_at_9 : decode cX5_at 9 = .ok (.bipush 100, 2) := by decide +kernel
theorem dX5_at_11 : decode cX5_at 11 = .ok (.if_icmp .ge 12, 3) := by decide +kernel
theorem dX5_at_14 : decode cX5_at 14 = .ok (.aload_n 0, 1) := by decide +kernel
theorem dX5_at_15 : decode cX5_at 15 = .ok (.getfield 15, 3) := by decide +kernel
theorem dX5_at_18 : decode cX5_at 18 = .ok (.iload_n 1, 1) := by decide +kernel
theorem dX5_at_19 : decode cX5_at 19 = .ok (.iaload, 1) := by decide +kernel
theorem dX5_at_20 : decode cX5_at 20 = .ok (.goto 4, 3) := by decide +kernel
theorem dX5_at_23 : decode cX5_at 23 = .ok (.iconst 0, 1) := by decide +kernel
theorem dX5_at_24 : decode cX5_at 24 = .ok (.ireturn, 1) := by decide +kernel
theorem dX5_set_0 : decode cX5_set 0 = .ok (.aload_n 0, 1) := by decide +kernel
theorem dX5_set_1 : decode cX5_set 1 = .ok (.iload_n 1, 1) := by decide +kernel
theorem dX5_set_2 : decode cX5_set 2 = .ok (.invokevirtual 39, 3) := by decide +kernel
theorem dX5_set_5 : decode cX5_set 5 = .ok (.ifCond .eq 20, 3) := by decide +kernel
theorem dX5_set_8 : decode cX5_set 8 = .ok (.iload_n 1, 1) := by decide +kernel
theorem dX5_set_9 : decode cX5_set 9 = .ok (.bipush 100, 2) := by decide +kernel
theorem dX5_set_11 : decode cX5_set 11 = .ok (.if_icmp .ge 14, 3) := by decide +kernel
theorem dX5_set_14 : decode cX5_set 14 = .ok (.aload_n 0, 1) := by decide +kernel
theorem dX5_set_15 : decode cX5_set 15 = .ok (.getfield 15, 3) := by decide +kernel
theorem dX5_set_18 : decode cX5_set 18 = .ok (.iload_n 1, 1) := by decide +kernel
theorem dX5_set_19 : decode cX5_set 19 = .ok (.aload_n 0, 1) := by decide +kernel
theorem dX5_set_20 : decode cX5_set 20 = .ok (.iload_n 2, 1) := by decide +kernel
theorem dX5_set_21 : decode cX5_set 21 = .ok (.invokevirtual 43, 3) := by decide +kernel
theorem dX5_set_24 : decode cX5_set 24 = .ok (.iastore, 1) := by decide +kernel
theorem dX5_set_25 : decode cX5_set 25 = .ok (.return_, 1) := by decide +kernel
theorem dX5_kept_0 : decode cX5_kept 0 = .ok (.aload_n 0, 1) := by decide +kernel
theorem dX5_kept_1 : decode cX5_kept 1 = .ok (.getfield 11, 3) := by decide +kernel
theorem dX5_kept_4 : decode cX5_kept 4 = .ok (.lookupswitch 34 #[(0, 28), (1, 31)], 28) := by decide +kernel
theorem dX5_kept_32 : decode cX5_kept 32 = .ok (.iload_n 1, 1) := by decide +kernel
theorem dX5_kept_33 : decode cX5_kept 33 = .ok (.i2b, 1) := by decide +kernel
theorem dX5_kept_34 : decode cX5_kept 34 = .ok (.ireturn, 1) := by decide +kernel
theorem dX5_kept_35 : decode cX5_kept 35 = .ok (.iload_n 1, 1) := by decide +kernel
theorem dX5_kept_36 : decode cX5_kept 36 = .ok (.i2s, 1) := by decide +kernel
theorem dX5_kept_37 : decode cX5_kept 37 = .ok (.ireturn, 1) := by decide +kernel
theorem dX5_kept_38 : decode cX5_kept 38 = .ok (.iload_n 1, 1) := by decide +kernel
theorem dX5_kept_39 : decode cX5_kept 39 = .ok (.ireturn, 1) := by decide +kernel
theorem dX5_leastOfSort_0 : decode cX5_leastOfSort 0 = .ok (.aload_n 0, 1) := by decide +kernel
theorem dX5_leastOfSort_1 : decode cX5_leastOfSort 1 = .ok (.getfield 11, 3) := by decide +kernel
theorem dX5_leastOfSort_4 : decode cX5_leastOfSort 4 = .ok (.lookupswitch 35 #[(0, 28), (1, 31)], 28) := by decide +kernel
theorem dX5_leastOfSort_32 : decode cX5_leastOfSort 32 = .ok (.bipush (-128), 2) := by decide +kernel
theorem dX5_leastOfSort_34 : decode cX5_leastOfSort 34 = .ok (.ireturn, 1) := by decide +kernel
theorem dX5_leastOfSort_35 : decode cX5_leastOfSort 35 = .ok (.sipush (-32768), 3) := by decide +kernel
theorem dX5_leastOfSort_38 : decode cX5_leastOfSort 38 = .ok (.ireturn, 1) := by decide +kernel
theorem dX5_leastOfSort_39 : decode cX5_leastOfSort 39 = .ok (.ldc 47, 2) := by decide +kernel
theorem dX5_leastOfSort_41 : decode cX5_leastOfSort 41 = .ok (.ireturn, 1) := by decide +kernel
theorem dX6_init_0 : decode cX6_init 0 = .ok (.aload_n 0, 1) := by decide +kernel
theorem dX6_init_1 : decode cX6_init 1 = .ok (.iload_n 1, 1) := by decide +kernel
theorem dX6_init_2 : decode cX6_init 2 = .ok (.iload_n 2, 1) := by decide +kernel
theorem dX6_init_3 : decode cX6_init 3 = .ok (.invokespecial 1, 3) := by decide +kernel
theorem dX6_init_6 : decode cX6_init 6 = .ok (.return_, 1) := by decide +kernel
theorem dX6_numberFor_0 : decode cX6_numberFor 0 = .ok (.iconst 2, 1) := by decide +kernel
theorem dX6_numberFor_1 : decode cX6_numberFor 1 = .ok (.aload_n 0, 1) := by decide +kernel
theorem dX6_numberFor_2 : decode cX6_numberFor 2 = .ok (.aload_n 1, 1) := by decide +kernel
theorem dX6_numberFor_3 : decode cX6_numberFor 3 = .ok (.iload_n 2, 1) := by decide +kernel
theorem dX6_numberFor_4 : decode cX6_numberFor 4 = .ok (.iload_n 3, 1) := by decide +kernel
theorem dX6_numberFor_5 : decode cX6_numberFor 5 = .ok (.invokespecial 7, 3) := by decide +kernel
theorem dX6_numberFor_8 : decode cX6_numberFor 8 = .ok (.imul, 1) := by decide +kernel
theorem dX6_numberFor_9 : decode cX6_numberFor 9 = .ok (.istore 4, 2) := by decide +kernel
theorem dX6_numberFor_11 : decode cX6_numberFor 11 = .ok (.iload_n 2, 1) := by decide +kernel
theorem dX6_numberFor_12 : decode cX6_numberFor 12 = .ok (.iconst 2, 1) := by decide +kernel
theorem dX6_numberFor_13 : decode cX6_numberFor 13 = .ok (.irem, 1) := by decide +kernel
theorem dX6_numberFor_14 : decode cX6_numberFor 14 = .ok (.ifCond .ne 10, 3) := by decide +kernel
theorem dX6_numberFor_17 : decode cX6_numberFor 17 = .ok (.iload 4, 2) := by decide +kernel
theorem dX6_numberFor_19 : decode cX6_numberFor 19 = .ok (.iconst 1, 1) := by decide +kernel
theorem dX6_numberFor_20 : decode cX6_numberFor 20 = .ok (.isub, 1) := by decide +kernel
theorem dX6_numberFor_21 : decode cX6_numberFor 21 = .ok (.goto 5, 3) := by decide +kernel
theorem dX6_numberFor_24 : decode cX6_numberFor 24 = .ok (.iload 4, 2) := by decide +kernel
theorem dX6_numberFor_26 : decode cX6_numberFor 26 = .ok (.ireturn, 1) := by decide +kernel
theorem dX6_levy_0 : decode cX6_levy 0 = .ok (.aload_n 0, 1) := by decide +kernel
theorem dX6_levy_1 : decode cX6_levy 1 = .ok (.invokespecial 11, 3) := by decide +kernel
theorem dX6_levy_4 : decode cX6_levy 4 = .ok (.aload_n 0, 1) := by decide +kernel
theorem dX6_levy_5 : decode cX6_levy 5 = .ok (.getfield 15, 3) := by decide +kernel
theorem dX6_levy_8 : decode cX6_levy 8 = .ok (.isub, 1) := by decide +kernel
theorem dX6_levy_9 : decode cX6_levy 9 = .ok (.ireturn, 1) := by decide +kernel
theorem dX6_fail_0 : decode cX6_fail 0 = .ok (.aload_n 0, 1) := by decide +kernel
theorem dX6_fail_1 : decode cX6_fail 1 = .ok (.getfield 15, 3) := by decide +kernel
theorem dX6_fail_4 : decode cX6_fail 4 = .ok (.ifCond .eq 13, 3) := by decide +kernel
theorem dX6_fail_7 : decode cX6_fail 7 = .ok (.new 21, 3) := by decide +kernel
theorem dX6_fail_10 : decode cX6_fail 10 = .ok (.dup, 1) := by decide +kernel
theorem dX6_fail_11 : decode cX6_fail 11 = .ok (.ldc 23, 2) := by decide +kernel
theorem dX6_fail_13 : decode cX6_fail 13 = .ok (.invokespecial 25, 3) := by decide +kernel
theorem dX6_fail_16 : decode cX6_fail 16 = .ok (.athrow, 1) := by decide +kernel
theorem dX6_fail_17 : decode cX6_fail 17 = .ok (.return_, 1) := by decide +kernel
theorem dX7_init_0 : decode cX7_init 0 = .ok (.aload_n 0, 1) := by decide +kernel
theorem dX7_init_1 : decode cX7_init 1 = .ok (.iload_n 1, 1) := by decide +kernel
theorem dX7_init_2 : decode cX7_init 2 = .ok (.iload_n 2, 1) := by decide +kernel
theorem dX7_init_3 : decode cX7_init 3 = .ok (.invokespecial 1, 3) := by decide +kernel
theorem dX7_init_6 : decode cX7_init 6 = .ok (.return_, 1) := by decide +kernel
theorem dX7_numberFor_0 : decode cX7_numberFor 0 = .ok (.aload_n 0, 1) := by decide +kernel
theorem dX7_numberFor_1 : decode cX7_numberFor 1 = .ok (.aload_n 1, 1) := by decide +kernel
theorem dX7_numberFor_2 : decode cX7_numberFor 2 = .ok (.iload_n 2, 1) := by decide +kernel
theorem dX7_numberFor_3 : decode cX7_numberFor 3 = .ok (.iload_n 3, 1) := by decide +kernel
theorem dX7_numberFor_4 : decode cX7_numberFor 4 = .ok (.invokespecial 7, 3) := by decide +kernel
theorem dX7_numberFor_7 : decode cX7_numberFor 7 = .ok (.istore 4, 2) := by decide +kernel
theorem dX7_numberFor_9 : decode cX7_numberFor 9 = .ok (.aload_n 0, 1) := by decide +kernel
theorem dX7_numberFor_10 : decode cX7_numberFor 10 = .ok (.getfield 11, 3) := by decide +kernel
theorem dX7_numberFor_13 : decode cX7_numberFor 13 = .ok (.iconst 2, 1) := by decide +kernel
theorem dX7_numberFor_14 : decode cX7_numberFor 14 = .ok (.if_icmp .ge 8, 3) := by decide +kernel
theorem dX7_numberFor_17 : decode cX7_numberFor 17 = .ok (.iload 4, 2) := by decide +kernel
theorem dX7_numberFor_19 : decode cX7_numberFor 19 = .ok (.goto 17, 3) := by decide +kernel
theorem dX7_numberFor_22 : decode cX7_numberFor 22 = .ok (.iload 4, 2) := by decide +kernel
theorem dX7_numberFor_24 : decode cX7_numberFor 24 = .ok (.iload 4, 2) := by decide +kernel
theorem dX7_numberFor_26 : decode cX7_numberFor 26 = .ok (.iconst 1, 1) := by decide +kernel
theorem dX7_numberFor_27 : decode cX7_numberFor 27 = .ok (.isub, 1) := by decide +kernel
theorem dX7_numberFor_28 : decode cX7_numberFor 28 = .ok (.aload_n 0, 1) := by decide +kernel
theorem dX7_numberFor_29 : decode cX7_numberFor 29 = .ok (.getfield 11, 3) := by decide +kernel
theorem dX7_numberFor_32 : decode cX7_numberFor 32 = .ok (.iconst 1, 1) := by decide +kernel
theorem dX7_numberFor_33 : decode cX7_numberFor 33 = .ok (.isub, 1) := by decide +kernel
theorem dX7_numberFor_34 : decode cX7_numberFor 34 = .ok (.idiv, 1) := by decide +kernel
theorem dX7_numberFor_35 : decode cX7_numberFor 35 = .ok (.iadd, 1) := by decide +kernel
theorem dX7_numberFor_36 : decode cX7_numberFor 36 = .ok (.ireturn, 1) := by decide +kernel
theorem dX7_levy_0 : decode cX7_levy 0 = .ok (.aload_n 0, 1) := by decide +kernel
theorem dX7_levy_1 : decode cX7_levy 1 = .ok (.invokespecial 17, 3) := by decide +kernel
theorem dX7_levy_4 : decode cX7_levy 4 = .ok (.iconst 4, 1) := by decide +kernel
theorem dX7_levy_5 : decode cX7_levy 5 = .ok (.iadd, 1) := by decide +kernel
theorem dX7_levy_6 : decode cX7_levy 6 = .ok (.ireturn, 1) := by decide +kernel
theorem dX8_init_0 : decode cX8_init 0 = .ok (.aload_n 0, 1) := by decide +kernel
theorem dX8_init_1 : decode cX8_init 1 = .ok (.invokespecial 3, 3) := by decide +kernel
theorem dX8_init_4 : decode cX8_init 4 = .ok (.aload_n 0, 1) := by decide +kernel
theorem dX8_init_5 : decode cX8_init 5 = .ok (.bipush 12, 2) := by decide +kernel
theorem dX8_init_7 : decode cX8_init 7 = .ok (.newarray .int, 2) := by decide +kernel
theorem dX8_init_9 : decode cX8_init 9 = .ok (.putfield 9, 3) := by decide +kernel
theorem dX8_init_12 : decode cX8_init 12 = .ok (.aload_n 0, 1) := by decide +kernel
theorem dX8_init_13 : decode cX8_init 13 = .ok (.bipush 12, 2) := by decide +kernel
theorem dX8_init_15 : decode cX8_init 15 = .ok (.newarray .int, 2) := by decide +kernel
theorem dX8_init_17 : decode cX8_init 17 = .ok (.putfield 15, 3) := by decide +kernel
theorem dX8_init_20 : decode cX8_init 20 = .ok (.aload_n 0, 1) := by decide +kernel
theorem dX8_init_21 : decode cX8_init 21 = .ok (.bipush 12, 2) := by decide +kernel
theorem dX8_init_23 : decode cX8_init 23 = .ok (.newarray .int, 2) := by decide +kernel
theorem dX8_init_25 : decode cX8_init 25 = .ok (.putfield 18, 3) := by decide +kernel
theorem dX8_init_28 : decode cX8_init 28 = .ok (.aload_n 0, 1) := by decide +kernel
theorem dX8_init_29 : decode cX8_init 29 = .ok (.iconst 3, 1) := by decide +kernel
theorem dX8_init_30 : decode cX8_init 30 = .ok (.newarray .int, 2) := by decide +kernel
theorem dX8_init_32 : decode cX8_init 32 = .ok (.putfield 21, 3) := by decide +kernel
theorem dX8_init_35 : decode cX8_init 35 = .ok (.aload_n 0, 1) := by decide +kernel
theorem dX8_init_36 : decode cX8_init 36 = .ok (.bipush 30, 2) := by decide +kernel
theorem dX8_init_38 : decode cX8_init 38 = .ok (.newarray .int, 2) := by decide +kernel
theorem dX8_init_40 : decode cX8_init 40 = .ok (.putfield 24, 3) := by decide +kernel
theorem dX8_init_43 : decode cX8_init 43 = .ok (.aload_n 0, 1) := by decide +kernel
theorem dX8_init_44 : decode cX8_init 44 = .ok (.bipush 30, 2) := by decide +kernel
theorem dX8_init_46 : decode cX8_init 46 = .ok (.newarray .int, 2) := by decide +kernel
theorem dX8_init_48 : decode cX8_init 48 = .ok (.putfield 27, 3) := by decide +kernel
theorem dX8_init_51 : decode cX8_init 51 = .ok (.aload_n 0, 1) := by decide +kernel
theorem dX8_init_52 : decode cX8_init 52 = .ok (.bipush 12, 2) := by decide +kernel
theorem dX8_init_54 : decode cX8_init 54 = .ok (.newarray .int, 2) := by decide +kernel
theorem dX8_init_56 : decode cX8_init 56 = .ok (.putfield 30, 3) := by decide +kernel
theorem dX8_init_59 : decode cX8_init 59 = .ok (.aload_n 0, 1) := by decide +kernel
theorem dX8_init_60 : decode cX8_init 60 = .ok (.new 33, 3) := by decide +kernel
theorem dX8_init_63 : decode cX8_init 63 = .ok (.dup, 1) := by decide +kernel
theorem dX8_init_64 : decode cX8_init 64 = .ok (.iconst 0, 1) := by decide +kernel
theorem dX8_init_65 : decode cX8_init 65 = .ok (.iconst 0, 1) := by decide +kernel
theorem dX8_init_66 : decode cX8_init 66 = .ok (.invokespecial 35, 3) := by decide +kernel
theorem dX8_init_69 : decode cX8_init 69 = .ok (.putfield 38, 3) := by decide +kernel
theorem dX8_init_72 : decode cX8_init 72 = .ok (.return_, 1) := by decide +kernel
theorem dX8_clear_0 : decode cX8_clear 0 = .ok (.aload_n 0, 1) := by decide +kernel
theorem dX8_clear_1 : decode cX8_clear 1 = .ok (.getfield 9, 3) := by decide +kernel
theorem dX8_clear_4 : decode cX8_clear 4 = .ok (.iconst 0, 1) := by decide +kernel
theorem dX8_clear_5 : decode cX8_clear 5 = .ok (.invokestatic 42, 3) := by decide +kernel
theorem dX8_clear_8 : decode cX8_clear 8 = .ok (.aload_n 0, 1) := by decide +kernel
theorem dX8_clear_9 : decode cX8_clear 9 = .ok (.getfield 21, 3) := by decide +kernel
theorem dX8_clear_12 : decode cX8_clear 12 = .ok (.iconst 0, 1) := by decide +kernel
theorem dX8_clear_13 : decode cX8_clear 13 = .ok (.invokestatic 42, 3) := by decide +kernel
theorem dX8_clear_16 : decode cX8_clear 16 = .ok (.aload_n 0, 1) := by decide +kernel
theorem dX8_clear_17 : decode cX8_clear 17 = .ok (.iconst 0, 1) := by decide +kernel
theorem dX8_clear_18 : decode cX8_clear 18 = .ok (.putfield 48, 3) := by decide +kernel
theorem dX8_clear_21 : decode cX8_clear 21 = .ok (.aload_n 0, 1) := by decide +kernel
theorem dX8_clear_22 : decode cX8_clear 22 = .ok (.iconst 0, 1) := by decide +kernel
theorem dX8_clear_23 : decode cX8_clear 23 = .ok (.putfield 52, 3) := by decide +kernel
theorem dX8_clear_26 : decode cX8_clear 26 = .ok (.aload_n 0, 1) := by decide +kernel
theorem dX8_clear_27 : decode cX8_clear 27 = .ok (.aload_n 1, 1) := by decide +kernel
theorem dX8_clear_28 : decode cX8_clear 28 = .ok (.putfield 38, 3) := by decide +kernel
theorem dX8_clear_31 : decode cX8_clear 31 = .ok (.return_, 1) := by decide +kernel
theorem dX8_become_0 : decode cX8_become 0 = .ok (.aload_n 1, 1) := by decide +kernel
theorem dX8_become_1 : decode cX8_become 1 = .ok (.getfield 9, 3) := by decide +kernel
theorem dX8_become_4 : decode cX8_become 4 = .ok (.iconst 0, 1) := by decide +kernel
theorem dX8_become_5 : decode cX8_become 5 = .ok (.aload_n 0, 1) := by decide +kernel
theorem dX8_become_6 : decode cX8_become 6 = .ok (.getfield 9, 3) := by decide +kernel
theorem dX8_become_9 : decode cX8_become 9 = .ok (.iconst 0, 1) := by decide +kernel
theorem dX8_become_10 : decode cX8_become 10 = .ok (.bipush 12, 2) := by decide +kernel
theorem dX8_become_12 : decode cX8_become 12 = .ok (.invokestatic 55, 3) := by decide +kernel
theorem dX8_become_15 : decode cX8_become 15 = .ok (.aload_n 1, 1) := by decide +kernel
theorem dX8_become_16 : decode cX8_become 16 = .ok (.getfield 15, 3) := by decide +kernel
theorem dX8_become_19 : decode cX8_become 19 = .ok (.iconst 0, 1) := by decide +kernel
theorem dX8_become_20 : decode cX8_become 20 = .ok (.aload_n 0, 1) := by decide +kernel
theorem dX8_become_21 : decode cX8_become 21 = .ok (.getfield 15, 3) := by decide +kernel
theorem dX8_become_24 : decode cX8_become 24 = .ok (.iconst 0, 1) := by decide +kernel
theorem dX8_become_25 : decode cX8_become 25 = .ok (.bipush 12, 2) := by decide +kernel
theorem dX8_become_27 : decode cX8_become 27 = .ok (.invokestatic 55, 3) := by decide +kernel
theorem dX8_become_30 : decode cX8_become 30 = .ok (.aload_n 1, 1) := by decide +kernel
theorem dX8_become_31 : decode cX8_become 31 = .ok (.getfield 18, 3) := by decide +kernel
theorem dX8_become_34 : decode cX8_become 34 = .ok (.iconst 0, 1) := by decide +kernel
theorem dX8_become_35 : decode cX8_become 35 = .ok (.aload_n 0, 1) := by decide +kernel
theorem dX8_become_36 : decode cX8_become 36 = .ok (.getfield 18, 3) := by decide +kernel
theorem dX8_become_39 : decode cX8_become 39 = .ok (.iconst 0, 1) := by decide +kernel
theorem dX8_become_40 : decode cX8_become 40 = .ok (.bipush 12, 2) := by decide +kernel
theorem dX8_become_42 : decode cX8_become 42 = .ok (.invokestatic 55, 3) := by decide +kernel
theorem dX8_become_45 : decode cX8_become 45 = .ok (.aload_n 1, 1) := by decide +kernel
theorem dX8_become_46 : decode cX8_become 46 = .ok (.getfield 21, 3) := by decide +kernel
theorem dX8_become_49 : decode cX8_become 49 = .ok (.iconst 0, 1) := by decide +kernel
theorem dX8_become_50 : decode cX8_become 50 = .ok (.aload_n 0, 1) := by decide +kernel
theorem dX8_become_51 : decode cX8_become 51 = .ok (.getfield 21, 3) := by decide +kernel
theorem dX8_become_54 : decode cX8_become 54 = .ok (.iconst 0, 1) := by decide +kernel
theorem dX8_become_55 : decode cX8_become 55 = .ok (.iconst 3, 1) := by decide +kernel
theorem dX8_become_56 : decode cX8_become 56 = .ok (.invokestatic 55, 3) := by decide +kernel
theorem dX8_become_59 : decode cX8_become 59 = .ok (.aload_n 1, 1) := by decide +kernel
theorem dX8_become_60 : decode cX8_become 60 = .ok (.getfield 24, 3) := by decide +kernel
theorem dX8_become_63 : decode cX8_become 63 = .ok (.iconst 0, 1) := by decide +kernel
theorem dX8_become_64 : decode cX8_become 64 = .ok (.aload_n 0, 1) := by decide +kernel
theorem dX8_become_65 : decode cX8_become 65 = .ok (.getfield 24, 3) := by decide +kernel
theorem dX8_become_68 : decode cX8_become 68 = .ok (.iconst 0, 1) := by decide +kernel
theorem dX8_become_69 : decode cX8_become 69 = .ok (.bipush 30, 2) := by decide +kernel
theorem dX8_become_71 : decode cX8_become 71 = .ok (.invokestatic 55, 3) := by decide +kernel
theorem dX8_become_74 : decode cX8_become 74 = .ok (.aload_n 1, 1) := by decide +kernel
theorem dX8_become_75 : decode cX8_become 75 = .ok (.getfield 27, 3) := by decide +kernel
theorem dX8_become_78 : decode cX8_become 78 = .ok (.iconst 0, 1) := by decide +kernel
theorem dX8_become_79 : decode cX8_become 79 = .ok (.aload_n 0, 1) := by decide +kernel
theorem dX8_become_80 : decode cX8_become 80 = .ok (.getfield 27, 3) := by decide +kernel
theorem dX8_become_83 : decode cX8_become 83 = .ok (.iconst 0, 1) := by decide +kernel
theorem dX8_become_84 : decode cX8_become 84 = .ok (.bipush 30, 2) := by decide +kernel
theorem dX8_become_86 : decode cX8_become 86 = .ok (.invokestatic 55, 3) := by decide +kernel
theorem dX8_become_89 : decode cX8_become 89 = .ok (.aload_n 0, 1) := by decide +kernel
theorem dX8_become_90 : decode cX8_become 90 = .ok (.aload_n 1, 1) := by decide +kernel
theorem dX8_become_91 : decode cX8_become 91 = .ok (.getfield 48, 3) := by decide +kernel
theorem dX8_become_94 : decode cX8_become 94 = .ok (.putfield 48, 3) := by decide +kernel
theorem dX8_become_97 : decode cX8_become 97 = .ok (.aload_n 0, 1) := by decide +kernel
theorem dX8_become_98 : decode cX8_become 98 = .ok (.aload_n 1, 1) := by decide +kernel
theorem dX8_become_99 : decode cX8_become 99 = .ok (.getfield 52, 3) := by decide +kernel
theorem dX8_become_102 : decode cX8_become 102 = .ok (.putfield 52, 3) := by decide +kernel
theorem dX8_become_105 : decode cX8_become 105 = .ok (.aload_n 0, 1) := by decide +kernel
theorem dX8_become_106 : decode cX8_become 106 = .ok (.aload_n 1, 1) := by decide +kernel
theorem dX8_become_107 : decode cX8_become 107 = .ok (.getfield 38, 3) := by decide +kernel
theorem dX8_become_110 : decode cX8_become 110 = .ok (.putfield 38, 3) := by decide +kernel
theorem dX8_become_113 : decode cX8_become 113 = .ok (.return_, 1) := by decide +kernel
theorem dX8_goThrough_0 : decode cX8_goThrough 0 = .ok (.aload_n 0, 1) := by decide +kernel
theorem dX8_goThrough_1 : decode cX8_goThrough 1 = .ok (.aload_n 2, 1) := by decide +kernel
theorem dX8_goThrough_2 : decode cX8_goThrough 2 = .ok (.invokevirtual 61, 3) := by decide +kernel
theorem dX8_goThrough_5 : decode cX8_goThrough 5 = .ok (.iconst 0, 1) := by decide +kernel
theorem dX8_goThrough_6 : decode cX8_goThrough 6 = .ok (.istore_n 3, 1) := by decide +kernel
theorem dX8_goThrough_7 : decode cX8_goThrough 7 = .ok (.iload_n 3, 1) := by decide +kernel
theorem dX8_goThrough_8 : decode cX8_goThrough 8 = .ok (.bipush 30, 2) := by decide +kernel
theorem dX8_goThrough_10 : decode cX8_goThrough 10 = .ok (.if_icmp .ge 57, 3) := by decide +kernel
theorem dX8_goThrough_13 : decode cX8_goThrough 13 = .ok (.iload_n 3, 1) := by decide +kernel
theorem dX8_goThrough_14 : decode cX8_goThrough 14 = .ok (.aload_n 1, 1) := by decide +kernel
theorem dX8_goThrough_15 : decode cX8_goThrough 15 = .ok (.getfield 48, 3) := by decide +kernel
theorem dX8_goThrough_18 : decode cX8_goThrough 18 = .ok (.if_icmp .ge 49, 3) := by decide +kernel
theorem dX8_goThrough_21 : decode cX8_goThrough 21 = .ok (.aload_n 1, 1) := by decide +kernel
theorem dX8_goThrough_22 : decode cX8_goThrough 22 = .ok (.getfield 27, 3) := by decide +kernel
theorem dX8_goThrough_25 : decode cX8_goThrough 25 = .ok (.iload_n 3, 1) := by decide +kernel
theorem dX8_goThrough_26 : decode cX8_goThrough 26 = .ok (.iaload, 1) := by decide +kernel
theorem dX8_goThrough_27 : decode cX8_goThrough 27 = .ok (.ifCond .ne 17, 3) := by decide +kernel
theorem dX8_goThrough_30 : decode cX8_goThrough 30 = .ok (.aload_n 0, 1) := by decide +kernel
theorem dX8_goThrough_31 : decode cX8_goThrough 31 = .ok (.aload_n 1, 1) := by decide +kernel
theorem dX8_goThrough_32 : decode cX8_goThrough 32 = .ok (.getfield 24, 3) := by decide +kernel
theorem dX8_goThrough_35 : decode cX8_goThrough 35 = .ok (.iload_n 3, 1) := by decide +kernel
theorem dX8_goThrough_36 : decode cX8_goThrough 36 = .ok (.iaload, 1) := by decide +kernel
theorem dX8_goThrough_37 : decode cX8_goThrough 37 = .ok (.invokevirtual 65, 3) := by decide +kernel
theorem dX8_goThrough_40 : decode cX8_goThrough 40 = .ok (.pop, 1) := by decide +kernel
theorem dX8_goThrough_41 : decode cX8_goThrough 41 = .ok (.goto 20, 3) := by decide +kernel
theorem dX8_goThrough_44 : decode cX8_goThrough 44 = .ok (.aload_n 0, 1) := by decide +kernel
theorem dX8_goThrough_45 : decode cX8_goThrough 45 = .ok (.aload_n 1, 1) := by decide +kernel
theorem dX8_goThrough_46 : decode cX8_goThrough 46 = .ok (.getfield 24, 3) := by decide +kernel
theorem dX8_goThrough_49 : decode cX8_goThrough 49 = .ok (.iload_n 3, 1) := by decide +kernel
theorem dX8_goThrough_50 : decode cX8_goThrough 50 = .ok (.iaload, 1) := by decide +kernel
theorem dX8_goThrough_51 : decode cX8_goThrough 51 = .ok (.aload_n 1, 1) := by decide +kernel
theorem dX8_goThrough_52 : decode cX8_goThrough 52 = .ok (.getfield 27, 3) := by decide +kernel
theorem dX8_goThrough_55 : decode cX8_goThrough 55 = .ok (.iload_n 3, 1) := by decide +kernel
theorem dX8_goThrough_56 : decode cX8_goThrough 56 = .ok (.iaload, 1) := by decide +kernel
theorem dX8_goThrough_57 : decode cX8_goThrough 57 = .ok (.invokevirtual 69, 3) := by decide +kernel
theorem dX8_goThrough_60 : decode cX8_goThrough 60 = .ok (.pop, 1) := by decide +kernel
theorem dX8_goThrough_61 : decode cX8_goThrough 61 = .ok (.iinc 3 1, 3) := by decide +kernel
theorem dX8_goThrough_64 : decode cX8_goThrough 64 = .ok (.goto (-57), 3) := by decide +kernel
theorem dX8_goThrough_67 : decode cX8_goThrough 67 = .ok (.return_, 1) := by decide +kernel
theorem dX8_raise_0 : decode cX8_raise 0 = .ok (.iload_n 1, 1) := by decide +kernel
theorem dX8_raise_1 : decode cX8_raise 1 = .ok (.invokestatic 73, 3) := by decide +kernel
theorem dX8_raise_4 : decode cX8_raise 4 = .ok (.ifCond .eq 10, 3) := by decide +kernel
theorem dX8_raise_7 : decode cX8_raise 7 = .ok (.iload_n 2, 1) := by decide +kernel
theorem dX8_raise_8 : decode cX8_raise 8 = .ok (.invokestatic 77, 3) := by decide +kernel
theorem dX8_raise_11 : decode cX8_raise 11 = .ok (.ifCond .ne 5, 3) := by decide +kernel
theorem dX8_raise_14 : decode cX8_raise 14 = .ok (.iconst (-1), 1) := by decide +kernel
theorem dX8_raise_15 : decode cX8_raise 15 = .ok (.ireturn, 1) := by decide +kernel
theorem dX8_raise_16 : decode cX8_raise 16 = .ok (.aload_n 0, 1) := by decide +kernel
theorem dX8_raise_17 : decode cX8_raise 17 = .ok (.iload_n 1, 1) := by decide +kernel
theorem dX8_raise_18 : decode cX8_raise 18 = .ok (.invokevirtual 80, 3) := by decide +kernel
theorem dX8_raise_21 : decode cX8_raise 21 = .ok (.ifCond .eq 6, 3) := by decide +kernel
theorem dX8_raise_24 : decode cX8_raise 24 = .ok (.bipush (-3), 2) := by decide +kernel
theorem dX8_raise_26 : decode cX8_raise 26 = .ok (.ireturn, 1) := by decide +kernel
theorem dX8_raise_27 : decode cX8_raise 27 = .ok (.aload_n 0, 1) := by decide +kernel
theorem dX8_raise_28 : decode cX8_raise 28 = .ok (.getfield 48, 3) := by decide +kernel
theorem dX8_raise_31 : decode cX8_raise 31 = .ok (.bipush 30, 2) := by decide +kernel
theorem dX8_raise_33 : decode cX8_raise 33 = .ok (.if_icmp .lt 6, 3) := by decide +kernel
theorem dX8_raise_36 : decode cX8_raise 36 = .ok (.bipush (-2), 2) := by decide +kernel
theorem dX8_raise_38 : decode cX8_raise 38 = .ok (.ireturn, 1) := by decide +kernel
theorem dX8_raise_39 : decode cX8_raise 39 = .ok (.aload_n 0, 1) := by decide +kernel
theorem dX8_raise_40 : decode cX8_raise 40 = .ok (.getfield 38, 3) := by decide +kernel
theorem dX8_raise_43 : decode cX8_raise 43 = .ok (.aload_n 0, 1) := by decide +kernel
theorem dX8_raise_44 : decode cX8_raise 44 = .ok (.iload_n 1, 1) := by decide +kernel
theorem dX8_raise_45 : decode cX8_raise 45 = .ok (.iload_n 2, 1) := by decide +kernel
theorem dX8_raise_46 : decode cX8_raise 46 = .ok (.invokevirtual 83, 3) := by decide +kernel
theorem dX8_raise_49 : decode cX8_raise 49 = .ok (.istore_n 3, 1) := by decide +kernel
theorem dX8_raise_50 : decode cX8_raise 50 = .ok (.aload_n 0, 1) := by decide +kernel
theorem dX8_raise_51 : decode cX8_raise 51 = .ok (.getfield 9, 3) := by decide +kernel
theorem dX8_raise_54 : decode cX8_raise 54 = .ok (.iload_n 1, 1) := by decide +kernel
theorem dX8_raise_55 : decode cX8_raise 55 = .ok (.iload_n 3, 1) := by decide +kernel
theorem dX8_raise_56 : decode cX8_raise 56 = .ok (.iastore, 1) := by decide +kernel
theorem dX8_raise_57 : decode cX8_raise 57 = .ok (.aload_n 0, 1) := by decide +kernel
theorem dX8_raise_58 : decode cX8_raise 58 = .ok (.getfield 15, 3) := by decide +kernel
theorem dX8_raise_61 : decode cX8_raise 61 = .ok (.iload_n 1, 1) := by decide +kernel
theorem dX8_raise_62 : decode cX8_raise 62 = .ok (.iload_n 2, 1) := by decide +kernel
theorem dX8_raise_63 : decode cX8_raise 63 = .ok (.iastore, 1) := by decide +kernel
theorem dX8_raise_64 : decode cX8_raise 64 = .ok (.aload_n 0, 1) := by decide +kernel
theorem dX8_raise_65 : decode cX8_raise 65 = .ok (.getfield 18, 3) := by decide +kernel
theorem dX8_raise_68 : decode cX8_raise 68 = .ok (.iload_n 1, 1) := by decide +kernel
theorem dX8_raise_69 : decode cX8_raise 69 = .ok (.aload_n 0, 1) := by decide +kernel
theorem dX8_raise_70 : decode cX8_raise 70 = .ok (.getfield 48, 3) := by decide +kernel
theorem dX8_raise_73 : decode cX8_raise 73 = .ok (.iastore, 1) := by decide +kernel
theorem dX8_raise_74 : decode cX8_raise 74 = .ok (.aload_n 0, 1) := by decide +kernel
theorem dX8_raise_75 : decode cX8_raise 75 = .ok (.getfield 21, 3) := by decide +kernel
theorem dX8_raise_78 : decode cX8_raise 78 = .ok (.iload_n 1, 1) := by decide +kernel
theorem dX8_raise_79 : decode cX8_raise 79 = .ok (.iconst 4, 1) := by decide +kernel
theorem dX8_raise_80 : decode cX8_raise 80 = .ok (.idiv, 1) := by decide +kernel
theorem dX8_raise_81 : decode cX8_raise 81 = .ok (.dup2, 1) := by decide +kernel
theorem dX8_raise_82 : decode cX8_raise 82 = .ok (.iaload, 1) := by decide +kernel
theorem dX8_raise_83 : decode cX8_raise 83 = .ok (.iconst 1, 1) := by decide +kernel
theorem dX8_raise_84 : decode cX8_raise 84 = .ok (.iadd, 1) := by decide +kernel
theorem dX8_raise_85 : decode cX8_raise 85 = .ok (.iastore, 1) := by decide +kernel
theorem dX8_raise_86 : decode cX8_raise 86 = .ok (.aload_n 0, 1) := by decide +kernel
theorem dX8_raise_87 : decode cX8_raise 87 = .ok (.dup, 1) := by decide +kernel
theorem dX8_raise_88 : decode cX8_raise 88 = .ok (.getfield 52, 3) := by decide +kernel
theorem dX8_raise_91 : decode cX8_raise 91 = .ok (.iconst 1, 1) := by decide +kernel
theorem dX8_raise_92 : decode cX8_raise 92 = .ok (.iadd, 1) := by decide +kernel
theorem dX8_raise_93 : decode cX8_raise 93 = .ok (.putfield 52, 3) := by decide +kernel
theorem dX8_raise_96 : decode cX8_raise 96 = .ok (.aload_n 0, 1) := by decide +kernel
theorem dX8_raise_97 : decode cX8_raise 97 = .ok (.iload_n 1, 1) := by decide +kernel
theorem dX8_raise_98 : decode cX8_raise 98 = .ok (.iload_n 2, 1) := by decide +kernel
theorem dX8_raise_99 : decode cX8_raise 99 = .ok (.invokevirtual 87, 3) := by decide +kernel
theorem dX8_raise_102 : decode cX8_raise 102 = .ok (.iload_n 3, 1) := by decide +kernel
theorem dX8_raise_103 : decode cX8_raise 103 = .ok (.ireturn, 1) := by decide +kernel
theorem dX8_raze_0 : decode cX8_raze 0 = .ok (.iload_n 1, 1) := by decide +kernel
theorem dX8_raze_1 : decode cX8_raze 1 = .ok (.invokestatic 73, 3) := by decide +kernel
theorem dX8_raze_4 : decode cX8_raze 4 = .ok (.ifCond .ne 5, 3) := by decide +kernel
theorem dX8_raze_7 : decode cX8_raze 7 = .ok (.iconst (-1), 1) := by decide +kernel
theorem dX8_raze_8 : decode cX8_raze 8 = .ok (.ireturn, 1) := by decide +kernel
theorem dX8_raze_9 : decode cX8_raze 9 = .ok (.aload_n 0, 1) := by decide +kernel
theorem dX8_raze_10 : decode cX8_raze 10 = .ok (.iload_n 1, 1) := by decide +kernel
theorem dX8_raze_11 : decode cX8_raze 11 = .ok (.invokevirtual 80, 3) := by decide +kernel
theorem dX8_raze_14 : decode cX8_raze 14 = .ok (.ifCond .ne 6, 3) := by decide +kernel
theorem dX8_raze_17 : decode cX8_raze 17 = .ok (.bipush (-3), 2) := by decide +kernel
theorem dX8_raze_19 : decode cX8_raze 19 = .ok (.ireturn, 1) := by decide +kernel
theorem dX8_raze_20 : decode cX8_raze 20 = .ok (.aload_n 0, 1) := by decide +kernel
theorem dX8_raze_21 : decode cX8_raze 21 = .ok (.getfield 48, 3) := by decide +kernel
theorem dX8_raze_24 : decode cX8_raze 24 = .ok (.bipush 30, 2) := by decide +kernel
theorem dX8_raze_26 : decode cX8_raze 26 = .ok (.if_icmp .lt 6, 3) := by decide +kernel
theorem dX8_raze_29 : decode cX8_raze 29 = .ok (.bipush (-2), 2) := by decide +kernel
theorem dX8_raze_31 : decode cX8_raze 31 = .ok (.ireturn, 1) := by decide +kernel
theorem dX8_raze_32 : decode cX8_raze 32 = .ok (.aload_n 0, 1) := by decide +kernel
theorem dX8_raze_33 : decode cX8_raze 33 = .ok (.getfield 9, 3) := by decide +kernel
theorem dX8_raze_36 : decode cX8_raze 36 = .ok (.iload_n 1, 1) := by decide +kernel
theorem dX8_raze_37 : decode cX8_raze 37 = .ok (.iaload, 1) := by decide +kernel
theorem dX8_raze_38 : decode cX8_raze 38 = .ok (.istore_n 2, 1) := by decide +kernel
theorem dX8_raze_39 : decode cX8_raze 39 = .ok (.aload_n 0, 1) := by decide +kernel
theorem dX8_raze_40 : decode cX8_raze 40 = .ok (.getfield 9, 3) := by decide +kernel
theorem dX8_raze_43 : decode cX8_raze 43 = .ok (.iload_n 1, 1) := by decide +kernel
theorem dX8_raze_44 : decode cX8_raze 44 = .ok (.iconst 0, 1) := by decide +kernel
theorem dX8_raze_45 : decode cX8_raze 45 = .ok (.iastore, 1) := by decide +kernel
theorem dX8_raze_46 : decode cX8_raze 46 = .ok (.aload_n 0, 1) := by decide +kernel
theorem dX8_raze_47 : decode cX8_raze 47 = .ok (.iload_n 1, 1) := by decide +kernel
theorem dX8_raze_48 : decode cX8_raze 48 = .ok (.iconst 0, 1) := by decide +kernel
theorem dX8_raze_49 : decode cX8_raze 49 = .ok (.invokevirtual 87, 3) := by decide +kernel
theorem dX8_raze_52 : decode cX8_raze 52 = .ok (.iload_n 2, 1) := by decide +kernel
theorem dX8_raze_53 : decode cX8_raze 53 = .ok (.ireturn, 1) := by decide +kernel
theorem dX8_addEvent_0 : decode cX8_addEvent 0 = .ok (.aload_n 0, 1) := by decide +kernel
theorem dX8_addEvent_1 : decode cX8_addEvent 1 = .ok (.getfield 48, 3) := by decide +kernel
theorem dX8_addEvent_4 : decode cX8_addEvent 4 = .ok (.ifCond .lt 42, 3) := by decide +kernel
theorem dX8_addEvent_7 : decode cX8_addEvent 7 = .ok (.aload_n 0, 1) := by decide +kernel
theorem dX8_addEvent_8 : decode cX8_addEvent 8 = .ok (.getfield 48, 3) := by decide +kernel
theorem dX8_addEvent_11 : decode cX8_addEvent 11 = .ok (.bipush 30, 2) := by decide +kernel
theorem dX8_addEvent_13 : decode cX8_addEvent 13 = .ok (.if_icmp .ge 33, 3) := by decide +kernel
theorem dX8_addEvent_16 : decode cX8_addEvent 16 = .ok (.aload_n 0, 1) := by decide +kernel
theorem dX8_addEvent_17 : decode cX8_addEvent 17 = .ok (.getfield 24, 3) := by decide +kernel
theorem dX8_addEvent_20 : decode cX8_addEvent 20 = .ok (.aload_n 0, 1) := by decide +kernel
theorem dX8_addEvent_21 : decode cX8_addEvent 21 = .ok (.getfield 48, 3) := by decide +kernel
theorem dX8_addEvent_24 : decode cX8_addEvent 24 = .ok (.iload_n 1, 1) := by decide +kernel
theorem dX8_addEvent_25 : decode cX8_addEvent 25 = .ok (.iastore, 1) := by decide +kernel
theorem dX8_addEvent_26 : decode cX8_addEvent 26 = .ok (.aload_n 0, 1) := by decide +kernel
theorem dX8_addEvent_27 : decode cX8_addEvent 27 = .ok (.getfield 27, 3) := by decide +kernel
theorem dX8_addEvent_30 : decode cX8_addEvent 30 = .ok (.aload_n 0, 1) := by decide +kernel
theorem dX8_addEvent_31 : decode cX8_addEvent 31 = .ok (.getfield 48, 3) := by decide +kernel
theorem dX8_addEvent_34 : decode cX8_addEvent 34 = .ok (.iload_n 2, 1) := by decide +kernel
theorem dX8_addEvent_35 : decode cX8_addEvent 35 = .ok (.iastore, 1) := by decide +kernel
theorem dX8_addEvent_36 : decode cX8_addEvent 36 = .ok (.aload_n 0, 1) := by decide +kernel
theorem dX8_addEvent_37 : decode cX8_addEvent 37 = .ok (.dup, 1) := by decide +kernel
theorem dX8_addEvent_38 : decode cX8_addEvent 38 = .ok (.getfield 48, 3) := by decide +kernel
theorem dX8_addEvent_41 : decode cX8_addEvent 41 = .ok (.iconst 1, 1) := by decide +kernel
theorem dX8_addEvent_42 : decode cX8_addEvent 42 = .ok (.iadd, 1) := by decide +kernel
theorem dX8_addEvent_43 : decode cX8_addEvent 43 = .ok (.putfield 48, 3) := by decide +kernel
theorem dX8_addEvent_46 : decode cX8_addEvent 46 = .ok (.return_, 1) := by decide +kernel
theorem dX8_takeBack_0 : decode cX8_takeBack 0 = .ok (.iload_n 1, 1) := by decide +kernel
theorem dX8_takeBack_1 : decode cX8_takeBack 1 = .ok (.invokestatic 73, 3) := by decide +kernel
theorem dX8_takeBack_4 : decode cX8_takeBack 4 = .ok (.ifCond .eq 50, 3) := by decide +kernel
theorem dX8_takeBack_7 : decode cX8_takeBack 7 = .ok (.aload_n 0, 1) := by decide +kernel
theorem dX8_takeBack_8 : decode cX8_takeBack 8 = .ok (.iload_n 1, 1) := by decide +kernel
theorem dX8_takeBack_9 : decode cX8_takeBack 9 = .ok (.invokevirtual 80, 3) := by decide +kernel
theorem dX8_takeBack_12 : decode cX8_takeBack 12 = .ok (.ifCond .eq 42, 3) := by decide +kernel
theorem dX8_takeBack_15 : decode cX8_takeBack 15 = .ok (.aload_n 0, 1) := by decide +kernel
theorem dX8_takeBack_16 : decode cX8_takeBack 16 = .ok (.getfield 9, 3) := by decide +kernel
theorem dX8_takeBack_19 : decode cX8_takeBack 19 = .ok (.iload_n 1, 1) := by decide +kernel
theorem dX8_takeBack_20 : decode cX8_takeBack 20 = .ok (.iconst 0, 1) := by decide +kernel
theorem dX8_takeBack_21 : decode cX8_takeBack 21 = .ok (.iastore, 1) := by decide +kernel
theorem dX8_takeBack_22 : decode cX8_takeBack 22 = .ok (.aload_n 0, 1) := by decide +kernel
theorem dX8_takeBack_23 : decode cX8_takeBack 23 = .ok (.getfield 21, 3) := by decide +kernel
theorem dX8_takeBack_26 : decode cX8_takeBack 26 = .ok (.iload_n 1, 1) := by decide +kernel
theorem dX8_takeBack_27 : decode cX8_takeBack 27 = .ok (.iconst 4, 1) := by decide +kernel
theorem dX8_takeBack_28 : decode cX8_takeBack 28 = .ok (.idiv, 1) := by decide +kernel
theorem dX8_takeBack_29 : decode cX8_takeBack 29 = .ok (.dup2, 1) := by decide +kernel
theorem dX8_takeBack_30 : decode cX8_takeBack 30 = .ok (.iaload, 1) := by decide +kernel
theorem dX8_takeBack_31 : decode cX8_takeBack 31 = .ok (.iconst 1, 1) := by decide +kernel
theorem dX8_takeBack_32 : decode cX8_takeBack 32 = .ok (.isub, 1) := by decide +kernel
theorem dX8_takeBack_33 : decode cX8_takeBack 33 = .ok (.iastore, 1) := by decide +kernel
theorem dX8_takeBack_34 : decode cX8_takeBack 34 = .ok (.aload_n 0, 1) := by decide +kernel
theorem dX8_takeBack_35 : decode cX8_takeBack 35 = .ok (.dup, 1) := by decide +kernel
theorem dX8_takeBack_36 : decode cX8_takeBack 36 = .ok (.getfield 52, 3) := by decide +kernel
theorem dX8_takeBack_39 : decode cX8_takeBack 39 = .ok (.iconst 1, 1) := by decide +kernel
theorem dX8_takeBack_40 : decode cX8_takeBack 40 = .ok (.isub, 1) := by decide +kernel
theorem dX8_takeBack_41 : decode cX8_takeBack 41 = .ok (.putfield 52, 3) := by decide +kernel
theorem dX8_takeBack_44 : decode cX8_takeBack 44 = .ok (.aload_n 0, 1) := by decide +kernel
theorem dX8_takeBack_45 : decode cX8_takeBack 45 = .ok (.dup, 1) := by decide +kernel
theorem dX8_takeBack_46 : decode cX8_takeBack 46 = .ok (.getfield 48, 3) := by decide +kernel
theorem dX8_takeBack_49 : decode cX8_takeBack 49 = .ok (.iconst 1, 1) := by decide +kernel
theorem dX8_takeBack_50 : decode cX8_takeBack 50 = .ok (.isub, 1) := by decide +kernel
theorem dX8_takeBack_51 : decode cX8_takeBack 51 = .ok (.putfield 48, 3) := by decide +kernel
theorem dX8_takeBack_54 : decode cX8_takeBack 54 = .ok (.return_, 1) := by decide +kernel
theorem dX8_hasHouse_0 : decode cX8_hasHouse 0 = .ok (.aload_n 0, 1) := by decide +kernel
theorem dX8_hasHouse_1 : decode cX8_hasHouse 1 = .ok (.iload_n 1, 1) := by decide +kernel
theorem dX8_hasHouse_2 : decode cX8_hasHouse 2 = .ok (.invokevirtual 90, 3) := by decide +kernel
theorem dX8_hasHouse_5 : decode cX8_hasHouse 5 = .ok (.ifCond .eq 7, 3) := by decide +kernel
theorem dX8_hasHouse_8 : decode cX8_hasHouse 8 = .ok (.iconst 1, 1) := by decide +kernel
theorem dX8_hasHouse_9 : decode cX8_hasHouse 9 = .ok (.goto 4, 3) := by decide +kernel
theorem dX8_hasHouse_12 : decode cX8_hasHouse 12 = .ok (.iconst 0, 1) := by decide +kernel
theorem dX8_hasHouse_13 : decode cX8_hasHouse 13 = .ok (.ireturn, 1) := by decide +kernel
theorem dX8_numberAt_0 : decode cX8_numberAt 0 = .ok (.iload_n 1, 1) := by decide +kernel
theorem dX8_numberAt_1 : decode cX8_numberAt 1 = .ok (.invokestatic 73, 3) := by decide +kernel
theorem dX8_numberAt_4 : decode cX8_numberAt 4 = .ok (.ifCond .eq 12, 3) := by decide +kernel
theorem dX8_numberAt_7 : decode cX8_numberAt 7 = .ok (.aload_n 0, 1) := by decide +kernel
theorem dX8_numberAt_8 : decode cX8_numberAt 8 = .ok (.getfield 9, 3) := by decide +kernel
theorem dX8_numberAt_11 : decode cX8_numberAt 11 = .ok (.iload_n 1, 1) := by decide +kernel
theorem dX8_numberAt_12 : decode cX8_numberAt 12 = .ok (.iaload, 1) := by decide +kernel
theorem dX8_numberAt_13 : decode cX8_numberAt 13 = .ok (.goto 4, 3) := by decide +kernel
theorem dX8_numberAt_16 : decode cX8_numberAt 16 = .ok (.iconst 0, 1) := by decide +kernel
theorem dX8_numberAt_17 : decode cX8_numberAt 17 = .ok (.ireturn, 1) := by decide +kernel
theorem dX8_heightAt_0 : decode cX8_heightAt 0 = .ok (.iload_n 1, 1) := by decide +kernel
theorem dX8_heightAt_1 : decode cX8_heightAt 1 = .ok (.invokestatic 73, 3) := by decide +kernel
theorem dX8_heightAt_4 : decode cX8_heightAt 4 = .ok (.ifCond .eq 12, 3) := by decide +kernel
theorem dX8_heightAt_7 : decode cX8_heightAt 7 = .ok (.aload_n 0, 1) := by decide +kernel
theorem dX8_heightAt_8 : decode cX8_heightAt 8 = .ok (.getfield 15, 3) := by decide +kernel
theorem dX8_heightAt_11 : decode cX8_heightAt 11 = .ok (.iload_n 1, 1) := by decide +kernel
theorem dX8_heightAt_12 : decode cX8_heightAt 12 = .ok (.iaload, 1) := by decide +kernel
theorem dX8_heightAt_13 : decode cX8_heightAt 13 = .ok (.goto 4, 3) := by decide +kernel
theorem dX8_heightAt_16 : decode cX8_heightAt 16 = .ok (.iconst 0, 1) := by decide +kernel
theorem dX8_heightAt_17 : decode cX8_heightAt 17 = .ok (.ireturn, 1) := by decide +kernel
theorem dX8_ageAt_0 : decode cX8_ageAt 0 = .ok (.iload_n 1, 1) := by decide +kernel
theorem dX8_ageAt_1 : decode cX8_ageAt 1 = .ok (.invokestatic 73, 3) := by decide +kernel
theorem dX8_ageAt_4 : decode cX8_ageAt 4 = .ok (.ifCond .eq 19, 3) := by decide +kernel
theorem dX8_ageAt_7 : decode cX8_ageAt 7 = .ok (.aload_n 0, 1) := by decide +kernel
theorem dX8_ageAt_8 : decode cX8_ageAt 8 = .ok (.getfield 48, 3) := by decide +kernel
theorem dX8_ageAt_11 : decode cX8_ageAt 11 = .ok (.iconst 1, 1) := by decide +kernel
theorem dX8_ageAt_12 : decode cX8_ageAt 12 = .ok (.isub, 1) := by decide +kernel
theorem dX8_ageAt_13 : decode cX8_ageAt 13 = .ok (.aload_n 0, 1) := by decide +kernel
theorem dX8_ageAt_14 : decode cX8_ageAt 14 = .ok (.getfield 18, 3) := by decide +kernel
theorem dX8_ageAt_17 : decode cX8_ageAt 17 = .ok (.iload_n 1, 1) := by decide +kernel
theorem dX8_ageAt_18 : decode cX8_ageAt 18 = .ok (.iaload, 1) := by decide +kernel
theorem dX8_ageAt_19 : decode cX8_ageAt 19 = .ok (.isub, 1) := by decide +kernel
theorem dX8_ageAt_20 : decode cX8_ageAt 20 = .ok (.goto 4, 3) := by decide +kernel
theorem dX8_ageAt_23 : decode cX8_ageAt 23 = .ok (.iconst 0, 1) := by decide +kernel
theorem dX8_ageAt_24 : decode cX8_ageAt 24 = .ok (.ireturn, 1) := by decide +kernel
theorem dX8_builtInQuarterOf_0 : decode cX8_builtInQuarterOf 0 = .ok (.iload_n 1, 1) := by decide +kernel
theorem dX8_builtInQuarterOf_1 : decode cX8_builtInQuarterOf 1 = .ok (.iconst 4, 1) := by decide +kernel
theorem dX8_builtInQuarterOf_2 : decode cX8_builtInQuarterOf 2 = .ok (.idiv, 1) := by decide +kernel
theorem dX8_builtInQuarterOf_3 : decode cX8_builtInQuarterOf 3 = .ok (.istore_n 2, 1) := by decide +kernel
theorem dX8_builtInQuarterOf_4 : decode cX8_builtInQuarterOf 4 = .ok (.iload_n 2, 1) := by decide +kernel
theorem dX8_builtInQuarterOf_5 : decode cX8_builtInQuarterOf 5 = .ok (.ifCond .lt 17, 3) := by decide +kernel
theorem dX8_builtInQuarterOf_8 : decode cX8_builtInQuarterOf 8 = .ok (.iload_n 2, 1) := by decide +kernel
theorem dX8_builtInQuarterOf_9 : decode cX8_builtInQuarterOf 9 = .ok (.iconst 3, 1) := by decide +kernel
theorem dX8_builtInQuarterOf_10 : decode cX8_builtInQuarterOf 10 = .ok (.if_icmp .ge 12, 3) := by decide +kernel
theorem dX8_builtInQuarterOf_13 : decode cX8_builtInQuarterOf 13 = .ok (.aload_n 0, 1) := by decide +kernel
theorem dX8_builtInQuarterOf_14 : decode cX8_builtInQuarterOf 14 = .ok (.getfield 21, 3) := by decide +kernel
theorem dX8_builtInQuarterOf_17 : decode cX8_builtInQuarterOf 17 = .ok (.iload_n 2, 1) := by decide +kernel
theorem dX8_builtInQuarterOf_18 : decode cX8_builtInQuarterOf 18 = .ok (.iaload, 1) := by decide +kernel
theorem dX8_builtInQuarterOf_19 : decode cX8_builtInQuarterOf 19 = .ok (.goto 4, 3) := by decide +kernel
theorem dX8_builtInQuarterOf_22 : decode cX8_builtInQuarterOf 22 = .ok (.iconst 0, 1) := by decide +kernel
theorem dX8_builtInQuarterOf_23 : decode cX8_builtInQuarterOf 23 = .ok (.ireturn, 1) := by decide +kernel
theorem dX8_plotsWith_0 : decode cX8_plotsWith 0 = .ok (.iconst 0, 1) := by decide +kernel
theorem dX8_plotsWith_1 : decode cX8_plotsWith 1 = .ok (.istore_n 2, 1) := by decide +kernel
theorem dX8_plotsWith_2 : decode cX8_plotsWith 2 = .ok (.iconst 0, 1) := by decide +kernel
theorem dX8_plotsWith_3 : decode cX8_plotsWith 3 = .ok (.istore_n 3, 1) := by decide +kernel
theorem dX8_plotsWith_4 : decode cX8_plotsWith 4 = .ok (.iload_n 3, 1) := by decide +kernel
theorem dX8_plotsWith_5 : decode cX8_plotsWith 5 = .ok (.bipush 12, 2) := by decide +kernel
theorem dX8_plotsWith_7 : decode cX8_plotsWith 7 = .ok (.if_icmp .ge 34, 3) := by decide +kernel
theorem dX8_plotsWith_10 : decode cX8_plotsWith 10 = .ok (.aload_n 0, 1) := by decide +kernel
theorem dX8_plotsWith_11 : decode cX8_plotsWith 11 = .ok (.getfield 9, 3) := by decide +kernel
theorem dX8_plotsWith_14 : decode cX8_plotsWith 14 = .ok (.iload_n 3, 1) := by decide +kernel
theorem dX8_plotsWith_15 : decode cX8_plotsWith 15 = .ok (.iaload, 1) := by decide +kernel
theorem dX8_plotsWith_16 : decode cX8_plotsWith 16 = .ok (.ifCond .eq 19, 3) := by decide +kernel
theorem dX8_plotsWith_19 : decode cX8_plotsWith 19 = .ok (.aload_n 0, 1) := by decide +kernel
theorem dX8_plotsWith_20 : decode cX8_plotsWith 20 = .ok (.getfield 9, 3) := by decide +kernel
theorem dX8_plotsWith_23 : decode cX8_plotsWith 23 = .ok (.iload_n 3, 1) := by decide +kernel
theorem dX8_plotsWith_24 : decode cX8_plotsWith 24 = .ok (.iaload, 1) := by decide +kernel
theorem dX8_plotsWith_25 : decode cX8_plotsWith 25 = .ok (.iload_n 1, 1) := by decide +kernel
theorem dX8_plotsWith_26 : decode cX8_plotsWith 26 = .ok (.if_icmp .ne 9, 3) := by decide +kernel
theorem dX8_plotsWith_29 : decode cX8_plotsWith 29 = .ok (.iload_n 2, 1) := by decide +kernel
theorem dX8_plotsWith_30 : decode cX8_plotsWith 30 = .ok (.iconst 1, 1) := by decide +kernel
theorem dX8_plotsWith_31 : decode cX8_plotsWith 31 = .ok (.iload_n 3, 1) := by decide +kernel
theorem dX8_plotsWith_32 : decode cX8_plotsWith 32 = .ok (.ishl, 1) := by decide +kernel
theorem dX8_plotsWith_33 : decode cX8_plotsWith 33 = .ok (.ior, 1) := by decide +kernel
theorem dX8_plotsWith_34 : decode cX8_plotsWith 34 = .ok (.istore_n 2, 1) := by decide +kernel
theorem dX8_plotsWith_35 : decode cX8_plotsWith 35 = .ok (.iinc 3 1, 3) := by decide +kernel
theorem dX8_plotsWith_38 : decode cX8_plotsWith 38 = .ok (.goto (-34), 3) := by decide +kernel
theorem dX8_plotsWith_41 : decode cX8_plotsWith 41 = .ok (.iload_n 2, 1) := by decide +kernel
theorem dX8_plotsWith_42 : decode cX8_plotsWith 42 = .ok (.ireturn, 1) := by decide +kernel
theorem dX8_houses_0 : decode cX8_houses 0 = .ok (.iconst 0, 1) := by decide +kernel
theorem dX8_houses_1 : decode cX8_houses 1 = .ok (.istore_n 1, 1) := by decide +kernel
theorem dX8_houses_2 : decode cX8_houses 2 = .ok (.iconst 0, 1) := by decide +kernel
theorem dX8_houses_3 : decode cX8_houses 3 = .ok (.istore_n 2, 1) := by decide +kernel
theorem dX8_houses_4 : decode cX8_houses 4 = .ok (.iload_n 2, 1) := by decide +kernel
theorem dX8_houses_5 : decode cX8_houses 5 = .ok (.bipush 12, 2) := by decide +kernel
theorem dX8_houses_7 : decode cX8_houses 7 = .ok (.if_icmp .ge 21, 3) := by decide +kernel
theorem dX8_houses_10 : decode cX8_houses 10 = .ok (.aload_n 0, 1) := by decide +kernel
theorem dX8_houses_11 : decode cX8_houses 11 = .ok (.getfield 9, 3) := by decide +kernel
theorem dX8_houses_14 : decode cX8_houses 14 = .ok (.iload_n 2, 1) := by decide +kernel
theorem dX8_houses_15 : decode cX8_houses 15 = .ok (.iaload, 1) := by decide +kernel
theorem dX8_houses_16 : decode cX8_houses 16 = .ok (.ifCond .eq 6, 3) := by decide +kernel
theorem dX8_houses_19 : decode cX8_houses 19 = .ok (.iinc 1 1, 3) := by decide +kernel
theorem dX8_houses_22 : decode cX8_houses 22 = .ok (.iinc 2 1, 3) := by decide +kernel
theorem dX8_houses_25 : decode cX8_houses 25 = .ok (.goto (-21), 3) := by decide +kernel
theorem dX8_houses_28 : decode cX8_houses 28 = .ok (.iload_n 1, 1) := by decide +kernel
theorem dX8_houses_29 : decode cX8_houses 29 = .ok (.ireturn, 1) := by decide +kernel
theorem dX8_builtAheadOf_0 : decode cX8_builtAheadOf 0 = .ok (.aload_n 0, 1) := by decide +kernel
theorem dX8_builtAheadOf_1 : decode cX8_builtAheadOf 1 = .ok (.iload_n 1, 1) := by decide +kernel
theorem dX8_builtAheadOf_2 : decode cX8_builtAheadOf 2 = .ok (.invokevirtual 93, 3) := by decide +kernel
theorem dX8_builtAheadOf_5 : decode cX8_builtAheadOf 5 = .ok (.istore_n 2, 1) := by decide +kernel
theorem dX8_builtAheadOf_6 : decode cX8_builtAheadOf 6 = .ok (.iconst 0, 1) := by decide +kernel
theorem dX8_builtAheadOf_7 : decode cX8_builtAheadOf 7 = .ok (.istore_n 3, 1) := by decide +kernel
theorem dX8_builtAheadOf_8 : decode cX8_builtAheadOf 8 = .ok (.iconst 0, 1) := by decide +kernel
theorem dX8_builtAheadOf_9 : decode cX8_builtAheadOf 9 = .ok (.istore 4, 2) := by decide +kernel
theorem dX8_builtAheadOf_11 : decode cX8_builtAheadOf 11 = .ok (.iload 4, 2) := by decide +kernel
theorem dX8_builtAheadOf_13 : decode cX8_builtAheadOf 13 = .ok (.bipush 12, 2) := by decide +kernel
theorem dX8_builtAheadOf_15 : decode cX8_builtAheadOf 15 = .ok (.if_icmp .ge 31, 3) := by decide +kernel
theorem dX8_builtAheadOf_18 : decode cX8_builtAheadOf 18 = .ok (.aload_n 0, 1) := by decide +kernel
theorem dX8_builtAheadOf_19 : decode cX8_builtAheadOf 19 = .ok (.iload 4, 2) := by decide +kernel
theorem dX8_builtAheadOf_21 : decode cX8_builtAheadOf 21 = .ok (.invokevirtual 80, 3) := by decide +kernel
theorem dX8_builtAheadOf_24 : decode cX8_builtAheadOf 24 = .ok (.ifCond .eq 16, 3) := by decide +kernel
theorem dX8_builtAheadOf_27 : decode cX8_builtAheadOf 27 = .ok (.aload_n 0, 1) := by decide +kernel
theorem dX8_builtAheadOf_28 : decode cX8_builtAheadOf 28 = .ok (.iload 4, 2) := by decide +kernel
theorem dX8_builtAheadOf_30 : decode cX8_builtAheadOf 30 = .ok (.invokevirtual 93, 3) := by decide +kernel
theorem dX8_builtAheadOf_33 : decode cX8_builtAheadOf 33 = .ok (.iload_n 2, 1) := by decide +kernel
theorem dX8_builtAheadOf_34 : decode cX8_builtAheadOf 34 = .ok (.if_icmp .le 6, 3) := by decide +kernel
theorem dX8_builtAheadOf_37 : decode cX8_builtAheadOf 37 = .ok (.iinc 3 1, 3) := by decide +kernel
theorem dX8_builtAheadOf_40 : decode cX8_builtAheadOf 40 = .ok (.iinc 4 1, 3) := by decide +kernel
theorem dX8_builtAheadOf_43 : decode cX8_builtAheadOf 43 = .ok (.goto (-32), 3) := by decide +kernel
theorem dX8_builtAheadOf_46 : decode cX8_builtAheadOf 46 = .ok (.iload_n 3, 1) := by decide +kernel
theorem dX8_builtAheadOf_47 : decode cX8_builtAheadOf 47 = .ok (.ireturn, 1) := by decide +kernel
theorem dX8_greatest_0 : decode cX8_greatest 0 = .ok (.iconst 0, 1) := by decide +kernel
theorem dX8_greatest_1 : decode cX8_greatest 1 = .ok (.istore_n 1, 1) := by decide +kernel
theorem dX8_greatest_2 : decode cX8_greatest 2 = .ok (.iconst 0, 1) := by decide +kernel
theorem dX8_greatest_3 : decode cX8_greatest 3 = .ok (.istore_n 2, 1) := by decide +kernel
theorem dX8_greatest_4 : decode cX8_greatest 4 = .ok (.iload_n 2, 1) := by decide +kernel
theorem dX8_greatest_5 : decode cX8_greatest 5 = .ok (.bipush 12, 2) := by decide +kernel
theorem dX8_greatest_7 : decode cX8_greatest 7 = .ok (.if_icmp .ge 20, 3) := by decide +kernel
theorem dX8_greatest_10 : decode cX8_greatest 10 = .ok (.iload_n 1, 1) := by decide +kernel
theorem dX8_greatest_11 : decode cX8_greatest 11 = .ok (.aload_n 0, 1) := by decide +kernel
theorem dX8_greatest_12 : decode cX8_greatest 12 = .ok (.getfield 9, 3) := by decide +kernel
theorem dX8_greatest_15 : decode cX8_greatest 15 = .ok (.iload_n 2, 1) := by decide +kernel
theorem dX8_greatest_16 : decode cX8_greatest 16 = .ok (.iaload, 1) := by decide +kernel
theorem dX8_greatest_17 : decode cX8_greatest 17 = .ok (.invokestatic 96, 3) := by decide +kernel
theorem dX8_greatest_20 : decode cX8_greatest 20 = .ok (.istore_n 1, 1) := by decide +kernel
theorem dX8_greatest_21 : decode cX8_greatest 21 = .ok (.iinc 2 1, 3) := by decide +kernel
theorem dX8_greatest_24 : decode cX8_greatest 24 = .ok (.goto (-20), 3) := by decide +kernel
theorem dX8_greatest_27 : decode cX8_greatest 27 = .ok (.iload_n 1, 1) := by decide +kernel
theorem dX8_greatest_28 : decode cX8_greatest 28 = .ok (.ireturn, 1) := by decide +kernel
theorem dX8_leastFree_0 : decode cX8_leastFree 0 = .ok (.iconst 0, 1) := by decide +kernel
theorem dX8_leastFree_1 : decode cX8_leastFree 1 = .ok (.istore_n 1, 1) := by decide +kernel
theorem dX8_leastFree_2 : decode cX8_leastFree 2 = .ok (.iconst 0, 1) := by decide +kernel
theorem dX8_leastFree_3 : decode cX8_leastFree 3 = .ok (.istore_n 2, 1) := by decide +kernel
theorem dX8_leastFree_4 : decode cX8_leastFree 4 = .ok (.iload_n 2, 1) := by decide +kernel
theorem dX8_leastFree_5 : decode cX8_leastFree 5 = .ok (.bipush 12, 2) := by decide +kernel
theorem dX8_leastFree_7 : decode cX8_leastFree 7 = .ok (.if_icmp .ge 31, 3) := by decide +kernel
theorem dX8_leastFree_10 : decode cX8_leastFree 10 = .ok (.aload_n 0, 1) := by decide +kernel
theorem dX8_leastFree_11 : decode cX8_leastFree 11 = .ok (.getfield 9, 3) := by decide +kernel
theorem dX8_leastFree_14 : decode cX8_leastFree 14 = .ok (.iload_n 2, 1) := by decide +kernel
theorem dX8_leastFree_15 : decode cX8_leastFree 15 = .ok (.iaload, 1) := by decide +kernel
theorem dX8_leastFree_16 : decode cX8_leastFree 16 = .ok (.bipush 12, 2) := by decide +kernel
theorem dX8_leastFree_18 : decode cX8_leastFree 18 = .ok (.if_icmp .gt 14, 3) := by decide +kernel
theorem dX8_leastFree_21 : decode cX8_leastFree 21 = .ok (.iload_n 1, 1) := by decide +kernel
theorem dX8_leastFree_22 : decode cX8_leastFree 22 = .ok (.iconst 1, 1) := by decide +kernel
theorem dX8_leastFree_23 : decode cX8_leastFree 23 = .ok (.aload_n 0, 1) := by decide +kernel
theorem dX8_leastFree_24 : decode cX8_leastFree 24 = .ok (.getfield 9, 3) := by decide +kernel
theorem dX8_leastFree_27 : decode cX8_leastFree 27 = .ok (.iload_n 2, 1) := by decide +kernel
theorem dX8_leastFree_28 : decode cX8_leastFree 28 = .ok (.iaload, 1) := by decide +kernel
theorem dX8_leastFree_29 : decode cX8_leastFree 29 = .ok (.ishl, 1) := by decide +kernel
theorem dX8_leastFree_30 : decode cX8_leastFree 30 = .ok (.ior, 1) := by decide +kernel
theorem dX8_leastFree_31 : decode cX8_leastFree 31 = .ok (.istore_n 1, 1) := by decide +kernel
theorem dX8_leastFree_32 : decode cX8_leastFree 32 = .ok (.iinc 2 1, 3) := by decide +kernel
theorem dX8_leastFree_35 : decode cX8_leastFree 35 = .ok (.goto (-31), 3) := by decide +kernel
theorem dX8_leastFree_38 : decode cX8_leastFree 38 = .ok (.iconst 1, 1) := by decide +kernel
theorem dX8_leastFree_39 : decode cX8_leastFree 39 = .ok (.istore_n 2, 1) := by decide +kernel
theorem dX8_leastFree_40 : decode cX8_leastFree 40 = .ok (.iload_n 2, 1) := by decide +kernel
theorem dX8_leastFree_41 : decode cX8_leastFree 41 = .ok (.bipush 12, 2) := by decide +kernel
theorem dX8_leastFree_43 : decode cX8_leastFree 43 = .ok (.if_icmp .gt 19, 3) := by decide +kernel
theorem dX8_leastFree_46 : decode cX8_leastFree 46 = .ok (.iload_n 1, 1) := by decide +kernel
theorem dX8_leastFree_47 : decode cX8_leastFree 47 = .ok (.iconst 1, 1) := by decide +kernel
theorem dX8_leastFree_48 : decode cX8_leastFree 48 = .ok (.iload_n 2, 1) := by decide +kernel
theorem dX8_leastFree_49 : decode cX8_leastFree 49 = .ok (.ishl, 1) := by decide +kernel
theorem dX8_leastFree_50 : decode cX8_leastFree 50 = .ok (.iand, 1) := by decide +kernel
theorem dX8_leastFree_51 : decode cX8_leastFree 51 = .ok (.ifCond .ne 5, 3) := by decide +kernel
theorem dX8_leastFree_54 : decode cX8_leastFree 54 = .ok (.iload_n 2, 1) := by decide +kernel
theorem dX8_leastFree_55 : decode cX8_leastFree 55 = .ok (.ireturn, 1) := by decide +kernel
theorem dX8_leastFree_56 : decode cX8_leastFree 56 = .ok (.iinc 2 1, 3) := by decide +kernel
theorem dX8_leastFree_59 : decode cX8_leastFree 59 = .ok (.goto (-19), 3) := by decide +kernel
theorem dX8_leastFree_62 : decode cX8_leastFree 62 = .ok (.bipush 13, 2) := by decide +kernel
theorem dX8_leastFree_64 : decode cX8_leastFree 64 = .ok (.ireturn, 1) := by decide +kernel
theorem dX8_freeNumbers_0 : decode cX8_freeNumbers 0 = .ok (.aload_n 0, 1) := by decide +kernel
theorem dX8_freeNumbers_1 : decode cX8_freeNumbers 1 = .ok (.invokevirtual 101, 3) := by decide +kernel
theorem dX8_freeNumbers_4 : decode cX8_freeNumbers 4 = .ok (.istore_n 1, 1) := by decide +kernel
theorem dX8_freeNumbers_5 : decode cX8_freeNumbers 5 = .ok (.iconst 0, 1) := by decide +kernel
theorem dX8_freeNumbers_6 : decode cX8_freeNumbers 6 = .ok (.istore_n 2, 1) := by decide +kernel
theorem dX8_freeNumbers_7 : decode cX8_freeNumbers 7 = .ok (.iconst 1, 1) := by decide +kernel
theorem dX8_freeNumbers_8 : decode cX8_freeNumbers 8 = .ok (.istore_n 3, 1) := by decide +kernel
theorem dX8_freeNumbers_9 : decode cX8_freeNumbers 9 = .ok (.iload_n 3, 1) := by decide +kernel
theorem dX8_freeNumbers_10 : decode cX8_freeNumbers 10 = .ok (.iload_n 1, 1) := by decide +kernel
theorem dX8_freeNumbers_11 : decode cX8_freeNumbers 11 = .ok (.if_icmp .ge 20, 3) := by decide +kernel
theorem dX8_freeNumbers_14 : decode cX8_freeNumbers 14 = .ok (.aload_n 0, 1) := by decide +kernel
theorem dX8_freeNumbers_15 : decode cX8_freeNumbers 15 = .ok (.iload_n 3, 1) := by decide +kernel
theorem dX8_freeNumbers_16 : decode cX8_freeNumbers 16 = .ok (.invokevirtual 105, 3) := by decide +kernel
theorem dX8_freeNumbers_19 : decode cX8_freeNumbers 19 = .ok (.ifCond .ne 6, 3) := by decide +kernel
theorem dX8_freeNumbers_22 : decode cX8_freeNumbers 22 = .ok (.iinc 2 1, 3) := by decide +kernel
theorem dX8_freeNumbers_25 : decode cX8_freeNumbers 25 = .ok (.iinc 3 1, 3) := by decide +kernel
theorem dX8_freeNumbers_28 : decode cX8_freeNumbers 28 = .ok (.goto (-19), 3) := by decide +kernel
theorem dX8_freeNumbers_31 : decode cX8_freeNumbers 31 = .ok (.iload_n 2, 1) := by decide +kernel
theorem dX8_freeNumbers_32 : decode cX8_freeNumbers 32 = .ok (.ireturn, 1) := by decide +kernel
theorem dX8_longestRise_0 : decode cX8_longestRise 0 = .ok (.iconst 0, 1) := by decide +kernel
theorem dX8_longestRise_1 : decode cX8_longestRise 1 = .ok (.istore_n 1, 1) := by decide +kernel
theorem dX8_longestRise_2 : decode cX8_longestRise 2 = .ok (.iconst 0, 1) := by decide +kernel
theorem dX8_longestRise_3 : decode cX8_longestRise 3 = .ok (.istore_n 2, 1) := by decide +kernel
theorem dX8_longestRise_4 : decode cX8_longestRise 4 = .ok (.iload_n 2, 1) := by decide +kernel
theorem dX8_longestRise_5 : decode cX8_longestRise 5 = .ok (.bipush 12, 2) := by decide +kernel
theorem dX8_longestRise_7 : decode cX8_longestRise 7 = .ok (.if_icmp .ge 49, 3) := by decide +kernel
theorem dX8_longestRise_10 : decode cX8_longestRise 10 = .ok (.aload_n 0, 1) := by decide +kernel
theorem dX8_longestRise_11 : decode cX8_longestRise 11 = .ok (.getfield 30, 3) := by decide +kernel
theorem dX8_longestRise_14 : decode cX8_longestRise 14 = .ok (.iload_n 2, 1) := by decide +kernel
theorem dX8_longestRise_15 : decode cX8_longestRise 15 = .ok (.iconst 0, 1) := by decide +kernel
theorem dX8_longestRise_16 : decode cX8_longestRise 16 = .ok (.iastore, 1) := by decide +kernel
theorem dX8_longestRise_17 : decode cX8_longestRise 17 = .ok (.aload_n 0, 1) := by decide +kernel
theorem dX8_longestRise_18 : decode cX8_longestRise 18 = .ok (.getfield 9, 3) := by decide +kernel
theorem dX8_longestRise_21 : decode cX8_longestRise 21 = .ok (.iload_n 2, 1) := by decide +kernel
theorem dX8_longestRise_22 : decode cX8_longestRise 22 = .ok (.iaload, 1) := by decide +kernel
theorem dX8_longestRise_23 : decode cX8_longestRise 23 = .ok (.ifCond .eq 16, 3) := by decide +kernel
theorem dX8_longestRise_26 : decode cX8_longestRise 26 = .ok (.aload_n 0, 1) := by decide +kernel
theorem dX8_longestRise_27 : decode cX8_longestRise 27 = .ok (.getfield 30, 3) := by decide +kernel
theorem dX8_longestRise_30 : decode cX8_longestRise 30 = .ok (.iload_n 2, 1) := by decide +kernel
theorem dX8_longestRise_31 : decode cX8_longestRise 31 = .ok (.iconst 1, 1) := by decide +kernel
theorem dX8_longestRise_32 : decode cX8_longestRise 32 = .ok (.aload_n 0, 1) := by decide +kernel
theorem dX8_longestRise_33 : decode cX8_longestRise 33 = .ok (.iload_n 2, 1) := by decide +kernel
theorem dX8_longestRise_34 : decode cX8_longestRise 34 = .ok (.invokevirtual 108, 3) := by decide +kernel
theorem dX8_longestRise_37 : decode cX8_longestRise 37 = .ok (.iadd, 1) := by decide +kernel
theorem dX8_longestRise_38 : decode cX8_longestRise 38 = .ok (.iastore, 1) := by decide +kernel
theorem dX8_longestRise_39 : decode cX8_longestRise 39 = .ok (.iload_n 1, 1) := by decide +kernel
theorem dX8_longestRise_40 : decode cX8_longestRise 40 = .ok (.aload_n 0, 1) := by decide +kernel
theorem dX8_longestRise_41 : decode cX8_longestRise 41 = .ok (.getfield 30, 3) := by decide +kernel
theorem dX8_longestRise_44 : decode cX8_longestRise 44 = .ok (.iload_n 2, 1) := by decide +kernel
theorem dX8_longestRise_45 : decode cX8_longestRise 45 = .ok (.iaload, 1) := by decide +kernel
theorem dX8_longestRise_46 : decode cX8_longestRise 46 = .ok (.invokestatic 96, 3) := by decide +kernel
theorem dX8_longestRise_49 : decode cX8_longestRise 49 = .ok (.istore_n 1, 1) := by decide +kernel
theorem dX8_longestRise_50 : decode cX8_longestRise 50 = .ok (.iinc 2 1, 3) := by decide +kernel
theorem dX8_longestRise_53 : decode cX8_longestRise 53 = .ok (.goto (-49), 3) := by decide +kernel
theorem dX8_longestRise_56 : decode cX8_longestRise 56 = .ok (.iload_n 1, 1) := by decide +kernel
theorem dX8_longestRise_57 : decode cX8_longestRise 57 = .ok (.ireturn, 1) := by decide +kernel
theorem dX8_longestRiseBelow_0 : decode cX8_longestRiseBelow 0 = .ok (.iconst 0, 1) := by decide +kernel
theorem dX8_longestRiseBelow_1 : decode cX8_longestRiseBelow 1 = .ok (.istore_n 2, 1) := by decide +kernel
theorem dX8_longestRiseBelow_2 : decode cX8_longestRiseBelow 2 = .ok (.iconst 0, 1) := by decide +kernel
theorem dX8_longestRiseBelow_3 : decode cX8_longestRiseBelow 3 = .ok (.istore_n 3, 1) := by decide +kernel
theorem dX8_longestRiseBelow_4 : decode cX8_longestRiseBelow 4 = .ok (.iload_n 3, 1) := by decide +kernel
theorem dX8_longestRiseBelow_5 : decode cX8_longestRiseBelow 5 = .ok (.iload_n 1, 1) := by decide +kernel
theorem dX8_longestRiseBelow_6 : decode cX8_longestRiseBelow 6 = .ok (.if_icmp .ge 40, 3) := by decide +kernel
theorem dX8_longestRiseBelow_9 : decode cX8_longestRiseBelow 9 = .ok (.iload_n 3, 1) := by decide +kernel
theorem dX8_longestRiseBelow_10 : decode cX8_longestRiseBelow 10 = .ok (.bipush 12, 2) := by decide +kernel
theorem dX8_longestRiseBelow_12 : decode cX8_longestRiseBelow 12 = .ok (.if_icmp .ge 34, 3) := by decide +kernel
theorem dX8_longestRiseBelow_15 : decode cX8_longestRiseBelow 15 = .ok (.aload_n 0, 1) := by decide +kernel
theorem dX8_longestRiseBelow_16 : decode cX8_longestRiseBelow 16 = .ok (.getfield 9, 3) := by decide +kernel
theorem dX8_longestRiseBelow_19 : decode cX8_longestRiseBelow 19 = .ok (.iload_n 3, 1) := by decide +kernel
theorem dX8_longestRiseBelow_20 : decode cX8_longestRiseBelow 20 = .ok (.iaload, 1) := by decide +kernel
theorem dX8_longestRiseBelow_21 : decode cX8_longestRiseBelow 21 = .ok (.aload_n 0, 1) := by decide +kernel
theorem dX8_longestRiseBelow_22 : decode cX8_longestRiseBelow 22 = .ok (.iload_n 1, 1) := by decide +kernel
theorem dX8_longestRiseBelow_23 : decode cX8_longestRiseBelow 23 = .ok (.invokevirtual 90, 3) := by decide +kernel
theorem dX8_longestRiseBelow_26 : decode cX8_longestRiseBelow 26 = .ok (.if_icmp .ge 14, 3) := by decide +kernel
theorem dX8_longestRiseBelow_29 : decode cX8_longestRiseBelow 29 = .ok (.iload_n 2, 1) := by decide +kernel
theorem dX8_longestRiseBelow_30 : decode cX8_longestRiseBelow 30 = .ok (.aload_n 0, 1) := by decide +kernel
theorem dX8_longestRiseBelow_31 : decode cX8_longestRiseBelow 31 = .ok (.getfield 30, 3) := by decide +kernel
theorem dX8_longestRiseBelow_34 : decode cX8_longestRiseBelow 34 = .ok (.iload_n 3, 1) := by decide +kernel
theorem dX8_longestRiseBelow_35 : decode cX8_longestRiseBelow 35 = .ok (.iaload, 1) := by decide +kernel
theorem dX8_longestRiseBelow_36 : decode cX8_longestRiseBelow 36 = .ok (.invokestatic 96, 3) := by decide +kernel
theorem dX8_longestRiseBelow_39 : decode cX8_longestRiseBelow 39 = .ok (.istore_n 2, 1) := by decide +kernel
theorem dX8_longestRiseBelow_40 : decode cX8_longestRiseBelow 40 = .ok (.iinc 3 1, 3) := by decide +kernel
theorem dX8_longestRiseBelow_43 : decode cX8_longestRiseBelow 43 = .ok (.goto (-39), 3) := by decide +kernel
theorem dX8_longestRiseBelow_46 : decode cX8_longestRiseBelow 46 = .ok (.iload_n 2, 1) := by decide +kernel
theorem dX8_longestRiseBelow_47 : decode cX8_longestRiseBelow 47 = .ok (.ireturn, 1) := by decide +kernel
theorem dX8_pairsNotRising_0 : decode cX8_pairsNotRising 0 = .ok (.iconst 0, 1) := by decide +kernel
theorem dX8_pairsNotRising_1 : decode cX8_pairsNotRising 1 = .ok (.istore_n 1, 1) := by decide +kernel
theorem dX8_pairsNotRising_2 : decode cX8_pairsNotRising 2 = .ok (.iconst 0, 1) := by decide +kernel
theorem dX8_pairsNotRising_3 : decode cX8_pairsNotRising 3 = .ok (.istore_n 2, 1) := by decide +kernel
theorem dX8_pairsNotRising_4 : decode cX8_pairsNotRising 4 = .ok (.iconst 0, 1) := by decide +kernel
theorem dX8_pairsNotRising_5 : decode cX8_pairsNotRising 5 = .ok (.istore_n 3, 1) := by decide +kernel
theorem dX8_pairsNotRising_6 : decode cX8_pairsNotRising 6 = .ok (.iload_n 3, 1) := by decide +kernel
theorem dX8_pairsNotRising_7 : decode cX8_pairsNotRising 7 = .ok (.bipush 12, 2) := by decide +kernel
theorem dX8_pairsNotRising_9 : decode cX8_pairsNotRising 9 = .ok (.if_icmp .ge 38, 3) := by decide +kernel
theorem dX8_pairsNotRising_12 : decode cX8_pairsNotRising 12 = .ok (.aload_n 0, 1) := by decide +kernel
theorem dX8_pairsNotRising_13 : decode cX8_pairsNotRising 13 = .ok (.getfield 9, 3) := by decide +kernel
theorem dX8_pairsNotRising_16 : decode cX8_pairsNotRising 16 = .ok (.iload_n 3, 1) := by decide +kernel
theorem dX8_pairsNotRising_17 : decode cX8_pairsNotRising 17 = .ok (.iaload, 1) := by decide +kernel
theorem dX8_pairsNotRising_18 : decode cX8_pairsNotRising 18 = .ok (.ifCond .eq 23, 3) := by decide +kernel
theorem dX8_pairsNotRising_21 : decode cX8_pairsNotRising 21 = .ok (.aload_n 0, 1) := by decide +kernel
theorem dX8_pairsNotRising_22 : decode cX8_pairsNotRising 22 = .ok (.getfield 9, 3) := by decide +kernel
theorem dX8_pairsNotRising_25 : decode cX8_pairsNotRising 25 = .ok (.iload_n 3, 1) := by decide +kernel
theorem dX8_pairsNotRising_26 : decode cX8_pairsNotRising 26 = .ok (.iaload, 1) := by decide +kernel
theorem dX8_pairsNotRising_27 : decode cX8_pairsNotRising 27 = .ok (.iload_n 2, 1) := by decide +kernel
theorem dX8_pairsNotRising_28 : decode cX8_pairsNotRising 28 = .ok (.if_icmp .gt 6, 3) := by decide +kernel
theorem dX8_pairsNotRising_31 : decode cX8_pairsNotRising 31 = .ok (.iinc 1 1, 3) := by decide +kernel
theorem dX8_pairsNotRising_34 : decode cX8_pairsNotRising 34 = .ok (.aload_n 0, 1) := by decide +kernel
theorem dX8_pairsNotRising_35 : decode cX8_pairsNotRising 35 = .ok (.getfield 9, 3) := by decide +kernel
theorem dX8_pairsNotRising_38 : decode cX8_pairsNotRising 38 = .ok (.iload_n 3, 1) := by decide +kernel
theorem dX8_pairsNotRising_39 : decode cX8_pairsNotRising 39 = .ok (.iaload, 1) := by decide +kernel
theorem dX8_pairsNotRising_40 : decode cX8_pairsNotRising 40 = .ok (.istore_n 2, 1) := by decide +kernel
theorem dX8_pairsNotRising_41 : decode cX8_pairsNotRising 41 = .ok (.iinc 3 1, 3) := by decide +kernel
theorem dX8_pairsNotRising_44 : decode cX8_pairsNotRising 44 = .ok (.goto (-38), 3) := by decide +kernel
theorem dX8_pairsNotRising_47 : decode cX8_pairsNotRising 47 = .ok (.iload_n 1, 1) := by decide +kernel
theorem dX8_pairsNotRising_48 : decode cX8_pairsNotRising 48 = .ok (.ireturn, 1) := by decide +kernel
theorem dX8_hasNumbersOf_0 : decode cX8_hasNumbersOf 0 = .ok (.iconst 0, 1) := by decide +kernel
theorem dX8_hasNumbersOf_1 : decode cX8_hasNumbersOf 1 = .ok (.istore_n 2, 1) := by decide +kernel
theorem dX8_hasNumbersOf_2 : decode cX8_hasNumbersOf 2 = .ok (.iload_n 2, 1) := by decide +kernel
theorem dX8_hasNumbersOf_3 : decode cX8_hasNumbersOf 3 = .ok (.bipush 12, 2) := by decide +kernel
theorem dX8_hasNumbersOf_5 : decode cX8_hasNumbersOf 5 = .ok (.if_icmp .ge 26, 3) := by decide +kernel
theorem dX8_hasNumbersOf_8 : decode cX8_hasNumbersOf 8 = .ok (.aload_n 0, 1) := by decide +kernel
theorem dX8_hasNumbersOf_9 : decode cX8_hasNumbersOf 9 = .ok (.getfield 9, 3) := by decide +kernel
theorem dX8_hasNumbersOf_12 : decode cX8_hasNumbersOf 12 = .ok (.iload_n 2, 1) := by decide +kernel
theorem dX8_hasNumbersOf_13 : decode cX8_hasNumbersOf 13 = .ok (.iaload, 1) := by decide +kernel
theorem dX8_hasNumbersOf_14 : decode cX8_hasNumbersOf 14 = .ok (.aload_n 1, 1) := by decide +kernel
theorem dX8_hasNumbersOf_15 : decode cX8_hasNumbersOf 15 = .ok (.getfield 9, 3) := by decide +kernel
theorem dX8_hasNumbersOf_18 : decode cX8_hasNumbersOf 18 = .ok (.iload_n 2, 1) := by decide +kernel
theorem dX8_hasNumbersOf_19 : decode cX8_hasNumbersOf 19 = .ok (.iaload, 1) := by decide +kernel
theorem dX8_hasNumbersOf_20 : decode cX8_hasNumbersOf 20 = .ok (.if_icmp .eq 5, 3) := by decide +kernel
theorem dX8_hasNumbersOf_23 : decode cX8_hasNumbersOf 23 = .ok (.iconst 0, 1) := by decide +kernel
theorem dX8_hasNumbersOf_24 : decode cX8_hasNumbersOf 24 = .ok (.ireturn, 1) := by decide +kernel
theorem dX8_hasNumbersOf_25 : decode cX8_hasNumbersOf 25 = .ok (.iinc 2 1, 3) := by decide +kernel
theorem dX8_hasNumbersOf_28 : decode cX8_hasNumbersOf 28 = .ok (.goto (-26), 3) := by decide +kernel
theorem dX8_hasNumbersOf_31 : decode cX8_hasNumbersOf 31 = .ok (.iconst 1, 1) := by decide +kernel
theorem dX8_hasNumbersOf_32 : decode cX8_hasNumbersOf 32 = .ok (.ireturn, 1) := by decide +kernel
theorem dX8_canRaiseAs_0 : decode cX8_canRaiseAs 0 = .ok (.aload_n 1, 1) := by decide +kernel
theorem dX8_canRaiseAs_1 : decode cX8_canRaiseAs 1 = .ok (.iload_n 2, 1) := by decide +kernel
theorem dX8_canRaiseAs_2 : decode cX8_canRaiseAs 2 = .ok (.invokevirtual 80, 3) := by decide +kernel
theorem dX8_canRaiseAs_5 : decode cX8_canRaiseAs 5 = .ok (.ifCond .eq 37, 3) := by decide +kernel
theorem dX8_canRaiseAs_8 : decode cX8_canRaiseAs 8 = .ok (.aload_n 0, 1) := by decide +kernel
theorem dX8_canRaiseAs_9 : decode cX8_canRaiseAs 9 = .ok (.iload_n 2, 1) := by decide +kernel
theorem dX8_canRaiseAs_10 : decode cX8_canRaiseAs 10 = .ok (.invokevirtual 80, 3) := by decide +kernel
theorem dX8_canRaiseAs_13 : decode cX8_canRaiseAs 13 = .ok (.ifCond .ne 29, 3) := by decide +kernel
theorem dX8_canRaiseAs_16 : decode cX8_canRaiseAs 16 = .ok (.aload_n 0, 1) := by decide +kernel
theorem dX8_canRaiseAs_17 : decode cX8_canRaiseAs 17 = .ok (.getfield 38, 3) := by decide +kernel
theorem dX8_canRaiseAs_20 : decode cX8_canRaiseAs 20 = .ok (.aload_n 0, 1) := by decide +kernel
theorem dX8_canRaiseAs_21 : decode cX8_canRaiseAs 21 = .ok (.iload_n 2, 1) := by decide +kernel
theorem dX8_canRaiseAs_22 : decode cX8_canRaiseAs 22 = .ok (.aload_n 1, 1) := by decide +kernel
theorem dX8_canRaiseAs_23 : decode cX8_canRaiseAs 23 = .ok (.iload_n 2, 1) := by decide +kernel
theorem dX8_canRaiseAs_24 : decode cX8_canRaiseAs 24 = .ok (.invokevirtual 111, 3) := by decide +kernel
theorem dX8_canRaiseAs_27 : decode cX8_canRaiseAs 27 = .ok (.invokevirtual 83, 3) := by decide +kernel
theorem dX8_canRaiseAs_30 : decode cX8_canRaiseAs 30 = .ok (.aload_n 1, 1) := by decide +kernel
theorem dX8_canRaiseAs_31 : decode cX8_canRaiseAs 31 = .ok (.iload_n 2, 1) := by decide +kernel
theorem dX8_canRaiseAs_32 : decode cX8_canRaiseAs 32 = .ok (.invokevirtual 90, 3) := by decide +kernel
theorem dX8_canRaiseAs_35 : decode cX8_canRaiseAs 35 = .ok (.if_icmp .ne 7, 3) := by decide +kernel
theorem dX8_canRaiseAs_38 : decode cX8_canRaiseAs 38 = .ok (.iconst 1, 1) := by decide +kernel
theorem dX8_canRaiseAs_39 : decode cX8_canRaiseAs 39 = .ok (.goto 4, 3) := by decide +kernel
theorem dX8_canRaiseAs_42 : decode cX8_canRaiseAs 42 = .ok (.iconst 0, 1) := by decide +kernel
theorem dX8_canRaiseAs_43 : decode cX8_canRaiseAs 43 = .ok (.ireturn, 1) := by decide +kernel
theorem dX9_init_0 : decode cX9_init 0 = .ok (.aload_n 0, 1) := by decide +kernel
theorem dX9_init_1 : decode cX9_init 1 = .ok (.iload_n 1, 1) := by decide +kernel
theorem dX9_init_2 : decode cX9_init 2 = .ok (.iload_n 2, 1) := by decide +kernel
theorem dX9_init_3 : decode cX9_init 3 = .ok (.invokespecial 1, 3) := by decide +kernel
theorem dX9_init_6 : decode cX9_init 6 = .ok (.return_, 1) := by decide +kernel
theorem dX9_numberFor_0 : decode cX9_numberFor 0 = .ok (.iconst 2, 1) := by decide +kernel
theorem dX9_numberFor_1 : decode cX9_numberFor 1 = .ok (.aload_n 0, 1) := by decide +kernel
theorem dX9_numberFor_2 : decode cX9_numberFor 2 = .ok (.aload_n 1, 1) := by decide +kernel
theorem dX9_numberFor_3 : decode cX9_numberFor 3 = .ok (.iload_n 2, 1) := by decide +kernel
theorem dX9_numberFor_4 : decode cX9_numberFor 4 = .ok (.iload_n 3, 1) := by decide +kernel
theorem dX9_numberFor_5 : decode cX9_numberFor 5 = .ok (.invokespecial 7, 3) := by decide +kernel
theorem dX9_numberFor_8 : decode cX9_numberFor 8 = .ok (.imul, 1) := by decide +kernel
theorem dX9_numberFor_9 : decode cX9_numberFor 9 = .ok (.ireturn, 1) := by decide +kernel
theorem dX9_fail_0 : decode cX9_fail 0 = .ok (.return_, 1) := by decide +kernel
theorem dX10_init_0 : decode cX10_init 0 = .ok (.aload_n 0, 1) := by decide +kernel
theorem dX10_init_1 : decode cX10_init 1 = .ok (.invokespecial 3, 3) := by decide +kernel
theorem dX10_init_4 : decode cX10_init 4 = .ok (.aload_n 0, 1) := by decide +kernel
theorem dX10_init_5 : decode cX10_init 5 = .ok (.new 9, 3) := by decide +kernel
theorem dX10_init_8 : decode cX10_init 8 = .ok (.dup, 1) := by decide +kernel
theorem dX10_init_9 : decode cX10_init 9 = .ok (.invokespecial 11, 3) := by decide +kernel
theorem dX10_init_12 : decode cX10_init 12 = .ok (.putfield 12, 3) := by decide +kernel
theorem dX10_init_15 : decode cX10_init 15 = .ok (.aload_n 0, 1) := by decide +kernel
theorem dX10_init_16 : decode cX10_init 16 = .ok (.new 9, 3) := by decide +kernel
theorem dX10_init_19 : decode cX10_init 19 = .ok (.dup, 1) := by decide +kernel
theorem dX10_init_20 : decode cX10_init 20 = .ok (.invokespecial 11, 3) := by decide +kernel
theorem dX10_init_23 : decode cX10_init 23 = .ok (.putfield 16, 3) := by decide +kernel
theorem dX10_init_26 : decode cX10_init 26 = .ok (.aload_n 0, 1) := by decide +kernel
theorem dX10_init_27 : decode cX10_init 27 = .ok (.new 9, 3) := by decide +kernel
theorem dX10_init_30 : decode cX10_init 30 = .ok (.dup, 1) := by decide +kernel
theorem dX10_init_31 : decode cX10_init 31 = .ok (.invokespecial 11, 3) := by decide +kernel
theorem dX10_init_34 : decode cX10_init 34 = .ok (.putfield 19, 3) := by decide +kernel
theorem dX10_init_37 : decode cX10_init 37 = .ok (.aload_n 0, 1) := by decide +kernel
theorem dX10_init_38 : decode cX10_init 38 = .ok (.bipush 8, 2) := by decide +kernel
theorem dX10_init_40 : decode cX10_init 40 = .ok (.anewarray 22, 3) := by decide +kernel
theorem dX10_init_43 : decode cX10_init 43 = .ok (.putfield 24, 3) := by decide +kernel
theorem dX10_init_46 : decode cX10_init 46 = .ok (.iconst 0, 1) := by decide +kernel
theorem dX10_init_47 : decode cX10_init 47 = .ok (.istore_n 1, 1) := by decide +kernel
theorem dX10_init_48 : decode cX10_init 48 = .ok (.iload_n 1, 1) := by decide +kernel
theorem dX10_init_49 : decode cX10_init 49 = .ok (.aload_n 0, 1) := by decide +kernel
theorem dX10_init_50 : decode cX10_init 50 = .ok (.getfield 24, 3) := by decide +kernel
theorem dX10_init_53 : decode cX10_init 53 = .ok (.arraylength, 1) := by decide +kernel
theorem dX10_init_54 : decode cX10_init 54 = .ok (.if_icmp .ge 22, 3) := by decide +kernel
theorem dX10_init_57 : decode cX10_init 57 = .ok (.aload_n 0, 1) := by decide +kernel
theorem dX10_init_58 : decode cX10_init 58 = .ok (.getfield 24, 3) := by decide +kernel
theorem dX10_init_61 : decode cX10_init 61 = .ok (.iload_n 1, 1) := by decide +kernel
theorem dX10_init_62 : decode cX10_init 62 = .ok (.new 22, 3) := by decide +kernel
theorem dX10_init_65 : decode cX10_init 65 = .ok (.dup, 1) := by decide +kernel
theorem dX10_init_66 : decode cX10_init 66 = .ok (.invokespecial 28, 3) := by decide +kernel
theorem dX10_init_69 : decode cX10_init 69 = .ok (.aastore, 1) := by decide +kernel
theorem dX10_init_70 : decode cX10_init 70 = .ok (.iinc 1 1, 3) := by decide +kernel
theorem dX10_init_73 : decode cX10_init 73 = .ok (.goto (-25), 3) := by decide +kernel
theorem dX10_init_76 : decode cX10_init 76 = .ok (.return_, 1) := by decide +kernel
theorem dX10_street_0 : decode cX10_street 0 = .ok (.aload_n 0, 1) := by decide +kernel
theorem dX10_street_1 : decode cX10_street 1 = .ok (.iload_n 1, 1) := by decide +kernel
theorem dX10_street_2 : decode cX10_street 2 = .ok (.invokevirtual 29, 3) := by decide +kernel
theorem dX10_street_5 : decode cX10_street 5 = .ok (.astore_n 2, 1) := by decide +kernel
theorem dX10_street_6 : decode cX10_street 6 = .ok (.aload_n 2, 1) := by decide +kernel
theorem dX10_street_7 : decode cX10_street 7 = .ok (.ifnonnull 5, 3) := by decide +kernel
theorem dX10_street_10 : decode cX10_street 10 = .ok (.iconst (-1), 1) := by decide +kernel
theorem dX10_street_11 : decode cX10_street 11 = .ok (.ireturn, 1) := by decide +kernel
theorem dX10_street_12 : decode cX10_street 12 = .ok (.aload_n 2, 1) := by decide +kernel
theorem dX10_street_13 : decode cX10_street 13 = .ok (.iconst 0, 1) := by decide +kernel
theorem dX10_street_14 : decode cX10_street 14 = .ok (.invokevirtual 33, 3) := by decide +kernel
theorem dX10_street_17 : decode cX10_street 17 = .ok (.istore_n 3, 1) := by decide +kernel
theorem dX10_street_18 : decode cX10_street 18 = .ok (.iload_n 3, 1) := by decide +kernel
theorem dX10_street_19 : decode cX10_street 19 = .ok (.ifCond .eq 5, 3) := by decide +kernel
theorem dX10_street_22 : decode cX10_street 22 = .ok (.iload_n 3, 1) := by decide +kernel
theorem dX10_street_23 : decode cX10_street 23 = .ok (.ireturn, 1) := by decide +kernel
theorem dX10_street_24 : decode cX10_street 24 = .ok (.aload_n 2, 1) := by decide +kernel
theorem dX10_street_25 : decode cX10_street 25 = .ok (.invokestatic 37, 3) := by decide +kernel
theorem dX10_street_28 : decode cX10_street 28 = .ok (.istore 4, 2) := by decide +kernel
theorem dX10_street_30 : decode cX10_street 30 = .ok (.iload 4, 2) := by decide +kernel
theorem dX10_street_32 : decode cX10_street 32 = .ok (.iconst (-1), 1) := by decide +kernel
theorem dX10_street_33 : decode cX10_street 33 = .ok (.if_icmp .eq 10, 3) := by decide +kernel
theorem dX10_street_36 : decode cX10_street 36 = .ok (.sipush (-1000), 3) := by decide +kernel
theorem dX10_street_39 : decode cX10_street 39 = .ok (.iload 4, 2) := by decide +kernel
theorem dX10_street_41 : decode cX10_street 41 = .ok (.isub, 1) := by decide +kernel
theorem dX10_street_42 : decode cX10_street 42 = .ok (.ireturn, 1) := by decide +kernel
theorem dX10_street_43 : decode cX10_street 43 = .ok (.aload_n 0, 1) := by decide +kernel
theorem dX10_street_44 : decode cX10_street 44 = .ok (.aload_n 2, 1) := by decide +kernel
theorem dX10_street_45 : decode cX10_street 45 = .ok (.invokevirtual 41, 3) := by decide +kernel
theorem dX10_street_48 : decode cX10_street 48 = .ok (.ireturn, 1) := by decide +kernel
theorem dX10_build_0 : decode cX10_build 0 = .ok (.aload_n 0, 1) := by decide +kernel
theorem dX10_build_1 : decode cX10_build 1 = .ok (.getfield 12, 3) := by decide +kernel
theorem dX10_build_4 : decode cX10_build 4 = .ok (.iload_n 1, 1) := by decide +kernel
theorem dX10_build_5 : decode cX10_build 5 = .ok (.iload_n 2, 1) := by decide +kernel
theorem dX10_build_6 : decode cX10_build 6 = .ok (.invokevirtual 44, 3) := by decide +kernel
theorem dX10_build_9 : decode cX10_build 9 = .ok (.ireturn, 1) := by decide +kernel
theorem dX10_burn_0 : decode cX10_burn 0 = .ok (.aload_n 0, 1) := by decide +kernel
theorem dX10_burn_1 : decode cX10_burn 1 = .ok (.getfield 12, 3) := by decide +kernel
theorem dX10_burn_4 : decode cX10_burn 4 = .ok (.iload_n 1, 1) := by decide +kernel
theorem dX10_burn_5 : decode cX10_burn 5 = .ok (.invokevirtual 48, 3) := by decide +kernel
theorem dX10_burn_8 : decode cX10_burn 8 = .ok (.ireturn, 1) := by decide +kernel
theorem dX10_enact_0 : decode cX10_enact 0 = .ok (.aload_n 0, 1) := by decide +kernel
theorem dX10_enact_1 : decode cX10_enact 1 = .ok (.iload_n 1, 1) := by decide +kernel
theorem dX10_enact_2 : decode cX10_enact 2 = .ok (.invokevirtual 29, 3) := by decide +kernel
theorem dX10_enact_5 : decode cX10_enact 5 = .ok (.astore_n 2, 1) := by decide +kernel
theorem dX10_enact_6 : decode cX10_enact 6 = .ok (.aload_n 2, 1) := by decide +kernel
theorem dX10_enact_7 : decode cX10_enact 7 = .ok (.ifnonnull 5, 3) := by decide +kernel
theorem dX10_enact_10 : decode cX10_enact 10 = .ok (.iconst (-1), 1) := by decide +kernel
theorem dX10_enact_11 : decode cX10_enact 11 = .ok (.ireturn, 1) := by decide +kernel
theorem dX10_enact_12 : decode cX10_enact 12 = .ok (.aload_n 2, 1) := by decide +kernel
theorem dX10_enact_13 : decode cX10_enact 13 = .ok (.getfield 51, 3) := by decide +kernel
theorem dX10_enact_16 : decode cX10_enact 16 = .ok (.astore_n 3, 1) := by decide +kernel
theorem dX10_enact_17 : decode cX10_enact 17 = .ok (.aload_n 3, 1) := by decide +kernel
theorem dX10_enact_18 : decode cX10_enact 18 = .ok (.ifnonnull 8, 3) := by decide +kernel
theorem dX10_enact_21 : decode cX10_enact 21 = .ok (.aload_n 2, 1) := by decide +kernel
theorem dX10_enact_22 : decode cX10_enact 22 = .ok (.invokevirtual 55, 3) := by decide +kernel
theorem dX10_enact_25 : decode cX10_enact 25 = .ok (.ireturn, 1) := by decide +kernel
theorem dX10_enact_26 : decode cX10_enact 26 = .ok (.aload_n 0, 1) := by decide +kernel
theorem dX10_enact_27 : decode cX10_enact 27 = .ok (.getfield 12, 3) := by decide +kernel
theorem dX10_enact_30 : decode cX10_enact 30 = .ok (.getfield 59, 3) := by decide +kernel
theorem dX10_enact_33 : decode cX10_enact 33 = .ok (.getfield 60, 3) := by decide +kernel
theorem dX10_enact_36 : decode cX10_enact 36 = .ok (.istore 4, 2) := by decide +kernel
theorem dX10_enact_38 : decode cX10_enact 38 = .ok (.aload_n 0, 1) := by decide +kernel
theorem dX10_enact_39 : decode cX10_enact 39 = .ok (.getfield 12, 3) := by decide +kernel
theorem dX10_enact_42 : decode cX10_enact 42 = .ok (.aload_n 3, 1) := by decide +kernel
theorem dX10_enact_43 : decode cX10_enact 43 = .ok (.putfield 59, 3) := by decide +kernel
theorem dX10_enact_46 : decode cX10_enact 46 = .ok (.iload 4, 2) := by decide +kernel
theorem dX10_enact_48 : decode cX10_enact 48 = .ok (.ireturn, 1) := by decide +kernel
theorem dX10_house_0 : decode cX10_house 0 = .ok (.iload_n 1, 1) := by decide +kernel
theorem dX10_house_1 : decode cX10_house 1 = .ok (.invokestatic 66, 3) := by decide +kernel
theorem dX10_house_4 : decode cX10_house 4 = .ok (.ifCond .eq 12, 3) := by decide +kernel
theorem dX10_house_7 : decode cX10_house 7 = .ok (.iload_n 2, 1) := by decide +kernel
theorem dX10_house_8 : decode cX10_house 8 = .ok (.ifCond .lt 8, 3) := by decide +kernel
theorem dX10_house_11 : decode cX10_house 11 = .ok (.iload_n 2, 1) := by decide +kernel
theorem dX10_house_12 : decode cX10_house 12 = .ok (.iconst 2, 1) := by decide +kernel
theorem dX10_house_13 : decode cX10_house 13 = .ok (.if_icmp .le 5, 3) := by decide +kernel
theorem dX10_house_16 : decode cX10_house 16 = .ok (.iconst (-1), 1) := by decide +kernel
theorem dX10_house_17 : decode cX10_house 17 = .ok (.ireturn, 1) := by decide +kernel
theorem dX10_house_18 : decode cX10_house 18 = .ok (.aload_n 0, 1) := by decide +kernel
theorem dX10_house_19 : decode cX10_house 19 = .ok (.getfield 12, 3) := by decide +kernel
theorem dX10_house_22 : decode cX10_house 22 = .ok (.iload_n 1, 1) := by decide +kernel
theorem dX10_house_23 : decode cX10_house 23 = .ok (.invokevirtual 70, 3) := by decide +kernel
theorem dX10_house_26 : decode cX10_house 26 = .ok (.ifCond .ne 6, 3) := by decide +kernel
theorem dX10_house_29 : decode cX10_house 29 = .ok (.bipush (-4), 2) := by decide +kernel
theorem dX10_house_31 : decode cX10_house 31 = .ok (.ireturn, 1) := by decide +kernel
theorem dX10_house_32 : decode cX10_house 32 = .ok (.iload_n 2, 1) := by decide +kernel
theorem dX10_house_33 : decode cX10_house 33 = .ok (.lookupswitch 45 #[(0, 27), (1, 36)], 27) := by decide +kernel
theorem dX10_house_60 : decode cX10_house 60 = .ok (.aload_n 0, 1) := by decide +kernel
theorem dX10_house_61 : decode cX10_house 61 = .ok (.getfield 12, 3) := by decide +kernel
theorem dX10_house_64 : decode cX10_house 64 = .ok (.iload_n 1, 1) := by decide +kernel
theorem dX10_house_65 : decode cX10_house 65 = .ok (.invokevirtual 73, 3) := by decide +kernel
theorem dX10_house_68 : decode cX10_house 68 = .ok (.ireturn, 1) := by decide +kernel
theorem dX10_house_69 : decode cX10_house 69 = .ok (.aload_n 0, 1) := by decide +kernel
theorem dX10_house_70 : decode cX10_house 70 = .ok (.getfield 12, 3) := by decide +kernel
theorem dX10_house_73 : decode cX10_house 73 = .ok (.iload_n 1, 1) := by decide +kernel
theorem dX10_house_74 : decode cX10_house 74 = .ok (.invokevirtual 76, 3) := by decide +kernel
theorem dX10_house_77 : decode cX10_house 77 = .ok (.ireturn, 1) := by decide +kernel
theorem dX10_house_78 : decode cX10_house 78 = .ok (.aload_n 0, 1) := by decide +kernel
theorem dX10_house_79 : decode cX10_house 79 = .ok (.getfield 12, 3) := by decide +kernel
theorem dX10_house_82 : decode cX10_house 82 = .ok (.iload_n 1, 1) := by decide +kernel
theorem dX10_house_83 : decode cX10_house 83 = .ok (.invokevirtual 79, 3) := by decide +kernel
theorem dX10_house_86 : decode cX10_house 86 = .ok (.ireturn, 1) := by decide +kernel
theorem dX10_have_0 : decode cX10_have 0 = .ok (.iload_n 1, 1) := by decide +kernel
theorem dX10_have_1 : decode cX10_have 1 = .ok (.iconst 1, 1) := by decide +kernel
theorem dX10_have_2 : decode cX10_have 2 = .ok (.if_icmp .ge 7, 3) := by decide +kernel
theorem dX10_have_5 : decode cX10_have 5 = .ok (.iconst (-1), 1) := by decide +kernel
theorem dX10_have_6 : decode cX10_have 6 = .ok (.goto 11, 3) := by decide +kernel
theorem dX10_have_9 : decode cX10_have 9 = .ok (.aload_n 0, 1) := by decide +kernel
theorem dX10_have_10 : decode cX10_have 10 = .ok (.getfield 12, 3) := by decide +kernel
theorem dX10_have_13 : decode cX10_have 13 = .ok (.iload_n 1, 1) := by decide +kernel
theorem dX10_have_14 : decode cX10_have 14 = .ok (.invokevirtual 82, 3) := by decide +kernel
theorem dX10_have_17 : decode cX10_have 17 = .ok (.ireturn, 1) := by decide +kernel
theorem dX10_would_0 : decode cX10_would 0 = .ok (.iload_n 1, 1) := by decide +kernel
theorem dX10_would_1 : decode cX10_would 1 = .ok (.invokestatic 66, 3) := by decide +kernel
theorem dX10_would_4 : decode cX10_would 4 = .ok (.ifCond .eq 29, 3) := by decide +kernel
theorem dX10_would_7 : decode cX10_would 7 = .ok (.iload_n 2, 1) := by decide +kernel
theorem dX10_would_8 : decode cX10_would 8 = .ok (.invokestatic 85, 3) := by decide +kernel
theorem dX10_would_11 : decode cX10_would 11 = .ok (.ifCond .eq 22, 3) := by decide +kernel
theorem dX10_would_14 : decode cX10_would 14 = .ok (.aload_n 0, 1) := by decide +kernel
theorem dX10_would_15 : decode cX10_would 15 = .ok (.getfield 12, 3) := by decide +kernel
theorem dX10_would_18 : decode cX10_would 18 = .ok (.getfield 59, 3) := by decide +kernel
theorem dX10_would_21 : decode cX10_would 21 = .ok (.aload_n 0, 1) := by decide +kernel
theorem dX10_would_22 : decode cX10_would 22 = .ok (.getfield 12, 3) := by decide +kernel
theorem dX10_would_25 : decode cX10_would 25 = .ok (.iload_n 1, 1) := by decide +kernel
theorem dX10_would_26 : decode cX10_would 26 = .ok (.iload_n 2, 1) := by decide +kernel
theorem dX10_would_27 : decode cX10_would 27 = .ok (.invokevirtual 88, 3) := by decide +kernel
theorem dX10_would_30 : decode cX10_would 30 = .ok (.goto 4, 3) := by decide +kernel
theorem dX10_would_33 : decode cX10_would 33 = .ok (.iconst (-1), 1) := by decide +kernel
theorem dX10_would_34 : decode cX10_would 34 = .ok (.ireturn, 1) := by decide +kernel
theorem dX10_where_0 : decode cX10_where 0 = .ok (.iload_n 1, 1) := by decide +kernel
theorem dX10_where_1 : decode cX10_where 1 = .ok (.iconst 1, 1) := by decide +kernel
theorem dX10_where_2 : decode cX10_where 2 = .ok (.if_icmp .lt 10, 3) := by decide +kernel
theorem dX10_where_5 : decode cX10_where 5 = .ok (.iload_n 2, 1) := by decide +kernel
theorem dX10_where_6 : decode cX10_where 6 = .ok (.invokestatic 85, 3) := by decide +kernel
theorem dX10_where_9 : decode cX10_where 9 = .ok (.ifCond .ne 5, 3) := by decide +kernel
theorem dX10_where_12 : decode cX10_where 12 = .ok (.iconst (-1), 1) := by decide +kernel
theorem dX10_where_13 : decode cX10_where 13 = .ok (.ireturn, 1) := by decide +kernel
theorem dX10_where_14 : decode cX10_where 14 = .ok (.iconst 0, 1) := by decide +kernel
theorem dX10_where_15 : decode cX10_where 15 = .ok (.istore_n 3, 1) := by decide +kernel
theorem dX10_where_16 : decode cX10_where 16 = .ok (.iconst 0, 1) := by decide +kernel
theorem dX10_where_17 : decode cX10_where 17 = .ok (.istore 4, 2) := by decide +kernel
theorem dX10_where_19 : decode cX10_where 19 = .ok (.iload 4, 2) := by decide +kernel
theorem dX10_where_21 : decode cX10_where 21 = .ok (.bipush 12, 2) := by decide +kernel
theorem dX10_where_23 : decode cX10_where 23 = .ok (.if_icmp .ge 49, 3) := by decide +kernel
theorem dX10_where_26 : decode cX10_where 26 = .ok (.aload_n 0, 1) := by decide +kernel
theorem dX10_where_27 : decode cX10_where 27 = .ok (.getfield 12, 3) := by decide +kernel
theorem dX10_where_30 : decode cX10_where 30 = .ok (.iload 4, 2) := by decide +kernel
theorem dX10_where_32 : decode cX10_where 32 = .ok (.invokevirtual 70, 3) := by decide +kernel
theorem dX10_where_35 : decode cX10_where 35 = .ok (.ifCond .ne 31, 3) := by decide +kernel
theorem dX10_where_38 : decode cX10_where 38 = .ok (.aload_n 0, 1) := by decide +kernel
theorem dX10_where_39 : decode cX10_where 39 = .ok (.getfield 12, 3) := by decide +kernel
theorem dX10_where_42 : decode cX10_where 42 = .ok (.getfield 59, 3) := by decide +kernel
theorem dX10_where_45 : decode cX10_where 45 = .ok (.aload_n 0, 1) := by decide +kernel
theorem dX10_where_46 : decode cX10_where 46 = .ok (.getfield 12, 3) := by decide +kernel
theorem dX10_where_49 : decode cX10_where 49 = .ok (.iload 4, 2) := by decide +kernel
theorem dX10_where_51 : decode cX10_where 51 = .ok (.iload_n 2, 1) := by decide +kernel
theorem dX10_where_52 : decode cX10_where 52 = .ok (.invokevirtual 88, 3) := by decide +kernel
theorem dX10_where_55 : decode cX10_where 55 = .ok (.iload_n 1, 1) := by decide +kernel
theorem dX10_where_56 : decode cX10_where 56 = .ok (.if_icmp .ne 10, 3) := by decide +kernel
theorem dX10_where_59 : decode cX10_where 59 = .ok (.iload_n 3, 1) := by decide +kernel
theorem dX10_where_60 : decode cX10_where 60 = .ok (.iconst 1, 1) := by decide +kernel
theorem dX10_where_61 : decode cX10_where 61 = .ok (.iload 4, 2) := by decide +kernel
theorem dX10_where_63 : decode cX10_where 63 = .ok (.ishl, 1) := by decide +kernel
theorem dX10_where_64 : decode cX10_where 64 = .ok (.ior, 1) := by decide +kernel
theorem dX10_where_65 : decode cX10_where 65 = .ok (.istore_n 3, 1) := by decide +kernel
theorem dX10_where_66 : decode cX10_where 66 = .ok (.iinc 4 1, 3) := by decide +kernel
theorem dX10_where_69 : decode cX10_where 69 = .ok (.goto (-50), 3) := by decide +kernel
theorem dX10_where_72 : decode cX10_where 72 = .ok (.iload_n 3, 1) := by decide +kernel
theorem dX10_where_73 : decode cX10_where 73 = .ok (.ireturn, 1) := by decide +kernel
theorem dX10_letter_0 : decode cX10_letter 0 = .ok (.iload_n 1, 1) := by decide +kernel
theorem dX10_letter_1 : decode cX10_letter 1 = .ok (.iconst 1, 1) := by decide +kernel
theorem dX10_letter_2 : decode cX10_letter 2 = .ok (.if_icmp .lt 9, 3) := by decide +kernel
theorem dX10_letter_5 : decode cX10_letter 5 = .ok (.iload_n 1, 1) := by decide +kernel
theorem dX10_letter_6 : decode cX10_letter 6 = .ok (.bipush 12, 2) := by decide +kernel
theorem dX10_letter_8 : decode cX10_letter 8 = .ok (.if_icmp .le 5, 3) := by decide +kernel
theorem dX10_letter_11 : decode cX10_letter 11 = .ok (.iconst (-1), 1) := by decide +kernel
theorem dX10_letter_12 : decode cX10_letter 12 = .ok (.ireturn, 1) := by decide +kernel
theorem dX10_letter_13 : decode cX10_letter 13 = .ok (.iconst 0, 1) := by decide +kernel
theorem dX10_letter_14 : decode cX10_letter 14 = .ok (.istore_n 2, 1) := by decide +kernel
theorem dX10_letter_15 : decode cX10_letter 15 = .ok (.iload_n 2, 1) := by decide +kernel
theorem dX10_letter_16 : decode cX10_letter 16 = .ok (.bipush 12, 2) := by decide +kernel
theorem dX10_letter_18 : decode cX10_letter 18 = .ok (.if_icmp .ge 36, 3) := by decide +kernel
theorem dX10_letter_21 : decode cX10_letter 21 = .ok (.aload_n 0, 1) := by decide +kernel
theorem dX10_letter_22 : decode cX10_letter 22 = .ok (.getfield 12, 3) := by decide +kernel
theorem dX10_letter_25 : decode cX10_letter 25 = .ok (.iload_n 2, 1) := by decide +kernel
theorem dX10_letter_26 : decode cX10_letter 26 = .ok (.invokevirtual 70, 3) := by decide +kernel
theorem dX10_letter_29 : decode cX10_letter 29 = .ok (.ifCond .eq 19, 3) := by decide +kernel
theorem dX10_letter_32 : decode cX10_letter 32 = .ok (.aload_n 0, 1) := by decide +kernel
theorem dX10_letter_33 : decode cX10_letter 33 = .ok (.getfield 12, 3) := by decide +kernel
theorem dX10_letter_36 : decode cX10_letter 36 = .ok (.iload_n 2, 1) := by decide +kernel
theorem dX10_letter_37 : decode cX10_letter 37 = .ok (.invokevirtual 92, 3) := by decide +kernel
theorem dX10_letter_40 : decode cX10_letter 40 = .ok (.iload_n 1, 1) := by decide +kernel
theorem dX10_letter_41 : decode cX10_letter 41 = .ok (.iconst 1, 1) := by decide +kernel
theorem dX10_letter_42 : decode cX10_letter 42 = .ok (.isub, 1) := by decide +kernel
theorem dX10_letter_43 : decode cX10_letter 43 = .ok (.if_icmp .ne 5, 3) := by decide +kernel
theorem dX10_letter_46 : decode cX10_letter 46 = .ok (.iload_n 2, 1) := by decide +kernel
theorem dX10_letter_47 : decode cX10_letter 47 = .ok (.ireturn, 1) := by decide +kernel
theorem dX10_letter_48 : decode cX10_letter 48 = .ok (.iinc 2 1, 3) := by decide +kernel
theorem dX10_letter_51 : decode cX10_letter 51 = .ok (.goto (-36), 3) := by decide +kernel
theorem dX10_letter_54 : decode cX10_letter 54 = .ok (.bipush (-4), 2) := by decide +kernel
theorem dX10_letter_56 : decode cX10_letter 56 = .ok (.ireturn, 1) := by decide +kernel
theorem dX10_gaps_0 : decode cX10_gaps 0 = .ok (.aload_n 0, 1) := by decide +kernel
theorem dX10_gaps_1 : decode cX10_gaps 1 = .ok (.getfield 12, 3) := by decide +kernel
theorem dX10_gaps_4 : decode cX10_gaps 4 = .ok (.invokevirtual 95, 3) := by decide +kernel
theorem dX10_gaps_7 : decode cX10_gaps 7 = .ok (.ireturn, 1) := by decide +kernel
theorem dX10_walk_0 : decode cX10_walk 0 = .ok (.aload_n 0, 1) := by decide +kernel
theorem dX10_walk_1 : decode cX10_walk 1 = .ok (.iload_n 1, 1) := by decide +kernel
theorem dX10_walk_2 : decode cX10_walk 2 = .ok (.iload_n 2, 1) := by decide +kernel
theorem dX10_walk_3 : decode cX10_walk 3 = .ok (.iconst 1, 1) := by decide +kernel
theorem dX10_walk_4 : decode cX10_walk 4 = .ok (.invokevirtual 98, 3) := by decide +kernel
theorem dX10_walk_7 : decode cX10_walk 7 = .ok (.ireturn, 1) := by decide +kernel
theorem dX10_search_0 : decode cX10_search 0 = .ok (.aload_n 0, 1) := by decide +kernel
theorem dX10_search_1 : decode cX10_search 1 = .ok (.iload_n 1, 1) := by decide +kernel
theorem dX10_search_2 : decode cX10_search 2 = .ok (.iload_n 2, 1) := by decide +kernel
theorem dX10_search_3 : decode cX10_search 3 = .ok (.iconst 0, 1) := by decide +kernel
theorem dX10_search_4 : decode cX10_search 4 = .ok (.invokevirtual 98, 3) := by decide +kernel
theorem dX10_search_7 : decode cX10_search 7 = .ok (.ireturn, 1) := by decide +kernel
theorem dX10_rise_0 : decode cX10_rise 0 = .ok (.aload_n 0, 1) := by decide +kernel
theorem dX10_rise_1 : decode cX10_rise 1 = .ok (.getfield 12, 3) := by decide +kernel
theorem dX10_rise_4 : decode cX10_rise 4 = .ok (.invokevirtual 102, 3) := by decide +kernel
theorem dX10_rise_7 : decode cX10_rise 7 = .ok (.ireturn, 1) := by decide +kernel
theorem dX10_falls_0 : decode cX10_falls 0 = .ok (.aload_n 0, 1) := by decide +kernel
theorem dX10_falls_1 : decode cX10_falls 1 = .ok (.getfield 12, 3) := by decide +kernel
theorem dX10_falls_4 : decode cX10_falls 4 = .ok (.invokevirtual 105, 3) := by decide +kernel
theorem dX10_falls_7 : decode cX10_falls 7 = .ok (.ireturn, 1) := by decide +kernel
theorem dX10_byLaw_0 : decode cX10_byLaw 0 = .ok (.iload_n 2, 1) := by decide +kernel
theorem dX10_byLaw_1 : decode cX10_byLaw 1 = .ok (.iload_n 3, 1) := by decide +kernel
theorem dX10_byLaw_2 : decode cX10_byLaw 2 = .ok (.invokestatic 108, 3) := by decide +kernel
theorem dX10_byLaw_5 : decode cX10_byLaw 5 = .ok (.astore 4, 2) := by decide +kernel
theorem dX10_byLaw_7 : decode cX10_byLaw 7 = .ok (.iload_n 1, 1) := by decide +kernel
theorem dX10_byLaw_8 : decode cX10_byLaw 8 = .ok (.invokestatic 66, 3) := by decide +kernel
theorem dX10_byLaw_11 : decode cX10_byLaw 11 = .ok (.ifCond .eq 8, 3) := by decide +kernel
theorem dX10_byLaw_14 : decode cX10_byLaw 14 = .ok (.aload 4, 2) := by decide +kernel
theorem dX10_byLaw_16 : decode cX10_byLaw 16 = .ok (.ifnonnull 5, 3) := by decide +kernel
theorem dX10_byLaw_19 : decode cX10_byLaw 19 = .ok (.iconst (-1), 1) := by decide +kernel
theorem dX10_byLaw_20 : decode cX10_byLaw 20 = .ok (.ireturn, 1) := by decide +kernel
theorem dX10_byLaw_21 : decode cX10_byLaw 21 = .ok (.aload_n 0, 1) := by decide +kernel
theorem dX10_byLaw_22 : decode cX10_byLaw 22 = .ok (.getfield 12, 3) := by decide +kernel
theorem dX10_byLaw_25 : decode cX10_byLaw 25 = .ok (.iload_n 1, 1) := by decide +kernel
theorem dX10_byLaw_26 : decode cX10_byLaw 26 = .ok (.invokevirtual 70, 3) := by decide +kernel
theorem dX10_byLaw_29 : decode cX10_byLaw 29 = .ok (.ifCond .ne 6, 3) := by decide +kernel
theorem dX10_byLaw_32 : decode cX10_byLaw 32 = .ok (.bipush (-4), 2) := by decide +kernel
theorem dX10_byLaw_34 : decode cX10_byLaw 34 = .ok (.ireturn, 1) := by decide +kernel
theorem dX10_byLaw_35 : decode cX10_byLaw 35 = .ok (.aload_n 0, 1) := by decide +kernel
theorem dX10_byLaw_36 : decode cX10_byLaw 36 = .ok (.getfield 16, 3) := by decide +kernel
theorem dX10_byLaw_39 : decode cX10_byLaw 39 = .ok (.aload_n 0, 1) := by decide +kernel
theorem dX10_byLaw_40 : decode cX10_byLaw 40 = .ok (.getfield 12, 3) := by decide +kernel
theorem dX10_byLaw_43 : decode cX10_byLaw 43 = .ok (.aload 4, 2) := by decide +kernel
theorem dX10_byLaw_45 : decode cX10_byLaw 45 = .ok (.invokevirtual 112, 3) := by decide +kernel
theorem dX10_byLaw_48 : decode cX10_byLaw 48 = .ok (.aload_n 0, 1) := by decide +kernel
theorem dX10_byLaw_49 : decode cX10_byLaw 49 = .ok (.getfield 16, 3) := by decide +kernel
theorem dX10_byLaw_52 : decode cX10_byLaw 52 = .ok (.iload_n 1, 1) := by decide +kernel
theorem dX10_byLaw_53 : decode cX10_byLaw 53 = .ok (.invokevirtual 73, 3) := by decide +kernel
theorem dX10_byLaw_56 : decode cX10_byLaw 56 = .ok (.ireturn, 1) := by decide +kernel
theorem dX10_laws_0 : decode cX10_laws 0 = .ok (.iconst 0, 1) := by decide +kernel
theorem dX10_laws_1 : decode cX10_laws 1 = .ok (.istore_n 2, 1) := by decide +kernel
theorem dX10_laws_2 : decode cX10_laws 2 = .ok (.iconst 0, 1) := by decide +kernel
theorem dX10_laws_3 : decode cX10_laws 3 = .ok (.istore_n 3, 1) := by decide +kernel
theorem dX10_laws_4 : decode cX10_laws 4 = .ok (.iload_n 3, 1) := by decide +kernel
theorem dX10_laws_5 : decode cX10_laws 5 = .ok (.bipush 8, 2) := by decide +kernel
theorem dX10_laws_7 : decode cX10_laws 7 = .ok (.if_icmp .ge 56, 3) := by decide +kernel
theorem dX10_laws_10 : decode cX10_laws 10 = .ok (.iload_n 3, 1) := by decide +kernel
theorem dX10_laws_11 : decode cX10_laws 11 = .ok (.iload_n 1, 1) := by decide +kernel
theorem dX10_laws_12 : decode cX10_laws 12 = .ok (.invokestatic 108, 3) := by decide +kernel
theorem dX10_laws_15 : decode cX10_laws 15 = .ok (.astore 4, 2) := by decide +kernel
theorem dX10_laws_17 : decode cX10_laws 17 = .ok (.aload 4, 2) := by decide +kernel
theorem dX10_laws_19 : decode cX10_laws 19 = .ok (.ifnonnull 5, 3) := by decide +kernel
theorem dX10_laws_22 : decode cX10_laws 22 = .ok (.iconst (-1), 1) := by decide +kernel
theorem dX10_laws_23 : decode cX10_laws 23 = .ok (.ireturn, 1) := by decide +kernel
theorem dX10_laws_24 : decode cX10_laws 24 = .ok (.aload_n 0, 1) := by decide +kernel
theorem dX10_laws_25 : decode cX10_laws 25 = .ok (.getfield 16, 3) := by decide +kernel
theorem dX10_laws_28 : decode cX10_laws 28 = .ok (.aload_n 0, 1) := by decide +kernel
theorem dX10_laws_29 : decode cX10_laws 29 = .ok (.getfield 12, 3) := by decide +kernel
theorem dX10_laws_32 : decode cX10_laws 32 = .ok (.aload 4, 2) := by decide +kernel
theorem dX10_laws_34 : decode cX10_laws 34 = .ok (.invokevirtual 112, 3) := by decide +kernel
theorem dX10_laws_37 : decode cX10_laws 37 = .ok (.aload_n 0, 1) := by decide +kernel
theorem dX10_laws_38 : decode cX10_laws 38 = .ok (.getfield 16, 3) := by decide +kernel
theorem dX10_laws_41 : decode cX10_laws 41 = .ok (.aload_n 0, 1) := by decide +kernel
theorem dX10_laws_42 : decode cX10_laws 42 = .ok (.getfield 12, 3) := by decide +kernel
theorem dX10_laws_45 : decode cX10_laws 45 = .ok (.invokevirtual 116, 3) := by decide +kernel
theorem dX10_laws_48 : decode cX10_laws 48 = .ok (.ifCond .eq 9, 3) := by decide +kernel
theorem dX10_laws_51 : decode cX10_laws 51 = .ok (.iload_n 2, 1) := by decide +kernel
theorem dX10_laws_52 : decode cX10_laws 52 = .ok (.iconst 1, 1) := by decide +kernel
theorem dX10_laws_53 : decode cX10_laws 53 = .ok (.iload_n 3, 1) := by decide +kernel
theorem dX10_laws_54 : decode cX10_laws 54 = .ok (.ishl, 1) := by decide +kernel
theorem dX10_laws_55 : decode cX10_laws 55 = .ok (.ior, 1) := by decide +kernel
theorem dX10_laws_56 : decode cX10_laws 56 = .ok (.istore_n 2, 1) := by decide +kernel
theorem dX10_laws_57 : decode cX10_laws 57 = .ok (.iinc 3 1, 3) := by decide +kernel
theorem dX10_laws_60 : decode cX10_laws 60 = .ok (.goto (-56), 3) := by decide +kernel
theorem dX10_laws_63 : decode cX10_laws 63 = .ok (.iload_n 2, 1) := by decide +kernel
theorem dX10_laws_64 : decode cX10_laws 64 = .ok (.ireturn, 1) := by decide +kernel
theorem dX10_orders_0 : decode cX10_orders 0 = .ok (.iload_n 1, 1) := by decide +kernel
theorem dX10_orders_1 : decode cX10_orders 1 = .ok (.ifCond .lt 8, 3) := by decide +kernel
theorem dX10_orders_4 : decode cX10_orders 4 = .ok (.iload_n 1, 1) := by decide +kernel
theorem dX10_orders_5 : decode cX10_orders 5 = .ok (.iconst 1, 1) := by decide +kernel
theorem dX10_orders_6 : decode cX10_orders 6 = .ok (.if_icmp .le 5, 3) := by decide +kernel
theorem dX10_orders_9 : decode cX10_orders 9 = .ok (.iconst (-1), 1) := by decide +kernel
theorem dX10_orders_10 : decode cX10_orders 10 = .ok (.ireturn, 1) := by decide +kernel
theorem dX10_orders_11 : decode cX10_orders 11 = .ok (.aload_n 0, 1) := by decide +kernel
theorem dX10_orders_12 : decode cX10_orders 12 = .ok (.getfield 12, 3) := by decide +kernel
theorem dX10_orders_15 : decode cX10_orders 15 = .ok (.invokevirtual 120, 3) := by decide +kernel
theorem dX10_orders_18 : decode cX10_orders 18 = .ok (.istore_n 2, 1) := by decide +kernel
theorem dX10_orders_19 : decode cX10_orders 19 = .ok (.iload_n 2, 1) := by decide +kernel
theorem dX10_orders_20 : decode cX10_orders 20 = .ok (.bipush 7, 2) := by decide +kernel
theorem dX10_orders_22 : decode cX10_orders 22 = .ok (.if_icmp .le 6, 3) := by decide +kernel
theorem dX10_orders_25 : decode cX10_orders 25 = .ok (.bipush (-2), 2) := by decide +kernel
theorem dX10_orders_27 : decode cX10_orders 27 = .ok (.ireturn, 1) := by decide +kernel
theorem dX10_orders_28 : decode cX10_orders 28 = .ok (.aload_n 0, 1) := by decide +kernel
theorem dX10_orders_29 : decode cX10_orders 29 = .ok (.getfield 16, 3) := by decide +kernel
theorem dX10_orders_32 : decode cX10_orders 32 = .ok (.aload_n 0, 1) := by decide +kernel
theorem dX10_orders_33 : decode cX10_orders 33 = .ok (.getfield 12, 3) := by decide +kernel
theorem dX10_orders_36 : decode cX10_orders 36 = .ok (.getfield 59, 3) := by decide +kernel
theorem dX10_orders_39 : decode cX10_orders 39 = .ok (.invokevirtual 123, 3) := by decide +kernel
theorem dX10_orders_42 : decode cX10_orders 42 = .ok (.iload_n 1, 1) := by decide +kernel
theorem dX10_orders_43 : decode cX10_orders 43 = .ok (.ifCond .ne 18, 3) := by decide +kernel
theorem dX10_orders_46 : decode cX10_orders 46 = .ok (.aload_n 0, 1) := by decide +kernel
theorem dX10_orders_47 : decode cX10_orders 47 = .ok (.getfield 16, 3) := by decide +kernel
theorem dX10_orders_50 : decode cX10_orders 50 = .ok (.aload_n 0, 1) := by decide +kernel
theorem dX10_orders_51 : decode cX10_orders 51 = .ok (.getfield 12, 3) := by decide +kernel
theorem dX10_orders_54 : decode cX10_orders 54 = .ok (.iload_n 2, 1) := by decide +kernel
theorem dX10_orders_55 : decode cX10_orders 55 = .ok (.invokestatic 127, 3) := by decide +kernel
theorem dX10_orders_58 : decode cX10_orders 58 = .ok (.goto 8, 3) := by decide +kernel
theorem dX10_orders_61 : decode cX10_orders 61 = .ok (.aload_n 0, 1) := by decide +kernel
theorem dX10_orders_62 : decode cX10_orders 62 = .ok (.iload_n 2, 1) := by decide +kernel
theorem dX10_orders_63 : decode cX10_orders 63 = .ok (.invokevirtual 131, 3) := by decide +kernel
theorem dX10_orders_66 : decode cX10_orders 66 = .ok (.ireturn, 1) := by decide +kernel
theorem dX10_joined_0 : decode cX10_joined 0 = .ok (.aload_n 0, 1) := by decide +kernel
theorem dX10_joined_1 : decode cX10_joined 1 = .ok (.iload_n 1, 1) := by decide +kernel
theorem dX10_joined_2 : decode cX10_joined 2 = .ok (.invokevirtual 29, 3) := by decide +kernel
theorem dX10_joined_5 : decode cX10_joined 5 = .ok (.astore_n 3, 1) := by decide +kernel
theorem dX10_joined_6 : decode cX10_joined 6 = .ok (.aload_n 3, 1) := by decide +kernel
theorem dX10_joined_7 : decode cX10_joined 7 = .ok (.ifnull 12, 3) := by decide +kernel
theorem dX10_joined_10 : decode cX10_joined 10 = .ok (.iload_n 2, 1) := by decide +kernel
theorem dX10_joined_11 : decode cX10_joined 11 = .ok (.ifCond .lt 8, 3) := by decide +kernel
theorem dX10_joined_14 : decode cX10_joined 14 = .ok (.iload_n 2, 1) := by decide +kernel
theorem dX10_joined_15 : decode cX10_joined 15 = .ok (.iconst 1, 1) := by decide +kernel
theorem dX10_joined_16 : decode cX10_joined 16 = .ok (.if_icmp .le 5, 3) := by decide +kernel
theorem dX10_joined_19 : decode cX10_joined 19 = .ok (.iconst (-1), 1) := by decide +kernel
theorem dX10_joined_20 : decode cX10_joined 20 = .ok (.ireturn, 1) := by decide +kernel
theorem dX10_joined_21 : decode cX10_joined 21 = .ok (.aload_n 3, 1) := by decide +kernel
theorem dX10_joined_22 : decode cX10_joined 22 = .ok (.iconst 1, 1) := by decide +kernel
theorem dX10_joined_23 : decode cX10_joined 23 = .ok (.invokevirtual 33, 3) := by decide +kernel
theorem dX10_joined_26 : decode cX10_joined 26 = .ok (.istore 4, 2) := by decide +kernel
theorem dX10_joined_28 : decode cX10_joined 28 = .ok (.iload 4, 2) := by decide +kernel
theorem dX10_joined_30 : decode cX10_joined 30 = .ok (.ifCond .eq 6, 3) := by decide +kernel
theorem dX10_joined_33 : decode cX10_joined 33 = .ok (.iload 4, 2) := by decide +kernel
theorem dX10_joined_35 : decode cX10_joined 35 = .ok (.ireturn, 1) := by decide +kernel
theorem dX10_joined_36 : decode cX10_joined 36 = .ok (.aload_n 3, 1) := by decide +kernel
theorem dX10_joined_37 : decode cX10_joined 37 = .ok (.invokestatic 134, 3) := by decide +kernel
theorem dX10_joined_40 : decode cX10_joined 40 = .ok (.ifCond .ne 6, 3) := by decide +kernel
theorem dX10_joined_43 : decode cX10_joined 43 = .ok (.bipush (-13), 2) := by decide +kernel
theorem dX10_joined_45 : decode cX10_joined 45 = .ok (.ireturn, 1) := by decide +kernel
theorem dX10_joined_46 : decode cX10_joined 46 = .ok (.iload_n 2, 1) := by decide +kernel
theorem dX10_joined_47 : decode cX10_joined 47 = .ok (.ifCond .ne 12, 3) := by decide +kernel
theorem dX10_joined_50 : decode cX10_joined 50 = .ok (.aload_n 0, 1) := by decide +kernel
theorem dX10_joined_51 : decode cX10_joined 51 = .ok (.aload_n 3, 1) := by decide +kernel
theorem dX10_joined_52 : decode cX10_joined 52 = .ok (.iconst 0, 1) := by decide +kernel
theorem dX10_joined_53 : decode cX10_joined 53 = .ok (.invokevirtual 138, 3) := by decide +kernel
theorem dX10_joined_56 : decode cX10_joined 56 = .ok (.goto 8, 3) := by decide +kernel
theorem dX10_joined_59 : decode cX10_joined 59 = .ok (.aload_n 0, 1) := by decide +kernel
theorem dX10_joined_60 : decode cX10_joined 60 = .ok (.aload_n 3, 1) := by decide +kernel
theorem dX10_joined_61 : decode cX10_joined 61 = .ok (.invokevirtual 142, 3) := by decide +kernel
theorem dX10_joined_64 : decode cX10_joined 64 = .ok (.ireturn, 1) := by decide +kernel
theorem dX10_seeded_0 : decode cX10_seeded 0 = .ok (.iload_n 1, 1) := by decide +kernel
theorem dX10_seeded_1 : decode cX10_seeded 1 = .ok (.iconst 1, 1) := by decide +kernel
theorem dX10_seeded_2 : decode cX10_seeded 2 = .ok (.if_icmp .lt 18, 3) := by decide +kernel
theorem dX10_seeded_5 : decode cX10_seeded 5 = .ok (.iload_n 1, 1) := by decide +kernel
theorem dX10_seeded_6 : decode cX10_seeded 6 = .ok (.bipush 30, 2) := by decide +kernel
theorem dX10_seeded_8 : decode cX10_seeded 8 = .ok (.if_icmp .gt 12, 3) := by decide +kernel
theorem dX10_seeded_11 : decode cX10_seeded 11 = .ok (.iload_n 3, 1) := by decide +kernel
theorem dX10_seeded_12 : decode cX10_seeded 12 = .ok (.ifCond .lt 8, 3) := by decide +kernel
theorem dX10_seeded_15 : decode cX10_seeded 15 = .ok (.iload_n 3, 1) := by decide +kernel
theorem dX10_seeded_16 : decode cX10_seeded 16 = .ok (.iconst 1, 1) := by decide +kernel
theorem dX10_seeded_17 : decode cX10_seeded 17 = .ok (.if_icmp .le 5, 3) := by decide +kernel
theorem dX10_seeded_20 : decode cX10_seeded 20 = .ok (.iconst (-1), 1) := by decide +kernel
theorem dX10_seeded_21 : decode cX10_seeded 21 = .ok (.ireturn, 1) := by decide +kernel
theorem dX10_seeded_22 : decode cX10_seeded 22 = .ok (.aload_n 0, 1) := by decide +kernel
theorem dX10_seeded_23 : decode cX10_seeded 23 = .ok (.getfield 16, 3) := by decide +kernel
theorem dX10_seeded_26 : decode cX10_seeded 26 = .ok (.aload_n 0, 1) := by decide +kernel
theorem dX10_seeded_27 : decode cX10_seeded 27 = .ok (.getfield 12, 3) := by decide +kernel
theorem dX10_seeded_30 : decode cX10_seeded 30 = .ok (.getfield 59, 3) := by decide +kernel
theorem dX10_seeded_33 : decode cX10_seeded 33 = .ok (.invokevirtual 123, 3) := by decide +kernel
theorem dX10_seeded_36 : decode cX10_seeded 36 = .ok (.iload_n 2, 1) := by decide +kernel
theorem dX10_seeded_37 : decode cX10_seeded 37 = .ok (.istore 4, 2) := by decide +kernel
theorem dX10_seeded_39 : decode cX10_seeded 39 = .ok (.iconst 0, 1) := by decide +kernel
theorem dX10_seeded_40 : decode cX10_seeded 40 = .ok (.istore 5, 2) := by decide +kernel
theorem dX10_seeded_42 : decode cX10_seeded 42 = .ok (.iload 5, 2) := by decide +kernel
theorem dX10_seeded_44 : decode cX10_seeded 44 = .ok (.iload_n 1, 1) := by decide +kernel
theorem dX10_seeded_45 : decode cX10_seeded 45 = .ok (.if_icmp .ge 82, 3) := by decide +kernel
theorem dX10_seeded_48 : decode cX10_seeded 48 = .ok (.iload 4, 2) := by decide +kernel
theorem dX10_seeded_50 : decode cX10_seeded 50 = .ok (.invokestatic 145, 3) := by decide +kernel
theorem dX10_seeded_53 : decode cX10_seeded 53 = .ok (.istore 4, 2) := by decide +kernel
theorem dX10_seeded_55 : decode cX10_seeded 55 = .ok (.iload 4, 2) := by decide +kernel
theorem dX10_seeded_57 : decode cX10_seeded 57 = .ok (.invokestatic 148, 3) := by decide +kernel
theorem dX10_seeded_60 : decode cX10_seeded 60 = .ok (.bipush 12, 2) := by decide +kernel
theorem dX10_seeded_62 : decode cX10_seeded 62 = .ok (.irem, 1) := by decide +kernel
theorem dX10_seeded_63 : decode cX10_seeded 63 = .ok (.istore 6, 2) := by decide +kernel
theorem dX10_seeded_65 : decode cX10_seeded 65 = .ok (.iload 4, 2) := by decide +kernel
theorem dX10_seeded_67 : decode cX10_seeded 67 = .ok (.invokestatic 145, 3) := by decide +kernel
theorem dX10_seeded_70 : decode cX10_seeded 70 = .ok (.istore 4, 2) := by decide +kernel
theorem dX10_seeded_72 : decode cX10_seeded 72 = .ok (.iload 4, 2) := by decide +kernel
theorem dX10_seeded_74 : decode cX10_seeded 74 = .ok (.invokestatic 148, 3) := by decide +kernel
theorem dX10_seeded_77 : decode cX10_seeded 77 = .ok (.bipush 9, 2) := by decide +kernel
theorem dX10_seeded_79 : decode cX10_seeded 79 = .ok (.irem, 1) := by decide +kernel
theorem dX10_seeded_80 : decode cX10_seeded 80 = .ok (.iconst 1, 1) := by decide +kernel
theorem dX10_seeded_81 : decode cX10_seeded 81 = .ok (.iadd, 1) := by decide +kernel
theorem dX10_seeded_82 : decode cX10_seeded 82 = .ok (.istore 7, 2) := by decide +kernel
theorem dX10_seeded_84 : decode cX10_seeded 84 = .ok (.aload_n 0, 1) := by decide +kernel
theorem dX10_seeded_85 : decode cX10_seeded 85 = .ok (.getfield 16, 3) := by decide +kernel
theorem dX10_seeded_88 : decode cX10_seeded 88 = .ok (.iload 6, 2) := by decide +kernel
theorem dX10_seeded_90 : decode cX10_seeded 90 = .ok (.invokevirtual 70, 3) := by decide +kernel
theorem dX10_seeded_93 : decode cX10_seeded 93 = .ok (.ifCond .eq 16, 3) := by decide +kernel
theorem dX10_seeded_96 : decode cX10_seeded 96 = .ok (.aload_n 0, 1) := by decide +kernel
theorem dX10_seeded_97 : decode cX10_seeded 97 = .ok (.getfield 16, 3) := by decide +kernel
theorem dX10_seeded_100 : decode cX10_seeded 100 = .ok (.iload 6, 2) := by decide +kernel
theorem dX10_seeded_102 : decode cX10_seeded 102 = .ok (.invokevirtual 48, 3) := by decide +kernel
theorem dX10_seeded_105 : decode cX10_seeded 105 = .ok (.pop, 1) := by decide +kernel
theorem dX10_seeded_106 : decode cX10_seeded 106 = .ok (.goto 15, 3) := by decide +kernel
theorem dX10_seeded_109 : decode cX10_seeded 109 = .ok (.aload_n 0, 1) := by decide +kernel
theorem dX10_seeded_110 : decode cX10_seeded 110 = .ok (.getfield 16, 3) := by decide +kernel
theorem dX10_seeded_113 : decode cX10_seeded 113 = .ok (.iload 6, 2) := by decide +kernel
theorem dX10_seeded_115 : decode cX10_seeded 115 = .ok (.iload 7, 2) := by decide +kernel
theorem dX10_seeded_117 : decode cX10_seeded 117 = .ok (.invokevirtual 44, 3) := by decide +kernel
theorem dX10_seeded_120 : decode cX10_seeded 120 = .ok (.pop, 1) := by decide +kernel
theorem dX10_seeded_121 : decode cX10_seeded 121 = .ok (.iinc 5 1, 3) := by decide +kernel
theorem dX10_seeded_124 : decode cX10_seeded 124 = .ok (.goto (-82), 3) := by decide +kernel
theorem dX10_seeded_127 : decode cX10_seeded 127 = .ok (.iload_n 3, 1) := by decide +kernel
theorem dX10_seeded_128 : decode cX10_seeded 128 = .ok (.ifCond .ne 13, 3) := by decide +kernel
theorem dX10_seeded_131 : decode cX10_seeded 131 = .ok (.aload_n 0, 1) := by decide +kernel
theorem dX10_seeded_132 : decode cX10_seeded 132 = .ok (.getfield 16, 3) := by decide +kernel
theorem dX10_seeded_135 : decode cX10_seeded 135 = .ok (.invokevirtual 95, 3) := by decide +kernel
theorem dX10_seeded_138 : decode cX10_seeded 138 = .ok (.goto 10, 3) := by decide +kernel
theorem dX10_seeded_141 : decode cX10_seeded 141 = .ok (.aload_n 0, 1) := by decide +kernel
theorem dX10_seeded_142 : decode cX10_seeded 142 = .ok (.getfield 16, 3) := by decide +kernel
theorem dX10_seeded_145 : decode cX10_seeded 145 = .ok (.invokevirtual 102, 3) := by decide +kernel
theorem dX10_seeded_148 : decode cX10_seeded 148 = .ok (.ireturn, 1) := by decide +kernel
theorem dX10_judge_0 : decode cX10_judge 0 = .ok (.aload_n 0, 1) := by decide +kernel
theorem dX10_judge_1 : decode cX10_judge 1 = .ok (.iload_n 1, 1) := by decide +kernel
theorem dX10_judge_2 : decode cX10_judge 2 = .ok (.invokevirtual 29, 3) := by decide +kernel
theorem dX10_judge_5 : decode cX10_judge 5 = .ok (.astore_n 2, 1) := by decide +kernel
theorem dX10_judge_6 : decode cX10_judge 6 = .ok (.aload_n 2, 1) := by decide +kernel
theorem dX10_judge_7 : decode cX10_judge 7 = .ok (.ifnonnull 5, 3) := by decide +kernel
theorem dX10_judge_10 : decode cX10_judge 10 = .ok (.iconst (-1), 1) := by decide +kernel
theorem dX10_judge_11 : decode cX10_judge 11 = .ok (.ireturn, 1) := by decide +kernel
theorem dX10_judge_12 : decode cX10_judge 12 = .ok (.aload_n 2, 1) := by decide +kernel
theorem dX10_judge_13 : decode cX10_judge 13 = .ok (.invokevirtual 151, 3) := by decide +kernel
theorem dX10_judge_16 : decode cX10_judge 16 = .ok (.istore_n 3, 1) := by decide +kernel
theorem dX10_judge_17 : decode cX10_judge 17 = .ok (.iload_n 3, 1) := by decide +kernel
theorem dX10_judge_18 : decode cX10_judge 18 = .ok (.ifCond .eq 5, 3) := by decide +kernel
theorem dX10_judge_21 : decode cX10_judge 21 = .ok (.iload_n 3, 1) := by decide +kernel
theorem dX10_judge_22 : decode cX10_judge 22 = .ok (.ireturn, 1) := by decide +kernel
theorem dX10_judge_23 : decode cX10_judge 23 = .ok (.aload_n 2, 1) := by decide +kernel
theorem dX10_judge_24 : decode cX10_judge 24 = .ok (.invokevirtual 154, 3) := by decide +kernel
theorem dX10_judge_27 : decode cX10_judge 27 = .ok (.istore 4, 2) := by decide +kernel
theorem dX10_judge_29 : decode cX10_judge 29 = .ok (.iconst 0, 1) := by decide +kernel
theorem dX10_judge_30 : decode cX10_judge 30 = .ok (.istore 5, 2) := by decide +kernel
theorem dX10_judge_32 : decode cX10_judge 32 = .ok (.iload 5, 2) := by decide +kernel
theorem dX10_judge_34 : decode cX10_judge 34 = .ok (.bipush 12, 2) := by decide +kernel
theorem dX10_judge_36 : decode cX10_judge 36 = .ok (.if_icmp .ge 50, 3) := by decide +kernel
theorem dX10_judge_39 : decode cX10_judge 39 = .ok (.iload 5, 2) := by decide +kernel
theorem dX10_judge_41 : decode cX10_judge 41 = .ok (.aload_n 2, 1) := by decide +kernel
theorem dX10_judge_42 : decode cX10_judge 42 = .ok (.getfield 157, 3) := by decide +kernel
theorem dX10_judge_45 : decode cX10_judge 45 = .ok (.if_icmp .ge 41, 3) := by decide +kernel
theorem dX10_judge_48 : decode cX10_judge 48 = .ok (.aload_n 2, 1) := by decide +kernel
theorem dX10_judge_49 : decode cX10_judge 49 = .ok (.iload 5, 2) := by decide +kernel
theorem dX10_judge_51 : decode cX10_judge 51 = .ok (.invokevirtual 160, 3) := by decide +kernel
theorem dX10_judge_54 : decode cX10_judge 54 = .ok (.istore 6, 2) := by decide +kernel
theorem dX10_judge_56 : decode cX10_judge 56 = .ok (.iload 6, 2) := by decide +kernel
theorem dX10_judge_58 : decode cX10_judge 58 = .ok (.iload 4, 2) := by decide +kernel
theorem dX10_judge_60 : decode cX10_judge 60 = .ok (.if_icmp .eq 20, 3) := by decide +kernel
theorem dX10_judge_63 : decode cX10_judge 63 = .ok (.iload 6, 2) := by decide +kernel
theorem dX10_judge_65 : decode cX10_judge 65 = .ok (.aload_n 0, 1) := by decide +kernel
theorem dX10_judge_66 : decode cX10_judge 66 = .ok (.getfield 12, 3) := by decide +kernel
theorem dX10_judge_69 : decode cX10_judge 69 = .ok (.iload 5, 2) := by decide +kernel
theorem dX10_judge_71 : decode cX10_judge 71 = .ok (.invokevirtual 73, 3) := by decide +kernel
theorem dX10_judge_74 : decode cX10_judge 74 = .ok (.if_icmp .eq 6, 3) := by decide +kernel
theorem dX10_judge_77 : decode cX10_judge 77 = .ok (.iload 5, 2) := by decide +kernel
theorem dX10_judge_79 : decode cX10_judge 79 = .ok (.ireturn, 1) := by decide +kernel
theorem dX10_judge_80 : decode cX10_judge 80 = .ok (.iinc 5 1, 3) := by decide +kernel
theorem dX10_judge_83 : decode cX10_judge 83 = .ok (.goto (-51), 3) := by decide +kernel
theorem dX10_judge_86 : decode cX10_judge 86 = .ok (.aload_n 2, 1) := by decide +kernel
theorem dX10_judge_87 : decode cX10_judge 87 = .ok (.getfield 157, 3) := by decide +kernel
theorem dX10_judge_90 : decode cX10_judge 90 = .ok (.bipush 12, 2) := by decide +kernel
theorem dX10_judge_92 : decode cX10_judge 92 = .ok (.if_icmp .ne 8, 3) := by decide +kernel
theorem dX10_judge_95 : decode cX10_judge 95 = .ok (.bipush (-4), 2) := by decide +kernel
theorem dX10_judge_97 : decode cX10_judge 97 = .ok (.goto 12, 3) := by decide +kernel
theorem dX10_judge_100 : decode cX10_judge 100 = .ok (.aload_n 2, 1) := by decide +kernel
theorem dX10_judge_101 : decode cX10_judge 101 = .ok (.getfield 157, 3) := by decide +kernel
theorem dX10_judge_104 : decode cX10_judge 104 = .ok (.bipush 12, 2) := by decide +kernel
theorem dX10_judge_106 : decode cX10_judge 106 = .ok (.invokestatic 163, 3) := by decide +kernel
theorem dX10_judge_109 : decode cX10_judge 109 = .ok (.ireturn, 1) := by decide +kernel
theorem dX10_image_0 : decode cX10_image 0 = .ok (.aload_n 0, 1) := by decide +kernel
theorem dX10_image_1 : decode cX10_image 1 = .ok (.getfield 19, 3) := by decide +kernel
theorem dX10_image_4 : decode cX10_image 4 = .ok (.aload_n 0, 1) := by decide +kernel
theorem dX10_image_5 : decode cX10_image 5 = .ok (.getfield 12, 3) := by decide +kernel
theorem dX10_image_8 : decode cX10_image 8 = .ok (.invokevirtual 168, 3) := by decide +kernel
theorem dX10_image_11 : decode cX10_image 11 = .ok (.aload_n 0, 1) := by decide +kernel
theorem dX10_image_12 : decode cX10_image 12 = .ok (.iconst 1, 1) := by decide +kernel
theorem dX10_image_13 : decode cX10_image 13 = .ok (.putfield 172, 3) := by decide +kernel
theorem dX10_image_16 : decode cX10_image 16 = .ok (.aload_n 0, 1) := by decide +kernel
theorem dX10_image_17 : decode cX10_image 17 = .ok (.getfield 12, 3) := by decide +kernel
theorem dX10_image_20 : decode cX10_image 20 = .ok (.getfield 176, 3) := by decide +kernel
theorem dX10_image_23 : decode cX10_image 23 = .ok (.ireturn, 1) := by decide +kernel
theorem dX10_restore_0 : decode cX10_restore 0 = .ok (.aload_n 0, 1) := by decide +kernel
theorem dX10_restore_1 : decode cX10_restore 1 = .ok (.getfield 172, 3) := by decide +kernel
theorem dX10_restore_4 : decode cX10_restore 4 = .ok (.ifCond .ne 6, 3) := by decide +kernel
theorem dX10_restore_7 : decode cX10_restore 7 = .ok (.bipush (-3), 2) := by decide +kernel
theorem dX10_restore_9 : decode cX10_restore 9 = .ok (.ireturn, 1) := by decide +kernel
theorem dX10_restore_10 : decode cX10_restore 10 = .ok (.aload_n 0, 1) := by decide +kernel
theorem dX10_restore_11 : decode cX10_restore 11 = .ok (.getfield 12, 3) := by decide +kernel
theorem dX10_restore_14 : decode cX10_restore 14 = .ok (.aload_n 0, 1) := by decide +kernel
theorem dX10_restore_15 : decode cX10_restore 15 = .ok (.getfield 19, 3) := by decide +kernel
theorem dX10_restore_18 : decode cX10_restore 18 = .ok (.invokevirtual 168, 3) := by decide +kernel
theorem dX10_restore_21 : decode cX10_restore 21 = .ok (.aload_n 0, 1) := by decide +kernel
theorem dX10_restore_22 : decode cX10_restore 22 = .ok (.getfield 12, 3) := by decide +kernel
theorem dX10_restore_25 : decode cX10_restore 25 = .ok (.getfield 176, 3) := by decide +kernel
theorem dX10_restore_28 : decode cX10_restore 28 = .ok (.ireturn, 1) := by decide +kernel
theorem dX10_count_0 : decode cX10_count 0 = .ok (.iload_n 1, 1) := by decide +kernel
theorem dX10_count_1 : decode cX10_count 1 = .ok (.tableswitch 93 0 5 #[39, 47, 55, 63, 71, 82], 39) := by decide +kernel
theorem dX10_count_40 : decode cX10_count 40 = .ok (.aload_n 0, 1) := by decide +kernel
theorem dX10_count_41 : decode cX10_count 41 = .ok (.getfield 12, 3) := by decide +kernel
theorem dX10_count_44 : decode cX10_count 44 = .ok (.invokevirtual 120, 3) := by decide +kernel
theorem dX10_count_47 : decode cX10_count 47 = .ok (.ireturn, 1) := by decide +kernel
theorem dX10_count_48 : decode cX10_count 48 = .ok (.aload_n 0, 1) := by decide +kernel
theorem dX10_count_49 : decode cX10_count 49 = .ok (.getfield 12, 3) := by decide +kernel
theorem dX10_count_52 : decode cX10_count 52 = .ok (.getfield 176, 3) := by decide +kernel
theorem dX10_count_55 : decode cX10_count 55 = .ok (.ireturn, 1) := by decide +kernel
theorem dX10_count_56 : decode cX10_count 56 = .ok (.aload_n 0, 1) := by decide +kernel
theorem dX10_count_57 : decode cX10_count 57 = .ok (.getfield 12, 3) := by decide +kernel
theorem dX10_count_60 : decode cX10_count 60 = .ok (.getfield 179, 3) := by decide +kernel
theorem dX10_count_63 : decode cX10_count 63 = .ok (.ireturn, 1) := by decide +kernel
theorem dX10_count_64 : decode cX10_count 64 = .ok (.aload_n 0, 1) := by decide +kernel
theorem dX10_count_65 : decode cX10_count 65 = .ok (.getfield 12, 3) := by decide +kernel
theorem dX10_count_68 : decode cX10_count 68 = .ok (.invokevirtual 182, 3) := by decide +kernel
theorem dX10_count_71 : decode cX10_count 71 = .ok (.ireturn, 1) := by decide +kernel
theorem dX10_count_72 : decode cX10_count 72 = .ok (.aload_n 0, 1) := by decide +kernel
theorem dX10_count_73 : decode cX10_count 73 = .ok (.getfield 12, 3) := by decide +kernel
theorem dX10_count_76 : decode cX10_count 76 = .ok (.getfield 59, 3) := by decide +kernel
theorem dX10_count_79 : decode cX10_count 79 = .ok (.getfield 60, 3) := by decide +kernel
theorem dX10_count_82 : decode cX10_count 82 = .ok (.ireturn, 1) := by decide +kernel
theorem dX10_count_83 : decode cX10_count 83 = .ok (.aload_n 0, 1) := by decide +kernel
theorem dX10_count_84 : decode cX10_count 84 = .ok (.getfield 12, 3) := by decide +kernel
theorem dX10_count_87 : decode cX10_count 87 = .ok (.getfield 59, 3) := by decide +kernel
theorem dX10_count_90 : decode cX10_count 90 = .ok (.getfield 185, 3) := by decide +kernel
theorem dX10_count_93 : decode cX10_count 93 = .ok (.ireturn, 1) := by decide +kernel
theorem dX10_count_94 : decode cX10_count 94 = .ok (.iconst (-1), 1) := by decide +kernel
theorem dX10_count_95 : decode cX10_count 95 = .ok (.ireturn, 1) := by decide +kernel
theorem dX10_keep_0 : decode cX10_keep 0 = .ok (.aload_n 0, 1) := by decide +kernel
theorem dX10_keep_1 : decode cX10_keep 1 = .ok (.iload_n 1, 1) := by decide +kernel
theorem dX10_keep_2 : decode cX10_keep 2 = .ok (.invokevirtual 29, 3) := by decide +kernel
theorem dX10_keep_5 : decode cX10_keep 5 = .ok (.astore 5, 2) := by decide +kernel
theorem dX10_keep_7 : decode cX10_keep 7 = .ok (.aload 5, 2) := by decide +kernel
theorem dX10_keep_9 : decode cX10_keep 9 = .ok (.ifnull 12, 3) := by decide +kernel
theorem dX10_keep_12 : decode cX10_keep 12 = .ok (.iload_n 2, 1) := by decide +kernel
theorem dX10_keep_13 : decode cX10_keep 13 = .ok (.ifCond .lt 8, 3) := by decide +kernel
theorem dX10_keep_16 : decode cX10_keep 16 = .ok (.iload_n 2, 1) := by decide +kernel
theorem dX10_keep_17 : decode cX10_keep 17 = .ok (.iconst 1, 1) := by decide +kernel
theorem dX10_keep_18 : decode cX10_keep 18 = .ok (.if_icmp .le 5, 3) := by decide +kernel
theorem dX10_keep_21 : decode cX10_keep 21 = .ok (.iconst (-1), 1) := by decide +kernel
theorem dX10_keep_22 : decode cX10_keep 22 = .ok (.ireturn, 1) := by decide +kernel
theorem dX10_keep_23 : decode cX10_keep 23 = .ok (.iload_n 2, 1) := by decide +kernel
theorem dX10_keep_24 : decode cX10_keep 24 = .ok (.ifCond .ne 11, 3) := by decide +kernel
theorem dX10_keep_27 : decode cX10_keep 27 = .ok (.aload 5, 2) := by decide +kernel
theorem dX10_keep_29 : decode cX10_keep 29 = .ok (.aconst_null, 1) := by decide +kernel
theorem dX10_keep_30 : decode cX10_keep 30 = .ok (.invokevirtual 188, 3) := by decide +kernel
theorem dX10_keep_33 : decode cX10_keep 33 = .ok (.iconst 0, 1) := by decide +kernel
theorem dX10_keep_34 : decode cX10_keep 34 = .ok (.ireturn, 1) := by decide +kernel
theorem dX10_keep_35 : decode cX10_keep 35 = .ok (.iload_n 3, 1) := by decide +kernel
theorem dX10_keep_36 : decode cX10_keep 36 = .ok (.iload 4, 2) := by decide +kernel
theorem dX10_keep_38 : decode cX10_keep 38 = .ok (.invokestatic 108, 3) := by decide +kernel
theorem dX10_keep_41 : decode cX10_keep 41 = .ok (.astore 6, 2) := by decide +kernel
theorem dX10_keep_43 : decode cX10_keep 43 = .ok (.aload 6, 2) := by decide +kernel
theorem dX10_keep_45 : decode cX10_keep 45 = .ok (.ifnonnull 5, 3) := by decide +kernel
theorem dX10_keep_48 : decode cX10_keep 48 = .ok (.iconst (-1), 1) := by decide +kernel
theorem dX10_keep_49 : decode cX10_keep 49 = .ok (.ireturn, 1) := by decide +kernel
theorem dX10_keep_50 : decode cX10_keep 50 = .ok (.aload 5, 2) := by decide +kernel
theorem dX10_keep_52 : decode cX10_keep 52 = .ok (.aload 6, 2) := by decide +kernel
theorem dX10_keep_54 : decode cX10_keep 54 = .ok (.invokevirtual 188, 3) := by decide +kernel
theorem dX10_keep_57 : decode cX10_keep 57 = .ok (.iconst 0, 1) := by decide +kernel
theorem dX10_keep_58 : decode cX10_keep 58 = .ok (.ireturn, 1) := by decide +kernel
theorem dX10_row_0 : decode cX10_row 0 = .ok (.aload_n 0, 1) := by decide +kernel
theorem dX10_row_1 : decode cX10_row 1 = .ok (.iload_n 1, 1) := by decide +kernel
theorem dX10_row_2 : decode cX10_row 2 = .ok (.invokevirtual 29, 3) := by decide +kernel
theorem dX10_row_5 : decode cX10_row 5 = .ok (.astore 4, 2) := by decide +kernel
theorem dX10_row_7 : decode cX10_row 7 = .ok (.aload 4, 2) := by decide +kernel
theorem dX10_row_9 : decode cX10_row 9 = .ok (.ifnull 18, 3) := by decide +kernel
theorem dX10_row_12 : decode cX10_row 12 = .ok (.iload_n 2, 1) := by decide +kernel
theorem dX10_row_13 : decode cX10_row 13 = .ok (.ifCond .lt 14, 3) := by decide +kernel
theorem dX10_row_16 : decode cX10_row 16 = .ok (.iload_n 2, 1) := by decide +kernel
theorem dX10_row_17 : decode cX10_row 17 = .ok (.iconst 2, 1) := by decide +kernel
theorem dX10_row_18 : decode cX10_row 18 = .ok (.if_icmp .gt 9, 3) := by decide +kernel
theorem dX10_row_21 : decode cX10_row 21 = .ok (.iload_n 3, 1) := by decide +kernel
theorem dX10_row_22 : decode cX10_row 22 = .ok (.bipush 100, 2) := by decide +kernel
theorem dX10_row_24 : decode cX10_row 24 = .ok (.if_icmp .le 5, 3) := by decide +kernel
theorem dX10_row_27 : decode cX10_row 27 = .ok (.iconst (-1), 1) := by decide +kernel
theorem dX10_row_28 : decode cX10_row 28 = .ok (.ireturn, 1) := by decide +kernel
theorem dX10_row_29 : decode cX10_row 29 = .ok (.iload_n 3, 1) := by decide +kernel
theorem dX10_row_30 : decode cX10_row 30 = .ok (.ifCond .ge 6, 3) := by decide +kernel
theorem dX10_row_33 : decode cX10_row 33 = .ok (.bipush (-14), 2) := by decide +kernel
theorem dX10_row_35 : decode cX10_row 35 = .ok (.ireturn, 1) := by decide +kernel
theorem dX10_row_36 : decode cX10_row 36 = .ok (.aload 4, 2) := by decide +kernel
theorem dX10_row_38 : decode cX10_row 38 = .ok (.iload_n 2, 1) := by decide +kernel
theorem dX10_row_39 : decode cX10_row 39 = .ok (.iload_n 3, 1) := by decide +kernel
theorem dX10_row_40 : decode cX10_row 40 = .ok (.invokevirtual 191, 3) := by decide +kernel
theorem dX10_row_43 : decode cX10_row 43 = .ok (.iconst 0, 1) := by decide +kernel
theorem dX10_row_44 : decode cX10_row 44 = .ok (.ireturn, 1) := by decide +kernel
theorem dX10_put_0 : decode cX10_put 0 = .ok (.aload_n 0, 1) := by decide +kernel
theorem dX10_put_1 : decode cX10_put 1 = .ok (.iload_n 1, 1) := by decide +kernel
theorem dX10_put_2 : decode cX10_put 2 = .ok (.invokevirtual 29, 3) := by decide +kernel
theorem dX10_put_5 : decode cX10_put 5 = .ok (.astore 4, 2) := by decide +kernel
theorem dX10_put_7 : decode cX10_put 7 = .ok (.aload 4, 2) := by decide +kernel
theorem dX10_put_9 : decode cX10_put 9 = .ok (.ifnonnull 5, 3) := by decide +kernel
theorem dX10_put_12 : decode cX10_put 12 = .ok (.iconst (-1), 1) := by decide +kernel
theorem dX10_put_13 : decode cX10_put 13 = .ok (.ireturn, 1) := by decide +kernel
theorem dX10_put_14 : decode cX10_put 14 = .ok (.aload 4, 2) := by decide +kernel
theorem dX10_put_16 : decode cX10_put 16 = .ok (.invokevirtual 151, 3) := by decide +kernel
theorem dX10_put_19 : decode cX10_put 19 = .ok (.istore 5, 2) := by decide +kernel
theorem dX10_put_21 : decode cX10_put 21 = .ok (.iload 5, 2) := by decide +kernel
theorem dX10_put_23 : decode cX10_put 23 = .ok (.ifCond .eq 6, 3) := by decide +kernel
theorem dX10_put_26 : decode cX10_put 26 = .ok (.iload 5, 2) := by decide +kernel
theorem dX10_put_28 : decode cX10_put 28 = .ok (.ireturn, 1) := by decide +kernel
theorem dX10_put_29 : decode cX10_put 29 = .ok (.aload 4, 2) := by decide +kernel
theorem dX10_put_31 : decode cX10_put 31 = .ok (.iload_n 2, 1) := by decide +kernel
theorem dX10_put_32 : decode cX10_put 32 = .ok (.invokevirtual 195, 3) := by decide +kernel
theorem dX10_put_35 : decode cX10_put 35 = .ok (.ifCond .ne 6, 3) := by decide +kernel
theorem dX10_put_38 : decode cX10_put 38 = .ok (.bipush (-13), 2) := by decide +kernel
theorem dX10_put_40 : decode cX10_put 40 = .ok (.ireturn, 1) := by decide +kernel
theorem dX10_put_41 : decode cX10_put 41 = .ok (.aload 4, 2) := by decide +kernel
theorem dX10_put_43 : decode cX10_put 43 = .ok (.iload_n 2, 1) := by decide +kernel
theorem dX10_put_44 : decode cX10_put 44 = .ok (.iload_n 3, 1) := by decide +kernel
theorem dX10_put_45 : decode cX10_put 45 = .ok (.invokevirtual 198, 3) := by decide +kernel
theorem dX10_put_48 : decode cX10_put 48 = .ok (.iconst 0, 1) := by decide +kernel
theorem dX10_put_49 : decode cX10_put 49 = .ok (.ireturn, 1) := by decide +kernel
theorem dX10_element_0 : decode cX10_element 0 = .ok (.aload_n 0, 1) := by decide +kernel
theorem dX10_element_1 : decode cX10_element 1 = .ok (.iload_n 1, 1) := by decide +kernel
theorem dX10_element_2 : decode cX10_element 2 = .ok (.invokevirtual 29, 3) := by decide +kernel
theorem dX10_element_5 : decode cX10_element 5 = .ok (.astore_n 3, 1) := by decide +kernel
theorem dX10_element_6 : decode cX10_element 6 = .ok (.aload_n 3, 1) := by decide +kernel
theorem dX10_element_7 : decode cX10_element 7 = .ok (.ifnonnull 13, 3) := by decide +kernel
theorem dX10_element_10 : decode cX10_element 10 = .ok (.new 201, 3) := by decide +kernel
theorem dX10_element_13 : decode cX10_element 13 = .ok (.dup, 1) := by decide +kernel
theorem dX10_element_14 : decode cX10_element 14 = .ok (.ldc 203, 2) := by decide +kernel
theorem dX10_element_16 : decode cX10_element 16 = .ok (.invokespecial 205, 3) := by decide +kernel
theorem dX10_element_19 : decode cX10_element 19 = .ok (.athrow, 1) := by decide +kernel
theorem dX10_element_20 : decode cX10_element 20 = .ok (.aload_n 3, 1) := by decide +kernel
theorem dX10_element_21 : decode cX10_element 21 = .ok (.invokevirtual 208, 3) := by decide +kernel
theorem dX10_element_24 : decode cX10_element 24 = .ok (.ifCond .eq 11, 3) := by decide +kernel
theorem dX10_element_27 : decode cX10_element 27 = .ok (.aload_n 3, 1) := by decide +kernel
theorem dX10_element_28 : decode cX10_element 28 = .ok (.iload_n 2, 1) := by decide +kernel
theorem dX10_element_29 : decode cX10_element 29 = .ok (.invokevirtual 195, 3) := by decide +kernel
theorem dX10_element_32 : decode cX10_element 32 = .ok (.ifCond .ne 13, 3) := by decide +kernel
theorem dX10_element_35 : decode cX10_element 35 = .ok (.new 212, 3) := by decide +kernel
theorem dX10_element_38 : decode cX10_element 38 = .ok (.dup, 1) := by decide +kernel
theorem dX10_element_39 : decode cX10_element 39 = .ok (.ldc 214, 2) := by decide +kernel
theorem dX10_element_41 : decode cX10_element 41 = .ok (.invokespecial 216, 3) := by decide +kernel
theorem dX10_element_44 : decode cX10_element 44 = .ok (.athrow, 1) := by decide +kernel
theorem dX10_element_45 : decode cX10_element 45 = .ok (.aload_n 3, 1) := by decide +kernel
theorem dX10_element_46 : decode cX10_element 46 = .ok (.iload_n 2, 1) := by decide +kernel
theorem dX10_element_47 : decode cX10_element 47 = .ok (.invokevirtual 160, 3) := by decide +kernel
theorem dX10_element_50 : decode cX10_element 50 = .ok (.i2l, 1) := by decide +kernel
theorem dX10_element_51 : decode cX10_element 51 = .ok (.lreturn, 1) := by decide +kernel
theorem dX10_copy_0 : decode cX10_copy 0 = .ok (.aload_n 0, 1) := by decide +kernel
theorem dX10_copy_1 : decode cX10_copy 1 = .ok (.iload_n 1, 1) := by decide +kernel
theorem dX10_copy_2 : decode cX10_copy 2 = .ok (.invokevirtual 29, 3) := by decide +kernel
theorem dX10_copy_5 : decode cX10_copy 5 = .ok (.astore 6, 2) := by decide +kernel
theorem dX10_copy_7 : decode cX10_copy 7 = .ok (.aload_n 0, 1) := by decide +kernel
theorem dX10_copy_8 : decode cX10_copy 8 = .ok (.iload_n 3, 1) := by decide +kernel
theorem dX10_copy_9 : decode cX10_copy 9 = .ok (.invokevirtual 29, 3) := by decide +kernel
theorem dX10_copy_12 : decode cX10_copy 12 = .ok (.astore 7, 2) := by decide +kernel
theorem dX10_copy_14 : decode cX10_copy 14 = .ok (.aload 6, 2) := by decide +kernel
theorem dX10_copy_16 : decode cX10_copy 16 = .ok (.ifnull 8, 3) := by decide +kernel
theorem dX10_copy_19 : decode cX10_copy 19 = .ok (.aload 7, 2) := by decide +kernel
theorem dX10_copy_21 : decode cX10_copy 21 = .ok (.ifnonnull 5, 3) := by decide +kernel
theorem dX10_copy_24 : decode cX10_copy 24 = .ok (.iconst (-1), 1) := by decide +kernel
theorem dX10_copy_25 : decode cX10_copy 25 = .ok (.ireturn, 1) := by decide +kernel
theorem dX10_copy_26 : decode cX10_copy 26 = .ok (.aload 6, 2) := by decide +kernel
theorem dX10_copy_28 : decode cX10_copy 28 = .ok (.invokevirtual 217, 3) := by decide +kernel
theorem dX10_copy_31 : decode cX10_copy 31 = .ok (.ifCond .ne 11, 3) := by decide +kernel
theorem dX10_copy_34 : decode cX10_copy 34 = .ok (.aload 7, 2) := by decide +kernel
theorem dX10_copy_36 : decode cX10_copy 36 = .ok (.invokevirtual 217, 3) := by decide +kernel
theorem dX10_copy_39 : decode cX10_copy 39 = .ok (.ifCond .eq 6, 3) := by decide +kernel
theorem dX10_copy_42 : decode cX10_copy 42 = .ok (.bipush (-11), 2) := by decide +kernel
theorem dX10_copy_44 : decode cX10_copy 44 = .ok (.ireturn, 1) := by decide +kernel
theorem dX10_copy_45 : decode cX10_copy 45 = .ok (.aload 6, 2) := by decide +kernel
theorem dX10_copy_47 : decode cX10_copy 47 = .ok (.invokevirtual 208, 3) := by decide +kernel
theorem dX10_copy_50 : decode cX10_copy 50 = .ok (.ifCond .eq 16, 3) := by decide +kernel
theorem dX10_copy_53 : decode cX10_copy 53 = .ok (.aload 6, 2) := by decide +kernel
theorem dX10_copy_55 : decode cX10_copy 55 = .ok (.getfield 220, 3) := by decide +kernel
theorem dX10_copy_58 : decode cX10_copy 58 = .ok (.aload 7, 2) := by decide +kernel
theorem dX10_copy_60 : decode cX10_copy 60 = .ok (.getfield 220, 3) := by decide +kernel
theorem dX10_copy_63 : decode cX10_copy 63 = .ok (.if_icmp .eq 6, 3) := by decide +kernel
theorem dX10_copy_66 : decode cX10_copy 66 = .ok (.bipush (-12), 2) := by decide +kernel
theorem dX10_copy_68 : decode cX10_copy 68 = .ok (.ireturn, 1) := by decide +kernel
theorem dX10_copy_69 : decode cX10_copy 69 = .ok (.aload 6, 2) := by decide +kernel
theorem dX10_copy_71 : decode cX10_copy 71 = .ok (.iload_n 2, 1) := by decide +kernel
theorem dX10_copy_72 : decode cX10_copy 72 = .ok (.iload 5, 2) := by decide +kernel
theorem dX10_copy_74 : decode cX10_copy 74 = .ok (.invokevirtual 223, 3) := by decide +kernel
theorem dX10_copy_77 : decode cX10_copy 77 = .ok (.ifCond .eq 15, 3) := by decide +kernel
theorem dX10_copy_80 : decode cX10_copy 80 = .ok (.aload 7, 2) := by decide +kernel
theorem dX10_copy_82 : decode cX10_copy 82 = .ok (.iload 4, 2) := by decide +kernel
theorem dX10_copy_84 : decode cX10_copy 84 = .ok (.iload 5, 2) := by decide +kernel
theorem dX10_copy_86 : decode cX10_copy 86 = .ok (.invokevirtual 223, 3) := by decide +kernel
theorem dX10_copy_89 : decode cX10_copy 89 = .ok (.ifCond .ne 6, 3) := by decide +kernel
theorem dX10_copy_92 : decode cX10_copy 92 = .ok (.bipush (-13), 2) := by decide +kernel
theorem dX10_copy_94 : decode cX10_copy 94 = .ok (.ireturn, 1) := by decide +kernel
theorem dX10_copy_95 : decode cX10_copy 95 = .ok (.aload 6, 2) := by decide +kernel
theorem dX10_copy_97 : decode cX10_copy 97 = .ok (.getfield 227, 3) := by decide +kernel
theorem dX10_copy_100 : decode cX10_copy 100 = .ok (.iload_n 2, 1) := by decide +kernel
theorem dX10_copy_101 : decode cX10_copy 101 = .ok (.aload 7, 2) := by decide +kernel
theorem dX10_copy_103 : decode cX10_copy 103 = .ok (.getfield 227, 3) := by decide +kernel
theorem dX10_copy_106 : decode cX10_copy 106 = .ok (.iload 4, 2) := by decide +kernel
theorem dX10_copy_108 : decode cX10_copy 108 = .ok (.iload 5, 2) := by decide +kernel
theorem dX10_copy_110 : decode cX10_copy 110 = .ok (.invokestatic 231, 3) := by decide +kernel
theorem dX10_copy_113 : decode cX10_copy 113 = .ok (.iload 5, 2) := by decide +kernel
theorem dX10_copy_115 : decode cX10_copy 115 = .ok (.ireturn, 1) := by decide +kernel
theorem dX10_tax_0 : decode cX10_tax 0 = .ok (.aload_n 0, 1) := by decide +kernel
theorem dX10_tax_1 : decode cX10_tax 1 = .ok (.iload_n 1, 1) := by decide +kernel
theorem dX10_tax_2 : decode cX10_tax 2 = .ok (.invokevirtual 29, 3) := by decide +kernel
theorem dX10_tax_5 : decode cX10_tax 5 = .ok (.astore_n 2, 1) := by decide +kernel
theorem dX10_tax_6 : decode cX10_tax 6 = .ok (.aload_n 2, 1) := by decide +kernel
theorem dX10_tax_7 : decode cX10_tax 7 = .ok (.ifnonnull 5, 3) := by decide +kernel
theorem dX10_tax_10 : decode cX10_tax 10 = .ok (.iconst (-1), 1) := by decide +kernel
theorem dX10_tax_11 : decode cX10_tax 11 = .ok (.ireturn, 1) := by decide +kernel
theorem dX10_tax_12 : decode cX10_tax 12 = .ok (.aload_n 2, 1) := by decide +kernel
theorem dX10_tax_13 : decode cX10_tax 13 = .ok (.getfield 51, 3) := by decide +kernel
theorem dX10_tax_16 : decode cX10_tax 16 = .ok (.astore_n 3, 1) := by decide +kernel
theorem dX10_tax_17 : decode cX10_tax 17 = .ok (.aload_n 3, 1) := by decide +kernel
theorem dX10_tax_18 : decode cX10_tax 18 = .ok (.ifnonnull 10, 3) := by decide +kernel
theorem dX10_tax_21 : decode cX10_tax 21 = .ok (.aload_n 2, 1) := by decide +kernel
theorem dX10_tax_22 : decode cX10_tax 22 = .ok (.invokevirtual 55, 3) := by decide +kernel
theorem dX10_tax_25 : decode cX10_tax 25 = .ok (.goto 7, 3) := by decide +kernel
theorem dX10_tax_28 : decode cX10_tax 28 = .ok (.aload_n 3, 1) := by decide +kernel
theorem dX10_tax_29 : decode cX10_tax 29 = .ok (.invokevirtual 237, 3) := by decide +kernel
theorem dX10_tax_32 : decode cX10_tax 32 = .ok (.ireturn, 1) := by decide +kernel
theorem dX10_toss_0 : decode cX10_toss 0 = .ok (.aload_n 0, 1) := by decide +kernel
theorem dX10_toss_1 : decode cX10_toss 1 = .ok (.iload_n 1, 1) := by decide +kernel
theorem dX10_toss_2 : decode cX10_toss 2 = .ok (.invokevirtual 29, 3) := by decide +kernel
theorem dX10_toss_5 : decode cX10_toss 5 = .ok (.astore_n 2, 1) := by decide +kernel
theorem dX10_toss_6 : decode cX10_toss 6 = .ok (.aload_n 2, 1) := by decide +kernel
theorem dX10_toss_7 : decode cX10_toss 7 = .ok (.ifnonnull 5, 3) := by decide +kernel
theorem dX10_toss_10 : decode cX10_toss 10 = .ok (.iconst (-1), 1) := by decide +kernel
theorem dX10_toss_11 : decode cX10_toss 11 = .ok (.ireturn, 1) := by decide +kernel
theorem dX10_toss_12 : decode cX10_toss 12 = .ok (.aload_n 2, 1) := by decide +kernel
theorem dX10_toss_13 : decode cX10_toss 13 = .ok (.getfield 51, 3) := by decide +kernel
theorem dX10_toss_16 : decode cX10_toss 16 = .ok (.astore_n 3, 1) := by decide +kernel
theorem dX10_toss_17 : decode cX10_toss 17 = .ok (.aload_n 3, 1) := by decide +kernel
theorem dX10_toss_18 : decode cX10_toss 18 = .ok (.ifnonnull 10, 3) := by decide +kernel
theorem dX10_toss_21 : decode cX10_toss 21 = .ok (.aload_n 2, 1) := by decide +kernel
theorem dX10_toss_22 : decode cX10_toss 22 = .ok (.invokevirtual 55, 3) := by decide +kernel
theorem dX10_toss_25 : decode cX10_toss 25 = .ok (.goto 7, 3) := by decide +kernel
theorem dX10_toss_28 : decode cX10_toss 28 = .ok (.aload_n 3, 1) := by decide +kernel
theorem dX10_toss_29 : decode cX10_toss 29 = .ok (.invokestatic 240, 3) := by decide +kernel
theorem dX10_toss_32 : decode cX10_toss 32 = .ok (.ireturn, 1) := by decide +kernel
theorem dX10_isPlot_0 : decode cX10_isPlot 0 = .ok (.iload_n 0, 1) := by decide +kernel
theorem dX10_isPlot_1 : decode cX10_isPlot 1 = .ok (.ifCond .lt 13, 3) := by decide +kernel
theorem dX10_isPlot_4 : decode cX10_isPlot 4 = .ok (.iload_n 0, 1) := by decide +kernel
theorem dX10_isPlot_5 : decode cX10_isPlot 5 = .ok (.bipush 12, 2) := by decide +kernel
theorem dX10_isPlot_7 : decode cX10_isPlot 7 = .ok (.if_icmp .ge 7, 3) := by decide +kernel
theorem dX10_isPlot_10 : decode cX10_isPlot 10 = .ok (.iconst 1, 1) := by decide +kernel
theorem dX10_isPlot_11 : decode cX10_isPlot 11 = .ok (.goto 4, 3) := by decide +kernel
theorem dX10_isPlot_14 : decode cX10_isPlot 14 = .ok (.iconst 0, 1) := by decide +kernel
theorem dX10_isPlot_15 : decode cX10_isPlot 15 = .ok (.ireturn, 1) := by decide +kernel
theorem dX10_isHeight_0 : decode cX10_isHeight 0 = .ok (.iload_n 0, 1) := by decide +kernel
theorem dX10_isHeight_1 : decode cX10_isHeight 1 = .ok (.iconst 1, 1) := by decide +kernel
theorem dX10_isHeight_2 : decode cX10_isHeight 2 = .ok (.if_icmp .lt 13, 3) := by decide +kernel
theorem dX10_isHeight_5 : decode cX10_isHeight 5 = .ok (.iload_n 0, 1) := by decide +kernel
theorem dX10_isHeight_6 : decode cX10_isHeight 6 = .ok (.bipush 9, 2) := by decide +kernel
theorem dX10_isHeight_8 : decode cX10_isHeight 8 = .ok (.if_icmp .gt 7, 3) := by decide +kernel
theorem dX10_isHeight_11 : decode cX10_isHeight 11 = .ok (.iconst 1, 1) := by decide +kernel
theorem dX10_isHeight_12 : decode cX10_isHeight 12 = .ok (.goto 4, 3) := by decide +kernel
theorem dX10_isHeight_15 : decode cX10_isHeight 15 = .ok (.iconst 0, 1) := by decide +kernel
theorem dX10_isHeight_16 : decode cX10_isHeight 16 = .ok (.ireturn, 1) := by decide +kernel
theorem dX10_shelfAt_0 : decode cX10_shelfAt 0 = .ok (.iload_n 1, 1) := by decide +kernel
theorem dX10_shelfAt_1 : decode cX10_shelfAt 1 = .ok (.ifCond .lt 21, 3) := by decide +kernel
theorem dX10_shelfAt_4 : decode cX10_shelfAt 4 = .ok (.iload_n 1, 1) := by decide +kernel
theorem dX10_shelfAt_5 : decode cX10_shelfAt 5 = .ok (.aload_n 0, 1) := by decide +kernel
theorem dX10_shelfAt_6 : decode cX10_shelfAt 6 = .ok (.getfield 24, 3) := by decide +kernel
theorem dX10_shelfAt_9 : decode cX10_shelfAt 9 = .ok (.arraylength, 1) := by decide +kernel
theorem dX10_shelfAt_10 : decode cX10_shelfAt 10 = .ok (.if_icmp .ge 12, 3) := by decide +kernel
theorem dX10_shelfAt_13 : decode cX10_shelfAt 13 = .ok (.aload_n 0, 1) := by decide +kernel
theorem dX10_shelfAt_14 : decode cX10_shelfAt 14 = .ok (.getfield 24, 3) := by decide +kernel
theorem dX10_shelfAt_17 : decode cX10_shelfAt 17 = .ok (.iload_n 1, 1) := by decide +kernel
theorem dX10_shelfAt_18 : decode cX10_shelfAt 18 = .ok (.aaload, 1) := by decide +kernel
theorem dX10_shelfAt_19 : decode cX10_shelfAt 19 = .ok (.goto 4, 3) := by decide +kernel
theorem dX10_shelfAt_22 : decode cX10_shelfAt 22 = .ok (.aconst_null, 1) := by decide +kernel
theorem dX10_shelfAt_23 : decode cX10_shelfAt 23 = .ok (.areturn, 1) := by decide +kernel
theorem dX10_lawOf_0 : decode cX10_lawOf 0 = .ok (.iload_n 1, 1) := by decide +kernel
theorem dX10_lawOf_1 : decode cX10_lawOf 1 = .ok (.ifCond .lt 9, 3) := by decide +kernel
theorem dX10_lawOf_4 : decode cX10_lawOf 4 = .ok (.iload_n 1, 1) := by decide +kernel
theorem dX10_lawOf_5 : decode cX10_lawOf 5 = .ok (.bipush 9, 2) := by decide +kernel
theorem dX10_lawOf_7 : decode cX10_lawOf 7 = .ok (.if_icmp .le 5, 3) := by decide +kernel
theorem dX10_lawOf_10 : decode cX10_lawOf 10 = .ok (.aconst_null, 1) := by decide +kernel
theorem dX10_lawOf_11 : decode cX10_lawOf 11 = .ok (.areturn, 1) := by decide +kernel
theorem dX10_lawOf_12 : decode cX10_lawOf 12 = .ok (.iload_n 0, 1) := by decide +kernel
theorem dX10_lawOf_13 : decode cX10_lawOf 13 = .ok (.tableswitch 127 0 7 #[47, 57, 67, 77, 87, 97, 107, 117], 47) := by decide +kernel
theorem dX10_lawOf_60 : decode cX10_lawOf 60 = .ok (.new 61, 3) := by decide +kernel
theorem dX10_lawOf_63 : decode cX10_lawOf 63 = .ok (.dup, 1) := by decide +kernel
theorem dX10_lawOf_64 : decode cX10_lawOf 64 = .ok (.iload_n 0, 1) := by decide +kernel
theorem dX10_lawOf_65 : decode cX10_lawOf 65 = .ok (.iload_n 1, 1) := by decide +kernel
theorem dX10_lawOf_66 : decode cX10_lawOf 66 = .ok (.invokespecial 244, 3) := by decide +kernel
theorem dX10_lawOf_69 : decode cX10_lawOf 69 = .ok (.areturn, 1) := by decide +kernel
theorem dX10_lawOf_70 : decode cX10_lawOf 70 = .ok (.new 246, 3) := by decide +kernel
theorem dX10_lawOf_73 : decode cX10_lawOf 73 = .ok (.dup, 1) := by decide +kernel
theorem dX10_lawOf_74 : decode cX10_lawOf 74 = .ok (.iload_n 0, 1) := by decide +kernel
theorem dX10_lawOf_75 : decode cX10_lawOf 75 = .ok (.iload_n 1, 1) := by decide +kernel
theorem dX10_lawOf_76 : decode cX10_lawOf 76 = .ok (.invokespecial 248, 3) := by decide +kernel
theorem dX10_lawOf_79 : decode cX10_lawOf 79 = .ok (.areturn, 1) := by decide +kernel
theorem dX10_lawOf_80 : decode cX10_lawOf 80 = .ok (.new 249, 3) := by decide +kernel
theorem dX10_lawOf_83 : decode cX10_lawOf 83 = .ok (.dup, 1) := by decide +kernel
theorem dX10_lawOf_84 : decode cX10_lawOf 84 = .ok (.iload_n 0, 1) := by decide +kernel
theorem dX10_lawOf_85 : decode cX10_lawOf 85 = .ok (.iload_n 1, 1) := by decide +kernel
theorem dX10_lawOf_86 : decode cX10_lawOf 86 = .ok (.invokespecial 251, 3) := by decide +kernel
theorem dX10_lawOf_89 : decode cX10_lawOf 89 = .ok (.areturn, 1) := by decide +kernel
theorem dX10_lawOf_90 : decode cX10_lawOf 90 = .ok (.new 252, 3) := by decide +kernel
theorem dX10_lawOf_93 : decode cX10_lawOf 93 = .ok (.dup, 1) := by decide +kernel
theorem dX10_lawOf_94 : decode cX10_lawOf 94 = .ok (.iload_n 0, 1) := by decide +kernel
theorem dX10_lawOf_95 : decode cX10_lawOf 95 = .ok (.iload_n 1, 1) := by decide +kernel
theorem dX10_lawOf_96 : decode cX10_lawOf 96 = .ok (.invokespecial 254, 3) := by decide +kernel
theorem dX10_lawOf_99 : decode cX10_lawOf 99 = .ok (.areturn, 1) := by decide +kernel
theorem dX10_lawOf_100 : decode cX10_lawOf 100 = .ok (.new 255, 3) := by decide +kernel
theorem dX10_lawOf_103 : decode cX10_lawOf 103 = .ok (.dup, 1) := by decide +kernel
theorem dX10_lawOf_104 : decode cX10_lawOf 104 = .ok (.iload_n 0, 1) := by decide +kernel
theorem dX10_lawOf_105 : decode cX10_lawOf 105 = .ok (.iload_n 1, 1) := by decide +kernel
theorem dX10_lawOf_106 : decode cX10_lawOf 106 = .ok (.invokespecial 257, 3) := by decide +kernel
theorem dX10_lawOf_109 : decode cX10_lawOf 109 = .ok (.areturn, 1) := by decide +kernel
theorem dX10_lawOf_110 : decode cX10_lawOf 110 = .ok (.new 258, 3) := by decide +kernel
theorem dX10_lawOf_113 : decode cX10_lawOf 113 = .ok (.dup, 1) := by decide +kernel
theorem dX10_lawOf_114 : decode cX10_lawOf 114 = .ok (.iload_n 0, 1) := by decide +kernel
theorem dX10_lawOf_115 : decode cX10_lawOf 115 = .ok (.iload_n 1, 1) := by decide +kernel
theorem dX10_lawOf_116 : decode cX10_lawOf 116 = .ok (.invokespecial 260, 3) := by decide +kernel
theorem dX10_lawOf_119 : decode cX10_lawOf 119 = .ok (.areturn, 1) := by decide +kernel
theorem dX10_lawOf_120 : decode cX10_lawOf 120 = .ok (.new 261, 3) := by decide +kernel
theorem dX10_lawOf_123 : decode cX10_lawOf 123 = .ok (.dup, 1) := by decide +kernel
theorem dX10_lawOf_124 : decode cX10_lawOf 124 = .ok (.iload_n 0, 1) := by decide +kernel
theorem dX10_lawOf_125 : decode cX10_lawOf 125 = .ok (.iload_n 1, 1) := by decide +kernel
theorem dX10_lawOf_126 : decode cX10_lawOf 126 = .ok (.invokespecial 263, 3) := by decide +kernel
theorem dX10_lawOf_129 : decode cX10_lawOf 129 = .ok (.areturn, 1) := by decide +kernel
theorem dX10_lawOf_130 : decode cX10_lawOf 130 = .ok (.new 264, 3) := by decide +kernel
theorem dX10_lawOf_133 : decode cX10_lawOf 133 = .ok (.dup, 1) := by decide +kernel
theorem dX10_lawOf_134 : decode cX10_lawOf 134 = .ok (.iload_n 0, 1) := by decide +kernel
theorem dX10_lawOf_135 : decode cX10_lawOf 135 = .ok (.iload_n 1, 1) := by decide +kernel
theorem dX10_lawOf_136 : decode cX10_lawOf 136 = .ok (.invokespecial 266, 3) := by decide +kernel
theorem dX10_lawOf_139 : decode cX10_lawOf 139 = .ok (.areturn, 1) := by decide +kernel
theorem dX10_lawOf_140 : decode cX10_lawOf 140 = .ok (.aconst_null, 1) := by decide +kernel
theorem dX10_lawOf_141 : decode cX10_lawOf 141 = .ok (.areturn, 1) := by decide +kernel
theorem dX10_stuckAt_0 : decode cX10_stuckAt 0 = .ok (.iconst 0, 1) := by decide +kernel
theorem dX10_stuckAt_1 : decode cX10_stuckAt 1 = .ok (.istore_n 1, 1) := by decide +kernel
theorem dX10_stuckAt_2 : decode cX10_stuckAt 2 = .ok (.iconst 0, 1) := by decide +kernel
theorem dX10_stuckAt_3 : decode cX10_stuckAt 3 = .ok (.istore_n 2, 1) := by decide +kernel
theorem dX10_stuckAt_4 : decode cX10_stuckAt 4 = .ok (.iload_n 2, 1) := by decide +kernel
theorem dX10_stuckAt_5 : decode cX10_stuckAt 5 = .ok (.aload_n 0, 1) := by decide +kernel
theorem dX10_stuckAt_6 : decode cX10_stuckAt 6 = .ok (.getfield 157, 3) := by decide +kernel
theorem dX10_stuckAt_9 : decode cX10_stuckAt 9 = .ok (.if_icmp .ge 41, 3) := by decide +kernel
theorem dX10_stuckAt_12 : decode cX10_stuckAt 12 = .ok (.iload_n 1, 1) := by decide +kernel
theorem dX10_stuckAt_13 : decode cX10_stuckAt 13 = .ok (.aload_n 0, 1) := by decide +kernel
theorem dX10_stuckAt_14 : decode cX10_stuckAt 14 = .ok (.getfield 157, 3) := by decide +kernel
theorem dX10_stuckAt_17 : decode cX10_stuckAt 17 = .ok (.if_icmp .ge 33, 3) := by decide +kernel
theorem dX10_stuckAt_20 : decode cX10_stuckAt 20 = .ok (.aload_n 0, 1) := by decide +kernel
theorem dX10_stuckAt_21 : decode cX10_stuckAt 21 = .ok (.iload_n 1, 1) := by decide +kernel
theorem dX10_stuckAt_22 : decode cX10_stuckAt 22 = .ok (.invokestatic 267, 3) := by decide +kernel
theorem dX10_stuckAt_25 : decode cX10_stuckAt 25 = .ok (.istore_n 3, 1) := by decide +kernel
theorem dX10_stuckAt_26 : decode cX10_stuckAt 26 = .ok (.iload_n 3, 1) := by decide +kernel
theorem dX10_stuckAt_27 : decode cX10_stuckAt 27 = .ok (.iconst (-1), 1) := by decide +kernel
theorem dX10_stuckAt_28 : decode cX10_stuckAt 28 = .ok (.if_icmp .eq 5, 3) := by decide +kernel
theorem dX10_stuckAt_31 : decode cX10_stuckAt 31 = .ok (.iload_n 3, 1) := by decide +kernel
theorem dX10_stuckAt_32 : decode cX10_stuckAt 32 = .ok (.ireturn, 1) := by decide +kernel
theorem dX10_stuckAt_33 : decode cX10_stuckAt 33 = .ok (.iload_n 1, 1) := by decide +kernel
theorem dX10_stuckAt_34 : decode cX10_stuckAt 34 = .ok (.aload_n 0, 1) := by decide +kernel
theorem dX10_stuckAt_35 : decode cX10_stuckAt 35 = .ok (.iload_n 1, 1) := by decide +kernel
theorem dX10_stuckAt_36 : decode cX10_stuckAt 36 = .ok (.invokevirtual 160, 3) := by decide +kernel
theorem dX10_stuckAt_39 : decode cX10_stuckAt 39 = .ok (.invokestatic 270, 3) := by decide +kernel
theorem dX10_stuckAt_42 : decode cX10_stuckAt 42 = .ok (.iadd, 1) := by decide +kernel
theorem dX10_stuckAt_43 : decode cX10_stuckAt 43 = .ok (.istore_n 1, 1) := by decide +kernel
theorem dX10_stuckAt_44 : decode cX10_stuckAt 44 = .ok (.iinc 2 1, 3) := by decide +kernel
theorem dX10_stuckAt_47 : decode cX10_stuckAt 47 = .ok (.goto (-43), 3) := by decide +kernel
theorem dX10_stuckAt_50 : decode cX10_stuckAt 50 = .ok (.aload_n 0, 1) := by decide +kernel
theorem dX10_stuckAt_51 : decode cX10_stuckAt 51 = .ok (.getfield 157, 3) := by decide +kernel
theorem dX10_stuckAt_54 : decode cX10_stuckAt 54 = .ok (.ifCond .ne 7, 3) := by decide +kernel
theorem dX10_stuckAt_57 : decode cX10_stuckAt 57 = .ok (.iconst 0, 1) := by decide +kernel
theorem dX10_stuckAt_58 : decode cX10_stuckAt 58 = .ok (.goto 4, 3) := by decide +kernel
theorem dX10_stuckAt_61 : decode cX10_stuckAt 61 = .ok (.iconst (-1), 1) := by decide +kernel
theorem dX10_stuckAt_62 : decode cX10_stuckAt 62 = .ok (.ireturn, 1) := by decide +kernel
theorem dX10_stuckInStatement_0 : decode cX10_stuckInStatement 0 = .ok (.aload_n 0, 1) := by decide +kernel
theorem dX10_stuckInStatement_1 : decode cX10_stuckInStatement 1 = .ok (.iload_n 1, 1) := by decide +kernel
theorem dX10_stuckInStatement_2 : decode cX10_stuckInStatement 2 = .ok (.invokevirtual 160, 3) := by decide +kernel
theorem dX10_stuckInStatement_5 : decode cX10_stuckInStatement 5 = .ok (.invokestatic 273, 3) := by decide +kernel
theorem dX10_stuckInStatement_8 : decode cX10_stuckInStatement 8 = .ok (.istore_n 2, 1) := by decide +kernel
theorem dX10_stuckInStatement_9 : decode cX10_stuckInStatement 9 = .ok (.iload_n 2, 1) := by decide +kernel
theorem dX10_stuckInStatement_10 : decode cX10_stuckInStatement 10 = .ok (.ifCond .ne 5, 3) := by decide +kernel
theorem dX10_stuckInStatement_13 : decode cX10_stuckInStatement 13 = .ok (.iload_n 1, 1) := by decide +kernel
theorem dX10_stuckInStatement_14 : decode cX10_stuckInStatement 14 = .ok (.ireturn, 1) := by decide +kernel
theorem dX10_stuckInStatement_15 : decode cX10_stuckInStatement 15 = .ok (.iload_n 1, 1) := by decide +kernel
theorem dX10_stuckInStatement_16 : decode cX10_stuckInStatement 16 = .ok (.iload_n 2, 1) := by decide +kernel
theorem dX10_stuckInStatement_17 : decode cX10_stuckInStatement 17 = .ok (.iadd, 1) := by decide +kernel
theorem dX10_stuckInStatement_18 : decode cX10_stuckInStatement 18 = .ok (.iconst 1, 1) := by decide +kernel
theorem dX10_stuckInStatement_19 : decode cX10_stuckInStatement 19 = .ok (.iadd, 1) := by decide +kernel
theorem dX10_stuckInStatement_20 : decode cX10_stuckInStatement 20 = .ok (.istore_n 3, 1) := by decide +kernel
theorem dX10_stuckInStatement_21 : decode cX10_stuckInStatement 21 = .ok (.iload_n 1, 1) := by decide +kernel
theorem dX10_stuckInStatement_22 : decode cX10_stuckInStatement 22 = .ok (.iconst 1, 1) := by decide +kernel
theorem dX10_stuckInStatement_23 : decode cX10_stuckInStatement 23 = .ok (.iadd, 1) := by decide +kernel
theorem dX10_stuckInStatement_24 : decode cX10_stuckInStatement 24 = .ok (.istore 4, 2) := by decide +kernel
theorem dX10_stuckInStatement_26 : decode cX10_stuckInStatement 26 = .ok (.iload 4, 2) := by decide +kernel
theorem dX10_stuckInStatement_28 : decode cX10_stuckInStatement 28 = .ok (.iload_n 3, 1) := by decide +kernel
theorem dX10_stuckInStatement_29 : decode cX10_stuckInStatement 29 = .ok (.if_icmp .ge 34, 3) := by decide +kernel
theorem dX10_stuckInStatement_32 : decode cX10_stuckInStatement 32 = .ok (.aload_n 0, 1) := by decide +kernel
theorem dX10_stuckInStatement_33 : decode cX10_stuckInStatement 33 = .ok (.iload 4, 2) := by decide +kernel
theorem dX10_stuckInStatement_35 : decode cX10_stuckInStatement 35 = .ok (.invokevirtual 160, 3) := by decide +kernel
theorem dX10_stuckInStatement_38 : decode cX10_stuckInStatement 38 = .ok (.bipush 48, 2) := by decide +kernel
theorem dX10_stuckInStatement_40 : decode cX10_stuckInStatement 40 = .ok (.if_icmp .lt 14, 3) := by decide +kernel
theorem dX10_stuckInStatement_43 : decode cX10_stuckInStatement 43 = .ok (.aload_n 0, 1) := by decide +kernel
theorem dX10_stuckInStatement_44 : decode cX10_stuckInStatement 44 = .ok (.iload 4, 2) := by decide +kernel
theorem dX10_stuckInStatement_46 : decode cX10_stuckInStatement 46 = .ok (.invokevirtual 160, 3) := by decide +kernel
theorem dX10_stuckInStatement_49 : decode cX10_stuckInStatement 49 = .ok (.bipush 57, 2) := by decide +kernel
theorem dX10_stuckInStatement_51 : decode cX10_stuckInStatement 51 = .ok (.if_icmp .le 6, 3) := by decide +kernel
theorem dX10_stuckInStatement_54 : decode cX10_stuckInStatement 54 = .ok (.iload 4, 2) := by decide +kernel
theorem dX10_stuckInStatement_56 : decode cX10_stuckInStatement 56 = .ok (.ireturn, 1) := by decide +kernel
theorem dX10_stuckInStatement_57 : decode cX10_stuckInStatement 57 = .ok (.iinc 4 1, 3) := by decide +kernel
theorem dX10_stuckInStatement_60 : decode cX10_stuckInStatement 60 = .ok (.goto (-34), 3) := by decide +kernel
theorem dX10_stuckInStatement_63 : decode cX10_stuckInStatement 63 = .ok (.aload_n 0, 1) := by decide +kernel
theorem dX10_stuckInStatement_64 : decode cX10_stuckInStatement 64 = .ok (.iload_n 3, 1) := by decide +kernel
theorem dX10_stuckInStatement_65 : decode cX10_stuckInStatement 65 = .ok (.invokevirtual 160, 3) := by decide +kernel
theorem dX10_stuckInStatement_68 : decode cX10_stuckInStatement 68 = .ok (.bipush 59, 2) := by decide +kernel
theorem dX10_stuckInStatement_70 : decode cX10_stuckInStatement 70 = .ok (.if_icmp .ne 7, 3) := by decide +kernel
theorem dX10_stuckInStatement_73 : decode cX10_stuckInStatement 73 = .ok (.iconst (-1), 1) := by decide +kernel
theorem dX10_stuckInStatement_74 : decode cX10_stuckInStatement 74 = .ok (.goto 4, 3) := by decide +kernel
theorem dX10_stuckInStatement_77 : decode cX10_stuckInStatement 77 = .ok (.iload_n 3, 1) := by decide +kernel
theorem dX10_stuckInStatement_78 : decode cX10_stuckInStatement 78 = .ok (.ireturn, 1) := by decide +kernel
theorem dX10_digitsBehind_0 : decode cX10_digitsBehind 0 = .ok (.iload_n 0, 1) := by decide +kernel
theorem dX10_digitsBehind_1 : decode cX10_digitsBehind 1 = .ok (.lookupswitch 39 #[(98, 35), (102, 37), (108, 37)], 35) := by decide +kernel
theorem dX10_digitsBehind_36 : decode cX10_digitsBehind 36 = .ok (.iconst 3, 1) := by decide +kernel
theorem dX10_digitsBehind_37 : decode cX10_digitsBehind 37 = .ok (.ireturn, 1) := by decide +kernel
theorem dX10_digitsBehind_38 : decode cX10_digitsBehind 38 = .ok (.iconst 2, 1) := by decide +kernel
theorem dX10_digitsBehind_39 : decode cX10_digitsBehind 39 = .ok (.ireturn, 1) := by decide +kernel
theorem dX10_digitsBehind_40 : decode cX10_digitsBehind 40 = .ok (.iconst 0, 1) := by decide +kernel
theorem dX10_digitsBehind_41 : decode cX10_digitsBehind 41 = .ok (.ireturn, 1) := by decide +kernel
theorem dX10_lengthOf_0 : decode cX10_lengthOf 0 = .ok (.iload_n 0, 1) := by decide +kernel
theorem dX10_lengthOf_1 : decode cX10_lengthOf 1 = .ok (.invokestatic 273, 3) := by decide +kernel
theorem dX10_lengthOf_4 : decode cX10_lengthOf 4 = .ok (.iconst 2, 1) := by decide +kernel
theorem dX10_lengthOf_5 : decode cX10_lengthOf 5 = .ok (.iadd, 1) := by decide +kernel
theorem dX10_lengthOf_6 : decode cX10_lengthOf 6 = .ok (.ireturn, 1) := by decide +kernel
theorem dX10_carryOut_0 : decode cX10_carryOut 0 = .ok (.aload_n 0, 1) := by decide +kernel
theorem dX10_carryOut_1 : decode cX10_carryOut 1 = .ok (.getfield 16, 3) := by decide +kernel
theorem dX10_carryOut_4 : decode cX10_carryOut 4 = .ok (.aload_n 0, 1) := by decide +kernel
theorem dX10_carryOut_5 : decode cX10_carryOut 5 = .ok (.getfield 12, 3) := by decide +kernel
theorem dX10_carryOut_8 : decode cX10_carryOut 8 = .ok (.invokevirtual 168, 3) := by decide +kernel
theorem dX10_carryOut_11 : decode cX10_carryOut 11 = .ok (.iconst 0, 1) := by decide +kernel
theorem dX10_carryOut_12 : decode cX10_carryOut 12 = .ok (.istore_n 2, 1) := by decide +kernel
theorem dX10_carryOut_13 : decode cX10_carryOut 13 = .ok (.iconst 0, 1) := by decide +kernel
theorem dX10_carryOut_14 : decode cX10_carryOut 14 = .ok (.istore_n 3, 1) := by decide +kernel
theorem dX10_carryOut_15 : decode cX10_carryOut 15 = .ok (.iload_n 3, 1) := by decide +kernel
theorem dX10_carryOut_16 : decode cX10_carryOut 16 = .ok (.aload_n 1, 1) := by decide +kernel
theorem dX10_carryOut_17 : decode cX10_carryOut 17 = .ok (.getfield 157, 3) := by decide +kernel
theorem dX10_carryOut_20 : decode cX10_carryOut 20 = .ok (.if_icmp .ge 43, 3) := by decide +kernel
theorem dX10_carryOut_23 : decode cX10_carryOut 23 = .ok (.iload_n 2, 1) := by decide +kernel
theorem dX10_carryOut_24 : decode cX10_carryOut 24 = .ok (.aload_n 1, 1) := by decide +kernel
theorem dX10_carryOut_25 : decode cX10_carryOut 25 = .ok (.getfield 157, 3) := by decide +kernel
theorem dX10_carryOut_28 : decode cX10_carryOut 28 = .ok (.if_icmp .ge 35, 3) := by decide +kernel
theorem dX10_carryOut_31 : decode cX10_carryOut 31 = .ok (.aload_n 0, 1) := by decide +kernel
theorem dX10_carryOut_32 : decode cX10_carryOut 32 = .ok (.aload_n 1, 1) := by decide +kernel
theorem dX10_carryOut_33 : decode cX10_carryOut 33 = .ok (.iload_n 2, 1) := by decide +kernel
theorem dX10_carryOut_34 : decode cX10_carryOut 34 = .ok (.invokevirtual 276, 3) := by decide +kernel
theorem dX10_carryOut_37 : decode cX10_carryOut 37 = .ok (.ifCond .ne 9, 3) := by decide +kernel
theorem dX10_carryOut_40 : decode cX10_carryOut 40 = .ok (.sipush (-2000), 3) := by decide +kernel
theorem dX10_carryOut_43 : decode cX10_carryOut 43 = .ok (.iload_n 2, 1) := by decide +kernel
theorem dX10_carryOut_44 : decode cX10_carryOut 44 = .ok (.isub, 1) := by decide +kernel
