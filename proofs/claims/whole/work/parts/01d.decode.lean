theorem dX10_carryOut_45 : decode cX10_carryOut 45 = .ok (.ireturn, 1) := by decide +kernel
theorem dX10_carryOut_46 : decode cX10_carryOut 46 = .ok (.iload_n 2, 1) := by decide +kernel
theorem dX10_carryOut_47 : decode cX10_carryOut 47 = .ok (.aload_n 1, 1) := by decide +kernel
theorem dX10_carryOut_48 : decode cX10_carryOut 48 = .ok (.iload_n 2, 1) := by decide +kernel
theorem dX10_carryOut_49 : decode cX10_carryOut 49 = .ok (.invokevirtual 160, 3) := by decide +kernel
theorem dX10_carryOut_52 : decode cX10_carryOut 52 = .ok (.invokestatic 270, 3) := by decide +kernel
theorem dX10_carryOut_55 : decode cX10_carryOut 55 = .ok (.iadd, 1) := by decide +kernel
theorem dX10_carryOut_56 : decode cX10_carryOut 56 = .ok (.istore_n 2, 1) := by decide +kernel
theorem dX10_carryOut_57 : decode cX10_carryOut 57 = .ok (.iinc 3 1, 3) := by decide +kernel
theorem dX10_carryOut_60 : decode cX10_carryOut 60 = .ok (.goto (-45), 3) := by decide +kernel
theorem dX10_carryOut_63 : decode cX10_carryOut 63 = .ok (.aload_n 0, 1) := by decide +kernel
theorem dX10_carryOut_64 : decode cX10_carryOut 64 = .ok (.getfield 12, 3) := by decide +kernel
theorem dX10_carryOut_67 : decode cX10_carryOut 67 = .ok (.aload_n 0, 1) := by decide +kernel
theorem dX10_carryOut_68 : decode cX10_carryOut 68 = .ok (.getfield 16, 3) := by decide +kernel
theorem dX10_carryOut_71 : decode cX10_carryOut 71 = .ok (.invokevirtual 168, 3) := by decide +kernel
theorem dX10_carryOut_74 : decode cX10_carryOut 74 = .ok (.iload_n 3, 1) := by decide +kernel
theorem dX10_carryOut_75 : decode cX10_carryOut 75 = .ok (.ireturn, 1) := by decide +kernel
theorem dX10_isCarriedOut_0 : decode cX10_isCarriedOut 0 = .ok (.aload_n 1, 1) := by decide +kernel
theorem dX10_isCarriedOut_1 : decode cX10_isCarriedOut 1 = .ok (.iload_n 2, 1) := by decide +kernel
theorem dX10_isCarriedOut_2 : decode cX10_isCarriedOut 2 = .ok (.iconst 1, 1) := by decide +kernel
theorem dX10_isCarriedOut_3 : decode cX10_isCarriedOut 3 = .ok (.iadd, 1) := by decide +kernel
theorem dX10_isCarriedOut_4 : decode cX10_isCarriedOut 4 = .ok (.invokevirtual 160, 3) := by decide +kernel
theorem dX10_isCarriedOut_7 : decode cX10_isCarriedOut 7 = .ok (.bipush 48, 2) := by decide +kernel
theorem dX10_isCarriedOut_9 : decode cX10_isCarriedOut 9 = .ok (.isub, 1) := by decide +kernel
theorem dX10_isCarriedOut_10 : decode cX10_isCarriedOut 10 = .ok (.istore_n 3, 1) := by decide +kernel
theorem dX10_isCarriedOut_11 : decode cX10_isCarriedOut 11 = .ok (.aload_n 1, 1) := by decide +kernel
theorem dX10_isCarriedOut_12 : decode cX10_isCarriedOut 12 = .ok (.iload_n 2, 1) := by decide +kernel
theorem dX10_isCarriedOut_13 : decode cX10_isCarriedOut 13 = .ok (.iconst 2, 1) := by decide +kernel
theorem dX10_isCarriedOut_14 : decode cX10_isCarriedOut 14 = .ok (.iadd, 1) := by decide +kernel
theorem dX10_isCarriedOut_15 : decode cX10_isCarriedOut 15 = .ok (.invokevirtual 160, 3) := by decide +kernel
theorem dX10_isCarriedOut_18 : decode cX10_isCarriedOut 18 = .ok (.bipush 48, 2) := by decide +kernel
theorem dX10_isCarriedOut_20 : decode cX10_isCarriedOut 20 = .ok (.isub, 1) := by decide +kernel
theorem dX10_isCarriedOut_21 : decode cX10_isCarriedOut 21 = .ok (.istore 4, 2) := by decide +kernel
theorem dX10_isCarriedOut_23 : decode cX10_isCarriedOut 23 = .ok (.aload_n 1, 1) := by decide +kernel
theorem dX10_isCarriedOut_24 : decode cX10_isCarriedOut 24 = .ok (.iload_n 2, 1) := by decide +kernel
theorem dX10_isCarriedOut_25 : decode cX10_isCarriedOut 25 = .ok (.invokevirtual 160, 3) := by decide +kernel
theorem dX10_isCarriedOut_28 : decode cX10_isCarriedOut 28 = .ok (.lookupswitch 84 #[(98, 28), (102, 61)], 28) := by decide +kernel
theorem dX10_isCarriedOut_56 : decode cX10_isCarriedOut 56 = .ok (.aload_n 0, 1) := by decide +kernel
theorem dX10_isCarriedOut_57 : decode cX10_isCarriedOut 57 = .ok (.getfield 16, 3) := by decide +kernel
theorem dX10_isCarriedOut_60 : decode cX10_isCarriedOut 60 = .ok (.iload_n 3, 1) := by decide +kernel
theorem dX10_isCarriedOut_61 : decode cX10_isCarriedOut 61 = .ok (.bipush 10, 2) := by decide +kernel
theorem dX10_isCarriedOut_63 : decode cX10_isCarriedOut 63 = .ok (.imul, 1) := by decide +kernel
theorem dX10_isCarriedOut_64 : decode cX10_isCarriedOut 64 = .ok (.iload 4, 2) := by decide +kernel
theorem dX10_isCarriedOut_66 : decode cX10_isCarriedOut 66 = .ok (.iadd, 1) := by decide +kernel
theorem dX10_isCarriedOut_67 : decode cX10_isCarriedOut 67 = .ok (.aload_n 1, 1) := by decide +kernel
theorem dX10_isCarriedOut_68 : decode cX10_isCarriedOut 68 = .ok (.iload_n 2, 1) := by decide +kernel
theorem dX10_isCarriedOut_69 : decode cX10_isCarriedOut 69 = .ok (.iconst 3, 1) := by decide +kernel
theorem dX10_isCarriedOut_70 : decode cX10_isCarriedOut 70 = .ok (.iadd, 1) := by decide +kernel
theorem dX10_isCarriedOut_71 : decode cX10_isCarriedOut 71 = .ok (.invokevirtual 160, 3) := by decide +kernel
theorem dX10_isCarriedOut_74 : decode cX10_isCarriedOut 74 = .ok (.bipush 48, 2) := by decide +kernel
theorem dX10_isCarriedOut_76 : decode cX10_isCarriedOut 76 = .ok (.isub, 1) := by decide +kernel
theorem dX10_isCarriedOut_77 : decode cX10_isCarriedOut 77 = .ok (.invokevirtual 44, 3) := by decide +kernel
theorem dX10_isCarriedOut_80 : decode cX10_isCarriedOut 80 = .ok (.ifCond .le 7, 3) := by decide +kernel
theorem dX10_isCarriedOut_83 : decode cX10_isCarriedOut 83 = .ok (.iconst 1, 1) := by decide +kernel
theorem dX10_isCarriedOut_84 : decode cX10_isCarriedOut 84 = .ok (.goto 4, 3) := by decide +kernel
theorem dX10_isCarriedOut_87 : decode cX10_isCarriedOut 87 = .ok (.iconst 0, 1) := by decide +kernel
theorem dX10_isCarriedOut_88 : decode cX10_isCarriedOut 88 = .ok (.ireturn, 1) := by decide +kernel
theorem dX10_isCarriedOut_89 : decode cX10_isCarriedOut 89 = .ok (.aload_n 0, 1) := by decide +kernel
theorem dX10_isCarriedOut_90 : decode cX10_isCarriedOut 90 = .ok (.getfield 16, 3) := by decide +kernel
theorem dX10_isCarriedOut_93 : decode cX10_isCarriedOut 93 = .ok (.iload_n 3, 1) := by decide +kernel
theorem dX10_isCarriedOut_94 : decode cX10_isCarriedOut 94 = .ok (.bipush 10, 2) := by decide +kernel
theorem dX10_isCarriedOut_96 : decode cX10_isCarriedOut 96 = .ok (.imul, 1) := by decide +kernel
theorem dX10_isCarriedOut_97 : decode cX10_isCarriedOut 97 = .ok (.iload 4, 2) := by decide +kernel
theorem dX10_isCarriedOut_99 : decode cX10_isCarriedOut 99 = .ok (.iadd, 1) := by decide +kernel
theorem dX10_isCarriedOut_100 : decode cX10_isCarriedOut 100 = .ok (.invokevirtual 48, 3) := by decide +kernel
theorem dX10_isCarriedOut_103 : decode cX10_isCarriedOut 103 = .ok (.ifCond .le 7, 3) := by decide +kernel
theorem dX10_isCarriedOut_106 : decode cX10_isCarriedOut 106 = .ok (.iconst 1, 1) := by decide +kernel
theorem dX10_isCarriedOut_107 : decode cX10_isCarriedOut 107 = .ok (.goto 4, 3) := by decide +kernel
theorem dX10_isCarriedOut_110 : decode cX10_isCarriedOut 110 = .ok (.iconst 0, 1) := by decide +kernel
theorem dX10_isCarriedOut_111 : decode cX10_isCarriedOut 111 = .ok (.ireturn, 1) := by decide +kernel
theorem dX10_isCarriedOut_112 : decode cX10_isCarriedOut 112 = .ok (.iload_n 3, 1) := by decide +kernel
theorem dX10_isCarriedOut_113 : decode cX10_isCarriedOut 113 = .ok (.iload 4, 2) := by decide +kernel
theorem dX10_isCarriedOut_115 : decode cX10_isCarriedOut 115 = .ok (.invokestatic 108, 3) := by decide +kernel
theorem dX10_isCarriedOut_118 : decode cX10_isCarriedOut 118 = .ok (.astore 5, 2) := by decide +kernel
theorem dX10_isCarriedOut_120 : decode cX10_isCarriedOut 120 = .ok (.aload 5, 2) := by decide +kernel
theorem dX10_isCarriedOut_122 : decode cX10_isCarriedOut 122 = .ok (.ifnonnull 5, 3) := by decide +kernel
theorem dX10_isCarriedOut_125 : decode cX10_isCarriedOut 125 = .ok (.iconst 0, 1) := by decide +kernel
theorem dX10_isCarriedOut_126 : decode cX10_isCarriedOut 126 = .ok (.ireturn, 1) := by decide +kernel
theorem dX10_isCarriedOut_127 : decode cX10_isCarriedOut 127 = .ok (.aload_n 0, 1) := by decide +kernel
theorem dX10_isCarriedOut_128 : decode cX10_isCarriedOut 128 = .ok (.getfield 16, 3) := by decide +kernel
theorem dX10_isCarriedOut_131 : decode cX10_isCarriedOut 131 = .ok (.aload 5, 2) := by decide +kernel
theorem dX10_isCarriedOut_133 : decode cX10_isCarriedOut 133 = .ok (.putfield 59, 3) := by decide +kernel
theorem dX10_isCarriedOut_136 : decode cX10_isCarriedOut 136 = .ok (.iconst 1, 1) := by decide +kernel
theorem dX10_isCarriedOut_137 : decode cX10_isCarriedOut 137 = .ok (.ireturn, 1) := by decide +kernel
theorem dX10_wayBy_0 : decode cX10_wayBy 0 = .ok (.aload_n 0, 1) := by decide +kernel
theorem dX10_wayBy_1 : decode cX10_wayBy 1 = .ok (.iload_n 1, 1) := by decide +kernel
theorem dX10_wayBy_2 : decode cX10_wayBy 2 = .ok (.invokevirtual 29, 3) := by decide +kernel
theorem dX10_wayBy_5 : decode cX10_wayBy 5 = .ok (.astore 4, 2) := by decide +kernel
theorem dX10_wayBy_7 : decode cX10_wayBy 7 = .ok (.aload 4, 2) := by decide +kernel
theorem dX10_wayBy_9 : decode cX10_wayBy 9 = .ok (.ifnull 10, 3) := by decide +kernel
theorem dX10_wayBy_12 : decode cX10_wayBy 12 = .ok (.iload_n 2, 1) := by decide +kernel
theorem dX10_wayBy_13 : decode cX10_wayBy 13 = .ok (.invokestatic 66, 3) := by decide +kernel
theorem dX10_wayBy_16 : decode cX10_wayBy 16 = .ok (.ifCond .ne 5, 3) := by decide +kernel
theorem dX10_wayBy_19 : decode cX10_wayBy 19 = .ok (.iconst (-1), 1) := by decide +kernel
theorem dX10_wayBy_20 : decode cX10_wayBy 20 = .ok (.ireturn, 1) := by decide +kernel
theorem dX10_wayBy_21 : decode cX10_wayBy 21 = .ok (.aload 4, 2) := by decide +kernel
theorem dX10_wayBy_23 : decode cX10_wayBy 23 = .ok (.iconst 1, 1) := by decide +kernel
theorem dX10_wayBy_24 : decode cX10_wayBy 24 = .ok (.invokevirtual 33, 3) := by decide +kernel
theorem dX10_wayBy_27 : decode cX10_wayBy 27 = .ok (.istore 5, 2) := by decide +kernel
theorem dX10_wayBy_29 : decode cX10_wayBy 29 = .ok (.iload 5, 2) := by decide +kernel
theorem dX10_wayBy_31 : decode cX10_wayBy 31 = .ok (.ifCond .eq 6, 3) := by decide +kernel
theorem dX10_wayBy_34 : decode cX10_wayBy 34 = .ok (.iload 5, 2) := by decide +kernel
theorem dX10_wayBy_36 : decode cX10_wayBy 36 = .ok (.ireturn, 1) := by decide +kernel
theorem dX10_wayBy_37 : decode cX10_wayBy 37 = .ok (.aload_n 0, 1) := by decide +kernel
theorem dX10_wayBy_38 : decode cX10_wayBy 38 = .ok (.aload 4, 2) := by decide +kernel
theorem dX10_wayBy_40 : decode cX10_wayBy 40 = .ok (.sipush 4095, 3) := by decide +kernel
theorem dX10_wayBy_43 : decode cX10_wayBy 43 = .ok (.invokevirtual 280, 3) := by decide +kernel
theorem dX10_wayBy_46 : decode cX10_wayBy 46 = .ok (.ifCond .ne 6, 3) := by decide +kernel
theorem dX10_wayBy_49 : decode cX10_wayBy 49 = .ok (.bipush (-4), 2) := by decide +kernel
theorem dX10_wayBy_51 : decode cX10_wayBy 51 = .ok (.ireturn, 1) := by decide +kernel
theorem dX10_wayBy_52 : decode cX10_wayBy 52 = .ok (.iload_n 3, 1) := by decide +kernel
theorem dX10_wayBy_53 : decode cX10_wayBy 53 = .ok (.ifCond .eq 13, 3) := by decide +kernel
theorem dX10_wayBy_56 : decode cX10_wayBy 56 = .ok (.aload_n 0, 1) := by decide +kernel
theorem dX10_wayBy_57 : decode cX10_wayBy 57 = .ok (.aload 4, 2) := by decide +kernel
theorem dX10_wayBy_59 : decode cX10_wayBy 59 = .ok (.iload_n 2, 1) := by decide +kernel
theorem dX10_wayBy_60 : decode cX10_wayBy 60 = .ok (.invokevirtual 283, 3) := by decide +kernel
theorem dX10_wayBy_63 : decode cX10_wayBy 63 = .ok (.goto 10, 3) := by decide +kernel
theorem dX10_wayBy_66 : decode cX10_wayBy 66 = .ok (.aload_n 0, 1) := by decide +kernel
theorem dX10_wayBy_67 : decode cX10_wayBy 67 = .ok (.aload 4, 2) := by decide +kernel
theorem dX10_wayBy_69 : decode cX10_wayBy 69 = .ok (.iload_n 2, 1) := by decide +kernel
theorem dX10_wayBy_70 : decode cX10_wayBy 70 = .ok (.invokevirtual 286, 3) := by decide +kernel
theorem dX10_wayBy_73 : decode cX10_wayBy 73 = .ok (.ireturn, 1) := by decide +kernel
theorem dX10_comesByAll_0 : decode cX10_comesByAll 0 = .ok (.iconst 0, 1) := by decide +kernel
theorem dX10_comesByAll_1 : decode cX10_comesByAll 1 = .ok (.istore_n 3, 1) := by decide +kernel
theorem dX10_comesByAll_2 : decode cX10_comesByAll 2 = .ok (.iload_n 3, 1) := by decide +kernel
theorem dX10_comesByAll_3 : decode cX10_comesByAll 3 = .ok (.aload_n 1, 1) := by decide +kernel
theorem dX10_comesByAll_4 : decode cX10_comesByAll 4 = .ok (.getfield 157, 3) := by decide +kernel
theorem dX10_comesByAll_7 : decode cX10_comesByAll 7 = .ok (.if_icmp .ge 28, 3) := by decide +kernel
theorem dX10_comesByAll_10 : decode cX10_comesByAll 10 = .ok (.aload_n 0, 1) := by decide +kernel
theorem dX10_comesByAll_11 : decode cX10_comesByAll 11 = .ok (.getfield 12, 3) := by decide +kernel
theorem dX10_comesByAll_14 : decode cX10_comesByAll 14 = .ok (.aload_n 1, 1) := by decide +kernel
theorem dX10_comesByAll_15 : decode cX10_comesByAll 15 = .ok (.iload_n 3, 1) := by decide +kernel
theorem dX10_comesByAll_16 : decode cX10_comesByAll 16 = .ok (.invokevirtual 160, 3) := by decide +kernel
theorem dX10_comesByAll_19 : decode cX10_comesByAll 19 = .ok (.invokevirtual 82, 3) := by decide +kernel
theorem dX10_comesByAll_22 : decode cX10_comesByAll 22 = .ok (.iload_n 2, 1) := by decide +kernel
theorem dX10_comesByAll_23 : decode cX10_comesByAll 23 = .ok (.iand, 1) := by decide +kernel
theorem dX10_comesByAll_24 : decode cX10_comesByAll 24 = .ok (.ifCond .ne 5, 3) := by decide +kernel
theorem dX10_comesByAll_27 : decode cX10_comesByAll 27 = .ok (.iconst 0, 1) := by decide +kernel
theorem dX10_comesByAll_28 : decode cX10_comesByAll 28 = .ok (.ireturn, 1) := by decide +kernel
theorem dX10_comesByAll_29 : decode cX10_comesByAll 29 = .ok (.iinc 3 1, 3) := by decide +kernel
theorem dX10_comesByAll_32 : decode cX10_comesByAll 32 = .ok (.goto (-30), 3) := by decide +kernel
theorem dX10_comesByAll_35 : decode cX10_comesByAll 35 = .ok (.iconst 1, 1) := by decide +kernel
theorem dX10_comesByAll_36 : decode cX10_comesByAll 36 = .ok (.ireturn, 1) := by decide +kernel
theorem dX10_leastWay_0 : decode cX10_leastWay 0 = .ok (.bipush 24, 2) := by decide +kernel
theorem dX10_leastWay_2 : decode cX10_leastWay 2 = .ok (.istore_n 3, 1) := by decide +kernel
theorem dX10_leastWay_3 : decode cX10_leastWay 3 = .ok (.iconst 0, 1) := by decide +kernel
theorem dX10_leastWay_4 : decode cX10_leastWay 4 = .ok (.istore 4, 2) := by decide +kernel
theorem dX10_leastWay_6 : decode cX10_leastWay 6 = .ok (.iload 4, 2) := by decide +kernel
theorem dX10_leastWay_8 : decode cX10_leastWay 8 = .ok (.iload_n 2, 1) := by decide +kernel
theorem dX10_leastWay_9 : decode cX10_leastWay 9 = .ok (.if_icmp .gt 68, 3) := by decide +kernel
theorem dX10_leastWay_12 : decode cX10_leastWay 12 = .ok (.iload_n 2, 1) := by decide +kernel
theorem dX10_leastWay_13 : decode cX10_leastWay 13 = .ok (.istore 5, 2) := by decide +kernel
theorem dX10_leastWay_15 : decode cX10_leastWay 15 = .ok (.iload 5, 2) := by decide +kernel
theorem dX10_leastWay_17 : decode cX10_leastWay 17 = .ok (.bipush 12, 2) := by decide +kernel
theorem dX10_leastWay_19 : decode cX10_leastWay 19 = .ok (.if_icmp .ge 52, 3) := by decide +kernel
theorem dX10_leastWay_22 : decode cX10_leastWay 22 = .ok (.iload 5, 2) := by decide +kernel
theorem dX10_leastWay_24 : decode cX10_leastWay 24 = .ok (.iload 4, 2) := by decide +kernel
theorem dX10_leastWay_26 : decode cX10_leastWay 26 = .ok (.isub, 1) := by decide +kernel
theorem dX10_leastWay_27 : decode cX10_leastWay 27 = .ok (.iload_n 2, 1) := by decide +kernel
theorem dX10_leastWay_28 : decode cX10_leastWay 28 = .ok (.iload 4, 2) := by decide +kernel
theorem dX10_leastWay_30 : decode cX10_leastWay 30 = .ok (.isub, 1) := by decide +kernel
theorem dX10_leastWay_31 : decode cX10_leastWay 31 = .ok (.iload 5, 2) := by decide +kernel
theorem dX10_leastWay_33 : decode cX10_leastWay 33 = .ok (.iload_n 2, 1) := by decide +kernel
theorem dX10_leastWay_34 : decode cX10_leastWay 34 = .ok (.isub, 1) := by decide +kernel
theorem dX10_leastWay_35 : decode cX10_leastWay 35 = .ok (.invokestatic 163, 3) := by decide +kernel
theorem dX10_leastWay_38 : decode cX10_leastWay 38 = .ok (.iadd, 1) := by decide +kernel
theorem dX10_leastWay_39 : decode cX10_leastWay 39 = .ok (.istore 6, 2) := by decide +kernel
theorem dX10_leastWay_41 : decode cX10_leastWay 41 = .ok (.iload 6, 2) := by decide +kernel
theorem dX10_leastWay_43 : decode cX10_leastWay 43 = .ok (.iload_n 3, 1) := by decide +kernel
theorem dX10_leastWay_44 : decode cX10_leastWay 44 = .ok (.if_icmp .ge 21, 3) := by decide +kernel
theorem dX10_leastWay_47 : decode cX10_leastWay 47 = .ok (.aload_n 0, 1) := by decide +kernel
theorem dX10_leastWay_48 : decode cX10_leastWay 48 = .ok (.aload_n 1, 1) := by decide +kernel
theorem dX10_leastWay_49 : decode cX10_leastWay 49 = .ok (.iload 4, 2) := by decide +kernel
theorem dX10_leastWay_51 : decode cX10_leastWay 51 = .ok (.iload 5, 2) := by decide +kernel
theorem dX10_leastWay_53 : decode cX10_leastWay 53 = .ok (.invokestatic 289, 3) := by decide +kernel
theorem dX10_leastWay_56 : decode cX10_leastWay 56 = .ok (.invokevirtual 280, 3) := by decide +kernel
theorem dX10_leastWay_59 : decode cX10_leastWay 59 = .ok (.ifCond .eq 6, 3) := by decide +kernel
theorem dX10_leastWay_62 : decode cX10_leastWay 62 = .ok (.iload 6, 2) := by decide +kernel
theorem dX10_leastWay_64 : decode cX10_leastWay 64 = .ok (.istore_n 3, 1) := by decide +kernel
theorem dX10_leastWay_65 : decode cX10_leastWay 65 = .ok (.iinc 5 1, 3) := by decide +kernel
theorem dX10_leastWay_68 : decode cX10_leastWay 68 = .ok (.goto (-53), 3) := by decide +kernel
theorem dX10_leastWay_71 : decode cX10_leastWay 71 = .ok (.iinc 4 1, 3) := by decide +kernel
theorem dX10_leastWay_74 : decode cX10_leastWay 74 = .ok (.goto (-68), 3) := by decide +kernel
theorem dX10_leastWay_77 : decode cX10_leastWay 77 = .ok (.iload_n 3, 1) := by decide +kernel
theorem dX10_leastWay_78 : decode cX10_leastWay 78 = .ok (.ireturn, 1) := by decide +kernel
theorem dX10_plotsBetween_0 : decode cX10_plotsBetween 0 = .ok (.sipush 4095, 3) := by decide +kernel
theorem dX10_plotsBetween_3 : decode cX10_plotsBetween 3 = .ok (.bipush 11, 2) := by decide +kernel
theorem dX10_plotsBetween_5 : decode cX10_plotsBetween 5 = .ok (.iload_n 1, 1) := by decide +kernel
theorem dX10_plotsBetween_6 : decode cX10_plotsBetween 6 = .ok (.isub, 1) := by decide +kernel
theorem dX10_plotsBetween_7 : decode cX10_plotsBetween 7 = .ok (.ishr, 1) := by decide +kernel
theorem dX10_plotsBetween_8 : decode cX10_plotsBetween 8 = .ok (.sipush 4095, 3) := by decide +kernel
theorem dX10_plotsBetween_11 : decode cX10_plotsBetween 11 = .ok (.iload_n 0, 1) := by decide +kernel
theorem dX10_plotsBetween_12 : decode cX10_plotsBetween 12 = .ok (.ishl, 1) := by decide +kernel
theorem dX10_plotsBetween_13 : decode cX10_plotsBetween 13 = .ok (.iand, 1) := by decide +kernel
theorem dX10_plotsBetween_14 : decode cX10_plotsBetween 14 = .ok (.ireturn, 1) := by decide +kernel
theorem dX10_wayOfSearch_0 : decode cX10_wayOfSearch 0 = .ok (.iload_n 2, 1) := by decide +kernel
theorem dX10_wayOfSearch_1 : decode cX10_wayOfSearch 1 = .ok (.bipush 6, 2) := by decide +kernel
theorem dX10_wayOfSearch_3 : decode cX10_wayOfSearch 3 = .ok (.if_icmp .ge 7, 3) := by decide +kernel
theorem dX10_wayOfSearch_6 : decode cX10_wayOfSearch 6 = .ok (.iconst (-1), 1) := by decide +kernel
theorem dX10_wayOfSearch_7 : decode cX10_wayOfSearch 7 = .ok (.goto 4, 3) := by decide +kernel
theorem dX10_wayOfSearch_10 : decode cX10_wayOfSearch 10 = .ok (.iconst 1, 1) := by decide +kernel
theorem dX10_wayOfSearch_11 : decode cX10_wayOfSearch 11 = .ok (.istore_n 3, 1) := by decide +kernel
theorem dX10_wayOfSearch_12 : decode cX10_wayOfSearch 12 = .ok (.iload_n 2, 1) := by decide +kernel
theorem dX10_wayOfSearch_13 : decode cX10_wayOfSearch 13 = .ok (.istore 4, 2) := by decide +kernel
theorem dX10_wayOfSearch_15 : decode cX10_wayOfSearch 15 = .ok (.iconst 0, 1) := by decide +kernel
theorem dX10_wayOfSearch_16 : decode cX10_wayOfSearch 16 = .ok (.istore 5, 2) := by decide +kernel
theorem dX10_wayOfSearch_18 : decode cX10_wayOfSearch 18 = .ok (.iconst 0, 1) := by decide +kernel
theorem dX10_wayOfSearch_19 : decode cX10_wayOfSearch 19 = .ok (.istore 6, 2) := by decide +kernel
theorem dX10_wayOfSearch_21 : decode cX10_wayOfSearch 21 = .ok (.iload 6, 2) := by decide +kernel
theorem dX10_wayOfSearch_23 : decode cX10_wayOfSearch 23 = .ok (.bipush 24, 2) := by decide +kernel
theorem dX10_wayOfSearch_25 : decode cX10_wayOfSearch 25 = .ok (.if_icmp .ge 56, 3) := by decide +kernel
theorem dX10_wayOfSearch_28 : decode cX10_wayOfSearch 28 = .ok (.iload 5, 2) := by decide +kernel
theorem dX10_wayOfSearch_30 : decode cX10_wayOfSearch 30 = .ok (.iconst 1, 1) := by decide +kernel
theorem dX10_wayOfSearch_31 : decode cX10_wayOfSearch 31 = .ok (.iload 4, 2) := by decide +kernel
theorem dX10_wayOfSearch_33 : decode cX10_wayOfSearch 33 = .ok (.ishl, 1) := by decide +kernel
theorem dX10_wayOfSearch_34 : decode cX10_wayOfSearch 34 = .ok (.ior, 1) := by decide +kernel
theorem dX10_wayOfSearch_35 : decode cX10_wayOfSearch 35 = .ok (.istore 5, 2) := by decide +kernel
theorem dX10_wayOfSearch_37 : decode cX10_wayOfSearch 37 = .ok (.aload_n 0, 1) := by decide +kernel
theorem dX10_wayOfSearch_38 : decode cX10_wayOfSearch 38 = .ok (.aload_n 1, 1) := by decide +kernel
theorem dX10_wayOfSearch_39 : decode cX10_wayOfSearch 39 = .ok (.iload 5, 2) := by decide +kernel
theorem dX10_wayOfSearch_41 : decode cX10_wayOfSearch 41 = .ok (.invokevirtual 280, 3) := by decide +kernel
theorem dX10_wayOfSearch_44 : decode cX10_wayOfSearch 44 = .ok (.ifCond .eq 6, 3) := by decide +kernel
theorem dX10_wayOfSearch_47 : decode cX10_wayOfSearch 47 = .ok (.iload 6, 2) := by decide +kernel
theorem dX10_wayOfSearch_49 : decode cX10_wayOfSearch 49 = .ok (.ireturn, 1) := by decide +kernel
theorem dX10_wayOfSearch_50 : decode cX10_wayOfSearch 50 = .ok (.iload 4, 2) := by decide +kernel
theorem dX10_wayOfSearch_52 : decode cX10_wayOfSearch 52 = .ok (.ifCond .ne 8, 3) := by decide +kernel
theorem dX10_wayOfSearch_55 : decode cX10_wayOfSearch 55 = .ok (.iconst 1, 1) := by decide +kernel
theorem dX10_wayOfSearch_56 : decode cX10_wayOfSearch 56 = .ok (.istore_n 3, 1) := by decide +kernel
theorem dX10_wayOfSearch_57 : decode cX10_wayOfSearch 57 = .ok (.goto 12, 3) := by decide +kernel
theorem dX10_wayOfSearch_60 : decode cX10_wayOfSearch 60 = .ok (.iload 4, 2) := by decide +kernel
theorem dX10_wayOfSearch_62 : decode cX10_wayOfSearch 62 = .ok (.bipush 11, 2) := by decide +kernel
theorem dX10_wayOfSearch_64 : decode cX10_wayOfSearch 64 = .ok (.if_icmp .ne 5, 3) := by decide +kernel
theorem dX10_wayOfSearch_67 : decode cX10_wayOfSearch 67 = .ok (.iconst (-1), 1) := by decide +kernel
theorem dX10_wayOfSearch_68 : decode cX10_wayOfSearch 68 = .ok (.istore_n 3, 1) := by decide +kernel
theorem dX10_wayOfSearch_69 : decode cX10_wayOfSearch 69 = .ok (.iload 4, 2) := by decide +kernel
theorem dX10_wayOfSearch_71 : decode cX10_wayOfSearch 71 = .ok (.iload_n 3, 1) := by decide +kernel
theorem dX10_wayOfSearch_72 : decode cX10_wayOfSearch 72 = .ok (.iadd, 1) := by decide +kernel
theorem dX10_wayOfSearch_73 : decode cX10_wayOfSearch 73 = .ok (.istore 4, 2) := by decide +kernel
theorem dX10_wayOfSearch_75 : decode cX10_wayOfSearch 75 = .ok (.iinc 6 1, 3) := by decide +kernel
theorem dX10_wayOfSearch_78 : decode cX10_wayOfSearch 78 = .ok (.goto (-57), 3) := by decide +kernel
theorem dX10_wayOfSearch_81 : decode cX10_wayOfSearch 81 = .ok (.bipush (-4), 2) := by decide +kernel
theorem dX10_wayOfSearch_83 : decode cX10_wayOfSearch 83 = .ok (.ireturn, 1) := by decide +kernel
theorem dX10_ordersFrom_0 : decode cX10_ordersFrom 0 = .ok (.iload_n 2, 1) := by decide +kernel
theorem dX10_ordersFrom_1 : decode cX10_ordersFrom 1 = .ok (.ifCond .gt 5, 3) := by decide +kernel
theorem dX10_ordersFrom_4 : decode cX10_ordersFrom 4 = .ok (.iconst 1, 1) := by decide +kernel
theorem dX10_ordersFrom_5 : decode cX10_ordersFrom 5 = .ok (.ireturn, 1) := by decide +kernel
theorem dX10_ordersFrom_6 : decode cX10_ordersFrom 6 = .ok (.iconst 0, 1) := by decide +kernel
theorem dX10_ordersFrom_7 : decode cX10_ordersFrom 7 = .ok (.istore_n 3, 1) := by decide +kernel
theorem dX10_ordersFrom_8 : decode cX10_ordersFrom 8 = .ok (.iconst 0, 1) := by decide +kernel
theorem dX10_ordersFrom_9 : decode cX10_ordersFrom 9 = .ok (.istore 4, 2) := by decide +kernel
theorem dX10_ordersFrom_11 : decode cX10_ordersFrom 11 = .ok (.iload 4, 2) := by decide +kernel
theorem dX10_ordersFrom_13 : decode cX10_ordersFrom 13 = .ok (.bipush 12, 2) := by decide +kernel
theorem dX10_ordersFrom_15 : decode cX10_ordersFrom 15 = .ok (.if_icmp .ge 49, 3) := by decide +kernel
theorem dX10_ordersFrom_18 : decode cX10_ordersFrom 18 = .ok (.aload_n 0, 1) := by decide +kernel
theorem dX10_ordersFrom_19 : decode cX10_ordersFrom 19 = .ok (.aload_n 1, 1) := by decide +kernel
theorem dX10_ordersFrom_20 : decode cX10_ordersFrom 20 = .ok (.iload 4, 2) := by decide +kernel
theorem dX10_ordersFrom_22 : decode cX10_ordersFrom 22 = .ok (.invokevirtual 292, 3) := by decide +kernel
theorem dX10_ordersFrom_25 : decode cX10_ordersFrom 25 = .ok (.ifCond .eq 33, 3) := by decide +kernel
theorem dX10_ordersFrom_28 : decode cX10_ordersFrom 28 = .ok (.aload_n 0, 1) := by decide +kernel
theorem dX10_ordersFrom_29 : decode cX10_ordersFrom 29 = .ok (.iload 4, 2) := by decide +kernel
theorem dX10_ordersFrom_31 : decode cX10_ordersFrom 31 = .ok (.aload_n 1, 1) := by decide +kernel
theorem dX10_ordersFrom_32 : decode cX10_ordersFrom 32 = .ok (.iload 4, 2) := by decide +kernel
theorem dX10_ordersFrom_34 : decode cX10_ordersFrom 34 = .ok (.invokevirtual 76, 3) := by decide +kernel
theorem dX10_ordersFrom_37 : decode cX10_ordersFrom 37 = .ok (.invokevirtual 44, 3) := by decide +kernel
theorem dX10_ordersFrom_40 : decode cX10_ordersFrom 40 = .ok (.pop, 1) := by decide +kernel
theorem dX10_ordersFrom_41 : decode cX10_ordersFrom 41 = .ok (.iload_n 3, 1) := by decide +kernel
theorem dX10_ordersFrom_42 : decode cX10_ordersFrom 42 = .ok (.aload_n 0, 1) := by decide +kernel
theorem dX10_ordersFrom_43 : decode cX10_ordersFrom 43 = .ok (.aload_n 1, 1) := by decide +kernel
theorem dX10_ordersFrom_44 : decode cX10_ordersFrom 44 = .ok (.iload_n 2, 1) := by decide +kernel
theorem dX10_ordersFrom_45 : decode cX10_ordersFrom 45 = .ok (.iconst 1, 1) := by decide +kernel
theorem dX10_ordersFrom_46 : decode cX10_ordersFrom 46 = .ok (.isub, 1) := by decide +kernel
theorem dX10_ordersFrom_47 : decode cX10_ordersFrom 47 = .ok (.invokestatic 127, 3) := by decide +kernel
theorem dX10_ordersFrom_50 : decode cX10_ordersFrom 50 = .ok (.iadd, 1) := by decide +kernel
theorem dX10_ordersFrom_51 : decode cX10_ordersFrom 51 = .ok (.istore_n 3, 1) := by decide +kernel
theorem dX10_ordersFrom_52 : decode cX10_ordersFrom 52 = .ok (.aload_n 0, 1) := by decide +kernel
theorem dX10_ordersFrom_53 : decode cX10_ordersFrom 53 = .ok (.iload 4, 2) := by decide +kernel
theorem dX10_ordersFrom_55 : decode cX10_ordersFrom 55 = .ok (.invokevirtual 296, 3) := by decide +kernel
theorem dX10_ordersFrom_58 : decode cX10_ordersFrom 58 = .ok (.iinc 4 1, 3) := by decide +kernel
theorem dX10_ordersFrom_61 : decode cX10_ordersFrom 61 = .ok (.goto (-50), 3) := by decide +kernel
theorem dX10_ordersFrom_64 : decode cX10_ordersFrom 64 = .ok (.iload_n 3, 1) := by decide +kernel
theorem dX10_ordersFrom_65 : decode cX10_ordersFrom 65 = .ok (.ireturn, 1) := by decide +kernel
theorem dX10_firstInOrder_0 : decode cX10_firstInOrder 0 = .ok (.iconst 0, 1) := by decide +kernel
theorem dX10_firstInOrder_1 : decode cX10_firstInOrder 1 = .ok (.istore_n 2, 1) := by decide +kernel
theorem dX10_firstInOrder_2 : decode cX10_firstInOrder 2 = .ok (.iload_n 2, 1) := by decide +kernel
theorem dX10_firstInOrder_3 : decode cX10_firstInOrder 3 = .ok (.bipush 12, 2) := by decide +kernel
theorem dX10_firstInOrder_5 : decode cX10_firstInOrder 5 = .ok (.if_icmp .ge 70, 3) := by decide +kernel
theorem dX10_firstInOrder_8 : decode cX10_firstInOrder 8 = .ok (.aload_n 0, 1) := by decide +kernel
theorem dX10_firstInOrder_9 : decode cX10_firstInOrder 9 = .ok (.getfield 16, 3) := by decide +kernel
theorem dX10_firstInOrder_12 : decode cX10_firstInOrder 12 = .ok (.aload_n 0, 1) := by decide +kernel
theorem dX10_firstInOrder_13 : decode cX10_firstInOrder 13 = .ok (.getfield 12, 3) := by decide +kernel
theorem dX10_firstInOrder_16 : decode cX10_firstInOrder 16 = .ok (.iload_n 2, 1) := by decide +kernel
theorem dX10_firstInOrder_17 : decode cX10_firstInOrder 17 = .ok (.invokevirtual 292, 3) := by decide +kernel
theorem dX10_firstInOrder_20 : decode cX10_firstInOrder 20 = .ok (.ifCond .eq 49, 3) := by decide +kernel
theorem dX10_firstInOrder_23 : decode cX10_firstInOrder 23 = .ok (.aload_n 0, 1) := by decide +kernel
theorem dX10_firstInOrder_24 : decode cX10_firstInOrder 24 = .ok (.getfield 16, 3) := by decide +kernel
theorem dX10_firstInOrder_27 : decode cX10_firstInOrder 27 = .ok (.iload_n 2, 1) := by decide +kernel
theorem dX10_firstInOrder_28 : decode cX10_firstInOrder 28 = .ok (.aload_n 0, 1) := by decide +kernel
theorem dX10_firstInOrder_29 : decode cX10_firstInOrder 29 = .ok (.getfield 12, 3) := by decide +kernel
theorem dX10_firstInOrder_32 : decode cX10_firstInOrder 32 = .ok (.iload_n 2, 1) := by decide +kernel
theorem dX10_firstInOrder_33 : decode cX10_firstInOrder 33 = .ok (.invokevirtual 76, 3) := by decide +kernel
theorem dX10_firstInOrder_36 : decode cX10_firstInOrder 36 = .ok (.invokevirtual 44, 3) := by decide +kernel
theorem dX10_firstInOrder_39 : decode cX10_firstInOrder 39 = .ok (.pop, 1) := by decide +kernel
theorem dX10_firstInOrder_40 : decode cX10_firstInOrder 40 = .ok (.aload_n 0, 1) := by decide +kernel
theorem dX10_firstInOrder_41 : decode cX10_firstInOrder 41 = .ok (.getfield 16, 3) := by decide +kernel
theorem dX10_firstInOrder_44 : decode cX10_firstInOrder 44 = .ok (.aload_n 0, 1) := by decide +kernel
theorem dX10_firstInOrder_45 : decode cX10_firstInOrder 45 = .ok (.getfield 12, 3) := by decide +kernel
theorem dX10_firstInOrder_48 : decode cX10_firstInOrder 48 = .ok (.iload_n 1, 1) := by decide +kernel
theorem dX10_firstInOrder_49 : decode cX10_firstInOrder 49 = .ok (.iconst 1, 1) := by decide +kernel
theorem dX10_firstInOrder_50 : decode cX10_firstInOrder 50 = .ok (.isub, 1) := by decide +kernel
theorem dX10_firstInOrder_51 : decode cX10_firstInOrder 51 = .ok (.invokestatic 127, 3) := by decide +kernel
theorem dX10_firstInOrder_54 : decode cX10_firstInOrder 54 = .ok (.istore_n 3, 1) := by decide +kernel
theorem dX10_firstInOrder_55 : decode cX10_firstInOrder 55 = .ok (.aload_n 0, 1) := by decide +kernel
theorem dX10_firstInOrder_56 : decode cX10_firstInOrder 56 = .ok (.getfield 16, 3) := by decide +kernel
theorem dX10_firstInOrder_59 : decode cX10_firstInOrder 59 = .ok (.iload_n 2, 1) := by decide +kernel
theorem dX10_firstInOrder_60 : decode cX10_firstInOrder 60 = .ok (.invokevirtual 296, 3) := by decide +kernel
theorem dX10_firstInOrder_63 : decode cX10_firstInOrder 63 = .ok (.iload_n 3, 1) := by decide +kernel
theorem dX10_firstInOrder_64 : decode cX10_firstInOrder 64 = .ok (.ifCond .le 5, 3) := by decide +kernel
theorem dX10_firstInOrder_67 : decode cX10_firstInOrder 67 = .ok (.iload_n 2, 1) := by decide +kernel
theorem dX10_firstInOrder_68 : decode cX10_firstInOrder 68 = .ok (.ireturn, 1) := by decide +kernel
theorem dX10_firstInOrder_69 : decode cX10_firstInOrder 69 = .ok (.iinc 2 1, 3) := by decide +kernel
theorem dX10_firstInOrder_72 : decode cX10_firstInOrder 72 = .ok (.goto (-70), 3) := by decide +kernel
theorem dX10_firstInOrder_75 : decode cX10_firstInOrder 75 = .ok (.bipush (-4), 2) := by decide +kernel
theorem dX10_firstInOrder_77 : decode cX10_firstInOrder 77 = .ok (.ireturn, 1) := by decide +kernel
theorem dX10_isTown_0 : decode cX10_isTown 0 = .ok (.aload_n 0, 1) := by decide +kernel
theorem dX10_isTown_1 : decode cX10_isTown 1 = .ok (.getfield 157, 3) := by decide +kernel
theorem dX10_isTown_4 : decode cX10_isTown 4 = .ok (.iconst 1, 1) := by decide +kernel
theorem dX10_isTown_5 : decode cX10_isTown 5 = .ok (.if_icmp .lt 12, 3) := by decide +kernel
theorem dX10_isTown_8 : decode cX10_isTown 8 = .ok (.aload_n 0, 1) := by decide +kernel
theorem dX10_isTown_9 : decode cX10_isTown 9 = .ok (.getfield 157, 3) := by decide +kernel
theorem dX10_isTown_12 : decode cX10_isTown 12 = .ok (.bipush 20, 2) := by decide +kernel
theorem dX10_isTown_14 : decode cX10_isTown 14 = .ok (.if_icmp .le 5, 3) := by decide +kernel
theorem dX10_isTown_17 : decode cX10_isTown 17 = .ok (.iconst 0, 1) := by decide +kernel
theorem dX10_isTown_18 : decode cX10_isTown 18 = .ok (.ireturn, 1) := by decide +kernel
theorem dX10_isTown_19 : decode cX10_isTown 19 = .ok (.iconst 0, 1) := by decide +kernel
theorem dX10_isTown_20 : decode cX10_isTown 20 = .ok (.istore_n 1, 1) := by decide +kernel
theorem dX10_isTown_21 : decode cX10_isTown 21 = .ok (.iload_n 1, 1) := by decide +kernel
theorem dX10_isTown_22 : decode cX10_isTown 22 = .ok (.aload_n 0, 1) := by decide +kernel
theorem dX10_isTown_23 : decode cX10_isTown 23 = .ok (.getfield 157, 3) := by decide +kernel
theorem dX10_isTown_26 : decode cX10_isTown 26 = .ok (.if_icmp .ge 20, 3) := by decide +kernel
theorem dX10_isTown_29 : decode cX10_isTown 29 = .ok (.aload_n 0, 1) := by decide +kernel
theorem dX10_isTown_30 : decode cX10_isTown 30 = .ok (.iload_n 1, 1) := by decide +kernel
theorem dX10_isTown_31 : decode cX10_isTown 31 = .ok (.invokevirtual 160, 3) := by decide +kernel
theorem dX10_isTown_34 : decode cX10_isTown 34 = .ok (.iconst 1, 1) := by decide +kernel
theorem dX10_isTown_35 : decode cX10_isTown 35 = .ok (.if_icmp .ge 5, 3) := by decide +kernel
theorem dX10_isTown_38 : decode cX10_isTown 38 = .ok (.iconst 0, 1) := by decide +kernel
theorem dX10_isTown_39 : decode cX10_isTown 39 = .ok (.ireturn, 1) := by decide +kernel
theorem dX10_isTown_40 : decode cX10_isTown 40 = .ok (.iinc 1 1, 3) := by decide +kernel
theorem dX10_isTown_43 : decode cX10_isTown 43 = .ok (.goto (-22), 3) := by decide +kernel
theorem dX10_isTown_46 : decode cX10_isTown 46 = .ok (.iconst 1, 1) := by decide +kernel
theorem dX10_isTown_47 : decode cX10_isTown 47 = .ok (.ireturn, 1) := by decide +kernel
theorem dX10_sharedIfRaised_0 : decode cX10_sharedIfRaised 0 = .ok (.iconst 0, 1) := by decide +kernel
theorem dX10_sharedIfRaised_1 : decode cX10_sharedIfRaised 1 = .ok (.istore_n 3, 1) := by decide +kernel
theorem dX10_sharedIfRaised_2 : decode cX10_sharedIfRaised 2 = .ok (.iconst 0, 1) := by decide +kernel
theorem dX10_sharedIfRaised_3 : decode cX10_sharedIfRaised 3 = .ok (.istore 4, 2) := by decide +kernel
theorem dX10_sharedIfRaised_5 : decode cX10_sharedIfRaised 5 = .ok (.iload 4, 2) := by decide +kernel
theorem dX10_sharedIfRaised_7 : decode cX10_sharedIfRaised 7 = .ok (.aload_n 1, 1) := by decide +kernel
theorem dX10_sharedIfRaised_8 : decode cX10_sharedIfRaised 8 = .ok (.getfield 157, 3) := by decide +kernel
theorem dX10_sharedIfRaised_11 : decode cX10_sharedIfRaised 11 = .ok (.if_icmp .ge 30, 3) := by decide +kernel
theorem dX10_sharedIfRaised_14 : decode cX10_sharedIfRaised 14 = .ok (.aload_n 0, 1) := by decide +kernel
theorem dX10_sharedIfRaised_15 : decode cX10_sharedIfRaised 15 = .ok (.getfield 12, 3) := by decide +kernel
theorem dX10_sharedIfRaised_18 : decode cX10_sharedIfRaised 18 = .ok (.aload_n 1, 1) := by decide +kernel
theorem dX10_sharedIfRaised_19 : decode cX10_sharedIfRaised 19 = .ok (.iload 4, 2) := by decide +kernel
theorem dX10_sharedIfRaised_21 : decode cX10_sharedIfRaised 21 = .ok (.invokevirtual 160, 3) := by decide +kernel
theorem dX10_sharedIfRaised_24 : decode cX10_sharedIfRaised 24 = .ok (.iload_n 2, 1) := by decide +kernel
theorem dX10_sharedIfRaised_25 : decode cX10_sharedIfRaised 25 = .ok (.iadd, 1) := by decide +kernel
theorem dX10_sharedIfRaised_26 : decode cX10_sharedIfRaised 26 = .ok (.invokevirtual 82, 3) := by decide +kernel
theorem dX10_sharedIfRaised_29 : decode cX10_sharedIfRaised 29 = .ok (.ifCond .eq 6, 3) := by decide +kernel
theorem dX10_sharedIfRaised_32 : decode cX10_sharedIfRaised 32 = .ok (.iinc 3 1, 3) := by decide +kernel
theorem dX10_sharedIfRaised_35 : decode cX10_sharedIfRaised 35 = .ok (.iinc 4 1, 3) := by decide +kernel
theorem dX10_sharedIfRaised_38 : decode cX10_sharedIfRaised 38 = .ok (.goto (-33), 3) := by decide +kernel
theorem dX10_sharedIfRaised_41 : decode cX10_sharedIfRaised 41 = .ok (.iload_n 3, 1) := by decide +kernel
theorem dX10_sharedIfRaised_42 : decode cX10_sharedIfRaised 42 = .ok (.ireturn, 1) := by decide +kernel
theorem dX10_leastRaise_0 : decode cX10_leastRaise 0 = .ok (.aload_n 0, 1) := by decide +kernel
theorem dX10_leastRaise_1 : decode cX10_leastRaise 1 = .ok (.getfield 12, 3) := by decide +kernel
theorem dX10_leastRaise_4 : decode cX10_leastRaise 4 = .ok (.invokevirtual 182, 3) := by decide +kernel
theorem dX10_leastRaise_7 : decode cX10_leastRaise 7 = .ok (.istore_n 2, 1) := by decide +kernel
theorem dX10_leastRaise_8 : decode cX10_leastRaise 8 = .ok (.iconst 0, 1) := by decide +kernel
theorem dX10_leastRaise_9 : decode cX10_leastRaise 9 = .ok (.istore_n 3, 1) := by decide +kernel
theorem dX10_leastRaise_10 : decode cX10_leastRaise 10 = .ok (.iload_n 3, 1) := by decide +kernel
theorem dX10_leastRaise_11 : decode cX10_leastRaise 11 = .ok (.iload_n 2, 1) := by decide +kernel
theorem dX10_leastRaise_12 : decode cX10_leastRaise 12 = .ok (.if_icmp .ge 20, 3) := by decide +kernel
theorem dX10_leastRaise_15 : decode cX10_leastRaise 15 = .ok (.aload_n 0, 1) := by decide +kernel
theorem dX10_leastRaise_16 : decode cX10_leastRaise 16 = .ok (.aload_n 1, 1) := by decide +kernel
theorem dX10_leastRaise_17 : decode cX10_leastRaise 17 = .ok (.iload_n 3, 1) := by decide +kernel
theorem dX10_leastRaise_18 : decode cX10_leastRaise 18 = .ok (.invokevirtual 138, 3) := by decide +kernel
theorem dX10_leastRaise_21 : decode cX10_leastRaise 21 = .ok (.ifCond .ne 5, 3) := by decide +kernel
theorem dX10_leastRaise_24 : decode cX10_leastRaise 24 = .ok (.iload_n 3, 1) := by decide +kernel
theorem dX10_leastRaise_25 : decode cX10_leastRaise 25 = .ok (.ireturn, 1) := by decide +kernel
theorem dX10_leastRaise_26 : decode cX10_leastRaise 26 = .ok (.iinc 3 1, 3) := by decide +kernel
theorem dX10_leastRaise_29 : decode cX10_leastRaise 29 = .ok (.goto (-19), 3) := by decide +kernel
theorem dX10_leastRaise_32 : decode cX10_leastRaise 32 = .ok (.iload_n 2, 1) := by decide +kernel
theorem dX10_leastRaise_33 : decode cX10_leastRaise 33 = .ok (.ireturn, 1) := by decide +kernel
theorem dX10_nextSeed_0 : decode cX10_nextSeed 0 = .ok (.iload_n 0, 1) := by decide +kernel
theorem dX10_nextSeed_1 : decode cX10_nextSeed 1 = .ok (.ldc_w 300, 3) := by decide +kernel
theorem dX10_nextSeed_4 : decode cX10_nextSeed 4 = .ok (.imul, 1) := by decide +kernel
theorem dX10_nextSeed_5 : decode cX10_nextSeed 5 = .ok (.sipush 12345, 3) := by decide +kernel
theorem dX10_nextSeed_8 : decode cX10_nextSeed 8 = .ok (.iadd, 1) := by decide +kernel
theorem dX10_nextSeed_9 : decode cX10_nextSeed 9 = .ok (.ireturn, 1) := by decide +kernel
theorem dX10_drawnBits_0 : decode cX10_drawnBits 0 = .ok (.iload_n 0, 1) := by decide +kernel
theorem dX10_drawnBits_1 : decode cX10_drawnBits 1 = .ok (.ldc_w 301, 3) := by decide +kernel
theorem dX10_drawnBits_4 : decode cX10_drawnBits 4 = .ok (.iand, 1) := by decide +kernel
theorem dX10_drawnBits_5 : decode cX10_drawnBits 5 = .ok (.bipush 16, 2) := by decide +kernel
theorem dX10_drawnBits_7 : decode cX10_drawnBits 7 = .ok (.ishr, 1) := by decide +kernel
theorem dX10_drawnBits_8 : decode cX10_drawnBits 8 = .ok (.ireturn, 1) := by decide +kernel
theorem dX10_caughtFailure_0 : decode cX10_caughtFailure 0 = .ok (.aload_n 0, 1) := by decide +kernel
theorem dX10_caughtFailure_1 : decode cX10_caughtFailure 1 = .ok (.invokevirtual 302, 3) := by decide +kernel
theorem dX10_caughtFailure_4 : decode cX10_caughtFailure 4 = .ok (.goto 28, 3) := by decide +kernel
theorem dX10_caughtFailure_7 : decode cX10_caughtFailure 7 = .ok (.astore_n 1, 1) := by decide +kernel
theorem dX10_caughtFailure_8 : decode cX10_caughtFailure 8 = .ok (.aload_n 0, 1) := by decide +kernel
theorem dX10_caughtFailure_9 : decode cX10_caughtFailure 9 = .ok (.getfield 185, 3) := by decide +kernel
theorem dX10_caughtFailure_12 : decode cX10_caughtFailure 12 = .ok (.bipush 100, 2) := by decide +kernel
theorem dX10_caughtFailure_14 : decode cX10_caughtFailure 14 = .ok (.iadd, 1) := by decide +kernel
theorem dX10_caughtFailure_15 : decode cX10_caughtFailure 15 = .ok (.ireturn, 1) := by decide +kernel
theorem dX10_caughtFailure_16 : decode cX10_caughtFailure 16 = .ok (.astore_n 1, 1) := by decide +kernel
theorem dX10_caughtFailure_17 : decode cX10_caughtFailure 17 = .ok (.aload_n 0, 1) := by decide +kernel
theorem dX10_caughtFailure_18 : decode cX10_caughtFailure 18 = .ok (.invokevirtual 237, 3) := by decide +kernel
theorem dX10_caughtFailure_21 : decode cX10_caughtFailure 21 = .ok (.sipush 200, 3) := by decide +kernel
theorem dX10_caughtFailure_24 : decode cX10_caughtFailure 24 = .ok (.iadd, 1) := by decide +kernel
theorem dX10_caughtFailure_25 : decode cX10_caughtFailure 25 = .ok (.ireturn, 1) := by decide +kernel
theorem dX10_caughtFailure_26 : decode cX10_caughtFailure 26 = .ok (.astore_n 1, 1) := by decide +kernel
theorem dX10_caughtFailure_27 : decode cX10_caughtFailure 27 = .ok (.aload_n 0, 1) := by decide +kernel
theorem dX10_caughtFailure_28 : decode cX10_caughtFailure 28 = .ok (.getfield 185, 3) := by decide +kernel
theorem dX10_caughtFailure_31 : decode cX10_caughtFailure 31 = .ok (.ireturn, 1) := by decide +kernel
theorem dX10_caughtFailure_32 : decode cX10_caughtFailure 32 = .ok (.bipush (-15), 2) := by decide +kernel
theorem dX10_caughtFailure_34 : decode cX10_caughtFailure 34 = .ok (.ireturn, 1) := by decide +kernel
theorem dX11_init_0 : decode cX11_init 0 = .ok (.aload_n 0, 1) := by decide +kernel
theorem dX11_init_1 : decode cX11_init 1 = .ok (.invokespecial 1, 3) := by decide +kernel
theorem dX11_init_4 : decode cX11_init 4 = .ok (.aload_n 0, 1) := by decide +kernel
theorem dX11_init_5 : decode cX11_init 5 = .ok (.bipush 30, 2) := by decide +kernel
theorem dX11_init_7 : decode cX11_init 7 = .ok (.newarray .int, 2) := by decide +kernel
theorem dX11_init_9 : decode cX11_init 9 = .ok (.putfield 7, 3) := by decide +kernel
theorem dX11_init_12 : decode cX11_init 12 = .ok (.aload_n 0, 1) := by decide +kernel
theorem dX11_init_13 : decode cX11_init 13 = .ok (.bipush 30, 2) := by decide +kernel
theorem dX11_init_15 : decode cX11_init 15 = .ok (.newarray .int, 2) := by decide +kernel
theorem dX11_init_17 : decode cX11_init 17 = .ok (.putfield 13, 3) := by decide +kernel
theorem dX11_init_20 : decode cX11_init 20 = .ok (.aload_n 0, 1) := by decide +kernel
theorem dX11_init_21 : decode cX11_init 21 = .ok (.bipush 12, 2) := by decide +kernel
theorem dX11_init_23 : decode cX11_init 23 = .ok (.newarray .int, 2) := by decide +kernel
theorem dX11_init_25 : decode cX11_init 25 = .ok (.putfield 16, 3) := by decide +kernel
theorem dX11_init_28 : decode cX11_init 28 = .ok (.aload_n 0, 1) := by decide +kernel
theorem dX11_init_29 : decode cX11_init 29 = .ok (.bipush 12, 2) := by decide +kernel
theorem dX11_init_31 : decode cX11_init 31 = .ok (.newarray .int, 2) := by decide +kernel
theorem dX11_init_33 : decode cX11_init 33 = .ok (.putfield 19, 3) := by decide +kernel
theorem dX11_init_36 : decode cX11_init 36 = .ok (.aload_n 0, 1) := by decide +kernel
theorem dX11_init_37 : decode cX11_init 37 = .ok (.iconst 3, 1) := by decide +kernel
theorem dX11_init_38 : decode cX11_init 38 = .ok (.newarray .int, 2) := by decide +kernel
theorem dX11_init_40 : decode cX11_init 40 = .ok (.putfield 22, 3) := by decide +kernel
theorem dX11_init_43 : decode cX11_init 43 = .ok (.aload_n 0, 1) := by decide +kernel
theorem dX11_init_44 : decode cX11_init 44 = .ok (.bipush 51, 2) := by decide +kernel
theorem dX11_init_46 : decode cX11_init 46 = .ok (.newarray .int, 2) := by decide +kernel
theorem dX11_init_48 : decode cX11_init 48 = .ok (.putfield 25, 3) := by decide +kernel
theorem dX11_init_51 : decode cX11_init 51 = .ok (.aload_n 0, 1) := by decide +kernel
theorem dX11_init_52 : decode cX11_init 52 = .ok (.bipush 51, 2) := by decide +kernel
theorem dX11_init_54 : decode cX11_init 54 = .ok (.newarray .int, 2) := by decide +kernel
theorem dX11_init_56 : decode cX11_init 56 = .ok (.putfield 28, 3) := by decide +kernel
theorem dX11_init_59 : decode cX11_init 59 = .ok (.aload_n 0, 1) := by decide +kernel
theorem dX11_init_60 : decode cX11_init 60 = .ok (.bipush 51, 2) := by decide +kernel
theorem dX11_init_62 : decode cX11_init 62 = .ok (.newarray .int, 2) := by decide +kernel
theorem dX11_init_64 : decode cX11_init 64 = .ok (.putfield 31, 3) := by decide +kernel
theorem dX11_init_67 : decode cX11_init 67 = .ok (.aload_n 0, 1) := by decide +kernel
theorem dX11_init_68 : decode cX11_init 68 = .ok (.bipush 51, 2) := by decide +kernel
theorem dX11_init_70 : decode cX11_init 70 = .ok (.newarray .int, 2) := by decide +kernel
theorem dX11_init_72 : decode cX11_init 72 = .ok (.putfield 34, 3) := by decide +kernel
theorem dX11_init_75 : decode cX11_init 75 = .ok (.aload_n 0, 1) := by decide +kernel
theorem dX11_init_76 : decode cX11_init 76 = .ok (.bipush 75, 2) := by decide +kernel
theorem dX11_init_78 : decode cX11_init 78 = .ok (.newarray .int, 2) := by decide +kernel
theorem dX11_init_80 : decode cX11_init 80 = .ok (.putfield 37, 3) := by decide +kernel
theorem dX11_init_83 : decode cX11_init 83 = .ok (.aload_n 0, 1) := by decide +kernel
theorem dX11_init_84 : decode cX11_init 84 = .ok (.bipush 75, 2) := by decide +kernel
theorem dX11_init_86 : decode cX11_init 86 = .ok (.newarray .int, 2) := by decide +kernel
theorem dX11_init_88 : decode cX11_init 88 = .ok (.putfield 40, 3) := by decide +kernel
theorem dX11_init_91 : decode cX11_init 91 = .ok (.aload_n 0, 1) := by decide +kernel
theorem dX11_init_92 : decode cX11_init 92 = .ok (.bipush 12, 2) := by decide +kernel
theorem dX11_init_94 : decode cX11_init 94 = .ok (.newarray .int, 2) := by decide +kernel
theorem dX11_init_96 : decode cX11_init 96 = .ok (.putfield 43, 3) := by decide +kernel
theorem dX11_init_99 : decode cX11_init 99 = .ok (.aload_n 0, 1) := by decide +kernel
theorem dX11_init_100 : decode cX11_init 100 = .ok (.bipush 12, 2) := by decide +kernel
theorem dX11_init_102 : decode cX11_init 102 = .ok (.newarray .int, 2) := by decide +kernel
theorem dX11_init_104 : decode cX11_init 104 = .ok (.putfield 46, 3) := by decide +kernel
theorem dX11_init_107 : decode cX11_init 107 = .ok (.aload_n 0, 1) := by decide +kernel
theorem dX11_init_108 : decode cX11_init 108 = .ok (.bipush 7, 2) := by decide +kernel
theorem dX11_init_110 : decode cX11_init 110 = .ok (.newarray .int, 2) := by decide +kernel
theorem dX11_init_112 : decode cX11_init 112 = .ok (.putfield 49, 3) := by decide +kernel
theorem dX11_init_115 : decode cX11_init 115 = .ok (.aload_n 0, 1) := by decide +kernel
theorem dX11_init_116 : decode cX11_init 116 = .ok (.bipush 8, 2) := by decide +kernel
theorem dX11_init_118 : decode cX11_init 118 = .ok (.newarray .int, 2) := by decide +kernel
theorem dX11_init_120 : decode cX11_init 120 = .ok (.putfield 52, 3) := by decide +kernel
theorem dX11_init_123 : decode cX11_init 123 = .ok (.aload_n 0, 1) := by decide +kernel
theorem dX11_init_124 : decode cX11_init 124 = .ok (.bipush 8, 2) := by decide +kernel
theorem dX11_init_126 : decode cX11_init 126 = .ok (.newarray .int, 2) := by decide +kernel
theorem dX11_init_128 : decode cX11_init 128 = .ok (.putfield 55, 3) := by decide +kernel
theorem dX11_init_131 : decode cX11_init 131 = .ok (.aload_n 0, 1) := by decide +kernel
theorem dX11_init_132 : decode cX11_init 132 = .ok (.bipush 8, 2) := by decide +kernel
theorem dX11_init_134 : decode cX11_init 134 = .ok (.newarray .int, 2) := by decide +kernel
theorem dX11_init_136 : decode cX11_init 136 = .ok (.putfield 58, 3) := by decide +kernel
theorem dX11_init_139 : decode cX11_init 139 = .ok (.aload_n 0, 1) := by decide +kernel
theorem dX11_init_140 : decode cX11_init 140 = .ok (.bipush 8, 2) := by decide +kernel
theorem dX11_init_142 : decode cX11_init 142 = .ok (.newarray .int, 2) := by decide +kernel
theorem dX11_init_144 : decode cX11_init 144 = .ok (.putfield 61, 3) := by decide +kernel
theorem dX11_init_147 : decode cX11_init 147 = .ok (.aload_n 0, 1) := by decide +kernel
theorem dX11_init_148 : decode cX11_init 148 = .ok (.bipush 8, 2) := by decide +kernel
theorem dX11_init_150 : decode cX11_init 150 = .ok (.newarray .int, 2) := by decide +kernel
theorem dX11_init_152 : decode cX11_init 152 = .ok (.putfield 64, 3) := by decide +kernel
theorem dX11_init_155 : decode cX11_init 155 = .ok (.aload_n 0, 1) := by decide +kernel
theorem dX11_init_156 : decode cX11_init 156 = .ok (.sipush 800, 3) := by decide +kernel
theorem dX11_init_159 : decode cX11_init 159 = .ok (.newarray .long, 2) := by decide +kernel
theorem dX11_init_161 : decode cX11_init 161 = .ok (.putfield 67, 3) := by decide +kernel
theorem dX11_init_164 : decode cX11_init 164 = .ok (.aload_n 0, 1) := by decide +kernel
theorem dX11_init_165 : decode cX11_init 165 = .ok (.bipush 100, 2) := by decide +kernel
theorem dX11_init_167 : decode cX11_init 167 = .ok (.newarray .long, 2) := by decide +kernel
theorem dX11_init_169 : decode cX11_init 169 = .ok (.putfield 71, 3) := by decide +kernel
theorem dX11_init_172 : decode cX11_init 172 = .ok (.aload_n 0, 1) := by decide +kernel
theorem dX11_init_173 : decode cX11_init 173 = .ok (.iconst 0, 1) := by decide +kernel
theorem dX11_init_174 : decode cX11_init 174 = .ok (.putfield 74, 3) := by decide +kernel
theorem dX11_init_177 : decode cX11_init 177 = .ok (.return_, 1) := by decide +kernel
theorem dX11_thrown_0 : decode cX11_thrown 0 = .ok (.aload_n 0, 1) := by decide +kernel
theorem dX11_thrown_1 : decode cX11_thrown 1 = .ok (.getfield 74, 3) := by decide +kernel
theorem dX11_thrown_4 : decode cX11_thrown 4 = .ok (.ireturn, 1) := by decide +kernel
theorem dX11_in_0 : decode cX11_in 0 = .ok (.lload_n 0, 1) := by decide +kernel
theorem dX11_in_1 : decode cX11_in 1 = .ok (.lload_n 2, 1) := by decide +kernel
theorem dX11_in_2 : decode cX11_in 2 = .ok (.lcmp, 1) := by decide +kernel
theorem dX11_in_3 : decode cX11_in 3 = .ok (.ifCond .lt 14, 3) := by decide +kernel
theorem dX11_in_6 : decode cX11_in 6 = .ok (.lload_n 0, 1) := by decide +kernel
theorem dX11_in_7 : decode cX11_in 7 = .ok (.lload 4, 2) := by decide +kernel
theorem dX11_in_9 : decode cX11_in 9 = .ok (.lcmp, 1) := by decide +kernel
theorem dX11_in_10 : decode cX11_in 10 = .ok (.ifCond .gt 7, 3) := by decide +kernel
theorem dX11_in_13 : decode cX11_in 13 = .ok (.iconst 1, 1) := by decide +kernel
theorem dX11_in_14 : decode cX11_in 14 = .ok (.goto 4, 3) := by decide +kernel
theorem dX11_in_17 : decode cX11_in 17 = .ok (.iconst 0, 1) := by decide +kernel
theorem dX11_in_18 : decode cX11_in 18 = .ok (.ireturn, 1) := by decide +kernel
theorem dX11_lookEmpty_0 : decode cX11_lookEmpty 0 = .ok (.iconst 0, 1) := by decide +kernel
theorem dX11_lookEmpty_1 : decode cX11_lookEmpty 1 = .ok (.istore_n 1, 1) := by decide +kernel
theorem dX11_lookEmpty_2 : decode cX11_lookEmpty 2 = .ok (.iload_n 1, 1) := by decide +kernel
theorem dX11_lookEmpty_3 : decode cX11_lookEmpty 3 = .ok (.bipush 12, 2) := by decide +kernel
theorem dX11_lookEmpty_5 : decode cX11_lookEmpty 5 = .ok (.if_icmp .ge 16, 3) := by decide +kernel
theorem dX11_lookEmpty_8 : decode cX11_lookEmpty 8 = .ok (.aload_n 0, 1) := by decide +kernel
theorem dX11_lookEmpty_9 : decode cX11_lookEmpty 9 = .ok (.getfield 19, 3) := by decide +kernel
theorem dX11_lookEmpty_12 : decode cX11_lookEmpty 12 = .ok (.iload_n 1, 1) := by decide +kernel
theorem dX11_lookEmpty_13 : decode cX11_lookEmpty 13 = .ok (.iconst 0, 1) := by decide +kernel
theorem dX11_lookEmpty_14 : decode cX11_lookEmpty 14 = .ok (.iastore, 1) := by decide +kernel
theorem dX11_lookEmpty_15 : decode cX11_lookEmpty 15 = .ok (.iinc 1 1, 3) := by decide +kernel
theorem dX11_lookEmpty_18 : decode cX11_lookEmpty 18 = .ok (.goto (-16), 3) := by decide +kernel
theorem dX11_lookEmpty_21 : decode cX11_lookEmpty 21 = .ok (.iconst 0, 1) := by decide +kernel
theorem dX11_lookEmpty_22 : decode cX11_lookEmpty 22 = .ok (.istore_n 1, 1) := by decide +kernel
theorem dX11_lookEmpty_23 : decode cX11_lookEmpty 23 = .ok (.iload_n 1, 1) := by decide +kernel
theorem dX11_lookEmpty_24 : decode cX11_lookEmpty 24 = .ok (.iconst 3, 1) := by decide +kernel
theorem dX11_lookEmpty_25 : decode cX11_lookEmpty 25 = .ok (.if_icmp .ge 16, 3) := by decide +kernel
theorem dX11_lookEmpty_28 : decode cX11_lookEmpty 28 = .ok (.aload_n 0, 1) := by decide +kernel
theorem dX11_lookEmpty_29 : decode cX11_lookEmpty 29 = .ok (.getfield 22, 3) := by decide +kernel
theorem dX11_lookEmpty_32 : decode cX11_lookEmpty 32 = .ok (.iload_n 1, 1) := by decide +kernel
theorem dX11_lookEmpty_33 : decode cX11_lookEmpty 33 = .ok (.iconst 0, 1) := by decide +kernel
theorem dX11_lookEmpty_34 : decode cX11_lookEmpty 34 = .ok (.iastore, 1) := by decide +kernel
theorem dX11_lookEmpty_35 : decode cX11_lookEmpty 35 = .ok (.iinc 1 1, 3) := by decide +kernel
theorem dX11_lookEmpty_38 : decode cX11_lookEmpty 38 = .ok (.goto (-15), 3) := by decide +kernel
theorem dX11_lookEmpty_41 : decode cX11_lookEmpty 41 = .ok (.return_, 1) := by decide +kernel
theorem dX11_lookNow_0 : decode cX11_lookNow 0 = .ok (.aload_n 0, 1) := by decide +kernel
theorem dX11_lookNow_1 : decode cX11_lookNow 1 = .ok (.invokevirtual 78, 3) := by decide +kernel
theorem dX11_lookNow_4 : decode cX11_lookNow 4 = .ok (.iconst 0, 1) := by decide +kernel
theorem dX11_lookNow_5 : decode cX11_lookNow 5 = .ok (.istore_n 1, 1) := by decide +kernel
theorem dX11_lookNow_6 : decode cX11_lookNow 6 = .ok (.iload_n 1, 1) := by decide +kernel
theorem dX11_lookNow_7 : decode cX11_lookNow 7 = .ok (.bipush 12, 2) := by decide +kernel
theorem dX11_lookNow_9 : decode cX11_lookNow 9 = .ok (.if_icmp .ge 21, 3) := by decide +kernel
theorem dX11_lookNow_12 : decode cX11_lookNow 12 = .ok (.aload_n 0, 1) := by decide +kernel
theorem dX11_lookNow_13 : decode cX11_lookNow 13 = .ok (.getfield 19, 3) := by decide +kernel
theorem dX11_lookNow_16 : decode cX11_lookNow 16 = .ok (.iload_n 1, 1) := by decide +kernel
theorem dX11_lookNow_17 : decode cX11_lookNow 17 = .ok (.aload_n 0, 1) := by decide +kernel
theorem dX11_lookNow_18 : decode cX11_lookNow 18 = .ok (.getfield 16, 3) := by decide +kernel
theorem dX11_lookNow_21 : decode cX11_lookNow 21 = .ok (.iload_n 1, 1) := by decide +kernel
theorem dX11_lookNow_22 : decode cX11_lookNow 22 = .ok (.iaload, 1) := by decide +kernel
theorem dX11_lookNow_23 : decode cX11_lookNow 23 = .ok (.iastore, 1) := by decide +kernel
theorem dX11_lookNow_24 : decode cX11_lookNow 24 = .ok (.iinc 1 1, 3) := by decide +kernel
theorem dX11_lookNow_27 : decode cX11_lookNow 27 = .ok (.goto (-21), 3) := by decide +kernel
theorem dX11_lookNow_30 : decode cX11_lookNow 30 = .ok (.iconst 0, 1) := by decide +kernel
theorem dX11_lookNow_31 : decode cX11_lookNow 31 = .ok (.istore_n 1, 1) := by decide +kernel
theorem dX11_lookNow_32 : decode cX11_lookNow 32 = .ok (.iload_n 1, 1) := by decide +kernel
theorem dX11_lookNow_33 : decode cX11_lookNow 33 = .ok (.aload_n 0, 1) := by decide +kernel
theorem dX11_lookNow_34 : decode cX11_lookNow 34 = .ok (.getfield 81, 3) := by decide +kernel
theorem dX11_lookNow_37 : decode cX11_lookNow 37 = .ok (.if_icmp .ge 39, 3) := by decide +kernel
theorem dX11_lookNow_40 : decode cX11_lookNow 40 = .ok (.aload_n 0, 1) := by decide +kernel
theorem dX11_lookNow_41 : decode cX11_lookNow 41 = .ok (.getfield 22, 3) := by decide +kernel
theorem dX11_lookNow_44 : decode cX11_lookNow 44 = .ok (.aload_n 0, 1) := by decide +kernel
theorem dX11_lookNow_45 : decode cX11_lookNow 45 = .ok (.getfield 7, 3) := by decide +kernel
theorem dX11_lookNow_48 : decode cX11_lookNow 48 = .ok (.iload_n 1, 1) := by decide +kernel
theorem dX11_lookNow_49 : decode cX11_lookNow 49 = .ok (.iaload, 1) := by decide +kernel
theorem dX11_lookNow_50 : decode cX11_lookNow 50 = .ok (.iconst 4, 1) := by decide +kernel
theorem dX11_lookNow_51 : decode cX11_lookNow 51 = .ok (.idiv, 1) := by decide +kernel
theorem dX11_lookNow_52 : decode cX11_lookNow 52 = .ok (.dup2, 1) := by decide +kernel
theorem dX11_lookNow_53 : decode cX11_lookNow 53 = .ok (.iaload, 1) := by decide +kernel
theorem dX11_lookNow_54 : decode cX11_lookNow 54 = .ok (.aload_n 0, 1) := by decide +kernel
theorem dX11_lookNow_55 : decode cX11_lookNow 55 = .ok (.getfield 13, 3) := by decide +kernel
theorem dX11_lookNow_58 : decode cX11_lookNow 58 = .ok (.iload_n 1, 1) := by decide +kernel
theorem dX11_lookNow_59 : decode cX11_lookNow 59 = .ok (.iaload, 1) := by decide +kernel
theorem dX11_lookNow_60 : decode cX11_lookNow 60 = .ok (.ifCond .le 7, 3) := by decide +kernel
theorem dX11_lookNow_63 : decode cX11_lookNow 63 = .ok (.iconst 1, 1) := by decide +kernel
theorem dX11_lookNow_64 : decode cX11_lookNow 64 = .ok (.goto 4, 3) := by decide +kernel
theorem dX11_lookNow_67 : decode cX11_lookNow 67 = .ok (.iconst 0, 1) := by decide +kernel
theorem dX11_lookNow_68 : decode cX11_lookNow 68 = .ok (.iadd, 1) := by decide +kernel
theorem dX11_lookNow_69 : decode cX11_lookNow 69 = .ok (.iastore, 1) := by decide +kernel
theorem dX11_lookNow_70 : decode cX11_lookNow 70 = .ok (.iinc 1 1, 3) := by decide +kernel
theorem dX11_lookNow_73 : decode cX11_lookNow 73 = .ok (.goto (-41), 3) := by decide +kernel
theorem dX11_lookNow_76 : decode cX11_lookNow 76 = .ok (.return_, 1) := by decide +kernel
theorem dX11_isHad_0 : decode cX11_isHad 0 = .ok (.iconst 0, 1) := by decide +kernel
theorem dX11_isHad_1 : decode cX11_isHad 1 = .ok (.istore_n 2, 1) := by decide +kernel
theorem dX11_isHad_2 : decode cX11_isHad 2 = .ok (.iconst 0, 1) := by decide +kernel
theorem dX11_isHad_3 : decode cX11_isHad 3 = .ok (.istore_n 3, 1) := by decide +kernel
theorem dX11_isHad_4 : decode cX11_isHad 4 = .ok (.iload_n 3, 1) := by decide +kernel
theorem dX11_isHad_5 : decode cX11_isHad 5 = .ok (.bipush 12, 2) := by decide +kernel
theorem dX11_isHad_7 : decode cX11_isHad 7 = .ok (.if_icmp .ge 29, 3) := by decide +kernel
theorem dX11_isHad_10 : decode cX11_isHad 10 = .ok (.iload_n 2, 1) := by decide +kernel
theorem dX11_isHad_11 : decode cX11_isHad 11 = .ok (.ifCond .ne 13, 3) := by decide +kernel
theorem dX11_isHad_14 : decode cX11_isHad 14 = .ok (.aload_n 0, 1) := by decide +kernel
theorem dX11_isHad_15 : decode cX11_isHad 15 = .ok (.getfield 19, 3) := by decide +kernel
theorem dX11_isHad_18 : decode cX11_isHad 18 = .ok (.iload_n 3, 1) := by decide +kernel
theorem dX11_isHad_19 : decode cX11_isHad 19 = .ok (.iaload, 1) := by decide +kernel
theorem dX11_isHad_20 : decode cX11_isHad 20 = .ok (.iload_n 1, 1) := by decide +kernel
theorem dX11_isHad_21 : decode cX11_isHad 21 = .ok (.if_icmp .ne 7, 3) := by decide +kernel
theorem dX11_isHad_24 : decode cX11_isHad 24 = .ok (.iconst 1, 1) := by decide +kernel
theorem dX11_isHad_25 : decode cX11_isHad 25 = .ok (.goto 4, 3) := by decide +kernel
theorem dX11_isHad_28 : decode cX11_isHad 28 = .ok (.iconst 0, 1) := by decide +kernel
theorem dX11_isHad_29 : decode cX11_isHad 29 = .ok (.istore_n 2, 1) := by decide +kernel
theorem dX11_isHad_30 : decode cX11_isHad 30 = .ok (.iinc 3 1, 3) := by decide +kernel
theorem dX11_isHad_33 : decode cX11_isHad 33 = .ok (.goto (-29), 3) := by decide +kernel
theorem dX11_isHad_36 : decode cX11_isHad 36 = .ok (.iload_n 2, 1) := by decide +kernel
theorem dX11_isHad_37 : decode cX11_isHad 37 = .ok (.ireturn, 1) := by decide +kernel
theorem dX11_greatest_0 : decode cX11_greatest 0 = .ok (.iconst 0, 1) := by decide +kernel
theorem dX11_greatest_1 : decode cX11_greatest 1 = .ok (.istore_n 1, 1) := by decide +kernel
theorem dX11_greatest_2 : decode cX11_greatest 2 = .ok (.iconst 0, 1) := by decide +kernel
theorem dX11_greatest_3 : decode cX11_greatest 3 = .ok (.istore_n 2, 1) := by decide +kernel
theorem dX11_greatest_4 : decode cX11_greatest 4 = .ok (.iload_n 2, 1) := by decide +kernel
theorem dX11_greatest_5 : decode cX11_greatest 5 = .ok (.bipush 12, 2) := by decide +kernel
theorem dX11_greatest_7 : decode cX11_greatest 7 = .ok (.if_icmp .ge 30, 3) := by decide +kernel
theorem dX11_greatest_10 : decode cX11_greatest 10 = .ok (.aload_n 0, 1) := by decide +kernel
theorem dX11_greatest_11 : decode cX11_greatest 11 = .ok (.getfield 19, 3) := by decide +kernel
theorem dX11_greatest_14 : decode cX11_greatest 14 = .ok (.iload_n 2, 1) := by decide +kernel
theorem dX11_greatest_15 : decode cX11_greatest 15 = .ok (.iaload, 1) := by decide +kernel
theorem dX11_greatest_16 : decode cX11_greatest 16 = .ok (.iload_n 1, 1) := by decide +kernel
theorem dX11_greatest_17 : decode cX11_greatest 17 = .ok (.if_icmp .le 12, 3) := by decide +kernel
theorem dX11_greatest_20 : decode cX11_greatest 20 = .ok (.aload_n 0, 1) := by decide +kernel
theorem dX11_greatest_21 : decode cX11_greatest 21 = .ok (.getfield 19, 3) := by decide +kernel
theorem dX11_greatest_24 : decode cX11_greatest 24 = .ok (.iload_n 2, 1) := by decide +kernel
theorem dX11_greatest_25 : decode cX11_greatest 25 = .ok (.iaload, 1) := by decide +kernel
theorem dX11_greatest_26 : decode cX11_greatest 26 = .ok (.goto 4, 3) := by decide +kernel
theorem dX11_greatest_29 : decode cX11_greatest 29 = .ok (.iload_n 1, 1) := by decide +kernel
theorem dX11_greatest_30 : decode cX11_greatest 30 = .ok (.istore_n 1, 1) := by decide +kernel
theorem dX11_greatest_31 : decode cX11_greatest 31 = .ok (.iinc 2 1, 3) := by decide +kernel
theorem dX11_greatest_34 : decode cX11_greatest 34 = .ok (.goto (-30), 3) := by decide +kernel
theorem dX11_greatest_37 : decode cX11_greatest 37 = .ok (.iload_n 1, 1) := by decide +kernel
theorem dX11_greatest_38 : decode cX11_greatest 38 = .ok (.ireturn, 1) := by decide +kernel
theorem dX11_firstGap_0 : decode cX11_firstGap 0 = .ok (.iconst 1, 1) := by decide +kernel
theorem dX11_firstGap_1 : decode cX11_firstGap 1 = .ok (.istore_n 1, 1) := by decide +kernel
theorem dX11_firstGap_2 : decode cX11_firstGap 2 = .ok (.aload_n 0, 1) := by decide +kernel
theorem dX11_firstGap_3 : decode cX11_firstGap 3 = .ok (.iload_n 1, 1) := by decide +kernel
theorem dX11_firstGap_4 : decode cX11_firstGap 4 = .ok (.invokevirtual 84, 3) := by decide +kernel
theorem dX11_firstGap_7 : decode cX11_firstGap 7 = .ok (.ifCond .eq 9, 3) := by decide +kernel
theorem dX11_firstGap_10 : decode cX11_firstGap 10 = .ok (.iinc 1 1, 3) := by decide +kernel
theorem dX11_firstGap_13 : decode cX11_firstGap 13 = .ok (.goto (-11), 3) := by decide +kernel
theorem dX11_firstGap_16 : decode cX11_firstGap 16 = .ok (.iload_n 1, 1) := by decide +kernel
theorem dX11_firstGap_17 : decode cX11_firstGap 17 = .ok (.ireturn, 1) := by decide +kernel
theorem dX11_skipped_0 : decode cX11_skipped 0 = .ok (.iload_n 0, 1) := by decide +kernel
theorem dX11_skipped_1 : decode cX11_skipped 1 = .ok (.istore_n 2, 1) := by decide +kernel
theorem dX11_skipped_2 : decode cX11_skipped 2 = .ok (.iconst 0, 1) := by decide +kernel
theorem dX11_skipped_3 : decode cX11_skipped 3 = .ok (.istore_n 3, 1) := by decide +kernel
theorem dX11_skipped_4 : decode cX11_skipped 4 = .ok (.iload_n 2, 1) := by decide +kernel
theorem dX11_skipped_5 : decode cX11_skipped 5 = .ok (.ifCond .le 28, 3) := by decide +kernel
theorem dX11_skipped_8 : decode cX11_skipped 8 = .ok (.iinc 3 1, 3) := by decide +kernel
theorem dX11_skipped_11 : decode cX11_skipped 11 = .ok (.iload_n 2, 1) := by decide +kernel
theorem dX11_skipped_12 : decode cX11_skipped 12 = .ok (.iload_n 1, 1) := by decide +kernel
theorem dX11_skipped_13 : decode cX11_skipped 13 = .ok (.iconst 2, 1) := by decide +kernel
theorem dX11_skipped_14 : decode cX11_skipped 14 = .ok (.if_icmp .lt 9, 3) := by decide +kernel
theorem dX11_skipped_17 : decode cX11_skipped 17 = .ok (.iload_n 3, 1) := by decide +kernel
theorem dX11_skipped_18 : decode cX11_skipped 18 = .ok (.iload_n 1, 1) := by decide +kernel
theorem dX11_skipped_19 : decode cX11_skipped 19 = .ok (.irem, 1) := by decide +kernel
theorem dX11_skipped_20 : decode cX11_skipped 20 = .ok (.ifCond .eq 7, 3) := by decide +kernel
theorem dX11_skipped_23 : decode cX11_skipped 23 = .ok (.iconst 1, 1) := by decide +kernel
theorem dX11_skipped_24 : decode cX11_skipped 24 = .ok (.goto 4, 3) := by decide +kernel
theorem dX11_skipped_27 : decode cX11_skipped 27 = .ok (.iconst 0, 1) := by decide +kernel
theorem dX11_skipped_28 : decode cX11_skipped 28 = .ok (.isub, 1) := by decide +kernel
theorem dX11_skipped_29 : decode cX11_skipped 29 = .ok (.istore_n 2, 1) := by decide +kernel
theorem dX11_skipped_30 : decode cX11_skipped 30 = .ok (.goto (-26), 3) := by decide +kernel
theorem dX11_skipped_33 : decode cX11_skipped 33 = .ok (.iload_n 3, 1) := by decide +kernel
theorem dX11_skipped_34 : decode cX11_skipped 34 = .ok (.ireturn, 1) := by decide +kernel
theorem dX11_numberBy_0 : decode cX11_numberBy 0 = .ok (.aload_n 0, 1) := by decide +kernel
theorem dX11_numberBy_1 : decode cX11_numberBy 1 = .ok (.getfield 22, 3) := by decide +kernel
theorem dX11_numberBy_4 : decode cX11_numberBy 4 = .ok (.iconst 0, 1) := by decide +kernel
theorem dX11_numberBy_5 : decode cX11_numberBy 5 = .ok (.iaload, 1) := by decide +kernel
theorem dX11_numberBy_6 : decode cX11_numberBy 6 = .ok (.aload_n 0, 1) := by decide +kernel
theorem dX11_numberBy_7 : decode cX11_numberBy 7 = .ok (.getfield 22, 3) := by decide +kernel
theorem dX11_numberBy_10 : decode cX11_numberBy 10 = .ok (.iconst 1, 1) := by decide +kernel
theorem dX11_numberBy_11 : decode cX11_numberBy 11 = .ok (.iaload, 1) := by decide +kernel
theorem dX11_numberBy_12 : decode cX11_numberBy 12 = .ok (.iadd, 1) := by decide +kernel
theorem dX11_numberBy_13 : decode cX11_numberBy 13 = .ok (.aload_n 0, 1) := by decide +kernel
theorem dX11_numberBy_14 : decode cX11_numberBy 14 = .ok (.getfield 22, 3) := by decide +kernel
theorem dX11_numberBy_17 : decode cX11_numberBy 17 = .ok (.iconst 2, 1) := by decide +kernel
theorem dX11_numberBy_18 : decode cX11_numberBy 18 = .ok (.iaload, 1) := by decide +kernel
theorem dX11_numberBy_19 : decode cX11_numberBy 19 = .ok (.iadd, 1) := by decide +kernel
theorem dX11_numberBy_20 : decode cX11_numberBy 20 = .ok (.iconst 1, 1) := by decide +kernel
theorem dX11_numberBy_21 : decode cX11_numberBy 21 = .ok (.iadd, 1) := by decide +kernel
theorem dX11_numberBy_22 : decode cX11_numberBy 22 = .ok (.istore 5, 2) := by decide +kernel
theorem dX11_numberBy_24 : decode cX11_numberBy 24 = .ok (.aload_n 0, 1) := by decide +kernel
theorem dX11_numberBy_25 : decode cX11_numberBy 25 = .ok (.getfield 22, 3) := by decide +kernel
theorem dX11_numberBy_28 : decode cX11_numberBy 28 = .ok (.iload_n 3, 1) := by decide +kernel
theorem dX11_numberBy_29 : decode cX11_numberBy 29 = .ok (.iconst 4, 1) := by decide +kernel
theorem dX11_numberBy_30 : decode cX11_numberBy 30 = .ok (.idiv, 1) := by decide +kernel
theorem dX11_numberBy_31 : decode cX11_numberBy 31 = .ok (.iaload, 1) := by decide +kernel
theorem dX11_numberBy_32 : decode cX11_numberBy 32 = .ok (.iconst 1, 1) := by decide +kernel
theorem dX11_numberBy_33 : decode cX11_numberBy 33 = .ok (.iadd, 1) := by decide +kernel
theorem dX11_numberBy_34 : decode cX11_numberBy 34 = .ok (.istore 6, 2) := by decide +kernel
theorem dX11_numberBy_36 : decode cX11_numberBy 36 = .ok (.iload_n 1, 1) := by decide +kernel
theorem dX11_numberBy_37 : decode cX11_numberBy 37 = .ok (.tableswitch 96 0 6 #[43, 46, 51, 54, 62, 67, 74], 43) := by decide +kernel
theorem dX11_numberBy_80 : decode cX11_numberBy 80 = .ok (.iload 5, 2) := by decide +kernel
theorem dX11_numberBy_82 : decode cX11_numberBy 82 = .ok (.ireturn, 1) := by decide +kernel
theorem dX11_numberBy_83 : decode cX11_numberBy 83 = .ok (.aload_n 0, 1) := by decide +kernel
theorem dX11_numberBy_84 : decode cX11_numberBy 84 = .ok (.invokevirtual 88, 3) := by decide +kernel
theorem dX11_numberBy_87 : decode cX11_numberBy 87 = .ok (.ireturn, 1) := by decide +kernel
theorem dX11_numberBy_88 : decode cX11_numberBy 88 = .ok (.iload 6, 2) := by decide +kernel
theorem dX11_numberBy_90 : decode cX11_numberBy 90 = .ok (.ireturn, 1) := by decide +kernel
theorem dX11_numberBy_91 : decode cX11_numberBy 91 = .ok (.iload 5, 2) := by decide +kernel
theorem dX11_numberBy_93 : decode cX11_numberBy 93 = .ok (.iload_n 2, 1) := by decide +kernel
theorem dX11_numberBy_94 : decode cX11_numberBy 94 = .ok (.iload 4, 2) := by decide +kernel
theorem dX11_numberBy_96 : decode cX11_numberBy 96 = .ok (.imul, 1) := by decide +kernel
theorem dX11_numberBy_97 : decode cX11_numberBy 97 = .ok (.iadd, 1) := by decide +kernel
theorem dX11_numberBy_98 : decode cX11_numberBy 98 = .ok (.ireturn, 1) := by decide +kernel
theorem dX11_numberBy_99 : decode cX11_numberBy 99 = .ok (.iconst 2, 1) := by decide +kernel
theorem dX11_numberBy_100 : decode cX11_numberBy 100 = .ok (.iload 5, 2) := by decide +kernel
theorem dX11_numberBy_102 : decode cX11_numberBy 102 = .ok (.imul, 1) := by decide +kernel
theorem dX11_numberBy_103 : decode cX11_numberBy 103 = .ok (.ireturn, 1) := by decide +kernel
theorem dX11_numberBy_104 : decode cX11_numberBy 104 = .ok (.iload 5, 2) := by decide +kernel
theorem dX11_numberBy_106 : decode cX11_numberBy 106 = .ok (.iload_n 2, 1) := by decide +kernel
theorem dX11_numberBy_107 : decode cX11_numberBy 107 = .ok (.invokestatic 92, 3) := by decide +kernel
theorem dX11_numberBy_110 : decode cX11_numberBy 110 = .ok (.ireturn, 1) := by decide +kernel
theorem dX11_numberBy_111 : decode cX11_numberBy 111 = .ok (.aload_n 0, 1) := by decide +kernel
theorem dX11_numberBy_112 : decode cX11_numberBy 112 = .ok (.invokevirtual 88, 3) := by decide +kernel
theorem dX11_numberBy_115 : decode cX11_numberBy 115 = .ok (.iload_n 2, 1) := by decide +kernel
theorem dX11_numberBy_116 : decode cX11_numberBy 116 = .ok (.if_icmp .ge 10, 3) := by decide +kernel
theorem dX11_numberBy_119 : decode cX11_numberBy 119 = .ok (.aload_n 0, 1) := by decide +kernel
theorem dX11_numberBy_120 : decode cX11_numberBy 120 = .ok (.invokevirtual 88, 3) := by decide +kernel
theorem dX11_numberBy_123 : decode cX11_numberBy 123 = .ok (.goto 9, 3) := by decide +kernel
theorem dX11_numberBy_126 : decode cX11_numberBy 126 = .ok (.aload_n 0, 1) := by decide +kernel
theorem dX11_numberBy_127 : decode cX11_numberBy 127 = .ok (.invokevirtual 96, 3) := by decide +kernel
theorem dX11_numberBy_130 : decode cX11_numberBy 130 = .ok (.iconst 1, 1) := by decide +kernel
theorem dX11_numberBy_131 : decode cX11_numberBy 131 = .ok (.iadd, 1) := by decide +kernel
theorem dX11_numberBy_132 : decode cX11_numberBy 132 = .ok (.ireturn, 1) := by decide +kernel
theorem dX11_numberBy_133 : decode cX11_numberBy 133 = .ok (.iload_n 3, 1) := by decide +kernel
theorem dX11_numberBy_134 : decode cX11_numberBy 134 = .ok (.iconst 2, 1) := by decide +kernel
theorem dX11_numberBy_135 : decode cX11_numberBy 135 = .ok (.irem, 1) := by decide +kernel
theorem dX11_numberBy_136 : decode cX11_numberBy 136 = .ok (.ifCond .ne 12, 3) := by decide +kernel
theorem dX11_numberBy_139 : decode cX11_numberBy 139 = .ok (.iconst 2, 1) := by decide +kernel
theorem dX11_numberBy_140 : decode cX11_numberBy 140 = .ok (.iload 6, 2) := by decide +kernel
theorem dX11_numberBy_142 : decode cX11_numberBy 142 = .ok (.imul, 1) := by decide +kernel
theorem dX11_numberBy_143 : decode cX11_numberBy 143 = .ok (.iconst 1, 1) := by decide +kernel
theorem dX11_numberBy_144 : decode cX11_numberBy 144 = .ok (.isub, 1) := by decide +kernel
theorem dX11_numberBy_145 : decode cX11_numberBy 145 = .ok (.goto 7, 3) := by decide +kernel
theorem dX11_numberBy_148 : decode cX11_numberBy 148 = .ok (.iconst 2, 1) := by decide +kernel
theorem dX11_numberBy_149 : decode cX11_numberBy 149 = .ok (.iload 6, 2) := by decide +kernel
theorem dX11_numberBy_151 : decode cX11_numberBy 151 = .ok (.imul, 1) := by decide +kernel
theorem dX11_numberBy_152 : decode cX11_numberBy 152 = .ok (.ireturn, 1) := by decide +kernel
theorem dX11_buildLooked_0 : decode cX11_buildLooked 0 = .ok (.aload_n 0, 1) := by decide +kernel
theorem dX11_buildLooked_1 : decode cX11_buildLooked 1 = .ok (.getfield 19, 3) := by decide +kernel
theorem dX11_buildLooked_4 : decode cX11_buildLooked 4 = .ok (.iload_n 3, 1) := by decide +kernel
theorem dX11_buildLooked_5 : decode cX11_buildLooked 5 = .ok (.aload_n 0, 1) := by decide +kernel
theorem dX11_buildLooked_6 : decode cX11_buildLooked 6 = .ok (.iload_n 1, 1) := by decide +kernel
theorem dX11_buildLooked_7 : decode cX11_buildLooked 7 = .ok (.iload_n 2, 1) := by decide +kernel
theorem dX11_buildLooked_8 : decode cX11_buildLooked 8 = .ok (.iload_n 3, 1) := by decide +kernel
theorem dX11_buildLooked_9 : decode cX11_buildLooked 9 = .ok (.iload 4, 2) := by decide +kernel
theorem dX11_buildLooked_11 : decode cX11_buildLooked 11 = .ok (.invokevirtual 99, 3) := by decide +kernel
theorem dX11_buildLooked_14 : decode cX11_buildLooked 14 = .ok (.iastore, 1) := by decide +kernel
theorem dX11_buildLooked_15 : decode cX11_buildLooked 15 = .ok (.aload_n 0, 1) := by decide +kernel
theorem dX11_buildLooked_16 : decode cX11_buildLooked 16 = .ok (.getfield 22, 3) := by decide +kernel
theorem dX11_buildLooked_19 : decode cX11_buildLooked 19 = .ok (.iload_n 3, 1) := by decide +kernel
theorem dX11_buildLooked_20 : decode cX11_buildLooked 20 = .ok (.iconst 4, 1) := by decide +kernel
theorem dX11_buildLooked_21 : decode cX11_buildLooked 21 = .ok (.idiv, 1) := by decide +kernel
theorem dX11_buildLooked_22 : decode cX11_buildLooked 22 = .ok (.dup2, 1) := by decide +kernel
theorem dX11_buildLooked_23 : decode cX11_buildLooked 23 = .ok (.iaload, 1) := by decide +kernel
theorem dX11_buildLooked_24 : decode cX11_buildLooked 24 = .ok (.iconst 1, 1) := by decide +kernel
theorem dX11_buildLooked_25 : decode cX11_buildLooked 25 = .ok (.iadd, 1) := by decide +kernel
theorem dX11_buildLooked_26 : decode cX11_buildLooked 26 = .ok (.iastore, 1) := by decide +kernel
theorem dX11_buildLooked_27 : decode cX11_buildLooked 27 = .ok (.return_, 1) := by decide +kernel
theorem dX11_replay_0 : decode cX11_replay 0 = .ok (.aload_n 0, 1) := by decide +kernel
theorem dX11_replay_1 : decode cX11_replay 1 = .ok (.invokevirtual 78, 3) := by decide +kernel
theorem dX11_replay_4 : decode cX11_replay 4 = .ok (.iconst 0, 1) := by decide +kernel
theorem dX11_replay_5 : decode cX11_replay 5 = .ok (.istore_n 3, 1) := by decide +kernel
theorem dX11_replay_6 : decode cX11_replay 6 = .ok (.iload_n 3, 1) := by decide +kernel
theorem dX11_replay_7 : decode cX11_replay 7 = .ok (.aload_n 0, 1) := by decide +kernel
theorem dX11_replay_8 : decode cX11_replay 8 = .ok (.getfield 81, 3) := by decide +kernel
theorem dX11_replay_11 : decode cX11_replay 11 = .ok (.if_icmp .ge 51, 3) := by decide +kernel
theorem dX11_replay_14 : decode cX11_replay 14 = .ok (.aload_n 0, 1) := by decide +kernel
theorem dX11_replay_15 : decode cX11_replay 15 = .ok (.getfield 13, 3) := by decide +kernel
theorem dX11_replay_18 : decode cX11_replay 18 = .ok (.iload_n 3, 1) := by decide +kernel
theorem dX11_replay_19 : decode cX11_replay 19 = .ok (.iaload, 1) := by decide +kernel
theorem dX11_replay_20 : decode cX11_replay 20 = .ok (.ifCond .le 24, 3) := by decide +kernel
theorem dX11_replay_23 : decode cX11_replay 23 = .ok (.aload_n 0, 1) := by decide +kernel
theorem dX11_replay_24 : decode cX11_replay 24 = .ok (.iload_n 1, 1) := by decide +kernel
theorem dX11_replay_25 : decode cX11_replay 25 = .ok (.iload_n 2, 1) := by decide +kernel
theorem dX11_replay_26 : decode cX11_replay 26 = .ok (.aload_n 0, 1) := by decide +kernel
theorem dX11_replay_27 : decode cX11_replay 27 = .ok (.getfield 7, 3) := by decide +kernel
theorem dX11_replay_30 : decode cX11_replay 30 = .ok (.iload_n 3, 1) := by decide +kernel
theorem dX11_replay_31 : decode cX11_replay 31 = .ok (.iaload, 1) := by decide +kernel
theorem dX11_replay_32 : decode cX11_replay 32 = .ok (.aload_n 0, 1) := by decide +kernel
theorem dX11_replay_33 : decode cX11_replay 33 = .ok (.getfield 13, 3) := by decide +kernel
theorem dX11_replay_36 : decode cX11_replay 36 = .ok (.iload_n 3, 1) := by decide +kernel
theorem dX11_replay_37 : decode cX11_replay 37 = .ok (.iaload, 1) := by decide +kernel
theorem dX11_replay_38 : decode cX11_replay 38 = .ok (.invokevirtual 103, 3) := by decide +kernel
theorem dX11_replay_41 : decode cX11_replay 41 = .ok (.goto 15, 3) := by decide +kernel
theorem dX11_replay_44 : decode cX11_replay 44 = .ok (.aload_n 0, 1) := by decide +kernel
theorem dX11_replay_45 : decode cX11_replay 45 = .ok (.getfield 19, 3) := by decide +kernel
theorem dX11_replay_48 : decode cX11_replay 48 = .ok (.aload_n 0, 1) := by decide +kernel
theorem dX11_replay_49 : decode cX11_replay 49 = .ok (.getfield 7, 3) := by decide +kernel
theorem dX11_replay_52 : decode cX11_replay 52 = .ok (.iload_n 3, 1) := by decide +kernel
theorem dX11_replay_53 : decode cX11_replay 53 = .ok (.iaload, 1) := by decide +kernel
theorem dX11_replay_54 : decode cX11_replay 54 = .ok (.iconst 0, 1) := by decide +kernel
theorem dX11_replay_55 : decode cX11_replay 55 = .ok (.iastore, 1) := by decide +kernel
theorem dX11_replay_56 : decode cX11_replay 56 = .ok (.iinc 3 1, 3) := by decide +kernel
theorem dX11_replay_59 : decode cX11_replay 59 = .ok (.goto (-53), 3) := by decide +kernel
theorem dX11_replay_62 : decode cX11_replay 62 = .ok (.return_, 1) := by decide +kernel
theorem dX11_here_0 : decode cX11_here 0 = .ok (.aload_n 0, 1) := by decide +kernel
theorem dX11_here_1 : decode cX11_here 1 = .ok (.getfield 107, 3) := by decide +kernel
theorem dX11_here_4 : decode cX11_here 4 = .ok (.aload_n 0, 1) := by decide +kernel
theorem dX11_here_5 : decode cX11_here 5 = .ok (.getfield 110, 3) := by decide +kernel
theorem dX11_here_8 : decode cX11_here 8 = .ok (.if_icmp .lt 7, 3) := by decide +kernel
theorem dX11_here_11 : decode cX11_here 11 = .ok (.iconst (-1), 1) := by decide +kernel
theorem dX11_here_12 : decode cX11_here 12 = .ok (.goto 22, 3) := by decide +kernel
theorem dX11_here_15 : decode cX11_here 15 = .ok (.aload_n 0, 1) := by decide +kernel
theorem dX11_here_16 : decode cX11_here 16 = .ok (.getfield 67, 3) := by decide +kernel
theorem dX11_here_19 : decode cX11_here 19 = .ok (.aload_n 0, 1) := by decide +kernel
theorem dX11_here_20 : decode cX11_here 20 = .ok (.getfield 113, 3) := by decide +kernel
theorem dX11_here_23 : decode cX11_here 23 = .ok (.aload_n 0, 1) := by decide +kernel
theorem dX11_here_24 : decode cX11_here 24 = .ok (.getfield 107, 3) := by decide +kernel
theorem dX11_here_27 : decode cX11_here 27 = .ok (.iadd, 1) := by decide +kernel
theorem dX11_here_28 : decode cX11_here 28 = .ok (.laload, 1) := by decide +kernel
theorem dX11_here_29 : decode cX11_here 29 = .ok (.l2i, 1) := by decide +kernel
theorem dX11_here_30 : decode cX11_here 30 = .ok (.sipush 255, 3) := by decide +kernel
theorem dX11_here_33 : decode cX11_here 33 = .ok (.iand, 1) := by decide +kernel
theorem dX11_here_34 : decode cX11_here 34 = .ok (.ireturn, 1) := by decide +kernel
theorem dX11_readDigit_0 : decode cX11_readDigit 0 = .ok (.aload_n 0, 1) := by decide +kernel
theorem dX11_readDigit_1 : decode cX11_readDigit 1 = .ok (.aload_n 0, 1) := by decide +kernel
theorem dX11_readDigit_2 : decode cX11_readDigit 2 = .ok (.getfield 116, 3) := by decide +kernel
theorem dX11_readDigit_5 : decode cX11_readDigit 5 = .ok (.ifCond .ne 20, 3) := by decide +kernel
theorem dX11_readDigit_8 : decode cX11_readDigit 8 = .ok (.aload_n 0, 1) := by decide +kernel
theorem dX11_readDigit_9 : decode cX11_readDigit 9 = .ok (.invokevirtual 120, 3) := by decide +kernel
theorem dX11_readDigit_12 : decode cX11_readDigit 12 = .ok (.i2l, 1) := by decide +kernel
theorem dX11_readDigit_13 : decode cX11_readDigit 13 = .ok (.ldc2_w 123, 3) := by decide +kernel
theorem dX11_readDigit_16 : decode cX11_readDigit 16 = .ok (.ldc2_w 125, 3) := by decide +kernel
theorem dX11_readDigit_19 : decode cX11_readDigit 19 = .ok (.invokestatic 127, 3) := by decide +kernel
theorem dX11_readDigit_22 : decode cX11_readDigit 22 = .ok (.ifCond .ne 7, 3) := by decide +kernel
theorem dX11_readDigit_25 : decode cX11_readDigit 25 = .ok (.iconst 1, 1) := by decide +kernel
theorem dX11_readDigit_26 : decode cX11_readDigit 26 = .ok (.goto 4, 3) := by decide +kernel
theorem dX11_readDigit_29 : decode cX11_readDigit 29 = .ok (.iconst 0, 1) := by decide +kernel
theorem dX11_readDigit_30 : decode cX11_readDigit 30 = .ok (.putfield 116, 3) := by decide +kernel
theorem dX11_readDigit_33 : decode cX11_readDigit 33 = .ok (.aload_n 0, 1) := by decide +kernel
theorem dX11_readDigit_34 : decode cX11_readDigit 34 = .ok (.getfield 116, 3) := by decide +kernel
theorem dX11_readDigit_37 : decode cX11_readDigit 37 = .ok (.ifCond .eq 5, 3) := by decide +kernel
theorem dX11_readDigit_40 : decode cX11_readDigit 40 = .ok (.iconst 0, 1) := by decide +kernel
theorem dX11_readDigit_41 : decode cX11_readDigit 41 = .ok (.ireturn, 1) := by decide +kernel
theorem dX11_readDigit_42 : decode cX11_readDigit 42 = .ok (.aload_n 0, 1) := by decide +kernel
theorem dX11_readDigit_43 : decode cX11_readDigit 43 = .ok (.dup, 1) := by decide +kernel
theorem dX11_readDigit_44 : decode cX11_readDigit 44 = .ok (.getfield 107, 3) := by decide +kernel
theorem dX11_readDigit_47 : decode cX11_readDigit 47 = .ok (.iconst 1, 1) := by decide +kernel
theorem dX11_readDigit_48 : decode cX11_readDigit 48 = .ok (.iadd, 1) := by decide +kernel
theorem dX11_readDigit_49 : decode cX11_readDigit 49 = .ok (.putfield 107, 3) := by decide +kernel
theorem dX11_readDigit_52 : decode cX11_readDigit 52 = .ok (.aload_n 0, 1) := by decide +kernel
theorem dX11_readDigit_53 : decode cX11_readDigit 53 = .ok (.getfield 67, 3) := by decide +kernel
theorem dX11_readDigit_56 : decode cX11_readDigit 56 = .ok (.aload_n 0, 1) := by decide +kernel
theorem dX11_readDigit_57 : decode cX11_readDigit 57 = .ok (.getfield 113, 3) := by decide +kernel
theorem dX11_readDigit_60 : decode cX11_readDigit 60 = .ok (.aload_n 0, 1) := by decide +kernel
theorem dX11_readDigit_61 : decode cX11_readDigit 61 = .ok (.getfield 107, 3) := by decide +kernel
theorem dX11_readDigit_64 : decode cX11_readDigit 64 = .ok (.iadd, 1) := by decide +kernel
theorem dX11_readDigit_65 : decode cX11_readDigit 65 = .ok (.iconst 1, 1) := by decide +kernel
theorem dX11_readDigit_66 : decode cX11_readDigit 66 = .ok (.isub, 1) := by decide +kernel
theorem dX11_readDigit_67 : decode cX11_readDigit 67 = .ok (.laload, 1) := by decide +kernel
theorem dX11_readDigit_68 : decode cX11_readDigit 68 = .ok (.l2i, 1) := by decide +kernel
theorem dX11_readDigit_69 : decode cX11_readDigit 69 = .ok (.bipush 48, 2) := by decide +kernel
theorem dX11_readDigit_71 : decode cX11_readDigit 71 = .ok (.isub, 1) := by decide +kernel
theorem dX11_readDigit_72 : decode cX11_readDigit 72 = .ok (.ireturn, 1) := by decide +kernel
theorem dX11_readStatement_0 : decode cX11_readStatement 0 = .ok (.aload_n 0, 1) := by decide +kernel
theorem dX11_readStatement_1 : decode cX11_readStatement 1 = .ok (.getfield 131, 3) := by decide +kernel
theorem dX11_readStatement_4 : decode cX11_readStatement 4 = .ok (.istore_n 1, 1) := by decide +kernel
theorem dX11_readStatement_5 : decode cX11_readStatement 5 = .ok (.aload_n 0, 1) := by decide +kernel
theorem dX11_readStatement_6 : decode cX11_readStatement 6 = .ok (.invokevirtual 120, 3) := by decide +kernel
theorem dX11_readStatement_9 : decode cX11_readStatement 9 = .ok (.istore_n 2, 1) := by decide +kernel
theorem dX11_readStatement_10 : decode cX11_readStatement 10 = .ok (.aload_n 0, 1) := by decide +kernel
theorem dX11_readStatement_11 : decode cX11_readStatement 11 = .ok (.getfield 25, 3) := by decide +kernel
theorem dX11_readStatement_14 : decode cX11_readStatement 14 = .ok (.iload_n 1, 1) := by decide +kernel
theorem dX11_readStatement_15 : decode cX11_readStatement 15 = .ok (.aload_n 0, 1) := by decide +kernel
theorem dX11_readStatement_16 : decode cX11_readStatement 16 = .ok (.getfield 107, 3) := by decide +kernel
theorem dX11_readStatement_19 : decode cX11_readStatement 19 = .ok (.iastore, 1) := by decide +kernel
theorem dX11_readStatement_20 : decode cX11_readStatement 20 = .ok (.aload_n 0, 1) := by decide +kernel
theorem dX11_readStatement_21 : decode cX11_readStatement 21 = .ok (.getfield 28, 3) := by decide +kernel
theorem dX11_readStatement_24 : decode cX11_readStatement 24 = .ok (.iload_n 1, 1) := by decide +kernel
theorem dX11_readStatement_25 : decode cX11_readStatement 25 = .ok (.iload_n 2, 1) := by decide +kernel
theorem dX11_readStatement_26 : decode cX11_readStatement 26 = .ok (.iastore, 1) := by decide +kernel
theorem dX11_readStatement_27 : decode cX11_readStatement 27 = .ok (.aload_n 0, 1) := by decide +kernel
theorem dX11_readStatement_28 : decode cX11_readStatement 28 = .ok (.aload_n 0, 1) := by decide +kernel
theorem dX11_readStatement_29 : decode cX11_readStatement 29 = .ok (.getfield 116, 3) := by decide +kernel
theorem dX11_readStatement_32 : decode cX11_readStatement 32 = .ok (.ifCond .ne 21, 3) := by decide +kernel
theorem dX11_readStatement_35 : decode cX11_readStatement 35 = .ok (.iload_n 2, 1) := by decide +kernel
theorem dX11_readStatement_36 : decode cX11_readStatement 36 = .ok (.bipush 98, 2) := by decide +kernel
theorem dX11_readStatement_38 : decode cX11_readStatement 38 = .ok (.if_icmp .eq 19, 3) := by decide +kernel
theorem dX11_readStatement_41 : decode cX11_readStatement 41 = .ok (.iload_n 2, 1) := by decide +kernel
theorem dX11_readStatement_42 : decode cX11_readStatement 42 = .ok (.bipush 102, 2) := by decide +kernel
theorem dX11_readStatement_44 : decode cX11_readStatement 44 = .ok (.if_icmp .eq 13, 3) := by decide +kernel
theorem dX11_readStatement_47 : decode cX11_readStatement 47 = .ok (.iload_n 2, 1) := by decide +kernel
theorem dX11_readStatement_48 : decode cX11_readStatement 48 = .ok (.bipush 108, 2) := by decide +kernel
theorem dX11_readStatement_50 : decode cX11_readStatement 50 = .ok (.if_icmp .eq 7, 3) := by decide +kernel
theorem dX11_readStatement_53 : decode cX11_readStatement 53 = .ok (.iconst 1, 1) := by decide +kernel
theorem dX11_readStatement_54 : decode cX11_readStatement 54 = .ok (.goto 4, 3) := by decide +kernel
theorem dX11_readStatement_57 : decode cX11_readStatement 57 = .ok (.iconst 0, 1) := by decide +kernel
theorem dX11_readStatement_58 : decode cX11_readStatement 58 = .ok (.putfield 116, 3) := by decide +kernel
theorem dX11_readStatement_61 : decode cX11_readStatement 61 = .ok (.aload_n 0, 1) := by decide +kernel
theorem dX11_readStatement_62 : decode cX11_readStatement 62 = .ok (.dup, 1) := by decide +kernel
theorem dX11_readStatement_63 : decode cX11_readStatement 63 = .ok (.getfield 107, 3) := by decide +kernel
theorem dX11_readStatement_66 : decode cX11_readStatement 66 = .ok (.aload_n 0, 1) := by decide +kernel
theorem dX11_readStatement_67 : decode cX11_readStatement 67 = .ok (.getfield 116, 3) := by decide +kernel
theorem dX11_readStatement_70 : decode cX11_readStatement 70 = .ok (.ifCond .eq 7, 3) := by decide +kernel
theorem dX11_readStatement_73 : decode cX11_readStatement 73 = .ok (.iconst 0, 1) := by decide +kernel
theorem dX11_readStatement_74 : decode cX11_readStatement 74 = .ok (.goto 4, 3) := by decide +kernel
theorem dX11_readStatement_77 : decode cX11_readStatement 77 = .ok (.iconst 1, 1) := by decide +kernel
theorem dX11_readStatement_78 : decode cX11_readStatement 78 = .ok (.iadd, 1) := by decide +kernel
theorem dX11_readStatement_79 : decode cX11_readStatement 79 = .ok (.putfield 107, 3) := by decide +kernel
theorem dX11_readStatement_82 : decode cX11_readStatement 82 = .ok (.aload_n 0, 1) := by decide +kernel
theorem dX11_readStatement_83 : decode cX11_readStatement 83 = .ok (.getfield 31, 3) := by decide +kernel
theorem dX11_readStatement_86 : decode cX11_readStatement 86 = .ok (.iload_n 1, 1) := by decide +kernel
theorem dX11_readStatement_87 : decode cX11_readStatement 87 = .ok (.aload_n 0, 1) := by decide +kernel
theorem dX11_readStatement_88 : decode cX11_readStatement 88 = .ok (.invokevirtual 134, 3) := by decide +kernel
theorem dX11_readStatement_91 : decode cX11_readStatement 91 = .ok (.iastore, 1) := by decide +kernel
theorem dX11_readStatement_92 : decode cX11_readStatement 92 = .ok (.iload_n 2, 1) := by decide +kernel
theorem dX11_readStatement_93 : decode cX11_readStatement 93 = .ok (.bipush 98, 2) := by decide +kernel
theorem dX11_readStatement_95 : decode cX11_readStatement 95 = .ok (.if_icmp .eq 9, 3) := by decide +kernel
theorem dX11_readStatement_98 : decode cX11_readStatement 98 = .ok (.iload_n 2, 1) := by decide +kernel
theorem dX11_readStatement_99 : decode cX11_readStatement 99 = .ok (.bipush 102, 2) := by decide +kernel
theorem dX11_readStatement_101 : decode cX11_readStatement 101 = .ok (.if_icmp .ne 23, 3) := by decide +kernel
theorem dX11_readStatement_104 : decode cX11_readStatement 104 = .ok (.aload_n 0, 1) := by decide +kernel
theorem dX11_readStatement_105 : decode cX11_readStatement 105 = .ok (.getfield 31, 3) := by decide +kernel
theorem dX11_readStatement_108 : decode cX11_readStatement 108 = .ok (.iload_n 1, 1) := by decide +kernel
theorem dX11_readStatement_109 : decode cX11_readStatement 109 = .ok (.bipush 10, 2) := by decide +kernel
theorem dX11_readStatement_111 : decode cX11_readStatement 111 = .ok (.aload_n 0, 1) := by decide +kernel
theorem dX11_readStatement_112 : decode cX11_readStatement 112 = .ok (.getfield 31, 3) := by decide +kernel
theorem dX11_readStatement_115 : decode cX11_readStatement 115 = .ok (.iload_n 1, 1) := by decide +kernel
theorem dX11_readStatement_116 : decode cX11_readStatement 116 = .ok (.iaload, 1) := by decide +kernel
theorem dX11_readStatement_117 : decode cX11_readStatement 117 = .ok (.imul, 1) := by decide +kernel
theorem dX11_readStatement_118 : decode cX11_readStatement 118 = .ok (.aload_n 0, 1) := by decide +kernel
theorem dX11_readStatement_119 : decode cX11_readStatement 119 = .ok (.invokevirtual 134, 3) := by decide +kernel
theorem dX11_readStatement_122 : decode cX11_readStatement 122 = .ok (.iadd, 1) := by decide +kernel
theorem dX11_readStatement_123 : decode cX11_readStatement 123 = .ok (.iastore, 1) := by decide +kernel
theorem dX11_readStatement_124 : decode cX11_readStatement 124 = .ok (.aload_n 0, 1) := by decide +kernel
theorem dX11_readStatement_125 : decode cX11_readStatement 125 = .ok (.getfield 34, 3) := by decide +kernel
theorem dX11_readStatement_128 : decode cX11_readStatement 128 = .ok (.iload_n 1, 1) := by decide +kernel
theorem dX11_readStatement_129 : decode cX11_readStatement 129 = .ok (.iload_n 2, 1) := by decide +kernel
theorem dX11_readStatement_130 : decode cX11_readStatement 130 = .ok (.bipush 102, 2) := by decide +kernel
theorem dX11_readStatement_132 : decode cX11_readStatement 132 = .ok (.if_icmp .ne 7, 3) := by decide +kernel
theorem dX11_readStatement_135 : decode cX11_readStatement 135 = .ok (.iconst 0, 1) := by decide +kernel
theorem dX11_readStatement_136 : decode cX11_readStatement 136 = .ok (.goto 7, 3) := by decide +kernel
theorem dX11_readStatement_139 : decode cX11_readStatement 139 = .ok (.aload_n 0, 1) := by decide +kernel
theorem dX11_readStatement_140 : decode cX11_readStatement 140 = .ok (.invokevirtual 134, 3) := by decide +kernel
theorem dX11_readStatement_143 : decode cX11_readStatement 143 = .ok (.iastore, 1) := by decide +kernel
theorem dX11_readStatement_144 : decode cX11_readStatement 144 = .ok (.aload_n 0, 1) := by decide +kernel
theorem dX11_readStatement_145 : decode cX11_readStatement 145 = .ok (.aload_n 0, 1) := by decide +kernel
theorem dX11_readStatement_146 : decode cX11_readStatement 146 = .ok (.getfield 116, 3) := by decide +kernel
theorem dX11_readStatement_149 : decode cX11_readStatement 149 = .ok (.ifCond .ne 12, 3) := by decide +kernel
theorem dX11_readStatement_152 : decode cX11_readStatement 152 = .ok (.aload_n 0, 1) := by decide +kernel
theorem dX11_readStatement_153 : decode cX11_readStatement 153 = .ok (.invokevirtual 120, 3) := by decide +kernel
theorem dX11_readStatement_156 : decode cX11_readStatement 156 = .ok (.bipush 59, 2) := by decide +kernel
theorem dX11_readStatement_158 : decode cX11_readStatement 158 = .ok (.if_icmp .eq 7, 3) := by decide +kernel
theorem dX11_readStatement_161 : decode cX11_readStatement 161 = .ok (.iconst 1, 1) := by decide +kernel
theorem dX11_readStatement_162 : decode cX11_readStatement 162 = .ok (.goto 4, 3) := by decide +kernel
theorem dX11_readStatement_165 : decode cX11_readStatement 165 = .ok (.iconst 0, 1) := by decide +kernel
theorem dX11_readStatement_166 : decode cX11_readStatement 166 = .ok (.putfield 116, 3) := by decide +kernel
theorem dX11_readStatement_169 : decode cX11_readStatement 169 = .ok (.aload_n 0, 1) := by decide +kernel
theorem dX11_readStatement_170 : decode cX11_readStatement 170 = .ok (.dup, 1) := by decide +kernel
theorem dX11_readStatement_171 : decode cX11_readStatement 171 = .ok (.getfield 107, 3) := by decide +kernel
theorem dX11_readStatement_174 : decode cX11_readStatement 174 = .ok (.aload_n 0, 1) := by decide +kernel
theorem dX11_readStatement_175 : decode cX11_readStatement 175 = .ok (.getfield 116, 3) := by decide +kernel
theorem dX11_readStatement_178 : decode cX11_readStatement 178 = .ok (.ifCond .eq 7, 3) := by decide +kernel
theorem dX11_readStatement_181 : decode cX11_readStatement 181 = .ok (.iconst 0, 1) := by decide +kernel
theorem dX11_readStatement_182 : decode cX11_readStatement 182 = .ok (.goto 4, 3) := by decide +kernel
theorem dX11_readStatement_185 : decode cX11_readStatement 185 = .ok (.iconst 1, 1) := by decide +kernel
theorem dX11_readStatement_186 : decode cX11_readStatement 186 = .ok (.iadd, 1) := by decide +kernel
theorem dX11_readStatement_187 : decode cX11_readStatement 187 = .ok (.putfield 107, 3) := by decide +kernel
theorem dX11_readStatement_190 : decode cX11_readStatement 190 = .ok (.aload_n 0, 1) := by decide +kernel
theorem dX11_readStatement_191 : decode cX11_readStatement 191 = .ok (.dup, 1) := by decide +kernel
theorem dX11_readStatement_192 : decode cX11_readStatement 192 = .ok (.getfield 131, 3) := by decide +kernel
theorem dX11_readStatement_195 : decode cX11_readStatement 195 = .ok (.iconst 1, 1) := by decide +kernel
theorem dX11_readStatement_196 : decode cX11_readStatement 196 = .ok (.iadd, 1) := by decide +kernel
theorem dX11_readStatement_197 : decode cX11_readStatement 197 = .ok (.putfield 131, 3) := by decide +kernel
theorem dX11_readStatement_200 : decode cX11_readStatement 200 = .ok (.return_, 1) := by decide +kernel
theorem dX11_builds_0 : decode cX11_builds 0 = .ok (.aload_n 0, 1) := by decide +kernel
theorem dX11_builds_1 : decode cX11_builds 1 = .ok (.invokevirtual 137, 3) := by decide +kernel
theorem dX11_builds_4 : decode cX11_builds 4 = .ok (.aload_n 0, 1) := by decide +kernel
theorem dX11_builds_5 : decode cX11_builds 5 = .ok (.getfield 16, 3) := by decide +kernel
theorem dX11_builds_8 : decode cX11_builds 8 = .ok (.iload_n 1, 1) := by decide +kernel
theorem dX11_builds_9 : decode cX11_builds 9 = .ok (.aload_n 0, 1) := by decide +kernel
theorem dX11_builds_10 : decode cX11_builds 10 = .ok (.aload_n 0, 1) := by decide +kernel
theorem dX11_builds_11 : decode cX11_builds 11 = .ok (.getfield 140, 3) := by decide +kernel
theorem dX11_builds_14 : decode cX11_builds 14 = .ok (.aload_n 0, 1) := by decide +kernel
theorem dX11_builds_15 : decode cX11_builds 15 = .ok (.getfield 143, 3) := by decide +kernel
theorem dX11_builds_18 : decode cX11_builds 18 = .ok (.iload_n 1, 1) := by decide +kernel
theorem dX11_builds_19 : decode cX11_builds 19 = .ok (.iload_n 2, 1) := by decide +kernel
theorem dX11_builds_20 : decode cX11_builds 20 = .ok (.invokevirtual 99, 3) := by decide +kernel
theorem dX11_builds_23 : decode cX11_builds 23 = .ok (.iastore, 1) := by decide +kernel
theorem dX11_builds_24 : decode cX11_builds 24 = .ok (.aload_n 0, 1) := by decide +kernel
theorem dX11_builds_25 : decode cX11_builds 25 = .ok (.getfield 7, 3) := by decide +kernel
theorem dX11_builds_28 : decode cX11_builds 28 = .ok (.aload_n 0, 1) := by decide +kernel
theorem dX11_builds_29 : decode cX11_builds 29 = .ok (.getfield 81, 3) := by decide +kernel
theorem dX11_builds_32 : decode cX11_builds 32 = .ok (.iload_n 1, 1) := by decide +kernel
theorem dX11_builds_33 : decode cX11_builds 33 = .ok (.iastore, 1) := by decide +kernel
theorem dX11_builds_34 : decode cX11_builds 34 = .ok (.aload_n 0, 1) := by decide +kernel
theorem dX11_builds_35 : decode cX11_builds 35 = .ok (.getfield 13, 3) := by decide +kernel
theorem dX11_builds_38 : decode cX11_builds 38 = .ok (.aload_n 0, 1) := by decide +kernel
theorem dX11_builds_39 : decode cX11_builds 39 = .ok (.getfield 81, 3) := by decide +kernel
theorem dX11_builds_42 : decode cX11_builds 42 = .ok (.iload_n 2, 1) := by decide +kernel
theorem dX11_builds_43 : decode cX11_builds 43 = .ok (.iastore, 1) := by decide +kernel
theorem dX11_builds_44 : decode cX11_builds 44 = .ok (.aload_n 0, 1) := by decide +kernel
theorem dX11_builds_45 : decode cX11_builds 45 = .ok (.dup, 1) := by decide +kernel
theorem dX11_builds_46 : decode cX11_builds 46 = .ok (.getfield 81, 3) := by decide +kernel
theorem dX11_builds_49 : decode cX11_builds 49 = .ok (.iconst 1, 1) := by decide +kernel
theorem dX11_builds_50 : decode cX11_builds 50 = .ok (.iadd, 1) := by decide +kernel
theorem dX11_builds_51 : decode cX11_builds 51 = .ok (.putfield 81, 3) := by decide +kernel
theorem dX11_builds_54 : decode cX11_builds 54 = .ok (.return_, 1) := by decide +kernel
theorem dX11_burns_0 : decode cX11_burns 0 = .ok (.aload_n 0, 1) := by decide +kernel
theorem dX11_burns_1 : decode cX11_burns 1 = .ok (.getfield 16, 3) := by decide +kernel
theorem dX11_burns_4 : decode cX11_burns 4 = .ok (.iload_n 1, 1) := by decide +kernel
theorem dX11_burns_5 : decode cX11_burns 5 = .ok (.iconst 0, 1) := by decide +kernel
theorem dX11_burns_6 : decode cX11_burns 6 = .ok (.iastore, 1) := by decide +kernel
theorem dX11_burns_7 : decode cX11_burns 7 = .ok (.aload_n 0, 1) := by decide +kernel
theorem dX11_burns_8 : decode cX11_burns 8 = .ok (.getfield 7, 3) := by decide +kernel
theorem dX11_burns_11 : decode cX11_burns 11 = .ok (.aload_n 0, 1) := by decide +kernel
theorem dX11_burns_12 : decode cX11_burns 12 = .ok (.getfield 81, 3) := by decide +kernel
theorem dX11_burns_15 : decode cX11_burns 15 = .ok (.iload_n 1, 1) := by decide +kernel
theorem dX11_burns_16 : decode cX11_burns 16 = .ok (.iastore, 1) := by decide +kernel
theorem dX11_burns_17 : decode cX11_burns 17 = .ok (.aload_n 0, 1) := by decide +kernel
theorem dX11_burns_18 : decode cX11_burns 18 = .ok (.getfield 13, 3) := by decide +kernel
theorem dX11_burns_21 : decode cX11_burns 21 = .ok (.aload_n 0, 1) := by decide +kernel
theorem dX11_burns_22 : decode cX11_burns 22 = .ok (.getfield 81, 3) := by decide +kernel
theorem dX11_burns_25 : decode cX11_burns 25 = .ok (.iconst 0, 1) := by decide +kernel
theorem dX11_burns_26 : decode cX11_burns 26 = .ok (.iastore, 1) := by decide +kernel
theorem dX11_burns_27 : decode cX11_burns 27 = .ok (.aload_n 0, 1) := by decide +kernel
theorem dX11_burns_28 : decode cX11_burns 28 = .ok (.dup, 1) := by decide +kernel
theorem dX11_burns_29 : decode cX11_burns 29 = .ok (.getfield 81, 3) := by decide +kernel
theorem dX11_burns_32 : decode cX11_burns 32 = .ok (.iconst 1, 1) := by decide +kernel
theorem dX11_burns_33 : decode cX11_burns 33 = .ok (.iadd, 1) := by decide +kernel
theorem dX11_burns_34 : decode cX11_burns 34 = .ok (.putfield 81, 3) := by decide +kernel
theorem dX11_burns_37 : decode cX11_burns 37 = .ok (.return_, 1) := by decide +kernel
theorem dX11_comes_0 : decode cX11_comes 0 = .ok (.aload_n 0, 1) := by decide +kernel
theorem dX11_comes_1 : decode cX11_comes 1 = .ok (.getfield 31, 3) := by decide +kernel
theorem dX11_comes_4 : decode cX11_comes 4 = .ok (.iload_n 1, 1) := by decide +kernel
theorem dX11_comes_5 : decode cX11_comes 5 = .ok (.iaload, 1) := by decide +kernel
theorem dX11_comes_6 : decode cX11_comes 6 = .ok (.istore_n 2, 1) := by decide +kernel
theorem dX11_comes_7 : decode cX11_comes 7 = .ok (.aload_n 0, 1) := by decide +kernel
theorem dX11_comes_8 : decode cX11_comes 8 = .ok (.getfield 34, 3) := by decide +kernel
theorem dX11_comes_11 : decode cX11_comes 11 = .ok (.iload_n 1, 1) := by decide +kernel
theorem dX11_comes_12 : decode cX11_comes 12 = .ok (.iaload, 1) := by decide +kernel
theorem dX11_comes_13 : decode cX11_comes 13 = .ok (.istore_n 3, 1) := by decide +kernel
theorem dX11_comes_14 : decode cX11_comes 14 = .ok (.aload_n 0, 1) := by decide +kernel
theorem dX11_comes_15 : decode cX11_comes 15 = .ok (.getfield 28, 3) := by decide +kernel
theorem dX11_comes_18 : decode cX11_comes 18 = .ok (.iload_n 1, 1) := by decide +kernel
theorem dX11_comes_19 : decode cX11_comes 19 = .ok (.iaload, 1) := by decide +kernel
theorem dX11_comes_20 : decode cX11_comes 20 = .ok (.lookupswitch 141 #[(98, 28), (102, 87)], 28) := by decide +kernel
theorem dX11_comes_48 : decode cX11_comes 48 = .ok (.iload_n 2, 1) := by decide +kernel
theorem dX11_comes_49 : decode cX11_comes 49 = .ok (.bipush 12, 2) := by decide +kernel
theorem dX11_comes_51 : decode cX11_comes 51 = .ok (.if_icmp .ge 39, 3) := by decide +kernel
theorem dX11_comes_54 : decode cX11_comes 54 = .ok (.iload_n 3, 1) := by decide +kernel
theorem dX11_comes_55 : decode cX11_comes 55 = .ok (.ifCond .le 35, 3) := by decide +kernel
theorem dX11_comes_58 : decode cX11_comes 58 = .ok (.aload_n 0, 1) := by decide +kernel
theorem dX11_comes_59 : decode cX11_comes 59 = .ok (.getfield 81, 3) := by decide +kernel
theorem dX11_comes_62 : decode cX11_comes 62 = .ok (.bipush 30, 2) := by decide +kernel
theorem dX11_comes_64 : decode cX11_comes 64 = .ok (.if_icmp .ge 26, 3) := by decide +kernel
theorem dX11_comes_67 : decode cX11_comes 67 = .ok (.aload_n 0, 1) := by decide +kernel
theorem dX11_comes_68 : decode cX11_comes 68 = .ok (.getfield 16, 3) := by decide +kernel
theorem dX11_comes_71 : decode cX11_comes 71 = .ok (.iload_n 2, 1) := by decide +kernel
theorem dX11_comes_72 : decode cX11_comes 72 = .ok (.bipush 12, 2) := by decide +kernel
theorem dX11_comes_74 : decode cX11_comes 74 = .ok (.if_icmp .ge 7, 3) := by decide +kernel
theorem dX11_comes_77 : decode cX11_comes 77 = .ok (.iload_n 2, 1) := by decide +kernel
theorem dX11_comes_78 : decode cX11_comes 78 = .ok (.goto 4, 3) := by decide +kernel
theorem dX11_comes_81 : decode cX11_comes 81 = .ok (.iconst 0, 1) := by decide +kernel
theorem dX11_comes_82 : decode cX11_comes 82 = .ok (.iaload, 1) := by decide +kernel
theorem dX11_comes_83 : decode cX11_comes 83 = .ok (.ifCond .ne 7, 3) := by decide +kernel
theorem dX11_comes_86 : decode cX11_comes 86 = .ok (.iconst 1, 1) := by decide +kernel
theorem dX11_comes_87 : decode cX11_comes 87 = .ok (.goto 4, 3) := by decide +kernel
theorem dX11_comes_90 : decode cX11_comes 90 = .ok (.iconst 0, 1) := by decide +kernel
theorem dX11_comes_91 : decode cX11_comes 91 = .ok (.istore 4, 2) := by decide +kernel
theorem dX11_comes_93 : decode cX11_comes 93 = .ok (.iload 4, 2) := by decide +kernel
theorem dX11_comes_95 : decode cX11_comes 95 = .ok (.ifCond .eq 9, 3) := by decide +kernel
theorem dX11_comes_98 : decode cX11_comes 98 = .ok (.aload_n 0, 1) := by decide +kernel
theorem dX11_comes_99 : decode cX11_comes 99 = .ok (.iload_n 2, 1) := by decide +kernel
theorem dX11_comes_100 : decode cX11_comes 100 = .ok (.iload_n 3, 1) := by decide +kernel
theorem dX11_comes_101 : decode cX11_comes 101 = .ok (.invokevirtual 146, 3) := by decide +kernel
theorem dX11_comes_104 : decode cX11_comes 104 = .ok (.iload 4, 2) := by decide +kernel
theorem dX11_comes_106 : decode cX11_comes 106 = .ok (.ireturn, 1) := by decide +kernel
theorem dX11_comes_107 : decode cX11_comes 107 = .ok (.iload_n 2, 1) := by decide +kernel
theorem dX11_comes_108 : decode cX11_comes 108 = .ok (.bipush 12, 2) := by decide +kernel
theorem dX11_comes_110 : decode cX11_comes 110 = .ok (.if_icmp .ge 35, 3) := by decide +kernel
theorem dX11_comes_113 : decode cX11_comes 113 = .ok (.aload_n 0, 1) := by decide +kernel
theorem dX11_comes_114 : decode cX11_comes 114 = .ok (.getfield 81, 3) := by decide +kernel
theorem dX11_comes_117 : decode cX11_comes 117 = .ok (.bipush 30, 2) := by decide +kernel
theorem dX11_comes_119 : decode cX11_comes 119 = .ok (.if_icmp .ge 26, 3) := by decide +kernel
theorem dX11_comes_122 : decode cX11_comes 122 = .ok (.aload_n 0, 1) := by decide +kernel
theorem dX11_comes_123 : decode cX11_comes 123 = .ok (.getfield 16, 3) := by decide +kernel
theorem dX11_comes_126 : decode cX11_comes 126 = .ok (.iload_n 2, 1) := by decide +kernel
theorem dX11_comes_127 : decode cX11_comes 127 = .ok (.bipush 12, 2) := by decide +kernel
theorem dX11_comes_129 : decode cX11_comes 129 = .ok (.if_icmp .ge 7, 3) := by decide +kernel
theorem dX11_comes_132 : decode cX11_comes 132 = .ok (.iload_n 2, 1) := by decide +kernel
theorem dX11_comes_133 : decode cX11_comes 133 = .ok (.goto 4, 3) := by decide +kernel
theorem dX11_comes_136 : decode cX11_comes 136 = .ok (.iconst 0, 1) := by decide +kernel
theorem dX11_comes_137 : decode cX11_comes 137 = .ok (.iaload, 1) := by decide +kernel
theorem dX11_comes_138 : decode cX11_comes 138 = .ok (.ifCond .le 7, 3) := by decide +kernel
theorem dX11_comes_141 : decode cX11_comes 141 = .ok (.iconst 1, 1) := by decide +kernel
theorem dX11_comes_142 : decode cX11_comes 142 = .ok (.goto 4, 3) := by decide +kernel
theorem dX11_comes_145 : decode cX11_comes 145 = .ok (.iconst 0, 1) := by decide +kernel
theorem dX11_comes_146 : decode cX11_comes 146 = .ok (.istore 4, 2) := by decide +kernel
theorem dX11_comes_148 : decode cX11_comes 148 = .ok (.iload 4, 2) := by decide +kernel
theorem dX11_comes_150 : decode cX11_comes 150 = .ok (.ifCond .eq 8, 3) := by decide +kernel
theorem dX11_comes_153 : decode cX11_comes 153 = .ok (.aload_n 0, 1) := by decide +kernel
theorem dX11_comes_154 : decode cX11_comes 154 = .ok (.iload_n 2, 1) := by decide +kernel
theorem dX11_comes_155 : decode cX11_comes 155 = .ok (.invokevirtual 150, 3) := by decide +kernel
theorem dX11_comes_158 : decode cX11_comes 158 = .ok (.iload 4, 2) := by decide +kernel
theorem dX11_comes_160 : decode cX11_comes 160 = .ok (.ireturn, 1) := by decide +kernel
theorem dX11_comes_161 : decode cX11_comes 161 = .ok (.iload_n 2, 1) := by decide +kernel
theorem dX11_comes_162 : decode cX11_comes 162 = .ok (.bipush 8, 2) := by decide +kernel
theorem dX11_comes_164 : decode cX11_comes 164 = .ok (.if_icmp .ge 7, 3) := by decide +kernel
theorem dX11_comes_167 : decode cX11_comes 167 = .ok (.iconst 1, 1) := by decide +kernel
theorem dX11_comes_168 : decode cX11_comes 168 = .ok (.goto 4, 3) := by decide +kernel
theorem dX11_comes_171 : decode cX11_comes 171 = .ok (.iconst 0, 1) := by decide +kernel
theorem dX11_comes_172 : decode cX11_comes 172 = .ok (.istore 4, 2) := by decide +kernel
theorem dX11_comes_174 : decode cX11_comes 174 = .ok (.aload_n 0, 1) := by decide +kernel
theorem dX11_comes_175 : decode cX11_comes 175 = .ok (.iload 4, 2) := by decide +kernel
theorem dX11_comes_177 : decode cX11_comes 177 = .ok (.ifCond .eq 7, 3) := by decide +kernel
theorem dX11_comes_180 : decode cX11_comes 180 = .ok (.iload_n 2, 1) := by decide +kernel
theorem dX11_comes_181 : decode cX11_comes 181 = .ok (.goto 7, 3) := by decide +kernel
theorem dX11_comes_184 : decode cX11_comes 184 = .ok (.aload_n 0, 1) := by decide +kernel
theorem dX11_comes_185 : decode cX11_comes 185 = .ok (.getfield 140, 3) := by decide +kernel
theorem dX11_comes_188 : decode cX11_comes 188 = .ok (.putfield 140, 3) := by decide +kernel
theorem dX11_comes_191 : decode cX11_comes 191 = .ok (.aload_n 0, 1) := by decide +kernel
theorem dX11_comes_192 : decode cX11_comes 192 = .ok (.iload 4, 2) := by decide +kernel
theorem dX11_comes_194 : decode cX11_comes 194 = .ok (.ifCond .eq 7, 3) := by decide +kernel
theorem dX11_comes_197 : decode cX11_comes 197 = .ok (.iload_n 3, 1) := by decide +kernel
theorem dX11_comes_198 : decode cX11_comes 198 = .ok (.goto 7, 3) := by decide +kernel
theorem dX11_comes_201 : decode cX11_comes 201 = .ok (.aload_n 0, 1) := by decide +kernel
theorem dX11_comes_202 : decode cX11_comes 202 = .ok (.getfield 143, 3) := by decide +kernel
theorem dX11_comes_205 : decode cX11_comes 205 = .ok (.putfield 143, 3) := by decide +kernel
theorem dX11_comes_208 : decode cX11_comes 208 = .ok (.iload 4, 2) := by decide +kernel
theorem dX11_comes_210 : decode cX11_comes 210 = .ok (.ireturn, 1) := by decide +kernel
theorem dX11_street_0 : decode cX11_street 0 = .ok (.aload_n 0, 1) := by decide +kernel
theorem dX11_street_1 : decode cX11_street 1 = .ok (.iconst 0, 1) := by decide +kernel
theorem dX11_street_2 : decode cX11_street 2 = .ok (.putfield 74, 3) := by decide +kernel
theorem dX11_street_5 : decode cX11_street 5 = .ok (.aload_n 0, 1) := by decide +kernel
theorem dX11_street_6 : decode cX11_street 6 = .ok (.iload_n 1, 1) := by decide +kernel
theorem dX11_street_7 : decode cX11_street 7 = .ok (.iconst 0, 1) := by decide +kernel
theorem dX11_street_8 : decode cX11_street 8 = .ok (.invokevirtual 154, 3) := by decide +kernel
theorem dX11_street_11 : decode cX11_street 11 = .ok (.istore_n 2, 1) := by decide +kernel
theorem dX11_street_12 : decode cX11_street 12 = .ok (.iload_n 2, 1) := by decide +kernel
theorem dX11_street_13 : decode cX11_street 13 = .ok (.ifCond .ge 5, 3) := by decide +kernel
theorem dX11_street_16 : decode cX11_street 16 = .ok (.iload_n 2, 1) := by decide +kernel
theorem dX11_street_17 : decode cX11_street 17 = .ok (.ireturn, 1) := by decide +kernel
theorem dX11_street_18 : decode cX11_street 18 = .ok (.aload_n 0, 1) := by decide +kernel
theorem dX11_street_19 : decode cX11_street 19 = .ok (.bipush 100, 2) := by decide +kernel
theorem dX11_street_21 : decode cX11_street 21 = .ok (.iload_n 1, 1) := by decide +kernel
theorem dX11_street_22 : decode cX11_street 22 = .ok (.imul, 1) := by decide +kernel
theorem dX11_street_23 : decode cX11_street 23 = .ok (.putfield 113, 3) := by decide +kernel
theorem dX11_street_26 : decode cX11_street 26 = .ok (.aload_n 0, 1) := by decide +kernel
theorem dX11_street_27 : decode cX11_street 27 = .ok (.aload_n 0, 1) := by decide +kernel
theorem dX11_street_28 : decode cX11_street 28 = .ok (.getfield 64, 3) := by decide +kernel
theorem dX11_street_31 : decode cX11_street 31 = .ok (.iload_n 1, 1) := by decide +kernel
theorem dX11_street_32 : decode cX11_street 32 = .ok (.iaload, 1) := by decide +kernel
theorem dX11_street_33 : decode cX11_street 33 = .ok (.putfield 110, 3) := by decide +kernel
theorem dX11_street_36 : decode cX11_street 36 = .ok (.aload_n 0, 1) := by decide +kernel
theorem dX11_street_37 : decode cX11_street 37 = .ok (.iconst 0, 1) := by decide +kernel
theorem dX11_street_38 : decode cX11_street 38 = .ok (.putfield 107, 3) := by decide +kernel
theorem dX11_street_41 : decode cX11_street 41 = .ok (.aload_n 0, 1) := by decide +kernel
theorem dX11_street_42 : decode cX11_street 42 = .ok (.iconst 0, 1) := by decide +kernel
theorem dX11_street_43 : decode cX11_street 43 = .ok (.putfield 116, 3) := by decide +kernel
theorem dX11_street_46 : decode cX11_street 46 = .ok (.aload_n 0, 1) := by decide +kernel
theorem dX11_street_47 : decode cX11_street 47 = .ok (.iconst 0, 1) := by decide +kernel
theorem dX11_street_48 : decode cX11_street 48 = .ok (.putfield 131, 3) := by decide +kernel
theorem dX11_street_51 : decode cX11_street 51 = .ok (.aload_n 0, 1) := by decide +kernel
theorem dX11_street_52 : decode cX11_street 52 = .ok (.getfield 116, 3) := by decide +kernel
theorem dX11_street_55 : decode cX11_street 55 = .ok (.ifCond .ne 28, 3) := by decide +kernel
theorem dX11_street_58 : decode cX11_street 58 = .ok (.aload_n 0, 1) := by decide +kernel
theorem dX11_street_59 : decode cX11_street 59 = .ok (.getfield 131, 3) := by decide +kernel
theorem dX11_street_62 : decode cX11_street 62 = .ok (.ifCond .eq 14, 3) := by decide +kernel
theorem dX11_street_65 : decode cX11_street 65 = .ok (.aload_n 0, 1) := by decide +kernel
theorem dX11_street_66 : decode cX11_street 66 = .ok (.getfield 107, 3) := by decide +kernel
theorem dX11_street_69 : decode cX11_street 69 = .ok (.aload_n 0, 1) := by decide +kernel
theorem dX11_street_70 : decode cX11_street 70 = .ok (.getfield 110, 3) := by decide +kernel
theorem dX11_street_73 : decode cX11_street 73 = .ok (.if_icmp .ge 10, 3) := by decide +kernel
theorem dX11_street_76 : decode cX11_street 76 = .ok (.aload_n 0, 1) := by decide +kernel
theorem dX11_street_77 : decode cX11_street 77 = .ok (.invokevirtual 157, 3) := by decide +kernel
theorem dX11_street_80 : decode cX11_street 80 = .ok (.goto (-29), 3) := by decide +kernel
theorem dX11_street_83 : decode cX11_street 83 = .ok (.aload_n 0, 1) := by decide +kernel
theorem dX11_street_84 : decode cX11_street 84 = .ok (.getfield 116, 3) := by decide +kernel
theorem dX11_street_87 : decode cX11_street 87 = .ok (.ifCond .eq 12, 3) := by decide +kernel
theorem dX11_street_90 : decode cX11_street 90 = .ok (.sipush (-1000), 3) := by decide +kernel
theorem dX11_street_93 : decode cX11_street 93 = .ok (.aload_n 0, 1) := by decide +kernel
theorem dX11_street_94 : decode cX11_street 94 = .ok (.getfield 107, 3) := by decide +kernel
theorem dX11_street_97 : decode cX11_street 97 = .ok (.isub, 1) := by decide +kernel
theorem dX11_street_98 : decode cX11_street 98 = .ok (.ireturn, 1) := by decide +kernel
theorem dX11_street_99 : decode cX11_street 99 = .ok (.aload_n 0, 1) := by decide +kernel
theorem dX11_street_100 : decode cX11_street 100 = .ok (.aload_n 0, 1) := by decide +kernel
theorem dX11_street_101 : decode cX11_street 101 = .ok (.getfield 37, 3) := by decide +kernel
theorem dX11_street_104 : decode cX11_street 104 = .ok (.iconst 1, 1) := by decide +kernel
theorem dX11_street_105 : decode cX11_street 105 = .ok (.invokevirtual 160, 3) := by decide +kernel
theorem dX11_street_108 : decode cX11_street 108 = .ok (.iconst 0, 1) := by decide +kernel
theorem dX11_street_109 : decode cX11_street 109 = .ok (.istore_n 3, 1) := by decide +kernel
theorem dX11_street_110 : decode cX11_street 110 = .ok (.iload_n 3, 1) := by decide +kernel
theorem dX11_street_111 : decode cX11_street 111 = .ok (.aload_n 0, 1) := by decide +kernel
theorem dX11_street_112 : decode cX11_street 112 = .ok (.getfield 131, 3) := by decide +kernel
theorem dX11_street_115 : decode cX11_street 115 = .ok (.if_icmp .ge 37, 3) := by decide +kernel
theorem dX11_street_118 : decode cX11_street 118 = .ok (.aload_n 0, 1) := by decide +kernel
theorem dX11_street_119 : decode cX11_street 119 = .ok (.iload_n 3, 1) := by decide +kernel
theorem dX11_street_120 : decode cX11_street 120 = .ok (.invokevirtual 164, 3) := by decide +kernel
theorem dX11_street_123 : decode cX11_street 123 = .ok (.ifCond .ne 23, 3) := by decide +kernel
theorem dX11_street_126 : decode cX11_street 126 = .ok (.aload_n 0, 1) := by decide +kernel
theorem dX11_street_127 : decode cX11_street 127 = .ok (.aload_n 0, 1) := by decide +kernel
theorem dX11_street_128 : decode cX11_street 128 = .ok (.getfield 37, 3) := by decide +kernel
theorem dX11_street_131 : decode cX11_street 131 = .ok (.iconst 0, 1) := by decide +kernel
theorem dX11_street_132 : decode cX11_street 132 = .ok (.invokevirtual 160, 3) := by decide +kernel
theorem dX11_street_135 : decode cX11_street 135 = .ok (.sipush (-2000), 3) := by decide +kernel
theorem dX11_street_138 : decode cX11_street 138 = .ok (.aload_n 0, 1) := by decide +kernel
theorem dX11_street_139 : decode cX11_street 139 = .ok (.getfield 25, 3) := by decide +kernel
theorem dX11_street_142 : decode cX11_street 142 = .ok (.iload_n 3, 1) := by decide +kernel
theorem dX11_street_143 : decode cX11_street 143 = .ok (.iaload, 1) := by decide +kernel
theorem dX11_street_144 : decode cX11_street 144 = .ok (.isub, 1) := by decide +kernel
theorem dX11_street_145 : decode cX11_street 145 = .ok (.ireturn, 1) := by decide +kernel
theorem dX11_street_146 : decode cX11_street 146 = .ok (.iinc 3 1, 3) := by decide +kernel
theorem dX11_street_149 : decode cX11_street 149 = .ok (.goto (-39), 3) := by decide +kernel
theorem dX11_street_152 : decode cX11_street 152 = .ok (.aload_n 0, 1) := by decide +kernel
theorem dX11_street_153 : decode cX11_street 153 = .ok (.getfield 131, 3) := by decide +kernel
theorem dX11_street_156 : decode cX11_street 156 = .ok (.ireturn, 1) := by decide +kernel
theorem dX11_carry_0 : decode cX11_carry 0 = .ok (.aload_n 0, 1) := by decide +kernel
theorem dX11_carry_1 : decode cX11_carry 1 = .ok (.getfield 167, 3) := by decide +kernel
theorem dX11_carry_4 : decode cX11_carry 4 = .ok (.ifCond .eq 13, 3) := by decide +kernel
theorem dX11_carry_7 : decode cX11_carry 7 = .ok (.aload_n 0, 1) := by decide +kernel
theorem dX11_carry_8 : decode cX11_carry 8 = .ok (.getfield 170, 3) := by decide +kernel
theorem dX11_carry_11 : decode cX11_carry 11 = .ok (.aload_n 0, 1) := by decide +kernel
theorem dX11_carry_12 : decode cX11_carry 12 = .ok (.getfield 173, 3) := by decide +kernel
theorem dX11_carry_15 : decode cX11_carry 15 = .ok (.iload_n 1, 1) := by decide +kernel
theorem dX11_carry_16 : decode cX11_carry 16 = .ok (.iastore, 1) := by decide +kernel
theorem dX11_carry_17 : decode cX11_carry 17 = .ok (.aload_n 0, 1) := by decide +kernel
theorem dX11_carry_18 : decode cX11_carry 18 = .ok (.dup, 1) := by decide +kernel
theorem dX11_carry_19 : decode cX11_carry 19 = .ok (.getfield 173, 3) := by decide +kernel
theorem dX11_carry_22 : decode cX11_carry 22 = .ok (.iconst 1, 1) := by decide +kernel
theorem dX11_carry_23 : decode cX11_carry 23 = .ok (.iadd, 1) := by decide +kernel
theorem dX11_carry_24 : decode cX11_carry 24 = .ok (.putfield 173, 3) := by decide +kernel
theorem dX11_carry_27 : decode cX11_carry 27 = .ok (.aload_n 0, 1) := by decide +kernel
theorem dX11_carry_28 : decode cX11_carry 28 = .ok (.getfield 170, 3) := by decide +kernel
theorem dX11_carry_31 : decode cX11_carry 31 = .ok (.aload_n 0, 1) := by decide +kernel
theorem dX11_carry_32 : decode cX11_carry 32 = .ok (.getfield 173, 3) := by decide +kernel
theorem dX11_carry_35 : decode cX11_carry 35 = .ok (.iconst 1, 1) := by decide +kernel
theorem dX11_carry_36 : decode cX11_carry 36 = .ok (.isub, 1) := by decide +kernel
theorem dX11_carry_37 : decode cX11_carry 37 = .ok (.iaload, 1) := by decide +kernel
theorem dX11_carry_38 : decode cX11_carry 38 = .ok (.ireturn, 1) := by decide +kernel
theorem dX11_carryAll_0 : decode cX11_carryAll 0 = .ok (.aload_n 0, 1) := by decide +kernel
theorem dX11_carryAll_1 : decode cX11_carryAll 1 = .ok (.aload_n 1, 1) := by decide +kernel
theorem dX11_carryAll_2 : decode cX11_carryAll 2 = .ok (.putfield 170, 3) := by decide +kernel
theorem dX11_carryAll_5 : decode cX11_carryAll 5 = .ok (.aload_n 0, 1) := by decide +kernel
theorem dX11_carryAll_6 : decode cX11_carryAll 6 = .ok (.iload_n 2, 1) := by decide +kernel
theorem dX11_carryAll_7 : decode cX11_carryAll 7 = .ok (.putfield 167, 3) := by decide +kernel
theorem dX11_carryAll_10 : decode cX11_carryAll 10 = .ok (.aload_n 0, 1) := by decide +kernel
theorem dX11_carryAll_11 : decode cX11_carryAll 11 = .ok (.iconst 0, 1) := by decide +kernel
theorem dX11_carryAll_12 : decode cX11_carryAll 12 = .ok (.putfield 173, 3) := by decide +kernel
theorem dX11_carryAll_15 : decode cX11_carryAll 15 = .ok (.aload_n 0, 1) := by decide +kernel
theorem dX11_carryAll_16 : decode cX11_carryAll 16 = .ok (.aload_n 0, 1) := by decide +kernel
theorem dX11_carryAll_17 : decode cX11_carryAll 17 = .ok (.aload_n 0, 1) := by decide +kernel
theorem dX11_carryAll_18 : decode cX11_carryAll 18 = .ok (.getfield 140, 3) := by decide +kernel
theorem dX11_carryAll_21 : decode cX11_carryAll 21 = .ok (.invokevirtual 176, 3) := by decide +kernel
theorem dX11_carryAll_24 : decode cX11_carryAll 24 = .ok (.putfield 140, 3) := by decide +kernel
theorem dX11_carryAll_27 : decode cX11_carryAll 27 = .ok (.aload_n 0, 1) := by decide +kernel
theorem dX11_carryAll_28 : decode cX11_carryAll 28 = .ok (.aload_n 0, 1) := by decide +kernel
theorem dX11_carryAll_29 : decode cX11_carryAll 29 = .ok (.aload_n 0, 1) := by decide +kernel
theorem dX11_carryAll_30 : decode cX11_carryAll 30 = .ok (.getfield 143, 3) := by decide +kernel
theorem dX11_carryAll_33 : decode cX11_carryAll 33 = .ok (.invokevirtual 176, 3) := by decide +kernel
theorem dX11_carryAll_36 : decode cX11_carryAll 36 = .ok (.putfield 143, 3) := by decide +kernel
theorem dX11_carryAll_39 : decode cX11_carryAll 39 = .ok (.aload_n 0, 1) := by decide +kernel
theorem dX11_carryAll_40 : decode cX11_carryAll 40 = .ok (.aload_n 0, 1) := by decide +kernel
theorem dX11_carryAll_41 : decode cX11_carryAll 41 = .ok (.aload_n 0, 1) := by decide +kernel
theorem dX11_carryAll_42 : decode cX11_carryAll 42 = .ok (.getfield 81, 3) := by decide +kernel
theorem dX11_carryAll_45 : decode cX11_carryAll 45 = .ok (.invokevirtual 176, 3) := by decide +kernel
theorem dX11_carryAll_48 : decode cX11_carryAll 48 = .ok (.putfield 81, 3) := by decide +kernel
theorem dX11_carryAll_51 : decode cX11_carryAll 51 = .ok (.iconst 0, 1) := by decide +kernel
theorem dX11_carryAll_52 : decode cX11_carryAll 52 = .ok (.istore_n 3, 1) := by decide +kernel
theorem dX11_carryAll_53 : decode cX11_carryAll 53 = .ok (.iload_n 3, 1) := by decide +kernel
theorem dX11_carryAll_54 : decode cX11_carryAll 54 = .ok (.bipush 30, 2) := by decide +kernel
theorem dX11_carryAll_56 : decode cX11_carryAll 56 = .ok (.if_icmp .ge 41, 3) := by decide +kernel
theorem dX11_carryAll_59 : decode cX11_carryAll 59 = .ok (.aload_n 0, 1) := by decide +kernel
theorem dX11_carryAll_60 : decode cX11_carryAll 60 = .ok (.getfield 7, 3) := by decide +kernel
theorem dX11_carryAll_63 : decode cX11_carryAll 63 = .ok (.iload_n 3, 1) := by decide +kernel
theorem dX11_carryAll_64 : decode cX11_carryAll 64 = .ok (.aload_n 0, 1) := by decide +kernel
theorem dX11_carryAll_65 : decode cX11_carryAll 65 = .ok (.aload_n 0, 1) := by decide +kernel
theorem dX11_carryAll_66 : decode cX11_carryAll 66 = .ok (.getfield 7, 3) := by decide +kernel
theorem dX11_carryAll_69 : decode cX11_carryAll 69 = .ok (.iload_n 3, 1) := by decide +kernel
theorem dX11_carryAll_70 : decode cX11_carryAll 70 = .ok (.iaload, 1) := by decide +kernel
theorem dX11_carryAll_71 : decode cX11_carryAll 71 = .ok (.invokevirtual 176, 3) := by decide +kernel
theorem dX11_carryAll_74 : decode cX11_carryAll 74 = .ok (.iastore, 1) := by decide +kernel
theorem dX11_carryAll_75 : decode cX11_carryAll 75 = .ok (.aload_n 0, 1) := by decide +kernel
theorem dX11_carryAll_76 : decode cX11_carryAll 76 = .ok (.getfield 13, 3) := by decide +kernel
theorem dX11_carryAll_79 : decode cX11_carryAll 79 = .ok (.iload_n 3, 1) := by decide +kernel
theorem dX11_carryAll_80 : decode cX11_carryAll 80 = .ok (.aload_n 0, 1) := by decide +kernel
theorem dX11_carryAll_81 : decode cX11_carryAll 81 = .ok (.aload_n 0, 1) := by decide +kernel
theorem dX11_carryAll_82 : decode cX11_carryAll 82 = .ok (.getfield 13, 3) := by decide +kernel
theorem dX11_carryAll_85 : decode cX11_carryAll 85 = .ok (.iload_n 3, 1) := by decide +kernel
theorem dX11_carryAll_86 : decode cX11_carryAll 86 = .ok (.iaload, 1) := by decide +kernel
theorem dX11_carryAll_87 : decode cX11_carryAll 87 = .ok (.invokevirtual 176, 3) := by decide +kernel
theorem dX11_carryAll_90 : decode cX11_carryAll 90 = .ok (.iastore, 1) := by decide +kernel
theorem dX11_carryAll_91 : decode cX11_carryAll 91 = .ok (.iinc 3 1, 3) := by decide +kernel
theorem dX11_carryAll_94 : decode cX11_carryAll 94 = .ok (.goto (-41), 3) := by decide +kernel
theorem dX11_carryAll_97 : decode cX11_carryAll 97 = .ok (.iconst 0, 1) := by decide +kernel
theorem dX11_carryAll_98 : decode cX11_carryAll 98 = .ok (.istore_n 3, 1) := by decide +kernel
theorem dX11_carryAll_99 : decode cX11_carryAll 99 = .ok (.iload_n 3, 1) := by decide +kernel
theorem dX11_carryAll_100 : decode cX11_carryAll 100 = .ok (.bipush 12, 2) := by decide +kernel
theorem dX11_carryAll_102 : decode cX11_carryAll 102 = .ok (.if_icmp .ge 25, 3) := by decide +kernel
theorem dX11_carryAll_105 : decode cX11_carryAll 105 = .ok (.aload_n 0, 1) := by decide +kernel
theorem dX11_carryAll_106 : decode cX11_carryAll 106 = .ok (.getfield 16, 3) := by decide +kernel
theorem dX11_carryAll_109 : decode cX11_carryAll 109 = .ok (.iload_n 3, 1) := by decide +kernel
theorem dX11_carryAll_110 : decode cX11_carryAll 110 = .ok (.aload_n 0, 1) := by decide +kernel
theorem dX11_carryAll_111 : decode cX11_carryAll 111 = .ok (.aload_n 0, 1) := by decide +kernel
theorem dX11_carryAll_112 : decode cX11_carryAll 112 = .ok (.getfield 16, 3) := by decide +kernel
theorem dX11_carryAll_115 : decode cX11_carryAll 115 = .ok (.iload_n 3, 1) := by decide +kernel
theorem dX11_carryAll_116 : decode cX11_carryAll 116 = .ok (.iaload, 1) := by decide +kernel
theorem dX11_carryAll_117 : decode cX11_carryAll 117 = .ok (.invokevirtual 176, 3) := by decide +kernel
theorem dX11_carryAll_120 : decode cX11_carryAll 120 = .ok (.iastore, 1) := by decide +kernel
theorem dX11_carryAll_121 : decode cX11_carryAll 121 = .ok (.iinc 3 1, 3) := by decide +kernel
theorem dX11_carryAll_124 : decode cX11_carryAll 124 = .ok (.goto (-25), 3) := by decide +kernel
theorem dX11_carryAll_127 : decode cX11_carryAll 127 = .ok (.return_, 1) := by decide +kernel
theorem dX11_image_0 : decode cX11_image 0 = .ok (.aload_n 0, 1) := by decide +kernel
theorem dX11_image_1 : decode cX11_image 1 = .ok (.iconst 0, 1) := by decide +kernel
theorem dX11_image_2 : decode cX11_image 2 = .ok (.putfield 74, 3) := by decide +kernel
theorem dX11_image_5 : decode cX11_image 5 = .ok (.aload_n 0, 1) := by decide +kernel
theorem dX11_image_6 : decode cX11_image 6 = .ok (.iconst 1, 1) := by decide +kernel
theorem dX11_image_7 : decode cX11_image 7 = .ok (.putfield 180, 3) := by decide +kernel
theorem dX11_image_10 : decode cX11_image 10 = .ok (.aload_n 0, 1) := by decide +kernel
theorem dX11_image_11 : decode cX11_image 11 = .ok (.aload_n 0, 1) := by decide +kernel
theorem dX11_image_12 : decode cX11_image 12 = .ok (.getfield 40, 3) := by decide +kernel
theorem dX11_image_15 : decode cX11_image 15 = .ok (.iconst 1, 1) := by decide +kernel
theorem dX11_image_16 : decode cX11_image 16 = .ok (.invokevirtual 160, 3) := by decide +kernel
theorem dX11_image_19 : decode cX11_image 19 = .ok (.aload_n 0, 1) := by decide +kernel
theorem dX11_image_20 : decode cX11_image 20 = .ok (.getfield 81, 3) := by decide +kernel
theorem dX11_image_23 : decode cX11_image 23 = .ok (.ireturn, 1) := by decide +kernel
theorem dX11_restore_0 : decode cX11_restore 0 = .ok (.aload_n 0, 1) := by decide +kernel
theorem dX11_restore_1 : decode cX11_restore 1 = .ok (.iconst 0, 1) := by decide +kernel
theorem dX11_restore_2 : decode cX11_restore 2 = .ok (.putfield 74, 3) := by decide +kernel
theorem dX11_restore_5 : decode cX11_restore 5 = .ok (.aload_n 0, 1) := by decide +kernel
theorem dX11_restore_6 : decode cX11_restore 6 = .ok (.getfield 180, 3) := by decide +kernel
theorem dX11_restore_9 : decode cX11_restore 9 = .ok (.ifCond .ne 6, 3) := by decide +kernel
theorem dX11_restore_12 : decode cX11_restore 12 = .ok (.bipush (-3), 2) := by decide +kernel
theorem dX11_restore_14 : decode cX11_restore 14 = .ok (.ireturn, 1) := by decide +kernel
theorem dX11_restore_15 : decode cX11_restore 15 = .ok (.aload_n 0, 1) := by decide +kernel
theorem dX11_restore_16 : decode cX11_restore 16 = .ok (.aload_n 0, 1) := by decide +kernel
theorem dX11_restore_17 : decode cX11_restore 17 = .ok (.getfield 40, 3) := by decide +kernel
theorem dX11_restore_20 : decode cX11_restore 20 = .ok (.iconst 0, 1) := by decide +kernel
theorem dX11_restore_21 : decode cX11_restore 21 = .ok (.invokevirtual 160, 3) := by decide +kernel
theorem dX11_restore_24 : decode cX11_restore 24 = .ok (.aload_n 0, 1) := by decide +kernel
theorem dX11_restore_25 : decode cX11_restore 25 = .ok (.getfield 81, 3) := by decide +kernel
theorem dX11_restore_28 : decode cX11_restore 28 = .ok (.ireturn, 1) := by decide +kernel
theorem dX11_isPlot_0 : decode cX11_isPlot 0 = .ok (.iload_n 0, 1) := by decide +kernel
theorem dX11_isPlot_1 : decode cX11_isPlot 1 = .ok (.i2l, 1) := by decide +kernel
theorem dX11_isPlot_2 : decode cX11_isPlot 2 = .ok (.lconst 0, 1) := by decide +kernel
theorem dX11_isPlot_3 : decode cX11_isPlot 3 = .ok (.ldc2_w 183, 3) := by decide +kernel
theorem dX11_isPlot_6 : decode cX11_isPlot 6 = .ok (.invokestatic 127, 3) := by decide +kernel
theorem dX11_isPlot_9 : decode cX11_isPlot 9 = .ok (.ireturn, 1) := by decide +kernel
theorem dX11_build_0 : decode cX11_build 0 = .ok (.aload_n 0, 1) := by decide +kernel
theorem dX11_build_1 : decode cX11_build 1 = .ok (.iconst 0, 1) := by decide +kernel
theorem dX11_build_2 : decode cX11_build 2 = .ok (.putfield 74, 3) := by decide +kernel
theorem dX11_build_5 : decode cX11_build 5 = .ok (.iload_n 1, 1) := by decide +kernel
theorem dX11_build_6 : decode cX11_build 6 = .ok (.invokestatic 185, 3) := by decide +kernel
theorem dX11_build_9 : decode cX11_build 9 = .ok (.ifCond .eq 15, 3) := by decide +kernel
theorem dX11_build_12 : decode cX11_build 12 = .ok (.iload_n 2, 1) := by decide +kernel
theorem dX11_build_13 : decode cX11_build 13 = .ok (.i2l, 1) := by decide +kernel
theorem dX11_build_14 : decode cX11_build 14 = .ok (.lconst 1, 1) := by decide +kernel
theorem dX11_build_15 : decode cX11_build 15 = .ok (.ldc2_w 188, 3) := by decide +kernel
theorem dX11_build_18 : decode cX11_build 18 = .ok (.invokestatic 127, 3) := by decide +kernel
theorem dX11_build_21 : decode cX11_build 21 = .ok (.ifCond .ne 5, 3) := by decide +kernel
theorem dX11_build_24 : decode cX11_build 24 = .ok (.iconst (-1), 1) := by decide +kernel
theorem dX11_build_25 : decode cX11_build 25 = .ok (.ireturn, 1) := by decide +kernel
theorem dX11_build_26 : decode cX11_build 26 = .ok (.aload_n 0, 1) := by decide +kernel
theorem dX11_build_27 : decode cX11_build 27 = .ok (.getfield 16, 3) := by decide +kernel
theorem dX11_build_30 : decode cX11_build 30 = .ok (.iload_n 1, 1) := by decide +kernel
theorem dX11_build_31 : decode cX11_build 31 = .ok (.iaload, 1) := by decide +kernel
theorem dX11_build_32 : decode cX11_build 32 = .ok (.ifCond .gt 12, 3) := by decide +kernel
theorem dX11_build_35 : decode cX11_build 35 = .ok (.aload_n 0, 1) := by decide +kernel
theorem dX11_build_36 : decode cX11_build 36 = .ok (.getfield 81, 3) := by decide +kernel
theorem dX11_build_39 : decode cX11_build 39 = .ok (.bipush 30, 2) := by decide +kernel
theorem dX11_build_41 : decode cX11_build 41 = .ok (.if_icmp .ne 20, 3) := by decide +kernel
theorem dX11_build_44 : decode cX11_build 44 = .ok (.aload_n 0, 1) := by decide +kernel
theorem dX11_build_45 : decode cX11_build 45 = .ok (.getfield 16, 3) := by decide +kernel
theorem dX11_build_48 : decode cX11_build 48 = .ok (.iload_n 1, 1) := by decide +kernel
theorem dX11_build_49 : decode cX11_build 49 = .ok (.iaload, 1) := by decide +kernel
theorem dX11_build_50 : decode cX11_build 50 = .ok (.ifCond .le 8, 3) := by decide +kernel
theorem dX11_build_53 : decode cX11_build 53 = .ok (.bipush (-3), 2) := by decide +kernel
theorem dX11_build_55 : decode cX11_build 55 = .ok (.goto 5, 3) := by decide +kernel
theorem dX11_build_58 : decode cX11_build 58 = .ok (.bipush (-2), 2) := by decide +kernel
theorem dX11_build_60 : decode cX11_build 60 = .ok (.ireturn, 1) := by decide +kernel
theorem dX11_build_61 : decode cX11_build 61 = .ok (.aload_n 0, 1) := by decide +kernel
theorem dX11_build_62 : decode cX11_build 62 = .ok (.iload_n 1, 1) := by decide +kernel
theorem dX11_build_63 : decode cX11_build 63 = .ok (.iload_n 2, 1) := by decide +kernel
theorem dX11_build_64 : decode cX11_build 64 = .ok (.invokevirtual 146, 3) := by decide +kernel
theorem dX11_build_67 : decode cX11_build 67 = .ok (.aload_n 0, 1) := by decide +kernel
theorem dX11_build_68 : decode cX11_build 68 = .ok (.getfield 16, 3) := by decide +kernel
theorem dX11_build_71 : decode cX11_build 71 = .ok (.iload_n 1, 1) := by decide +kernel
theorem dX11_build_72 : decode cX11_build 72 = .ok (.iaload, 1) := by decide +kernel
theorem dX11_build_73 : decode cX11_build 73 = .ok (.ireturn, 1) := by decide +kernel
theorem dX11_burn_0 : decode cX11_burn 0 = .ok (.aload_n 0, 1) := by decide +kernel
theorem dX11_burn_1 : decode cX11_burn 1 = .ok (.iconst 0, 1) := by decide +kernel
theorem dX11_burn_2 : decode cX11_burn 2 = .ok (.putfield 74, 3) := by decide +kernel
theorem dX11_burn_5 : decode cX11_burn 5 = .ok (.iload_n 1, 1) := by decide +kernel
theorem dX11_burn_6 : decode cX11_burn 6 = .ok (.invokestatic 185, 3) := by decide +kernel
theorem dX11_burn_9 : decode cX11_burn 9 = .ok (.ifCond .ne 5, 3) := by decide +kernel
theorem dX11_burn_12 : decode cX11_burn 12 = .ok (.iconst (-1), 1) := by decide +kernel
theorem dX11_burn_13 : decode cX11_burn 13 = .ok (.ireturn, 1) := by decide +kernel
theorem dX11_burn_14 : decode cX11_burn 14 = .ok (.aload_n 0, 1) := by decide +kernel
theorem dX11_burn_15 : decode cX11_burn 15 = .ok (.getfield 16, 3) := by decide +kernel
theorem dX11_burn_18 : decode cX11_burn 18 = .ok (.iload_n 1, 1) := by decide +kernel
theorem dX11_burn_19 : decode cX11_burn 19 = .ok (.iaload, 1) := by decide +kernel
theorem dX11_burn_20 : decode cX11_burn 20 = .ok (.ifCond .eq 12, 3) := by decide +kernel
theorem dX11_burn_23 : decode cX11_burn 23 = .ok (.aload_n 0, 1) := by decide +kernel
theorem dX11_burn_24 : decode cX11_burn 24 = .ok (.getfield 81, 3) := by decide +kernel
theorem dX11_burn_27 : decode cX11_burn 27 = .ok (.bipush 30, 2) := by decide +kernel
theorem dX11_burn_29 : decode cX11_burn 29 = .ok (.if_icmp .ne 20, 3) := by decide +kernel
theorem dX11_burn_32 : decode cX11_burn 32 = .ok (.aload_n 0, 1) := by decide +kernel
theorem dX11_burn_33 : decode cX11_burn 33 = .ok (.getfield 16, 3) := by decide +kernel
theorem dX11_burn_36 : decode cX11_burn 36 = .ok (.iload_n 1, 1) := by decide +kernel
theorem dX11_burn_37 : decode cX11_burn 37 = .ok (.iaload, 1) := by decide +kernel
theorem dX11_burn_38 : decode cX11_burn 38 = .ok (.ifCond .ne 8, 3) := by decide +kernel
theorem dX11_burn_41 : decode cX11_burn 41 = .ok (.bipush (-3), 2) := by decide +kernel
theorem dX11_burn_43 : decode cX11_burn 43 = .ok (.goto 5, 3) := by decide +kernel
theorem dX11_burn_46 : decode cX11_burn 46 = .ok (.bipush (-2), 2) := by decide +kernel
theorem dX11_burn_48 : decode cX11_burn 48 = .ok (.ireturn, 1) := by decide +kernel
theorem dX11_burn_49 : decode cX11_burn 49 = .ok (.aload_n 0, 1) := by decide +kernel
theorem dX11_burn_50 : decode cX11_burn 50 = .ok (.getfield 16, 3) := by decide +kernel
theorem dX11_burn_53 : decode cX11_burn 53 = .ok (.iload_n 1, 1) := by decide +kernel
theorem dX11_burn_54 : decode cX11_burn 54 = .ok (.iaload, 1) := by decide +kernel
theorem dX11_burn_55 : decode cX11_burn 55 = .ok (.istore_n 2, 1) := by decide +kernel
theorem dX11_burn_56 : decode cX11_burn 56 = .ok (.aload_n 0, 1) := by decide +kernel
theorem dX11_burn_57 : decode cX11_burn 57 = .ok (.iload_n 1, 1) := by decide +kernel
theorem dX11_burn_58 : decode cX11_burn 58 = .ok (.invokevirtual 150, 3) := by decide +kernel
theorem dX11_burn_61 : decode cX11_burn 61 = .ok (.iload_n 2, 1) := by decide +kernel
theorem dX11_burn_62 : decode cX11_burn 62 = .ok (.ireturn, 1) := by decide +kernel
theorem dX11_wrongLaw_0 : decode cX11_wrongLaw 0 = .ok (.iload_n 1, 1) := by decide +kernel
theorem dX11_wrongLaw_1 : decode cX11_wrongLaw 1 = .ok (.i2l, 1) := by decide +kernel
theorem dX11_wrongLaw_2 : decode cX11_wrongLaw 2 = .ok (.lconst 0, 1) := by decide +kernel
theorem dX11_wrongLaw_3 : decode cX11_wrongLaw 3 = .ok (.ldc2_w 190, 3) := by decide +kernel
theorem dX11_wrongLaw_6 : decode cX11_wrongLaw 6 = .ok (.invokestatic 127, 3) := by decide +kernel
theorem dX11_wrongLaw_9 : decode cX11_wrongLaw 9 = .ok (.ifCond .ne 7, 3) := by decide +kernel
theorem dX11_wrongLaw_12 : decode cX11_wrongLaw 12 = .ok (.iconst (-1), 1) := by decide +kernel
theorem dX11_wrongLaw_13 : decode cX11_wrongLaw 13 = .ok (.goto 33, 3) := by decide +kernel
theorem dX11_wrongLaw_16 : decode cX11_wrongLaw 16 = .ok (.aload_n 0, 1) := by decide +kernel
theorem dX11_wrongLaw_17 : decode cX11_wrongLaw 17 = .ok (.getfield 52, 3) := by decide +kernel
theorem dX11_wrongLaw_20 : decode cX11_wrongLaw 20 = .ok (.iload_n 1, 1) := by decide +kernel
theorem dX11_wrongLaw_21 : decode cX11_wrongLaw 21 = .ok (.iaload, 1) := by decide +kernel
theorem dX11_wrongLaw_22 : decode cX11_wrongLaw 22 = .ok (.ifCond .ne 8, 3) := by decide +kernel
theorem dX11_wrongLaw_25 : decode cX11_wrongLaw 25 = .ok (.bipush (-11), 2) := by decide +kernel
theorem dX11_wrongLaw_27 : decode cX11_wrongLaw 27 = .ok (.goto 19, 3) := by decide +kernel
theorem dX11_wrongLaw_30 : decode cX11_wrongLaw 30 = .ok (.aload_n 0, 1) := by decide +kernel
theorem dX11_wrongLaw_31 : decode cX11_wrongLaw 31 = .ok (.getfield 52, 3) := by decide +kernel
theorem dX11_wrongLaw_34 : decode cX11_wrongLaw 34 = .ok (.iload_n 1, 1) := by decide +kernel
theorem dX11_wrongLaw_35 : decode cX11_wrongLaw 35 = .ok (.iaload, 1) := by decide +kernel
theorem dX11_wrongLaw_36 : decode cX11_wrongLaw 36 = .ok (.iconst 1, 1) := by decide +kernel
theorem dX11_wrongLaw_37 : decode cX11_wrongLaw 37 = .ok (.if_icmp .eq 8, 3) := by decide +kernel
theorem dX11_wrongLaw_40 : decode cX11_wrongLaw 40 = .ok (.bipush (-12), 2) := by decide +kernel
theorem dX11_wrongLaw_42 : decode cX11_wrongLaw 42 = .ok (.goto 4, 3) := by decide +kernel
theorem dX11_wrongLaw_45 : decode cX11_wrongLaw 45 = .ok (.iconst 0, 1) := by decide +kernel
theorem dX11_wrongLaw_46 : decode cX11_wrongLaw 46 = .ok (.ireturn, 1) := by decide +kernel
theorem dX11_enact_0 : decode cX11_enact 0 = .ok (.aload_n 0, 1) := by decide +kernel
theorem dX11_enact_1 : decode cX11_enact 1 = .ok (.iconst 0, 1) := by decide +kernel
theorem dX11_enact_2 : decode cX11_enact 2 = .ok (.putfield 74, 3) := by decide +kernel
theorem dX11_enact_5 : decode cX11_enact 5 = .ok (.aload_n 0, 1) := by decide +kernel
theorem dX11_enact_6 : decode cX11_enact 6 = .ok (.iload_n 1, 1) := by decide +kernel
theorem dX11_enact_7 : decode cX11_enact 7 = .ok (.invokevirtual 192, 3) := by decide +kernel
theorem dX11_enact_10 : decode cX11_enact 10 = .ok (.istore_n 2, 1) := by decide +kernel
theorem dX11_enact_11 : decode cX11_enact 11 = .ok (.iload_n 2, 1) := by decide +kernel
theorem dX11_enact_12 : decode cX11_enact 12 = .ok (.ifCond .ge 5, 3) := by decide +kernel
theorem dX11_enact_15 : decode cX11_enact 15 = .ok (.iload_n 2, 1) := by decide +kernel
theorem dX11_enact_16 : decode cX11_enact 16 = .ok (.ireturn, 1) := by decide +kernel
theorem dX11_enact_17 : decode cX11_enact 17 = .ok (.aload_n 0, 1) := by decide +kernel
theorem dX11_enact_18 : decode cX11_enact 18 = .ok (.getfield 140, 3) := by decide +kernel
theorem dX11_enact_21 : decode cX11_enact 21 = .ok (.istore_n 3, 1) := by decide +kernel
theorem dX11_enact_22 : decode cX11_enact 22 = .ok (.aload_n 0, 1) := by decide +kernel
theorem dX11_enact_23 : decode cX11_enact 23 = .ok (.aload_n 0, 1) := by decide +kernel
theorem dX11_enact_24 : decode cX11_enact 24 = .ok (.getfield 55, 3) := by decide +kernel
theorem dX11_enact_27 : decode cX11_enact 27 = .ok (.iload_n 1, 1) := by decide +kernel
theorem dX11_enact_28 : decode cX11_enact 28 = .ok (.iaload, 1) := by decide +kernel
theorem dX11_enact_29 : decode cX11_enact 29 = .ok (.putfield 140, 3) := by decide +kernel
theorem dX11_enact_32 : decode cX11_enact 32 = .ok (.aload_n 0, 1) := by decide +kernel
theorem dX11_enact_33 : decode cX11_enact 33 = .ok (.aload_n 0, 1) := by decide +kernel
theorem dX11_enact_34 : decode cX11_enact 34 = .ok (.getfield 58, 3) := by decide +kernel
theorem dX11_enact_37 : decode cX11_enact 37 = .ok (.iload_n 1, 1) := by decide +kernel
theorem dX11_enact_38 : decode cX11_enact 38 = .ok (.iaload, 1) := by decide +kernel
theorem dX11_enact_39 : decode cX11_enact 39 = .ok (.putfield 143, 3) := by decide +kernel
theorem dX11_enact_42 : decode cX11_enact 42 = .ok (.iload_n 3, 1) := by decide +kernel
theorem dX11_enact_43 : decode cX11_enact 43 = .ok (.ireturn, 1) := by decide +kernel
theorem dX11_builtAt_0 : decode cX11_builtAt 0 = .ok (.iconst (-1), 1) := by decide +kernel
theorem dX11_builtAt_1 : decode cX11_builtAt 1 = .ok (.istore_n 2, 1) := by decide +kernel
theorem dX11_builtAt_2 : decode cX11_builtAt 2 = .ok (.iconst 0, 1) := by decide +kernel
theorem dX11_builtAt_3 : decode cX11_builtAt 3 = .ok (.istore_n 3, 1) := by decide +kernel
theorem dX11_builtAt_4 : decode cX11_builtAt 4 = .ok (.iload_n 3, 1) := by decide +kernel
theorem dX11_builtAt_5 : decode cX11_builtAt 5 = .ok (.aload_n 0, 1) := by decide +kernel
theorem dX11_builtAt_6 : decode cX11_builtAt 6 = .ok (.getfield 81, 3) := by decide +kernel
theorem dX11_builtAt_9 : decode cX11_builtAt 9 = .ok (.if_icmp .ge 25, 3) := by decide +kernel
theorem dX11_builtAt_12 : decode cX11_builtAt 12 = .ok (.aload_n 0, 1) := by decide +kernel
theorem dX11_builtAt_13 : decode cX11_builtAt 13 = .ok (.getfield 7, 3) := by decide +kernel
theorem dX11_builtAt_16 : decode cX11_builtAt 16 = .ok (.iload_n 3, 1) := by decide +kernel
theorem dX11_builtAt_17 : decode cX11_builtAt 17 = .ok (.iaload, 1) := by decide +kernel
theorem dX11_builtAt_18 : decode cX11_builtAt 18 = .ok (.iload_n 1, 1) := by decide +kernel
theorem dX11_builtAt_19 : decode cX11_builtAt 19 = .ok (.if_icmp .ne 7, 3) := by decide +kernel
theorem dX11_builtAt_22 : decode cX11_builtAt 22 = .ok (.iload_n 3, 1) := by decide +kernel
theorem dX11_builtAt_23 : decode cX11_builtAt 23 = .ok (.goto 4, 3) := by decide +kernel
theorem dX11_builtAt_26 : decode cX11_builtAt 26 = .ok (.iload_n 2, 1) := by decide +kernel
theorem dX11_builtAt_27 : decode cX11_builtAt 27 = .ok (.istore_n 2, 1) := by decide +kernel
theorem dX11_builtAt_28 : decode cX11_builtAt 28 = .ok (.iinc 3 1, 3) := by decide +kernel
theorem dX11_builtAt_31 : decode cX11_builtAt 31 = .ok (.goto (-27), 3) := by decide +kernel
theorem dX11_builtAt_34 : decode cX11_builtAt 34 = .ok (.iload_n 2, 1) := by decide +kernel
theorem dX11_builtAt_35 : decode cX11_builtAt 35 = .ok (.ireturn, 1) := by decide +kernel
theorem dX11_house_0 : decode cX11_house 0 = .ok (.aload_n 0, 1) := by decide +kernel
theorem dX11_house_1 : decode cX11_house 1 = .ok (.iconst 0, 1) := by decide +kernel
theorem dX11_house_2 : decode cX11_house 2 = .ok (.putfield 74, 3) := by decide +kernel
theorem dX11_house_5 : decode cX11_house 5 = .ok (.iload_n 1, 1) := by decide +kernel
theorem dX11_house_6 : decode cX11_house 6 = .ok (.invokestatic 185, 3) := by decide +kernel
theorem dX11_house_9 : decode cX11_house 9 = .ok (.ifCond .eq 15, 3) := by decide +kernel
theorem dX11_house_12 : decode cX11_house 12 = .ok (.iload_n 2, 1) := by decide +kernel
theorem dX11_house_13 : decode cX11_house 13 = .ok (.i2l, 1) := by decide +kernel
theorem dX11_house_14 : decode cX11_house 14 = .ok (.lconst 0, 1) := by decide +kernel
theorem dX11_house_15 : decode cX11_house 15 = .ok (.ldc2_w 195, 3) := by decide +kernel
theorem dX11_house_18 : decode cX11_house 18 = .ok (.invokestatic 127, 3) := by decide +kernel
theorem dX11_house_21 : decode cX11_house 21 = .ok (.ifCond .ne 5, 3) := by decide +kernel
theorem dX11_house_24 : decode cX11_house 24 = .ok (.iconst (-1), 1) := by decide +kernel
theorem dX11_house_25 : decode cX11_house 25 = .ok (.ireturn, 1) := by decide +kernel
theorem dX11_house_26 : decode cX11_house 26 = .ok (.aload_n 0, 1) := by decide +kernel
theorem dX11_house_27 : decode cX11_house 27 = .ok (.getfield 16, 3) := by decide +kernel
theorem dX11_house_30 : decode cX11_house 30 = .ok (.iload_n 1, 1) := by decide +kernel
theorem dX11_house_31 : decode cX11_house 31 = .ok (.iaload, 1) := by decide +kernel
theorem dX11_house_32 : decode cX11_house 32 = .ok (.ifCond .ne 6, 3) := by decide +kernel
theorem dX11_house_35 : decode cX11_house 35 = .ok (.bipush (-4), 2) := by decide +kernel
theorem dX11_house_37 : decode cX11_house 37 = .ok (.ireturn, 1) := by decide +kernel
theorem dX11_house_38 : decode cX11_house 38 = .ok (.aload_n 0, 1) := by decide +kernel
theorem dX11_house_39 : decode cX11_house 39 = .ok (.iload_n 1, 1) := by decide +kernel
theorem dX11_house_40 : decode cX11_house 40 = .ok (.invokevirtual 197, 3) := by decide +kernel
theorem dX11_house_43 : decode cX11_house 43 = .ok (.istore_n 3, 1) := by decide +kernel
theorem dX11_house_44 : decode cX11_house 44 = .ok (.iload_n 2, 1) := by decide +kernel
theorem dX11_house_45 : decode cX11_house 45 = .ok (.ifCond .ne 12, 3) := by decide +kernel
theorem dX11_house_48 : decode cX11_house 48 = .ok (.aload_n 0, 1) := by decide +kernel
theorem dX11_house_49 : decode cX11_house 49 = .ok (.getfield 16, 3) := by decide +kernel
theorem dX11_house_52 : decode cX11_house 52 = .ok (.iload_n 1, 1) := by decide +kernel
theorem dX11_house_53 : decode cX11_house 53 = .ok (.iaload, 1) := by decide +kernel
theorem dX11_house_54 : decode cX11_house 54 = .ok (.goto 25, 3) := by decide +kernel
theorem dX11_house_57 : decode cX11_house 57 = .ok (.iload_n 2, 1) := by decide +kernel
theorem dX11_house_58 : decode cX11_house 58 = .ok (.iconst 1, 1) := by decide +kernel
theorem dX11_house_59 : decode cX11_house 59 = .ok (.if_icmp .ne 12, 3) := by decide +kernel
theorem dX11_house_62 : decode cX11_house 62 = .ok (.aload_n 0, 1) := by decide +kernel
theorem dX11_house_63 : decode cX11_house 63 = .ok (.getfield 13, 3) := by decide +kernel
theorem dX11_house_66 : decode cX11_house 66 = .ok (.iload_n 3, 1) := by decide +kernel
theorem dX11_house_67 : decode cX11_house 67 = .ok (.iaload, 1) := by decide +kernel
theorem dX11_house_68 : decode cX11_house 68 = .ok (.goto 11, 3) := by decide +kernel
theorem dX11_house_71 : decode cX11_house 71 = .ok (.aload_n 0, 1) := by decide +kernel
theorem dX11_house_72 : decode cX11_house 72 = .ok (.getfield 81, 3) := by decide +kernel
theorem dX11_house_75 : decode cX11_house 75 = .ok (.iload_n 3, 1) := by decide +kernel
theorem dX11_house_76 : decode cX11_house 76 = .ok (.isub, 1) := by decide +kernel
theorem dX11_house_77 : decode cX11_house 77 = .ok (.iconst 1, 1) := by decide +kernel
theorem dX11_house_78 : decode cX11_house 78 = .ok (.isub, 1) := by decide +kernel
theorem dX11_house_79 : decode cX11_house 79 = .ok (.ireturn, 1) := by decide +kernel
theorem dX11_have_0 : decode cX11_have 0 = .ok (.aload_n 0, 1) := by decide +kernel
theorem dX11_have_1 : decode cX11_have 1 = .ok (.iconst 0, 1) := by decide +kernel
theorem dX11_have_2 : decode cX11_have 2 = .ok (.putfield 74, 3) := by decide +kernel
theorem dX11_have_5 : decode cX11_have 5 = .ok (.iload_n 1, 1) := by decide +kernel
theorem dX11_have_6 : decode cX11_have 6 = .ok (.iconst 1, 1) := by decide +kernel
theorem dX11_have_7 : decode cX11_have 7 = .ok (.if_icmp .ge 5, 3) := by decide +kernel
theorem dX11_have_10 : decode cX11_have 10 = .ok (.iconst (-1), 1) := by decide +kernel
theorem dX11_have_11 : decode cX11_have 11 = .ok (.ireturn, 1) := by decide +kernel
theorem dX11_have_12 : decode cX11_have 12 = .ok (.iconst 0, 1) := by decide +kernel
theorem dX11_have_13 : decode cX11_have 13 = .ok (.istore_n 2, 1) := by decide +kernel
theorem dX11_have_14 : decode cX11_have 14 = .ok (.iconst 0, 1) := by decide +kernel
theorem dX11_have_15 : decode cX11_have 15 = .ok (.istore_n 3, 1) := by decide +kernel
theorem dX11_have_16 : decode cX11_have 16 = .ok (.iload_n 3, 1) := by decide +kernel
theorem dX11_have_17 : decode cX11_have 17 = .ok (.bipush 12, 2) := by decide +kernel
theorem dX11_have_19 : decode cX11_have 19 = .ok (.if_icmp .ge 29, 3) := by decide +kernel
theorem dX11_have_22 : decode cX11_have 22 = .ok (.iload_n 2, 1) := by decide +kernel
theorem dX11_have_23 : decode cX11_have 23 = .ok (.aload_n 0, 1) := by decide +kernel
theorem dX11_have_24 : decode cX11_have 24 = .ok (.getfield 16, 3) := by decide +kernel
theorem dX11_have_27 : decode cX11_have 27 = .ok (.iload_n 3, 1) := by decide +kernel
theorem dX11_have_28 : decode cX11_have 28 = .ok (.iaload, 1) := by decide +kernel
theorem dX11_have_29 : decode cX11_have 29 = .ok (.iload_n 1, 1) := by decide +kernel
theorem dX11_have_30 : decode cX11_have 30 = .ok (.if_icmp .ne 9, 3) := by decide +kernel
theorem dX11_have_33 : decode cX11_have 33 = .ok (.iconst 1, 1) := by decide +kernel
theorem dX11_have_34 : decode cX11_have 34 = .ok (.iload_n 3, 1) := by decide +kernel
theorem dX11_have_35 : decode cX11_have 35 = .ok (.ishl, 1) := by decide +kernel
theorem dX11_have_36 : decode cX11_have 36 = .ok (.goto 4, 3) := by decide +kernel
theorem dX11_have_39 : decode cX11_have 39 = .ok (.iconst 0, 1) := by decide +kernel
theorem dX11_have_40 : decode cX11_have 40 = .ok (.ior, 1) := by decide +kernel
theorem dX11_have_41 : decode cX11_have 41 = .ok (.istore_n 2, 1) := by decide +kernel
theorem dX11_have_42 : decode cX11_have 42 = .ok (.iinc 3 1, 3) := by decide +kernel
theorem dX11_have_45 : decode cX11_have 45 = .ok (.goto (-29), 3) := by decide +kernel
theorem dX11_have_48 : decode cX11_have 48 = .ok (.iload_n 2, 1) := by decide +kernel
theorem dX11_have_49 : decode cX11_have 49 = .ok (.ireturn, 1) := by decide +kernel
theorem dX11_would_0 : decode cX11_would 0 = .ok (.aload_n 0, 1) := by decide +kernel
theorem dX11_would_1 : decode cX11_would 1 = .ok (.iconst 0, 1) := by decide +kernel
theorem dX11_would_2 : decode cX11_would 2 = .ok (.putfield 74, 3) := by decide +kernel
theorem dX11_would_5 : decode cX11_would 5 = .ok (.iload_n 1, 1) := by decide +kernel
theorem dX11_would_6 : decode cX11_would 6 = .ok (.invokestatic 185, 3) := by decide +kernel
theorem dX11_would_9 : decode cX11_would 9 = .ok (.ifCond .eq 15, 3) := by decide +kernel
theorem dX11_would_12 : decode cX11_would 12 = .ok (.iload_n 2, 1) := by decide +kernel
theorem dX11_would_13 : decode cX11_would 13 = .ok (.i2l, 1) := by decide +kernel
theorem dX11_would_14 : decode cX11_would 14 = .ok (.lconst 1, 1) := by decide +kernel
theorem dX11_would_15 : decode cX11_would 15 = .ok (.ldc2_w 188, 3) := by decide +kernel
theorem dX11_would_18 : decode cX11_would 18 = .ok (.invokestatic 127, 3) := by decide +kernel
theorem dX11_would_21 : decode cX11_would 21 = .ok (.ifCond .ne 5, 3) := by decide +kernel
theorem dX11_would_24 : decode cX11_would 24 = .ok (.iconst (-1), 1) := by decide +kernel
theorem dX11_would_25 : decode cX11_would 25 = .ok (.ireturn, 1) := by decide +kernel
theorem dX11_would_26 : decode cX11_would 26 = .ok (.aload_n 0, 1) := by decide +kernel
theorem dX11_would_27 : decode cX11_would 27 = .ok (.invokevirtual 137, 3) := by decide +kernel
theorem dX11_would_30 : decode cX11_would 30 = .ok (.aload_n 0, 1) := by decide +kernel
theorem dX11_would_31 : decode cX11_would 31 = .ok (.aload_n 0, 1) := by decide +kernel
theorem dX11_would_32 : decode cX11_would 32 = .ok (.getfield 140, 3) := by decide +kernel
theorem dX11_would_35 : decode cX11_would 35 = .ok (.aload_n 0, 1) := by decide +kernel
theorem dX11_would_36 : decode cX11_would 36 = .ok (.getfield 143, 3) := by decide +kernel
theorem dX11_would_39 : decode cX11_would 39 = .ok (.iload_n 1, 1) := by decide +kernel
theorem dX11_would_40 : decode cX11_would 40 = .ok (.iload_n 2, 1) := by decide +kernel
theorem dX11_would_41 : decode cX11_would 41 = .ok (.invokevirtual 99, 3) := by decide +kernel
theorem dX11_would_44 : decode cX11_would 44 = .ok (.ireturn, 1) := by decide +kernel
theorem dX11_where_0 : decode cX11_where 0 = .ok (.aload_n 0, 1) := by decide +kernel
theorem dX11_where_1 : decode cX11_where 1 = .ok (.iconst 0, 1) := by decide +kernel
theorem dX11_where_2 : decode cX11_where 2 = .ok (.putfield 74, 3) := by decide +kernel
theorem dX11_where_5 : decode cX11_where 5 = .ok (.iload_n 1, 1) := by decide +kernel
theorem dX11_where_6 : decode cX11_where 6 = .ok (.iconst 1, 1) := by decide +kernel
theorem dX11_where_7 : decode cX11_where 7 = .ok (.if_icmp .lt 15, 3) := by decide +kernel
theorem dX11_where_10 : decode cX11_where 10 = .ok (.iload_n 2, 1) := by decide +kernel
theorem dX11_where_11 : decode cX11_where 11 = .ok (.i2l, 1) := by decide +kernel
theorem dX11_where_12 : decode cX11_where 12 = .ok (.lconst 1, 1) := by decide +kernel
theorem dX11_where_13 : decode cX11_where 13 = .ok (.ldc2_w 188, 3) := by decide +kernel
theorem dX11_where_16 : decode cX11_where 16 = .ok (.invokestatic 127, 3) := by decide +kernel
theorem dX11_where_19 : decode cX11_where 19 = .ok (.ifCond .ne 5, 3) := by decide +kernel
theorem dX11_where_22 : decode cX11_where 22 = .ok (.iconst (-1), 1) := by decide +kernel
theorem dX11_where_23 : decode cX11_where 23 = .ok (.ireturn, 1) := by decide +kernel
theorem dX11_where_24 : decode cX11_where 24 = .ok (.aload_n 0, 1) := by decide +kernel
theorem dX11_where_25 : decode cX11_where 25 = .ok (.invokevirtual 137, 3) := by decide +kernel
theorem dX11_where_28 : decode cX11_where 28 = .ok (.iconst 0, 1) := by decide +kernel
theorem dX11_where_29 : decode cX11_where 29 = .ok (.istore_n 3, 1) := by decide +kernel
theorem dX11_where_30 : decode cX11_where 30 = .ok (.iconst 0, 1) := by decide +kernel
theorem dX11_where_31 : decode cX11_where 31 = .ok (.istore 4, 2) := by decide +kernel
theorem dX11_where_33 : decode cX11_where 33 = .ok (.iload 4, 2) := by decide +kernel
theorem dX11_where_35 : decode cX11_where 35 = .ok (.bipush 12, 2) := by decide +kernel
theorem dX11_where_37 : decode cX11_where 37 = .ok (.if_icmp .ge 49, 3) := by decide +kernel
theorem dX11_where_40 : decode cX11_where 40 = .ok (.iload_n 3, 1) := by decide +kernel
theorem dX11_where_41 : decode cX11_where 41 = .ok (.aload_n 0, 1) := by decide +kernel
theorem dX11_where_42 : decode cX11_where 42 = .ok (.getfield 16, 3) := by decide +kernel
theorem dX11_where_45 : decode cX11_where 45 = .ok (.iload 4, 2) := by decide +kernel
theorem dX11_where_47 : decode cX11_where 47 = .ok (.iaload, 1) := by decide +kernel
theorem dX11_where_48 : decode cX11_where 48 = .ok (.ifCond .ne 29, 3) := by decide +kernel
theorem dX11_where_51 : decode cX11_where 51 = .ok (.aload_n 0, 1) := by decide +kernel
theorem dX11_where_52 : decode cX11_where 52 = .ok (.aload_n 0, 1) := by decide +kernel
theorem dX11_where_53 : decode cX11_where 53 = .ok (.getfield 140, 3) := by decide +kernel
theorem dX11_where_56 : decode cX11_where 56 = .ok (.aload_n 0, 1) := by decide +kernel
theorem dX11_where_57 : decode cX11_where 57 = .ok (.getfield 143, 3) := by decide +kernel
theorem dX11_where_60 : decode cX11_where 60 = .ok (.iload 4, 2) := by decide +kernel
theorem dX11_where_62 : decode cX11_where 62 = .ok (.iload_n 2, 1) := by decide +kernel
theorem dX11_where_63 : decode cX11_where 63 = .ok (.invokevirtual 99, 3) := by decide +kernel
theorem dX11_where_66 : decode cX11_where 66 = .ok (.iload_n 1, 1) := by decide +kernel
theorem dX11_where_67 : decode cX11_where 67 = .ok (.if_icmp .ne 10, 3) := by decide +kernel
theorem dX11_where_70 : decode cX11_where 70 = .ok (.iconst 1, 1) := by decide +kernel
theorem dX11_where_71 : decode cX11_where 71 = .ok (.iload 4, 2) := by decide +kernel
theorem dX11_where_73 : decode cX11_where 73 = .ok (.ishl, 1) := by decide +kernel
theorem dX11_where_74 : decode cX11_where 74 = .ok (.goto 4, 3) := by decide +kernel
theorem dX11_where_77 : decode cX11_where 77 = .ok (.iconst 0, 1) := by decide +kernel
theorem dX11_where_78 : decode cX11_where 78 = .ok (.ior, 1) := by decide +kernel
theorem dX11_where_79 : decode cX11_where 79 = .ok (.istore_n 3, 1) := by decide +kernel
theorem dX11_where_80 : decode cX11_where 80 = .ok (.iinc 4 1, 3) := by decide +kernel
theorem dX11_where_83 : decode cX11_where 83 = .ok (.goto (-50), 3) := by decide +kernel
theorem dX11_where_86 : decode cX11_where 86 = .ok (.iload_n 3, 1) := by decide +kernel
theorem dX11_where_87 : decode cX11_where 87 = .ok (.ireturn, 1) := by decide +kernel
theorem dX11_letter_0 : decode cX11_letter 0 = .ok (.aload_n 0, 1) := by decide +kernel
theorem dX11_letter_1 : decode cX11_letter 1 = .ok (.iconst 0, 1) := by decide +kernel
theorem dX11_letter_2 : decode cX11_letter 2 = .ok (.putfield 74, 3) := by decide +kernel
theorem dX11_letter_5 : decode cX11_letter 5 = .ok (.iload_n 1, 1) := by decide +kernel
theorem dX11_letter_6 : decode cX11_letter 6 = .ok (.i2l, 1) := by decide +kernel
theorem dX11_letter_7 : decode cX11_letter 7 = .ok (.lconst 1, 1) := by decide +kernel
theorem dX11_letter_8 : decode cX11_letter 8 = .ok (.ldc2_w 200, 3) := by decide +kernel
theorem dX11_letter_11 : decode cX11_letter 11 = .ok (.invokestatic 127, 3) := by decide +kernel
theorem dX11_letter_14 : decode cX11_letter 14 = .ok (.ifCond .ne 5, 3) := by decide +kernel
theorem dX11_letter_17 : decode cX11_letter 17 = .ok (.iconst (-1), 1) := by decide +kernel
theorem dX11_letter_18 : decode cX11_letter 18 = .ok (.ireturn, 1) := by decide +kernel
theorem dX11_letter_19 : decode cX11_letter 19 = .ok (.iload_n 1, 1) := by decide +kernel
theorem dX11_letter_20 : decode cX11_letter 20 = .ok (.istore_n 2, 1) := by decide +kernel
theorem dX11_letter_21 : decode cX11_letter 21 = .ok (.iconst 0, 1) := by decide +kernel
theorem dX11_letter_22 : decode cX11_letter 22 = .ok (.istore_n 3, 1) := by decide +kernel
theorem dX11_letter_23 : decode cX11_letter 23 = .ok (.iload_n 3, 1) := by decide +kernel
theorem dX11_letter_24 : decode cX11_letter 24 = .ok (.aload_n 0, 1) := by decide +kernel
theorem dX11_letter_25 : decode cX11_letter 25 = .ok (.getfield 81, 3) := by decide +kernel
theorem dX11_letter_28 : decode cX11_letter 28 = .ok (.if_icmp .ge 52, 3) := by decide +kernel
theorem dX11_letter_31 : decode cX11_letter 31 = .ok (.aload_n 0, 1) := by decide +kernel
theorem dX11_letter_32 : decode cX11_letter 32 = .ok (.getfield 7, 3) := by decide +kernel
theorem dX11_letter_35 : decode cX11_letter 35 = .ok (.iload_n 3, 1) := by decide +kernel
theorem dX11_letter_36 : decode cX11_letter 36 = .ok (.iaload, 1) := by decide +kernel
theorem dX11_letter_37 : decode cX11_letter 37 = .ok (.istore 4, 2) := by decide +kernel
theorem dX11_letter_39 : decode cX11_letter 39 = .ok (.iload_n 2, 1) := by decide +kernel
theorem dX11_letter_40 : decode cX11_letter 40 = .ok (.aload_n 0, 1) := by decide +kernel
theorem dX11_letter_41 : decode cX11_letter 41 = .ok (.getfield 16, 3) := by decide +kernel
theorem dX11_letter_44 : decode cX11_letter 44 = .ok (.iload 4, 2) := by decide +kernel
theorem dX11_letter_46 : decode cX11_letter 46 = .ok (.iaload, 1) := by decide +kernel
theorem dX11_letter_47 : decode cX11_letter 47 = .ok (.ifCond .le 17, 3) := by decide +kernel
theorem dX11_letter_50 : decode cX11_letter 50 = .ok (.aload_n 0, 1) := by decide +kernel
theorem dX11_letter_51 : decode cX11_letter 51 = .ok (.iload 4, 2) := by decide +kernel
theorem dX11_letter_53 : decode cX11_letter 53 = .ok (.invokevirtual 197, 3) := by decide +kernel
theorem dX11_letter_56 : decode cX11_letter 56 = .ok (.iload_n 3, 1) := by decide +kernel
theorem dX11_letter_57 : decode cX11_letter 57 = .ok (.if_icmp .ne 7, 3) := by decide +kernel
theorem dX11_letter_60 : decode cX11_letter 60 = .ok (.iconst 1, 1) := by decide +kernel
theorem dX11_letter_61 : decode cX11_letter 61 = .ok (.goto 4, 3) := by decide +kernel
theorem dX11_letter_64 : decode cX11_letter 64 = .ok (.iconst 0, 1) := by decide +kernel
theorem dX11_letter_65 : decode cX11_letter 65 = .ok (.isub, 1) := by decide +kernel
theorem dX11_letter_66 : decode cX11_letter 66 = .ok (.istore_n 2, 1) := by decide +kernel
theorem dX11_letter_67 : decode cX11_letter 67 = .ok (.iload_n 2, 1) := by decide +kernel
theorem dX11_letter_68 : decode cX11_letter 68 = .ok (.ifCond .ne 6, 3) := by decide +kernel
theorem dX11_letter_71 : decode cX11_letter 71 = .ok (.iload 4, 2) := by decide +kernel
theorem dX11_letter_73 : decode cX11_letter 73 = .ok (.ireturn, 1) := by decide +kernel
theorem dX11_letter_74 : decode cX11_letter 74 = .ok (.iinc 3 1, 3) := by decide +kernel
theorem dX11_letter_77 : decode cX11_letter 77 = .ok (.goto (-54), 3) := by decide +kernel
theorem dX11_letter_80 : decode cX11_letter 80 = .ok (.bipush (-4), 2) := by decide +kernel
theorem dX11_letter_82 : decode cX11_letter 82 = .ok (.ireturn, 1) := by decide +kernel
theorem dX11_gapsLooked_0 : decode cX11_gapsLooked 0 = .ok (.iconst 0, 1) := by decide +kernel
theorem dX11_gapsLooked_1 : decode cX11_gapsLooked 1 = .ok (.istore_n 1, 1) := by decide +kernel
theorem dX11_gapsLooked_2 : decode cX11_gapsLooked 2 = .ok (.iconst 1, 1) := by decide +kernel
theorem dX11_gapsLooked_3 : decode cX11_gapsLooked 3 = .ok (.istore_n 2, 1) := by decide +kernel
theorem dX11_gapsLooked_4 : decode cX11_gapsLooked 4 = .ok (.iload_n 2, 1) := by decide +kernel
theorem dX11_gapsLooked_5 : decode cX11_gapsLooked 5 = .ok (.aload_n 0, 1) := by decide +kernel
theorem dX11_gapsLooked_6 : decode cX11_gapsLooked 6 = .ok (.invokevirtual 96, 3) := by decide +kernel
theorem dX11_gapsLooked_9 : decode cX11_gapsLooked 9 = .ok (.if_icmp .gt 25, 3) := by decide +kernel
theorem dX11_gapsLooked_12 : decode cX11_gapsLooked 12 = .ok (.iload_n 1, 1) := by decide +kernel
theorem dX11_gapsLooked_13 : decode cX11_gapsLooked 13 = .ok (.aload_n 0, 1) := by decide +kernel
theorem dX11_gapsLooked_14 : decode cX11_gapsLooked 14 = .ok (.iload_n 2, 1) := by decide +kernel
theorem dX11_gapsLooked_15 : decode cX11_gapsLooked 15 = .ok (.invokevirtual 84, 3) := by decide +kernel
theorem dX11_gapsLooked_18 : decode cX11_gapsLooked 18 = .ok (.ifCond .eq 7, 3) := by decide +kernel
theorem dX11_gapsLooked_21 : decode cX11_gapsLooked 21 = .ok (.iconst 0, 1) := by decide +kernel
theorem dX11_gapsLooked_22 : decode cX11_gapsLooked 22 = .ok (.goto 4, 3) := by decide +kernel
theorem dX11_gapsLooked_25 : decode cX11_gapsLooked 25 = .ok (.iconst 1, 1) := by decide +kernel
theorem dX11_gapsLooked_26 : decode cX11_gapsLooked 26 = .ok (.iadd, 1) := by decide +kernel
theorem dX11_gapsLooked_27 : decode cX11_gapsLooked 27 = .ok (.istore_n 1, 1) := by decide +kernel
theorem dX11_gapsLooked_28 : decode cX11_gapsLooked 28 = .ok (.iinc 2 1, 3) := by decide +kernel
theorem dX11_gapsLooked_31 : decode cX11_gapsLooked 31 = .ok (.goto (-27), 3) := by decide +kernel
theorem dX11_gapsLooked_34 : decode cX11_gapsLooked 34 = .ok (.iload_n 1, 1) := by decide +kernel
theorem dX11_gapsLooked_35 : decode cX11_gapsLooked 35 = .ok (.ireturn, 1) := by decide +kernel
theorem dX11_gaps_0 : decode cX11_gaps 0 = .ok (.aload_n 0, 1) := by decide +kernel
theorem dX11_gaps_1 : decode cX11_gaps 1 = .ok (.iconst 0, 1) := by decide +kernel
theorem dX11_gaps_2 : decode cX11_gaps 2 = .ok (.putfield 74, 3) := by decide +kernel
theorem dX11_gaps_5 : decode cX11_gaps 5 = .ok (.aload_n 0, 1) := by decide +kernel
theorem dX11_gaps_6 : decode cX11_gaps 6 = .ok (.invokevirtual 137, 3) := by decide +kernel
theorem dX11_gaps_9 : decode cX11_gaps 9 = .ok (.aload_n 0, 1) := by decide +kernel
theorem dX11_gaps_10 : decode cX11_gaps 10 = .ok (.invokevirtual 202, 3) := by decide +kernel
theorem dX11_gaps_13 : decode cX11_gaps 13 = .ok (.ireturn, 1) := by decide +kernel
theorem dX11_isIn_0 : decode cX11_isIn 0 = .ok (.iconst 0, 1) := by decide +kernel
theorem dX11_isIn_1 : decode cX11_isIn 1 = .ok (.istore 5, 2) := by decide +kernel
theorem dX11_isIn_3 : decode cX11_isIn 3 = .ok (.iload_n 3, 1) := by decide +kernel
theorem dX11_isIn_4 : decode cX11_isIn 4 = .ok (.istore 6, 2) := by decide +kernel
theorem dX11_isIn_6 : decode cX11_isIn 6 = .ok (.iload 6, 2) := by decide +kernel
theorem dX11_isIn_8 : decode cX11_isIn 8 = .ok (.iload 4, 2) := by decide +kernel
theorem dX11_isIn_10 : decode cX11_isIn 10 = .ok (.if_icmp .gt 44, 3) := by decide +kernel
theorem dX11_isIn_13 : decode cX11_isIn 13 = .ok (.iload 5, 2) := by decide +kernel
theorem dX11_isIn_15 : decode cX11_isIn 15 = .ok (.ifCond .ne 26, 3) := by decide +kernel
theorem dX11_isIn_18 : decode cX11_isIn 18 = .ok (.aload_n 0, 1) := by decide +kernel
theorem dX11_isIn_19 : decode cX11_isIn 19 = .ok (.getfield 16, 3) := by decide +kernel
theorem dX11_isIn_22 : decode cX11_isIn 22 = .ok (.iload 6, 2) := by decide +kernel
theorem dX11_isIn_24 : decode cX11_isIn 24 = .ok (.iaload, 1) := by decide +kernel
theorem dX11_isIn_25 : decode cX11_isIn 25 = .ok (.ifCond .le 20, 3) := by decide +kernel
theorem dX11_isIn_28 : decode cX11_isIn 28 = .ok (.aload_n 0, 1) := by decide +kernel
theorem dX11_isIn_29 : decode cX11_isIn 29 = .ok (.getfield 16, 3) := by decide +kernel
theorem dX11_isIn_32 : decode cX11_isIn 32 = .ok (.iload 6, 2) := by decide +kernel
theorem dX11_isIn_34 : decode cX11_isIn 34 = .ok (.iaload, 1) := by decide +kernel
theorem dX11_isIn_35 : decode cX11_isIn 35 = .ok (.i2l, 1) := by decide +kernel
theorem dX11_isIn_36 : decode cX11_isIn 36 = .ok (.lload_n 1, 1) := by decide +kernel
theorem dX11_isIn_37 : decode cX11_isIn 37 = .ok (.lcmp, 1) := by decide +kernel
theorem dX11_isIn_38 : decode cX11_isIn 38 = .ok (.ifCond .ne 7, 3) := by decide +kernel
theorem dX11_isIn_41 : decode cX11_isIn 41 = .ok (.iconst 1, 1) := by decide +kernel
theorem dX11_isIn_42 : decode cX11_isIn 42 = .ok (.goto 4, 3) := by decide +kernel
theorem dX11_isIn_45 : decode cX11_isIn 45 = .ok (.iconst 0, 1) := by decide +kernel
theorem dX11_isIn_46 : decode cX11_isIn 46 = .ok (.istore 5, 2) := by decide +kernel
theorem dX11_isIn_48 : decode cX11_isIn 48 = .ok (.iinc 6 1, 3) := by decide +kernel
theorem dX11_isIn_51 : decode cX11_isIn 51 = .ok (.goto (-45), 3) := by decide +kernel
theorem dX11_isIn_54 : decode cX11_isIn 54 = .ok (.iload 5, 2) := by decide +kernel
theorem dX11_isIn_56 : decode cX11_isIn 56 = .ok (.ireturn, 1) := by decide +kernel
theorem dX11_areMet_0 : decode cX11_areMet 0 = .ok (.iconst 1, 1) := by decide +kernel
theorem dX11_areMet_1 : decode cX11_areMet 1 = .ok (.istore 4, 2) := by decide +kernel
theorem dX11_areMet_3 : decode cX11_areMet 3 = .ok (.iconst 0, 1) := by decide +kernel
theorem dX11_areMet_4 : decode cX11_areMet 4 = .ok (.istore 5, 2) := by decide +kernel
theorem dX11_areMet_6 : decode cX11_areMet 6 = .ok (.iload 5, 2) := by decide +kernel
theorem dX11_areMet_8 : decode cX11_areMet 8 = .ok (.aload_n 0, 1) := by decide +kernel
theorem dX11_areMet_9 : decode cX11_areMet 9 = .ok (.getfield 64, 3) := by decide +kernel
theorem dX11_areMet_12 : decode cX11_areMet 12 = .ok (.iload_n 1, 1) := by decide +kernel
theorem dX11_areMet_13 : decode cX11_areMet 13 = .ok (.iaload, 1) := by decide +kernel
theorem dX11_areMet_14 : decode cX11_areMet 14 = .ok (.if_icmp .ge 42, 3) := by decide +kernel
theorem dX11_areMet_17 : decode cX11_areMet 17 = .ok (.iload 4, 2) := by decide +kernel
theorem dX11_areMet_19 : decode cX11_areMet 19 = .ok (.ifCond .eq 28, 3) := by decide +kernel
theorem dX11_areMet_22 : decode cX11_areMet 22 = .ok (.aload_n 0, 1) := by decide +kernel
theorem dX11_areMet_23 : decode cX11_areMet 23 = .ok (.aload_n 0, 1) := by decide +kernel
theorem dX11_areMet_24 : decode cX11_areMet 24 = .ok (.getfield 67, 3) := by decide +kernel
theorem dX11_areMet_27 : decode cX11_areMet 27 = .ok (.bipush 100, 2) := by decide +kernel
theorem dX11_areMet_29 : decode cX11_areMet 29 = .ok (.iload_n 1, 1) := by decide +kernel
theorem dX11_areMet_30 : decode cX11_areMet 30 = .ok (.imul, 1) := by decide +kernel
theorem dX11_areMet_31 : decode cX11_areMet 31 = .ok (.iload 5, 2) := by decide +kernel
theorem dX11_areMet_33 : decode cX11_areMet 33 = .ok (.iadd, 1) := by decide +kernel
theorem dX11_areMet_34 : decode cX11_areMet 34 = .ok (.laload, 1) := by decide +kernel
theorem dX11_areMet_35 : decode cX11_areMet 35 = .ok (.iload_n 2, 1) := by decide +kernel
theorem dX11_areMet_36 : decode cX11_areMet 36 = .ok (.iload_n 3, 1) := by decide +kernel
theorem dX11_areMet_37 : decode cX11_areMet 37 = .ok (.invokevirtual 205, 3) := by decide +kernel
theorem dX11_areMet_40 : decode cX11_areMet 40 = .ok (.ifCond .eq 7, 3) := by decide +kernel
theorem dX11_areMet_43 : decode cX11_areMet 43 = .ok (.iconst 1, 1) := by decide +kernel
theorem dX11_areMet_44 : decode cX11_areMet 44 = .ok (.goto 4, 3) := by decide +kernel
theorem dX11_areMet_47 : decode cX11_areMet 47 = .ok (.iconst 0, 1) := by decide +kernel
theorem dX11_areMet_48 : decode cX11_areMet 48 = .ok (.istore 4, 2) := by decide +kernel
theorem dX11_areMet_50 : decode cX11_areMet 50 = .ok (.iinc 5 1, 3) := by decide +kernel
theorem dX11_areMet_53 : decode cX11_areMet 53 = .ok (.goto (-47), 3) := by decide +kernel
theorem dX11_areMet_56 : decode cX11_areMet 56 = .ok (.iload 4, 2) := by decide +kernel
theorem dX11_areMet_58 : decode cX11_areMet 58 = .ok (.ireturn, 1) := by decide +kernel
theorem dX11_walk_0 : decode cX11_walk 0 = .ok (.aload_n 0, 1) := by decide +kernel
theorem dX11_walk_1 : decode cX11_walk 1 = .ok (.iconst 0, 1) := by decide +kernel
theorem dX11_walk_2 : decode cX11_walk 2 = .ok (.putfield 74, 3) := by decide +kernel
theorem dX11_walk_5 : decode cX11_walk 5 = .ok (.iload_n 2, 1) := by decide +kernel
theorem dX11_walk_6 : decode cX11_walk 6 = .ok (.invokestatic 185, 3) := by decide +kernel
theorem dX11_walk_9 : decode cX11_walk 9 = .ok (.ifCond .eq 12, 3) := by decide +kernel
theorem dX11_walk_12 : decode cX11_walk 12 = .ok (.aload_n 0, 1) := by decide +kernel
theorem dX11_walk_13 : decode cX11_walk 13 = .ok (.iload_n 1, 1) := by decide +kernel
theorem dX11_walk_14 : decode cX11_walk 14 = .ok (.iconst 1, 1) := by decide +kernel
theorem dX11_walk_15 : decode cX11_walk 15 = .ok (.invokevirtual 154, 3) := by decide +kernel
theorem dX11_walk_18 : decode cX11_walk 18 = .ok (.goto 4, 3) := by decide +kernel
theorem dX11_walk_21 : decode cX11_walk 21 = .ok (.iconst (-1), 1) := by decide +kernel
theorem dX11_walk_22 : decode cX11_walk 22 = .ok (.istore_n 3, 1) := by decide +kernel
theorem dX11_walk_23 : decode cX11_walk 23 = .ok (.iload_n 3, 1) := by decide +kernel
theorem dX11_walk_24 : decode cX11_walk 24 = .ok (.ifCond .ge 5, 3) := by decide +kernel
theorem dX11_walk_27 : decode cX11_walk 27 = .ok (.iload_n 3, 1) := by decide +kernel
theorem dX11_walk_28 : decode cX11_walk 28 = .ok (.ireturn, 1) := by decide +kernel
theorem dX11_walk_29 : decode cX11_walk 29 = .ok (.bipush (-4), 2) := by decide +kernel
theorem dX11_walk_31 : decode cX11_walk 31 = .ok (.istore 4, 2) := by decide +kernel
theorem dX11_walk_33 : decode cX11_walk 33 = .ok (.iconst 0, 1) := by decide +kernel
theorem dX11_walk_34 : decode cX11_walk 34 = .ok (.istore 5, 2) := by decide +kernel
theorem dX11_walk_36 : decode cX11_walk 36 = .ok (.iload 5, 2) := by decide +kernel
theorem dX11_walk_38 : decode cX11_walk 38 = .ok (.iload_n 2, 1) := by decide +kernel
theorem dX11_walk_39 : decode cX11_walk 39 = .ok (.if_icmp .gt 92, 3) := by decide +kernel
theorem dX11_walk_42 : decode cX11_walk 42 = .ok (.iload_n 2, 1) := by decide +kernel
theorem dX11_walk_43 : decode cX11_walk 43 = .ok (.istore 6, 2) := by decide +kernel
theorem dX11_walk_45 : decode cX11_walk 45 = .ok (.iload 6, 2) := by decide +kernel
theorem dX11_walk_47 : decode cX11_walk 47 = .ok (.bipush 12, 2) := by decide +kernel
theorem dX11_walk_49 : decode cX11_walk 49 = .ok (.if_icmp .ge 76, 3) := by decide +kernel
theorem dX11_walk_52 : decode cX11_walk 52 = .ok (.iload_n 2, 1) := by decide +kernel
theorem dX11_walk_53 : decode cX11_walk 53 = .ok (.iload 5, 2) := by decide +kernel
theorem dX11_walk_55 : decode cX11_walk 55 = .ok (.isub, 1) := by decide +kernel
theorem dX11_walk_56 : decode cX11_walk 56 = .ok (.iload 6, 2) := by decide +kernel
theorem dX11_walk_58 : decode cX11_walk 58 = .ok (.iload_n 2, 1) := by decide +kernel
theorem dX11_walk_59 : decode cX11_walk 59 = .ok (.isub, 1) := by decide +kernel
theorem dX11_walk_60 : decode cX11_walk 60 = .ok (.if_icmp .ge 10, 3) := by decide +kernel
theorem dX11_walk_63 : decode cX11_walk 63 = .ok (.iload_n 2, 1) := by decide +kernel
theorem dX11_walk_64 : decode cX11_walk 64 = .ok (.iload 5, 2) := by decide +kernel
theorem dX11_walk_66 : decode cX11_walk 66 = .ok (.isub, 1) := by decide +kernel
theorem dX11_walk_67 : decode cX11_walk 67 = .ok (.goto 7, 3) := by decide +kernel
theorem dX11_walk_70 : decode cX11_walk 70 = .ok (.iload 6, 2) := by decide +kernel
theorem dX11_walk_72 : decode cX11_walk 72 = .ok (.iload_n 2, 1) := by decide +kernel
theorem dX11_walk_73 : decode cX11_walk 73 = .ok (.isub, 1) := by decide +kernel
theorem dX11_walk_74 : decode cX11_walk 74 = .ok (.istore 7, 2) := by decide +kernel
theorem dX11_walk_76 : decode cX11_walk 76 = .ok (.iload 6, 2) := by decide +kernel
theorem dX11_walk_78 : decode cX11_walk 78 = .ok (.iload 5, 2) := by decide +kernel
theorem dX11_walk_80 : decode cX11_walk 80 = .ok (.isub, 1) := by decide +kernel
theorem dX11_walk_81 : decode cX11_walk 81 = .ok (.iload 7, 2) := by decide +kernel
theorem dX11_walk_83 : decode cX11_walk 83 = .ok (.iadd, 1) := by decide +kernel
theorem dX11_walk_84 : decode cX11_walk 84 = .ok (.istore 8, 2) := by decide +kernel
theorem dX11_walk_86 : decode cX11_walk 86 = .ok (.aload_n 0, 1) := by decide +kernel
theorem dX11_walk_87 : decode cX11_walk 87 = .ok (.iload_n 1, 1) := by decide +kernel
theorem dX11_walk_88 : decode cX11_walk 88 = .ok (.iload 5, 2) := by decide +kernel
theorem dX11_walk_90 : decode cX11_walk 90 = .ok (.iload 6, 2) := by decide +kernel
theorem dX11_walk_92 : decode cX11_walk 92 = .ok (.invokevirtual 209, 3) := by decide +kernel
theorem dX11_walk_95 : decode cX11_walk 95 = .ok (.ifCond .eq 20, 3) := by decide +kernel
theorem dX11_walk_98 : decode cX11_walk 98 = .ok (.iload 4, 2) := by decide +kernel
theorem dX11_walk_100 : decode cX11_walk 100 = .ok (.ifCond .lt 10, 3) := by decide +kernel
theorem dX11_walk_103 : decode cX11_walk 103 = .ok (.iload 8, 2) := by decide +kernel
theorem dX11_walk_105 : decode cX11_walk 105 = .ok (.iload 4, 2) := by decide +kernel
theorem dX11_walk_107 : decode cX11_walk 107 = .ok (.if_icmp .ge 8, 3) := by decide +kernel
theorem dX11_walk_110 : decode cX11_walk 110 = .ok (.iload 8, 2) := by decide +kernel
theorem dX11_walk_112 : decode cX11_walk 112 = .ok (.goto 5, 3) := by decide +kernel
theorem dX11_walk_115 : decode cX11_walk 115 = .ok (.iload 4, 2) := by decide +kernel
theorem dX11_walk_117 : decode cX11_walk 117 = .ok (.istore 4, 2) := by decide +kernel
theorem dX11_walk_119 : decode cX11_walk 119 = .ok (.iinc 6 1, 3) := by decide +kernel
theorem dX11_walk_122 : decode cX11_walk 122 = .ok (.goto (-77), 3) := by decide +kernel
theorem dX11_walk_125 : decode cX11_walk 125 = .ok (.iinc 5 1, 3) := by decide +kernel
theorem dX11_walk_128 : decode cX11_walk 128 = .ok (.goto (-92), 3) := by decide +kernel
theorem dX11_walk_131 : decode cX11_walk 131 = .ok (.iload 4, 2) := by decide +kernel
theorem dX11_walk_133 : decode cX11_walk 133 = .ok (.ireturn, 1) := by decide +kernel
theorem dX11_search_0 : decode cX11_search 0 = .ok (.aload_n 0, 1) := by decide +kernel
theorem dX11_search_1 : decode cX11_search 1 = .ok (.iconst 0, 1) := by decide +kernel
theorem dX11_search_2 : decode cX11_search 2 = .ok (.putfield 74, 3) := by decide +kernel
theorem dX11_search_5 : decode cX11_search 5 = .ok (.iload_n 2, 1) := by decide +kernel
theorem dX11_search_6 : decode cX11_search 6 = .ok (.invokestatic 185, 3) := by decide +kernel
theorem dX11_search_9 : decode cX11_search 9 = .ok (.ifCond .eq 12, 3) := by decide +kernel
theorem dX11_search_12 : decode cX11_search 12 = .ok (.aload_n 0, 1) := by decide +kernel
theorem dX11_search_13 : decode cX11_search 13 = .ok (.iload_n 1, 1) := by decide +kernel
theorem dX11_search_14 : decode cX11_search 14 = .ok (.iconst 1, 1) := by decide +kernel
theorem dX11_search_15 : decode cX11_search 15 = .ok (.invokevirtual 154, 3) := by decide +kernel
theorem dX11_search_18 : decode cX11_search 18 = .ok (.goto 4, 3) := by decide +kernel
theorem dX11_search_21 : decode cX11_search 21 = .ok (.iconst (-1), 1) := by decide +kernel
theorem dX11_search_22 : decode cX11_search 22 = .ok (.istore_n 3, 1) := by decide +kernel
theorem dX11_search_23 : decode cX11_search 23 = .ok (.iload_n 3, 1) := by decide +kernel
theorem dX11_search_24 : decode cX11_search 24 = .ok (.ifCond .ge 5, 3) := by decide +kernel
theorem dX11_search_27 : decode cX11_search 27 = .ok (.iload_n 3, 1) := by decide +kernel
theorem dX11_search_28 : decode cX11_search 28 = .ok (.ireturn, 1) := by decide +kernel
theorem dX11_search_29 : decode cX11_search 29 = .ok (.iload_n 2, 1) := by decide +kernel
theorem dX11_search_30 : decode cX11_search 30 = .ok (.istore 4, 2) := by decide +kernel
theorem dX11_search_32 : decode cX11_search 32 = .ok (.iload_n 2, 1) := by decide +kernel
theorem dX11_search_33 : decode cX11_search 33 = .ok (.istore 5, 2) := by decide +kernel
theorem dX11_search_35 : decode cX11_search 35 = .ok (.iload_n 2, 1) := by decide +kernel
theorem dX11_search_36 : decode cX11_search 36 = .ok (.istore 6, 2) := by decide +kernel
theorem dX11_search_38 : decode cX11_search 38 = .ok (.iload_n 2, 1) := by decide +kernel
theorem dX11_search_39 : decode cX11_search 39 = .ok (.bipush 6, 2) := by decide +kernel
theorem dX11_search_41 : decode cX11_search 41 = .ok (.if_icmp .ge 7, 3) := by decide +kernel
theorem dX11_search_44 : decode cX11_search 44 = .ok (.iconst (-1), 1) := by decide +kernel
theorem dX11_search_45 : decode cX11_search 45 = .ok (.goto 4, 3) := by decide +kernel
theorem dX11_search_48 : decode cX11_search 48 = .ok (.iconst 1, 1) := by decide +kernel
theorem dX11_search_49 : decode cX11_search 49 = .ok (.istore 7, 2) := by decide +kernel
theorem dX11_search_51 : decode cX11_search 51 = .ok (.iload_n 2, 1) := by decide +kernel
theorem dX11_search_52 : decode cX11_search 52 = .ok (.bipush 6, 2) := by decide +kernel
theorem dX11_search_54 : decode cX11_search 54 = .ok (.if_icmp .ge 7, 3) := by decide +kernel
theorem dX11_search_57 : decode cX11_search 57 = .ok (.iconst 0, 1) := by decide +kernel
theorem dX11_search_58 : decode cX11_search 58 = .ok (.goto 5, 3) := by decide +kernel
theorem dX11_search_61 : decode cX11_search 61 = .ok (.bipush 11, 2) := by decide +kernel
theorem dX11_search_63 : decode cX11_search 63 = .ok (.istore 8, 2) := by decide +kernel
theorem dX11_search_65 : decode cX11_search 65 = .ok (.iconst 0, 1) := by decide +kernel
theorem dX11_search_66 : decode cX11_search 66 = .ok (.istore 9, 2) := by decide +kernel
theorem dX11_search_68 : decode cX11_search 68 = .ok (.iload 9, 2) := by decide +kernel
theorem dX11_search_70 : decode cX11_search 70 = .ok (.bipush 30, 2) := by decide +kernel
theorem dX11_search_72 : decode cX11_search 72 = .ok (.if_icmp .ge 103, 3) := by decide +kernel
theorem dX11_search_75 : decode cX11_search 75 = .ok (.aload_n 0, 1) := by decide +kernel
theorem dX11_search_76 : decode cX11_search 76 = .ok (.iload_n 1, 1) := by decide +kernel
theorem dX11_search_77 : decode cX11_search 77 = .ok (.iload 4, 2) := by decide +kernel
theorem dX11_search_79 : decode cX11_search 79 = .ok (.iload 5, 2) := by decide +kernel
theorem dX11_search_81 : decode cX11_search 81 = .ok (.invokevirtual 209, 3) := by decide +kernel
theorem dX11_search_84 : decode cX11_search 84 = .ok (.ifCond .ne 91, 3) := by decide +kernel
theorem dX11_search_87 : decode cX11_search 87 = .ok (.iload 6, 2) := by decide +kernel
theorem dX11_search_89 : decode cX11_search 89 = .ok (.iload 8, 2) := by decide +kernel
theorem dX11_search_91 : decode cX11_search 91 = .ok (.if_icmp .ne 9, 3) := by decide +kernel
theorem dX11_search_94 : decode cX11_search 94 = .ok (.iload 7, 2) := by decide +kernel
theorem dX11_search_96 : decode cX11_search 96 = .ok (.ineg, 1) := by decide +kernel
theorem dX11_search_97 : decode cX11_search 97 = .ok (.goto 5, 3) := by decide +kernel
theorem dX11_search_100 : decode cX11_search 100 = .ok (.iload 7, 2) := by decide +kernel
theorem dX11_search_102 : decode cX11_search 102 = .ok (.istore 7, 2) := by decide +kernel
theorem dX11_search_104 : decode cX11_search 104 = .ok (.iload 6, 2) := by decide +kernel
theorem dX11_search_106 : decode cX11_search 106 = .ok (.iload 8, 2) := by decide +kernel
theorem dX11_search_108 : decode cX11_search 108 = .ok (.if_icmp .ne 7, 3) := by decide +kernel
theorem dX11_search_111 : decode cX11_search 111 = .ok (.iconst (-1), 1) := by decide +kernel
theorem dX11_search_112 : decode cX11_search 112 = .ok (.goto 5, 3) := by decide +kernel
theorem dX11_search_115 : decode cX11_search 115 = .ok (.iload 8, 2) := by decide +kernel
theorem dX11_search_117 : decode cX11_search 117 = .ok (.istore 8, 2) := by decide +kernel
theorem dX11_search_119 : decode cX11_search 119 = .ok (.iload 6, 2) := by decide +kernel
theorem dX11_search_121 : decode cX11_search 121 = .ok (.iload 7, 2) := by decide +kernel
theorem dX11_search_123 : decode cX11_search 123 = .ok (.iadd, 1) := by decide +kernel
theorem dX11_search_124 : decode cX11_search 124 = .ok (.istore 6, 2) := by decide +kernel
theorem dX11_search_126 : decode cX11_search 126 = .ok (.iload 6, 2) := by decide +kernel
theorem dX11_search_128 : decode cX11_search 128 = .ok (.invokestatic 185, 3) := by decide +kernel
theorem dX11_search_131 : decode cX11_search 131 = .ok (.ifCond .ne 6, 3) := by decide +kernel
theorem dX11_search_134 : decode cX11_search 134 = .ok (.bipush (-4), 2) := by decide +kernel
theorem dX11_search_136 : decode cX11_search 136 = .ok (.ireturn, 1) := by decide +kernel
theorem dX11_search_137 : decode cX11_search 137 = .ok (.iload 6, 2) := by decide +kernel
theorem dX11_search_139 : decode cX11_search 139 = .ok (.iload 4, 2) := by decide +kernel
theorem dX11_search_141 : decode cX11_search 141 = .ok (.if_icmp .ge 8, 3) := by decide +kernel
theorem dX11_search_144 : decode cX11_search 144 = .ok (.iload 6, 2) := by decide +kernel
theorem dX11_search_146 : decode cX11_search 146 = .ok (.goto 5, 3) := by decide +kernel
theorem dX11_search_149 : decode cX11_search 149 = .ok (.iload 4, 2) := by decide +kernel
theorem dX11_search_151 : decode cX11_search 151 = .ok (.istore 4, 2) := by decide +kernel
theorem dX11_search_153 : decode cX11_search 153 = .ok (.iload 6, 2) := by decide +kernel
theorem dX11_search_155 : decode cX11_search 155 = .ok (.iload 5, 2) := by decide +kernel
theorem dX11_search_157 : decode cX11_search 157 = .ok (.if_icmp .le 8, 3) := by decide +kernel
theorem dX11_search_160 : decode cX11_search 160 = .ok (.iload 6, 2) := by decide +kernel
theorem dX11_search_162 : decode cX11_search 162 = .ok (.goto 5, 3) := by decide +kernel
theorem dX11_search_165 : decode cX11_search 165 = .ok (.iload 5, 2) := by decide +kernel
theorem dX11_search_167 : decode cX11_search 167 = .ok (.istore 5, 2) := by decide +kernel
theorem dX11_search_169 : decode cX11_search 169 = .ok (.iinc 9 1, 3) := by decide +kernel
theorem dX11_search_172 : decode cX11_search 172 = .ok (.goto (-104), 3) := by decide +kernel
theorem dX11_search_175 : decode cX11_search 175 = .ok (.iload 9, 2) := by decide +kernel
theorem dX11_search_177 : decode cX11_search 177 = .ok (.ireturn, 1) := by decide +kernel
theorem dX11_riseLooked_0 : decode cX11_riseLooked 0 = .ok (.iconst 0, 1) := by decide +kernel
theorem dX11_riseLooked_1 : decode cX11_riseLooked 1 = .ok (.istore_n 1, 1) := by decide +kernel
theorem dX11_riseLooked_2 : decode cX11_riseLooked 2 = .ok (.iconst 0, 1) := by decide +kernel
theorem dX11_riseLooked_3 : decode cX11_riseLooked 3 = .ok (.istore_n 2, 1) := by decide +kernel
theorem dX11_riseLooked_4 : decode cX11_riseLooked 4 = .ok (.iload_n 2, 1) := by decide +kernel
theorem dX11_riseLooked_5 : decode cX11_riseLooked 5 = .ok (.bipush 12, 2) := by decide +kernel
theorem dX11_riseLooked_7 : decode cX11_riseLooked 7 = .ok (.if_icmp .ge 148, 3) := by decide +kernel
theorem dX11_riseLooked_10 : decode cX11_riseLooked 10 = .ok (.aload_n 0, 1) := by decide +kernel
theorem dX11_riseLooked_11 : decode cX11_riseLooked 11 = .ok (.getfield 43, 3) := by decide +kernel
theorem dX11_riseLooked_14 : decode cX11_riseLooked 14 = .ok (.iload_n 2, 1) := by decide +kernel
theorem dX11_riseLooked_15 : decode cX11_riseLooked 15 = .ok (.aload_n 0, 1) := by decide +kernel
theorem dX11_riseLooked_16 : decode cX11_riseLooked 16 = .ok (.getfield 19, 3) := by decide +kernel
theorem dX11_riseLooked_19 : decode cX11_riseLooked 19 = .ok (.iload_n 2, 1) := by decide +kernel
theorem dX11_riseLooked_20 : decode cX11_riseLooked 20 = .ok (.iaload, 1) := by decide +kernel
theorem dX11_riseLooked_21 : decode cX11_riseLooked 21 = .ok (.ifCond .le 7, 3) := by decide +kernel
theorem dX11_riseLooked_24 : decode cX11_riseLooked 24 = .ok (.iconst 1, 1) := by decide +kernel
theorem dX11_riseLooked_25 : decode cX11_riseLooked 25 = .ok (.goto 4, 3) := by decide +kernel
theorem dX11_riseLooked_28 : decode cX11_riseLooked 28 = .ok (.iconst 0, 1) := by decide +kernel
theorem dX11_riseLooked_29 : decode cX11_riseLooked 29 = .ok (.iastore, 1) := by decide +kernel
theorem dX11_riseLooked_30 : decode cX11_riseLooked 30 = .ok (.iconst 0, 1) := by decide +kernel
theorem dX11_riseLooked_31 : decode cX11_riseLooked 31 = .ok (.istore_n 3, 1) := by decide +kernel
theorem dX11_riseLooked_32 : decode cX11_riseLooked 32 = .ok (.iload_n 3, 1) := by decide +kernel
theorem dX11_riseLooked_33 : decode cX11_riseLooked 33 = .ok (.iload_n 2, 1) := by decide +kernel
theorem dX11_riseLooked_34 : decode cX11_riseLooked 34 = .ok (.if_icmp .ge 94, 3) := by decide +kernel
theorem dX11_riseLooked_37 : decode cX11_riseLooked 37 = .ok (.aload_n 0, 1) := by decide +kernel
theorem dX11_riseLooked_38 : decode cX11_riseLooked 38 = .ok (.getfield 19, 3) := by decide +kernel
theorem dX11_riseLooked_41 : decode cX11_riseLooked 41 = .ok (.iload_n 2, 1) := by decide +kernel
theorem dX11_riseLooked_42 : decode cX11_riseLooked 42 = .ok (.iaload, 1) := by decide +kernel
theorem dX11_riseLooked_43 : decode cX11_riseLooked 43 = .ok (.ifCond .le 85, 3) := by decide +kernel
theorem dX11_riseLooked_46 : decode cX11_riseLooked 46 = .ok (.aload_n 0, 1) := by decide +kernel
theorem dX11_riseLooked_47 : decode cX11_riseLooked 47 = .ok (.getfield 19, 3) := by decide +kernel
theorem dX11_riseLooked_50 : decode cX11_riseLooked 50 = .ok (.iload_n 3, 1) := by decide +kernel
theorem dX11_riseLooked_51 : decode cX11_riseLooked 51 = .ok (.iaload, 1) := by decide +kernel
theorem dX11_riseLooked_52 : decode cX11_riseLooked 52 = .ok (.ifCond .le 39, 3) := by decide +kernel
theorem dX11_riseLooked_55 : decode cX11_riseLooked 55 = .ok (.aload_n 0, 1) := by decide +kernel
theorem dX11_riseLooked_56 : decode cX11_riseLooked 56 = .ok (.getfield 19, 3) := by decide +kernel
theorem dX11_riseLooked_59 : decode cX11_riseLooked 59 = .ok (.iload_n 3, 1) := by decide +kernel
theorem dX11_riseLooked_60 : decode cX11_riseLooked 60 = .ok (.iaload, 1) := by decide +kernel
theorem dX11_riseLooked_61 : decode cX11_riseLooked 61 = .ok (.aload_n 0, 1) := by decide +kernel
theorem dX11_riseLooked_62 : decode cX11_riseLooked 62 = .ok (.getfield 19, 3) := by decide +kernel
theorem dX11_riseLooked_65 : decode cX11_riseLooked 65 = .ok (.iload_n 2, 1) := by decide +kernel
theorem dX11_riseLooked_66 : decode cX11_riseLooked 66 = .ok (.iaload, 1) := by decide +kernel
theorem dX11_riseLooked_67 : decode cX11_riseLooked 67 = .ok (.if_icmp .ge 24, 3) := by decide +kernel
theorem dX11_riseLooked_70 : decode cX11_riseLooked 70 = .ok (.aload_n 0, 1) := by decide +kernel
theorem dX11_riseLooked_71 : decode cX11_riseLooked 71 = .ok (.getfield 43, 3) := by decide +kernel
theorem dX11_riseLooked_74 : decode cX11_riseLooked 74 = .ok (.iload_n 3, 1) := by decide +kernel
theorem dX11_riseLooked_75 : decode cX11_riseLooked 75 = .ok (.iaload, 1) := by decide +kernel
theorem dX11_riseLooked_76 : decode cX11_riseLooked 76 = .ok (.iconst 1, 1) := by decide +kernel
theorem dX11_riseLooked_77 : decode cX11_riseLooked 77 = .ok (.iadd, 1) := by decide +kernel
theorem dX11_riseLooked_78 : decode cX11_riseLooked 78 = .ok (.aload_n 0, 1) := by decide +kernel
theorem dX11_riseLooked_79 : decode cX11_riseLooked 79 = .ok (.getfield 43, 3) := by decide +kernel
theorem dX11_riseLooked_82 : decode cX11_riseLooked 82 = .ok (.iload_n 2, 1) := by decide +kernel
theorem dX11_riseLooked_83 : decode cX11_riseLooked 83 = .ok (.iaload, 1) := by decide +kernel
theorem dX11_riseLooked_84 : decode cX11_riseLooked 84 = .ok (.if_icmp .le 7, 3) := by decide +kernel
theorem dX11_riseLooked_87 : decode cX11_riseLooked 87 = .ok (.iconst 1, 1) := by decide +kernel
theorem dX11_riseLooked_88 : decode cX11_riseLooked 88 = .ok (.goto 4, 3) := by decide +kernel
theorem dX11_riseLooked_91 : decode cX11_riseLooked 91 = .ok (.iconst 0, 1) := by decide +kernel
theorem dX11_riseLooked_92 : decode cX11_riseLooked 92 = .ok (.istore 4, 2) := by decide +kernel
