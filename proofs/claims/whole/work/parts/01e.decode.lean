theorem dX11_riseLooked_94 : decode cX11_riseLooked 94 = .ok (.aload_n 0, 1) := by decide +kernel
theorem dX11_riseLooked_95 : decode cX11_riseLooked 95 = .ok (.getfield 43, 3) := by decide +kernel
theorem dX11_riseLooked_98 : decode cX11_riseLooked 98 = .ok (.iload_n 2, 1) := by decide +kernel
theorem dX11_riseLooked_99 : decode cX11_riseLooked 99 = .ok (.iload 4, 2) := by decide +kernel
theorem dX11_riseLooked_101 : decode cX11_riseLooked 101 = .ok (.ifCond .eq 14, 3) := by decide +kernel
theorem dX11_riseLooked_104 : decode cX11_riseLooked 104 = .ok (.aload_n 0, 1) := by decide +kernel
theorem dX11_riseLooked_105 : decode cX11_riseLooked 105 = .ok (.getfield 43, 3) := by decide +kernel
theorem dX11_riseLooked_108 : decode cX11_riseLooked 108 = .ok (.iload_n 3, 1) := by decide +kernel
theorem dX11_riseLooked_109 : decode cX11_riseLooked 109 = .ok (.iaload, 1) := by decide +kernel
theorem dX11_riseLooked_110 : decode cX11_riseLooked 110 = .ok (.iconst 1, 1) := by decide +kernel
theorem dX11_riseLooked_111 : decode cX11_riseLooked 111 = .ok (.iadd, 1) := by decide +kernel
theorem dX11_riseLooked_112 : decode cX11_riseLooked 112 = .ok (.goto 9, 3) := by decide +kernel
theorem dX11_riseLooked_115 : decode cX11_riseLooked 115 = .ok (.aload_n 0, 1) := by decide +kernel
theorem dX11_riseLooked_116 : decode cX11_riseLooked 116 = .ok (.getfield 43, 3) := by decide +kernel
theorem dX11_riseLooked_119 : decode cX11_riseLooked 119 = .ok (.iload_n 2, 1) := by decide +kernel
theorem dX11_riseLooked_120 : decode cX11_riseLooked 120 = .ok (.iaload, 1) := by decide +kernel
theorem dX11_riseLooked_121 : decode cX11_riseLooked 121 = .ok (.iastore, 1) := by decide +kernel
theorem dX11_riseLooked_122 : decode cX11_riseLooked 122 = .ok (.iinc 3 1, 3) := by decide +kernel
theorem dX11_riseLooked_125 : decode cX11_riseLooked 125 = .ok (.goto (-93), 3) := by decide +kernel
theorem dX11_riseLooked_128 : decode cX11_riseLooked 128 = .ok (.aload_n 0, 1) := by decide +kernel
theorem dX11_riseLooked_129 : decode cX11_riseLooked 129 = .ok (.getfield 43, 3) := by decide +kernel
theorem dX11_riseLooked_132 : decode cX11_riseLooked 132 = .ok (.iload_n 2, 1) := by decide +kernel
theorem dX11_riseLooked_133 : decode cX11_riseLooked 133 = .ok (.iaload, 1) := by decide +kernel
theorem dX11_riseLooked_134 : decode cX11_riseLooked 134 = .ok (.iload_n 1, 1) := by decide +kernel
theorem dX11_riseLooked_135 : decode cX11_riseLooked 135 = .ok (.if_icmp .le 12, 3) := by decide +kernel
theorem dX11_riseLooked_138 : decode cX11_riseLooked 138 = .ok (.aload_n 0, 1) := by decide +kernel
theorem dX11_riseLooked_139 : decode cX11_riseLooked 139 = .ok (.getfield 43, 3) := by decide +kernel
theorem dX11_riseLooked_142 : decode cX11_riseLooked 142 = .ok (.iload_n 2, 1) := by decide +kernel
theorem dX11_riseLooked_143 : decode cX11_riseLooked 143 = .ok (.iaload, 1) := by decide +kernel
theorem dX11_riseLooked_144 : decode cX11_riseLooked 144 = .ok (.goto 4, 3) := by decide +kernel
theorem dX11_riseLooked_147 : decode cX11_riseLooked 147 = .ok (.iload_n 1, 1) := by decide +kernel
theorem dX11_riseLooked_148 : decode cX11_riseLooked 148 = .ok (.istore_n 1, 1) := by decide +kernel
theorem dX11_riseLooked_149 : decode cX11_riseLooked 149 = .ok (.iinc 2 1, 3) := by decide +kernel
theorem dX11_riseLooked_152 : decode cX11_riseLooked 152 = .ok (.goto (-148), 3) := by decide +kernel
theorem dX11_riseLooked_155 : decode cX11_riseLooked 155 = .ok (.iload_n 1, 1) := by decide +kernel
theorem dX11_riseLooked_156 : decode cX11_riseLooked 156 = .ok (.ireturn, 1) := by decide +kernel
theorem dX11_rise_0 : decode cX11_rise 0 = .ok (.aload_n 0, 1) := by decide +kernel
theorem dX11_rise_1 : decode cX11_rise 1 = .ok (.iconst 0, 1) := by decide +kernel
theorem dX11_rise_2 : decode cX11_rise 2 = .ok (.putfield 74, 3) := by decide +kernel
theorem dX11_rise_5 : decode cX11_rise 5 = .ok (.aload_n 0, 1) := by decide +kernel
theorem dX11_rise_6 : decode cX11_rise 6 = .ok (.invokevirtual 137, 3) := by decide +kernel
theorem dX11_rise_9 : decode cX11_rise 9 = .ok (.aload_n 0, 1) := by decide +kernel
theorem dX11_rise_10 : decode cX11_rise 10 = .ok (.invokevirtual 213, 3) := by decide +kernel
theorem dX11_rise_13 : decode cX11_rise 13 = .ok (.ireturn, 1) := by decide +kernel
theorem dX11_falls_0 : decode cX11_falls 0 = .ok (.aload_n 0, 1) := by decide +kernel
theorem dX11_falls_1 : decode cX11_falls 1 = .ok (.iconst 0, 1) := by decide +kernel
theorem dX11_falls_2 : decode cX11_falls 2 = .ok (.putfield 74, 3) := by decide +kernel
theorem dX11_falls_5 : decode cX11_falls 5 = .ok (.iconst 0, 1) := by decide +kernel
theorem dX11_falls_6 : decode cX11_falls 6 = .ok (.istore_n 1, 1) := by decide +kernel
theorem dX11_falls_7 : decode cX11_falls 7 = .ok (.iconst 0, 1) := by decide +kernel
theorem dX11_falls_8 : decode cX11_falls 8 = .ok (.istore_n 2, 1) := by decide +kernel
theorem dX11_falls_9 : decode cX11_falls 9 = .ok (.iconst 0, 1) := by decide +kernel
theorem dX11_falls_10 : decode cX11_falls 10 = .ok (.istore_n 3, 1) := by decide +kernel
theorem dX11_falls_11 : decode cX11_falls 11 = .ok (.iload_n 3, 1) := by decide +kernel
theorem dX11_falls_12 : decode cX11_falls 12 = .ok (.bipush 12, 2) := by decide +kernel
theorem dX11_falls_14 : decode cX11_falls 14 = .ok (.if_icmp .ge 56, 3) := by decide +kernel
theorem dX11_falls_17 : decode cX11_falls 17 = .ok (.iload_n 1, 1) := by decide +kernel
theorem dX11_falls_18 : decode cX11_falls 18 = .ok (.aload_n 0, 1) := by decide +kernel
theorem dX11_falls_19 : decode cX11_falls 19 = .ok (.getfield 16, 3) := by decide +kernel
theorem dX11_falls_22 : decode cX11_falls 22 = .ok (.iload_n 3, 1) := by decide +kernel
theorem dX11_falls_23 : decode cX11_falls 23 = .ok (.iaload, 1) := by decide +kernel
theorem dX11_falls_24 : decode cX11_falls 24 = .ok (.ifCond .le 17, 3) := by decide +kernel
theorem dX11_falls_27 : decode cX11_falls 27 = .ok (.aload_n 0, 1) := by decide +kernel
theorem dX11_falls_28 : decode cX11_falls 28 = .ok (.getfield 16, 3) := by decide +kernel
theorem dX11_falls_31 : decode cX11_falls 31 = .ok (.iload_n 3, 1) := by decide +kernel
theorem dX11_falls_32 : decode cX11_falls 32 = .ok (.iaload, 1) := by decide +kernel
theorem dX11_falls_33 : decode cX11_falls 33 = .ok (.iload_n 2, 1) := by decide +kernel
theorem dX11_falls_34 : decode cX11_falls 34 = .ok (.if_icmp .gt 7, 3) := by decide +kernel
theorem dX11_falls_37 : decode cX11_falls 37 = .ok (.iconst 1, 1) := by decide +kernel
theorem dX11_falls_38 : decode cX11_falls 38 = .ok (.goto 4, 3) := by decide +kernel
theorem dX11_falls_41 : decode cX11_falls 41 = .ok (.iconst 0, 1) := by decide +kernel
theorem dX11_falls_42 : decode cX11_falls 42 = .ok (.iadd, 1) := by decide +kernel
theorem dX11_falls_43 : decode cX11_falls 43 = .ok (.istore_n 1, 1) := by decide +kernel
theorem dX11_falls_44 : decode cX11_falls 44 = .ok (.aload_n 0, 1) := by decide +kernel
theorem dX11_falls_45 : decode cX11_falls 45 = .ok (.getfield 16, 3) := by decide +kernel
theorem dX11_falls_48 : decode cX11_falls 48 = .ok (.iload_n 3, 1) := by decide +kernel
theorem dX11_falls_49 : decode cX11_falls 49 = .ok (.iaload, 1) := by decide +kernel
theorem dX11_falls_50 : decode cX11_falls 50 = .ok (.ifCond .le 12, 3) := by decide +kernel
theorem dX11_falls_53 : decode cX11_falls 53 = .ok (.aload_n 0, 1) := by decide +kernel
theorem dX11_falls_54 : decode cX11_falls 54 = .ok (.getfield 16, 3) := by decide +kernel
theorem dX11_falls_57 : decode cX11_falls 57 = .ok (.iload_n 3, 1) := by decide +kernel
theorem dX11_falls_58 : decode cX11_falls 58 = .ok (.iaload, 1) := by decide +kernel
theorem dX11_falls_59 : decode cX11_falls 59 = .ok (.goto 4, 3) := by decide +kernel
theorem dX11_falls_62 : decode cX11_falls 62 = .ok (.iload_n 2, 1) := by decide +kernel
theorem dX11_falls_63 : decode cX11_falls 63 = .ok (.istore_n 2, 1) := by decide +kernel
theorem dX11_falls_64 : decode cX11_falls 64 = .ok (.iinc 3 1, 3) := by decide +kernel
theorem dX11_falls_67 : decode cX11_falls 67 = .ok (.goto (-56), 3) := by decide +kernel
theorem dX11_falls_70 : decode cX11_falls 70 = .ok (.iload_n 1, 1) := by decide +kernel
theorem dX11_falls_71 : decode cX11_falls 71 = .ok (.ireturn, 1) := by decide +kernel
theorem dX11_byLaw_0 : decode cX11_byLaw 0 = .ok (.aload_n 0, 1) := by decide +kernel
theorem dX11_byLaw_1 : decode cX11_byLaw 1 = .ok (.iconst 0, 1) := by decide +kernel
theorem dX11_byLaw_2 : decode cX11_byLaw 2 = .ok (.putfield 74, 3) := by decide +kernel
theorem dX11_byLaw_5 : decode cX11_byLaw 5 = .ok (.iload_n 1, 1) := by decide +kernel
theorem dX11_byLaw_6 : decode cX11_byLaw 6 = .ok (.invokestatic 185, 3) := by decide +kernel
theorem dX11_byLaw_9 : decode cX11_byLaw 9 = .ok (.ifCond .eq 27, 3) := by decide +kernel
theorem dX11_byLaw_12 : decode cX11_byLaw 12 = .ok (.iload_n 2, 1) := by decide +kernel
theorem dX11_byLaw_13 : decode cX11_byLaw 13 = .ok (.i2l, 1) := by decide +kernel
theorem dX11_byLaw_14 : decode cX11_byLaw 14 = .ok (.lconst 0, 1) := by decide +kernel
theorem dX11_byLaw_15 : decode cX11_byLaw 15 = .ok (.ldc2_w 190, 3) := by decide +kernel
theorem dX11_byLaw_18 : decode cX11_byLaw 18 = .ok (.invokestatic 127, 3) := by decide +kernel
theorem dX11_byLaw_21 : decode cX11_byLaw 21 = .ok (.ifCond .eq 15, 3) := by decide +kernel
theorem dX11_byLaw_24 : decode cX11_byLaw 24 = .ok (.iload_n 3, 1) := by decide +kernel
theorem dX11_byLaw_25 : decode cX11_byLaw 25 = .ok (.i2l, 1) := by decide +kernel
theorem dX11_byLaw_26 : decode cX11_byLaw 26 = .ok (.lconst 0, 1) := by decide +kernel
theorem dX11_byLaw_27 : decode cX11_byLaw 27 = .ok (.ldc2_w 188, 3) := by decide +kernel
theorem dX11_byLaw_30 : decode cX11_byLaw 30 = .ok (.invokestatic 127, 3) := by decide +kernel
theorem dX11_byLaw_33 : decode cX11_byLaw 33 = .ok (.ifCond .ne 5, 3) := by decide +kernel
theorem dX11_byLaw_36 : decode cX11_byLaw 36 = .ok (.iconst (-1), 1) := by decide +kernel
theorem dX11_byLaw_37 : decode cX11_byLaw 37 = .ok (.ireturn, 1) := by decide +kernel
theorem dX11_byLaw_38 : decode cX11_byLaw 38 = .ok (.aload_n 0, 1) := by decide +kernel
theorem dX11_byLaw_39 : decode cX11_byLaw 39 = .ok (.iload_n 2, 1) := by decide +kernel
theorem dX11_byLaw_40 : decode cX11_byLaw 40 = .ok (.iload_n 3, 1) := by decide +kernel
theorem dX11_byLaw_41 : decode cX11_byLaw 41 = .ok (.invokevirtual 216, 3) := by decide +kernel
theorem dX11_byLaw_44 : decode cX11_byLaw 44 = .ok (.aload_n 0, 1) := by decide +kernel
theorem dX11_byLaw_45 : decode cX11_byLaw 45 = .ok (.getfield 19, 3) := by decide +kernel
theorem dX11_byLaw_48 : decode cX11_byLaw 48 = .ok (.iload_n 1, 1) := by decide +kernel
theorem dX11_byLaw_49 : decode cX11_byLaw 49 = .ok (.iaload, 1) := by decide +kernel
theorem dX11_byLaw_50 : decode cX11_byLaw 50 = .ok (.ifCond .ne 8, 3) := by decide +kernel
theorem dX11_byLaw_53 : decode cX11_byLaw 53 = .ok (.bipush (-4), 2) := by decide +kernel
theorem dX11_byLaw_55 : decode cX11_byLaw 55 = .ok (.goto 9, 3) := by decide +kernel
theorem dX11_byLaw_58 : decode cX11_byLaw 58 = .ok (.aload_n 0, 1) := by decide +kernel
theorem dX11_byLaw_59 : decode cX11_byLaw 59 = .ok (.getfield 19, 3) := by decide +kernel
theorem dX11_byLaw_62 : decode cX11_byLaw 62 = .ok (.iload_n 1, 1) := by decide +kernel
theorem dX11_byLaw_63 : decode cX11_byLaw 63 = .ok (.iaload, 1) := by decide +kernel
theorem dX11_byLaw_64 : decode cX11_byLaw 64 = .ok (.ireturn, 1) := by decide +kernel
theorem dX11_areAsNow_0 : decode cX11_areAsNow 0 = .ok (.iconst 1, 1) := by decide +kernel
theorem dX11_areAsNow_1 : decode cX11_areAsNow 1 = .ok (.istore_n 1, 1) := by decide +kernel
theorem dX11_areAsNow_2 : decode cX11_areAsNow 2 = .ok (.iconst 0, 1) := by decide +kernel
theorem dX11_areAsNow_3 : decode cX11_areAsNow 3 = .ok (.istore_n 2, 1) := by decide +kernel
theorem dX11_areAsNow_4 : decode cX11_areAsNow 4 = .ok (.iload_n 2, 1) := by decide +kernel
theorem dX11_areAsNow_5 : decode cX11_areAsNow 5 = .ok (.bipush 12, 2) := by decide +kernel
theorem dX11_areAsNow_7 : decode cX11_areAsNow 7 = .ok (.if_icmp .ge 34, 3) := by decide +kernel
theorem dX11_areAsNow_10 : decode cX11_areAsNow 10 = .ok (.iload_n 1, 1) := by decide +kernel
theorem dX11_areAsNow_11 : decode cX11_areAsNow 11 = .ok (.ifCond .eq 22, 3) := by decide +kernel
theorem dX11_areAsNow_14 : decode cX11_areAsNow 14 = .ok (.aload_n 0, 1) := by decide +kernel
theorem dX11_areAsNow_15 : decode cX11_areAsNow 15 = .ok (.getfield 19, 3) := by decide +kernel
theorem dX11_areAsNow_18 : decode cX11_areAsNow 18 = .ok (.iload_n 2, 1) := by decide +kernel
theorem dX11_areAsNow_19 : decode cX11_areAsNow 19 = .ok (.iaload, 1) := by decide +kernel
theorem dX11_areAsNow_20 : decode cX11_areAsNow 20 = .ok (.aload_n 0, 1) := by decide +kernel
theorem dX11_areAsNow_21 : decode cX11_areAsNow 21 = .ok (.getfield 16, 3) := by decide +kernel
theorem dX11_areAsNow_24 : decode cX11_areAsNow 24 = .ok (.iload_n 2, 1) := by decide +kernel
theorem dX11_areAsNow_25 : decode cX11_areAsNow 25 = .ok (.iaload, 1) := by decide +kernel
theorem dX11_areAsNow_26 : decode cX11_areAsNow 26 = .ok (.if_icmp .ne 7, 3) := by decide +kernel
theorem dX11_areAsNow_29 : decode cX11_areAsNow 29 = .ok (.iconst 1, 1) := by decide +kernel
theorem dX11_areAsNow_30 : decode cX11_areAsNow 30 = .ok (.goto 4, 3) := by decide +kernel
theorem dX11_areAsNow_33 : decode cX11_areAsNow 33 = .ok (.iconst 0, 1) := by decide +kernel
theorem dX11_areAsNow_34 : decode cX11_areAsNow 34 = .ok (.istore_n 1, 1) := by decide +kernel
theorem dX11_areAsNow_35 : decode cX11_areAsNow 35 = .ok (.iinc 2 1, 3) := by decide +kernel
theorem dX11_areAsNow_38 : decode cX11_areAsNow 38 = .ok (.goto (-34), 3) := by decide +kernel
theorem dX11_areAsNow_41 : decode cX11_areAsNow 41 = .ok (.iload_n 1, 1) := by decide +kernel
theorem dX11_areAsNow_42 : decode cX11_areAsNow 42 = .ok (.ireturn, 1) := by decide +kernel
theorem dX11_laws_0 : decode cX11_laws 0 = .ok (.aload_n 0, 1) := by decide +kernel
theorem dX11_laws_1 : decode cX11_laws 1 = .ok (.iconst 0, 1) := by decide +kernel
theorem dX11_laws_2 : decode cX11_laws 2 = .ok (.putfield 74, 3) := by decide +kernel
theorem dX11_laws_5 : decode cX11_laws 5 = .ok (.iload_n 1, 1) := by decide +kernel
theorem dX11_laws_6 : decode cX11_laws 6 = .ok (.i2l, 1) := by decide +kernel
theorem dX11_laws_7 : decode cX11_laws 7 = .ok (.lconst 0, 1) := by decide +kernel
theorem dX11_laws_8 : decode cX11_laws 8 = .ok (.ldc2_w 188, 3) := by decide +kernel
theorem dX11_laws_11 : decode cX11_laws 11 = .ok (.invokestatic 127, 3) := by decide +kernel
theorem dX11_laws_14 : decode cX11_laws 14 = .ok (.ifCond .ne 5, 3) := by decide +kernel
theorem dX11_laws_17 : decode cX11_laws 17 = .ok (.iconst (-1), 1) := by decide +kernel
theorem dX11_laws_18 : decode cX11_laws 18 = .ok (.ireturn, 1) := by decide +kernel
theorem dX11_laws_19 : decode cX11_laws 19 = .ok (.iconst 0, 1) := by decide +kernel
theorem dX11_laws_20 : decode cX11_laws 20 = .ok (.istore_n 2, 1) := by decide +kernel
theorem dX11_laws_21 : decode cX11_laws 21 = .ok (.iconst 0, 1) := by decide +kernel
theorem dX11_laws_22 : decode cX11_laws 22 = .ok (.istore_n 3, 1) := by decide +kernel
theorem dX11_laws_23 : decode cX11_laws 23 = .ok (.iload_n 3, 1) := by decide +kernel
theorem dX11_laws_24 : decode cX11_laws 24 = .ok (.bipush 8, 2) := by decide +kernel
theorem dX11_laws_26 : decode cX11_laws 26 = .ok (.if_icmp .ge 32, 3) := by decide +kernel
theorem dX11_laws_29 : decode cX11_laws 29 = .ok (.aload_n 0, 1) := by decide +kernel
theorem dX11_laws_30 : decode cX11_laws 30 = .ok (.iload_n 3, 1) := by decide +kernel
theorem dX11_laws_31 : decode cX11_laws 31 = .ok (.iload_n 1, 1) := by decide +kernel
theorem dX11_laws_32 : decode cX11_laws 32 = .ok (.invokevirtual 216, 3) := by decide +kernel
theorem dX11_laws_35 : decode cX11_laws 35 = .ok (.iload_n 2, 1) := by decide +kernel
theorem dX11_laws_36 : decode cX11_laws 36 = .ok (.aload_n 0, 1) := by decide +kernel
theorem dX11_laws_37 : decode cX11_laws 37 = .ok (.invokevirtual 219, 3) := by decide +kernel
theorem dX11_laws_40 : decode cX11_laws 40 = .ok (.ifCond .eq 9, 3) := by decide +kernel
theorem dX11_laws_43 : decode cX11_laws 43 = .ok (.iconst 1, 1) := by decide +kernel
theorem dX11_laws_44 : decode cX11_laws 44 = .ok (.iload_n 3, 1) := by decide +kernel
theorem dX11_laws_45 : decode cX11_laws 45 = .ok (.ishl, 1) := by decide +kernel
theorem dX11_laws_46 : decode cX11_laws 46 = .ok (.goto 4, 3) := by decide +kernel
theorem dX11_laws_49 : decode cX11_laws 49 = .ok (.iconst 0, 1) := by decide +kernel
theorem dX11_laws_50 : decode cX11_laws 50 = .ok (.ior, 1) := by decide +kernel
theorem dX11_laws_51 : decode cX11_laws 51 = .ok (.istore_n 2, 1) := by decide +kernel
theorem dX11_laws_52 : decode cX11_laws 52 = .ok (.iinc 3 1, 3) := by decide +kernel
theorem dX11_laws_55 : decode cX11_laws 55 = .ok (.goto (-32), 3) := by decide +kernel
theorem dX11_laws_58 : decode cX11_laws 58 = .ok (.iload_n 2, 1) := by decide +kernel
theorem dX11_laws_59 : decode cX11_laws 59 = .ok (.ireturn, 1) := by decide +kernel
theorem dX11_houseMany_0 : decode cX11_houseMany 0 = .ok (.iconst 0, 1) := by decide +kernel
theorem dX11_houseMany_1 : decode cX11_houseMany 1 = .ok (.istore_n 1, 1) := by decide +kernel
theorem dX11_houseMany_2 : decode cX11_houseMany 2 = .ok (.iconst 0, 1) := by decide +kernel
theorem dX11_houseMany_3 : decode cX11_houseMany 3 = .ok (.istore_n 2, 1) := by decide +kernel
theorem dX11_houseMany_4 : decode cX11_houseMany 4 = .ok (.iload_n 2, 1) := by decide +kernel
theorem dX11_houseMany_5 : decode cX11_houseMany 5 = .ok (.bipush 12, 2) := by decide +kernel
theorem dX11_houseMany_7 : decode cX11_houseMany 7 = .ok (.if_icmp .ge 71, 3) := by decide +kernel
theorem dX11_houseMany_10 : decode cX11_houseMany 10 = .ok (.aload_n 0, 1) := by decide +kernel
theorem dX11_houseMany_11 : decode cX11_houseMany 11 = .ok (.getfield 46, 3) := by decide +kernel
theorem dX11_houseMany_14 : decode cX11_houseMany 14 = .ok (.iload_n 1, 1) := by decide +kernel
theorem dX11_houseMany_15 : decode cX11_houseMany 15 = .ok (.bipush 12, 2) := by decide +kernel
theorem dX11_houseMany_17 : decode cX11_houseMany 17 = .ok (.if_icmp .ge 7, 3) := by decide +kernel
theorem dX11_houseMany_20 : decode cX11_houseMany 20 = .ok (.iload_n 1, 1) := by decide +kernel
theorem dX11_houseMany_21 : decode cX11_houseMany 21 = .ok (.goto 4, 3) := by decide +kernel
theorem dX11_houseMany_24 : decode cX11_houseMany 24 = .ok (.iconst 0, 1) := by decide +kernel
theorem dX11_houseMany_25 : decode cX11_houseMany 25 = .ok (.aload_n 0, 1) := by decide +kernel
theorem dX11_houseMany_26 : decode cX11_houseMany 26 = .ok (.getfield 16, 3) := by decide +kernel
theorem dX11_houseMany_29 : decode cX11_houseMany 29 = .ok (.iload_n 2, 1) := by decide +kernel
theorem dX11_houseMany_30 : decode cX11_houseMany 30 = .ok (.iaload, 1) := by decide +kernel
theorem dX11_houseMany_31 : decode cX11_houseMany 31 = .ok (.ifCond .le 7, 3) := by decide +kernel
theorem dX11_houseMany_34 : decode cX11_houseMany 34 = .ok (.iload_n 2, 1) := by decide +kernel
theorem dX11_houseMany_35 : decode cX11_houseMany 35 = .ok (.goto 19, 3) := by decide +kernel
theorem dX11_houseMany_38 : decode cX11_houseMany 38 = .ok (.aload_n 0, 1) := by decide +kernel
theorem dX11_houseMany_39 : decode cX11_houseMany 39 = .ok (.getfield 46, 3) := by decide +kernel
theorem dX11_houseMany_42 : decode cX11_houseMany 42 = .ok (.iload_n 1, 1) := by decide +kernel
theorem dX11_houseMany_43 : decode cX11_houseMany 43 = .ok (.bipush 12, 2) := by decide +kernel
theorem dX11_houseMany_45 : decode cX11_houseMany 45 = .ok (.if_icmp .ge 7, 3) := by decide +kernel
theorem dX11_houseMany_48 : decode cX11_houseMany 48 = .ok (.iload_n 1, 1) := by decide +kernel
theorem dX11_houseMany_49 : decode cX11_houseMany 49 = .ok (.goto 4, 3) := by decide +kernel
theorem dX11_houseMany_52 : decode cX11_houseMany 52 = .ok (.iconst 0, 1) := by decide +kernel
theorem dX11_houseMany_53 : decode cX11_houseMany 53 = .ok (.iaload, 1) := by decide +kernel
theorem dX11_houseMany_54 : decode cX11_houseMany 54 = .ok (.iastore, 1) := by decide +kernel
theorem dX11_houseMany_55 : decode cX11_houseMany 55 = .ok (.iload_n 1, 1) := by decide +kernel
theorem dX11_houseMany_56 : decode cX11_houseMany 56 = .ok (.aload_n 0, 1) := by decide +kernel
theorem dX11_houseMany_57 : decode cX11_houseMany 57 = .ok (.getfield 16, 3) := by decide +kernel
theorem dX11_houseMany_60 : decode cX11_houseMany 60 = .ok (.iload_n 2, 1) := by decide +kernel
theorem dX11_houseMany_61 : decode cX11_houseMany 61 = .ok (.iaload, 1) := by decide +kernel
theorem dX11_houseMany_62 : decode cX11_houseMany 62 = .ok (.ifCond .le 7, 3) := by decide +kernel
theorem dX11_houseMany_65 : decode cX11_houseMany 65 = .ok (.iconst 1, 1) := by decide +kernel
theorem dX11_houseMany_66 : decode cX11_houseMany 66 = .ok (.goto 4, 3) := by decide +kernel
theorem dX11_houseMany_69 : decode cX11_houseMany 69 = .ok (.iconst 0, 1) := by decide +kernel
theorem dX11_houseMany_70 : decode cX11_houseMany 70 = .ok (.iadd, 1) := by decide +kernel
theorem dX11_houseMany_71 : decode cX11_houseMany 71 = .ok (.istore_n 1, 1) := by decide +kernel
theorem dX11_houseMany_72 : decode cX11_houseMany 72 = .ok (.iinc 2 1, 3) := by decide +kernel
theorem dX11_houseMany_75 : decode cX11_houseMany 75 = .ok (.goto (-71), 3) := by decide +kernel
theorem dX11_houseMany_78 : decode cX11_houseMany 78 = .ok (.iload_n 1, 1) := by decide +kernel
theorem dX11_houseMany_79 : decode cX11_houseMany 79 = .ok (.ireturn, 1) := by decide +kernel
theorem dX11_nextOrder_0 : decode cX11_nextOrder 0 = .ok (.iload_n 1, 1) := by decide +kernel
theorem dX11_nextOrder_1 : decode cX11_nextOrder 1 = .ok (.iconst 2, 1) := by decide +kernel
theorem dX11_nextOrder_2 : decode cX11_nextOrder 2 = .ok (.isub, 1) := by decide +kernel
theorem dX11_nextOrder_3 : decode cX11_nextOrder 3 = .ok (.istore_n 2, 1) := by decide +kernel
theorem dX11_nextOrder_4 : decode cX11_nextOrder 4 = .ok (.iload_n 2, 1) := by decide +kernel
theorem dX11_nextOrder_5 : decode cX11_nextOrder 5 = .ok (.ifCond .lt 26, 3) := by decide +kernel
theorem dX11_nextOrder_8 : decode cX11_nextOrder 8 = .ok (.aload_n 0, 1) := by decide +kernel
theorem dX11_nextOrder_9 : decode cX11_nextOrder 9 = .ok (.getfield 49, 3) := by decide +kernel
theorem dX11_nextOrder_12 : decode cX11_nextOrder 12 = .ok (.iload_n 2, 1) := by decide +kernel
theorem dX11_nextOrder_13 : decode cX11_nextOrder 13 = .ok (.iaload, 1) := by decide +kernel
theorem dX11_nextOrder_14 : decode cX11_nextOrder 14 = .ok (.aload_n 0, 1) := by decide +kernel
theorem dX11_nextOrder_15 : decode cX11_nextOrder 15 = .ok (.getfield 49, 3) := by decide +kernel
theorem dX11_nextOrder_18 : decode cX11_nextOrder 18 = .ok (.iload_n 2, 1) := by decide +kernel
theorem dX11_nextOrder_19 : decode cX11_nextOrder 19 = .ok (.iconst 1, 1) := by decide +kernel
theorem dX11_nextOrder_20 : decode cX11_nextOrder 20 = .ok (.iadd, 1) := by decide +kernel
theorem dX11_nextOrder_21 : decode cX11_nextOrder 21 = .ok (.iaload, 1) := by decide +kernel
theorem dX11_nextOrder_22 : decode cX11_nextOrder 22 = .ok (.if_icmp .le 9, 3) := by decide +kernel
theorem dX11_nextOrder_25 : decode cX11_nextOrder 25 = .ok (.iinc 2 (-1), 3) := by decide +kernel
theorem dX11_nextOrder_28 : decode cX11_nextOrder 28 = .ok (.goto (-24), 3) := by decide +kernel
theorem dX11_nextOrder_31 : decode cX11_nextOrder 31 = .ok (.iload_n 2, 1) := by decide +kernel
theorem dX11_nextOrder_32 : decode cX11_nextOrder 32 = .ok (.ifCond .ge 5, 3) := by decide +kernel
theorem dX11_nextOrder_35 : decode cX11_nextOrder 35 = .ok (.iconst 0, 1) := by decide +kernel
theorem dX11_nextOrder_36 : decode cX11_nextOrder 36 = .ok (.ireturn, 1) := by decide +kernel
theorem dX11_nextOrder_37 : decode cX11_nextOrder 37 = .ok (.iload_n 1, 1) := by decide +kernel
theorem dX11_nextOrder_38 : decode cX11_nextOrder 38 = .ok (.iconst 1, 1) := by decide +kernel
theorem dX11_nextOrder_39 : decode cX11_nextOrder 39 = .ok (.isub, 1) := by decide +kernel
theorem dX11_nextOrder_40 : decode cX11_nextOrder 40 = .ok (.istore_n 3, 1) := by decide +kernel
theorem dX11_nextOrder_41 : decode cX11_nextOrder 41 = .ok (.aload_n 0, 1) := by decide +kernel
theorem dX11_nextOrder_42 : decode cX11_nextOrder 42 = .ok (.getfield 49, 3) := by decide +kernel
theorem dX11_nextOrder_45 : decode cX11_nextOrder 45 = .ok (.iload_n 3, 1) := by decide +kernel
theorem dX11_nextOrder_46 : decode cX11_nextOrder 46 = .ok (.iaload, 1) := by decide +kernel
theorem dX11_nextOrder_47 : decode cX11_nextOrder 47 = .ok (.aload_n 0, 1) := by decide +kernel
theorem dX11_nextOrder_48 : decode cX11_nextOrder 48 = .ok (.getfield 49, 3) := by decide +kernel
theorem dX11_nextOrder_51 : decode cX11_nextOrder 51 = .ok (.iload_n 2, 1) := by decide +kernel
theorem dX11_nextOrder_52 : decode cX11_nextOrder 52 = .ok (.iaload, 1) := by decide +kernel
theorem dX11_nextOrder_53 : decode cX11_nextOrder 53 = .ok (.if_icmp .ge 9, 3) := by decide +kernel
theorem dX11_nextOrder_56 : decode cX11_nextOrder 56 = .ok (.iinc 3 (-1), 3) := by decide +kernel
theorem dX11_nextOrder_59 : decode cX11_nextOrder 59 = .ok (.goto (-18), 3) := by decide +kernel
theorem dX11_nextOrder_62 : decode cX11_nextOrder 62 = .ok (.aload_n 0, 1) := by decide +kernel
theorem dX11_nextOrder_63 : decode cX11_nextOrder 63 = .ok (.getfield 49, 3) := by decide +kernel
theorem dX11_nextOrder_66 : decode cX11_nextOrder 66 = .ok (.iload_n 2, 1) := by decide +kernel
theorem dX11_nextOrder_67 : decode cX11_nextOrder 67 = .ok (.iaload, 1) := by decide +kernel
theorem dX11_nextOrder_68 : decode cX11_nextOrder 68 = .ok (.istore 4, 2) := by decide +kernel
theorem dX11_nextOrder_70 : decode cX11_nextOrder 70 = .ok (.aload_n 0, 1) := by decide +kernel
theorem dX11_nextOrder_71 : decode cX11_nextOrder 71 = .ok (.getfield 49, 3) := by decide +kernel
theorem dX11_nextOrder_74 : decode cX11_nextOrder 74 = .ok (.iload_n 2, 1) := by decide +kernel
theorem dX11_nextOrder_75 : decode cX11_nextOrder 75 = .ok (.aload_n 0, 1) := by decide +kernel
theorem dX11_nextOrder_76 : decode cX11_nextOrder 76 = .ok (.getfield 49, 3) := by decide +kernel
theorem dX11_nextOrder_79 : decode cX11_nextOrder 79 = .ok (.iload_n 3, 1) := by decide +kernel
theorem dX11_nextOrder_80 : decode cX11_nextOrder 80 = .ok (.iaload, 1) := by decide +kernel
theorem dX11_nextOrder_81 : decode cX11_nextOrder 81 = .ok (.iastore, 1) := by decide +kernel
theorem dX11_nextOrder_82 : decode cX11_nextOrder 82 = .ok (.aload_n 0, 1) := by decide +kernel
theorem dX11_nextOrder_83 : decode cX11_nextOrder 83 = .ok (.getfield 49, 3) := by decide +kernel
theorem dX11_nextOrder_86 : decode cX11_nextOrder 86 = .ok (.iload_n 3, 1) := by decide +kernel
theorem dX11_nextOrder_87 : decode cX11_nextOrder 87 = .ok (.iload 4, 2) := by decide +kernel
theorem dX11_nextOrder_89 : decode cX11_nextOrder 89 = .ok (.iastore, 1) := by decide +kernel
theorem dX11_nextOrder_90 : decode cX11_nextOrder 90 = .ok (.iload_n 2, 1) := by decide +kernel
theorem dX11_nextOrder_91 : decode cX11_nextOrder 91 = .ok (.iconst 1, 1) := by decide +kernel
theorem dX11_nextOrder_92 : decode cX11_nextOrder 92 = .ok (.iadd, 1) := by decide +kernel
theorem dX11_nextOrder_93 : decode cX11_nextOrder 93 = .ok (.istore 5, 2) := by decide +kernel
theorem dX11_nextOrder_95 : decode cX11_nextOrder 95 = .ok (.iload_n 1, 1) := by decide +kernel
theorem dX11_nextOrder_96 : decode cX11_nextOrder 96 = .ok (.iconst 1, 1) := by decide +kernel
theorem dX11_nextOrder_97 : decode cX11_nextOrder 97 = .ok (.isub, 1) := by decide +kernel
theorem dX11_nextOrder_98 : decode cX11_nextOrder 98 = .ok (.istore 6, 2) := by decide +kernel
theorem dX11_nextOrder_100 : decode cX11_nextOrder 100 = .ok (.iload 5, 2) := by decide +kernel
theorem dX11_nextOrder_102 : decode cX11_nextOrder 102 = .ok (.iload 6, 2) := by decide +kernel
theorem dX11_nextOrder_104 : decode cX11_nextOrder 104 = .ok (.if_icmp .ge 44, 3) := by decide +kernel
theorem dX11_nextOrder_107 : decode cX11_nextOrder 107 = .ok (.aload_n 0, 1) := by decide +kernel
theorem dX11_nextOrder_108 : decode cX11_nextOrder 108 = .ok (.getfield 49, 3) := by decide +kernel
theorem dX11_nextOrder_111 : decode cX11_nextOrder 111 = .ok (.iload 5, 2) := by decide +kernel
theorem dX11_nextOrder_113 : decode cX11_nextOrder 113 = .ok (.iaload, 1) := by decide +kernel
theorem dX11_nextOrder_114 : decode cX11_nextOrder 114 = .ok (.istore 4, 2) := by decide +kernel
theorem dX11_nextOrder_116 : decode cX11_nextOrder 116 = .ok (.aload_n 0, 1) := by decide +kernel
theorem dX11_nextOrder_117 : decode cX11_nextOrder 117 = .ok (.getfield 49, 3) := by decide +kernel
theorem dX11_nextOrder_120 : decode cX11_nextOrder 120 = .ok (.iload 5, 2) := by decide +kernel
theorem dX11_nextOrder_122 : decode cX11_nextOrder 122 = .ok (.aload_n 0, 1) := by decide +kernel
theorem dX11_nextOrder_123 : decode cX11_nextOrder 123 = .ok (.getfield 49, 3) := by decide +kernel
theorem dX11_nextOrder_126 : decode cX11_nextOrder 126 = .ok (.iload 6, 2) := by decide +kernel
theorem dX11_nextOrder_128 : decode cX11_nextOrder 128 = .ok (.iaload, 1) := by decide +kernel
theorem dX11_nextOrder_129 : decode cX11_nextOrder 129 = .ok (.iastore, 1) := by decide +kernel
theorem dX11_nextOrder_130 : decode cX11_nextOrder 130 = .ok (.aload_n 0, 1) := by decide +kernel
theorem dX11_nextOrder_131 : decode cX11_nextOrder 131 = .ok (.getfield 49, 3) := by decide +kernel
theorem dX11_nextOrder_134 : decode cX11_nextOrder 134 = .ok (.iload 6, 2) := by decide +kernel
theorem dX11_nextOrder_136 : decode cX11_nextOrder 136 = .ok (.iload 4, 2) := by decide +kernel
theorem dX11_nextOrder_138 : decode cX11_nextOrder 138 = .ok (.iastore, 1) := by decide +kernel
theorem dX11_nextOrder_139 : decode cX11_nextOrder 139 = .ok (.iinc 5 1, 3) := by decide +kernel
theorem dX11_nextOrder_142 : decode cX11_nextOrder 142 = .ok (.iinc 6 (-1), 3) := by decide +kernel
theorem dX11_nextOrder_145 : decode cX11_nextOrder 145 = .ok (.goto (-45), 3) := by decide +kernel
theorem dX11_nextOrder_148 : decode cX11_nextOrder 148 = .ok (.iconst 1, 1) := by decide +kernel
theorem dX11_nextOrder_149 : decode cX11_nextOrder 149 = .ok (.ireturn, 1) := by decide +kernel
theorem dX11_orders_0 : decode cX11_orders 0 = .ok (.aload_n 0, 1) := by decide +kernel
theorem dX11_orders_1 : decode cX11_orders 1 = .ok (.iconst 0, 1) := by decide +kernel
theorem dX11_orders_2 : decode cX11_orders 2 = .ok (.putfield 74, 3) := by decide +kernel
theorem dX11_orders_5 : decode cX11_orders 5 = .ok (.iload_n 1, 1) := by decide +kernel
theorem dX11_orders_6 : decode cX11_orders 6 = .ok (.i2l, 1) := by decide +kernel
theorem dX11_orders_7 : decode cX11_orders 7 = .ok (.lconst 0, 1) := by decide +kernel
theorem dX11_orders_8 : decode cX11_orders 8 = .ok (.lconst 1, 1) := by decide +kernel
theorem dX11_orders_9 : decode cX11_orders 9 = .ok (.invokestatic 127, 3) := by decide +kernel
theorem dX11_orders_12 : decode cX11_orders 12 = .ok (.ifCond .ne 5, 3) := by decide +kernel
theorem dX11_orders_15 : decode cX11_orders 15 = .ok (.iconst (-1), 1) := by decide +kernel
theorem dX11_orders_16 : decode cX11_orders 16 = .ok (.ireturn, 1) := by decide +kernel
theorem dX11_orders_17 : decode cX11_orders 17 = .ok (.aload_n 0, 1) := by decide +kernel
theorem dX11_orders_18 : decode cX11_orders 18 = .ok (.invokevirtual 223, 3) := by decide +kernel
theorem dX11_orders_21 : decode cX11_orders 21 = .ok (.istore_n 2, 1) := by decide +kernel
theorem dX11_orders_22 : decode cX11_orders 22 = .ok (.iload_n 2, 1) := by decide +kernel
theorem dX11_orders_23 : decode cX11_orders 23 = .ok (.bipush 7, 2) := by decide +kernel
theorem dX11_orders_25 : decode cX11_orders 25 = .ok (.if_icmp .le 6, 3) := by decide +kernel
theorem dX11_orders_28 : decode cX11_orders 28 = .ok (.bipush (-2), 2) := by decide +kernel
theorem dX11_orders_30 : decode cX11_orders 30 = .ok (.ireturn, 1) := by decide +kernel
theorem dX11_orders_31 : decode cX11_orders 31 = .ok (.iconst 0, 1) := by decide +kernel
theorem dX11_orders_32 : decode cX11_orders 32 = .ok (.istore_n 3, 1) := by decide +kernel
theorem dX11_orders_33 : decode cX11_orders 33 = .ok (.bipush (-4), 2) := by decide +kernel
theorem dX11_orders_35 : decode cX11_orders 35 = .ok (.istore 4, 2) := by decide +kernel
theorem dX11_orders_37 : decode cX11_orders 37 = .ok (.iconst 0, 1) := by decide +kernel
theorem dX11_orders_38 : decode cX11_orders 38 = .ok (.istore 5, 2) := by decide +kernel
theorem dX11_orders_40 : decode cX11_orders 40 = .ok (.iload 5, 2) := by decide +kernel
theorem dX11_orders_42 : decode cX11_orders 42 = .ok (.iload_n 2, 1) := by decide +kernel
theorem dX11_orders_43 : decode cX11_orders 43 = .ok (.if_icmp .ge 18, 3) := by decide +kernel
theorem dX11_orders_46 : decode cX11_orders 46 = .ok (.aload_n 0, 1) := by decide +kernel
theorem dX11_orders_47 : decode cX11_orders 47 = .ok (.getfield 49, 3) := by decide +kernel
theorem dX11_orders_50 : decode cX11_orders 50 = .ok (.iload 5, 2) := by decide +kernel
theorem dX11_orders_52 : decode cX11_orders 52 = .ok (.iload 5, 2) := by decide +kernel
theorem dX11_orders_54 : decode cX11_orders 54 = .ok (.iastore, 1) := by decide +kernel
theorem dX11_orders_55 : decode cX11_orders 55 = .ok (.iinc 5 1, 3) := by decide +kernel
theorem dX11_orders_58 : decode cX11_orders 58 = .ok (.goto (-18), 3) := by decide +kernel
theorem dX11_orders_61 : decode cX11_orders 61 = .ok (.iconst 1, 1) := by decide +kernel
theorem dX11_orders_62 : decode cX11_orders 62 = .ok (.istore 5, 2) := by decide +kernel
theorem dX11_orders_64 : decode cX11_orders 64 = .ok (.iload 5, 2) := by decide +kernel
theorem dX11_orders_66 : decode cX11_orders 66 = .ok (.ifCond .eq 147, 3) := by decide +kernel
theorem dX11_orders_69 : decode cX11_orders 69 = .ok (.aload_n 0, 1) := by decide +kernel
theorem dX11_orders_70 : decode cX11_orders 70 = .ok (.invokevirtual 78, 3) := by decide +kernel
theorem dX11_orders_73 : decode cX11_orders 73 = .ok (.iconst 1, 1) := by decide +kernel
theorem dX11_orders_74 : decode cX11_orders 74 = .ok (.istore 6, 2) := by decide +kernel
theorem dX11_orders_76 : decode cX11_orders 76 = .ok (.iconst 0, 1) := by decide +kernel
theorem dX11_orders_77 : decode cX11_orders 77 = .ok (.istore 7, 2) := by decide +kernel
theorem dX11_orders_79 : decode cX11_orders 79 = .ok (.iload 7, 2) := by decide +kernel
theorem dX11_orders_81 : decode cX11_orders 81 = .ok (.iload_n 2, 1) := by decide +kernel
theorem dX11_orders_82 : decode cX11_orders 82 = .ok (.if_icmp .ge 77, 3) := by decide +kernel
theorem dX11_orders_85 : decode cX11_orders 85 = .ok (.iload 6, 2) := by decide +kernel
theorem dX11_orders_87 : decode cX11_orders 87 = .ok (.ifCond .eq 72, 3) := by decide +kernel
theorem dX11_orders_90 : decode cX11_orders 90 = .ok (.aload_n 0, 1) := by decide +kernel
theorem dX11_orders_91 : decode cX11_orders 91 = .ok (.getfield 46, 3) := by decide +kernel
theorem dX11_orders_94 : decode cX11_orders 94 = .ok (.aload_n 0, 1) := by decide +kernel
theorem dX11_orders_95 : decode cX11_orders 95 = .ok (.getfield 49, 3) := by decide +kernel
theorem dX11_orders_98 : decode cX11_orders 98 = .ok (.iload 7, 2) := by decide +kernel
theorem dX11_orders_100 : decode cX11_orders 100 = .ok (.iaload, 1) := by decide +kernel
theorem dX11_orders_101 : decode cX11_orders 101 = .ok (.iaload, 1) := by decide +kernel
theorem dX11_orders_102 : decode cX11_orders 102 = .ok (.istore 8, 2) := by decide +kernel
theorem dX11_orders_104 : decode cX11_orders 104 = .ok (.aload_n 0, 1) := by decide +kernel
theorem dX11_orders_105 : decode cX11_orders 105 = .ok (.aload_n 0, 1) := by decide +kernel
theorem dX11_orders_106 : decode cX11_orders 106 = .ok (.getfield 140, 3) := by decide +kernel
theorem dX11_orders_109 : decode cX11_orders 109 = .ok (.aload_n 0, 1) := by decide +kernel
theorem dX11_orders_110 : decode cX11_orders 110 = .ok (.getfield 143, 3) := by decide +kernel
theorem dX11_orders_113 : decode cX11_orders 113 = .ok (.iload 8, 2) := by decide +kernel
theorem dX11_orders_115 : decode cX11_orders 115 = .ok (.aload_n 0, 1) := by decide +kernel
theorem dX11_orders_116 : decode cX11_orders 116 = .ok (.getfield 13, 3) := by decide +kernel
theorem dX11_orders_119 : decode cX11_orders 119 = .ok (.aload_n 0, 1) := by decide +kernel
theorem dX11_orders_120 : decode cX11_orders 120 = .ok (.iload 8, 2) := by decide +kernel
theorem dX11_orders_122 : decode cX11_orders 122 = .ok (.invokevirtual 197, 3) := by decide +kernel
theorem dX11_orders_125 : decode cX11_orders 125 = .ok (.iaload, 1) := by decide +kernel
theorem dX11_orders_126 : decode cX11_orders 126 = .ok (.invokevirtual 103, 3) := by decide +kernel
theorem dX11_orders_129 : decode cX11_orders 129 = .ok (.aload_n 0, 1) := by decide +kernel
theorem dX11_orders_130 : decode cX11_orders 130 = .ok (.getfield 19, 3) := by decide +kernel
theorem dX11_orders_133 : decode cX11_orders 133 = .ok (.iload 8, 2) := by decide +kernel
theorem dX11_orders_135 : decode cX11_orders 135 = .ok (.iaload, 1) := by decide +kernel
theorem dX11_orders_136 : decode cX11_orders 136 = .ok (.aload_n 0, 1) := by decide +kernel
theorem dX11_orders_137 : decode cX11_orders 137 = .ok (.getfield 16, 3) := by decide +kernel
theorem dX11_orders_140 : decode cX11_orders 140 = .ok (.iload 8, 2) := by decide +kernel
theorem dX11_orders_142 : decode cX11_orders 142 = .ok (.iaload, 1) := by decide +kernel
theorem dX11_orders_143 : decode cX11_orders 143 = .ok (.if_icmp .ne 7, 3) := by decide +kernel
theorem dX11_orders_146 : decode cX11_orders 146 = .ok (.iconst 1, 1) := by decide +kernel
theorem dX11_orders_147 : decode cX11_orders 147 = .ok (.goto 4, 3) := by decide +kernel
theorem dX11_orders_150 : decode cX11_orders 150 = .ok (.iconst 0, 1) := by decide +kernel
theorem dX11_orders_151 : decode cX11_orders 151 = .ok (.istore 6, 2) := by decide +kernel
theorem dX11_orders_153 : decode cX11_orders 153 = .ok (.iinc 7 1, 3) := by decide +kernel
theorem dX11_orders_156 : decode cX11_orders 156 = .ok (.goto (-77), 3) := by decide +kernel
theorem dX11_orders_159 : decode cX11_orders 159 = .ok (.iload 6, 2) := by decide +kernel
theorem dX11_orders_161 : decode cX11_orders 161 = .ok (.ifCond .eq 25, 3) := by decide +kernel
theorem dX11_orders_164 : decode cX11_orders 164 = .ok (.iload_n 3, 1) := by decide +kernel
theorem dX11_orders_165 : decode cX11_orders 165 = .ok (.ifCond .ne 21, 3) := by decide +kernel
theorem dX11_orders_168 : decode cX11_orders 168 = .ok (.iload_n 2, 1) := by decide +kernel
theorem dX11_orders_169 : decode cX11_orders 169 = .ok (.ifCond .le 17, 3) := by decide +kernel
theorem dX11_orders_172 : decode cX11_orders 172 = .ok (.aload_n 0, 1) := by decide +kernel
theorem dX11_orders_173 : decode cX11_orders 173 = .ok (.getfield 46, 3) := by decide +kernel
theorem dX11_orders_176 : decode cX11_orders 176 = .ok (.aload_n 0, 1) := by decide +kernel
theorem dX11_orders_177 : decode cX11_orders 177 = .ok (.getfield 49, 3) := by decide +kernel
theorem dX11_orders_180 : decode cX11_orders 180 = .ok (.iconst 0, 1) := by decide +kernel
theorem dX11_orders_181 : decode cX11_orders 181 = .ok (.iaload, 1) := by decide +kernel
theorem dX11_orders_182 : decode cX11_orders 182 = .ok (.iaload, 1) := by decide +kernel
theorem dX11_orders_183 : decode cX11_orders 183 = .ok (.goto 5, 3) := by decide +kernel
theorem dX11_orders_186 : decode cX11_orders 186 = .ok (.iload 4, 2) := by decide +kernel
theorem dX11_orders_188 : decode cX11_orders 188 = .ok (.istore 4, 2) := by decide +kernel
theorem dX11_orders_190 : decode cX11_orders 190 = .ok (.iload_n 3, 1) := by decide +kernel
theorem dX11_orders_191 : decode cX11_orders 191 = .ok (.iload 6, 2) := by decide +kernel
theorem dX11_orders_193 : decode cX11_orders 193 = .ok (.ifCond .eq 7, 3) := by decide +kernel
theorem dX11_orders_196 : decode cX11_orders 196 = .ok (.iconst 1, 1) := by decide +kernel
theorem dX11_orders_197 : decode cX11_orders 197 = .ok (.goto 4, 3) := by decide +kernel
theorem dX11_orders_200 : decode cX11_orders 200 = .ok (.iconst 0, 1) := by decide +kernel
theorem dX11_orders_201 : decode cX11_orders 201 = .ok (.iadd, 1) := by decide +kernel
theorem dX11_orders_202 : decode cX11_orders 202 = .ok (.istore_n 3, 1) := by decide +kernel
theorem dX11_orders_203 : decode cX11_orders 203 = .ok (.aload_n 0, 1) := by decide +kernel
theorem dX11_orders_204 : decode cX11_orders 204 = .ok (.iload_n 2, 1) := by decide +kernel
theorem dX11_orders_205 : decode cX11_orders 205 = .ok (.invokevirtual 226, 3) := by decide +kernel
theorem dX11_orders_208 : decode cX11_orders 208 = .ok (.istore 5, 2) := by decide +kernel
theorem dX11_orders_210 : decode cX11_orders 210 = .ok (.goto (-146), 3) := by decide +kernel
theorem dX11_orders_213 : decode cX11_orders 213 = .ok (.iload_n 1, 1) := by decide +kernel
theorem dX11_orders_214 : decode cX11_orders 214 = .ok (.ifCond .ne 7, 3) := by decide +kernel
theorem dX11_orders_217 : decode cX11_orders 217 = .ok (.iload_n 3, 1) := by decide +kernel
theorem dX11_orders_218 : decode cX11_orders 218 = .ok (.goto 5, 3) := by decide +kernel
theorem dX11_orders_221 : decode cX11_orders 221 = .ok (.iload 4, 2) := by decide +kernel
theorem dX11_orders_223 : decode cX11_orders 223 = .ok (.ireturn, 1) := by decide +kernel
theorem dX11_joined_0 : decode cX11_joined 0 = .ok (.aload_n 0, 1) := by decide +kernel
theorem dX11_joined_1 : decode cX11_joined 1 = .ok (.iconst 0, 1) := by decide +kernel
theorem dX11_joined_2 : decode cX11_joined 2 = .ok (.putfield 74, 3) := by decide +kernel
theorem dX11_joined_5 : decode cX11_joined 5 = .ok (.iload_n 2, 1) := by decide +kernel
theorem dX11_joined_6 : decode cX11_joined 6 = .ok (.i2l, 1) := by decide +kernel
theorem dX11_joined_7 : decode cX11_joined 7 = .ok (.lconst 0, 1) := by decide +kernel
theorem dX11_joined_8 : decode cX11_joined 8 = .ok (.lconst 1, 1) := by decide +kernel
theorem dX11_joined_9 : decode cX11_joined 9 = .ok (.invokestatic 127, 3) := by decide +kernel
theorem dX11_joined_12 : decode cX11_joined 12 = .ok (.ifCond .eq 12, 3) := by decide +kernel
theorem dX11_joined_15 : decode cX11_joined 15 = .ok (.aload_n 0, 1) := by decide +kernel
theorem dX11_joined_16 : decode cX11_joined 16 = .ok (.iload_n 1, 1) := by decide +kernel
theorem dX11_joined_17 : decode cX11_joined 17 = .ok (.iconst 1, 1) := by decide +kernel
theorem dX11_joined_18 : decode cX11_joined 18 = .ok (.invokevirtual 154, 3) := by decide +kernel
theorem dX11_joined_21 : decode cX11_joined 21 = .ok (.goto 4, 3) := by decide +kernel
theorem dX11_joined_24 : decode cX11_joined 24 = .ok (.iconst (-1), 1) := by decide +kernel
theorem dX11_joined_25 : decode cX11_joined 25 = .ok (.istore_n 3, 1) := by decide +kernel
theorem dX11_joined_26 : decode cX11_joined 26 = .ok (.iload_n 3, 1) := by decide +kernel
theorem dX11_joined_27 : decode cX11_joined 27 = .ok (.ifCond .ge 5, 3) := by decide +kernel
theorem dX11_joined_30 : decode cX11_joined 30 = .ok (.iload_n 3, 1) := by decide +kernel
theorem dX11_joined_31 : decode cX11_joined 31 = .ok (.ireturn, 1) := by decide +kernel
theorem dX11_joined_32 : decode cX11_joined 32 = .ok (.aload_n 0, 1) := by decide +kernel
theorem dX11_joined_33 : decode cX11_joined 33 = .ok (.getfield 64, 3) := by decide +kernel
theorem dX11_joined_36 : decode cX11_joined 36 = .ok (.iload_n 1, 1) := by decide +kernel
theorem dX11_joined_37 : decode cX11_joined 37 = .ok (.iaload, 1) := by decide +kernel
theorem dX11_joined_38 : decode cX11_joined 38 = .ok (.i2l, 1) := by decide +kernel
theorem dX11_joined_39 : decode cX11_joined 39 = .ok (.lconst 1, 1) := by decide +kernel
theorem dX11_joined_40 : decode cX11_joined 40 = .ok (.ldc2_w 229, 3) := by decide +kernel
theorem dX11_joined_43 : decode cX11_joined 43 = .ok (.invokestatic 127, 3) := by decide +kernel
theorem dX11_joined_46 : decode cX11_joined 46 = .ok (.istore 4, 2) := by decide +kernel
theorem dX11_joined_48 : decode cX11_joined 48 = .ok (.iconst 0, 1) := by decide +kernel
theorem dX11_joined_49 : decode cX11_joined 49 = .ok (.istore 5, 2) := by decide +kernel
theorem dX11_joined_51 : decode cX11_joined 51 = .ok (.iload 5, 2) := by decide +kernel
theorem dX11_joined_53 : decode cX11_joined 53 = .ok (.aload_n 0, 1) := by decide +kernel
theorem dX11_joined_54 : decode cX11_joined 54 = .ok (.getfield 64, 3) := by decide +kernel
theorem dX11_joined_57 : decode cX11_joined 57 = .ok (.iload_n 1, 1) := by decide +kernel
theorem dX11_joined_58 : decode cX11_joined 58 = .ok (.iaload, 1) := by decide +kernel
theorem dX11_joined_59 : decode cX11_joined 59 = .ok (.if_icmp .ge 38, 3) := by decide +kernel
theorem dX11_joined_62 : decode cX11_joined 62 = .ok (.iload 4, 2) := by decide +kernel
theorem dX11_joined_64 : decode cX11_joined 64 = .ok (.ifCond .eq 33, 3) := by decide +kernel
theorem dX11_joined_67 : decode cX11_joined 67 = .ok (.aload_n 0, 1) := by decide +kernel
theorem dX11_joined_68 : decode cX11_joined 68 = .ok (.getfield 67, 3) := by decide +kernel
theorem dX11_joined_71 : decode cX11_joined 71 = .ok (.bipush 100, 2) := by decide +kernel
theorem dX11_joined_73 : decode cX11_joined 73 = .ok (.iload_n 1, 1) := by decide +kernel
theorem dX11_joined_74 : decode cX11_joined 74 = .ok (.imul, 1) := by decide +kernel
theorem dX11_joined_75 : decode cX11_joined 75 = .ok (.iload 5, 2) := by decide +kernel
theorem dX11_joined_77 : decode cX11_joined 77 = .ok (.iadd, 1) := by decide +kernel
theorem dX11_joined_78 : decode cX11_joined 78 = .ok (.laload, 1) := by decide +kernel
theorem dX11_joined_79 : decode cX11_joined 79 = .ok (.lconst 0, 1) := by decide +kernel
theorem dX11_joined_80 : decode cX11_joined 80 = .ok (.lcmp, 1) := by decide +kernel
theorem dX11_joined_81 : decode cX11_joined 81 = .ok (.ifCond .le 7, 3) := by decide +kernel
theorem dX11_joined_84 : decode cX11_joined 84 = .ok (.iconst 1, 1) := by decide +kernel
theorem dX11_joined_85 : decode cX11_joined 85 = .ok (.goto 4, 3) := by decide +kernel
theorem dX11_joined_88 : decode cX11_joined 88 = .ok (.iconst 0, 1) := by decide +kernel
theorem dX11_joined_89 : decode cX11_joined 89 = .ok (.istore 4, 2) := by decide +kernel
theorem dX11_joined_91 : decode cX11_joined 91 = .ok (.iinc 5 1, 3) := by decide +kernel
theorem dX11_joined_94 : decode cX11_joined 94 = .ok (.goto (-43), 3) := by decide +kernel
theorem dX11_joined_97 : decode cX11_joined 97 = .ok (.iload 4, 2) := by decide +kernel
theorem dX11_joined_99 : decode cX11_joined 99 = .ok (.ifCond .ne 6, 3) := by decide +kernel
theorem dX11_joined_102 : decode cX11_joined 102 = .ok (.bipush (-13), 2) := by decide +kernel
theorem dX11_joined_104 : decode cX11_joined 104 = .ok (.ireturn, 1) := by decide +kernel
theorem dX11_joined_105 : decode cX11_joined 105 = .ok (.iconst 0, 1) := by decide +kernel
theorem dX11_joined_106 : decode cX11_joined 106 = .ok (.istore 5, 2) := by decide +kernel
theorem dX11_joined_108 : decode cX11_joined 108 = .ok (.aload_n 0, 1) := by decide +kernel
theorem dX11_joined_109 : decode cX11_joined 109 = .ok (.iload_n 1, 1) := by decide +kernel
theorem dX11_joined_110 : decode cX11_joined 110 = .ok (.iconst 0, 1) := by decide +kernel
theorem dX11_joined_111 : decode cX11_joined 111 = .ok (.invokevirtual 231, 3) := by decide +kernel
theorem dX11_joined_114 : decode cX11_joined 114 = .ok (.istore 6, 2) := by decide +kernel
theorem dX11_joined_116 : decode cX11_joined 116 = .ok (.iload_n 2, 1) := by decide +kernel
theorem dX11_joined_117 : decode cX11_joined 117 = .ok (.iconst 1, 1) := by decide +kernel
theorem dX11_joined_118 : decode cX11_joined 118 = .ok (.if_icmp .ne 19, 3) := by decide +kernel
theorem dX11_joined_121 : decode cX11_joined 121 = .ok (.aload_n 0, 1) := by decide +kernel
theorem dX11_joined_122 : decode cX11_joined 122 = .ok (.iload_n 1, 1) := by decide +kernel
theorem dX11_joined_123 : decode cX11_joined 123 = .ok (.iload 5, 2) := by decide +kernel
theorem dX11_joined_125 : decode cX11_joined 125 = .ok (.invokevirtual 231, 3) := by decide +kernel
theorem dX11_joined_128 : decode cX11_joined 128 = .ok (.ifCond .le 9, 3) := by decide +kernel
theorem dX11_joined_131 : decode cX11_joined 131 = .ok (.iinc 5 1, 3) := by decide +kernel
theorem dX11_joined_134 : decode cX11_joined 134 = .ok (.goto (-18), 3) := by decide +kernel
theorem dX11_joined_137 : decode cX11_joined 137 = .ok (.iload_n 2, 1) := by decide +kernel
theorem dX11_joined_138 : decode cX11_joined 138 = .ok (.ifCond .ne 8, 3) := by decide +kernel
theorem dX11_joined_141 : decode cX11_joined 141 = .ok (.iload 6, 2) := by decide +kernel
theorem dX11_joined_143 : decode cX11_joined 143 = .ok (.goto 5, 3) := by decide +kernel
theorem dX11_joined_146 : decode cX11_joined 146 = .ok (.iload 5, 2) := by decide +kernel
theorem dX11_joined_148 : decode cX11_joined 148 = .ok (.ireturn, 1) := by decide +kernel
theorem dX11_hadOf_0 : decode cX11_hadOf 0 = .ok (.iconst 0, 1) := by decide +kernel
theorem dX11_hadOf_1 : decode cX11_hadOf 1 = .ok (.istore_n 3, 1) := by decide +kernel
theorem dX11_hadOf_2 : decode cX11_hadOf 2 = .ok (.iconst 0, 1) := by decide +kernel
theorem dX11_hadOf_3 : decode cX11_hadOf 3 = .ok (.istore 4, 2) := by decide +kernel
theorem dX11_hadOf_5 : decode cX11_hadOf 5 = .ok (.iload 4, 2) := by decide +kernel
theorem dX11_hadOf_7 : decode cX11_hadOf 7 = .ok (.aload_n 0, 1) := by decide +kernel
theorem dX11_hadOf_8 : decode cX11_hadOf 8 = .ok (.getfield 64, 3) := by decide +kernel
theorem dX11_hadOf_11 : decode cX11_hadOf 11 = .ok (.iload_n 1, 1) := by decide +kernel
theorem dX11_hadOf_12 : decode cX11_hadOf 12 = .ok (.iaload, 1) := by decide +kernel
theorem dX11_hadOf_13 : decode cX11_hadOf 13 = .ok (.if_icmp .ge 42, 3) := by decide +kernel
theorem dX11_hadOf_16 : decode cX11_hadOf 16 = .ok (.iload_n 3, 1) := by decide +kernel
theorem dX11_hadOf_17 : decode cX11_hadOf 17 = .ok (.aload_n 0, 1) := by decide +kernel
theorem dX11_hadOf_18 : decode cX11_hadOf 18 = .ok (.aload_n 0, 1) := by decide +kernel
theorem dX11_hadOf_19 : decode cX11_hadOf 19 = .ok (.getfield 67, 3) := by decide +kernel
theorem dX11_hadOf_22 : decode cX11_hadOf 22 = .ok (.bipush 100, 2) := by decide +kernel
theorem dX11_hadOf_24 : decode cX11_hadOf 24 = .ok (.iload_n 1, 1) := by decide +kernel
theorem dX11_hadOf_25 : decode cX11_hadOf 25 = .ok (.imul, 1) := by decide +kernel
theorem dX11_hadOf_26 : decode cX11_hadOf 26 = .ok (.iload 4, 2) := by decide +kernel
theorem dX11_hadOf_28 : decode cX11_hadOf 28 = .ok (.iadd, 1) := by decide +kernel
theorem dX11_hadOf_29 : decode cX11_hadOf 29 = .ok (.laload, 1) := by decide +kernel
theorem dX11_hadOf_30 : decode cX11_hadOf 30 = .ok (.iload_n 2, 1) := by decide +kernel
theorem dX11_hadOf_31 : decode cX11_hadOf 31 = .ok (.i2l, 1) := by decide +kernel
theorem dX11_hadOf_32 : decode cX11_hadOf 32 = .ok (.ladd, 1) := by decide +kernel
theorem dX11_hadOf_33 : decode cX11_hadOf 33 = .ok (.iconst 0, 1) := by decide +kernel
theorem dX11_hadOf_34 : decode cX11_hadOf 34 = .ok (.bipush 11, 2) := by decide +kernel
theorem dX11_hadOf_36 : decode cX11_hadOf 36 = .ok (.invokevirtual 205, 3) := by decide +kernel
theorem dX11_hadOf_39 : decode cX11_hadOf 39 = .ok (.ifCond .eq 7, 3) := by decide +kernel
theorem dX11_hadOf_42 : decode cX11_hadOf 42 = .ok (.iconst 1, 1) := by decide +kernel
theorem dX11_hadOf_43 : decode cX11_hadOf 43 = .ok (.goto 4, 3) := by decide +kernel
theorem dX11_hadOf_46 : decode cX11_hadOf 46 = .ok (.iconst 0, 1) := by decide +kernel
theorem dX11_hadOf_47 : decode cX11_hadOf 47 = .ok (.iadd, 1) := by decide +kernel
theorem dX11_hadOf_48 : decode cX11_hadOf 48 = .ok (.istore_n 3, 1) := by decide +kernel
theorem dX11_hadOf_49 : decode cX11_hadOf 49 = .ok (.iinc 4 1, 3) := by decide +kernel
theorem dX11_hadOf_52 : decode cX11_hadOf 52 = .ok (.goto (-47), 3) := by decide +kernel
theorem dX11_hadOf_55 : decode cX11_hadOf 55 = .ok (.iload_n 3, 1) := by decide +kernel
theorem dX11_hadOf_56 : decode cX11_hadOf 56 = .ok (.ireturn, 1) := by decide +kernel
theorem dX11_draw_0 : decode cX11_draw 0 = .ok (.aload_n 0, 1) := by decide +kernel
theorem dX11_draw_1 : decode cX11_draw 1 = .ok (.aload_n 0, 1) := by decide +kernel
theorem dX11_draw_2 : decode cX11_draw 2 = .ok (.getfield 234, 3) := by decide +kernel
theorem dX11_draw_5 : decode cX11_draw 5 = .ok (.ldc 237, 2) := by decide +kernel
theorem dX11_draw_7 : decode cX11_draw 7 = .ok (.imul, 1) := by decide +kernel
theorem dX11_draw_8 : decode cX11_draw 8 = .ok (.sipush 12345, 3) := by decide +kernel
theorem dX11_draw_11 : decode cX11_draw 11 = .ok (.iadd, 1) := by decide +kernel
theorem dX11_draw_12 : decode cX11_draw 12 = .ok (.putfield 234, 3) := by decide +kernel
theorem dX11_draw_15 : decode cX11_draw 15 = .ok (.aload_n 0, 1) := by decide +kernel
theorem dX11_draw_16 : decode cX11_draw 16 = .ok (.getfield 234, 3) := by decide +kernel
theorem dX11_draw_19 : decode cX11_draw 19 = .ok (.ldc 238, 2) := by decide +kernel
theorem dX11_draw_21 : decode cX11_draw 21 = .ok (.iand, 1) := by decide +kernel
theorem dX11_draw_22 : decode cX11_draw 22 = .ok (.ldc 239, 2) := by decide +kernel
theorem dX11_draw_24 : decode cX11_draw 24 = .ok (.idiv, 1) := by decide +kernel
theorem dX11_draw_25 : decode cX11_draw 25 = .ok (.iload_n 1, 1) := by decide +kernel
theorem dX11_draw_26 : decode cX11_draw 26 = .ok (.irem, 1) := by decide +kernel
theorem dX11_draw_27 : decode cX11_draw 27 = .ok (.ireturn, 1) := by decide +kernel
theorem dX11_seeded_0 : decode cX11_seeded 0 = .ok (.aload_n 0, 1) := by decide +kernel
theorem dX11_seeded_1 : decode cX11_seeded 1 = .ok (.iconst 0, 1) := by decide +kernel
theorem dX11_seeded_2 : decode cX11_seeded 2 = .ok (.putfield 74, 3) := by decide +kernel
theorem dX11_seeded_5 : decode cX11_seeded 5 = .ok (.iload_n 1, 1) := by decide +kernel
theorem dX11_seeded_6 : decode cX11_seeded 6 = .ok (.i2l, 1) := by decide +kernel
theorem dX11_seeded_7 : decode cX11_seeded 7 = .ok (.lconst 1, 1) := by decide +kernel
theorem dX11_seeded_8 : decode cX11_seeded 8 = .ok (.ldc2_w 240, 3) := by decide +kernel
theorem dX11_seeded_11 : decode cX11_seeded 11 = .ok (.invokestatic 127, 3) := by decide +kernel
theorem dX11_seeded_14 : decode cX11_seeded 14 = .ok (.ifCond .eq 13, 3) := by decide +kernel
theorem dX11_seeded_17 : decode cX11_seeded 17 = .ok (.iload_n 3, 1) := by decide +kernel
theorem dX11_seeded_18 : decode cX11_seeded 18 = .ok (.i2l, 1) := by decide +kernel
theorem dX11_seeded_19 : decode cX11_seeded 19 = .ok (.lconst 0, 1) := by decide +kernel
theorem dX11_seeded_20 : decode cX11_seeded 20 = .ok (.lconst 1, 1) := by decide +kernel
theorem dX11_seeded_21 : decode cX11_seeded 21 = .ok (.invokestatic 127, 3) := by decide +kernel
theorem dX11_seeded_24 : decode cX11_seeded 24 = .ok (.ifCond .ne 5, 3) := by decide +kernel
theorem dX11_seeded_27 : decode cX11_seeded 27 = .ok (.iconst (-1), 1) := by decide +kernel
theorem dX11_seeded_28 : decode cX11_seeded 28 = .ok (.ireturn, 1) := by decide +kernel
theorem dX11_seeded_29 : decode cX11_seeded 29 = .ok (.aload_n 0, 1) := by decide +kernel
theorem dX11_seeded_30 : decode cX11_seeded 30 = .ok (.iload_n 2, 1) := by decide +kernel
theorem dX11_seeded_31 : decode cX11_seeded 31 = .ok (.putfield 234, 3) := by decide +kernel
theorem dX11_seeded_34 : decode cX11_seeded 34 = .ok (.aload_n 0, 1) := by decide +kernel
theorem dX11_seeded_35 : decode cX11_seeded 35 = .ok (.invokevirtual 78, 3) := by decide +kernel
theorem dX11_seeded_38 : decode cX11_seeded 38 = .ok (.iconst 0, 1) := by decide +kernel
theorem dX11_seeded_39 : decode cX11_seeded 39 = .ok (.istore 4, 2) := by decide +kernel
theorem dX11_seeded_41 : decode cX11_seeded 41 = .ok (.iload 4, 2) := by decide +kernel
theorem dX11_seeded_43 : decode cX11_seeded 43 = .ok (.iload_n 1, 1) := by decide +kernel
theorem dX11_seeded_44 : decode cX11_seeded 44 = .ok (.if_icmp .ge 64, 3) := by decide +kernel
theorem dX11_seeded_47 : decode cX11_seeded 47 = .ok (.aload_n 0, 1) := by decide +kernel
theorem dX11_seeded_48 : decode cX11_seeded 48 = .ok (.bipush 12, 2) := by decide +kernel
theorem dX11_seeded_50 : decode cX11_seeded 50 = .ok (.invokevirtual 242, 3) := by decide +kernel
theorem dX11_seeded_53 : decode cX11_seeded 53 = .ok (.istore 5, 2) := by decide +kernel
theorem dX11_seeded_55 : decode cX11_seeded 55 = .ok (.aload_n 0, 1) := by decide +kernel
theorem dX11_seeded_56 : decode cX11_seeded 56 = .ok (.bipush 9, 2) := by decide +kernel
theorem dX11_seeded_58 : decode cX11_seeded 58 = .ok (.invokevirtual 242, 3) := by decide +kernel
theorem dX11_seeded_61 : decode cX11_seeded 61 = .ok (.iconst 1, 1) := by decide +kernel
theorem dX11_seeded_62 : decode cX11_seeded 62 = .ok (.iadd, 1) := by decide +kernel
theorem dX11_seeded_63 : decode cX11_seeded 63 = .ok (.istore 6, 2) := by decide +kernel
theorem dX11_seeded_65 : decode cX11_seeded 65 = .ok (.aload_n 0, 1) := by decide +kernel
theorem dX11_seeded_66 : decode cX11_seeded 66 = .ok (.getfield 19, 3) := by decide +kernel
theorem dX11_seeded_69 : decode cX11_seeded 69 = .ok (.iload 5, 2) := by decide +kernel
theorem dX11_seeded_71 : decode cX11_seeded 71 = .ok (.iaload, 1) := by decide +kernel
theorem dX11_seeded_72 : decode cX11_seeded 72 = .ok (.ifCond .le 14, 3) := by decide +kernel
theorem dX11_seeded_75 : decode cX11_seeded 75 = .ok (.aload_n 0, 1) := by decide +kernel
theorem dX11_seeded_76 : decode cX11_seeded 76 = .ok (.getfield 19, 3) := by decide +kernel
theorem dX11_seeded_79 : decode cX11_seeded 79 = .ok (.iload 5, 2) := by decide +kernel
theorem dX11_seeded_81 : decode cX11_seeded 81 = .ok (.iconst 0, 1) := by decide +kernel
theorem dX11_seeded_82 : decode cX11_seeded 82 = .ok (.iastore, 1) := by decide +kernel
theorem dX11_seeded_83 : decode cX11_seeded 83 = .ok (.goto 19, 3) := by decide +kernel
theorem dX11_seeded_86 : decode cX11_seeded 86 = .ok (.aload_n 0, 1) := by decide +kernel
theorem dX11_seeded_87 : decode cX11_seeded 87 = .ok (.aload_n 0, 1) := by decide +kernel
theorem dX11_seeded_88 : decode cX11_seeded 88 = .ok (.getfield 140, 3) := by decide +kernel
theorem dX11_seeded_91 : decode cX11_seeded 91 = .ok (.aload_n 0, 1) := by decide +kernel
theorem dX11_seeded_92 : decode cX11_seeded 92 = .ok (.getfield 143, 3) := by decide +kernel
theorem dX11_seeded_95 : decode cX11_seeded 95 = .ok (.iload 5, 2) := by decide +kernel
theorem dX11_seeded_97 : decode cX11_seeded 97 = .ok (.iload 6, 2) := by decide +kernel
theorem dX11_seeded_99 : decode cX11_seeded 99 = .ok (.invokevirtual 103, 3) := by decide +kernel
theorem dX11_seeded_102 : decode cX11_seeded 102 = .ok (.iinc 4 1, 3) := by decide +kernel
theorem dX11_seeded_105 : decode cX11_seeded 105 = .ok (.goto (-64), 3) := by decide +kernel
theorem dX11_seeded_108 : decode cX11_seeded 108 = .ok (.iload_n 3, 1) := by decide +kernel
theorem dX11_seeded_109 : decode cX11_seeded 109 = .ok (.ifCond .ne 10, 3) := by decide +kernel
theorem dX11_seeded_112 : decode cX11_seeded 112 = .ok (.aload_n 0, 1) := by decide +kernel
theorem dX11_seeded_113 : decode cX11_seeded 113 = .ok (.invokevirtual 202, 3) := by decide +kernel
theorem dX11_seeded_116 : decode cX11_seeded 116 = .ok (.goto 7, 3) := by decide +kernel
theorem dX11_seeded_119 : decode cX11_seeded 119 = .ok (.aload_n 0, 1) := by decide +kernel
theorem dX11_seeded_120 : decode cX11_seeded 120 = .ok (.invokevirtual 213, 3) := by decide +kernel
theorem dX11_seeded_123 : decode cX11_seeded 123 = .ok (.ireturn, 1) := by decide +kernel
theorem dX11_skippedIn_0 : decode cX11_skippedIn 0 = .ok (.aload_n 0, 1) := by decide +kernel
theorem dX11_skippedIn_1 : decode cX11_skippedIn 1 = .ok (.getfield 61, 3) := by decide +kernel
theorem dX11_skippedIn_4 : decode cX11_skippedIn 4 = .ok (.iload_n 1, 1) := by decide +kernel
theorem dX11_skippedIn_5 : decode cX11_skippedIn 5 = .ok (.iaload, 1) := by decide +kernel
theorem dX11_skippedIn_6 : decode cX11_skippedIn 6 = .ok (.ifCond .ne 9, 3) := by decide +kernel
theorem dX11_skippedIn_9 : decode cX11_skippedIn 9 = .ok (.ldc2_w 245, 3) := by decide +kernel
theorem dX11_skippedIn_12 : decode cX11_skippedIn 12 = .ok (.goto 22, 3) := by decide +kernel
theorem dX11_skippedIn_15 : decode cX11_skippedIn 15 = .ok (.aload_n 0, 1) := by decide +kernel
theorem dX11_skippedIn_16 : decode cX11_skippedIn 16 = .ok (.getfield 61, 3) := by decide +kernel
theorem dX11_skippedIn_19 : decode cX11_skippedIn 19 = .ok (.iload_n 1, 1) := by decide +kernel
theorem dX11_skippedIn_20 : decode cX11_skippedIn 20 = .ok (.iaload, 1) := by decide +kernel
theorem dX11_skippedIn_21 : decode cX11_skippedIn 21 = .ok (.iconst 1, 1) := by decide +kernel
theorem dX11_skippedIn_22 : decode cX11_skippedIn 22 = .ok (.if_icmp .ne 9, 3) := by decide +kernel
theorem dX11_skippedIn_25 : decode cX11_skippedIn 25 = .ok (.ldc2_w 247, 3) := by decide +kernel
theorem dX11_skippedIn_28 : decode cX11_skippedIn 28 = .ok (.goto 6, 3) := by decide +kernel
theorem dX11_skippedIn_31 : decode cX11_skippedIn 31 = .ok (.ldc2_w 249, 3) := by decide +kernel
theorem dX11_skippedIn_34 : decode cX11_skippedIn 34 = .ok (.lreturn, 1) := by decide +kernel
theorem dX11_judge_0 : decode cX11_judge 0 = .ok (.aload_n 0, 1) := by decide +kernel
theorem dX11_judge_1 : decode cX11_judge 1 = .ok (.iconst 0, 1) := by decide +kernel
theorem dX11_judge_2 : decode cX11_judge 2 = .ok (.putfield 74, 3) := by decide +kernel
theorem dX11_judge_5 : decode cX11_judge 5 = .ok (.aload_n 0, 1) := by decide +kernel
theorem dX11_judge_6 : decode cX11_judge 6 = .ok (.iload_n 1, 1) := by decide +kernel
theorem dX11_judge_7 : decode cX11_judge 7 = .ok (.invokevirtual 251, 3) := by decide +kernel
theorem dX11_judge_10 : decode cX11_judge 10 = .ok (.istore_n 2, 1) := by decide +kernel
theorem dX11_judge_11 : decode cX11_judge 11 = .ok (.iload_n 2, 1) := by decide +kernel
theorem dX11_judge_12 : decode cX11_judge 12 = .ok (.ifCond .ge 5, 3) := by decide +kernel
theorem dX11_judge_15 : decode cX11_judge 15 = .ok (.iload_n 2, 1) := by decide +kernel
theorem dX11_judge_16 : decode cX11_judge 16 = .ok (.ireturn, 1) := by decide +kernel
theorem dX11_judge_17 : decode cX11_judge 17 = .ok (.iconst 0, 1) := by decide +kernel
theorem dX11_judge_18 : decode cX11_judge 18 = .ok (.istore_n 3, 1) := by decide +kernel
theorem dX11_judge_19 : decode cX11_judge 19 = .ok (.iload_n 3, 1) := by decide +kernel
theorem dX11_judge_20 : decode cX11_judge 20 = .ok (.bipush 12, 2) := by decide +kernel
theorem dX11_judge_22 : decode cX11_judge 22 = .ok (.if_icmp .ge 58, 3) := by decide +kernel
theorem dX11_judge_25 : decode cX11_judge 25 = .ok (.iload_n 3, 1) := by decide +kernel
theorem dX11_judge_26 : decode cX11_judge 26 = .ok (.aload_n 0, 1) := by decide +kernel
theorem dX11_judge_27 : decode cX11_judge 27 = .ok (.getfield 64, 3) := by decide +kernel
theorem dX11_judge_30 : decode cX11_judge 30 = .ok (.iload_n 1, 1) := by decide +kernel
theorem dX11_judge_31 : decode cX11_judge 31 = .ok (.iaload, 1) := by decide +kernel
theorem dX11_judge_32 : decode cX11_judge 32 = .ok (.if_icmp .ge 48, 3) := by decide +kernel
theorem dX11_judge_35 : decode cX11_judge 35 = .ok (.aload_n 0, 1) := by decide +kernel
theorem dX11_judge_36 : decode cX11_judge 36 = .ok (.getfield 67, 3) := by decide +kernel
theorem dX11_judge_39 : decode cX11_judge 39 = .ok (.bipush 100, 2) := by decide +kernel
theorem dX11_judge_41 : decode cX11_judge 41 = .ok (.iload_n 1, 1) := by decide +kernel
theorem dX11_judge_42 : decode cX11_judge 42 = .ok (.imul, 1) := by decide +kernel
theorem dX11_judge_43 : decode cX11_judge 43 = .ok (.iload_n 3, 1) := by decide +kernel
theorem dX11_judge_44 : decode cX11_judge 44 = .ok (.iadd, 1) := by decide +kernel
theorem dX11_judge_45 : decode cX11_judge 45 = .ok (.laload, 1) := by decide +kernel
theorem dX11_judge_46 : decode cX11_judge 46 = .ok (.lstore 4, 2) := by decide +kernel
theorem dX11_judge_48 : decode cX11_judge 48 = .ok (.lload 4, 2) := by decide +kernel
theorem dX11_judge_50 : decode cX11_judge 50 = .ok (.aload_n 0, 1) := by decide +kernel
theorem dX11_judge_51 : decode cX11_judge 51 = .ok (.iload_n 1, 1) := by decide +kernel
theorem dX11_judge_52 : decode cX11_judge 52 = .ok (.invokevirtual 254, 3) := by decide +kernel
theorem dX11_judge_55 : decode cX11_judge 55 = .ok (.lcmp, 1) := by decide +kernel
theorem dX11_judge_56 : decode cX11_judge 56 = .ok (.ifCond .eq 18, 3) := by decide +kernel
theorem dX11_judge_59 : decode cX11_judge 59 = .ok (.lload 4, 2) := by decide +kernel
theorem dX11_judge_61 : decode cX11_judge 61 = .ok (.aload_n 0, 1) := by decide +kernel
theorem dX11_judge_62 : decode cX11_judge 62 = .ok (.getfield 16, 3) := by decide +kernel
theorem dX11_judge_65 : decode cX11_judge 65 = .ok (.iload_n 3, 1) := by decide +kernel
theorem dX11_judge_66 : decode cX11_judge 66 = .ok (.iaload, 1) := by decide +kernel
theorem dX11_judge_67 : decode cX11_judge 67 = .ok (.i2l, 1) := by decide +kernel
theorem dX11_judge_68 : decode cX11_judge 68 = .ok (.lcmp, 1) := by decide +kernel
theorem dX11_judge_69 : decode cX11_judge 69 = .ok (.ifCond .eq 5, 3) := by decide +kernel
theorem dX11_judge_72 : decode cX11_judge 72 = .ok (.iload_n 3, 1) := by decide +kernel
theorem dX11_judge_73 : decode cX11_judge 73 = .ok (.ireturn, 1) := by decide +kernel
theorem dX11_judge_74 : decode cX11_judge 74 = .ok (.iinc 3 1, 3) := by decide +kernel
theorem dX11_judge_77 : decode cX11_judge 77 = .ok (.goto (-58), 3) := by decide +kernel
theorem dX11_judge_80 : decode cX11_judge 80 = .ok (.aload_n 0, 1) := by decide +kernel
theorem dX11_judge_81 : decode cX11_judge 81 = .ok (.getfield 64, 3) := by decide +kernel
theorem dX11_judge_84 : decode cX11_judge 84 = .ok (.iload_n 1, 1) := by decide +kernel
theorem dX11_judge_85 : decode cX11_judge 85 = .ok (.iaload, 1) := by decide +kernel
theorem dX11_judge_86 : decode cX11_judge 86 = .ok (.bipush 12, 2) := by decide +kernel
theorem dX11_judge_88 : decode cX11_judge 88 = .ok (.if_icmp .ge 12, 3) := by decide +kernel
theorem dX11_judge_91 : decode cX11_judge 91 = .ok (.aload_n 0, 1) := by decide +kernel
theorem dX11_judge_92 : decode cX11_judge 92 = .ok (.getfield 64, 3) := by decide +kernel
theorem dX11_judge_95 : decode cX11_judge 95 = .ok (.iload_n 1, 1) := by decide +kernel
theorem dX11_judge_96 : decode cX11_judge 96 = .ok (.iaload, 1) := by decide +kernel
theorem dX11_judge_97 : decode cX11_judge 97 = .ok (.goto 21, 3) := by decide +kernel
theorem dX11_judge_100 : decode cX11_judge 100 = .ok (.aload_n 0, 1) := by decide +kernel
theorem dX11_judge_101 : decode cX11_judge 101 = .ok (.getfield 64, 3) := by decide +kernel
theorem dX11_judge_104 : decode cX11_judge 104 = .ok (.iload_n 1, 1) := by decide +kernel
theorem dX11_judge_105 : decode cX11_judge 105 = .ok (.iaload, 1) := by decide +kernel
theorem dX11_judge_106 : decode cX11_judge 106 = .ok (.bipush 12, 2) := by decide +kernel
theorem dX11_judge_108 : decode cX11_judge 108 = .ok (.if_icmp .le 8, 3) := by decide +kernel
theorem dX11_judge_111 : decode cX11_judge 111 = .ok (.bipush 12, 2) := by decide +kernel
theorem dX11_judge_113 : decode cX11_judge 113 = .ok (.goto 5, 3) := by decide +kernel
theorem dX11_judge_116 : decode cX11_judge 116 = .ok (.bipush (-4), 2) := by decide +kernel
theorem dX11_judge_118 : decode cX11_judge 118 = .ok (.ireturn, 1) := by decide +kernel
theorem dX11_count_0 : decode cX11_count 0 = .ok (.aload_n 0, 1) := by decide +kernel
theorem dX11_count_1 : decode cX11_count 1 = .ok (.iconst 0, 1) := by decide +kernel
theorem dX11_count_2 : decode cX11_count 2 = .ok (.putfield 74, 3) := by decide +kernel
theorem dX11_count_5 : decode cX11_count 5 = .ok (.aload_n 0, 1) := by decide +kernel
theorem dX11_count_6 : decode cX11_count 6 = .ok (.invokevirtual 137, 3) := by decide +kernel
theorem dX11_count_9 : decode cX11_count 9 = .ok (.iload_n 1, 1) := by decide +kernel
theorem dX11_count_10 : decode cX11_count 10 = .ok (.tableswitch 84 0 5 #[38, 43, 48, 69, 74, 79], 38) := by decide +kernel
theorem dX11_count_48 : decode cX11_count 48 = .ok (.aload_n 0, 1) := by decide +kernel
theorem dX11_count_49 : decode cX11_count 49 = .ok (.invokevirtual 223, 3) := by decide +kernel
theorem dX11_count_52 : decode cX11_count 52 = .ok (.ireturn, 1) := by decide +kernel
theorem dX11_count_53 : decode cX11_count 53 = .ok (.aload_n 0, 1) := by decide +kernel
theorem dX11_count_54 : decode cX11_count 54 = .ok (.getfield 81, 3) := by decide +kernel
theorem dX11_count_57 : decode cX11_count 57 = .ok (.ireturn, 1) := by decide +kernel
theorem dX11_count_58 : decode cX11_count 58 = .ok (.aload_n 0, 1) := by decide +kernel
theorem dX11_count_59 : decode cX11_count 59 = .ok (.getfield 22, 3) := by decide +kernel
theorem dX11_count_62 : decode cX11_count 62 = .ok (.iconst 0, 1) := by decide +kernel
theorem dX11_count_63 : decode cX11_count 63 = .ok (.iaload, 1) := by decide +kernel
theorem dX11_count_64 : decode cX11_count 64 = .ok (.aload_n 0, 1) := by decide +kernel
theorem dX11_count_65 : decode cX11_count 65 = .ok (.getfield 22, 3) := by decide +kernel
theorem dX11_count_68 : decode cX11_count 68 = .ok (.iconst 1, 1) := by decide +kernel
theorem dX11_count_69 : decode cX11_count 69 = .ok (.iaload, 1) := by decide +kernel
theorem dX11_count_70 : decode cX11_count 70 = .ok (.iadd, 1) := by decide +kernel
theorem dX11_count_71 : decode cX11_count 71 = .ok (.aload_n 0, 1) := by decide +kernel
theorem dX11_count_72 : decode cX11_count 72 = .ok (.getfield 22, 3) := by decide +kernel
theorem dX11_count_75 : decode cX11_count 75 = .ok (.iconst 2, 1) := by decide +kernel
theorem dX11_count_76 : decode cX11_count 76 = .ok (.iaload, 1) := by decide +kernel
theorem dX11_count_77 : decode cX11_count 77 = .ok (.iadd, 1) := by decide +kernel
theorem dX11_count_78 : decode cX11_count 78 = .ok (.ireturn, 1) := by decide +kernel
theorem dX11_count_79 : decode cX11_count 79 = .ok (.aload_n 0, 1) := by decide +kernel
theorem dX11_count_80 : decode cX11_count 80 = .ok (.invokevirtual 96, 3) := by decide +kernel
theorem dX11_count_83 : decode cX11_count 83 = .ok (.ireturn, 1) := by decide +kernel
theorem dX11_count_84 : decode cX11_count 84 = .ok (.aload_n 0, 1) := by decide +kernel
theorem dX11_count_85 : decode cX11_count 85 = .ok (.getfield 140, 3) := by decide +kernel
theorem dX11_count_88 : decode cX11_count 88 = .ok (.ireturn, 1) := by decide +kernel
theorem dX11_count_89 : decode cX11_count 89 = .ok (.aload_n 0, 1) := by decide +kernel
theorem dX11_count_90 : decode cX11_count 90 = .ok (.getfield 143, 3) := by decide +kernel
theorem dX11_count_93 : decode cX11_count 93 = .ok (.ireturn, 1) := by decide +kernel
theorem dX11_count_94 : decode cX11_count 94 = .ok (.iconst (-1), 1) := by decide +kernel
theorem dX11_count_95 : decode cX11_count 95 = .ok (.ireturn, 1) := by decide +kernel
theorem dX11_wrongSort_0 : decode cX11_wrongSort 0 = .ok (.aload_n 0, 1) := by decide +kernel
theorem dX11_wrongSort_1 : decode cX11_wrongSort 1 = .ok (.iload_n 1, 1) := by decide +kernel
theorem dX11_wrongSort_2 : decode cX11_wrongSort 2 = .ok (.invokevirtual 251, 3) := by decide +kernel
theorem dX11_wrongSort_5 : decode cX11_wrongSort 5 = .ok (.ifCond .ge 11, 3) := by decide +kernel
theorem dX11_wrongSort_8 : decode cX11_wrongSort 8 = .ok (.aload_n 0, 1) := by decide +kernel
theorem dX11_wrongSort_9 : decode cX11_wrongSort 9 = .ok (.iload_n 1, 1) := by decide +kernel
theorem dX11_wrongSort_10 : decode cX11_wrongSort 10 = .ok (.invokevirtual 251, 3) := by decide +kernel
theorem dX11_wrongSort_13 : decode cX11_wrongSort 13 = .ok (.goto 19, 3) := by decide +kernel
theorem dX11_wrongSort_16 : decode cX11_wrongSort 16 = .ok (.aload_n 0, 1) := by decide +kernel
theorem dX11_wrongSort_17 : decode cX11_wrongSort 17 = .ok (.getfield 61, 3) := by decide +kernel
theorem dX11_wrongSort_20 : decode cX11_wrongSort 20 = .ok (.iload_n 1, 1) := by decide +kernel
theorem dX11_wrongSort_21 : decode cX11_wrongSort 21 = .ok (.iaload, 1) := by decide +kernel
theorem dX11_wrongSort_22 : decode cX11_wrongSort 22 = .ok (.iload_n 2, 1) := by decide +kernel
theorem dX11_wrongSort_23 : decode cX11_wrongSort 23 = .ok (.if_icmp .eq 8, 3) := by decide +kernel
theorem dX11_wrongSort_26 : decode cX11_wrongSort 26 = .ok (.bipush (-12), 2) := by decide +kernel
theorem dX11_wrongSort_28 : decode cX11_wrongSort 28 = .ok (.goto 4, 3) := by decide +kernel
theorem dX11_wrongSort_31 : decode cX11_wrongSort 31 = .ok (.iconst 0, 1) := by decide +kernel
theorem dX11_wrongSort_32 : decode cX11_wrongSort 32 = .ok (.ireturn, 1) := by decide +kernel
theorem dX11_keep_0 : decode cX11_keep 0 = .ok (.aload_n 0, 1) := by decide +kernel
theorem dX11_keep_1 : decode cX11_keep 1 = .ok (.iconst 0, 1) := by decide +kernel
theorem dX11_keep_2 : decode cX11_keep 2 = .ok (.putfield 74, 3) := by decide +kernel
theorem dX11_keep_5 : decode cX11_keep 5 = .ok (.iload_n 1, 1) := by decide +kernel
theorem dX11_keep_6 : decode cX11_keep 6 = .ok (.i2l, 1) := by decide +kernel
theorem dX11_keep_7 : decode cX11_keep 7 = .ok (.lconst 0, 1) := by decide +kernel
theorem dX11_keep_8 : decode cX11_keep 8 = .ok (.ldc2_w 190, 3) := by decide +kernel
theorem dX11_keep_11 : decode cX11_keep 11 = .ok (.invokestatic 127, 3) := by decide +kernel
theorem dX11_keep_14 : decode cX11_keep 14 = .ok (.ifCond .eq 43, 3) := by decide +kernel
theorem dX11_keep_17 : decode cX11_keep 17 = .ok (.iload_n 2, 1) := by decide +kernel
theorem dX11_keep_18 : decode cX11_keep 18 = .ok (.i2l, 1) := by decide +kernel
theorem dX11_keep_19 : decode cX11_keep 19 = .ok (.lconst 0, 1) := by decide +kernel
theorem dX11_keep_20 : decode cX11_keep 20 = .ok (.lconst 1, 1) := by decide +kernel
theorem dX11_keep_21 : decode cX11_keep 21 = .ok (.invokestatic 127, 3) := by decide +kernel
theorem dX11_keep_24 : decode cX11_keep 24 = .ok (.ifCond .eq 33, 3) := by decide +kernel
theorem dX11_keep_27 : decode cX11_keep 27 = .ok (.iload_n 2, 1) := by decide +kernel
theorem dX11_keep_28 : decode cX11_keep 28 = .ok (.iconst 1, 1) := by decide +kernel
theorem dX11_keep_29 : decode cX11_keep 29 = .ok (.if_icmp .ne 30, 3) := by decide +kernel
theorem dX11_keep_32 : decode cX11_keep 32 = .ok (.iload_n 3, 1) := by decide +kernel
theorem dX11_keep_33 : decode cX11_keep 33 = .ok (.i2l, 1) := by decide +kernel
theorem dX11_keep_34 : decode cX11_keep 34 = .ok (.lconst 0, 1) := by decide +kernel
theorem dX11_keep_35 : decode cX11_keep 35 = .ok (.ldc2_w 190, 3) := by decide +kernel
theorem dX11_keep_38 : decode cX11_keep 38 = .ok (.invokestatic 127, 3) := by decide +kernel
theorem dX11_keep_41 : decode cX11_keep 41 = .ok (.ifCond .eq 16, 3) := by decide +kernel
theorem dX11_keep_44 : decode cX11_keep 44 = .ok (.iload 4, 2) := by decide +kernel
theorem dX11_keep_46 : decode cX11_keep 46 = .ok (.i2l, 1) := by decide +kernel
theorem dX11_keep_47 : decode cX11_keep 47 = .ok (.lconst 0, 1) := by decide +kernel
theorem dX11_keep_48 : decode cX11_keep 48 = .ok (.ldc2_w 188, 3) := by decide +kernel
theorem dX11_keep_51 : decode cX11_keep 51 = .ok (.invokestatic 127, 3) := by decide +kernel
theorem dX11_keep_54 : decode cX11_keep 54 = .ok (.ifCond .ne 5, 3) := by decide +kernel
theorem dX11_keep_57 : decode cX11_keep 57 = .ok (.iconst (-1), 1) := by decide +kernel
theorem dX11_keep_58 : decode cX11_keep 58 = .ok (.ireturn, 1) := by decide +kernel
theorem dX11_keep_59 : decode cX11_keep 59 = .ok (.aload_n 0, 1) := by decide +kernel
theorem dX11_keep_60 : decode cX11_keep 60 = .ok (.getfield 52, 3) := by decide +kernel
theorem dX11_keep_63 : decode cX11_keep 63 = .ok (.iload_n 1, 1) := by decide +kernel
theorem dX11_keep_64 : decode cX11_keep 64 = .ok (.iload_n 2, 1) := by decide +kernel
theorem dX11_keep_65 : decode cX11_keep 65 = .ok (.iastore, 1) := by decide +kernel
theorem dX11_keep_66 : decode cX11_keep 66 = .ok (.aload_n 0, 1) := by decide +kernel
theorem dX11_keep_67 : decode cX11_keep 67 = .ok (.getfield 55, 3) := by decide +kernel
theorem dX11_keep_70 : decode cX11_keep 70 = .ok (.iload_n 1, 1) := by decide +kernel
theorem dX11_keep_71 : decode cX11_keep 71 = .ok (.iload_n 2, 1) := by decide +kernel
theorem dX11_keep_72 : decode cX11_keep 72 = .ok (.iconst 1, 1) := by decide +kernel
theorem dX11_keep_73 : decode cX11_keep 73 = .ok (.if_icmp .ne 7, 3) := by decide +kernel
theorem dX11_keep_76 : decode cX11_keep 76 = .ok (.iload_n 3, 1) := by decide +kernel
theorem dX11_keep_77 : decode cX11_keep 77 = .ok (.goto 4, 3) := by decide +kernel
theorem dX11_keep_80 : decode cX11_keep 80 = .ok (.iconst 0, 1) := by decide +kernel
theorem dX11_keep_81 : decode cX11_keep 81 = .ok (.iastore, 1) := by decide +kernel
theorem dX11_keep_82 : decode cX11_keep 82 = .ok (.aload_n 0, 1) := by decide +kernel
theorem dX11_keep_83 : decode cX11_keep 83 = .ok (.getfield 58, 3) := by decide +kernel
theorem dX11_keep_86 : decode cX11_keep 86 = .ok (.iload_n 1, 1) := by decide +kernel
theorem dX11_keep_87 : decode cX11_keep 87 = .ok (.iload_n 2, 1) := by decide +kernel
theorem dX11_keep_88 : decode cX11_keep 88 = .ok (.iconst 1, 1) := by decide +kernel
theorem dX11_keep_89 : decode cX11_keep 89 = .ok (.if_icmp .ne 8, 3) := by decide +kernel
theorem dX11_keep_92 : decode cX11_keep 92 = .ok (.iload 4, 2) := by decide +kernel
theorem dX11_keep_94 : decode cX11_keep 94 = .ok (.goto 4, 3) := by decide +kernel
theorem dX11_keep_97 : decode cX11_keep 97 = .ok (.iconst 0, 1) := by decide +kernel
theorem dX11_keep_98 : decode cX11_keep 98 = .ok (.iastore, 1) := by decide +kernel
theorem dX11_keep_99 : decode cX11_keep 99 = .ok (.iconst 0, 1) := by decide +kernel
theorem dX11_keep_100 : decode cX11_keep 100 = .ok (.ireturn, 1) := by decide +kernel
theorem dX11_wrongRow_0 : decode cX11_wrongRow 0 = .ok (.iload_n 1, 1) := by decide +kernel
theorem dX11_wrongRow_1 : decode cX11_wrongRow 1 = .ok (.i2l, 1) := by decide +kernel
theorem dX11_wrongRow_2 : decode cX11_wrongRow 2 = .ok (.lconst 0, 1) := by decide +kernel
theorem dX11_wrongRow_3 : decode cX11_wrongRow 3 = .ok (.ldc2_w 190, 3) := by decide +kernel
theorem dX11_wrongRow_6 : decode cX11_wrongRow 6 = .ok (.invokestatic 127, 3) := by decide +kernel
theorem dX11_wrongRow_9 : decode cX11_wrongRow 9 = .ok (.ifCond .ne 7, 3) := by decide +kernel
theorem dX11_wrongRow_12 : decode cX11_wrongRow 12 = .ok (.iconst (-1), 1) := by decide +kernel
theorem dX11_wrongRow_13 : decode cX11_wrongRow 13 = .ok (.goto 33, 3) := by decide +kernel
theorem dX11_wrongRow_16 : decode cX11_wrongRow 16 = .ok (.aload_n 0, 1) := by decide +kernel
theorem dX11_wrongRow_17 : decode cX11_wrongRow 17 = .ok (.getfield 52, 3) := by decide +kernel
theorem dX11_wrongRow_20 : decode cX11_wrongRow 20 = .ok (.iload_n 1, 1) := by decide +kernel
theorem dX11_wrongRow_21 : decode cX11_wrongRow 21 = .ok (.iaload, 1) := by decide +kernel
theorem dX11_wrongRow_22 : decode cX11_wrongRow 22 = .ok (.ifCond .ne 8, 3) := by decide +kernel
theorem dX11_wrongRow_25 : decode cX11_wrongRow 25 = .ok (.bipush (-11), 2) := by decide +kernel
theorem dX11_wrongRow_27 : decode cX11_wrongRow 27 = .ok (.goto 19, 3) := by decide +kernel
theorem dX11_wrongRow_30 : decode cX11_wrongRow 30 = .ok (.aload_n 0, 1) := by decide +kernel
theorem dX11_wrongRow_31 : decode cX11_wrongRow 31 = .ok (.getfield 52, 3) := by decide +kernel
theorem dX11_wrongRow_34 : decode cX11_wrongRow 34 = .ok (.iload_n 1, 1) := by decide +kernel
theorem dX11_wrongRow_35 : decode cX11_wrongRow 35 = .ok (.iaload, 1) := by decide +kernel
theorem dX11_wrongRow_36 : decode cX11_wrongRow 36 = .ok (.iconst 2, 1) := by decide +kernel
theorem dX11_wrongRow_37 : decode cX11_wrongRow 37 = .ok (.if_icmp .eq 8, 3) := by decide +kernel
theorem dX11_wrongRow_40 : decode cX11_wrongRow 40 = .ok (.bipush (-12), 2) := by decide +kernel
theorem dX11_wrongRow_42 : decode cX11_wrongRow 42 = .ok (.goto 4, 3) := by decide +kernel
theorem dX11_wrongRow_45 : decode cX11_wrongRow 45 = .ok (.iconst 0, 1) := by decide +kernel
theorem dX11_wrongRow_46 : decode cX11_wrongRow 46 = .ok (.ireturn, 1) := by decide +kernel
theorem dX11_narrowed_0 : decode cX11_narrowed 0 = .ok (.iload_n 1, 1) := by decide +kernel
theorem dX11_narrowed_1 : decode cX11_narrowed 1 = .ok (.ifCond .ne 9, 3) := by decide +kernel
theorem dX11_narrowed_4 : decode cX11_narrowed 4 = .ok (.iload_n 0, 1) := by decide +kernel
theorem dX11_narrowed_5 : decode cX11_narrowed 5 = .ok (.i2b, 1) := by decide +kernel
theorem dX11_narrowed_6 : decode cX11_narrowed 6 = .ok (.i2l, 1) := by decide +kernel
theorem dX11_narrowed_7 : decode cX11_narrowed 7 = .ok (.goto 16, 3) := by decide +kernel
theorem dX11_narrowed_10 : decode cX11_narrowed 10 = .ok (.iload_n 1, 1) := by decide +kernel
theorem dX11_narrowed_11 : decode cX11_narrowed 11 = .ok (.iconst 1, 1) := by decide +kernel
theorem dX11_narrowed_12 : decode cX11_narrowed 12 = .ok (.if_icmp .ne 9, 3) := by decide +kernel
theorem dX11_narrowed_15 : decode cX11_narrowed 15 = .ok (.iload_n 0, 1) := by decide +kernel
theorem dX11_narrowed_16 : decode cX11_narrowed 16 = .ok (.i2s, 1) := by decide +kernel
theorem dX11_narrowed_17 : decode cX11_narrowed 17 = .ok (.i2l, 1) := by decide +kernel
theorem dX11_narrowed_18 : decode cX11_narrowed 18 = .ok (.goto 5, 3) := by decide +kernel
theorem dX11_narrowed_21 : decode cX11_narrowed 21 = .ok (.iload_n 0, 1) := by decide +kernel
theorem dX11_narrowed_22 : decode cX11_narrowed 22 = .ok (.i2l, 1) := by decide +kernel
theorem dX11_narrowed_23 : decode cX11_narrowed 23 = .ok (.lreturn, 1) := by decide +kernel
theorem dX11_row_0 : decode cX11_row 0 = .ok (.aload_n 0, 1) := by decide +kernel
theorem dX11_row_1 : decode cX11_row 1 = .ok (.iconst 0, 1) := by decide +kernel
theorem dX11_row_2 : decode cX11_row 2 = .ok (.putfield 74, 3) := by decide +kernel
theorem dX11_row_5 : decode cX11_row 5 = .ok (.iload_n 1, 1) := by decide +kernel
theorem dX11_row_6 : decode cX11_row 6 = .ok (.i2l, 1) := by decide +kernel
theorem dX11_row_7 : decode cX11_row 7 = .ok (.lconst 0, 1) := by decide +kernel
theorem dX11_row_8 : decode cX11_row 8 = .ok (.ldc2_w 190, 3) := by decide +kernel
theorem dX11_row_11 : decode cX11_row 11 = .ok (.invokestatic 127, 3) := by decide +kernel
theorem dX11_row_14 : decode cX11_row 14 = .ok (.ifCond .eq 21, 3) := by decide +kernel
theorem dX11_row_17 : decode cX11_row 17 = .ok (.iload_n 2, 1) := by decide +kernel
theorem dX11_row_18 : decode cX11_row 18 = .ok (.i2l, 1) := by decide +kernel
theorem dX11_row_19 : decode cX11_row 19 = .ok (.lconst 0, 1) := by decide +kernel
theorem dX11_row_20 : decode cX11_row 20 = .ok (.ldc2_w 195, 3) := by decide +kernel
theorem dX11_row_23 : decode cX11_row 23 = .ok (.invokestatic 127, 3) := by decide +kernel
theorem dX11_row_26 : decode cX11_row 26 = .ok (.ifCond .eq 9, 3) := by decide +kernel
theorem dX11_row_29 : decode cX11_row 29 = .ok (.iload_n 3, 1) := by decide +kernel
theorem dX11_row_30 : decode cX11_row 30 = .ok (.bipush 100, 2) := by decide +kernel
theorem dX11_row_32 : decode cX11_row 32 = .ok (.if_icmp .le 5, 3) := by decide +kernel
theorem dX11_row_35 : decode cX11_row 35 = .ok (.iconst (-1), 1) := by decide +kernel
theorem dX11_row_36 : decode cX11_row 36 = .ok (.ireturn, 1) := by decide +kernel
theorem dX11_row_37 : decode cX11_row 37 = .ok (.iload_n 3, 1) := by decide +kernel
theorem dX11_row_38 : decode cX11_row 38 = .ok (.ifCond .ge 6, 3) := by decide +kernel
theorem dX11_row_41 : decode cX11_row 41 = .ok (.bipush (-14), 2) := by decide +kernel
theorem dX11_row_43 : decode cX11_row 43 = .ok (.ireturn, 1) := by decide +kernel
theorem dX11_row_44 : decode cX11_row 44 = .ok (.aload_n 0, 1) := by decide +kernel
theorem dX11_row_45 : decode cX11_row 45 = .ok (.getfield 52, 3) := by decide +kernel
theorem dX11_row_48 : decode cX11_row 48 = .ok (.iload_n 1, 1) := by decide +kernel
theorem dX11_row_49 : decode cX11_row 49 = .ok (.iconst 2, 1) := by decide +kernel
theorem dX11_row_50 : decode cX11_row 50 = .ok (.iastore, 1) := by decide +kernel
theorem dX11_row_51 : decode cX11_row 51 = .ok (.aload_n 0, 1) := by decide +kernel
theorem dX11_row_52 : decode cX11_row 52 = .ok (.getfield 61, 3) := by decide +kernel
theorem dX11_row_55 : decode cX11_row 55 = .ok (.iload_n 1, 1) := by decide +kernel
theorem dX11_row_56 : decode cX11_row 56 = .ok (.iload_n 2, 1) := by decide +kernel
theorem dX11_row_57 : decode cX11_row 57 = .ok (.iastore, 1) := by decide +kernel
theorem dX11_row_58 : decode cX11_row 58 = .ok (.aload_n 0, 1) := by decide +kernel
theorem dX11_row_59 : decode cX11_row 59 = .ok (.getfield 64, 3) := by decide +kernel
theorem dX11_row_62 : decode cX11_row 62 = .ok (.iload_n 1, 1) := by decide +kernel
theorem dX11_row_63 : decode cX11_row 63 = .ok (.iload_n 3, 1) := by decide +kernel
theorem dX11_row_64 : decode cX11_row 64 = .ok (.iastore, 1) := by decide +kernel
theorem dX11_row_65 : decode cX11_row 65 = .ok (.iconst 0, 1) := by decide +kernel
theorem dX11_row_66 : decode cX11_row 66 = .ok (.istore 4, 2) := by decide +kernel
theorem dX11_row_68 : decode cX11_row 68 = .ok (.iload 4, 2) := by decide +kernel
theorem dX11_row_70 : decode cX11_row 70 = .ok (.bipush 100, 2) := by decide +kernel
theorem dX11_row_72 : decode cX11_row 72 = .ok (.if_icmp .ge 22, 3) := by decide +kernel
theorem dX11_row_75 : decode cX11_row 75 = .ok (.aload_n 0, 1) := by decide +kernel
theorem dX11_row_76 : decode cX11_row 76 = .ok (.getfield 67, 3) := by decide +kernel
theorem dX11_row_79 : decode cX11_row 79 = .ok (.bipush 100, 2) := by decide +kernel
theorem dX11_row_81 : decode cX11_row 81 = .ok (.iload_n 1, 1) := by decide +kernel
theorem dX11_row_82 : decode cX11_row 82 = .ok (.imul, 1) := by decide +kernel
theorem dX11_row_83 : decode cX11_row 83 = .ok (.iload 4, 2) := by decide +kernel
theorem dX11_row_85 : decode cX11_row 85 = .ok (.iadd, 1) := by decide +kernel
theorem dX11_row_86 : decode cX11_row 86 = .ok (.lconst 0, 1) := by decide +kernel
theorem dX11_row_87 : decode cX11_row 87 = .ok (.lastore, 1) := by decide +kernel
theorem dX11_row_88 : decode cX11_row 88 = .ok (.iinc 4 1, 3) := by decide +kernel
theorem dX11_row_91 : decode cX11_row 91 = .ok (.goto (-23), 3) := by decide +kernel
theorem dX11_row_94 : decode cX11_row 94 = .ok (.iconst 0, 1) := by decide +kernel
theorem dX11_row_95 : decode cX11_row 95 = .ok (.ireturn, 1) := by decide +kernel
theorem dX11_put_0 : decode cX11_put 0 = .ok (.aload_n 0, 1) := by decide +kernel
theorem dX11_put_1 : decode cX11_put 1 = .ok (.iconst 0, 1) := by decide +kernel
theorem dX11_put_2 : decode cX11_put 2 = .ok (.putfield 74, 3) := by decide +kernel
theorem dX11_put_5 : decode cX11_put 5 = .ok (.aload_n 0, 1) := by decide +kernel
theorem dX11_put_6 : decode cX11_put 6 = .ok (.iload_n 1, 1) := by decide +kernel
theorem dX11_put_7 : decode cX11_put 7 = .ok (.invokevirtual 251, 3) := by decide +kernel
theorem dX11_put_10 : decode cX11_put 10 = .ok (.istore 4, 2) := by decide +kernel
theorem dX11_put_12 : decode cX11_put 12 = .ok (.iload 4, 2) := by decide +kernel
theorem dX11_put_14 : decode cX11_put 14 = .ok (.ifCond .ge 6, 3) := by decide +kernel
theorem dX11_put_17 : decode cX11_put 17 = .ok (.iload 4, 2) := by decide +kernel
theorem dX11_put_19 : decode cX11_put 19 = .ok (.ireturn, 1) := by decide +kernel
theorem dX11_put_20 : decode cX11_put 20 = .ok (.iload_n 2, 1) := by decide +kernel
theorem dX11_put_21 : decode cX11_put 21 = .ok (.i2l, 1) := by decide +kernel
theorem dX11_put_22 : decode cX11_put 22 = .ok (.lconst 0, 1) := by decide +kernel
theorem dX11_put_23 : decode cX11_put 23 = .ok (.aload_n 0, 1) := by decide +kernel
theorem dX11_put_24 : decode cX11_put 24 = .ok (.getfield 64, 3) := by decide +kernel
theorem dX11_put_27 : decode cX11_put 27 = .ok (.iload_n 1, 1) := by decide +kernel
theorem dX11_put_28 : decode cX11_put 28 = .ok (.iaload, 1) := by decide +kernel
theorem dX11_put_29 : decode cX11_put 29 = .ok (.iconst 1, 1) := by decide +kernel
theorem dX11_put_30 : decode cX11_put 30 = .ok (.isub, 1) := by decide +kernel
theorem dX11_put_31 : decode cX11_put 31 = .ok (.i2l, 1) := by decide +kernel
theorem dX11_put_32 : decode cX11_put 32 = .ok (.invokestatic 127, 3) := by decide +kernel
theorem dX11_put_35 : decode cX11_put 35 = .ok (.ifCond .ne 6, 3) := by decide +kernel
theorem dX11_put_38 : decode cX11_put 38 = .ok (.bipush (-13), 2) := by decide +kernel
theorem dX11_put_40 : decode cX11_put 40 = .ok (.ireturn, 1) := by decide +kernel
theorem dX11_put_41 : decode cX11_put 41 = .ok (.aload_n 0, 1) := by decide +kernel
theorem dX11_put_42 : decode cX11_put 42 = .ok (.getfield 67, 3) := by decide +kernel
theorem dX11_put_45 : decode cX11_put 45 = .ok (.bipush 100, 2) := by decide +kernel
theorem dX11_put_47 : decode cX11_put 47 = .ok (.iload_n 1, 1) := by decide +kernel
theorem dX11_put_48 : decode cX11_put 48 = .ok (.imul, 1) := by decide +kernel
theorem dX11_put_49 : decode cX11_put 49 = .ok (.iload_n 2, 1) := by decide +kernel
theorem dX11_put_50 : decode cX11_put 50 = .ok (.iadd, 1) := by decide +kernel
theorem dX11_put_51 : decode cX11_put 51 = .ok (.iload_n 3, 1) := by decide +kernel
theorem dX11_put_52 : decode cX11_put 52 = .ok (.aload_n 0, 1) := by decide +kernel
theorem dX11_put_53 : decode cX11_put 53 = .ok (.getfield 61, 3) := by decide +kernel
theorem dX11_put_56 : decode cX11_put 56 = .ok (.iload_n 1, 1) := by decide +kernel
theorem dX11_put_57 : decode cX11_put 57 = .ok (.iaload, 1) := by decide +kernel
theorem dX11_put_58 : decode cX11_put 58 = .ok (.invokestatic 258, 3) := by decide +kernel
theorem dX11_put_61 : decode cX11_put 61 = .ok (.lastore, 1) := by decide +kernel
theorem dX11_put_62 : decode cX11_put 62 = .ok (.iconst 0, 1) := by decide +kernel
theorem dX11_put_63 : decode cX11_put 63 = .ok (.ireturn, 1) := by decide +kernel
theorem dX11_element_0 : decode cX11_element 0 = .ok (.aload_n 0, 1) := by decide +kernel
theorem dX11_element_1 : decode cX11_element 1 = .ok (.iload_n 1, 1) := by decide +kernel
theorem dX11_element_2 : decode cX11_element 2 = .ok (.invokevirtual 251, 3) := by decide +kernel
theorem dX11_element_5 : decode cX11_element 5 = .ok (.istore_n 3, 1) := by decide +kernel
theorem dX11_element_6 : decode cX11_element 6 = .ok (.aload_n 0, 1) := by decide +kernel
theorem dX11_element_7 : decode cX11_element 7 = .ok (.iload_n 3, 1) := by decide +kernel
theorem dX11_element_8 : decode cX11_element 8 = .ok (.iconst (-1), 1) := by decide +kernel
theorem dX11_element_9 : decode cX11_element 9 = .ok (.if_icmp .ne 7, 3) := by decide +kernel
theorem dX11_element_12 : decode cX11_element 12 = .ok (.iconst 1, 1) := by decide +kernel
theorem dX11_element_13 : decode cX11_element 13 = .ok (.goto 30, 3) := by decide +kernel
theorem dX11_element_16 : decode cX11_element 16 = .ok (.iload_n 3, 1) := by decide +kernel
theorem dX11_element_17 : decode cX11_element 17 = .ok (.ifCond .lt 21, 3) := by decide +kernel
theorem dX11_element_20 : decode cX11_element 20 = .ok (.iload_n 2, 1) := by decide +kernel
theorem dX11_element_21 : decode cX11_element 21 = .ok (.i2l, 1) := by decide +kernel
theorem dX11_element_22 : decode cX11_element 22 = .ok (.lconst 0, 1) := by decide +kernel
theorem dX11_element_23 : decode cX11_element 23 = .ok (.aload_n 0, 1) := by decide +kernel
theorem dX11_element_24 : decode cX11_element 24 = .ok (.getfield 64, 3) := by decide +kernel
theorem dX11_element_27 : decode cX11_element 27 = .ok (.iload_n 1, 1) := by decide +kernel
theorem dX11_element_28 : decode cX11_element 28 = .ok (.iaload, 1) := by decide +kernel
theorem dX11_element_29 : decode cX11_element 29 = .ok (.iconst 1, 1) := by decide +kernel
theorem dX11_element_30 : decode cX11_element 30 = .ok (.isub, 1) := by decide +kernel
theorem dX11_element_31 : decode cX11_element 31 = .ok (.i2l, 1) := by decide +kernel
theorem dX11_element_32 : decode cX11_element 32 = .ok (.invokestatic 127, 3) := by decide +kernel
theorem dX11_element_35 : decode cX11_element 35 = .ok (.ifCond .ne 7, 3) := by decide +kernel
theorem dX11_element_38 : decode cX11_element 38 = .ok (.iconst 2, 1) := by decide +kernel
theorem dX11_element_39 : decode cX11_element 39 = .ok (.goto 4, 3) := by decide +kernel
theorem dX11_element_42 : decode cX11_element 42 = .ok (.iconst 0, 1) := by decide +kernel
theorem dX11_element_43 : decode cX11_element 43 = .ok (.putfield 74, 3) := by decide +kernel
theorem dX11_element_46 : decode cX11_element 46 = .ok (.aload_n 0, 1) := by decide +kernel
theorem dX11_element_47 : decode cX11_element 47 = .ok (.getfield 74, 3) := by decide +kernel
theorem dX11_element_50 : decode cX11_element 50 = .ok (.ifCond .le 7, 3) := by decide +kernel
theorem dX11_element_53 : decode cX11_element 53 = .ok (.lconst 0, 1) := by decide +kernel
theorem dX11_element_54 : decode cX11_element 54 = .ok (.goto 14, 3) := by decide +kernel
theorem dX11_element_57 : decode cX11_element 57 = .ok (.aload_n 0, 1) := by decide +kernel
theorem dX11_element_58 : decode cX11_element 58 = .ok (.getfield 67, 3) := by decide +kernel
theorem dX11_element_61 : decode cX11_element 61 = .ok (.bipush 100, 2) := by decide +kernel
theorem dX11_element_63 : decode cX11_element 63 = .ok (.iload_n 1, 1) := by decide +kernel
theorem dX11_element_64 : decode cX11_element 64 = .ok (.imul, 1) := by decide +kernel
theorem dX11_element_65 : decode cX11_element 65 = .ok (.iload_n 2, 1) := by decide +kernel
theorem dX11_element_66 : decode cX11_element 66 = .ok (.iadd, 1) := by decide +kernel
theorem dX11_element_67 : decode cX11_element 67 = .ok (.laload, 1) := by decide +kernel
theorem dX11_element_68 : decode cX11_element 68 = .ok (.lreturn, 1) := by decide +kernel
theorem dX11_copy_0 : decode cX11_copy 0 = .ok (.aload_n 0, 1) := by decide +kernel
theorem dX11_copy_1 : decode cX11_copy 1 = .ok (.iconst 0, 1) := by decide +kernel
theorem dX11_copy_2 : decode cX11_copy 2 = .ok (.putfield 74, 3) := by decide +kernel
theorem dX11_copy_5 : decode cX11_copy 5 = .ok (.iload_n 1, 1) := by decide +kernel
theorem dX11_copy_6 : decode cX11_copy 6 = .ok (.i2l, 1) := by decide +kernel
theorem dX11_copy_7 : decode cX11_copy 7 = .ok (.lconst 0, 1) := by decide +kernel
theorem dX11_copy_8 : decode cX11_copy 8 = .ok (.ldc2_w 190, 3) := by decide +kernel
theorem dX11_copy_11 : decode cX11_copy 11 = .ok (.invokestatic 127, 3) := by decide +kernel
theorem dX11_copy_14 : decode cX11_copy 14 = .ok (.ifCond .eq 15, 3) := by decide +kernel
theorem dX11_copy_17 : decode cX11_copy 17 = .ok (.iload_n 3, 1) := by decide +kernel
theorem dX11_copy_18 : decode cX11_copy 18 = .ok (.i2l, 1) := by decide +kernel
theorem dX11_copy_19 : decode cX11_copy 19 = .ok (.lconst 0, 1) := by decide +kernel
theorem dX11_copy_20 : decode cX11_copy 20 = .ok (.ldc2_w 190, 3) := by decide +kernel
theorem dX11_copy_23 : decode cX11_copy 23 = .ok (.invokestatic 127, 3) := by decide +kernel
theorem dX11_copy_26 : decode cX11_copy 26 = .ok (.ifCond .ne 5, 3) := by decide +kernel
theorem dX11_copy_29 : decode cX11_copy 29 = .ok (.iconst (-1), 1) := by decide +kernel
theorem dX11_copy_30 : decode cX11_copy 30 = .ok (.ireturn, 1) := by decide +kernel
theorem dX11_copy_31 : decode cX11_copy 31 = .ok (.aload_n 0, 1) := by decide +kernel
theorem dX11_copy_32 : decode cX11_copy 32 = .ok (.getfield 52, 3) := by decide +kernel
theorem dX11_copy_35 : decode cX11_copy 35 = .ok (.iload_n 1, 1) := by decide +kernel
theorem dX11_copy_36 : decode cX11_copy 36 = .ok (.iaload, 1) := by decide +kernel
theorem dX11_copy_37 : decode cX11_copy 37 = .ok (.ifCond .eq 12, 3) := by decide +kernel
theorem dX11_copy_40 : decode cX11_copy 40 = .ok (.aload_n 0, 1) := by decide +kernel
theorem dX11_copy_41 : decode cX11_copy 41 = .ok (.getfield 52, 3) := by decide +kernel
theorem dX11_copy_44 : decode cX11_copy 44 = .ok (.iload_n 3, 1) := by decide +kernel
theorem dX11_copy_45 : decode cX11_copy 45 = .ok (.iaload, 1) := by decide +kernel
theorem dX11_copy_46 : decode cX11_copy 46 = .ok (.ifCond .ne 6, 3) := by decide +kernel
theorem dX11_copy_49 : decode cX11_copy 49 = .ok (.bipush (-11), 2) := by decide +kernel
theorem dX11_copy_51 : decode cX11_copy 51 = .ok (.ireturn, 1) := by decide +kernel
theorem dX11_copy_52 : decode cX11_copy 52 = .ok (.aload_n 0, 1) := by decide +kernel
theorem dX11_copy_53 : decode cX11_copy 53 = .ok (.getfield 52, 3) := by decide +kernel
theorem dX11_copy_56 : decode cX11_copy 56 = .ok (.iload_n 1, 1) := by decide +kernel
theorem dX11_copy_57 : decode cX11_copy 57 = .ok (.iaload, 1) := by decide +kernel
theorem dX11_copy_58 : decode cX11_copy 58 = .ok (.iconst 2, 1) := by decide +kernel
theorem dX11_copy_59 : decode cX11_copy 59 = .ok (.if_icmp .ne 28, 3) := by decide +kernel
theorem dX11_copy_62 : decode cX11_copy 62 = .ok (.aload_n 0, 1) := by decide +kernel
theorem dX11_copy_63 : decode cX11_copy 63 = .ok (.getfield 52, 3) := by decide +kernel
theorem dX11_copy_66 : decode cX11_copy 66 = .ok (.iload_n 3, 1) := by decide +kernel
theorem dX11_copy_67 : decode cX11_copy 67 = .ok (.iaload, 1) := by decide +kernel
theorem dX11_copy_68 : decode cX11_copy 68 = .ok (.iconst 2, 1) := by decide +kernel
theorem dX11_copy_69 : decode cX11_copy 69 = .ok (.if_icmp .ne 18, 3) := by decide +kernel
theorem dX11_copy_72 : decode cX11_copy 72 = .ok (.aload_n 0, 1) := by decide +kernel
theorem dX11_copy_73 : decode cX11_copy 73 = .ok (.getfield 61, 3) := by decide +kernel
theorem dX11_copy_76 : decode cX11_copy 76 = .ok (.iload_n 1, 1) := by decide +kernel
theorem dX11_copy_77 : decode cX11_copy 77 = .ok (.iaload, 1) := by decide +kernel
theorem dX11_copy_78 : decode cX11_copy 78 = .ok (.aload_n 0, 1) := by decide +kernel
theorem dX11_copy_79 : decode cX11_copy 79 = .ok (.getfield 61, 3) := by decide +kernel
theorem dX11_copy_82 : decode cX11_copy 82 = .ok (.iload_n 3, 1) := by decide +kernel
theorem dX11_copy_83 : decode cX11_copy 83 = .ok (.iaload, 1) := by decide +kernel
theorem dX11_copy_84 : decode cX11_copy 84 = .ok (.if_icmp .eq 6, 3) := by decide +kernel
theorem dX11_copy_87 : decode cX11_copy 87 = .ok (.bipush (-12), 2) := by decide +kernel
theorem dX11_copy_89 : decode cX11_copy 89 = .ok (.ireturn, 1) := by decide +kernel
theorem dX11_copy_90 : decode cX11_copy 90 = .ok (.iload 5, 2) := by decide +kernel
theorem dX11_copy_92 : decode cX11_copy 92 = .ok (.ifCond .lt 39, 3) := by decide +kernel
theorem dX11_copy_95 : decode cX11_copy 95 = .ok (.iload_n 2, 1) := by decide +kernel
theorem dX11_copy_96 : decode cX11_copy 96 = .ok (.ifCond .lt 35, 3) := by decide +kernel
theorem dX11_copy_99 : decode cX11_copy 99 = .ok (.iload 4, 2) := by decide +kernel
theorem dX11_copy_101 : decode cX11_copy 101 = .ok (.ifCond .lt 30, 3) := by decide +kernel
theorem dX11_copy_104 : decode cX11_copy 104 = .ok (.iload_n 2, 1) := by decide +kernel
theorem dX11_copy_105 : decode cX11_copy 105 = .ok (.aload_n 0, 1) := by decide +kernel
theorem dX11_copy_106 : decode cX11_copy 106 = .ok (.getfield 64, 3) := by decide +kernel
theorem dX11_copy_109 : decode cX11_copy 109 = .ok (.iload_n 1, 1) := by decide +kernel
theorem dX11_copy_110 : decode cX11_copy 110 = .ok (.iaload, 1) := by decide +kernel
theorem dX11_copy_111 : decode cX11_copy 111 = .ok (.iload 5, 2) := by decide +kernel
theorem dX11_copy_113 : decode cX11_copy 113 = .ok (.isub, 1) := by decide +kernel
theorem dX11_copy_114 : decode cX11_copy 114 = .ok (.if_icmp .gt 17, 3) := by decide +kernel
theorem dX11_copy_117 : decode cX11_copy 117 = .ok (.iload 4, 2) := by decide +kernel
theorem dX11_copy_119 : decode cX11_copy 119 = .ok (.aload_n 0, 1) := by decide +kernel
theorem dX11_copy_120 : decode cX11_copy 120 = .ok (.getfield 64, 3) := by decide +kernel
theorem dX11_copy_123 : decode cX11_copy 123 = .ok (.iload_n 3, 1) := by decide +kernel
theorem dX11_copy_124 : decode cX11_copy 124 = .ok (.iaload, 1) := by decide +kernel
theorem dX11_copy_125 : decode cX11_copy 125 = .ok (.iload 5, 2) := by decide +kernel
theorem dX11_copy_127 : decode cX11_copy 127 = .ok (.isub, 1) := by decide +kernel
theorem dX11_copy_128 : decode cX11_copy 128 = .ok (.if_icmp .le 6, 3) := by decide +kernel
theorem dX11_copy_131 : decode cX11_copy 131 = .ok (.bipush (-13), 2) := by decide +kernel
theorem dX11_copy_133 : decode cX11_copy 133 = .ok (.ireturn, 1) := by decide +kernel
theorem dX11_copy_134 : decode cX11_copy 134 = .ok (.iconst 0, 1) := by decide +kernel
theorem dX11_copy_135 : decode cX11_copy 135 = .ok (.istore 6, 2) := by decide +kernel
theorem dX11_copy_137 : decode cX11_copy 137 = .ok (.iload 6, 2) := by decide +kernel
theorem dX11_copy_139 : decode cX11_copy 139 = .ok (.iload 5, 2) := by decide +kernel
theorem dX11_copy_141 : decode cX11_copy 141 = .ok (.if_icmp .ge 30, 3) := by decide +kernel
theorem dX11_copy_144 : decode cX11_copy 144 = .ok (.aload_n 0, 1) := by decide +kernel
theorem dX11_copy_145 : decode cX11_copy 145 = .ok (.getfield 71, 3) := by decide +kernel
theorem dX11_copy_148 : decode cX11_copy 148 = .ok (.iload 6, 2) := by decide +kernel
theorem dX11_copy_150 : decode cX11_copy 150 = .ok (.aload_n 0, 1) := by decide +kernel
theorem dX11_copy_151 : decode cX11_copy 151 = .ok (.getfield 67, 3) := by decide +kernel
theorem dX11_copy_154 : decode cX11_copy 154 = .ok (.bipush 100, 2) := by decide +kernel
theorem dX11_copy_156 : decode cX11_copy 156 = .ok (.iload_n 1, 1) := by decide +kernel
theorem dX11_copy_157 : decode cX11_copy 157 = .ok (.imul, 1) := by decide +kernel
theorem dX11_copy_158 : decode cX11_copy 158 = .ok (.iload_n 2, 1) := by decide +kernel
theorem dX11_copy_159 : decode cX11_copy 159 = .ok (.iadd, 1) := by decide +kernel
theorem dX11_copy_160 : decode cX11_copy 160 = .ok (.iload 6, 2) := by decide +kernel
theorem dX11_copy_162 : decode cX11_copy 162 = .ok (.iadd, 1) := by decide +kernel
theorem dX11_copy_163 : decode cX11_copy 163 = .ok (.laload, 1) := by decide +kernel
theorem dX11_copy_164 : decode cX11_copy 164 = .ok (.lastore, 1) := by decide +kernel
theorem dX11_copy_165 : decode cX11_copy 165 = .ok (.iinc 6 1, 3) := by decide +kernel
theorem dX11_copy_168 : decode cX11_copy 168 = .ok (.goto (-31), 3) := by decide +kernel
theorem dX11_copy_171 : decode cX11_copy 171 = .ok (.iconst 0, 1) := by decide +kernel
theorem dX11_copy_172 : decode cX11_copy 172 = .ok (.istore 6, 2) := by decide +kernel
theorem dX11_copy_174 : decode cX11_copy 174 = .ok (.iload 6, 2) := by decide +kernel
theorem dX11_copy_176 : decode cX11_copy 176 = .ok (.iload 5, 2) := by decide +kernel
theorem dX11_copy_178 : decode cX11_copy 178 = .ok (.if_icmp .ge 31, 3) := by decide +kernel
theorem dX11_copy_181 : decode cX11_copy 181 = .ok (.aload_n 0, 1) := by decide +kernel
theorem dX11_copy_182 : decode cX11_copy 182 = .ok (.getfield 67, 3) := by decide +kernel
theorem dX11_copy_185 : decode cX11_copy 185 = .ok (.bipush 100, 2) := by decide +kernel
theorem dX11_copy_187 : decode cX11_copy 187 = .ok (.iload_n 3, 1) := by decide +kernel
theorem dX11_copy_188 : decode cX11_copy 188 = .ok (.imul, 1) := by decide +kernel
theorem dX11_copy_189 : decode cX11_copy 189 = .ok (.iload 4, 2) := by decide +kernel
theorem dX11_copy_191 : decode cX11_copy 191 = .ok (.iadd, 1) := by decide +kernel
theorem dX11_copy_192 : decode cX11_copy 192 = .ok (.iload 6, 2) := by decide +kernel
theorem dX11_copy_194 : decode cX11_copy 194 = .ok (.iadd, 1) := by decide +kernel
theorem dX11_copy_195 : decode cX11_copy 195 = .ok (.aload_n 0, 1) := by decide +kernel
theorem dX11_copy_196 : decode cX11_copy 196 = .ok (.getfield 71, 3) := by decide +kernel
theorem dX11_copy_199 : decode cX11_copy 199 = .ok (.iload 6, 2) := by decide +kernel
theorem dX11_copy_201 : decode cX11_copy 201 = .ok (.laload, 1) := by decide +kernel
theorem dX11_copy_202 : decode cX11_copy 202 = .ok (.lastore, 1) := by decide +kernel
theorem dX11_copy_203 : decode cX11_copy 203 = .ok (.iinc 6 1, 3) := by decide +kernel
theorem dX11_copy_206 : decode cX11_copy 206 = .ok (.goto (-32), 3) := by decide +kernel
theorem dX11_copy_209 : decode cX11_copy 209 = .ok (.iload 5, 2) := by decide +kernel
theorem dX11_copy_211 : decode cX11_copy 211 = .ok (.ireturn, 1) := by decide +kernel
theorem dX11_taxOf_0 : decode cX11_taxOf 0 = .ok (.iload_n 0, 1) := by decide +kernel
theorem dX11_taxOf_1 : decode cX11_taxOf 1 = .ok (.tableswitch 66 1 7 #[43, 47, 49, 66, 52, 55, 62], 43) := by decide +kernel
theorem dX11_taxOf_44 : decode cX11_taxOf 44 = .ok (.iconst 3, 1) := by decide +kernel
theorem dX11_taxOf_45 : decode cX11_taxOf 45 = .ok (.iload_n 1, 1) := by decide +kernel
theorem dX11_taxOf_46 : decode cX11_taxOf 46 = .ok (.iadd, 1) := by decide +kernel
theorem dX11_taxOf_47 : decode cX11_taxOf 47 = .ok (.ireturn, 1) := by decide +kernel
theorem dX11_taxOf_48 : decode cX11_taxOf 48 = .ok (.iconst 2, 1) := by decide +kernel
theorem dX11_taxOf_49 : decode cX11_taxOf 49 = .ok (.ireturn, 1) := by decide +kernel
theorem dX11_taxOf_50 : decode cX11_taxOf 50 = .ok (.bipush 6, 2) := by decide +kernel
theorem dX11_taxOf_52 : decode cX11_taxOf 52 = .ok (.ireturn, 1) := by decide +kernel
theorem dX11_taxOf_53 : decode cX11_taxOf 53 = .ok (.bipush 7, 2) := by decide +kernel
theorem dX11_taxOf_55 : decode cX11_taxOf 55 = .ok (.ireturn, 1) := by decide +kernel
theorem dX11_taxOf_56 : decode cX11_taxOf 56 = .ok (.bipush 6, 2) := by decide +kernel
theorem dX11_taxOf_58 : decode cX11_taxOf 58 = .ok (.iconst 2, 1) := by decide +kernel
theorem dX11_taxOf_59 : decode cX11_taxOf 59 = .ok (.iload_n 1, 1) := by decide +kernel
theorem dX11_taxOf_60 : decode cX11_taxOf 60 = .ok (.imul, 1) := by decide +kernel
theorem dX11_taxOf_61 : decode cX11_taxOf 61 = .ok (.iadd, 1) := by decide +kernel
theorem dX11_taxOf_62 : decode cX11_taxOf 62 = .ok (.ireturn, 1) := by decide +kernel
theorem dX11_taxOf_63 : decode cX11_taxOf 63 = .ok (.iconst 2, 1) := by decide +kernel
theorem dX11_taxOf_64 : decode cX11_taxOf 64 = .ok (.iload_n 1, 1) := by decide +kernel
theorem dX11_taxOf_65 : decode cX11_taxOf 65 = .ok (.isub, 1) := by decide +kernel
theorem dX11_taxOf_66 : decode cX11_taxOf 66 = .ok (.ireturn, 1) := by decide +kernel
theorem dX11_taxOf_67 : decode cX11_taxOf 67 = .ok (.iconst 3, 1) := by decide +kernel
theorem dX11_taxOf_68 : decode cX11_taxOf 68 = .ok (.ireturn, 1) := by decide +kernel
theorem dX11_tax_0 : decode cX11_tax 0 = .ok (.aload_n 0, 1) := by decide +kernel
theorem dX11_tax_1 : decode cX11_tax 1 = .ok (.iconst 0, 1) := by decide +kernel
theorem dX11_tax_2 : decode cX11_tax 2 = .ok (.putfield 74, 3) := by decide +kernel
theorem dX11_tax_5 : decode cX11_tax 5 = .ok (.aload_n 0, 1) := by decide +kernel
theorem dX11_tax_6 : decode cX11_tax 6 = .ok (.iload_n 1, 1) := by decide +kernel
theorem dX11_tax_7 : decode cX11_tax 7 = .ok (.invokevirtual 192, 3) := by decide +kernel
theorem dX11_tax_10 : decode cX11_tax 10 = .ok (.ifCond .ge 11, 3) := by decide +kernel
theorem dX11_tax_13 : decode cX11_tax 13 = .ok (.aload_n 0, 1) := by decide +kernel
theorem dX11_tax_14 : decode cX11_tax 14 = .ok (.iload_n 1, 1) := by decide +kernel
theorem dX11_tax_15 : decode cX11_tax 15 = .ok (.invokevirtual 192, 3) := by decide +kernel
theorem dX11_tax_18 : decode cX11_tax 18 = .ok (.goto 18, 3) := by decide +kernel
theorem dX11_tax_21 : decode cX11_tax 21 = .ok (.aload_n 0, 1) := by decide +kernel
theorem dX11_tax_22 : decode cX11_tax 22 = .ok (.getfield 55, 3) := by decide +kernel
theorem dX11_tax_25 : decode cX11_tax 25 = .ok (.iload_n 1, 1) := by decide +kernel
theorem dX11_tax_26 : decode cX11_tax 26 = .ok (.iaload, 1) := by decide +kernel
theorem dX11_tax_27 : decode cX11_tax 27 = .ok (.aload_n 0, 1) := by decide +kernel
theorem dX11_tax_28 : decode cX11_tax 28 = .ok (.getfield 58, 3) := by decide +kernel
theorem dX11_tax_31 : decode cX11_tax 31 = .ok (.iload_n 1, 1) := by decide +kernel
theorem dX11_tax_32 : decode cX11_tax 32 = .ok (.iaload, 1) := by decide +kernel
theorem dX11_tax_33 : decode cX11_tax 33 = .ok (.invokestatic 262, 3) := by decide +kernel
theorem dX11_tax_36 : decode cX11_tax 36 = .ok (.ireturn, 1) := by decide +kernel
theorem dX11_toss_0 : decode cX11_toss 0 = .ok (.aload_n 0, 1) := by decide +kernel
theorem dX11_toss_1 : decode cX11_toss 1 = .ok (.iconst 0, 1) := by decide +kernel
theorem dX11_toss_2 : decode cX11_toss 2 = .ok (.putfield 74, 3) := by decide +kernel
theorem dX11_toss_5 : decode cX11_toss 5 = .ok (.aload_n 0, 1) := by decide +kernel
theorem dX11_toss_6 : decode cX11_toss 6 = .ok (.iload_n 1, 1) := by decide +kernel
theorem dX11_toss_7 : decode cX11_toss 7 = .ok (.invokevirtual 192, 3) := by decide +kernel
theorem dX11_toss_10 : decode cX11_toss 10 = .ok (.ifCond .ge 9, 3) := by decide +kernel
theorem dX11_toss_13 : decode cX11_toss 13 = .ok (.aload_n 0, 1) := by decide +kernel
theorem dX11_toss_14 : decode cX11_toss 14 = .ok (.iload_n 1, 1) := by decide +kernel
theorem dX11_toss_15 : decode cX11_toss 15 = .ok (.invokevirtual 192, 3) := by decide +kernel
theorem dX11_toss_18 : decode cX11_toss 18 = .ok (.ireturn, 1) := by decide +kernel
theorem dX11_toss_19 : decode cX11_toss 19 = .ok (.aload_n 0, 1) := by decide +kernel
theorem dX11_toss_20 : decode cX11_toss 20 = .ok (.getfield 55, 3) := by decide +kernel
theorem dX11_toss_23 : decode cX11_toss 23 = .ok (.iload_n 1, 1) := by decide +kernel
theorem dX11_toss_24 : decode cX11_toss 24 = .ok (.iaload, 1) := by decide +kernel
theorem dX11_toss_25 : decode cX11_toss 25 = .ok (.istore_n 2, 1) := by decide +kernel
theorem dX11_toss_26 : decode cX11_toss 26 = .ok (.aload_n 0, 1) := by decide +kernel
theorem dX11_toss_27 : decode cX11_toss 27 = .ok (.getfield 58, 3) := by decide +kernel
theorem dX11_toss_30 : decode cX11_toss 30 = .ok (.iload_n 1, 1) := by decide +kernel
theorem dX11_toss_31 : decode cX11_toss 31 = .ok (.iaload, 1) := by decide +kernel
theorem dX11_toss_32 : decode cX11_toss 32 = .ok (.istore_n 3, 1) := by decide +kernel
theorem dX11_toss_33 : decode cX11_toss 33 = .ok (.iload_n 2, 1) := by decide +kernel
theorem dX11_toss_34 : decode cX11_toss 34 = .ok (.iconst 4, 1) := by decide +kernel
theorem dX11_toss_35 : decode cX11_toss 35 = .ok (.if_icmp .eq 7, 3) := by decide +kernel
theorem dX11_toss_38 : decode cX11_toss 38 = .ok (.iload_n 3, 1) := by decide +kernel
theorem dX11_toss_39 : decode cX11_toss 39 = .ok (.ifCond .ne 6, 3) := by decide +kernel
theorem dX11_toss_42 : decode cX11_toss 42 = .ok (.bipush (-15), 2) := by decide +kernel
theorem dX11_toss_44 : decode cX11_toss 44 = .ok (.ireturn, 1) := by decide +kernel
theorem dX11_toss_45 : decode cX11_toss 45 = .ok (.iload_n 2, 1) := by decide +kernel
theorem dX11_toss_46 : decode cX11_toss 46 = .ok (.bipush 7, 2) := by decide +kernel
theorem dX11_toss_48 : decode cX11_toss 48 = .ok (.if_icmp .ne 10, 3) := by decide +kernel
theorem dX11_toss_51 : decode cX11_toss 51 = .ok (.bipush 100, 2) := by decide +kernel
theorem dX11_toss_53 : decode cX11_toss 53 = .ok (.iload_n 3, 1) := by decide +kernel
theorem dX11_toss_54 : decode cX11_toss 54 = .ok (.iadd, 1) := by decide +kernel
theorem dX11_toss_55 : decode cX11_toss 55 = .ok (.goto 22, 3) := by decide +kernel
theorem dX11_toss_58 : decode cX11_toss 58 = .ok (.iload_n 2, 1) := by decide +kernel
theorem dX11_toss_59 : decode cX11_toss 59 = .ok (.bipush 6, 2) := by decide +kernel
theorem dX11_toss_61 : decode cX11_toss 61 = .ok (.if_icmp .ne 15, 3) := by decide +kernel
theorem dX11_toss_64 : decode cX11_toss 64 = .ok (.sipush 200, 3) := by decide +kernel
theorem dX11_toss_67 : decode cX11_toss 67 = .ok (.iload_n 2, 1) := by decide +kernel
theorem dX11_toss_68 : decode cX11_toss 68 = .ok (.iload_n 3, 1) := by decide +kernel
theorem dX11_toss_69 : decode cX11_toss 69 = .ok (.invokestatic 262, 3) := by decide +kernel
theorem dX11_toss_72 : decode cX11_toss 72 = .ok (.iadd, 1) := by decide +kernel
theorem dX11_toss_73 : decode cX11_toss 73 = .ok (.goto 4, 3) := by decide +kernel
theorem dX11_toss_76 : decode cX11_toss 76 = .ok (.iload_n 3, 1) := by decide +kernel
theorem dX11_toss_77 : decode cX11_toss 77 = .ok (.ireturn, 1) := by decide +kernel
theorem dJ9_max_7cf53_0 : decode cJ9_max_7cf53 0 = .ok (.iload_n 0, 1) := by decide +kernel
theorem dJ9_max_7cf53_1 : decode cJ9_max_7cf53 1 = .ok (.iload_n 1, 1) := by decide +kernel
theorem dJ9_max_7cf53_2 : decode cJ9_max_7cf53 2 = .ok (.if_icmp .lt 7, 3) := by decide +kernel
theorem dJ9_max_7cf53_5 : decode cJ9_max_7cf53 5 = .ok (.iload_n 0, 1) := by decide +kernel
theorem dJ9_max_7cf53_6 : decode cJ9_max_7cf53 6 = .ok (.goto 4, 3) := by decide +kernel
theorem dJ9_max_7cf53_9 : decode cJ9_max_7cf53 9 = .ok (.iload_n 1, 1) := by decide +kernel
theorem dJ9_max_7cf53_10 : decode cJ9_max_7cf53 10 = .ok (.ireturn, 1) := by decide +kernel
theorem dJ9_min_7cf53_0 : decode cJ9_min_7cf53 0 = .ok (.iload_n 0, 1) := by decide +kernel
theorem dJ9_min_7cf53_1 : decode cJ9_min_7cf53 1 = .ok (.iload_n 1, 1) := by decide +kernel
theorem dJ9_min_7cf53_2 : decode cJ9_min_7cf53 2 = .ok (.if_icmp .gt 7, 3) := by decide +kernel
theorem dJ9_min_7cf53_5 : decode cJ9_min_7cf53 5 = .ok (.iload_n 0, 1) := by decide +kernel
theorem dJ9_min_7cf53_6 : decode cJ9_min_7cf53 6 = .ok (.goto 4, 3) := by decide +kernel
theorem dJ9_min_7cf53_9 : decode cJ9_min_7cf53 9 = .ok (.iload_n 1, 1) := by decide +kernel
theorem dJ9_min_7cf53_10 : decode cJ9_min_7cf53 10 = .ok (.ireturn, 1) := by decide +kernel
theorem dJ7_fill_53178_0 : decode cJ7_fill_53178 0 = .ok (.iconst 0, 1) := by decide +kernel
theorem dJ7_fill_53178_1 : decode cJ7_fill_53178 1 = .ok (.istore_n 2, 1) := by decide +kernel
theorem dJ7_fill_53178_2 : decode cJ7_fill_53178 2 = .ok (.aload_n 0, 1) := by decide +kernel
theorem dJ7_fill_53178_3 : decode cJ7_fill_53178 3 = .ok (.arraylength, 1) := by decide +kernel
theorem dJ7_fill_53178_4 : decode cJ7_fill_53178 4 = .ok (.istore_n 3, 1) := by decide +kernel
theorem dJ7_fill_53178_5 : decode cJ7_fill_53178 5 = .ok (.iload_n 2, 1) := by decide +kernel
theorem dJ7_fill_53178_6 : decode cJ7_fill_53178 6 = .ok (.iload_n 3, 1) := by decide +kernel
theorem dJ7_fill_53178_7 : decode cJ7_fill_53178 7 = .ok (.if_icmp .ge 13, 3) := by decide +kernel
theorem dJ7_fill_53178_10 : decode cJ7_fill_53178 10 = .ok (.aload_n 0, 1) := by decide +kernel
theorem dJ7_fill_53178_11 : decode cJ7_fill_53178 11 = .ok (.iload_n 2, 1) := by decide +kernel
theorem dJ7_fill_53178_12 : decode cJ7_fill_53178 12 = .ok (.iload_n 1, 1) := by decide +kernel
theorem dJ7_fill_53178_13 : decode cJ7_fill_53178 13 = .ok (.iastore, 1) := by decide +kernel
theorem dJ7_fill_53178_14 : decode cJ7_fill_53178 14 = .ok (.iinc 2 1, 3) := by decide +kernel
theorem dJ7_fill_53178_17 : decode cJ7_fill_53178 17 = .ok (.goto (-12), 3) := by decide +kernel
theorem dJ7_fill_53178_20 : decode cJ7_fill_53178 20 = .ok (.return_, 1) := by decide +kernel
theorem dL_element_0 : decode cL_element 0 = .ok (.aload_n 3, 1) := by decide +kernel
theorem dL_element_1 : decode cL_element 1 = .ok (.iconst 0, 1) := by decide +kernel
theorem dL_element_2 : decode cL_element 2 = .ok (.aload_n 0, 1) := by decide +kernel
theorem dL_element_3 : decode cL_element 3 = .ok (.iload_n 1, 1) := by decide +kernel
theorem dL_element_4 : decode cL_element 4 = .ok (.iload_n 2, 1) := by decide +kernel
theorem dL_element_5 : decode cL_element 5 = .ok (.invokevirtual 7, 3) := by decide +kernel
theorem dL_element_8 : decode cL_element 8 = .ok (.lastore, 1) := by decide +kernel
theorem dL_element_9 : decode cL_element 9 = .ok (.goto 11, 3) := by decide +kernel
theorem dL_element_12 : decode cL_element 12 = .ok (.astore 4, 2) := by decide +kernel
theorem dL_element_14 : decode cL_element 14 = .ok (.iconst 1, 1) := by decide +kernel
theorem dL_element_15 : decode cL_element 15 = .ok (.ireturn, 1) := by decide +kernel
theorem dL_element_16 : decode cL_element 16 = .ok (.astore 4, 2) := by decide +kernel
theorem dL_element_18 : decode cL_element 18 = .ok (.iconst 2, 1) := by decide +kernel
theorem dL_element_19 : decode cL_element 19 = .ok (.ireturn, 1) := by decide +kernel
theorem dL_element_20 : decode cL_element 20 = .ok (.iconst 0, 1) := by decide +kernel
theorem dL_element_21 : decode cL_element 21 = .ok (.ireturn, 1) := by decide +kernel
theorem dL_law_0 : decode cL_law 0 = .ok (.new 8, 3) := by decide +kernel
theorem dL_law_3 : decode cL_law 3 = .ok (.dup, 1) := by decide +kernel
theorem dL_law_4 : decode cL_law 4 = .ok (.invokespecial 17, 3) := by decide +kernel
theorem dL_law_7 : decode cL_law 7 = .ok (.astore_n 1, 1) := by decide +kernel
theorem dL_law_8 : decode cL_law 8 = .ok (.new 18, 3) := by decide +kernel
theorem dL_law_11 : decode cL_law 11 = .ok (.dup, 1) := by decide +kernel
theorem dL_law_12 : decode cL_law 12 = .ok (.invokespecial 20, 3) := by decide +kernel
theorem dL_law_15 : decode cL_law 15 = .ok (.astore_n 2, 1) := by decide +kernel
theorem dL_law_16 : decode cL_law 16 = .ok (.iconst 1, 1) := by decide +kernel
theorem dL_law_17 : decode cL_law 17 = .ok (.newarray .long, 2) := by decide +kernel
theorem dL_law_19 : decode cL_law 19 = .ok (.astore_n 3, 1) := by decide +kernel
theorem dL_law_20 : decode cL_law 20 = .ok (.iconst 0, 1) := by decide +kernel
theorem dL_law_21 : decode cL_law 21 = .ok (.istore 4, 2) := by decide +kernel
theorem dL_law_23 : decode cL_law 23 = .ok (.iload 4, 2) := by decide +kernel
theorem dL_law_25 : decode cL_law 25 = .ok (.aload_n 0, 1) := by decide +kernel
theorem dL_law_26 : decode cL_law 26 = .ok (.arraylength, 1) := by decide +kernel
theorem dL_law_27 : decode cL_law 27 = .ok (.bipush 6, 2) := by decide +kernel
theorem dL_law_29 : decode cL_law 29 = .ok (.isub, 1) := by decide +kernel
theorem dL_law_30 : decode cL_law 30 = .ok (.if_icmp .gt 1148, 3) := by decide +kernel
theorem dL_law_33 : decode cL_law 33 = .ok (.aload_n 0, 1) := by decide +kernel
theorem dL_law_34 : decode cL_law 34 = .ok (.iload 4, 2) := by decide +kernel
theorem dL_law_36 : decode cL_law 36 = .ok (.iaload, 1) := by decide +kernel
theorem dL_law_37 : decode cL_law 37 = .ok (.bipush 31, 2) := by decide +kernel
theorem dL_law_39 : decode cL_law 39 = .ok (.iand, 1) := by decide +kernel
theorem dL_law_40 : decode cL_law 40 = .ok (.tableswitch 1132 0 29 #[136, 161, 198, 223, 248, 285, 310, 347, 384, 409, 422, 459, 496, 509, 522, 571, 596, 621, 658, 707, 732, 745, 758, 783, 844, 893, 942, 1009, 1082, 1107], 136) := by decide +kernel
theorem dL_law_176 : decode cL_law 176 = .ok (.aload_n 1, 1) := by decide +kernel
theorem dL_law_177 : decode cL_law 177 = .ok (.aload_n 0, 1) := by decide +kernel
theorem dL_law_178 : decode cL_law 178 = .ok (.iload 4, 2) := by decide +kernel
theorem dL_law_180 : decode cL_law 180 = .ok (.iconst 1, 1) := by decide +kernel
theorem dL_law_181 : decode cL_law 181 = .ok (.iadd, 1) := by decide +kernel
theorem dL_law_182 : decode cL_law 182 = .ok (.iaload, 1) := by decide +kernel
theorem dL_law_183 : decode cL_law 183 = .ok (.invokevirtual 21, 3) := by decide +kernel
theorem dL_law_186 : decode cL_law 186 = .ok (.aload_n 2, 1) := by decide +kernel
theorem dL_law_187 : decode cL_law 187 = .ok (.aload_n 0, 1) := by decide +kernel
theorem dL_law_188 : decode cL_law 188 = .ok (.iload 4, 2) := by decide +kernel
theorem dL_law_190 : decode cL_law 190 = .ok (.iconst 1, 1) := by decide +kernel
theorem dL_law_191 : decode cL_law 191 = .ok (.iadd, 1) := by decide +kernel
theorem dL_law_192 : decode cL_law 192 = .ok (.iaload, 1) := by decide +kernel
theorem dL_law_193 : decode cL_law 193 = .ok (.invokevirtual 25, 3) := by decide +kernel
theorem dL_law_196 : decode cL_law 196 = .ok (.if_icmp .eq 976, 3) := by decide +kernel
theorem dL_law_199 : decode cL_law 199 = .ok (.iconst 0, 1) := by decide +kernel
theorem dL_law_200 : decode cL_law 200 = .ok (.ireturn, 1) := by decide +kernel
theorem dL_law_201 : decode cL_law 201 = .ok (.aload_n 1, 1) := by decide +kernel
theorem dL_law_202 : decode cL_law 202 = .ok (.aload_n 0, 1) := by decide +kernel
theorem dL_law_203 : decode cL_law 203 = .ok (.iload 4, 2) := by decide +kernel
theorem dL_law_205 : decode cL_law 205 = .ok (.iconst 1, 1) := by decide +kernel
theorem dL_law_206 : decode cL_law 206 = .ok (.iadd, 1) := by decide +kernel
theorem dL_law_207 : decode cL_law 207 = .ok (.iaload, 1) := by decide +kernel
theorem dL_law_208 : decode cL_law 208 = .ok (.aload_n 0, 1) := by decide +kernel
theorem dL_law_209 : decode cL_law 209 = .ok (.iload 4, 2) := by decide +kernel
theorem dL_law_211 : decode cL_law 211 = .ok (.iconst 2, 1) := by decide +kernel
theorem dL_law_212 : decode cL_law 212 = .ok (.iadd, 1) := by decide +kernel
theorem dL_law_213 : decode cL_law 213 = .ok (.iaload, 1) := by decide +kernel
theorem dL_law_214 : decode cL_law 214 = .ok (.invokevirtual 26, 3) := by decide +kernel
theorem dL_law_217 : decode cL_law 217 = .ok (.aload_n 2, 1) := by decide +kernel
theorem dL_law_218 : decode cL_law 218 = .ok (.aload_n 0, 1) := by decide +kernel
theorem dL_law_219 : decode cL_law 219 = .ok (.iload 4, 2) := by decide +kernel
theorem dL_law_221 : decode cL_law 221 = .ok (.iconst 1, 1) := by decide +kernel
theorem dL_law_222 : decode cL_law 222 = .ok (.iadd, 1) := by decide +kernel
theorem dL_law_223 : decode cL_law 223 = .ok (.iaload, 1) := by decide +kernel
theorem dL_law_224 : decode cL_law 224 = .ok (.aload_n 0, 1) := by decide +kernel
theorem dL_law_225 : decode cL_law 225 = .ok (.iload 4, 2) := by decide +kernel
theorem dL_law_227 : decode cL_law 227 = .ok (.iconst 2, 1) := by decide +kernel
theorem dL_law_228 : decode cL_law 228 = .ok (.iadd, 1) := by decide +kernel
theorem dL_law_229 : decode cL_law 229 = .ok (.iaload, 1) := by decide +kernel
theorem dL_law_230 : decode cL_law 230 = .ok (.invokevirtual 30, 3) := by decide +kernel
theorem dL_law_233 : decode cL_law 233 = .ok (.if_icmp .eq 939, 3) := by decide +kernel
theorem dL_law_236 : decode cL_law 236 = .ok (.iconst 0, 1) := by decide +kernel
theorem dL_law_237 : decode cL_law 237 = .ok (.ireturn, 1) := by decide +kernel
theorem dL_law_238 : decode cL_law 238 = .ok (.aload_n 1, 1) := by decide +kernel
theorem dL_law_239 : decode cL_law 239 = .ok (.aload_n 0, 1) := by decide +kernel
theorem dL_law_240 : decode cL_law 240 = .ok (.iload 4, 2) := by decide +kernel
theorem dL_law_242 : decode cL_law 242 = .ok (.iconst 1, 1) := by decide +kernel
theorem dL_law_243 : decode cL_law 243 = .ok (.iadd, 1) := by decide +kernel
theorem dL_law_244 : decode cL_law 244 = .ok (.iaload, 1) := by decide +kernel
theorem dL_law_245 : decode cL_law 245 = .ok (.invokevirtual 31, 3) := by decide +kernel
theorem dL_law_248 : decode cL_law 248 = .ok (.aload_n 2, 1) := by decide +kernel
theorem dL_law_249 : decode cL_law 249 = .ok (.aload_n 0, 1) := by decide +kernel
theorem dL_law_250 : decode cL_law 250 = .ok (.iload 4, 2) := by decide +kernel
theorem dL_law_252 : decode cL_law 252 = .ok (.iconst 1, 1) := by decide +kernel
theorem dL_law_253 : decode cL_law 253 = .ok (.iadd, 1) := by decide +kernel
theorem dL_law_254 : decode cL_law 254 = .ok (.iaload, 1) := by decide +kernel
theorem dL_law_255 : decode cL_law 255 = .ok (.invokevirtual 34, 3) := by decide +kernel
theorem dL_law_258 : decode cL_law 258 = .ok (.if_icmp .eq 914, 3) := by decide +kernel
theorem dL_law_261 : decode cL_law 261 = .ok (.iconst 0, 1) := by decide +kernel
theorem dL_law_262 : decode cL_law 262 = .ok (.ireturn, 1) := by decide +kernel
theorem dL_law_263 : decode cL_law 263 = .ok (.aload_n 1, 1) := by decide +kernel
theorem dL_law_264 : decode cL_law 264 = .ok (.aload_n 0, 1) := by decide +kernel
theorem dL_law_265 : decode cL_law 265 = .ok (.iload 4, 2) := by decide +kernel
theorem dL_law_267 : decode cL_law 267 = .ok (.iconst 1, 1) := by decide +kernel
theorem dL_law_268 : decode cL_law 268 = .ok (.iadd, 1) := by decide +kernel
theorem dL_law_269 : decode cL_law 269 = .ok (.iaload, 1) := by decide +kernel
theorem dL_law_270 : decode cL_law 270 = .ok (.invokevirtual 35, 3) := by decide +kernel
theorem dL_law_273 : decode cL_law 273 = .ok (.aload_n 2, 1) := by decide +kernel
theorem dL_law_274 : decode cL_law 274 = .ok (.aload_n 0, 1) := by decide +kernel
theorem dL_law_275 : decode cL_law 275 = .ok (.iload 4, 2) := by decide +kernel
theorem dL_law_277 : decode cL_law 277 = .ok (.iconst 1, 1) := by decide +kernel
theorem dL_law_278 : decode cL_law 278 = .ok (.iadd, 1) := by decide +kernel
theorem dL_law_279 : decode cL_law 279 = .ok (.iaload, 1) := by decide +kernel
theorem dL_law_280 : decode cL_law 280 = .ok (.invokevirtual 38, 3) := by decide +kernel
theorem dL_law_283 : decode cL_law 283 = .ok (.if_icmp .eq 889, 3) := by decide +kernel
theorem dL_law_286 : decode cL_law 286 = .ok (.iconst 0, 1) := by decide +kernel
theorem dL_law_287 : decode cL_law 287 = .ok (.ireturn, 1) := by decide +kernel
theorem dL_law_288 : decode cL_law 288 = .ok (.aload_n 1, 1) := by decide +kernel
theorem dL_law_289 : decode cL_law 289 = .ok (.aload_n 0, 1) := by decide +kernel
theorem dL_law_290 : decode cL_law 290 = .ok (.iload 4, 2) := by decide +kernel
theorem dL_law_292 : decode cL_law 292 = .ok (.iconst 1, 1) := by decide +kernel
theorem dL_law_293 : decode cL_law 293 = .ok (.iadd, 1) := by decide +kernel
theorem dL_law_294 : decode cL_law 294 = .ok (.iaload, 1) := by decide +kernel
theorem dL_law_295 : decode cL_law 295 = .ok (.aload_n 0, 1) := by decide +kernel
theorem dL_law_296 : decode cL_law 296 = .ok (.iload 4, 2) := by decide +kernel
theorem dL_law_298 : decode cL_law 298 = .ok (.iconst 2, 1) := by decide +kernel
theorem dL_law_299 : decode cL_law 299 = .ok (.iadd, 1) := by decide +kernel
theorem dL_law_300 : decode cL_law 300 = .ok (.iaload, 1) := by decide +kernel
theorem dL_law_301 : decode cL_law 301 = .ok (.invokevirtual 39, 3) := by decide +kernel
theorem dL_law_304 : decode cL_law 304 = .ok (.aload_n 2, 1) := by decide +kernel
theorem dL_law_305 : decode cL_law 305 = .ok (.aload_n 0, 1) := by decide +kernel
theorem dL_law_306 : decode cL_law 306 = .ok (.iload 4, 2) := by decide +kernel
theorem dL_law_308 : decode cL_law 308 = .ok (.iconst 1, 1) := by decide +kernel
theorem dL_law_309 : decode cL_law 309 = .ok (.iadd, 1) := by decide +kernel
theorem dL_law_310 : decode cL_law 310 = .ok (.iaload, 1) := by decide +kernel
theorem dL_law_311 : decode cL_law 311 = .ok (.aload_n 0, 1) := by decide +kernel
theorem dL_law_312 : decode cL_law 312 = .ok (.iload 4, 2) := by decide +kernel
theorem dL_law_314 : decode cL_law 314 = .ok (.iconst 2, 1) := by decide +kernel
theorem dL_law_315 : decode cL_law 315 = .ok (.iadd, 1) := by decide +kernel
theorem dL_law_316 : decode cL_law 316 = .ok (.iaload, 1) := by decide +kernel
theorem dL_law_317 : decode cL_law 317 = .ok (.invokevirtual 42, 3) := by decide +kernel
theorem dL_law_320 : decode cL_law 320 = .ok (.if_icmp .eq 852, 3) := by decide +kernel
theorem dL_law_323 : decode cL_law 323 = .ok (.iconst 0, 1) := by decide +kernel
theorem dL_law_324 : decode cL_law 324 = .ok (.ireturn, 1) := by decide +kernel
theorem dL_law_325 : decode cL_law 325 = .ok (.aload_n 1, 1) := by decide +kernel
theorem dL_law_326 : decode cL_law 326 = .ok (.aload_n 0, 1) := by decide +kernel
theorem dL_law_327 : decode cL_law 327 = .ok (.iload 4, 2) := by decide +kernel
theorem dL_law_329 : decode cL_law 329 = .ok (.iconst 1, 1) := by decide +kernel
theorem dL_law_330 : decode cL_law 330 = .ok (.iadd, 1) := by decide +kernel
theorem dL_law_331 : decode cL_law 331 = .ok (.iaload, 1) := by decide +kernel
theorem dL_law_332 : decode cL_law 332 = .ok (.invokevirtual 43, 3) := by decide +kernel
theorem dL_law_335 : decode cL_law 335 = .ok (.aload_n 2, 1) := by decide +kernel
theorem dL_law_336 : decode cL_law 336 = .ok (.aload_n 0, 1) := by decide +kernel
theorem dL_law_337 : decode cL_law 337 = .ok (.iload 4, 2) := by decide +kernel
theorem dL_law_339 : decode cL_law 339 = .ok (.iconst 1, 1) := by decide +kernel
theorem dL_law_340 : decode cL_law 340 = .ok (.iadd, 1) := by decide +kernel
theorem dL_law_341 : decode cL_law 341 = .ok (.iaload, 1) := by decide +kernel
theorem dL_law_342 : decode cL_law 342 = .ok (.invokevirtual 46, 3) := by decide +kernel
theorem dL_law_345 : decode cL_law 345 = .ok (.if_icmp .eq 827, 3) := by decide +kernel
theorem dL_law_348 : decode cL_law 348 = .ok (.iconst 0, 1) := by decide +kernel
theorem dL_law_349 : decode cL_law 349 = .ok (.ireturn, 1) := by decide +kernel
theorem dL_law_350 : decode cL_law 350 = .ok (.aload_n 1, 1) := by decide +kernel
theorem dL_law_351 : decode cL_law 351 = .ok (.aload_n 0, 1) := by decide +kernel
theorem dL_law_352 : decode cL_law 352 = .ok (.iload 4, 2) := by decide +kernel
theorem dL_law_354 : decode cL_law 354 = .ok (.iconst 1, 1) := by decide +kernel
theorem dL_law_355 : decode cL_law 355 = .ok (.iadd, 1) := by decide +kernel
theorem dL_law_356 : decode cL_law 356 = .ok (.iaload, 1) := by decide +kernel
theorem dL_law_357 : decode cL_law 357 = .ok (.aload_n 0, 1) := by decide +kernel
theorem dL_law_358 : decode cL_law 358 = .ok (.iload 4, 2) := by decide +kernel
theorem dL_law_360 : decode cL_law 360 = .ok (.iconst 2, 1) := by decide +kernel
theorem dL_law_361 : decode cL_law 361 = .ok (.iadd, 1) := by decide +kernel
theorem dL_law_362 : decode cL_law 362 = .ok (.iaload, 1) := by decide +kernel
theorem dL_law_363 : decode cL_law 363 = .ok (.invokevirtual 47, 3) := by decide +kernel
theorem dL_law_366 : decode cL_law 366 = .ok (.aload_n 2, 1) := by decide +kernel
theorem dL_law_367 : decode cL_law 367 = .ok (.aload_n 0, 1) := by decide +kernel
theorem dL_law_368 : decode cL_law 368 = .ok (.iload 4, 2) := by decide +kernel
theorem dL_law_370 : decode cL_law 370 = .ok (.iconst 1, 1) := by decide +kernel
theorem dL_law_371 : decode cL_law 371 = .ok (.iadd, 1) := by decide +kernel
theorem dL_law_372 : decode cL_law 372 = .ok (.iaload, 1) := by decide +kernel
theorem dL_law_373 : decode cL_law 373 = .ok (.aload_n 0, 1) := by decide +kernel
theorem dL_law_374 : decode cL_law 374 = .ok (.iload 4, 2) := by decide +kernel
theorem dL_law_376 : decode cL_law 376 = .ok (.iconst 2, 1) := by decide +kernel
theorem dL_law_377 : decode cL_law 377 = .ok (.iadd, 1) := by decide +kernel
theorem dL_law_378 : decode cL_law 378 = .ok (.iaload, 1) := by decide +kernel
theorem dL_law_379 : decode cL_law 379 = .ok (.invokevirtual 50, 3) := by decide +kernel
theorem dL_law_382 : decode cL_law 382 = .ok (.if_icmp .eq 790, 3) := by decide +kernel
theorem dL_law_385 : decode cL_law 385 = .ok (.iconst 0, 1) := by decide +kernel
theorem dL_law_386 : decode cL_law 386 = .ok (.ireturn, 1) := by decide +kernel
theorem dL_law_387 : decode cL_law 387 = .ok (.aload_n 1, 1) := by decide +kernel
theorem dL_law_388 : decode cL_law 388 = .ok (.aload_n 0, 1) := by decide +kernel
theorem dL_law_389 : decode cL_law 389 = .ok (.iload 4, 2) := by decide +kernel
theorem dL_law_391 : decode cL_law 391 = .ok (.iconst 1, 1) := by decide +kernel
theorem dL_law_392 : decode cL_law 392 = .ok (.iadd, 1) := by decide +kernel
theorem dL_law_393 : decode cL_law 393 = .ok (.iaload, 1) := by decide +kernel
theorem dL_law_394 : decode cL_law 394 = .ok (.aload_n 0, 1) := by decide +kernel
theorem dL_law_395 : decode cL_law 395 = .ok (.iload 4, 2) := by decide +kernel
theorem dL_law_397 : decode cL_law 397 = .ok (.iconst 2, 1) := by decide +kernel
theorem dL_law_398 : decode cL_law 398 = .ok (.iadd, 1) := by decide +kernel
theorem dL_law_399 : decode cL_law 399 = .ok (.iaload, 1) := by decide +kernel
theorem dL_law_400 : decode cL_law 400 = .ok (.invokevirtual 51, 3) := by decide +kernel
theorem dL_law_403 : decode cL_law 403 = .ok (.aload_n 2, 1) := by decide +kernel
theorem dL_law_404 : decode cL_law 404 = .ok (.aload_n 0, 1) := by decide +kernel
theorem dL_law_405 : decode cL_law 405 = .ok (.iload 4, 2) := by decide +kernel
theorem dL_law_407 : decode cL_law 407 = .ok (.iconst 1, 1) := by decide +kernel
theorem dL_law_408 : decode cL_law 408 = .ok (.iadd, 1) := by decide +kernel
theorem dL_law_409 : decode cL_law 409 = .ok (.iaload, 1) := by decide +kernel
theorem dL_law_410 : decode cL_law 410 = .ok (.aload_n 0, 1) := by decide +kernel
theorem dL_law_411 : decode cL_law 411 = .ok (.iload 4, 2) := by decide +kernel
theorem dL_law_413 : decode cL_law 413 = .ok (.iconst 2, 1) := by decide +kernel
theorem dL_law_414 : decode cL_law 414 = .ok (.iadd, 1) := by decide +kernel
theorem dL_law_415 : decode cL_law 415 = .ok (.iaload, 1) := by decide +kernel
theorem dL_law_416 : decode cL_law 416 = .ok (.invokevirtual 54, 3) := by decide +kernel
theorem dL_law_419 : decode cL_law 419 = .ok (.if_icmp .eq 753, 3) := by decide +kernel
theorem dL_law_422 : decode cL_law 422 = .ok (.iconst 0, 1) := by decide +kernel
theorem dL_law_423 : decode cL_law 423 = .ok (.ireturn, 1) := by decide +kernel
theorem dL_law_424 : decode cL_law 424 = .ok (.aload_n 1, 1) := by decide +kernel
theorem dL_law_425 : decode cL_law 425 = .ok (.aload_n 0, 1) := by decide +kernel
theorem dL_law_426 : decode cL_law 426 = .ok (.iload 4, 2) := by decide +kernel
theorem dL_law_428 : decode cL_law 428 = .ok (.iconst 1, 1) := by decide +kernel
theorem dL_law_429 : decode cL_law 429 = .ok (.iadd, 1) := by decide +kernel
theorem dL_law_430 : decode cL_law 430 = .ok (.iaload, 1) := by decide +kernel
theorem dL_law_431 : decode cL_law 431 = .ok (.invokevirtual 55, 3) := by decide +kernel
theorem dL_law_434 : decode cL_law 434 = .ok (.aload_n 2, 1) := by decide +kernel
theorem dL_law_435 : decode cL_law 435 = .ok (.aload_n 0, 1) := by decide +kernel
theorem dL_law_436 : decode cL_law 436 = .ok (.iload 4, 2) := by decide +kernel
theorem dL_law_438 : decode cL_law 438 = .ok (.iconst 1, 1) := by decide +kernel
theorem dL_law_439 : decode cL_law 439 = .ok (.iadd, 1) := by decide +kernel
theorem dL_law_440 : decode cL_law 440 = .ok (.iaload, 1) := by decide +kernel
theorem dL_law_441 : decode cL_law 441 = .ok (.invokevirtual 58, 3) := by decide +kernel
theorem dL_law_444 : decode cL_law 444 = .ok (.if_icmp .eq 728, 3) := by decide +kernel
theorem dL_law_447 : decode cL_law 447 = .ok (.iconst 0, 1) := by decide +kernel
theorem dL_law_448 : decode cL_law 448 = .ok (.ireturn, 1) := by decide +kernel
theorem dL_law_449 : decode cL_law 449 = .ok (.aload_n 1, 1) := by decide +kernel
theorem dL_law_450 : decode cL_law 450 = .ok (.invokevirtual 59, 3) := by decide +kernel
theorem dL_law_453 : decode cL_law 453 = .ok (.aload_n 2, 1) := by decide +kernel
theorem dL_law_454 : decode cL_law 454 = .ok (.invokevirtual 63, 3) := by decide +kernel
theorem dL_law_457 : decode cL_law 457 = .ok (.if_icmp .eq 715, 3) := by decide +kernel
theorem dL_law_460 : decode cL_law 460 = .ok (.iconst 0, 1) := by decide +kernel
theorem dL_law_461 : decode cL_law 461 = .ok (.ireturn, 1) := by decide +kernel
theorem dL_law_462 : decode cL_law 462 = .ok (.aload_n 1, 1) := by decide +kernel
theorem dL_law_463 : decode cL_law 463 = .ok (.aload_n 0, 1) := by decide +kernel
theorem dL_law_464 : decode cL_law 464 = .ok (.iload 4, 2) := by decide +kernel
theorem dL_law_466 : decode cL_law 466 = .ok (.iconst 1, 1) := by decide +kernel
theorem dL_law_467 : decode cL_law 467 = .ok (.iadd, 1) := by decide +kernel
theorem dL_law_468 : decode cL_law 468 = .ok (.iaload, 1) := by decide +kernel
theorem dL_law_469 : decode cL_law 469 = .ok (.aload_n 0, 1) := by decide +kernel
theorem dL_law_470 : decode cL_law 470 = .ok (.iload 4, 2) := by decide +kernel
theorem dL_law_472 : decode cL_law 472 = .ok (.iconst 2, 1) := by decide +kernel
theorem dL_law_473 : decode cL_law 473 = .ok (.iadd, 1) := by decide +kernel
theorem dL_law_474 : decode cL_law 474 = .ok (.iaload, 1) := by decide +kernel
theorem dL_law_475 : decode cL_law 475 = .ok (.invokevirtual 64, 3) := by decide +kernel
theorem dL_law_478 : decode cL_law 478 = .ok (.aload_n 2, 1) := by decide +kernel
theorem dL_law_479 : decode cL_law 479 = .ok (.aload_n 0, 1) := by decide +kernel
theorem dL_law_480 : decode cL_law 480 = .ok (.iload 4, 2) := by decide +kernel
theorem dL_law_482 : decode cL_law 482 = .ok (.iconst 1, 1) := by decide +kernel
theorem dL_law_483 : decode cL_law 483 = .ok (.iadd, 1) := by decide +kernel
theorem dL_law_484 : decode cL_law 484 = .ok (.iaload, 1) := by decide +kernel
theorem dL_law_485 : decode cL_law 485 = .ok (.aload_n 0, 1) := by decide +kernel
theorem dL_law_486 : decode cL_law 486 = .ok (.iload 4, 2) := by decide +kernel
theorem dL_law_488 : decode cL_law 488 = .ok (.iconst 2, 1) := by decide +kernel
theorem dL_law_489 : decode cL_law 489 = .ok (.iadd, 1) := by decide +kernel
theorem dL_law_490 : decode cL_law 490 = .ok (.iaload, 1) := by decide +kernel
theorem dL_law_491 : decode cL_law 491 = .ok (.invokevirtual 67, 3) := by decide +kernel
theorem dL_law_494 : decode cL_law 494 = .ok (.if_icmp .eq 678, 3) := by decide +kernel
theorem dL_law_497 : decode cL_law 497 = .ok (.iconst 0, 1) := by decide +kernel
theorem dL_law_498 : decode cL_law 498 = .ok (.ireturn, 1) := by decide +kernel
theorem dL_law_499 : decode cL_law 499 = .ok (.aload_n 1, 1) := by decide +kernel
theorem dL_law_500 : decode cL_law 500 = .ok (.aload_n 0, 1) := by decide +kernel
theorem dL_law_501 : decode cL_law 501 = .ok (.iload 4, 2) := by decide +kernel
theorem dL_law_503 : decode cL_law 503 = .ok (.iconst 1, 1) := by decide +kernel
theorem dL_law_504 : decode cL_law 504 = .ok (.iadd, 1) := by decide +kernel
theorem dL_law_505 : decode cL_law 505 = .ok (.iaload, 1) := by decide +kernel
theorem dL_law_506 : decode cL_law 506 = .ok (.aload_n 0, 1) := by decide +kernel
theorem dL_law_507 : decode cL_law 507 = .ok (.iload 4, 2) := by decide +kernel
theorem dL_law_509 : decode cL_law 509 = .ok (.iconst 2, 1) := by decide +kernel
theorem dL_law_510 : decode cL_law 510 = .ok (.iadd, 1) := by decide +kernel
theorem dL_law_511 : decode cL_law 511 = .ok (.iaload, 1) := by decide +kernel
theorem dL_law_512 : decode cL_law 512 = .ok (.invokevirtual 68, 3) := by decide +kernel
theorem dL_law_515 : decode cL_law 515 = .ok (.aload_n 2, 1) := by decide +kernel
theorem dL_law_516 : decode cL_law 516 = .ok (.aload_n 0, 1) := by decide +kernel
theorem dL_law_517 : decode cL_law 517 = .ok (.iload 4, 2) := by decide +kernel
theorem dL_law_519 : decode cL_law 519 = .ok (.iconst 1, 1) := by decide +kernel
theorem dL_law_520 : decode cL_law 520 = .ok (.iadd, 1) := by decide +kernel
theorem dL_law_521 : decode cL_law 521 = .ok (.iaload, 1) := by decide +kernel
theorem dL_law_522 : decode cL_law 522 = .ok (.aload_n 0, 1) := by decide +kernel
theorem dL_law_523 : decode cL_law 523 = .ok (.iload 4, 2) := by decide +kernel
theorem dL_law_525 : decode cL_law 525 = .ok (.iconst 2, 1) := by decide +kernel
theorem dL_law_526 : decode cL_law 526 = .ok (.iadd, 1) := by decide +kernel
theorem dL_law_527 : decode cL_law 527 = .ok (.iaload, 1) := by decide +kernel
theorem dL_law_528 : decode cL_law 528 = .ok (.invokevirtual 71, 3) := by decide +kernel
theorem dL_law_531 : decode cL_law 531 = .ok (.if_icmp .eq 641, 3) := by decide +kernel
theorem dL_law_534 : decode cL_law 534 = .ok (.iconst 0, 1) := by decide +kernel
theorem dL_law_535 : decode cL_law 535 = .ok (.ireturn, 1) := by decide +kernel
theorem dL_law_536 : decode cL_law 536 = .ok (.aload_n 1, 1) := by decide +kernel
theorem dL_law_537 : decode cL_law 537 = .ok (.invokevirtual 72, 3) := by decide +kernel
theorem dL_law_540 : decode cL_law 540 = .ok (.aload_n 2, 1) := by decide +kernel
theorem dL_law_541 : decode cL_law 541 = .ok (.invokevirtual 75, 3) := by decide +kernel
theorem dL_law_544 : decode cL_law 544 = .ok (.if_icmp .eq 628, 3) := by decide +kernel
theorem dL_law_547 : decode cL_law 547 = .ok (.iconst 0, 1) := by decide +kernel
theorem dL_law_548 : decode cL_law 548 = .ok (.ireturn, 1) := by decide +kernel
theorem dL_law_549 : decode cL_law 549 = .ok (.aload_n 1, 1) := by decide +kernel
theorem dL_law_550 : decode cL_law 550 = .ok (.invokevirtual 76, 3) := by decide +kernel
theorem dL_law_553 : decode cL_law 553 = .ok (.aload_n 2, 1) := by decide +kernel
theorem dL_law_554 : decode cL_law 554 = .ok (.invokevirtual 79, 3) := by decide +kernel
theorem dL_law_557 : decode cL_law 557 = .ok (.if_icmp .eq 615, 3) := by decide +kernel
theorem dL_law_560 : decode cL_law 560 = .ok (.iconst 0, 1) := by decide +kernel
theorem dL_law_561 : decode cL_law 561 = .ok (.ireturn, 1) := by decide +kernel
theorem dL_law_562 : decode cL_law 562 = .ok (.aload_n 1, 1) := by decide +kernel
theorem dL_law_563 : decode cL_law 563 = .ok (.aload_n 0, 1) := by decide +kernel
theorem dL_law_564 : decode cL_law 564 = .ok (.iload 4, 2) := by decide +kernel
theorem dL_law_566 : decode cL_law 566 = .ok (.iconst 1, 1) := by decide +kernel
theorem dL_law_567 : decode cL_law 567 = .ok (.iadd, 1) := by decide +kernel
theorem dL_law_568 : decode cL_law 568 = .ok (.iaload, 1) := by decide +kernel
theorem dL_law_569 : decode cL_law 569 = .ok (.aload_n 0, 1) := by decide +kernel
theorem dL_law_570 : decode cL_law 570 = .ok (.iload 4, 2) := by decide +kernel
theorem dL_law_572 : decode cL_law 572 = .ok (.iconst 2, 1) := by decide +kernel
theorem dL_law_573 : decode cL_law 573 = .ok (.iadd, 1) := by decide +kernel
theorem dL_law_574 : decode cL_law 574 = .ok (.iaload, 1) := by decide +kernel
theorem dL_law_575 : decode cL_law 575 = .ok (.aload_n 0, 1) := by decide +kernel
theorem dL_law_576 : decode cL_law 576 = .ok (.iload 4, 2) := by decide +kernel
theorem dL_law_578 : decode cL_law 578 = .ok (.iconst 3, 1) := by decide +kernel
theorem dL_law_579 : decode cL_law 579 = .ok (.iadd, 1) := by decide +kernel
theorem dL_law_580 : decode cL_law 580 = .ok (.iaload, 1) := by decide +kernel
theorem dL_law_581 : decode cL_law 581 = .ok (.invokevirtual 80, 3) := by decide +kernel
theorem dL_law_584 : decode cL_law 584 = .ok (.aload_n 2, 1) := by decide +kernel
theorem dL_law_585 : decode cL_law 585 = .ok (.aload_n 0, 1) := by decide +kernel
theorem dL_law_586 : decode cL_law 586 = .ok (.iload 4, 2) := by decide +kernel
theorem dL_law_588 : decode cL_law 588 = .ok (.iconst 1, 1) := by decide +kernel
theorem dL_law_589 : decode cL_law 589 = .ok (.iadd, 1) := by decide +kernel
theorem dL_law_590 : decode cL_law 590 = .ok (.iaload, 1) := by decide +kernel
theorem dL_law_591 : decode cL_law 591 = .ok (.aload_n 0, 1) := by decide +kernel
theorem dL_law_592 : decode cL_law 592 = .ok (.iload 4, 2) := by decide +kernel
theorem dL_law_594 : decode cL_law 594 = .ok (.iconst 2, 1) := by decide +kernel
theorem dL_law_595 : decode cL_law 595 = .ok (.iadd, 1) := by decide +kernel
theorem dL_law_596 : decode cL_law 596 = .ok (.iaload, 1) := by decide +kernel
theorem dL_law_597 : decode cL_law 597 = .ok (.aload_n 0, 1) := by decide +kernel
theorem dL_law_598 : decode cL_law 598 = .ok (.iload 4, 2) := by decide +kernel
theorem dL_law_600 : decode cL_law 600 = .ok (.iconst 3, 1) := by decide +kernel
theorem dL_law_601 : decode cL_law 601 = .ok (.iadd, 1) := by decide +kernel
theorem dL_law_602 : decode cL_law 602 = .ok (.iaload, 1) := by decide +kernel
theorem dL_law_603 : decode cL_law 603 = .ok (.invokevirtual 84, 3) := by decide +kernel
theorem dL_law_606 : decode cL_law 606 = .ok (.if_icmp .eq 566, 3) := by decide +kernel
theorem dL_law_609 : decode cL_law 609 = .ok (.iconst 0, 1) := by decide +kernel
theorem dL_law_610 : decode cL_law 610 = .ok (.ireturn, 1) := by decide +kernel
theorem dL_law_611 : decode cL_law 611 = .ok (.aload_n 1, 1) := by decide +kernel
theorem dL_law_612 : decode cL_law 612 = .ok (.aload_n 0, 1) := by decide +kernel
theorem dL_law_613 : decode cL_law 613 = .ok (.iload 4, 2) := by decide +kernel
theorem dL_law_615 : decode cL_law 615 = .ok (.iconst 1, 1) := by decide +kernel
theorem dL_law_616 : decode cL_law 616 = .ok (.iadd, 1) := by decide +kernel
theorem dL_law_617 : decode cL_law 617 = .ok (.iaload, 1) := by decide +kernel
theorem dL_law_618 : decode cL_law 618 = .ok (.invokevirtual 85, 3) := by decide +kernel
theorem dL_law_621 : decode cL_law 621 = .ok (.aload_n 2, 1) := by decide +kernel
theorem dL_law_622 : decode cL_law 622 = .ok (.aload_n 0, 1) := by decide +kernel
theorem dL_law_623 : decode cL_law 623 = .ok (.iload 4, 2) := by decide +kernel
theorem dL_law_625 : decode cL_law 625 = .ok (.iconst 1, 1) := by decide +kernel
theorem dL_law_626 : decode cL_law 626 = .ok (.iadd, 1) := by decide +kernel
theorem dL_law_627 : decode cL_law 627 = .ok (.iaload, 1) := by decide +kernel
theorem dL_law_628 : decode cL_law 628 = .ok (.invokevirtual 88, 3) := by decide +kernel
theorem dL_law_631 : decode cL_law 631 = .ok (.if_icmp .eq 541, 3) := by decide +kernel
theorem dL_law_634 : decode cL_law 634 = .ok (.iconst 0, 1) := by decide +kernel
theorem dL_law_635 : decode cL_law 635 = .ok (.ireturn, 1) := by decide +kernel
theorem dL_law_636 : decode cL_law 636 = .ok (.aload_n 1, 1) := by decide +kernel
theorem dL_law_637 : decode cL_law 637 = .ok (.aload_n 0, 1) := by decide +kernel
theorem dL_law_638 : decode cL_law 638 = .ok (.iload 4, 2) := by decide +kernel
theorem dL_law_640 : decode cL_law 640 = .ok (.iconst 1, 1) := by decide +kernel
theorem dL_law_641 : decode cL_law 641 = .ok (.iadd, 1) := by decide +kernel
theorem dL_law_642 : decode cL_law 642 = .ok (.iaload, 1) := by decide +kernel
theorem dL_law_643 : decode cL_law 643 = .ok (.invokevirtual 89, 3) := by decide +kernel
theorem dL_law_646 : decode cL_law 646 = .ok (.aload_n 2, 1) := by decide +kernel
theorem dL_law_647 : decode cL_law 647 = .ok (.aload_n 0, 1) := by decide +kernel
theorem dL_law_648 : decode cL_law 648 = .ok (.iload 4, 2) := by decide +kernel
theorem dL_law_650 : decode cL_law 650 = .ok (.iconst 1, 1) := by decide +kernel
theorem dL_law_651 : decode cL_law 651 = .ok (.iadd, 1) := by decide +kernel
theorem dL_law_652 : decode cL_law 652 = .ok (.iaload, 1) := by decide +kernel
theorem dL_law_653 : decode cL_law 653 = .ok (.invokevirtual 92, 3) := by decide +kernel
theorem dL_law_656 : decode cL_law 656 = .ok (.if_icmp .eq 516, 3) := by decide +kernel
theorem dL_law_659 : decode cL_law 659 = .ok (.iconst 0, 1) := by decide +kernel
theorem dL_law_660 : decode cL_law 660 = .ok (.ireturn, 1) := by decide +kernel
theorem dL_law_661 : decode cL_law 661 = .ok (.aload_n 1, 1) := by decide +kernel
theorem dL_law_662 : decode cL_law 662 = .ok (.aload_n 0, 1) := by decide +kernel
theorem dL_law_663 : decode cL_law 663 = .ok (.iload 4, 2) := by decide +kernel
theorem dL_law_665 : decode cL_law 665 = .ok (.iconst 1, 1) := by decide +kernel
theorem dL_law_666 : decode cL_law 666 = .ok (.iadd, 1) := by decide +kernel
theorem dL_law_667 : decode cL_law 667 = .ok (.iaload, 1) := by decide +kernel
theorem dL_law_668 : decode cL_law 668 = .ok (.aload_n 0, 1) := by decide +kernel
theorem dL_law_669 : decode cL_law 669 = .ok (.iload 4, 2) := by decide +kernel
theorem dL_law_671 : decode cL_law 671 = .ok (.iconst 2, 1) := by decide +kernel
theorem dL_law_672 : decode cL_law 672 = .ok (.iadd, 1) := by decide +kernel
theorem dL_law_673 : decode cL_law 673 = .ok (.iaload, 1) := by decide +kernel
theorem dL_law_674 : decode cL_law 674 = .ok (.invokevirtual 93, 3) := by decide +kernel
theorem dL_law_677 : decode cL_law 677 = .ok (.aload_n 2, 1) := by decide +kernel
theorem dL_law_678 : decode cL_law 678 = .ok (.aload_n 0, 1) := by decide +kernel
theorem dL_law_679 : decode cL_law 679 = .ok (.iload 4, 2) := by decide +kernel
theorem dL_law_681 : decode cL_law 681 = .ok (.iconst 1, 1) := by decide +kernel
theorem dL_law_682 : decode cL_law 682 = .ok (.iadd, 1) := by decide +kernel
theorem dL_law_683 : decode cL_law 683 = .ok (.iaload, 1) := by decide +kernel
theorem dL_law_684 : decode cL_law 684 = .ok (.aload_n 0, 1) := by decide +kernel
theorem dL_law_685 : decode cL_law 685 = .ok (.iload 4, 2) := by decide +kernel
theorem dL_law_687 : decode cL_law 687 = .ok (.iconst 2, 1) := by decide +kernel
theorem dL_law_688 : decode cL_law 688 = .ok (.iadd, 1) := by decide +kernel
theorem dL_law_689 : decode cL_law 689 = .ok (.iaload, 1) := by decide +kernel
theorem dL_law_690 : decode cL_law 690 = .ok (.invokevirtual 96, 3) := by decide +kernel
theorem dL_law_693 : decode cL_law 693 = .ok (.if_icmp .eq 479, 3) := by decide +kernel
theorem dL_law_696 : decode cL_law 696 = .ok (.iconst 0, 1) := by decide +kernel
theorem dL_law_697 : decode cL_law 697 = .ok (.ireturn, 1) := by decide +kernel
theorem dL_law_698 : decode cL_law 698 = .ok (.aload_n 1, 1) := by decide +kernel
theorem dL_law_699 : decode cL_law 699 = .ok (.aload_n 0, 1) := by decide +kernel
theorem dL_law_700 : decode cL_law 700 = .ok (.iload 4, 2) := by decide +kernel
theorem dL_law_702 : decode cL_law 702 = .ok (.iconst 1, 1) := by decide +kernel
theorem dL_law_703 : decode cL_law 703 = .ok (.iadd, 1) := by decide +kernel
theorem dL_law_704 : decode cL_law 704 = .ok (.iaload, 1) := by decide +kernel
theorem dL_law_705 : decode cL_law 705 = .ok (.aload_n 0, 1) := by decide +kernel
theorem dL_law_706 : decode cL_law 706 = .ok (.iload 4, 2) := by decide +kernel
theorem dL_law_708 : decode cL_law 708 = .ok (.iconst 2, 1) := by decide +kernel
theorem dL_law_709 : decode cL_law 709 = .ok (.iadd, 1) := by decide +kernel
theorem dL_law_710 : decode cL_law 710 = .ok (.iaload, 1) := by decide +kernel
theorem dL_law_711 : decode cL_law 711 = .ok (.aload_n 0, 1) := by decide +kernel
theorem dL_law_712 : decode cL_law 712 = .ok (.iload 4, 2) := by decide +kernel
theorem dL_law_714 : decode cL_law 714 = .ok (.iconst 3, 1) := by decide +kernel
theorem dL_law_715 : decode cL_law 715 = .ok (.iadd, 1) := by decide +kernel
theorem dL_law_716 : decode cL_law 716 = .ok (.iaload, 1) := by decide +kernel
theorem dL_law_717 : decode cL_law 717 = .ok (.invokevirtual 97, 3) := by decide +kernel
theorem dL_law_720 : decode cL_law 720 = .ok (.aload_n 2, 1) := by decide +kernel
theorem dL_law_721 : decode cL_law 721 = .ok (.aload_n 0, 1) := by decide +kernel
theorem dL_law_722 : decode cL_law 722 = .ok (.iload 4, 2) := by decide +kernel
theorem dL_law_724 : decode cL_law 724 = .ok (.iconst 1, 1) := by decide +kernel
theorem dL_law_725 : decode cL_law 725 = .ok (.iadd, 1) := by decide +kernel
theorem dL_law_726 : decode cL_law 726 = .ok (.iaload, 1) := by decide +kernel
theorem dL_law_727 : decode cL_law 727 = .ok (.aload_n 0, 1) := by decide +kernel
theorem dL_law_728 : decode cL_law 728 = .ok (.iload 4, 2) := by decide +kernel
theorem dL_law_730 : decode cL_law 730 = .ok (.iconst 2, 1) := by decide +kernel
theorem dL_law_731 : decode cL_law 731 = .ok (.iadd, 1) := by decide +kernel
theorem dL_law_732 : decode cL_law 732 = .ok (.iaload, 1) := by decide +kernel
theorem dL_law_733 : decode cL_law 733 = .ok (.aload_n 0, 1) := by decide +kernel
theorem dL_law_734 : decode cL_law 734 = .ok (.iload 4, 2) := by decide +kernel
theorem dL_law_736 : decode cL_law 736 = .ok (.iconst 3, 1) := by decide +kernel
theorem dL_law_737 : decode cL_law 737 = .ok (.iadd, 1) := by decide +kernel
theorem dL_law_738 : decode cL_law 738 = .ok (.iaload, 1) := by decide +kernel
theorem dL_law_739 : decode cL_law 739 = .ok (.invokevirtual 100, 3) := by decide +kernel
theorem dL_law_742 : decode cL_law 742 = .ok (.if_icmp .eq 430, 3) := by decide +kernel
theorem dL_law_745 : decode cL_law 745 = .ok (.iconst 0, 1) := by decide +kernel
theorem dL_law_746 : decode cL_law 746 = .ok (.ireturn, 1) := by decide +kernel
theorem dL_law_747 : decode cL_law 747 = .ok (.aload_n 1, 1) := by decide +kernel
theorem dL_law_748 : decode cL_law 748 = .ok (.aload_n 0, 1) := by decide +kernel
theorem dL_law_749 : decode cL_law 749 = .ok (.iload 4, 2) := by decide +kernel
theorem dL_law_751 : decode cL_law 751 = .ok (.iconst 1, 1) := by decide +kernel
theorem dL_law_752 : decode cL_law 752 = .ok (.iadd, 1) := by decide +kernel
theorem dL_law_753 : decode cL_law 753 = .ok (.iaload, 1) := by decide +kernel
theorem dL_law_754 : decode cL_law 754 = .ok (.invokevirtual 101, 3) := by decide +kernel
theorem dL_law_757 : decode cL_law 757 = .ok (.aload_n 2, 1) := by decide +kernel
theorem dL_law_758 : decode cL_law 758 = .ok (.aload_n 0, 1) := by decide +kernel
theorem dL_law_759 : decode cL_law 759 = .ok (.iload 4, 2) := by decide +kernel
theorem dL_law_761 : decode cL_law 761 = .ok (.iconst 1, 1) := by decide +kernel
theorem dL_law_762 : decode cL_law 762 = .ok (.iadd, 1) := by decide +kernel
theorem dL_law_763 : decode cL_law 763 = .ok (.iaload, 1) := by decide +kernel
theorem dL_law_764 : decode cL_law 764 = .ok (.invokevirtual 104, 3) := by decide +kernel
theorem dL_law_767 : decode cL_law 767 = .ok (.if_icmp .eq 405, 3) := by decide +kernel
theorem dL_law_770 : decode cL_law 770 = .ok (.iconst 0, 1) := by decide +kernel
theorem dL_law_771 : decode cL_law 771 = .ok (.ireturn, 1) := by decide +kernel
theorem dL_law_772 : decode cL_law 772 = .ok (.aload_n 1, 1) := by decide +kernel
theorem dL_law_773 : decode cL_law 773 = .ok (.invokevirtual 105, 3) := by decide +kernel
theorem dL_law_776 : decode cL_law 776 = .ok (.aload_n 2, 1) := by decide +kernel
theorem dL_law_777 : decode cL_law 777 = .ok (.invokevirtual 108, 3) := by decide +kernel
theorem dL_law_780 : decode cL_law 780 = .ok (.if_icmp .eq 392, 3) := by decide +kernel
theorem dL_law_783 : decode cL_law 783 = .ok (.iconst 0, 1) := by decide +kernel
theorem dL_law_784 : decode cL_law 784 = .ok (.ireturn, 1) := by decide +kernel
theorem dL_law_785 : decode cL_law 785 = .ok (.aload_n 1, 1) := by decide +kernel
theorem dL_law_786 : decode cL_law 786 = .ok (.invokevirtual 109, 3) := by decide +kernel
theorem dL_law_789 : decode cL_law 789 = .ok (.aload_n 2, 1) := by decide +kernel
theorem dL_law_790 : decode cL_law 790 = .ok (.invokevirtual 112, 3) := by decide +kernel
theorem dL_law_793 : decode cL_law 793 = .ok (.if_icmp .eq 379, 3) := by decide +kernel
theorem dL_law_796 : decode cL_law 796 = .ok (.iconst 0, 1) := by decide +kernel
theorem dL_law_797 : decode cL_law 797 = .ok (.ireturn, 1) := by decide +kernel
theorem dL_law_798 : decode cL_law 798 = .ok (.aload_n 1, 1) := by decide +kernel
theorem dL_law_799 : decode cL_law 799 = .ok (.aload_n 0, 1) := by decide +kernel
theorem dL_law_800 : decode cL_law 800 = .ok (.iload 4, 2) := by decide +kernel
theorem dL_law_802 : decode cL_law 802 = .ok (.iconst 1, 1) := by decide +kernel
theorem dL_law_803 : decode cL_law 803 = .ok (.iadd, 1) := by decide +kernel
theorem dL_law_804 : decode cL_law 804 = .ok (.iaload, 1) := by decide +kernel
theorem dL_law_805 : decode cL_law 805 = .ok (.invokevirtual 113, 3) := by decide +kernel
theorem dL_law_808 : decode cL_law 808 = .ok (.aload_n 2, 1) := by decide +kernel
theorem dL_law_809 : decode cL_law 809 = .ok (.aload_n 0, 1) := by decide +kernel
theorem dL_law_810 : decode cL_law 810 = .ok (.iload 4, 2) := by decide +kernel
theorem dL_law_812 : decode cL_law 812 = .ok (.iconst 1, 1) := by decide +kernel
theorem dL_law_813 : decode cL_law 813 = .ok (.iadd, 1) := by decide +kernel
theorem dL_law_814 : decode cL_law 814 = .ok (.iaload, 1) := by decide +kernel
theorem dL_law_815 : decode cL_law 815 = .ok (.invokevirtual 116, 3) := by decide +kernel
theorem dL_law_818 : decode cL_law 818 = .ok (.if_icmp .eq 354, 3) := by decide +kernel
theorem dL_law_821 : decode cL_law 821 = .ok (.iconst 0, 1) := by decide +kernel
theorem dL_law_822 : decode cL_law 822 = .ok (.ireturn, 1) := by decide +kernel
theorem dL_law_823 : decode cL_law 823 = .ok (.aload_n 1, 1) := by decide +kernel
theorem dL_law_824 : decode cL_law 824 = .ok (.aload_n 0, 1) := by decide +kernel
theorem dL_law_825 : decode cL_law 825 = .ok (.iload 4, 2) := by decide +kernel
theorem dL_law_827 : decode cL_law 827 = .ok (.iconst 1, 1) := by decide +kernel
theorem dL_law_828 : decode cL_law 828 = .ok (.iadd, 1) := by decide +kernel
theorem dL_law_829 : decode cL_law 829 = .ok (.iaload, 1) := by decide +kernel
theorem dL_law_830 : decode cL_law 830 = .ok (.aload_n 0, 1) := by decide +kernel
theorem dL_law_831 : decode cL_law 831 = .ok (.iload 4, 2) := by decide +kernel
theorem dL_law_833 : decode cL_law 833 = .ok (.iconst 2, 1) := by decide +kernel
theorem dL_law_834 : decode cL_law 834 = .ok (.iadd, 1) := by decide +kernel
theorem dL_law_835 : decode cL_law 835 = .ok (.iaload, 1) := by decide +kernel
theorem dL_law_836 : decode cL_law 836 = .ok (.aload_n 0, 1) := by decide +kernel
theorem dL_law_837 : decode cL_law 837 = .ok (.iload 4, 2) := by decide +kernel
theorem dL_law_839 : decode cL_law 839 = .ok (.iconst 3, 1) := by decide +kernel
theorem dL_law_840 : decode cL_law 840 = .ok (.iadd, 1) := by decide +kernel
theorem dL_law_841 : decode cL_law 841 = .ok (.iaload, 1) := by decide +kernel
theorem dL_law_842 : decode cL_law 842 = .ok (.aload_n 0, 1) := by decide +kernel
theorem dL_law_843 : decode cL_law 843 = .ok (.iload 4, 2) := by decide +kernel
theorem dL_law_845 : decode cL_law 845 = .ok (.iconst 4, 1) := by decide +kernel
theorem dL_law_846 : decode cL_law 846 = .ok (.iadd, 1) := by decide +kernel
theorem dL_law_847 : decode cL_law 847 = .ok (.iaload, 1) := by decide +kernel
theorem dL_law_848 : decode cL_law 848 = .ok (.invokevirtual 117, 3) := by decide +kernel
theorem dL_law_851 : decode cL_law 851 = .ok (.aload_n 2, 1) := by decide +kernel
theorem dL_law_852 : decode cL_law 852 = .ok (.aload_n 0, 1) := by decide +kernel
theorem dL_law_853 : decode cL_law 853 = .ok (.iload 4, 2) := by decide +kernel
theorem dL_law_855 : decode cL_law 855 = .ok (.iconst 1, 1) := by decide +kernel
theorem dL_law_856 : decode cL_law 856 = .ok (.iadd, 1) := by decide +kernel
theorem dL_law_857 : decode cL_law 857 = .ok (.iaload, 1) := by decide +kernel
theorem dL_law_858 : decode cL_law 858 = .ok (.aload_n 0, 1) := by decide +kernel
theorem dL_law_859 : decode cL_law 859 = .ok (.iload 4, 2) := by decide +kernel
theorem dL_law_861 : decode cL_law 861 = .ok (.iconst 2, 1) := by decide +kernel
theorem dL_law_862 : decode cL_law 862 = .ok (.iadd, 1) := by decide +kernel
theorem dL_law_863 : decode cL_law 863 = .ok (.iaload, 1) := by decide +kernel
theorem dL_law_864 : decode cL_law 864 = .ok (.aload_n 0, 1) := by decide +kernel
theorem dL_law_865 : decode cL_law 865 = .ok (.iload 4, 2) := by decide +kernel
theorem dL_law_867 : decode cL_law 867 = .ok (.iconst 3, 1) := by decide +kernel
theorem dL_law_868 : decode cL_law 868 = .ok (.iadd, 1) := by decide +kernel
theorem dL_law_869 : decode cL_law 869 = .ok (.iaload, 1) := by decide +kernel
theorem dL_law_870 : decode cL_law 870 = .ok (.aload_n 0, 1) := by decide +kernel
theorem dL_law_871 : decode cL_law 871 = .ok (.iload 4, 2) := by decide +kernel
theorem dL_law_873 : decode cL_law 873 = .ok (.iconst 4, 1) := by decide +kernel
theorem dL_law_874 : decode cL_law 874 = .ok (.iadd, 1) := by decide +kernel
theorem dL_law_875 : decode cL_law 875 = .ok (.iaload, 1) := by decide +kernel
theorem dL_law_876 : decode cL_law 876 = .ok (.invokevirtual 121, 3) := by decide +kernel
theorem dL_law_879 : decode cL_law 879 = .ok (.if_icmp .eq 293, 3) := by decide +kernel
theorem dL_law_882 : decode cL_law 882 = .ok (.iconst 0, 1) := by decide +kernel
theorem dL_law_883 : decode cL_law 883 = .ok (.ireturn, 1) := by decide +kernel
theorem dL_law_884 : decode cL_law 884 = .ok (.aload_n 1, 1) := by decide +kernel
theorem dL_law_885 : decode cL_law 885 = .ok (.aload_n 0, 1) := by decide +kernel
theorem dL_law_886 : decode cL_law 886 = .ok (.iload 4, 2) := by decide +kernel
theorem dL_law_888 : decode cL_law 888 = .ok (.iconst 1, 1) := by decide +kernel
theorem dL_law_889 : decode cL_law 889 = .ok (.iadd, 1) := by decide +kernel
theorem dL_law_890 : decode cL_law 890 = .ok (.iaload, 1) := by decide +kernel
theorem dL_law_891 : decode cL_law 891 = .ok (.aload_n 0, 1) := by decide +kernel
theorem dL_law_892 : decode cL_law 892 = .ok (.iload 4, 2) := by decide +kernel
theorem dL_law_894 : decode cL_law 894 = .ok (.iconst 2, 1) := by decide +kernel
theorem dL_law_895 : decode cL_law 895 = .ok (.iadd, 1) := by decide +kernel
theorem dL_law_896 : decode cL_law 896 = .ok (.iaload, 1) := by decide +kernel
theorem dL_law_897 : decode cL_law 897 = .ok (.aload_n 0, 1) := by decide +kernel
theorem dL_law_898 : decode cL_law 898 = .ok (.iload 4, 2) := by decide +kernel
theorem dL_law_900 : decode cL_law 900 = .ok (.iconst 3, 1) := by decide +kernel
theorem dL_law_901 : decode cL_law 901 = .ok (.iadd, 1) := by decide +kernel
theorem dL_law_902 : decode cL_law 902 = .ok (.iaload, 1) := by decide +kernel
theorem dL_law_903 : decode cL_law 903 = .ok (.invokevirtual 122, 3) := by decide +kernel
theorem dL_law_906 : decode cL_law 906 = .ok (.aload_n 2, 1) := by decide +kernel
theorem dL_law_907 : decode cL_law 907 = .ok (.aload_n 0, 1) := by decide +kernel
theorem dL_law_908 : decode cL_law 908 = .ok (.iload 4, 2) := by decide +kernel
theorem dL_law_910 : decode cL_law 910 = .ok (.iconst 1, 1) := by decide +kernel
theorem dL_law_911 : decode cL_law 911 = .ok (.iadd, 1) := by decide +kernel
theorem dL_law_912 : decode cL_law 912 = .ok (.iaload, 1) := by decide +kernel
theorem dL_law_913 : decode cL_law 913 = .ok (.aload_n 0, 1) := by decide +kernel
theorem dL_law_914 : decode cL_law 914 = .ok (.iload 4, 2) := by decide +kernel
theorem dL_law_916 : decode cL_law 916 = .ok (.iconst 2, 1) := by decide +kernel
theorem dL_law_917 : decode cL_law 917 = .ok (.iadd, 1) := by decide +kernel
theorem dL_law_918 : decode cL_law 918 = .ok (.iaload, 1) := by decide +kernel
theorem dL_law_919 : decode cL_law 919 = .ok (.aload_n 0, 1) := by decide +kernel
theorem dL_law_920 : decode cL_law 920 = .ok (.iload 4, 2) := by decide +kernel
theorem dL_law_922 : decode cL_law 922 = .ok (.iconst 3, 1) := by decide +kernel
theorem dL_law_923 : decode cL_law 923 = .ok (.iadd, 1) := by decide +kernel
theorem dL_law_924 : decode cL_law 924 = .ok (.iaload, 1) := by decide +kernel
theorem dL_law_925 : decode cL_law 925 = .ok (.invokevirtual 125, 3) := by decide +kernel
theorem dL_law_928 : decode cL_law 928 = .ok (.if_icmp .eq 244, 3) := by decide +kernel
theorem dL_law_931 : decode cL_law 931 = .ok (.iconst 0, 1) := by decide +kernel
theorem dL_law_932 : decode cL_law 932 = .ok (.ireturn, 1) := by decide +kernel
theorem dL_law_933 : decode cL_law 933 = .ok (.aload_n 1, 1) := by decide +kernel
theorem dL_law_934 : decode cL_law 934 = .ok (.aload_n 0, 1) := by decide +kernel
theorem dL_law_935 : decode cL_law 935 = .ok (.iload 4, 2) := by decide +kernel
theorem dL_law_937 : decode cL_law 937 = .ok (.iconst 1, 1) := by decide +kernel
theorem dL_law_938 : decode cL_law 938 = .ok (.iadd, 1) := by decide +kernel
theorem dL_law_939 : decode cL_law 939 = .ok (.iaload, 1) := by decide +kernel
theorem dL_law_940 : decode cL_law 940 = .ok (.aload_n 0, 1) := by decide +kernel
theorem dL_law_941 : decode cL_law 941 = .ok (.iload 4, 2) := by decide +kernel
theorem dL_law_943 : decode cL_law 943 = .ok (.iconst 2, 1) := by decide +kernel
theorem dL_law_944 : decode cL_law 944 = .ok (.iadd, 1) := by decide +kernel
theorem dL_law_945 : decode cL_law 945 = .ok (.iaload, 1) := by decide +kernel
theorem dL_law_946 : decode cL_law 946 = .ok (.aload_n 0, 1) := by decide +kernel
theorem dL_law_947 : decode cL_law 947 = .ok (.iload 4, 2) := by decide +kernel
theorem dL_law_949 : decode cL_law 949 = .ok (.iconst 3, 1) := by decide +kernel
theorem dL_law_950 : decode cL_law 950 = .ok (.iadd, 1) := by decide +kernel
theorem dL_law_951 : decode cL_law 951 = .ok (.iaload, 1) := by decide +kernel
theorem dL_law_952 : decode cL_law 952 = .ok (.invokevirtual 126, 3) := by decide +kernel
theorem dL_law_955 : decode cL_law 955 = .ok (.aload_n 2, 1) := by decide +kernel
theorem dL_law_956 : decode cL_law 956 = .ok (.aload_n 0, 1) := by decide +kernel
theorem dL_law_957 : decode cL_law 957 = .ok (.iload 4, 2) := by decide +kernel
theorem dL_law_959 : decode cL_law 959 = .ok (.iconst 1, 1) := by decide +kernel
theorem dL_law_960 : decode cL_law 960 = .ok (.iadd, 1) := by decide +kernel
theorem dL_law_961 : decode cL_law 961 = .ok (.iaload, 1) := by decide +kernel
theorem dL_law_962 : decode cL_law 962 = .ok (.aload_n 0, 1) := by decide +kernel
theorem dL_law_963 : decode cL_law 963 = .ok (.iload 4, 2) := by decide +kernel
theorem dL_law_965 : decode cL_law 965 = .ok (.iconst 2, 1) := by decide +kernel
theorem dL_law_966 : decode cL_law 966 = .ok (.iadd, 1) := by decide +kernel
theorem dL_law_967 : decode cL_law 967 = .ok (.iaload, 1) := by decide +kernel
theorem dL_law_968 : decode cL_law 968 = .ok (.aload_n 0, 1) := by decide +kernel
theorem dL_law_969 : decode cL_law 969 = .ok (.iload 4, 2) := by decide +kernel
theorem dL_law_971 : decode cL_law 971 = .ok (.iconst 3, 1) := by decide +kernel
theorem dL_law_972 : decode cL_law 972 = .ok (.iadd, 1) := by decide +kernel
theorem dL_law_973 : decode cL_law 973 = .ok (.iaload, 1) := by decide +kernel
theorem dL_law_974 : decode cL_law 974 = .ok (.invokevirtual 129, 3) := by decide +kernel
theorem dL_law_977 : decode cL_law 977 = .ok (.if_icmp .eq 195, 3) := by decide +kernel
theorem dL_law_980 : decode cL_law 980 = .ok (.iconst 0, 1) := by decide +kernel
theorem dL_law_981 : decode cL_law 981 = .ok (.ireturn, 1) := by decide +kernel
theorem dL_law_982 : decode cL_law 982 = .ok (.aload_n 1, 1) := by decide +kernel
theorem dL_law_983 : decode cL_law 983 = .ok (.aload_n 0, 1) := by decide +kernel
theorem dL_law_984 : decode cL_law 984 = .ok (.iload 4, 2) := by decide +kernel
theorem dL_law_986 : decode cL_law 986 = .ok (.iconst 1, 1) := by decide +kernel
theorem dL_law_987 : decode cL_law 987 = .ok (.iadd, 1) := by decide +kernel
theorem dL_law_988 : decode cL_law 988 = .ok (.iaload, 1) := by decide +kernel
theorem dL_law_989 : decode cL_law 989 = .ok (.aload_n 0, 1) := by decide +kernel
theorem dL_law_990 : decode cL_law 990 = .ok (.iload 4, 2) := by decide +kernel
theorem dL_law_992 : decode cL_law 992 = .ok (.iconst 2, 1) := by decide +kernel
theorem dL_law_993 : decode cL_law 993 = .ok (.iadd, 1) := by decide +kernel
theorem dL_law_994 : decode cL_law 994 = .ok (.iaload, 1) := by decide +kernel
theorem dL_law_995 : decode cL_law 995 = .ok (.aload_n 3, 1) := by decide +kernel
theorem dL_law_996 : decode cL_law 996 = .ok (.invokestatic 130, 3) := by decide +kernel
theorem dL_law_999 : decode cL_law 999 = .ok (.istore 5, 2) := by decide +kernel
theorem dL_law_1001 : decode cL_law 1001 = .ok (.aload_n 2, 1) := by decide +kernel
theorem dL_law_1002 : decode cL_law 1002 = .ok (.aload_n 0, 1) := by decide +kernel
theorem dL_law_1003 : decode cL_law 1003 = .ok (.iload 4, 2) := by decide +kernel
theorem dL_law_1005 : decode cL_law 1005 = .ok (.iconst 1, 1) := by decide +kernel
theorem dL_law_1006 : decode cL_law 1006 = .ok (.iadd, 1) := by decide +kernel
theorem dL_law_1007 : decode cL_law 1007 = .ok (.iaload, 1) := by decide +kernel
theorem dL_law_1008 : decode cL_law 1008 = .ok (.aload_n 0, 1) := by decide +kernel
theorem dL_law_1009 : decode cL_law 1009 = .ok (.iload 4, 2) := by decide +kernel
theorem dL_law_1011 : decode cL_law 1011 = .ok (.iconst 2, 1) := by decide +kernel
theorem dL_law_1012 : decode cL_law 1012 = .ok (.iadd, 1) := by decide +kernel
theorem dL_law_1013 : decode cL_law 1013 = .ok (.iaload, 1) := by decide +kernel
theorem dL_law_1014 : decode cL_law 1014 = .ok (.invokevirtual 135, 3) := by decide +kernel
theorem dL_law_1017 : decode cL_law 1017 = .ok (.lstore 6, 2) := by decide +kernel
theorem dL_law_1019 : decode cL_law 1019 = .ok (.aload_n 2, 1) := by decide +kernel
theorem dL_law_1020 : decode cL_law 1020 = .ok (.invokevirtual 136, 3) := by decide +kernel
theorem dL_law_1023 : decode cL_law 1023 = .ok (.iload 5, 2) := by decide +kernel
theorem dL_law_1025 : decode cL_law 1025 = .ok (.if_icmp .eq 5, 3) := by decide +kernel
theorem dL_law_1028 : decode cL_law 1028 = .ok (.iconst 0, 1) := by decide +kernel
theorem dL_law_1029 : decode cL_law 1029 = .ok (.ireturn, 1) := by decide +kernel
theorem dL_law_1030 : decode cL_law 1030 = .ok (.iload 5, 2) := by decide +kernel
theorem dL_law_1032 : decode cL_law 1032 = .ok (.ifCond .ne 14, 3) := by decide +kernel
theorem dL_law_1035 : decode cL_law 1035 = .ok (.aload_n 3, 1) := by decide +kernel
theorem dL_law_1036 : decode cL_law 1036 = .ok (.iconst 0, 1) := by decide +kernel
theorem dL_law_1037 : decode cL_law 1037 = .ok (.laload, 1) := by decide +kernel
theorem dL_law_1038 : decode cL_law 1038 = .ok (.lload 6, 2) := by decide +kernel
theorem dL_law_1040 : decode cL_law 1040 = .ok (.lcmp, 1) := by decide +kernel
theorem dL_law_1041 : decode cL_law 1041 = .ok (.ifCond .eq 5, 3) := by decide +kernel
theorem dL_law_1044 : decode cL_law 1044 = .ok (.iconst 0, 1) := by decide +kernel
theorem dL_law_1045 : decode cL_law 1045 = .ok (.ireturn, 1) := by decide +kernel
theorem dL_law_1046 : decode cL_law 1046 = .ok (.goto 126, 3) := by decide +kernel
theorem dL_law_1049 : decode cL_law 1049 = .ok (.aload_n 1, 1) := by decide +kernel
theorem dL_law_1050 : decode cL_law 1050 = .ok (.aload_n 0, 1) := by decide +kernel
theorem dL_law_1051 : decode cL_law 1051 = .ok (.iload 4, 2) := by decide +kernel
theorem dL_law_1053 : decode cL_law 1053 = .ok (.iconst 1, 1) := by decide +kernel
theorem dL_law_1054 : decode cL_law 1054 = .ok (.iadd, 1) := by decide +kernel
theorem dL_law_1055 : decode cL_law 1055 = .ok (.iaload, 1) := by decide +kernel
theorem dL_law_1056 : decode cL_law 1056 = .ok (.aload_n 0, 1) := by decide +kernel
theorem dL_law_1057 : decode cL_law 1057 = .ok (.iload 4, 2) := by decide +kernel
theorem dL_law_1059 : decode cL_law 1059 = .ok (.iconst 2, 1) := by decide +kernel
theorem dL_law_1060 : decode cL_law 1060 = .ok (.iadd, 1) := by decide +kernel
theorem dL_law_1061 : decode cL_law 1061 = .ok (.iaload, 1) := by decide +kernel
theorem dL_law_1062 : decode cL_law 1062 = .ok (.aload_n 0, 1) := by decide +kernel
theorem dL_law_1063 : decode cL_law 1063 = .ok (.iload 4, 2) := by decide +kernel
theorem dL_law_1065 : decode cL_law 1065 = .ok (.iconst 3, 1) := by decide +kernel
theorem dL_law_1066 : decode cL_law 1066 = .ok (.iadd, 1) := by decide +kernel
theorem dL_law_1067 : decode cL_law 1067 = .ok (.iaload, 1) := by decide +kernel
theorem dL_law_1068 : decode cL_law 1068 = .ok (.aload_n 0, 1) := by decide +kernel
theorem dL_law_1069 : decode cL_law 1069 = .ok (.iload 4, 2) := by decide +kernel
theorem dL_law_1071 : decode cL_law 1071 = .ok (.iconst 4, 1) := by decide +kernel
theorem dL_law_1072 : decode cL_law 1072 = .ok (.iadd, 1) := by decide +kernel
theorem dL_law_1073 : decode cL_law 1073 = .ok (.iaload, 1) := by decide +kernel
theorem dL_law_1074 : decode cL_law 1074 = .ok (.aload_n 0, 1) := by decide +kernel
theorem dL_law_1075 : decode cL_law 1075 = .ok (.iload 4, 2) := by decide +kernel
theorem dL_law_1077 : decode cL_law 1077 = .ok (.iconst 5, 1) := by decide +kernel
theorem dL_law_1078 : decode cL_law 1078 = .ok (.iadd, 1) := by decide +kernel
theorem dL_law_1079 : decode cL_law 1079 = .ok (.iaload, 1) := by decide +kernel
theorem dL_law_1080 : decode cL_law 1080 = .ok (.invokevirtual 139, 3) := by decide +kernel
theorem dL_law_1083 : decode cL_law 1083 = .ok (.aload_n 2, 1) := by decide +kernel
theorem dL_law_1084 : decode cL_law 1084 = .ok (.aload_n 0, 1) := by decide +kernel
theorem dL_law_1085 : decode cL_law 1085 = .ok (.iload 4, 2) := by decide +kernel
theorem dL_law_1087 : decode cL_law 1087 = .ok (.iconst 1, 1) := by decide +kernel
theorem dL_law_1088 : decode cL_law 1088 = .ok (.iadd, 1) := by decide +kernel
theorem dL_law_1089 : decode cL_law 1089 = .ok (.iaload, 1) := by decide +kernel
theorem dL_law_1090 : decode cL_law 1090 = .ok (.aload_n 0, 1) := by decide +kernel
theorem dL_law_1091 : decode cL_law 1091 = .ok (.iload 4, 2) := by decide +kernel
theorem dL_law_1093 : decode cL_law 1093 = .ok (.iconst 2, 1) := by decide +kernel
theorem dL_law_1094 : decode cL_law 1094 = .ok (.iadd, 1) := by decide +kernel
theorem dL_law_1095 : decode cL_law 1095 = .ok (.iaload, 1) := by decide +kernel
theorem dL_law_1096 : decode cL_law 1096 = .ok (.aload_n 0, 1) := by decide +kernel
theorem dL_law_1097 : decode cL_law 1097 = .ok (.iload 4, 2) := by decide +kernel
theorem dL_law_1099 : decode cL_law 1099 = .ok (.iconst 3, 1) := by decide +kernel
theorem dL_law_1100 : decode cL_law 1100 = .ok (.iadd, 1) := by decide +kernel
theorem dL_law_1101 : decode cL_law 1101 = .ok (.iaload, 1) := by decide +kernel
theorem dL_law_1102 : decode cL_law 1102 = .ok (.aload_n 0, 1) := by decide +kernel
theorem dL_law_1103 : decode cL_law 1103 = .ok (.iload 4, 2) := by decide +kernel
theorem dL_law_1105 : decode cL_law 1105 = .ok (.iconst 4, 1) := by decide +kernel
theorem dL_law_1106 : decode cL_law 1106 = .ok (.iadd, 1) := by decide +kernel
theorem dL_law_1107 : decode cL_law 1107 = .ok (.iaload, 1) := by decide +kernel
theorem dL_law_1108 : decode cL_law 1108 = .ok (.aload_n 0, 1) := by decide +kernel
theorem dL_law_1109 : decode cL_law 1109 = .ok (.iload 4, 2) := by decide +kernel
theorem dL_law_1111 : decode cL_law 1111 = .ok (.iconst 5, 1) := by decide +kernel
theorem dL_law_1112 : decode cL_law 1112 = .ok (.iadd, 1) := by decide +kernel
theorem dL_law_1113 : decode cL_law 1113 = .ok (.iaload, 1) := by decide +kernel
theorem dL_law_1114 : decode cL_law 1114 = .ok (.invokevirtual 143, 3) := by decide +kernel
theorem dL_law_1117 : decode cL_law 1117 = .ok (.if_icmp .eq 55, 3) := by decide +kernel
theorem dL_law_1120 : decode cL_law 1120 = .ok (.iconst 0, 1) := by decide +kernel
theorem dL_law_1121 : decode cL_law 1121 = .ok (.ireturn, 1) := by decide +kernel
theorem dL_law_1122 : decode cL_law 1122 = .ok (.aload_n 1, 1) := by decide +kernel
theorem dL_law_1123 : decode cL_law 1123 = .ok (.aload_n 0, 1) := by decide +kernel
theorem dL_law_1124 : decode cL_law 1124 = .ok (.iload 4, 2) := by decide +kernel
theorem dL_law_1126 : decode cL_law 1126 = .ok (.iconst 1, 1) := by decide +kernel
theorem dL_law_1127 : decode cL_law 1127 = .ok (.iadd, 1) := by decide +kernel
theorem dL_law_1128 : decode cL_law 1128 = .ok (.iaload, 1) := by decide +kernel
theorem dL_law_1129 : decode cL_law 1129 = .ok (.invokevirtual 144, 3) := by decide +kernel
theorem dL_law_1132 : decode cL_law 1132 = .ok (.aload_n 2, 1) := by decide +kernel
theorem dL_law_1133 : decode cL_law 1133 = .ok (.aload_n 0, 1) := by decide +kernel
theorem dL_law_1134 : decode cL_law 1134 = .ok (.iload 4, 2) := by decide +kernel
theorem dL_law_1136 : decode cL_law 1136 = .ok (.iconst 1, 1) := by decide +kernel
theorem dL_law_1137 : decode cL_law 1137 = .ok (.iadd, 1) := by decide +kernel
theorem dL_law_1138 : decode cL_law 1138 = .ok (.iaload, 1) := by decide +kernel
theorem dL_law_1139 : decode cL_law 1139 = .ok (.invokevirtual 147, 3) := by decide +kernel
theorem dL_law_1142 : decode cL_law 1142 = .ok (.if_icmp .eq 30, 3) := by decide +kernel
theorem dL_law_1145 : decode cL_law 1145 = .ok (.iconst 0, 1) := by decide +kernel
theorem dL_law_1146 : decode cL_law 1146 = .ok (.ireturn, 1) := by decide +kernel
theorem dL_law_1147 : decode cL_law 1147 = .ok (.aload_n 1, 1) := by decide +kernel
theorem dL_law_1148 : decode cL_law 1148 = .ok (.aload_n 0, 1) := by decide +kernel
theorem dL_law_1149 : decode cL_law 1149 = .ok (.iload 4, 2) := by decide +kernel
theorem dL_law_1151 : decode cL_law 1151 = .ok (.iconst 1, 1) := by decide +kernel
theorem dL_law_1152 : decode cL_law 1152 = .ok (.iadd, 1) := by decide +kernel
theorem dL_law_1153 : decode cL_law 1153 = .ok (.iaload, 1) := by decide +kernel
theorem dL_law_1154 : decode cL_law 1154 = .ok (.invokevirtual 148, 3) := by decide +kernel
theorem dL_law_1157 : decode cL_law 1157 = .ok (.aload_n 2, 1) := by decide +kernel
theorem dL_law_1158 : decode cL_law 1158 = .ok (.aload_n 0, 1) := by decide +kernel
theorem dL_law_1159 : decode cL_law 1159 = .ok (.iload 4, 2) := by decide +kernel
theorem dL_law_1161 : decode cL_law 1161 = .ok (.iconst 1, 1) := by decide +kernel
theorem dL_law_1162 : decode cL_law 1162 = .ok (.iadd, 1) := by decide +kernel
theorem dL_law_1163 : decode cL_law 1163 = .ok (.iaload, 1) := by decide +kernel
theorem dL_law_1164 : decode cL_law 1164 = .ok (.invokevirtual 151, 3) := by decide +kernel
theorem dL_law_1167 : decode cL_law 1167 = .ok (.if_icmp .eq 5, 3) := by decide +kernel
theorem dL_law_1170 : decode cL_law 1170 = .ok (.iconst 0, 1) := by decide +kernel
theorem dL_law_1171 : decode cL_law 1171 = .ok (.ireturn, 1) := by decide +kernel
theorem dL_law_1172 : decode cL_law 1172 = .ok (.iinc 4 6, 3) := by decide +kernel
theorem dL_law_1175 : decode cL_law 1175 = .ok (.goto (-1152), 3) := by decide +kernel
theorem dL_law_1178 : decode cL_law 1178 = .ok (.iconst 1, 1) := by decide +kernel
theorem dL_law_1179 : decode cL_law 1179 = .ok (.ireturn, 1) := by decide +kernel
