theorem dJ7_fill_bad5a_0 : decode cJ7_fill_bad5a 0 = .ok (.aload_n 0, 1) := by decide +kernel
theorem dJ7_fill_bad5a_1 : decode cJ7_fill_bad5a 1 = .ok (.arraylength, 1) := by decide +kernel
theorem dJ7_fill_bad5a_2 : decode cJ7_fill_bad5a 2 = .ok (.iload_n 1, 1) := by decide +kernel
theorem dJ7_fill_bad5a_3 : decode cJ7_fill_bad5a 3 = .ok (.iload_n 2, 1) := by decide +kernel
theorem dJ7_fill_bad5a_4 : decode cJ7_fill_bad5a 4 = .ok (.invokestatic 13, 3) := by decide +kernel
theorem dJ7_fill_bad5a_7 : decode cJ7_fill_bad5a 7 = .ok (.iload_n 1, 1) := by decide +kernel
theorem dJ7_fill_bad5a_8 : decode cJ7_fill_bad5a 8 = .ok (.istore 5, 2) := by decide +kernel
theorem dJ7_fill_bad5a_10 : decode cJ7_fill_bad5a 10 = .ok (.iload 5, 2) := by decide +kernel
theorem dJ7_fill_bad5a_12 : decode cJ7_fill_bad5a 12 = .ok (.iload_n 2, 1) := by decide +kernel
theorem dJ7_fill_bad5a_13 : decode cJ7_fill_bad5a 13 = .ok (.if_icmp .ge 14, 3) := by decide +kernel
theorem dJ7_fill_bad5a_16 : decode cJ7_fill_bad5a 16 = .ok (.aload_n 0, 1) := by decide +kernel
theorem dJ7_fill_bad5a_17 : decode cJ7_fill_bad5a 17 = .ok (.iload 5, 2) := by decide +kernel
theorem dJ7_fill_bad5a_19 : decode cJ7_fill_bad5a 19 = .ok (.lload_n 3, 1) := by decide +kernel
theorem dJ7_fill_bad5a_20 : decode cJ7_fill_bad5a 20 = .ok (.lastore, 1) := by decide +kernel
theorem dJ7_fill_bad5a_21 : decode cJ7_fill_bad5a 21 = .ok (.iinc 5 1, 3) := by decide +kernel
theorem dJ7_fill_bad5a_24 : decode cJ7_fill_bad5a 24 = .ok (.goto (-14), 3) := by decide +kernel
theorem dJ7_fill_bad5a_27 : decode cJ7_fill_bad5a 27 = .ok (.return_, 1) := by decide +kernel

theorem dJ7_rangeCheck_23922_0 : decode cJ7_rangeCheck_23922 0 = .ok (.iload_n 1, 1) := by decide +kernel
theorem dJ7_rangeCheck_23922_1 : decode cJ7_rangeCheck_23922 1 = .ok (.iload_n 2, 1) := by decide +kernel
theorem dJ7_rangeCheck_23922_2 : decode cJ7_rangeCheck_23922 2 = .ok (.if_icmp .le 44, 3) := by decide +kernel
theorem dJ7_rangeCheck_23922_5 : decode cJ7_rangeCheck_23922 5 = .ok (.new 43, 3) := by decide +kernel
theorem dJ7_rangeCheck_23922_8 : decode cJ7_rangeCheck_23922 8 = .ok (.dup, 1) := by decide +kernel
theorem dJ7_rangeCheck_23922_9 : decode cJ7_rangeCheck_23922 9 = .ok (.new 45, 3) := by decide +kernel
theorem dJ7_rangeCheck_23922_12 : decode cJ7_rangeCheck_23922 12 = .ok (.dup, 1) := by decide +kernel
theorem dJ7_rangeCheck_23922_13 : decode cJ7_rangeCheck_23922 13 = .ok (.invokespecial 47, 3) := by decide +kernel
theorem dJ7_rangeCheck_23922_16 : decode cJ7_rangeCheck_23922 16 = .ok (.ldc 48, 2) := by decide +kernel
theorem dJ7_rangeCheck_23922_18 : decode cJ7_rangeCheck_23922 18 = .ok (.invokevirtual 50, 3) := by decide +kernel
theorem dJ7_rangeCheck_23922_21 : decode cJ7_rangeCheck_23922 21 = .ok (.iload_n 1, 1) := by decide +kernel
theorem dJ7_rangeCheck_23922_22 : decode cJ7_rangeCheck_23922 22 = .ok (.invokevirtual 54, 3) := by decide +kernel
theorem dJ7_rangeCheck_23922_25 : decode cJ7_rangeCheck_23922 25 = .ok (.ldc 57, 2) := by decide +kernel
theorem dJ7_rangeCheck_23922_27 : decode cJ7_rangeCheck_23922 27 = .ok (.invokevirtual 50, 3) := by decide +kernel
theorem dJ7_rangeCheck_23922_30 : decode cJ7_rangeCheck_23922 30 = .ok (.iload_n 2, 1) := by decide +kernel
theorem dJ7_rangeCheck_23922_31 : decode cJ7_rangeCheck_23922 31 = .ok (.invokevirtual 54, 3) := by decide +kernel
theorem dJ7_rangeCheck_23922_34 : decode cJ7_rangeCheck_23922 34 = .ok (.ldc 59, 2) := by decide +kernel
theorem dJ7_rangeCheck_23922_36 : decode cJ7_rangeCheck_23922 36 = .ok (.invokevirtual 50, 3) := by decide +kernel
theorem dJ7_rangeCheck_23922_39 : decode cJ7_rangeCheck_23922 39 = .ok (.invokevirtual 61, 3) := by decide +kernel
theorem dJ7_rangeCheck_23922_42 : decode cJ7_rangeCheck_23922 42 = .ok (.invokespecial 65, 3) := by decide +kernel
theorem dJ7_rangeCheck_23922_45 : decode cJ7_rangeCheck_23922 45 = .ok (.athrow, 1) := by decide +kernel
theorem dJ7_rangeCheck_23922_46 : decode cJ7_rangeCheck_23922 46 = .ok (.iload_n 1, 1) := by decide +kernel
theorem dJ7_rangeCheck_23922_47 : decode cJ7_rangeCheck_23922 47 = .ok (.ifCond .ge 12, 3) := by decide +kernel
theorem dJ7_rangeCheck_23922_50 : decode cJ7_rangeCheck_23922 50 = .ok (.new 68, 3) := by decide +kernel
theorem dJ7_rangeCheck_23922_53 : decode cJ7_rangeCheck_23922 53 = .ok (.dup, 1) := by decide +kernel
theorem dJ7_rangeCheck_23922_54 : decode cJ7_rangeCheck_23922 54 = .ok (.iload_n 1, 1) := by decide +kernel
theorem dJ7_rangeCheck_23922_55 : decode cJ7_rangeCheck_23922 55 = .ok (.invokespecial 70, 3) := by decide +kernel
theorem dJ7_rangeCheck_23922_58 : decode cJ7_rangeCheck_23922 58 = .ok (.athrow, 1) := by decide +kernel
theorem dJ7_rangeCheck_23922_59 : decode cJ7_rangeCheck_23922 59 = .ok (.iload_n 2, 1) := by decide +kernel
theorem dJ7_rangeCheck_23922_60 : decode cJ7_rangeCheck_23922 60 = .ok (.iload_n 0, 1) := by decide +kernel
theorem dJ7_rangeCheck_23922_61 : decode cJ7_rangeCheck_23922 61 = .ok (.if_icmp .le 12, 3) := by decide +kernel
theorem dJ7_rangeCheck_23922_64 : decode cJ7_rangeCheck_23922 64 = .ok (.new 68, 3) := by decide +kernel
theorem dJ7_rangeCheck_23922_67 : decode cJ7_rangeCheck_23922 67 = .ok (.dup, 1) := by decide +kernel
theorem dJ7_rangeCheck_23922_68 : decode cJ7_rangeCheck_23922 68 = .ok (.iload_n 2, 1) := by decide +kernel
theorem dJ7_rangeCheck_23922_69 : decode cJ7_rangeCheck_23922 69 = .ok (.invokespecial 70, 3) := by decide +kernel
theorem dJ7_rangeCheck_23922_72 : decode cJ7_rangeCheck_23922 72 = .ok (.athrow, 1) := by decide +kernel
theorem dJ7_rangeCheck_23922_73 : decode cJ7_rangeCheck_23922 73 = .ok (.return_, 1) := by decide +kernel

theorem dX0_init_0 : decode cX0_init 0 = .ok (.aload_n 0, 1) := by decide +kernel
theorem dX0_init_1 : decode cX0_init 1 = .ok (.invokespecial 3, 3) := by decide +kernel
theorem dX0_init_4 : decode cX0_init 4 = .ok (.aload_n 0, 1) := by decide +kernel
theorem dX0_init_5 : decode cX0_init 5 = .ok (.bipush 6, 2) := by decide +kernel
theorem dX0_init_7 : decode cX0_init 7 = .ok (.newarray .int, 2) := by decide +kernel
theorem dX0_init_9 : decode cX0_init 9 = .ok (.putfield 9, 3) := by decide +kernel
theorem dX0_init_12 : decode cX0_init 12 = .ok (.aload_n 0, 1) := by decide +kernel
theorem dX0_init_13 : decode cX0_init 13 = .ok (.bipush 72, 2) := by decide +kernel
theorem dX0_init_15 : decode cX0_init 15 = .ok (.newarray .int, 2) := by decide +kernel
theorem dX0_init_17 : decode cX0_init 17 = .ok (.putfield 15, 3) := by decide +kernel
theorem dX0_init_20 : decode cX0_init 20 = .ok (.aload_n 0, 1) := by decide +kernel
theorem dX0_init_21 : decode cX0_init 21 = .ok (.bipush 12, 2) := by decide +kernel
theorem dX0_init_23 : decode cX0_init 23 = .ok (.newarray .int, 2) := by decide +kernel
theorem dX0_init_25 : decode cX0_init 25 = .ok (.putfield 18, 3) := by decide +kernel
theorem dX0_init_28 : decode cX0_init 28 = .ok (.aload_n 0, 1) := by decide +kernel
theorem dX0_init_29 : decode cX0_init 29 = .ok (.bipush 13, 2) := by decide +kernel
theorem dX0_init_31 : decode cX0_init 31 = .ok (.newarray .int, 2) := by decide +kernel
theorem dX0_init_33 : decode cX0_init 33 = .ok (.putfield 21, 3) := by decide +kernel
theorem dX0_init_36 : decode cX0_init 36 = .ok (.aload_n 0, 1) := by decide +kernel
theorem dX0_init_37 : decode cX0_init 37 = .ok (.bipush 6, 2) := by decide +kernel
theorem dX0_init_39 : decode cX0_init 39 = .ok (.newarray .int, 2) := by decide +kernel
theorem dX0_init_41 : decode cX0_init 41 = .ok (.putfield 24, 3) := by decide +kernel
theorem dX0_init_44 : decode cX0_init 44 = .ok (.aload_n 0, 1) := by decide +kernel
theorem dX0_init_45 : decode cX0_init 45 = .ok (.bipush 13, 2) := by decide +kernel
theorem dX0_init_47 : decode cX0_init 47 = .ok (.newarray .int, 2) := by decide +kernel
theorem dX0_init_49 : decode cX0_init 49 = .ok (.putfield 27, 3) := by decide +kernel
theorem dX0_init_52 : decode cX0_init 52 = .ok (.aload_n 0, 1) := by decide +kernel
theorem dX0_init_53 : decode cX0_init 53 = .ok (.aload_n 1, 1) := by decide +kernel
theorem dX0_init_54 : decode cX0_init 54 = .ok (.putfield 30, 3) := by decide +kernel
theorem dX0_init_57 : decode cX0_init 57 = .ok (.return_, 1) := by decide +kernel

theorem dX1_init_0 : decode cX1_init 0 = .ok (.aload_n 0, 1) := by decide +kernel
theorem dX1_init_1 : decode cX1_init 1 = .ok (.invokespecial 3, 3) := by decide +kernel
theorem dX1_init_4 : decode cX1_init 4 = .ok (.aload_n 0, 1) := by decide +kernel
theorem dX1_init_5 : decode cX1_init 5 = .ok (.bipush 61, 2) := by decide +kernel
theorem dX1_init_7 : decode cX1_init 7 = .ok (.newarray .boolean, 2) := by decide +kernel
theorem dX1_init_9 : decode cX1_init 9 = .ok (.putfield 9, 3) := by decide +kernel
theorem dX1_init_12 : decode cX1_init 12 = .ok (.aload_n 0, 1) := by decide +kernel
theorem dX1_init_13 : decode cX1_init 13 = .ok (.sipush 1300, 3) := by decide +kernel
theorem dX1_init_16 : decode cX1_init 16 = .ok (.newarray .int, 2) := by decide +kernel
theorem dX1_init_18 : decode cX1_init 18 = .ok (.putfield 15, 3) := by decide +kernel
theorem dX1_init_21 : decode cX1_init 21 = .ok (.aload_n 0, 1) := by decide +kernel
theorem dX1_init_22 : decode cX1_init 22 = .ok (.aload_n 1, 1) := by decide +kernel
theorem dX1_init_23 : decode cX1_init 23 = .ok (.putfield 19, 3) := by decide +kernel
theorem dX1_init_26 : decode cX1_init 26 = .ok (.aload_n 0, 1) := by decide +kernel
theorem dX1_init_27 : decode cX1_init 27 = .ok (.aload_n 2, 1) := by decide +kernel
theorem dX1_init_28 : decode cX1_init 28 = .ok (.putfield 23, 3) := by decide +kernel
theorem dX1_init_31 : decode cX1_init 31 = .ok (.return_, 1) := by decide +kernel

theorem dX2_init_0 : decode cX2_init 0 = .ok (.aload_n 0, 1) := by decide +kernel
theorem dX2_init_1 : decode cX2_init 1 = .ok (.invokespecial 3, 3) := by decide +kernel
theorem dX2_init_4 : decode cX2_init 4 = .ok (.aload_n 0, 1) := by decide +kernel
theorem dX2_init_5 : decode cX2_init 5 = .ok (.bipush 6, 2) := by decide +kernel
theorem dX2_init_7 : decode cX2_init 7 = .ok (.newarray .long, 2) := by decide +kernel
theorem dX2_init_9 : decode cX2_init 9 = .ok (.putfield 9, 3) := by decide +kernel
theorem dX2_init_12 : decode cX2_init 12 = .ok (.aload_n 0, 1) := by decide +kernel
theorem dX2_init_13 : decode cX2_init 13 = .ok (.aload_n 1, 1) := by decide +kernel
theorem dX2_init_14 : decode cX2_init 14 = .ok (.putfield 15, 3) := by decide +kernel
theorem dX2_init_17 : decode cX2_init 17 = .ok (.aload_n 0, 1) := by decide +kernel
theorem dX2_init_18 : decode cX2_init 18 = .ok (.aload_n 2, 1) := by decide +kernel
theorem dX2_init_19 : decode cX2_init 19 = .ok (.putfield 19, 3) := by decide +kernel
theorem dX2_init_22 : decode cX2_init 22 = .ok (.return_, 1) := by decide +kernel

theorem dX3_advance_0 : decode cX3_advance 0 = .ok (.aload_n 0, 1) := by decide +kernel
theorem dX3_advance_1 : decode cX3_advance 1 = .ok (.aload_n 0, 1) := by decide +kernel
theorem dX3_advance_2 : decode cX3_advance 2 = .ok (.getfield 31, 3) := by decide +kernel
theorem dX3_advance_5 : decode cX3_advance 5 = .ok (.putfield 137, 3) := by decide +kernel
theorem dX3_advance_8 : decode cX3_advance 8 = .ok (.aload_n 0, 1) := by decide +kernel
theorem dX3_advance_9 : decode cX3_advance 9 = .ok (.getfield 137, 3) := by decide +kernel
theorem dX3_advance_12 : decode cX3_advance 12 = .ok (.aload_n 0, 1) := by decide +kernel
theorem dX3_advance_13 : decode cX3_advance 13 = .ok (.getfield 15, 3) := by decide +kernel
theorem dX3_advance_16 : decode cX3_advance 16 = .ok (.getfield 140, 3) := by decide +kernel
theorem dX3_advance_19 : decode cX3_advance 19 = .ok (.if_icmp .ge 48, 3) := by decide +kernel
theorem dX3_advance_22 : decode cX3_advance 22 = .ok (.aload_n 0, 1) := by decide +kernel
theorem dX3_advance_23 : decode cX3_advance 23 = .ok (.getfield 15, 3) := by decide +kernel
theorem dX3_advance_26 : decode cX3_advance 26 = .ok (.aload_n 0, 1) := by decide +kernel
theorem dX3_advance_27 : decode cX3_advance 27 = .ok (.getfield 137, 3) := by decide +kernel
theorem dX3_advance_30 : decode cX3_advance 30 = .ok (.invokevirtual 145, 3) := by decide +kernel
theorem dX3_advance_33 : decode cX3_advance 33 = .ok (.bipush 32, 2) := by decide +kernel
theorem dX3_advance_35 : decode cX3_advance 35 = .ok (.if_icmp .eq 19, 3) := by decide +kernel
theorem dX3_advance_38 : decode cX3_advance 38 = .ok (.aload_n 0, 1) := by decide +kernel
theorem dX3_advance_39 : decode cX3_advance 39 = .ok (.getfield 15, 3) := by decide +kernel
theorem dX3_advance_42 : decode cX3_advance 42 = .ok (.aload_n 0, 1) := by decide +kernel
theorem dX3_advance_43 : decode cX3_advance 43 = .ok (.getfield 137, 3) := by decide +kernel
theorem dX3_advance_46 : decode cX3_advance 46 = .ok (.invokevirtual 145, 3) := by decide +kernel
theorem dX3_advance_49 : decode cX3_advance 49 = .ok (.bipush 10, 2) := by decide +kernel
theorem dX3_advance_51 : decode cX3_advance 51 = .ok (.if_icmp .ne 16, 3) := by decide +kernel
theorem dX3_advance_54 : decode cX3_advance 54 = .ok (.aload_n 0, 1) := by decide +kernel
theorem dX3_advance_55 : decode cX3_advance 55 = .ok (.dup, 1) := by decide +kernel
theorem dX3_advance_56 : decode cX3_advance 56 = .ok (.getfield 137, 3) := by decide +kernel
theorem dX3_advance_59 : decode cX3_advance 59 = .ok (.iconst 1, 1) := by decide +kernel
theorem dX3_advance_60 : decode cX3_advance 60 = .ok (.iadd, 1) := by decide +kernel
theorem dX3_advance_61 : decode cX3_advance 61 = .ok (.putfield 137, 3) := by decide +kernel
theorem dX3_advance_64 : decode cX3_advance 64 = .ok (.goto (-56), 3) := by decide +kernel
theorem dX3_advance_67 : decode cX3_advance 67 = .ok (.aload_n 0, 1) := by decide +kernel
theorem dX3_advance_68 : decode cX3_advance 68 = .ok (.aload_n 0, 1) := by decide +kernel
theorem dX3_advance_69 : decode cX3_advance 69 = .ok (.getfield 15, 3) := by decide +kernel
theorem dX3_advance_72 : decode cX3_advance 72 = .ok (.aload_n 0, 1) := by decide +kernel
theorem dX3_advance_73 : decode cX3_advance 73 = .ok (.getfield 137, 3) := by decide +kernel
theorem dX3_advance_76 : decode cX3_advance 76 = .ok (.invokevirtual 145, 3) := by decide +kernel
theorem dX3_advance_79 : decode cX3_advance 79 = .ok (.invokestatic 148, 3) := by decide +kernel
theorem dX3_advance_82 : decode cX3_advance 82 = .ok (.putfield 37, 3) := by decide +kernel
theorem dX3_advance_85 : decode cX3_advance 85 = .ok (.aload_n 0, 1) := by decide +kernel
theorem dX3_advance_86 : decode cX3_advance 86 = .ok (.aload_n 0, 1) := by decide +kernel
theorem dX3_advance_87 : decode cX3_advance 87 = .ok (.getfield 37, 3) := by decide +kernel
theorem dX3_advance_90 : decode cX3_advance 90 = .ok (.ifCond .ne 10, 3) := by decide +kernel
theorem dX3_advance_93 : decode cX3_advance 93 = .ok (.aload_n 0, 1) := by decide +kernel
theorem dX3_advance_94 : decode cX3_advance 94 = .ok (.getfield 137, 3) := by decide +kernel
theorem dX3_advance_97 : decode cX3_advance 97 = .ok (.goto 9, 3) := by decide +kernel
theorem dX3_advance_100 : decode cX3_advance 100 = .ok (.aload_n 0, 1) := by decide +kernel
theorem dX3_advance_101 : decode cX3_advance 101 = .ok (.getfield 137, 3) := by decide +kernel
theorem dX3_advance_104 : decode cX3_advance 104 = .ok (.iconst 1, 1) := by decide +kernel
theorem dX3_advance_105 : decode cX3_advance 105 = .ok (.iadd, 1) := by decide +kernel
theorem dX3_advance_106 : decode cX3_advance 106 = .ok (.putfield 31, 3) := by decide +kernel
theorem dX3_advance_109 : decode cX3_advance 109 = .ok (.aload_n 0, 1) := by decide +kernel
theorem dX3_advance_110 : decode cX3_advance 110 = .ok (.getfield 37, 3) := by decide +kernel
theorem dX3_advance_113 : decode cX3_advance 113 = .ok (.iconst 1, 1) := by decide +kernel
theorem dX3_advance_114 : decode cX3_advance 114 = .ok (.if_icmp .eq 11, 3) := by decide +kernel
theorem dX3_advance_117 : decode cX3_advance 117 = .ok (.aload_n 0, 1) := by decide +kernel
theorem dX3_advance_118 : decode cX3_advance 118 = .ok (.getfield 37, 3) := by decide +kernel
theorem dX3_advance_121 : decode cX3_advance 121 = .ok (.iconst 2, 1) := by decide +kernel
theorem dX3_advance_122 : decode cX3_advance 122 = .ok (.if_icmp .ne 7, 3) := by decide +kernel
theorem dX3_advance_125 : decode cX3_advance 125 = .ok (.iconst 1, 1) := by decide +kernel
theorem dX3_advance_126 : decode cX3_advance 126 = .ok (.goto 4, 3) := by decide +kernel
theorem dX3_advance_129 : decode cX3_advance 129 = .ok (.iconst 0, 1) := by decide +kernel
theorem dX3_advance_130 : decode cX3_advance 130 = .ok (.istore_n 1, 1) := by decide +kernel
theorem dX3_advance_131 : decode cX3_advance 131 = .ok (.iload_n 1, 1) := by decide +kernel
theorem dX3_advance_132 : decode cX3_advance 132 = .ok (.ifCond .eq 51, 3) := by decide +kernel
theorem dX3_advance_135 : decode cX3_advance 135 = .ok (.aload_n 0, 1) := by decide +kernel
theorem dX3_advance_136 : decode cX3_advance 136 = .ok (.getfield 31, 3) := by decide +kernel
theorem dX3_advance_139 : decode cX3_advance 139 = .ok (.aload_n 0, 1) := by decide +kernel
theorem dX3_advance_140 : decode cX3_advance 140 = .ok (.getfield 15, 3) := by decide +kernel
theorem dX3_advance_143 : decode cX3_advance 143 = .ok (.getfield 140, 3) := by decide +kernel
theorem dX3_advance_146 : decode cX3_advance 146 = .ok (.if_icmp .ge 37, 3) := by decide +kernel
theorem dX3_advance_149 : decode cX3_advance 149 = .ok (.aload_n 0, 1) := by decide +kernel
theorem dX3_advance_150 : decode cX3_advance 150 = .ok (.getfield 15, 3) := by decide +kernel
theorem dX3_advance_153 : decode cX3_advance 153 = .ok (.aload_n 0, 1) := by decide +kernel
theorem dX3_advance_154 : decode cX3_advance 154 = .ok (.getfield 31, 3) := by decide +kernel
theorem dX3_advance_157 : decode cX3_advance 157 = .ok (.invokevirtual 145, 3) := by decide +kernel
theorem dX3_advance_160 : decode cX3_advance 160 = .ok (.invokestatic 148, 3) := by decide +kernel
theorem dX3_advance_163 : decode cX3_advance 163 = .ok (.aload_n 0, 1) := by decide +kernel
theorem dX3_advance_164 : decode cX3_advance 164 = .ok (.getfield 37, 3) := by decide +kernel
theorem dX3_advance_167 : decode cX3_advance 167 = .ok (.if_icmp .ne 16, 3) := by decide +kernel
theorem dX3_advance_170 : decode cX3_advance 170 = .ok (.aload_n 0, 1) := by decide +kernel
theorem dX3_advance_171 : decode cX3_advance 171 = .ok (.dup, 1) := by decide +kernel
theorem dX3_advance_172 : decode cX3_advance 172 = .ok (.getfield 31, 3) := by decide +kernel
theorem dX3_advance_175 : decode cX3_advance 175 = .ok (.iconst 1, 1) := by decide +kernel
theorem dX3_advance_176 : decode cX3_advance 176 = .ok (.iadd, 1) := by decide +kernel
theorem dX3_advance_177 : decode cX3_advance 177 = .ok (.putfield 31, 3) := by decide +kernel
theorem dX3_advance_180 : decode cX3_advance 180 = .ok (.goto (-49), 3) := by decide +kernel
theorem dX3_advance_183 : decode cX3_advance 183 = .ok (.aload_n 0, 1) := by decide +kernel
theorem dX3_advance_184 : decode cX3_advance 184 = .ok (.iconst 0, 1) := by decide +kernel
theorem dX3_advance_185 : decode cX3_advance 185 = .ok (.putfield 118, 3) := by decide +kernel
theorem dX3_advance_188 : decode cX3_advance 188 = .ok (.aload_n 0, 1) := by decide +kernel
theorem dX3_advance_189 : decode cX3_advance 189 = .ok (.getfield 137, 3) := by decide +kernel
theorem dX3_advance_192 : decode cX3_advance 192 = .ok (.istore_n 2, 1) := by decide +kernel
theorem dX3_advance_193 : decode cX3_advance 193 = .ok (.aload_n 0, 1) := by decide +kernel
theorem dX3_advance_194 : decode cX3_advance 194 = .ok (.getfield 37, 3) := by decide +kernel
theorem dX3_advance_197 : decode cX3_advance 197 = .ok (.iconst 2, 1) := by decide +kernel
theorem dX3_advance_198 : decode cX3_advance 198 = .ok (.if_icmp .ne 46, 3) := by decide +kernel
theorem dX3_advance_201 : decode cX3_advance 201 = .ok (.iload_n 2, 1) := by decide +kernel
theorem dX3_advance_202 : decode cX3_advance 202 = .ok (.aload_n 0, 1) := by decide +kernel
theorem dX3_advance_203 : decode cX3_advance 203 = .ok (.getfield 31, 3) := by decide +kernel
theorem dX3_advance_206 : decode cX3_advance 206 = .ok (.if_icmp .ge 38, 3) := by decide +kernel
theorem dX3_advance_209 : decode cX3_advance 209 = .ok (.aload_n 0, 1) := by decide +kernel
theorem dX3_advance_210 : decode cX3_advance 210 = .ok (.sipush 1000, 3) := by decide +kernel
theorem dX3_advance_213 : decode cX3_advance 213 = .ok (.aload_n 0, 1) := by decide +kernel
theorem dX3_advance_214 : decode cX3_advance 214 = .ok (.getfield 118, 3) := by decide +kernel
theorem dX3_advance_217 : decode cX3_advance 217 = .ok (.bipush 10, 2) := by decide +kernel
theorem dX3_advance_219 : decode cX3_advance 219 = .ok (.imul, 1) := by decide +kernel
theorem dX3_advance_220 : decode cX3_advance 220 = .ok (.aload_n 0, 1) := by decide +kernel
theorem dX3_advance_221 : decode cX3_advance 221 = .ok (.getfield 15, 3) := by decide +kernel
theorem dX3_advance_224 : decode cX3_advance 224 = .ok (.iload_n 2, 1) := by decide +kernel
theorem dX3_advance_225 : decode cX3_advance 225 = .ok (.invokevirtual 145, 3) := by decide +kernel
theorem dX3_advance_228 : decode cX3_advance 228 = .ok (.iadd, 1) := by decide +kernel
theorem dX3_advance_229 : decode cX3_advance 229 = .ok (.bipush 48, 2) := by decide +kernel
theorem dX3_advance_231 : decode cX3_advance 231 = .ok (.isub, 1) := by decide +kernel
theorem dX3_advance_232 : decode cX3_advance 232 = .ok (.invokestatic 151, 3) := by decide +kernel
theorem dX3_advance_235 : decode cX3_advance 235 = .ok (.putfield 118, 3) := by decide +kernel
theorem dX3_advance_238 : decode cX3_advance 238 = .ok (.iinc 2 1, 3) := by decide +kernel
theorem dX3_advance_241 : decode cX3_advance 241 = .ok (.goto (-48), 3) := by decide +kernel
theorem dX3_advance_244 : decode cX3_advance 244 = .ok (.return_, 1) := by decide +kernel

theorem dX3_init_0 : decode cX3_init 0 = .ok (.aload_n 0, 1) := by decide +kernel
theorem dX3_init_1 : decode cX3_init 1 = .ok (.invokespecial 3, 3) := by decide +kernel
theorem dX3_init_4 : decode cX3_init 4 = .ok (.aload_n 0, 1) := by decide +kernel
theorem dX3_init_5 : decode cX3_init 5 = .ok (.iconst (-1), 1) := by decide +kernel
theorem dX3_init_6 : decode cX3_init 6 = .ok (.putfield 9, 3) := by decide +kernel
theorem dX3_init_9 : decode cX3_init 9 = .ok (.aload_n 0, 1) := by decide +kernel
theorem dX3_init_10 : decode cX3_init 10 = .ok (.aload_n 1, 1) := by decide +kernel
theorem dX3_init_11 : decode cX3_init 11 = .ok (.putfield 15, 3) := by decide +kernel
theorem dX3_init_14 : decode cX3_init 14 = .ok (.aload_n 0, 1) := by decide +kernel
theorem dX3_init_15 : decode cX3_init 15 = .ok (.aload_n 2, 1) := by decide +kernel
theorem dX3_init_16 : decode cX3_init 16 = .ok (.putfield 19, 3) := by decide +kernel
theorem dX3_init_19 : decode cX3_init 19 = .ok (.return_, 1) := by decide +kernel

theorem dX3_kindOf_0 : decode cX3_kindOf 0 = .ok (.iload_n 0, 1) := by decide +kernel
theorem dX3_kindOf_1 : decode cX3_kindOf 1 = .ok (.bipush 97, 2) := by decide +kernel
theorem dX3_kindOf_3 : decode cX3_kindOf 3 = .ok (.if_icmp .lt 11, 3) := by decide +kernel
theorem dX3_kindOf_6 : decode cX3_kindOf 6 = .ok (.iload_n 0, 1) := by decide +kernel
theorem dX3_kindOf_7 : decode cX3_kindOf 7 = .ok (.bipush 122, 2) := by decide +kernel
theorem dX3_kindOf_9 : decode cX3_kindOf 9 = .ok (.if_icmp .gt 5, 3) := by decide +kernel
theorem dX3_kindOf_12 : decode cX3_kindOf 12 = .ok (.iconst 1, 1) := by decide +kernel
theorem dX3_kindOf_13 : decode cX3_kindOf 13 = .ok (.ireturn, 1) := by decide +kernel
theorem dX3_kindOf_14 : decode cX3_kindOf 14 = .ok (.iload_n 0, 1) := by decide +kernel
theorem dX3_kindOf_15 : decode cX3_kindOf 15 = .ok (.bipush 48, 2) := by decide +kernel
theorem dX3_kindOf_17 : decode cX3_kindOf 17 = .ok (.if_icmp .lt 11, 3) := by decide +kernel
theorem dX3_kindOf_20 : decode cX3_kindOf 20 = .ok (.iload_n 0, 1) := by decide +kernel
theorem dX3_kindOf_21 : decode cX3_kindOf 21 = .ok (.bipush 57, 2) := by decide +kernel
theorem dX3_kindOf_23 : decode cX3_kindOf 23 = .ok (.if_icmp .gt 5, 3) := by decide +kernel
theorem dX3_kindOf_26 : decode cX3_kindOf 26 = .ok (.iconst 2, 1) := by decide +kernel
theorem dX3_kindOf_27 : decode cX3_kindOf 27 = .ok (.ireturn, 1) := by decide +kernel
theorem dX3_kindOf_28 : decode cX3_kindOf 28 = .ok (.iload_n 0, 1) := by decide +kernel
theorem dX3_kindOf_29 : decode cX3_kindOf 29 = .ok (.bipush 59, 2) := by decide +kernel
theorem dX3_kindOf_31 : decode cX3_kindOf 31 = .ok (.if_icmp .ne 5, 3) := by decide +kernel
theorem dX3_kindOf_34 : decode cX3_kindOf 34 = .ok (.iconst 3, 1) := by decide +kernel
theorem dX3_kindOf_35 : decode cX3_kindOf 35 = .ok (.ireturn, 1) := by decide +kernel
theorem dX3_kindOf_36 : decode cX3_kindOf 36 = .ok (.iload_n 0, 1) := by decide +kernel
theorem dX3_kindOf_37 : decode cX3_kindOf 37 = .ok (.iconst (-1), 1) := by decide +kernel
theorem dX3_kindOf_38 : decode cX3_kindOf 38 = .ok (.if_icmp .ne 7, 3) := by decide +kernel
theorem dX3_kindOf_41 : decode cX3_kindOf 41 = .ok (.iconst 0, 1) := by decide +kernel
theorem dX3_kindOf_42 : decode cX3_kindOf 42 = .ok (.goto 4, 3) := by decide +kernel
theorem dX3_kindOf_45 : decode cX3_kindOf 45 = .ok (.iconst 4, 1) := by decide +kernel
theorem dX3_kindOf_46 : decode cX3_kindOf 46 = .ok (.ireturn, 1) := by decide +kernel

theorem dX3_parse_0 : decode cX3_parse 0 = .ok (.aload_n 0, 1) := by decide +kernel
theorem dX3_parse_1 : decode cX3_parse 1 = .ok (.getfield 19, 3) := by decide +kernel
theorem dX3_parse_4 : decode cX3_parse 4 = .ok (.invokevirtual 23, 3) := by decide +kernel
theorem dX3_parse_7 : decode cX3_parse 7 = .ok (.aload_n 0, 1) := by decide +kernel
theorem dX3_parse_8 : decode cX3_parse 8 = .ok (.iconst 0, 1) := by decide +kernel
theorem dX3_parse_9 : decode cX3_parse 9 = .ok (.putfield 28, 3) := by decide +kernel
theorem dX3_parse_12 : decode cX3_parse 12 = .ok (.aload_n 0, 1) := by decide +kernel
theorem dX3_parse_13 : decode cX3_parse 13 = .ok (.iconst (-1), 1) := by decide +kernel
theorem dX3_parse_14 : decode cX3_parse 14 = .ok (.putfield 9, 3) := by decide +kernel
theorem dX3_parse_17 : decode cX3_parse 17 = .ok (.aload_n 0, 1) := by decide +kernel
theorem dX3_parse_18 : decode cX3_parse 18 = .ok (.iconst 0, 1) := by decide +kernel
theorem dX3_parse_19 : decode cX3_parse 19 = .ok (.putfield 31, 3) := by decide +kernel
theorem dX3_parse_22 : decode cX3_parse 22 = .ok (.aload_n 0, 1) := by decide +kernel
theorem dX3_parse_23 : decode cX3_parse 23 = .ok (.invokevirtual 34, 3) := by decide +kernel
theorem dX3_parse_26 : decode cX3_parse 26 = .ok (.iconst 0, 1) := by decide +kernel
theorem dX3_parse_27 : decode cX3_parse 27 = .ok (.istore_n 1, 1) := by decide +kernel
theorem dX3_parse_28 : decode cX3_parse 28 = .ok (.iload_n 1, 1) := by decide +kernel
theorem dX3_parse_29 : decode cX3_parse 29 = .ok (.sipush 700, 3) := by decide +kernel
theorem dX3_parse_32 : decode cX3_parse 32 = .ok (.if_icmp .ge 38, 3) := by decide +kernel
theorem dX3_parse_35 : decode cX3_parse 35 = .ok (.aload_n 0, 1) := by decide +kernel
theorem dX3_parse_36 : decode cX3_parse 36 = .ok (.getfield 37, 3) := by decide +kernel
theorem dX3_parse_39 : decode cX3_parse 39 = .ok (.ifCond .eq 31, 3) := by decide +kernel
theorem dX3_parse_42 : decode cX3_parse 42 = .ok (.aload_n 0, 1) := by decide +kernel
theorem dX3_parse_43 : decode cX3_parse 43 = .ok (.invokevirtual 40, 3) := by decide +kernel
theorem dX3_parse_46 : decode cX3_parse 46 = .ok (.ifCond .ne 5, 3) := by decide +kernel
theorem dX3_parse_49 : decode cX3_parse 49 = .ok (.iconst 0, 1) := by decide +kernel
theorem dX3_parse_50 : decode cX3_parse 50 = .ok (.ireturn, 1) := by decide +kernel
theorem dX3_parse_51 : decode cX3_parse 51 = .ok (.aload_n 0, 1) := by decide +kernel
theorem dX3_parse_52 : decode cX3_parse 52 = .ok (.getfield 19, 3) := by decide +kernel
theorem dX3_parse_55 : decode cX3_parse 55 = .ok (.dup, 1) := by decide +kernel
theorem dX3_parse_56 : decode cX3_parse 56 = .ok (.getfield 44, 3) := by decide +kernel
theorem dX3_parse_59 : decode cX3_parse 59 = .ok (.iconst 1, 1) := by decide +kernel
theorem dX3_parse_60 : decode cX3_parse 60 = .ok (.iadd, 1) := by decide +kernel
theorem dX3_parse_61 : decode cX3_parse 61 = .ok (.putfield 44, 3) := by decide +kernel
theorem dX3_parse_64 : decode cX3_parse 64 = .ok (.iinc 1 1, 3) := by decide +kernel
theorem dX3_parse_67 : decode cX3_parse 67 = .ok (.goto (-39), 3) := by decide +kernel
theorem dX3_parse_70 : decode cX3_parse 70 = .ok (.iconst 1, 1) := by decide +kernel
theorem dX3_parse_71 : decode cX3_parse 71 = .ok (.ireturn, 1) := by decide +kernel

theorem dX4_init_0 : decode cX4_init 0 = .ok (.aload_n 0, 1) := by decide +kernel
theorem dX4_init_1 : decode cX4_init 1 = .ok (.invokespecial 3, 3) := by decide +kernel
theorem dX4_init_4 : decode cX4_init 4 = .ok (.aload_n 0, 1) := by decide +kernel
theorem dX4_init_5 : decode cX4_init 5 = .ok (.bipush 6, 2) := by decide +kernel
theorem dX4_init_7 : decode cX4_init 7 = .ok (.bipush 6, 2) := by decide +kernel
theorem dX4_init_9 : decode cX4_init 9 = .ok (.multianewarray 9 2, 4) := by decide +kernel
theorem dX4_init_13 : decode cX4_init 13 = .ok (.putfield 11, 3) := by decide +kernel
theorem dX4_init_16 : decode cX4_init 16 = .ok (.aload_n 0, 1) := by decide +kernel
theorem dX4_init_17 : decode cX4_init 17 = .ok (.bipush 6, 2) := by decide +kernel
theorem dX4_init_19 : decode cX4_init 19 = .ok (.newarray .int, 2) := by decide +kernel
theorem dX4_init_21 : decode cX4_init 21 = .ok (.putfield 16, 3) := by decide +kernel
theorem dX4_init_24 : decode cX4_init 24 = .ok (.aload_n 0, 1) := by decide +kernel
theorem dX4_init_25 : decode cX4_init 25 = .ok (.bipush 6, 2) := by decide +kernel
theorem dX4_init_27 : decode cX4_init 27 = .ok (.newarray .int, 2) := by decide +kernel
theorem dX4_init_29 : decode cX4_init 29 = .ok (.putfield 20, 3) := by decide +kernel
theorem dX4_init_32 : decode cX4_init 32 = .ok (.aload_n 0, 1) := by decide +kernel
theorem dX4_init_33 : decode cX4_init 33 = .ok (.iconst 5, 1) := by decide +kernel
theorem dX4_init_34 : decode cX4_init 34 = .ok (.newarray .int, 2) := by decide +kernel
theorem dX4_init_36 : decode cX4_init 36 = .ok (.putfield 23, 3) := by decide +kernel
theorem dX4_init_39 : decode cX4_init 39 = .ok (.aload_n 0, 1) := by decide +kernel
theorem dX4_init_40 : decode cX4_init 40 = .ok (.iconst 5, 1) := by decide +kernel
theorem dX4_init_41 : decode cX4_init 41 = .ok (.newarray .int, 2) := by decide +kernel
theorem dX4_init_43 : decode cX4_init 43 = .ok (.putfield 26, 3) := by decide +kernel
theorem dX4_init_46 : decode cX4_init 46 = .ok (.aload_n 0, 1) := by decide +kernel
theorem dX4_init_47 : decode cX4_init 47 = .ok (.aload_n 1, 1) := by decide +kernel
theorem dX4_init_48 : decode cX4_init 48 = .ok (.putfield 29, 3) := by decide +kernel
theorem dX4_init_51 : decode cX4_init 51 = .ok (.aload_n 0, 1) := by decide +kernel
theorem dX4_init_52 : decode cX4_init 52 = .ok (.aload_n 2, 1) := by decide +kernel
theorem dX4_init_53 : decode cX4_init 53 = .ok (.putfield 33, 3) := by decide +kernel
theorem dX4_init_56 : decode cX4_init 56 = .ok (.return_, 1) := by decide +kernel

theorem dX5_filled_0 : decode cX5_filled 0 = .ok (.iconst 0, 1) := by decide +kernel
theorem dX5_filled_1 : decode cX5_filled 1 = .ok (.istore_n 1, 1) := by decide +kernel
theorem dX5_filled_2 : decode cX5_filled 2 = .ok (.iconst 0, 1) := by decide +kernel
theorem dX5_filled_3 : decode cX5_filled 3 = .ok (.istore_n 2, 1) := by decide +kernel
theorem dX5_filled_4 : decode cX5_filled 4 = .ok (.iload_n 2, 1) := by decide +kernel
theorem dX5_filled_5 : decode cX5_filled 5 = .ok (.iconst 4, 1) := by decide +kernel
theorem dX5_filled_6 : decode cX5_filled 6 = .ok (.if_icmp .ge 25, 3) := by decide +kernel
theorem dX5_filled_9 : decode cX5_filled 9 = .ok (.iload_n 1, 1) := by decide +kernel
theorem dX5_filled_10 : decode cX5_filled 10 = .ok (.aload_n 0, 1) := by decide +kernel
theorem dX5_filled_11 : decode cX5_filled 11 = .ok (.iload_n 2, 1) := by decide +kernel
theorem dX5_filled_12 : decode cX5_filled 12 = .ok (.invokevirtual 22, 3) := by decide +kernel
theorem dX5_filled_15 : decode cX5_filled 15 = .ok (.ifCond .eq 7, 3) := by decide +kernel
theorem dX5_filled_18 : decode cX5_filled 18 = .ok (.iconst 0, 1) := by decide +kernel
theorem dX5_filled_19 : decode cX5_filled 19 = .ok (.goto 4, 3) := by decide +kernel
theorem dX5_filled_22 : decode cX5_filled 22 = .ok (.iconst 1, 1) := by decide +kernel
theorem dX5_filled_23 : decode cX5_filled 23 = .ok (.iadd, 1) := by decide +kernel
theorem dX5_filled_24 : decode cX5_filled 24 = .ok (.istore_n 1, 1) := by decide +kernel
theorem dX5_filled_25 : decode cX5_filled 25 = .ok (.iinc 2 1, 3) := by decide +kernel
theorem dX5_filled_28 : decode cX5_filled 28 = .ok (.goto (-24), 3) := by decide +kernel
theorem dX5_filled_31 : decode cX5_filled 31 = .ok (.iload_n 1, 1) := by decide +kernel
theorem dX5_filled_32 : decode cX5_filled 32 = .ok (.ireturn, 1) := by decide +kernel

theorem dX5_init_0 : decode cX5_init 0 = .ok (.aload_n 0, 1) := by decide +kernel
theorem dX5_init_1 : decode cX5_init 1 = .ok (.invokespecial 3, 3) := by decide +kernel
theorem dX5_init_4 : decode cX5_init 4 = .ok (.aload_n 0, 1) := by decide +kernel
theorem dX5_init_5 : decode cX5_init 5 = .ok (.iconst 4, 1) := by decide +kernel
theorem dX5_init_6 : decode cX5_init 6 = .ok (.newarray .int, 2) := by decide +kernel
theorem dX5_init_8 : decode cX5_init 8 = .ok (.dup, 1) := by decide +kernel
theorem dX5_init_9 : decode cX5_init 9 = .ok (.iconst 0, 1) := by decide +kernel
theorem dX5_init_10 : decode cX5_init 10 = .ok (.iconst (-1), 1) := by decide +kernel
theorem dX5_init_11 : decode cX5_init 11 = .ok (.iastore, 1) := by decide +kernel
theorem dX5_init_12 : decode cX5_init 12 = .ok (.dup, 1) := by decide +kernel
theorem dX5_init_13 : decode cX5_init 13 = .ok (.iconst 1, 1) := by decide +kernel
theorem dX5_init_14 : decode cX5_init 14 = .ok (.iconst (-1), 1) := by decide +kernel
theorem dX5_init_15 : decode cX5_init 15 = .ok (.iastore, 1) := by decide +kernel
theorem dX5_init_16 : decode cX5_init 16 = .ok (.dup, 1) := by decide +kernel
theorem dX5_init_17 : decode cX5_init 17 = .ok (.iconst 2, 1) := by decide +kernel
theorem dX5_init_18 : decode cX5_init 18 = .ok (.iconst (-1), 1) := by decide +kernel
theorem dX5_init_19 : decode cX5_init 19 = .ok (.iastore, 1) := by decide +kernel
theorem dX5_init_20 : decode cX5_init 20 = .ok (.dup, 1) := by decide +kernel
theorem dX5_init_21 : decode cX5_init 21 = .ok (.iconst 3, 1) := by decide +kernel
theorem dX5_init_22 : decode cX5_init 22 = .ok (.iconst (-1), 1) := by decide +kernel
theorem dX5_init_23 : decode cX5_init 23 = .ok (.iastore, 1) := by decide +kernel
theorem dX5_init_24 : decode cX5_init 24 = .ok (.putfield 9, 3) := by decide +kernel
theorem dX5_init_27 : decode cX5_init 27 = .ok (.aload_n 0, 1) := by decide +kernel
theorem dX5_init_28 : decode cX5_init 28 = .ok (.iconst 4, 1) := by decide +kernel
theorem dX5_init_29 : decode cX5_init 29 = .ok (.newarray .int, 2) := by decide +kernel
theorem dX5_init_31 : decode cX5_init 31 = .ok (.putfield 15, 3) := by decide +kernel
theorem dX5_init_34 : decode cX5_init 34 = .ok (.aload_n 0, 1) := by decide +kernel
theorem dX5_init_35 : decode cX5_init 35 = .ok (.sipush 240, 3) := by decide +kernel
theorem dX5_init_38 : decode cX5_init 38 = .ok (.newarray .long, 2) := by decide +kernel
theorem dX5_init_40 : decode cX5_init 40 = .ok (.putfield 18, 3) := by decide +kernel
theorem dX5_init_43 : decode cX5_init 43 = .ok (.return_, 1) := by decide +kernel

theorem dX5_isBare_0 : decode cX5_isBare 0 = .ok (.aload_n 0, 1) := by decide +kernel
theorem dX5_isBare_1 : decode cX5_isBare 1 = .ok (.getfield 9, 3) := by decide +kernel
theorem dX5_isBare_4 : decode cX5_isBare 4 = .ok (.iload_n 1, 1) := by decide +kernel
theorem dX5_isBare_5 : decode cX5_isBare 5 = .ok (.iaload, 1) := by decide +kernel
theorem dX5_isBare_6 : decode cX5_isBare 6 = .ok (.iconst (-1), 1) := by decide +kernel
theorem dX5_isBare_7 : decode cX5_isBare 7 = .ok (.if_icmp .ne 7, 3) := by decide +kernel
theorem dX5_isBare_10 : decode cX5_isBare 10 = .ok (.iconst 1, 1) := by decide +kernel
theorem dX5_isBare_11 : decode cX5_isBare 11 = .ok (.goto 4, 3) := by decide +kernel
theorem dX5_isBare_14 : decode cX5_isBare 14 = .ok (.iconst 0, 1) := by decide +kernel
theorem dX5_isBare_15 : decode cX5_isBare 15 = .ok (.ireturn, 1) := by decide +kernel

theorem dX5_isSlot_0 : decode cX5_isSlot 0 = .ok (.iload_n 1, 1) := by decide +kernel
theorem dX5_isSlot_1 : decode cX5_isSlot 1 = .ok (.ifCond .lt 12, 3) := by decide +kernel
theorem dX5_isSlot_4 : decode cX5_isSlot 4 = .ok (.iload_n 1, 1) := by decide +kernel
theorem dX5_isSlot_5 : decode cX5_isSlot 5 = .ok (.iconst 4, 1) := by decide +kernel
theorem dX5_isSlot_6 : decode cX5_isSlot 6 = .ok (.if_icmp .ge 7, 3) := by decide +kernel
theorem dX5_isSlot_9 : decode cX5_isSlot 9 = .ok (.iconst 1, 1) := by decide +kernel
theorem dX5_isSlot_10 : decode cX5_isSlot 10 = .ok (.goto 4, 3) := by decide +kernel
theorem dX5_isSlot_13 : decode cX5_isSlot 13 = .ok (.iconst 0, 1) := by decide +kernel
theorem dX5_isSlot_14 : decode cX5_isSlot 14 = .ok (.ireturn, 1) := by decide +kernel

theorem dX5_lay_0 : decode cX5_lay 0 = .ok (.aload_n 0, 1) := by decide +kernel
theorem dX5_lay_1 : decode cX5_lay 1 = .ok (.getfield 9, 3) := by decide +kernel
theorem dX5_lay_4 : decode cX5_lay 4 = .ok (.iload_n 1, 1) := by decide +kernel
theorem dX5_lay_5 : decode cX5_lay 5 = .ok (.iload_n 2, 1) := by decide +kernel
theorem dX5_lay_6 : decode cX5_lay 6 = .ok (.iastore, 1) := by decide +kernel
theorem dX5_lay_7 : decode cX5_lay 7 = .ok (.aload_n 0, 1) := by decide +kernel
theorem dX5_lay_8 : decode cX5_lay 8 = .ok (.getfield 15, 3) := by decide +kernel
theorem dX5_lay_11 : decode cX5_lay 11 = .ok (.iload_n 1, 1) := by decide +kernel
theorem dX5_lay_12 : decode cX5_lay 12 = .ok (.iload_n 3, 1) := by decide +kernel
theorem dX5_lay_13 : decode cX5_lay 13 = .ok (.iastore, 1) := by decide +kernel
theorem dX5_lay_14 : decode cX5_lay 14 = .ok (.iload_n 1, 1) := by decide +kernel
theorem dX5_lay_15 : decode cX5_lay 15 = .ok (.bipush 60, 2) := by decide +kernel
theorem dX5_lay_17 : decode cX5_lay 17 = .ok (.imul, 1) := by decide +kernel
theorem dX5_lay_18 : decode cX5_lay 18 = .ok (.istore 4, 2) := by decide +kernel
theorem dX5_lay_20 : decode cX5_lay 20 = .ok (.aload_n 0, 1) := by decide +kernel
theorem dX5_lay_21 : decode cX5_lay 21 = .ok (.getfield 18, 3) := by decide +kernel
theorem dX5_lay_24 : decode cX5_lay 24 = .ok (.iload 4, 2) := by decide +kernel
theorem dX5_lay_26 : decode cX5_lay 26 = .ok (.iload 4, 2) := by decide +kernel
theorem dX5_lay_28 : decode cX5_lay 28 = .ok (.bipush 60, 2) := by decide +kernel
theorem dX5_lay_30 : decode cX5_lay 30 = .ok (.iadd, 1) := by decide +kernel
theorem dX5_lay_31 : decode cX5_lay 31 = .ok (.lconst 0, 1) := by decide +kernel
theorem dX5_lay_32 : decode cX5_lay 32 = .ok (.invokestatic 26, 3) := by decide +kernel
theorem dX5_lay_35 : decode cX5_lay 35 = .ok (.return_, 1) := by decide +kernel

theorem dX6_become_0 : decode cX6_become 0 = .ok (.aload_n 0, 1) := by decide +kernel
theorem dX6_become_1 : decode cX6_become 1 = .ok (.aload_n 1, 1) := by decide +kernel
theorem dX6_become_2 : decode cX6_become 2 = .ok (.getfield 42, 3) := by decide +kernel
theorem dX6_become_5 : decode cX6_become 5 = .ok (.putfield 42, 3) := by decide +kernel
theorem dX6_become_8 : decode cX6_become 8 = .ok (.aload_n 0, 1) := by decide +kernel
theorem dX6_become_9 : decode cX6_become 9 = .ok (.aload_n 1, 1) := by decide +kernel
theorem dX6_become_10 : decode cX6_become 10 = .ok (.getfield 46, 3) := by decide +kernel
theorem dX6_become_13 : decode cX6_become 13 = .ok (.putfield 46, 3) := by decide +kernel
theorem dX6_become_16 : decode cX6_become 16 = .ok (.aload_n 0, 1) := by decide +kernel
theorem dX6_become_17 : decode cX6_become 17 = .ok (.aload_n 1, 1) := by decide +kernel
theorem dX6_become_18 : decode cX6_become 18 = .ok (.getfield 49, 3) := by decide +kernel
theorem dX6_become_21 : decode cX6_become 21 = .ok (.putfield 49, 3) := by decide +kernel
theorem dX6_become_24 : decode cX6_become 24 = .ok (.aload_n 0, 1) := by decide +kernel
theorem dX6_become_25 : decode cX6_become 25 = .ok (.aload_n 1, 1) := by decide +kernel
theorem dX6_become_26 : decode cX6_become 26 = .ok (.getfield 52, 3) := by decide +kernel
theorem dX6_become_29 : decode cX6_become 29 = .ok (.putfield 52, 3) := by decide +kernel
theorem dX6_become_32 : decode cX6_become 32 = .ok (.aload_n 0, 1) := by decide +kernel
theorem dX6_become_33 : decode cX6_become 33 = .ok (.aload_n 1, 1) := by decide +kernel
theorem dX6_become_34 : decode cX6_become 34 = .ok (.getfield 55, 3) := by decide +kernel
theorem dX6_become_37 : decode cX6_become 37 = .ok (.putfield 55, 3) := by decide +kernel
theorem dX6_become_40 : decode cX6_become 40 = .ok (.aload_n 0, 1) := by decide +kernel
theorem dX6_become_41 : decode cX6_become 41 = .ok (.aload_n 1, 1) := by decide +kernel
theorem dX6_become_42 : decode cX6_become 42 = .ok (.getfield 58, 3) := by decide +kernel
theorem dX6_become_45 : decode cX6_become 45 = .ok (.putfield 58, 3) := by decide +kernel
theorem dX6_become_48 : decode cX6_become 48 = .ok (.aload_n 0, 1) := by decide +kernel
theorem dX6_become_49 : decode cX6_become 49 = .ok (.aload_n 1, 1) := by decide +kernel
theorem dX6_become_50 : decode cX6_become 50 = .ok (.getfield 61, 3) := by decide +kernel
theorem dX6_become_53 : decode cX6_become 53 = .ok (.putfield 61, 3) := by decide +kernel
theorem dX6_become_56 : decode cX6_become 56 = .ok (.aload_n 0, 1) := by decide +kernel
theorem dX6_become_57 : decode cX6_become 57 = .ok (.aload_n 1, 1) := by decide +kernel
theorem dX6_become_58 : decode cX6_become 58 = .ok (.getfield 64, 3) := by decide +kernel
theorem dX6_become_61 : decode cX6_become 61 = .ok (.putfield 64, 3) := by decide +kernel
theorem dX6_become_64 : decode cX6_become 64 = .ok (.aload_n 1, 1) := by decide +kernel
theorem dX6_become_65 : decode cX6_become 65 = .ok (.getfield 9, 3) := by decide +kernel
theorem dX6_become_68 : decode cX6_become 68 = .ok (.iconst 0, 1) := by decide +kernel
theorem dX6_become_69 : decode cX6_become 69 = .ok (.aload_n 0, 1) := by decide +kernel
theorem dX6_become_70 : decode cX6_become 70 = .ok (.getfield 9, 3) := by decide +kernel
theorem dX6_become_73 : decode cX6_become 73 = .ok (.iconst 0, 1) := by decide +kernel
theorem dX6_become_74 : decode cX6_become 74 = .ok (.bipush 6, 2) := by decide +kernel
theorem dX6_become_76 : decode cX6_become 76 = .ok (.invokestatic 67, 3) := by decide +kernel
theorem dX6_become_79 : decode cX6_become 79 = .ok (.aload_n 1, 1) := by decide +kernel
theorem dX6_become_80 : decode cX6_become 80 = .ok (.getfield 15, 3) := by decide +kernel
theorem dX6_become_83 : decode cX6_become 83 = .ok (.iconst 0, 1) := by decide +kernel
theorem dX6_become_84 : decode cX6_become 84 = .ok (.aload_n 0, 1) := by decide +kernel
theorem dX6_become_85 : decode cX6_become 85 = .ok (.getfield 15, 3) := by decide +kernel
theorem dX6_become_88 : decode cX6_become 88 = .ok (.iconst 0, 1) := by decide +kernel
theorem dX6_become_89 : decode cX6_become 89 = .ok (.bipush 6, 2) := by decide +kernel
theorem dX6_become_91 : decode cX6_become 91 = .ok (.invokestatic 67, 3) := by decide +kernel
theorem dX6_become_94 : decode cX6_become 94 = .ok (.aload_n 1, 1) := by decide +kernel
theorem dX6_become_95 : decode cX6_become 95 = .ok (.getfield 18, 3) := by decide +kernel
theorem dX6_become_98 : decode cX6_become 98 = .ok (.iconst 0, 1) := by decide +kernel
theorem dX6_become_99 : decode cX6_become 99 = .ok (.aload_n 0, 1) := by decide +kernel
theorem dX6_become_100 : decode cX6_become 100 = .ok (.getfield 18, 3) := by decide +kernel
theorem dX6_become_103 : decode cX6_become 103 = .ok (.iconst 0, 1) := by decide +kernel
theorem dX6_become_104 : decode cX6_become 104 = .ok (.bipush 6, 2) := by decide +kernel
theorem dX6_become_106 : decode cX6_become 106 = .ok (.invokestatic 67, 3) := by decide +kernel
theorem dX6_become_109 : decode cX6_become 109 = .ok (.aload_n 1, 1) := by decide +kernel
theorem dX6_become_110 : decode cX6_become 110 = .ok (.getfield 21, 3) := by decide +kernel
theorem dX6_become_113 : decode cX6_become 113 = .ok (.iconst 0, 1) := by decide +kernel
theorem dX6_become_114 : decode cX6_become 114 = .ok (.aload_n 0, 1) := by decide +kernel
theorem dX6_become_115 : decode cX6_become 115 = .ok (.getfield 21, 3) := by decide +kernel
theorem dX6_become_118 : decode cX6_become 118 = .ok (.iconst 0, 1) := by decide +kernel
theorem dX6_become_119 : decode cX6_become 119 = .ok (.bipush 10, 2) := by decide +kernel
theorem dX6_become_121 : decode cX6_become 121 = .ok (.invokestatic 67, 3) := by decide +kernel
theorem dX6_become_124 : decode cX6_become 124 = .ok (.aload_n 1, 1) := by decide +kernel
theorem dX6_become_125 : decode cX6_become 125 = .ok (.getfield 24, 3) := by decide +kernel
theorem dX6_become_128 : decode cX6_become 128 = .ok (.iconst 0, 1) := by decide +kernel
theorem dX6_become_129 : decode cX6_become 129 = .ok (.aload_n 0, 1) := by decide +kernel
theorem dX6_become_130 : decode cX6_become 130 = .ok (.getfield 24, 3) := by decide +kernel
theorem dX6_become_133 : decode cX6_become 133 = .ok (.iconst 0, 1) := by decide +kernel
theorem dX6_become_134 : decode cX6_become 134 = .ok (.bipush 10, 2) := by decide +kernel
theorem dX6_become_136 : decode cX6_become 136 = .ok (.invokestatic 67, 3) := by decide +kernel
theorem dX6_become_139 : decode cX6_become 139 = .ok (.aload_n 1, 1) := by decide +kernel
theorem dX6_become_140 : decode cX6_become 140 = .ok (.getfield 27, 3) := by decide +kernel
theorem dX6_become_143 : decode cX6_become 143 = .ok (.iconst 0, 1) := by decide +kernel
theorem dX6_become_144 : decode cX6_become 144 = .ok (.aload_n 0, 1) := by decide +kernel
theorem dX6_become_145 : decode cX6_become 145 = .ok (.getfield 27, 3) := by decide +kernel
theorem dX6_become_148 : decode cX6_become 148 = .ok (.iconst 0, 1) := by decide +kernel
theorem dX6_become_149 : decode cX6_become 149 = .ok (.bipush 8, 2) := by decide +kernel
theorem dX6_become_151 : decode cX6_become 151 = .ok (.invokestatic 67, 3) := by decide +kernel
theorem dX6_become_154 : decode cX6_become 154 = .ok (.aload_n 1, 1) := by decide +kernel
theorem dX6_become_155 : decode cX6_become 155 = .ok (.getfield 30, 3) := by decide +kernel
theorem dX6_become_158 : decode cX6_become 158 = .ok (.iconst 0, 1) := by decide +kernel
theorem dX6_become_159 : decode cX6_become 159 = .ok (.aload_n 0, 1) := by decide +kernel
theorem dX6_become_160 : decode cX6_become 160 = .ok (.getfield 30, 3) := by decide +kernel
theorem dX6_become_163 : decode cX6_become 163 = .ok (.iconst 0, 1) := by decide +kernel
theorem dX6_become_164 : decode cX6_become 164 = .ok (.bipush 8, 2) := by decide +kernel
theorem dX6_become_166 : decode cX6_become 166 = .ok (.invokestatic 67, 3) := by decide +kernel
theorem dX6_become_169 : decode cX6_become 169 = .ok (.aload_n 1, 1) := by decide +kernel
theorem dX6_become_170 : decode cX6_become 170 = .ok (.getfield 33, 3) := by decide +kernel
theorem dX6_become_173 : decode cX6_become 173 = .ok (.iconst 0, 1) := by decide +kernel
theorem dX6_become_174 : decode cX6_become 174 = .ok (.aload_n 0, 1) := by decide +kernel
theorem dX6_become_175 : decode cX6_become 175 = .ok (.getfield 33, 3) := by decide +kernel
theorem dX6_become_178 : decode cX6_become 178 = .ok (.iconst 0, 1) := by decide +kernel
theorem dX6_become_179 : decode cX6_become 179 = .ok (.bipush 20, 2) := by decide +kernel
theorem dX6_become_181 : decode cX6_become 181 = .ok (.invokestatic 67, 3) := by decide +kernel
theorem dX6_become_184 : decode cX6_become 184 = .ok (.aload_n 1, 1) := by decide +kernel
theorem dX6_become_185 : decode cX6_become 185 = .ok (.getfield 36, 3) := by decide +kernel
theorem dX6_become_188 : decode cX6_become 188 = .ok (.iconst 0, 1) := by decide +kernel
theorem dX6_become_189 : decode cX6_become 189 = .ok (.aload_n 0, 1) := by decide +kernel
theorem dX6_become_190 : decode cX6_become 190 = .ok (.getfield 36, 3) := by decide +kernel
theorem dX6_become_193 : decode cX6_become 193 = .ok (.iconst 0, 1) := by decide +kernel
theorem dX6_become_194 : decode cX6_become 194 = .ok (.bipush 20, 2) := by decide +kernel
theorem dX6_become_196 : decode cX6_become 196 = .ok (.invokestatic 67, 3) := by decide +kernel
theorem dX6_become_199 : decode cX6_become 199 = .ok (.aload_n 1, 1) := by decide +kernel
theorem dX6_become_200 : decode cX6_become 200 = .ok (.getfield 39, 3) := by decide +kernel
theorem dX6_become_203 : decode cX6_become 203 = .ok (.iconst 0, 1) := by decide +kernel
theorem dX6_become_204 : decode cX6_become 204 = .ok (.aload_n 0, 1) := by decide +kernel
theorem dX6_become_205 : decode cX6_become 205 = .ok (.getfield 39, 3) := by decide +kernel
theorem dX6_become_208 : decode cX6_become 208 = .ok (.iconst 0, 1) := by decide +kernel
theorem dX6_become_209 : decode cX6_become 209 = .ok (.bipush 20, 2) := by decide +kernel
theorem dX6_become_211 : decode cX6_become 211 = .ok (.invokestatic 67, 3) := by decide +kernel
theorem dX6_become_214 : decode cX6_become 214 = .ok (.return_, 1) := by decide +kernel

theorem dX6_clear_0 : decode cX6_clear 0 = .ok (.aload_n 0, 1) := by decide +kernel
theorem dX6_clear_1 : decode cX6_clear 1 = .ok (.iconst 0, 1) := by decide +kernel
theorem dX6_clear_2 : decode cX6_clear 2 = .ok (.putfield 42, 3) := by decide +kernel
theorem dX6_clear_5 : decode cX6_clear 5 = .ok (.aload_n 0, 1) := by decide +kernel
theorem dX6_clear_6 : decode cX6_clear 6 = .ok (.iconst 0, 1) := by decide +kernel
theorem dX6_clear_7 : decode cX6_clear 7 = .ok (.putfield 46, 3) := by decide +kernel
theorem dX6_clear_10 : decode cX6_clear 10 = .ok (.aload_n 0, 1) := by decide +kernel
theorem dX6_clear_11 : decode cX6_clear 11 = .ok (.iconst 0, 1) := by decide +kernel
theorem dX6_clear_12 : decode cX6_clear 12 = .ok (.putfield 49, 3) := by decide +kernel
theorem dX6_clear_15 : decode cX6_clear 15 = .ok (.aload_n 0, 1) := by decide +kernel
theorem dX6_clear_16 : decode cX6_clear 16 = .ok (.iconst 0, 1) := by decide +kernel
theorem dX6_clear_17 : decode cX6_clear 17 = .ok (.putfield 52, 3) := by decide +kernel
theorem dX6_clear_20 : decode cX6_clear 20 = .ok (.aload_n 0, 1) := by decide +kernel
theorem dX6_clear_21 : decode cX6_clear 21 = .ok (.iconst 0, 1) := by decide +kernel
theorem dX6_clear_22 : decode cX6_clear 22 = .ok (.putfield 55, 3) := by decide +kernel
theorem dX6_clear_25 : decode cX6_clear 25 = .ok (.aload_n 0, 1) := by decide +kernel
theorem dX6_clear_26 : decode cX6_clear 26 = .ok (.iconst 0, 1) := by decide +kernel
theorem dX6_clear_27 : decode cX6_clear 27 = .ok (.putfield 58, 3) := by decide +kernel
theorem dX6_clear_30 : decode cX6_clear 30 = .ok (.aload_n 0, 1) := by decide +kernel
theorem dX6_clear_31 : decode cX6_clear 31 = .ok (.iconst 0, 1) := by decide +kernel
theorem dX6_clear_32 : decode cX6_clear 32 = .ok (.putfield 61, 3) := by decide +kernel
theorem dX6_clear_35 : decode cX6_clear 35 = .ok (.aload_n 0, 1) := by decide +kernel
theorem dX6_clear_36 : decode cX6_clear 36 = .ok (.iconst 0, 1) := by decide +kernel
theorem dX6_clear_37 : decode cX6_clear 37 = .ok (.putfield 64, 3) := by decide +kernel
theorem dX6_clear_40 : decode cX6_clear 40 = .ok (.return_, 1) := by decide +kernel

theorem dX6_hasPart_0 : decode cX6_hasPart 0 = .ok (.iload_n 1, 1) := by decide +kernel
theorem dX6_hasPart_1 : decode cX6_hasPart 1 = .ok (.ifCond .lt 15, 3) := by decide +kernel
theorem dX6_hasPart_4 : decode cX6_hasPart 4 = .ok (.iload_n 1, 1) := by decide +kernel
theorem dX6_hasPart_5 : decode cX6_hasPart 5 = .ok (.aload_n 0, 1) := by decide +kernel
theorem dX6_hasPart_6 : decode cX6_hasPart 6 = .ok (.getfield 52, 3) := by decide +kernel
theorem dX6_hasPart_9 : decode cX6_hasPart 9 = .ok (.if_icmp .ge 7, 3) := by decide +kernel
theorem dX6_hasPart_12 : decode cX6_hasPart 12 = .ok (.iconst 1, 1) := by decide +kernel
theorem dX6_hasPart_13 : decode cX6_hasPart 13 = .ok (.goto 4, 3) := by decide +kernel
theorem dX6_hasPart_16 : decode cX6_hasPart 16 = .ok (.iconst 0, 1) := by decide +kernel
theorem dX6_hasPart_17 : decode cX6_hasPart 17 = .ok (.ireturn, 1) := by decide +kernel

theorem dX6_hasWorkingYear_0 : decode cX6_hasWorkingYear 0 = .ok (.iload_n 1, 1) := by decide +kernel
theorem dX6_hasWorkingYear_1 : decode cX6_hasWorkingYear 1 = .ok (.ifCond .lt 15, 3) := by decide +kernel
theorem dX6_hasWorkingYear_4 : decode cX6_hasWorkingYear 4 = .ok (.iload_n 1, 1) := by decide +kernel
theorem dX6_hasWorkingYear_5 : decode cX6_hasWorkingYear 5 = .ok (.aload_n 0, 1) := by decide +kernel
theorem dX6_hasWorkingYear_6 : decode cX6_hasWorkingYear 6 = .ok (.getfield 42, 3) := by decide +kernel
theorem dX6_hasWorkingYear_9 : decode cX6_hasWorkingYear 9 = .ok (.if_icmp .ge 7, 3) := by decide +kernel
theorem dX6_hasWorkingYear_12 : decode cX6_hasWorkingYear 12 = .ok (.iconst 1, 1) := by decide +kernel
theorem dX6_hasWorkingYear_13 : decode cX6_hasWorkingYear 13 = .ok (.goto 4, 3) := by decide +kernel
theorem dX6_hasWorkingYear_16 : decode cX6_hasWorkingYear 16 = .ok (.iconst 0, 1) := by decide +kernel
theorem dX6_hasWorkingYear_17 : decode cX6_hasWorkingYear 17 = .ok (.ireturn, 1) := by decide +kernel

theorem dX6_hasYear_0 : decode cX6_hasYear 0 = .ok (.aload_n 0, 1) := by decide +kernel
theorem dX6_hasYear_1 : decode cX6_hasYear 1 = .ok (.invokevirtual 73, 3) := by decide +kernel
theorem dX6_hasYear_4 : decode cX6_hasYear 4 = .ok (.ifCond .eq 19, 3) := by decide +kernel
theorem dX6_hasYear_7 : decode cX6_hasYear 7 = .ok (.iload_n 1, 1) := by decide +kernel
theorem dX6_hasYear_8 : decode cX6_hasYear 8 = .ok (.ifCond .lt 15, 3) := by decide +kernel
theorem dX6_hasYear_11 : decode cX6_hasYear 11 = .ok (.iload_n 1, 1) := by decide +kernel
theorem dX6_hasYear_12 : decode cX6_hasYear 12 = .ok (.aload_n 0, 1) := by decide +kernel
theorem dX6_hasYear_13 : decode cX6_hasYear 13 = .ok (.getfield 42, 3) := by decide +kernel
theorem dX6_hasYear_16 : decode cX6_hasYear 16 = .ok (.if_icmp .gt 7, 3) := by decide +kernel
theorem dX6_hasYear_19 : decode cX6_hasYear 19 = .ok (.iconst 1, 1) := by decide +kernel
theorem dX6_hasYear_20 : decode cX6_hasYear 20 = .ok (.goto 4, 3) := by decide +kernel
theorem dX6_hasYear_23 : decode cX6_hasYear 23 = .ok (.iconst 0, 1) := by decide +kernel
theorem dX6_hasYear_24 : decode cX6_hasYear 24 = .ok (.ireturn, 1) := by decide +kernel

theorem dX6_init_0 : decode cX6_init 0 = .ok (.aload_n 0, 1) := by decide +kernel
theorem dX6_init_1 : decode cX6_init 1 = .ok (.invokespecial 3, 3) := by decide +kernel
theorem dX6_init_4 : decode cX6_init 4 = .ok (.aload_n 0, 1) := by decide +kernel
theorem dX6_init_5 : decode cX6_init 5 = .ok (.bipush 6, 2) := by decide +kernel
theorem dX6_init_7 : decode cX6_init 7 = .ok (.newarray .int, 2) := by decide +kernel
theorem dX6_init_9 : decode cX6_init 9 = .ok (.putfield 9, 3) := by decide +kernel
theorem dX6_init_12 : decode cX6_init 12 = .ok (.aload_n 0, 1) := by decide +kernel
theorem dX6_init_13 : decode cX6_init 13 = .ok (.bipush 6, 2) := by decide +kernel
theorem dX6_init_15 : decode cX6_init 15 = .ok (.newarray .int, 2) := by decide +kernel
theorem dX6_init_17 : decode cX6_init 17 = .ok (.putfield 15, 3) := by decide +kernel
theorem dX6_init_20 : decode cX6_init 20 = .ok (.aload_n 0, 1) := by decide +kernel
theorem dX6_init_21 : decode cX6_init 21 = .ok (.bipush 6, 2) := by decide +kernel
theorem dX6_init_23 : decode cX6_init 23 = .ok (.newarray .int, 2) := by decide +kernel
theorem dX6_init_25 : decode cX6_init 25 = .ok (.putfield 18, 3) := by decide +kernel
theorem dX6_init_28 : decode cX6_init 28 = .ok (.aload_n 0, 1) := by decide +kernel
theorem dX6_init_29 : decode cX6_init 29 = .ok (.bipush 10, 2) := by decide +kernel
theorem dX6_init_31 : decode cX6_init 31 = .ok (.newarray .int, 2) := by decide +kernel
theorem dX6_init_33 : decode cX6_init 33 = .ok (.putfield 21, 3) := by decide +kernel
theorem dX6_init_36 : decode cX6_init 36 = .ok (.aload_n 0, 1) := by decide +kernel
theorem dX6_init_37 : decode cX6_init 37 = .ok (.bipush 10, 2) := by decide +kernel
theorem dX6_init_39 : decode cX6_init 39 = .ok (.newarray .int, 2) := by decide +kernel
theorem dX6_init_41 : decode cX6_init 41 = .ok (.putfield 24, 3) := by decide +kernel
theorem dX6_init_44 : decode cX6_init 44 = .ok (.aload_n 0, 1) := by decide +kernel
theorem dX6_init_45 : decode cX6_init 45 = .ok (.bipush 8, 2) := by decide +kernel
theorem dX6_init_47 : decode cX6_init 47 = .ok (.newarray .int, 2) := by decide +kernel
theorem dX6_init_49 : decode cX6_init 49 = .ok (.putfield 27, 3) := by decide +kernel
theorem dX6_init_52 : decode cX6_init 52 = .ok (.aload_n 0, 1) := by decide +kernel
theorem dX6_init_53 : decode cX6_init 53 = .ok (.bipush 8, 2) := by decide +kernel
theorem dX6_init_55 : decode cX6_init 55 = .ok (.newarray .int, 2) := by decide +kernel
theorem dX6_init_57 : decode cX6_init 57 = .ok (.putfield 30, 3) := by decide +kernel
theorem dX6_init_60 : decode cX6_init 60 = .ok (.aload_n 0, 1) := by decide +kernel
theorem dX6_init_61 : decode cX6_init 61 = .ok (.bipush 20, 2) := by decide +kernel
theorem dX6_init_63 : decode cX6_init 63 = .ok (.newarray .int, 2) := by decide +kernel
theorem dX6_init_65 : decode cX6_init 65 = .ok (.putfield 33, 3) := by decide +kernel
theorem dX6_init_68 : decode cX6_init 68 = .ok (.aload_n 0, 1) := by decide +kernel
theorem dX6_init_69 : decode cX6_init 69 = .ok (.bipush 20, 2) := by decide +kernel
theorem dX6_init_71 : decode cX6_init 71 = .ok (.newarray .int, 2) := by decide +kernel
theorem dX6_init_73 : decode cX6_init 73 = .ok (.putfield 36, 3) := by decide +kernel
theorem dX6_init_76 : decode cX6_init 76 = .ok (.aload_n 0, 1) := by decide +kernel
theorem dX6_init_77 : decode cX6_init 77 = .ok (.bipush 20, 2) := by decide +kernel
theorem dX6_init_79 : decode cX6_init 79 = .ok (.newarray .int, 2) := by decide +kernel
theorem dX6_init_81 : decode cX6_init 81 = .ok (.putfield 39, 3) := by decide +kernel
theorem dX6_init_84 : decode cX6_init 84 = .ok (.return_, 1) := by decide +kernel

theorem dX6_isTold_0 : decode cX6_isTold 0 = .ok (.aload_n 0, 1) := by decide +kernel
theorem dX6_isTold_1 : decode cX6_isTold 1 = .ok (.getfield 64, 3) := by decide +kernel
theorem dX6_isTold_4 : decode cX6_isTold 4 = .ok (.ifCond .le 7, 3) := by decide +kernel
theorem dX6_isTold_7 : decode cX6_isTold 7 = .ok (.iconst 1, 1) := by decide +kernel
theorem dX6_isTold_8 : decode cX6_isTold 8 = .ok (.goto 4, 3) := by decide +kernel
theorem dX6_isTold_11 : decode cX6_isTold 11 = .ok (.iconst 0, 1) := by decide +kernel
theorem dX6_isTold_12 : decode cX6_isTold 12 = .ok (.ireturn, 1) := by decide +kernel

theorem dX7_append_0 : decode cX7_append 0 = .ok (.bipush 24, 2) := by decide +kernel
theorem dX7_append_2 : decode cX7_append 2 = .ok (.istore_n 2, 1) := by decide +kernel
theorem dX7_append_3 : decode cX7_append 3 = .ok (.iload_n 2, 1) := by decide +kernel
theorem dX7_append_4 : decode cX7_append 4 = .ok (.ifCond .lt 42, 3) := by decide +kernel
theorem dX7_append_7 : decode cX7_append 7 = .ok (.aload_n 0, 1) := by decide +kernel
theorem dX7_append_8 : decode cX7_append 8 = .ok (.getfield 15, 3) := by decide +kernel
theorem dX7_append_11 : decode cX7_append 11 = .ok (.sipush 700, 3) := by decide +kernel
theorem dX7_append_14 : decode cX7_append 14 = .ok (.if_icmp .ge 32, 3) := by decide +kernel
theorem dX7_append_17 : decode cX7_append 17 = .ok (.aload_n 0, 1) := by decide +kernel
theorem dX7_append_18 : decode cX7_append 18 = .ok (.getfield 9, 3) := by decide +kernel
theorem dX7_append_21 : decode cX7_append 21 = .ok (.aload_n 0, 1) := by decide +kernel
theorem dX7_append_22 : decode cX7_append 22 = .ok (.getfield 15, 3) := by decide +kernel
theorem dX7_append_25 : decode cX7_append 25 = .ok (.iload_n 1, 1) := by decide +kernel
theorem dX7_append_26 : decode cX7_append 26 = .ok (.iload_n 2, 1) := by decide +kernel
theorem dX7_append_27 : decode cX7_append 27 = .ok (.ishr, 1) := by decide +kernel
theorem dX7_append_28 : decode cX7_append 28 = .ok (.i2b, 1) := by decide +kernel
theorem dX7_append_29 : decode cX7_append 29 = .ok (.bastore, 1) := by decide +kernel
theorem dX7_append_30 : decode cX7_append 30 = .ok (.aload_n 0, 1) := by decide +kernel
theorem dX7_append_31 : decode cX7_append 31 = .ok (.dup, 1) := by decide +kernel
theorem dX7_append_32 : decode cX7_append 32 = .ok (.getfield 15, 3) := by decide +kernel
theorem dX7_append_35 : decode cX7_append 35 = .ok (.iconst 1, 1) := by decide +kernel
theorem dX7_append_36 : decode cX7_append 36 = .ok (.iadd, 1) := by decide +kernel
theorem dX7_append_37 : decode cX7_append 37 = .ok (.putfield 15, 3) := by decide +kernel
theorem dX7_append_40 : decode cX7_append 40 = .ok (.iinc 2 (-8), 3) := by decide +kernel
theorem dX7_append_43 : decode cX7_append 43 = .ok (.goto (-40), 3) := by decide +kernel
theorem dX7_append_46 : decode cX7_append 46 = .ok (.return_, 1) := by decide +kernel

theorem dX7_at_0 : decode cX7_at 0 = .ok (.iload_n 1, 1) := by decide +kernel
theorem dX7_at_1 : decode cX7_at 1 = .ok (.ifCond .lt 24, 3) := by decide +kernel
theorem dX7_at_4 : decode cX7_at 4 = .ok (.iload_n 1, 1) := by decide +kernel
theorem dX7_at_5 : decode cX7_at 5 = .ok (.aload_n 0, 1) := by decide +kernel
theorem dX7_at_6 : decode cX7_at 6 = .ok (.getfield 15, 3) := by decide +kernel
theorem dX7_at_9 : decode cX7_at 9 = .ok (.if_icmp .ge 16, 3) := by decide +kernel
theorem dX7_at_12 : decode cX7_at 12 = .ok (.aload_n 0, 1) := by decide +kernel
theorem dX7_at_13 : decode cX7_at 13 = .ok (.getfield 9, 3) := by decide +kernel
theorem dX7_at_16 : decode cX7_at 16 = .ok (.iload_n 1, 1) := by decide +kernel
theorem dX7_at_17 : decode cX7_at 17 = .ok (.baload, 1) := by decide +kernel
theorem dX7_at_18 : decode cX7_at 18 = .ok (.sipush 255, 3) := by decide +kernel
theorem dX7_at_21 : decode cX7_at 21 = .ok (.iand, 1) := by decide +kernel
theorem dX7_at_22 : decode cX7_at 22 = .ok (.goto 4, 3) := by decide +kernel
theorem dX7_at_25 : decode cX7_at 25 = .ok (.iconst (-1), 1) := by decide +kernel
theorem dX7_at_26 : decode cX7_at 26 = .ok (.ireturn, 1) := by decide +kernel

theorem dX7_hasRoomForFive_0 : decode cX7_hasRoomForFive 0 = .ok (.aload_n 0, 1) := by decide +kernel
theorem dX7_hasRoomForFive_1 : decode cX7_hasRoomForFive 1 = .ok (.getfield 15, 3) := by decide +kernel
theorem dX7_hasRoomForFive_4 : decode cX7_hasRoomForFive 4 = .ok (.bipush 20, 2) := by decide +kernel
theorem dX7_hasRoomForFive_6 : decode cX7_hasRoomForFive 6 = .ok (.iadd, 1) := by decide +kernel
theorem dX7_hasRoomForFive_7 : decode cX7_hasRoomForFive 7 = .ok (.sipush 700, 3) := by decide +kernel
theorem dX7_hasRoomForFive_10 : decode cX7_hasRoomForFive 10 = .ok (.if_icmp .gt 7, 3) := by decide +kernel
theorem dX7_hasRoomForFive_13 : decode cX7_hasRoomForFive 13 = .ok (.iconst 1, 1) := by decide +kernel
theorem dX7_hasRoomForFive_14 : decode cX7_hasRoomForFive 14 = .ok (.goto 4, 3) := by decide +kernel
theorem dX7_hasRoomForFive_17 : decode cX7_hasRoomForFive 17 = .ok (.iconst 0, 1) := by decide +kernel
theorem dX7_hasRoomForFive_18 : decode cX7_hasRoomForFive 18 = .ok (.ireturn, 1) := by decide +kernel

theorem dX7_init_0 : decode cX7_init 0 = .ok (.aload_n 0, 1) := by decide +kernel
theorem dX7_init_1 : decode cX7_init 1 = .ok (.invokespecial 3, 3) := by decide +kernel
theorem dX7_init_4 : decode cX7_init 4 = .ok (.aload_n 0, 1) := by decide +kernel
theorem dX7_init_5 : decode cX7_init 5 = .ok (.sipush 700, 3) := by decide +kernel
theorem dX7_init_8 : decode cX7_init 8 = .ok (.newarray .byte, 2) := by decide +kernel
theorem dX7_init_10 : decode cX7_init 10 = .ok (.putfield 9, 3) := by decide +kernel
theorem dX7_init_13 : decode cX7_init 13 = .ok (.return_, 1) := by decide +kernel

theorem dX8_ages_0 : decode cX8_ages 0 = .ok (.aload_n 0, 1) := by decide +kernel
theorem dX8_ages_1 : decode cX8_ages 1 = .ok (.getfield 32, 3) := by decide +kernel
theorem dX8_ages_4 : decode cX8_ages 4 = .ok (.iload_n 1, 1) := by decide +kernel
theorem dX8_ages_5 : decode cX8_ages 5 = .ok (.invokevirtual 127, 3) := by decide +kernel
theorem dX8_ages_8 : decode cX8_ages 8 = .ok (.ifCond .ne 6, 3) := by decide +kernel
theorem dX8_ages_11 : decode cX8_ages 11 = .ok (.bipush (-100), 2) := by decide +kernel
theorem dX8_ages_13 : decode cX8_ages 13 = .ok (.ireturn, 1) := by decide +kernel
theorem dX8_ages_14 : decode cX8_ages 14 = .ok (.aload_n 0, 1) := by decide +kernel
theorem dX8_ages_15 : decode cX8_ages 15 = .ok (.invokevirtual 189, 3) := by decide +kernel
theorem dX8_ages_18 : decode cX8_ages 18 = .ok (.iload_n 1, 1) := by decide +kernel
theorem dX8_ages_19 : decode cX8_ages 19 = .ok (.aload_n 0, 1) := by decide +kernel
theorem dX8_ages_20 : decode cX8_ages 20 = .ok (.getfield 32, 3) := by decide +kernel
theorem dX8_ages_23 : decode cX8_ages 23 = .ok (.getfield 168, 3) := by decide +kernel
theorem dX8_ages_26 : decode cX8_ages 26 = .ok (.invokevirtual 193, 3) := by decide +kernel
theorem dX8_ages_29 : decode cX8_ages 29 = .ok (.aload_n 0, 1) := by decide +kernel
theorem dX8_ages_30 : decode cX8_ages 30 = .ok (.getfield 32, 3) := by decide +kernel
theorem dX8_ages_33 : decode cX8_ages 33 = .ok (.getfield 138, 3) := by decide +kernel
theorem dX8_ages_36 : decode cX8_ages 36 = .ok (.iload_n 1, 1) := by decide +kernel
theorem dX8_ages_37 : decode cX8_ages 37 = .ok (.iaload, 1) := by decide +kernel
theorem dX8_ages_38 : decode cX8_ages 38 = .ok (.isub, 1) := by decide +kernel
theorem dX8_ages_39 : decode cX8_ages 39 = .ok (.ireturn, 1) := by decide +kernel

theorem dX8_air_0 : decode cX8_air 0 = .ok (.aload_n 0, 1) := by decide +kernel
theorem dX8_air_1 : decode cX8_air 1 = .ok (.iload_n 1, 1) := by decide +kernel
theorem dX8_air_2 : decode cX8_air 2 = .ok (.iload_n 2, 1) := by decide +kernel
theorem dX8_air_3 : decode cX8_air 3 = .ok (.invokevirtual 371, 3) := by decide +kernel
theorem dX8_air_6 : decode cX8_air 6 = .ok (.istore_n 3, 1) := by decide +kernel
theorem dX8_air_7 : decode cX8_air 7 = .ok (.iload_n 3, 1) := by decide +kernel
theorem dX8_air_8 : decode cX8_air 8 = .ok (.ifCond .eq 5, 3) := by decide +kernel
theorem dX8_air_11 : decode cX8_air 11 = .ok (.iload_n 3, 1) := by decide +kernel
theorem dX8_air_12 : decode cX8_air 12 = .ok (.ireturn, 1) := by decide +kernel
theorem dX8_air_13 : decode cX8_air 13 = .ok (.aload_n 0, 1) := by decide +kernel
theorem dX8_air_14 : decode cX8_air 14 = .ok (.getfield 32, 3) := by decide +kernel
theorem dX8_air_17 : decode cX8_air 17 = .ok (.iconst 1, 1) := by decide +kernel
theorem dX8_air_18 : decode cX8_air 18 = .ok (.iload_n 1, 1) := by decide +kernel
theorem dX8_air_19 : decode cX8_air 19 = .ok (.iload_n 2, 1) := by decide +kernel
theorem dX8_air_20 : decode cX8_air 20 = .ok (.invokevirtual 374, 3) := by decide +kernel
theorem dX8_air_23 : decode cX8_air 23 = .ok (.aload_n 0, 1) := by decide +kernel
theorem dX8_air_24 : decode cX8_air 24 = .ok (.invokevirtual 115, 3) := by decide +kernel
theorem dX8_air_27 : decode cX8_air 27 = .ok (.aload_n 0, 1) := by decide +kernel
theorem dX8_air_28 : decode cX8_air 28 = .ok (.invokevirtual 189, 3) := by decide +kernel
theorem dX8_air_31 : decode cX8_air 31 = .ok (.iload_n 1, 1) := by decide +kernel
theorem dX8_air_32 : decode cX8_air 32 = .ok (.aload_n 0, 1) := by decide +kernel
theorem dX8_air_33 : decode cX8_air 33 = .ok (.getfield 32, 3) := by decide +kernel
theorem dX8_air_36 : decode cX8_air 36 = .ok (.getfield 168, 3) := by decide +kernel
theorem dX8_air_39 : decode cX8_air 39 = .ok (.invokevirtual 193, 3) := by decide +kernel
theorem dX8_air_42 : decode cX8_air 42 = .ok (.ireturn, 1) := by decide +kernel

theorem dX8_all_0 : decode cX8_all 0 = .ok (.aload_n 0, 1) := by decide +kernel
theorem dX8_all_1 : decode cX8_all 1 = .ok (.getfield 32, 3) := by decide +kernel
theorem dX8_all_4 : decode cX8_all 4 = .ok (.invokevirtual 153, 3) := by decide +kernel
theorem dX8_all_7 : decode cX8_all 7 = .ok (.ifCond .eq 13, 3) := by decide +kernel
theorem dX8_all_10 : decode cX8_all 10 = .ok (.aload_n 0, 1) := by decide +kernel
theorem dX8_all_11 : decode cX8_all 11 = .ok (.invokevirtual 189, 3) := by decide +kernel
theorem dX8_all_14 : decode cX8_all 14 = .ok (.invokevirtual 217, 3) := by decide +kernel
theorem dX8_all_17 : decode cX8_all 17 = .ok (.goto 5, 3) := by decide +kernel
theorem dX8_all_20 : decode cX8_all 20 = .ok (.bipush (-2), 2) := by decide +kernel
theorem dX8_all_22 : decode cX8_all 22 = .ok (.ireturn, 1) := by decide +kernel

theorem dX8_anew_0 : decode cX8_anew 0 = .ok (.aload_n 0, 1) := by decide +kernel
theorem dX8_anew_1 : decode cX8_anew 1 = .ok (.getfield 32, 3) := by decide +kernel
theorem dX8_anew_4 : decode cX8_anew 4 = .ok (.invokevirtual 153, 3) := by decide +kernel
theorem dX8_anew_7 : decode cX8_anew 7 = .ok (.ifCond .ne 6, 3) := by decide +kernel
theorem dX8_anew_10 : decode cX8_anew 10 = .ok (.bipush (-2), 2) := by decide +kernel
theorem dX8_anew_12 : decode cX8_anew 12 = .ok (.ireturn, 1) := by decide +kernel
theorem dX8_anew_13 : decode cX8_anew 13 = .ok (.aload_n 0, 1) := by decide +kernel
theorem dX8_anew_14 : decode cX8_anew 14 = .ok (.getfield 32, 3) := by decide +kernel
theorem dX8_anew_17 : decode cX8_anew 17 = .ok (.getfield 179, 3) := by decide +kernel
theorem dX8_anew_20 : decode cX8_anew 20 = .ok (.istore_n 1, 1) := by decide +kernel
theorem dX8_anew_21 : decode cX8_anew 21 = .ok (.aload_n 0, 1) := by decide +kernel
theorem dX8_anew_22 : decode cX8_anew 22 = .ok (.getfield 32, 3) := by decide +kernel
theorem dX8_anew_25 : decode cX8_anew 25 = .ok (.iconst 0, 1) := by decide +kernel
theorem dX8_anew_26 : decode cX8_anew 26 = .ok (.putfield 179, 3) := by decide +kernel
theorem dX8_anew_29 : decode cX8_anew 29 = .ok (.aload_n 0, 1) := by decide +kernel
theorem dX8_anew_30 : decode cX8_anew 30 = .ok (.invokevirtual 115, 3) := by decide +kernel
theorem dX8_anew_33 : decode cX8_anew 33 = .ok (.iload_n 1, 1) := by decide +kernel
theorem dX8_anew_34 : decode cX8_anew 34 = .ok (.ireturn, 1) := by decide +kernel

theorem dX8_ask_0 : decode cX8_ask 0 = .ok (.aload_n 0, 1) := by decide +kernel
theorem dX8_ask_1 : decode cX8_ask 1 = .ok (.iload_n 1, 1) := by decide +kernel
theorem dX8_ask_2 : decode cX8_ask 2 = .ok (.iload_n 2, 1) := by decide +kernel
theorem dX8_ask_3 : decode cX8_ask 3 = .ok (.invokevirtual 289, 3) := by decide +kernel
theorem dX8_ask_6 : decode cX8_ask 6 = .ok (.istore_n 3, 1) := by decide +kernel
theorem dX8_ask_7 : decode cX8_ask 7 = .ok (.iload_n 3, 1) := by decide +kernel
theorem dX8_ask_8 : decode cX8_ask 8 = .ok (.ifCond .eq 5, 3) := by decide +kernel
theorem dX8_ask_11 : decode cX8_ask 11 = .ok (.iload_n 3, 1) := by decide +kernel
theorem dX8_ask_12 : decode cX8_ask 12 = .ok (.ireturn, 1) := by decide +kernel
theorem dX8_ask_13 : decode cX8_ask 13 = .ok (.aload_n 0, 1) := by decide +kernel
theorem dX8_ask_14 : decode cX8_ask 14 = .ok (.getfield 83, 3) := by decide +kernel
theorem dX8_ask_17 : decode cX8_ask 17 = .ok (.iload_n 1, 1) := by decide +kernel
theorem dX8_ask_18 : decode cX8_ask 18 = .ok (.iload_n 2, 1) := by decide +kernel
theorem dX8_ask_19 : decode cX8_ask 19 = .ok (.aload_n 0, 1) := by decide +kernel
theorem dX8_ask_20 : decode cX8_ask 20 = .ok (.invokevirtual 189, 3) := by decide +kernel
theorem dX8_ask_23 : decode cX8_ask 23 = .ok (.invokevirtual 302, 3) := by decide +kernel
theorem dX8_ask_26 : decode cX8_ask 26 = .ok (.aload_n 0, 1) := by decide +kernel
theorem dX8_ask_27 : decode cX8_ask 27 = .ok (.getfield 83, 3) := by decide +kernel
theorem dX8_ask_30 : decode cX8_ask 30 = .ok (.getfield 306, 3) := by decide +kernel
theorem dX8_ask_33 : decode cX8_ask 33 = .ok (.ireturn, 1) := by decide +kernel

theorem dX8_back_0 : decode cX8_back 0 = .ok (.iload_n 1, 1) := by decide +kernel
theorem dX8_back_1 : decode cX8_back 1 = .ok (.ifCond .lt 8, 3) := by decide +kernel
theorem dX8_back_4 : decode cX8_back 4 = .ok (.iload_n 1, 1) := by decide +kernel
theorem dX8_back_5 : decode cX8_back 5 = .ok (.iconst 3, 1) := by decide +kernel
theorem dX8_back_6 : decode cX8_back 6 = .ok (.if_icmp .lt 6, 3) := by decide +kernel
theorem dX8_back_9 : decode cX8_back 9 = .ok (.bipush (-2), 2) := by decide +kernel
theorem dX8_back_11 : decode cX8_back 11 = .ok (.ireturn, 1) := by decide +kernel
theorem dX8_back_12 : decode cX8_back 12 = .ok (.aload_n 0, 1) := by decide +kernel
theorem dX8_back_13 : decode cX8_back 13 = .ok (.getfield 39, 3) := by decide +kernel
theorem dX8_back_16 : decode cX8_back 16 = .ok (.iload_n 1, 1) := by decide +kernel
theorem dX8_back_17 : decode cX8_back 17 = .ok (.baload, 1) := by decide +kernel
theorem dX8_back_18 : decode cX8_back 18 = .ok (.ifCond .ne 6, 3) := by decide +kernel
theorem dX8_back_21 : decode cX8_back 21 = .ok (.bipush (-6), 2) := by decide +kernel
theorem dX8_back_23 : decode cX8_back 23 = .ok (.ireturn, 1) := by decide +kernel
theorem dX8_back_24 : decode cX8_back 24 = .ok (.aload_n 0, 1) := by decide +kernel
theorem dX8_back_25 : decode cX8_back 25 = .ok (.getfield 32, 3) := by decide +kernel
theorem dX8_back_28 : decode cX8_back 28 = .ok (.aload_n 0, 1) := by decide +kernel
theorem dX8_back_29 : decode cX8_back 29 = .ok (.getfield 35, 3) := by decide +kernel
theorem dX8_back_32 : decode cX8_back 32 = .ok (.iload_n 1, 1) := by decide +kernel
theorem dX8_back_33 : decode cX8_back 33 = .ok (.aaload, 1) := by decide +kernel
theorem dX8_back_34 : decode cX8_back 34 = .ok (.invokevirtual 112, 3) := by decide +kernel
theorem dX8_back_37 : decode cX8_back 37 = .ok (.aload_n 0, 1) := by decide +kernel
theorem dX8_back_38 : decode cX8_back 38 = .ok (.invokevirtual 115, 3) := by decide +kernel
theorem dX8_back_41 : decode cX8_back 41 = .ok (.iconst 0, 1) := by decide +kernel
theorem dX8_back_42 : decode cX8_back 42 = .ok (.ireturn, 1) := by decide +kernel

theorem dX8_best_0 : decode cX8_best 0 = .ok (.aload_n 0, 1) := by decide +kernel
theorem dX8_best_1 : decode cX8_best 1 = .ok (.getfield 32, 3) := by decide +kernel
theorem dX8_best_4 : decode cX8_best 4 = .ok (.iload_n 1, 1) := by decide +kernel
theorem dX8_best_5 : decode cX8_best 5 = .ok (.invokevirtual 127, 3) := by decide +kernel
theorem dX8_best_8 : decode cX8_best 8 = .ok (.ifCond .ne 6, 3) := by decide +kernel
theorem dX8_best_11 : decode cX8_best 11 = .ok (.bipush (-2), 2) := by decide +kernel
theorem dX8_best_13 : decode cX8_best 13 = .ok (.ireturn, 1) := by decide +kernel
theorem dX8_best_14 : decode cX8_best 14 = .ok (.iconst 0, 1) := by decide +kernel
theorem dX8_best_15 : decode cX8_best 15 = .ok (.istore_n 2, 1) := by decide +kernel
theorem dX8_best_16 : decode cX8_best 16 = .ok (.iconst 0, 1) := by decide +kernel
theorem dX8_best_17 : decode cX8_best 17 = .ok (.istore_n 3, 1) := by decide +kernel
theorem dX8_best_18 : decode cX8_best 18 = .ok (.iload_n 3, 1) := by decide +kernel
theorem dX8_best_19 : decode cX8_best 19 = .ok (.aload_n 0, 1) := by decide +kernel
theorem dX8_best_20 : decode cX8_best 20 = .ok (.getfield 32, 3) := by decide +kernel
theorem dX8_best_23 : decode cX8_best 23 = .ok (.getfield 168, 3) := by decide +kernel
theorem dX8_best_26 : decode cX8_best 26 = .ok (.if_icmp .gt 23, 3) := by decide +kernel
theorem dX8_best_29 : decode cX8_best 29 = .ok (.iload_n 2, 1) := by decide +kernel
theorem dX8_best_30 : decode cX8_best 30 = .ok (.aload_n 0, 1) := by decide +kernel
theorem dX8_best_31 : decode cX8_best 31 = .ok (.invokevirtual 189, 3) := by decide +kernel
theorem dX8_best_34 : decode cX8_best 34 = .ok (.iload_n 1, 1) := by decide +kernel
theorem dX8_best_35 : decode cX8_best 35 = .ok (.iload_n 3, 1) := by decide +kernel
theorem dX8_best_36 : decode cX8_best 36 = .ok (.invokevirtual 220, 3) := by decide +kernel
theorem dX8_best_39 : decode cX8_best 39 = .ok (.invokestatic 223, 3) := by decide +kernel
theorem dX8_best_42 : decode cX8_best 42 = .ok (.istore_n 2, 1) := by decide +kernel
theorem dX8_best_43 : decode cX8_best 43 = .ok (.iinc 3 1, 3) := by decide +kernel
theorem dX8_best_46 : decode cX8_best 46 = .ok (.goto (-28), 3) := by decide +kernel
theorem dX8_best_49 : decode cX8_best 49 = .ok (.iload_n 2, 1) := by decide +kernel
theorem dX8_best_50 : decode cX8_best 50 = .ok (.ireturn, 1) := by decide +kernel

theorem dX8_blunt_0 : decode cX8_blunt 0 = .ok (.aload_n 0, 1) := by decide +kernel
theorem dX8_blunt_1 : decode cX8_blunt 1 = .ok (.getfield 32, 3) := by decide +kernel
theorem dX8_blunt_4 : decode cX8_blunt 4 = .ok (.invokevirtual 153, 3) := by decide +kernel
theorem dX8_blunt_7 : decode cX8_blunt 7 = .ok (.ifCond .ne 6, 3) := by decide +kernel
theorem dX8_blunt_10 : decode cX8_blunt 10 = .ok (.bipush (-2), 2) := by decide +kernel
theorem dX8_blunt_12 : decode cX8_blunt 12 = .ok (.ireturn, 1) := by decide +kernel
theorem dX8_blunt_13 : decode cX8_blunt 13 = .ok (.iconst (-1), 1) := by decide +kernel
theorem dX8_blunt_14 : decode cX8_blunt 14 = .ok (.istore_n 1, 1) := by decide +kernel
theorem dX8_blunt_15 : decode cX8_blunt 15 = .ok (.aload_n 0, 1) := by decide +kernel
theorem dX8_blunt_16 : decode cX8_blunt 16 = .ok (.invokevirtual 189, 3) := by decide +kernel
theorem dX8_blunt_19 : decode cX8_blunt 19 = .ok (.invokevirtual 217, 3) := by decide +kernel
theorem dX8_blunt_22 : decode cX8_blunt 22 = .ok (.istore_n 2, 1) := by decide +kernel
theorem dX8_blunt_23 : decode cX8_blunt 23 = .ok (.iconst 0, 1) := by decide +kernel
theorem dX8_blunt_24 : decode cX8_blunt 24 = .ok (.istore_n 3, 1) := by decide +kernel
theorem dX8_blunt_25 : decode cX8_blunt 25 = .ok (.iload_n 3, 1) := by decide +kernel
theorem dX8_blunt_26 : decode cX8_blunt 26 = .ok (.aload_n 0, 1) := by decide +kernel
theorem dX8_blunt_27 : decode cX8_blunt 27 = .ok (.getfield 32, 3) := by decide +kernel
theorem dX8_blunt_30 : decode cX8_blunt 30 = .ok (.getfield 162, 3) := by decide +kernel
theorem dX8_blunt_33 : decode cX8_blunt 33 = .ok (.if_icmp .ge 46, 3) := by decide +kernel
theorem dX8_blunt_36 : decode cX8_blunt 36 = .ok (.aload_n 0, 1) := by decide +kernel
theorem dX8_blunt_37 : decode cX8_blunt 37 = .ok (.aload_n 0, 1) := by decide +kernel
theorem dX8_blunt_38 : decode cX8_blunt 38 = .ok (.getfield 32, 3) := by decide +kernel
theorem dX8_blunt_41 : decode cX8_blunt 41 = .ok (.invokevirtual 315, 3) := by decide +kernel
theorem dX8_blunt_44 : decode cX8_blunt 44 = .ok (.iconst 1, 1) := by decide +kernel
theorem dX8_blunt_45 : decode cX8_blunt 45 = .ok (.iload_n 3, 1) := by decide +kernel
theorem dX8_blunt_46 : decode cX8_blunt 46 = .ok (.ishl, 1) := by decide +kernel
theorem dX8_blunt_47 : decode cX8_blunt 47 = .ok (.iconst (-1), 1) := by decide +kernel
theorem dX8_blunt_48 : decode cX8_blunt 48 = .ok (.ixor, 1) := by decide +kernel
theorem dX8_blunt_49 : decode cX8_blunt 49 = .ok (.iand, 1) := by decide +kernel
theorem dX8_blunt_50 : decode cX8_blunt 50 = .ok (.invokevirtual 318, 3) := by decide +kernel
theorem dX8_blunt_53 : decode cX8_blunt 53 = .ok (.aload_n 0, 1) := by decide +kernel
theorem dX8_blunt_54 : decode cX8_blunt 54 = .ok (.getfield 59, 3) := by decide +kernel
theorem dX8_blunt_57 : decode cX8_blunt 57 = .ok (.invokevirtual 217, 3) := by decide +kernel
theorem dX8_blunt_60 : decode cX8_blunt 60 = .ok (.istore 4, 2) := by decide +kernel
theorem dX8_blunt_62 : decode cX8_blunt 62 = .ok (.iload 4, 2) := by decide +kernel
theorem dX8_blunt_64 : decode cX8_blunt 64 = .ok (.iload_n 2, 1) := by decide +kernel
theorem dX8_blunt_65 : decode cX8_blunt 65 = .ok (.if_icmp .le 8, 3) := by decide +kernel
theorem dX8_blunt_68 : decode cX8_blunt 68 = .ok (.iload 4, 2) := by decide +kernel
theorem dX8_blunt_70 : decode cX8_blunt 70 = .ok (.istore_n 2, 1) := by decide +kernel
theorem dX8_blunt_71 : decode cX8_blunt 71 = .ok (.iload_n 3, 1) := by decide +kernel
theorem dX8_blunt_72 : decode cX8_blunt 72 = .ok (.istore_n 1, 1) := by decide +kernel
theorem dX8_blunt_73 : decode cX8_blunt 73 = .ok (.iinc 3 1, 3) := by decide +kernel
theorem dX8_blunt_76 : decode cX8_blunt 76 = .ok (.goto (-51), 3) := by decide +kernel
theorem dX8_blunt_79 : decode cX8_blunt 79 = .ok (.iload_n 1, 1) := by decide +kernel
theorem dX8_blunt_80 : decode cX8_blunt 80 = .ok (.ireturn, 1) := by decide +kernel

theorem dX8_by_0 : decode cX8_by 0 = .ok (.aload_n 0, 1) := by decide +kernel
theorem dX8_by_1 : decode cX8_by 1 = .ok (.getfield 32, 3) := by decide +kernel
theorem dX8_by_4 : decode cX8_by 4 = .ok (.invokevirtual 153, 3) := by decide +kernel
theorem dX8_by_7 : decode cX8_by 7 = .ok (.ifCond .eq 20, 3) := by decide +kernel
theorem dX8_by_10 : decode cX8_by 10 = .ok (.iload_n 1, 1) := by decide +kernel
theorem dX8_by_11 : decode cX8_by 11 = .ok (.ifCond .lt 16, 3) := by decide +kernel
theorem dX8_by_14 : decode cX8_by 14 = .ok (.iload_n 1, 1) := by decide +kernel
theorem dX8_by_15 : decode cX8_by 15 = .ok (.iconst 4, 1) := by decide +kernel
theorem dX8_by_16 : decode cX8_by 16 = .ok (.if_icmp .ge 11, 3) := by decide +kernel
theorem dX8_by_19 : decode cX8_by 19 = .ok (.aload_n 0, 1) := by decide +kernel
theorem dX8_by_20 : decode cX8_by 20 = .ok (.iload_n 1, 1) := by decide +kernel
theorem dX8_by_21 : decode cX8_by 21 = .ok (.invokevirtual 326, 3) := by decide +kernel
theorem dX8_by_24 : decode cX8_by 24 = .ok (.goto 5, 3) := by decide +kernel
theorem dX8_by_27 : decode cX8_by 27 = .ok (.bipush (-2), 2) := by decide +kernel
theorem dX8_by_29 : decode cX8_by 29 = .ok (.ireturn, 1) := by decide +kernel

theorem dX8_chance_0 : decode cX8_chance 0 = .ok (.aload_n 0, 1) := by decide +kernel
theorem dX8_chance_1 : decode cX8_chance 1 = .ok (.getfield 32, 3) := by decide +kernel
theorem dX8_chance_4 : decode cX8_chance 4 = .ok (.iload_n 1, 1) := by decide +kernel
theorem dX8_chance_5 : decode cX8_chance 5 = .ok (.invokevirtual 127, 3) := by decide +kernel
theorem dX8_chance_8 : decode cX8_chance 8 = .ok (.ifCond .eq 10, 3) := by decide +kernel
theorem dX8_chance_11 : decode cX8_chance 11 = .ok (.iload_n 2, 1) := by decide +kernel
theorem dX8_chance_12 : decode cX8_chance 12 = .ok (.invokestatic 263, 3) := by decide +kernel
theorem dX8_chance_15 : decode cX8_chance 15 = .ok (.ifCond .ne 6, 3) := by decide +kernel
theorem dX8_chance_18 : decode cX8_chance 18 = .ok (.bipush (-2), 2) := by decide +kernel
theorem dX8_chance_20 : decode cX8_chance 20 = .ok (.ireturn, 1) := by decide +kernel
theorem dX8_chance_21 : decode cX8_chance 21 = .ok (.aload_n 0, 1) := by decide +kernel
theorem dX8_chance_22 : decode cX8_chance 22 = .ok (.invokevirtual 348, 3) := by decide +kernel
theorem dX8_chance_25 : decode cX8_chance 25 = .ok (.aload_n 0, 1) := by decide +kernel
theorem dX8_chance_26 : decode cX8_chance 26 = .ok (.getfield 74, 3) := by decide +kernel
theorem dX8_chance_29 : decode cX8_chance 29 = .ok (.getfield 351, 3) := by decide +kernel
theorem dX8_chance_32 : decode cX8_chance 32 = .ok (.iload_n 1, 1) := by decide +kernel
theorem dX8_chance_33 : decode cX8_chance 33 = .ok (.laload, 1) := by decide +kernel
theorem dX8_chance_34 : decode cX8_chance 34 = .ok (.aload_n 0, 1) := by decide +kernel
theorem dX8_chance_35 : decode cX8_chance 35 = .ok (.getfield 74, 3) := by decide +kernel
theorem dX8_chance_38 : decode cX8_chance 38 = .ok (.getfield 355, 3) := by decide +kernel
theorem dX8_chance_41 : decode cX8_chance 41 = .ok (.iload_n 2, 1) := by decide +kernel
theorem dX8_chance_42 : decode cX8_chance 42 = .ok (.invokestatic 270, 3) := by decide +kernel
theorem dX8_chance_45 : decode cX8_chance 45 = .ok (.l2i, 1) := by decide +kernel
theorem dX8_chance_46 : decode cX8_chance 46 = .ok (.ireturn, 1) := by decide +kernel

theorem dX8_charms_0 : decode cX8_charms 0 = .ok (.aload_n 0, 1) := by decide +kernel
theorem dX8_charms_1 : decode cX8_charms 1 = .ok (.getfield 32, 3) := by decide +kernel
theorem dX8_charms_4 : decode cX8_charms 4 = .ok (.invokevirtual 153, 3) := by decide +kernel
theorem dX8_charms_7 : decode cX8_charms 7 = .ok (.ifCond .ne 6, 3) := by decide +kernel
theorem dX8_charms_10 : decode cX8_charms 10 = .ok (.bipush (-2), 2) := by decide +kernel
theorem dX8_charms_12 : decode cX8_charms 12 = .ok (.ireturn, 1) := by decide +kernel
theorem dX8_charms_13 : decode cX8_charms 13 = .ok (.aload_n 0, 1) := by decide +kernel
theorem dX8_charms_14 : decode cX8_charms 14 = .ok (.invokevirtual 240, 3) := by decide +kernel
theorem dX8_charms_17 : decode cX8_charms 17 = .ok (.istore_n 1, 1) := by decide +kernel
theorem dX8_charms_18 : decode cX8_charms 18 = .ok (.iconst 0, 1) := by decide +kernel
theorem dX8_charms_19 : decode cX8_charms 19 = .ok (.istore_n 2, 1) := by decide +kernel
theorem dX8_charms_20 : decode cX8_charms 20 = .ok (.iconst 0, 1) := by decide +kernel
theorem dX8_charms_21 : decode cX8_charms 21 = .ok (.istore_n 3, 1) := by decide +kernel
theorem dX8_charms_22 : decode cX8_charms 22 = .ok (.iload_n 3, 1) := by decide +kernel
theorem dX8_charms_23 : decode cX8_charms 23 = .ok (.aload_n 0, 1) := by decide +kernel
theorem dX8_charms_24 : decode cX8_charms 24 = .ok (.getfield 32, 3) := by decide +kernel
theorem dX8_charms_27 : decode cX8_charms 27 = .ok (.getfield 156, 3) := by decide +kernel
theorem dX8_charms_30 : decode cX8_charms 30 = .ok (.if_icmp .ge 33, 3) := by decide +kernel
theorem dX8_charms_33 : decode cX8_charms 33 = .ok (.iload_n 2, 1) := by decide +kernel
theorem dX8_charms_34 : decode cX8_charms 34 = .ok (.iload_n 1, 1) := by decide +kernel
theorem dX8_charms_35 : decode cX8_charms 35 = .ok (.iload_n 3, 1) := by decide +kernel
theorem dX8_charms_36 : decode cX8_charms 36 = .ok (.invokestatic 145, 3) := by decide +kernel
theorem dX8_charms_39 : decode cX8_charms 39 = .ok (.ifCond .eq 15, 3) := by decide +kernel
theorem dX8_charms_42 : decode cX8_charms 42 = .ok (.aload_n 0, 1) := by decide +kernel
theorem dX8_charms_43 : decode cX8_charms 43 = .ok (.getfield 32, 3) := by decide +kernel
theorem dX8_charms_46 : decode cX8_charms 46 = .ok (.getfield 131, 3) := by decide +kernel
theorem dX8_charms_49 : decode cX8_charms 49 = .ok (.iload_n 3, 1) := by decide +kernel
theorem dX8_charms_50 : decode cX8_charms 50 = .ok (.iaload, 1) := by decide +kernel
theorem dX8_charms_51 : decode cX8_charms 51 = .ok (.goto 4, 3) := by decide +kernel
theorem dX8_charms_54 : decode cX8_charms 54 = .ok (.iconst 0, 1) := by decide +kernel
theorem dX8_charms_55 : decode cX8_charms 55 = .ok (.iadd, 1) := by decide +kernel
theorem dX8_charms_56 : decode cX8_charms 56 = .ok (.istore_n 2, 1) := by decide +kernel
theorem dX8_charms_57 : decode cX8_charms 57 = .ok (.iinc 3 1, 3) := by decide +kernel
theorem dX8_charms_60 : decode cX8_charms 60 = .ok (.goto (-38), 3) := by decide +kernel
theorem dX8_charms_63 : decode cX8_charms 63 = .ok (.iload_n 2, 1) := by decide +kernel
theorem dX8_charms_64 : decode cX8_charms 64 = .ok (.ireturn, 1) := by decide +kernel

theorem dX8_count_0 : decode cX8_count 0 = .ok (.iload_n 1, 1) := by decide +kernel
theorem dX8_count_1 : decode cX8_count 1 = .ok (.tableswitch 135 0 9 #[55, 63, 71, 79, 87, 95, 103, 111, 119, 127], 55) := by decide +kernel
theorem dX8_count_56 : decode cX8_count 56 = .ok (.aload_n 0, 1) := by decide +kernel
theorem dX8_count_57 : decode cX8_count 57 = .ok (.getfield 32, 3) := by decide +kernel
theorem dX8_count_60 : decode cX8_count 60 = .ok (.getfield 168, 3) := by decide +kernel
theorem dX8_count_63 : decode cX8_count 63 = .ok (.ireturn, 1) := by decide +kernel
theorem dX8_count_64 : decode cX8_count 64 = .ok (.aload_n 0, 1) := by decide +kernel
theorem dX8_count_65 : decode cX8_count 65 = .ok (.getfield 32, 3) := by decide +kernel
theorem dX8_count_68 : decode cX8_count 68 = .ok (.getfield 171, 3) := by decide +kernel
theorem dX8_count_71 : decode cX8_count 71 = .ok (.ireturn, 1) := by decide +kernel
theorem dX8_count_72 : decode cX8_count 72 = .ok (.aload_n 0, 1) := by decide +kernel
theorem dX8_count_73 : decode cX8_count 73 = .ok (.getfield 32, 3) := by decide +kernel
theorem dX8_count_76 : decode cX8_count 76 = .ok (.getfield 174, 3) := by decide +kernel
theorem dX8_count_79 : decode cX8_count 79 = .ok (.ireturn, 1) := by decide +kernel
theorem dX8_count_80 : decode cX8_count 80 = .ok (.aload_n 0, 1) := by decide +kernel
theorem dX8_count_81 : decode cX8_count 81 = .ok (.getfield 32, 3) := by decide +kernel
theorem dX8_count_84 : decode cX8_count 84 = .ok (.getfield 156, 3) := by decide +kernel
theorem dX8_count_87 : decode cX8_count 87 = .ok (.ireturn, 1) := by decide +kernel
theorem dX8_count_88 : decode cX8_count 88 = .ok (.aload_n 0, 1) := by decide +kernel
theorem dX8_count_89 : decode cX8_count 89 = .ok (.getfield 32, 3) := by decide +kernel
theorem dX8_count_92 : decode cX8_count 92 = .ok (.getfield 176, 3) := by decide +kernel
theorem dX8_count_95 : decode cX8_count 95 = .ok (.ireturn, 1) := by decide +kernel
theorem dX8_count_96 : decode cX8_count 96 = .ok (.aload_n 0, 1) := by decide +kernel
theorem dX8_count_97 : decode cX8_count 97 = .ok (.getfield 32, 3) := by decide +kernel
theorem dX8_count_100 : decode cX8_count 100 = .ok (.getfield 162, 3) := by decide +kernel
theorem dX8_count_103 : decode cX8_count 103 = .ok (.ireturn, 1) := by decide +kernel
theorem dX8_count_104 : decode cX8_count 104 = .ok (.aload_n 0, 1) := by decide +kernel
theorem dX8_count_105 : decode cX8_count 105 = .ok (.getfield 32, 3) := by decide +kernel
theorem dX8_count_108 : decode cX8_count 108 = .ok (.getfield 179, 3) := by decide +kernel
theorem dX8_count_111 : decode cX8_count 111 = .ok (.ireturn, 1) := by decide +kernel
theorem dX8_count_112 : decode cX8_count 112 = .ok (.aload_n 0, 1) := by decide +kernel
theorem dX8_count_113 : decode cX8_count 113 = .ok (.getfield 32, 3) := by decide +kernel
theorem dX8_count_116 : decode cX8_count 116 = .ok (.getfield 118, 3) := by decide +kernel
theorem dX8_count_119 : decode cX8_count 119 = .ok (.ireturn, 1) := by decide +kernel
theorem dX8_count_120 : decode cX8_count 120 = .ok (.aload_n 0, 1) := by decide +kernel
theorem dX8_count_121 : decode cX8_count 121 = .ok (.getfield 10, 3) := by decide +kernel
theorem dX8_count_124 : decode cX8_count 124 = .ok (.getfield 106, 3) := by decide +kernel
theorem dX8_count_127 : decode cX8_count 127 = .ok (.ireturn, 1) := by decide +kernel
theorem dX8_count_128 : decode cX8_count 128 = .ok (.aload_n 0, 1) := by decide +kernel
theorem dX8_count_129 : decode cX8_count 129 = .ok (.getfield 46, 3) := by decide +kernel
theorem dX8_count_132 : decode cX8_count 132 = .ok (.invokevirtual 182, 3) := by decide +kernel
theorem dX8_count_135 : decode cX8_count 135 = .ok (.ireturn, 1) := by decide +kernel
theorem dX8_count_136 : decode cX8_count 136 = .ok (.iconst (-1), 1) := by decide +kernel
theorem dX8_count_137 : decode cX8_count 137 = .ok (.ireturn, 1) := by decide +kernel

theorem dX8_cut_0 : decode cX8_cut 0 = .ok (.aload_n 0, 1) := by decide +kernel
theorem dX8_cut_1 : decode cX8_cut 1 = .ok (.getfield 32, 3) := by decide +kernel
theorem dX8_cut_4 : decode cX8_cut 4 = .ok (.iload_n 1, 1) := by decide +kernel
theorem dX8_cut_5 : decode cX8_cut 5 = .ok (.invokevirtual 196, 3) := by decide +kernel
theorem dX8_cut_8 : decode cX8_cut 8 = .ok (.ifCond .ne 6, 3) := by decide +kernel
theorem dX8_cut_11 : decode cX8_cut 11 = .ok (.bipush (-2), 2) := by decide +kernel
theorem dX8_cut_13 : decode cX8_cut 13 = .ok (.ireturn, 1) := by decide +kernel
theorem dX8_cut_14 : decode cX8_cut 14 = .ok (.aload_n 0, 1) := by decide +kernel
theorem dX8_cut_15 : decode cX8_cut 15 = .ok (.invokevirtual 189, 3) := by decide +kernel
theorem dX8_cut_18 : decode cX8_cut 18 = .ok (.iload_n 1, 1) := by decide +kernel
theorem dX8_cut_19 : decode cX8_cut 19 = .ok (.invokevirtual 199, 3) := by decide +kernel
theorem dX8_cut_22 : decode cX8_cut 22 = .ok (.istore_n 2, 1) := by decide +kernel
theorem dX8_cut_23 : decode cX8_cut 23 = .ok (.iconst 0, 1) := by decide +kernel
theorem dX8_cut_24 : decode cX8_cut 24 = .ok (.istore_n 3, 1) := by decide +kernel
theorem dX8_cut_25 : decode cX8_cut 25 = .ok (.iconst 0, 1) := by decide +kernel
theorem dX8_cut_26 : decode cX8_cut 26 = .ok (.istore 4, 2) := by decide +kernel
theorem dX8_cut_28 : decode cX8_cut 28 = .ok (.iload 4, 2) := by decide +kernel
theorem dX8_cut_30 : decode cX8_cut 30 = .ok (.aload_n 0, 1) := by decide +kernel
theorem dX8_cut_31 : decode cX8_cut 31 = .ok (.getfield 32, 3) := by decide +kernel
theorem dX8_cut_34 : decode cX8_cut 34 = .ok (.getfield 176, 3) := by decide +kernel
theorem dX8_cut_37 : decode cX8_cut 37 = .ok (.if_icmp .ge 50, 3) := by decide +kernel
theorem dX8_cut_40 : decode cX8_cut 40 = .ok (.iload_n 2, 1) := by decide +kernel
theorem dX8_cut_41 : decode cX8_cut 41 = .ok (.aload_n 0, 1) := by decide +kernel
theorem dX8_cut_42 : decode cX8_cut 42 = .ok (.getfield 32, 3) := by decide +kernel
theorem dX8_cut_45 : decode cX8_cut 45 = .ok (.getfield 228, 3) := by decide +kernel
theorem dX8_cut_48 : decode cX8_cut 48 = .ok (.iload 4, 2) := by decide +kernel
theorem dX8_cut_50 : decode cX8_cut 50 = .ok (.iaload, 1) := by decide +kernel
theorem dX8_cut_51 : decode cX8_cut 51 = .ok (.invokestatic 145, 3) := by decide +kernel
theorem dX8_cut_54 : decode cX8_cut 54 = .ok (.ifCond .ne 20, 3) := by decide +kernel
theorem dX8_cut_57 : decode cX8_cut 57 = .ok (.iload_n 2, 1) := by decide +kernel
theorem dX8_cut_58 : decode cX8_cut 58 = .ok (.aload_n 0, 1) := by decide +kernel
theorem dX8_cut_59 : decode cX8_cut 59 = .ok (.getfield 32, 3) := by decide +kernel
theorem dX8_cut_62 : decode cX8_cut 62 = .ok (.getfield 231, 3) := by decide +kernel
theorem dX8_cut_65 : decode cX8_cut 65 = .ok (.iload 4, 2) := by decide +kernel
theorem dX8_cut_67 : decode cX8_cut 67 = .ok (.iaload, 1) := by decide +kernel
theorem dX8_cut_68 : decode cX8_cut 68 = .ok (.invokestatic 145, 3) := by decide +kernel
theorem dX8_cut_71 : decode cX8_cut 71 = .ok (.ifCond .eq 10, 3) := by decide +kernel
theorem dX8_cut_74 : decode cX8_cut 74 = .ok (.iload_n 3, 1) := by decide +kernel
theorem dX8_cut_75 : decode cX8_cut 75 = .ok (.iconst 1, 1) := by decide +kernel
theorem dX8_cut_76 : decode cX8_cut 76 = .ok (.iload 4, 2) := by decide +kernel
theorem dX8_cut_78 : decode cX8_cut 78 = .ok (.ishl, 1) := by decide +kernel
theorem dX8_cut_79 : decode cX8_cut 79 = .ok (.ior, 1) := by decide +kernel
theorem dX8_cut_80 : decode cX8_cut 80 = .ok (.istore_n 3, 1) := by decide +kernel
theorem dX8_cut_81 : decode cX8_cut 81 = .ok (.iinc 4 1, 3) := by decide +kernel
theorem dX8_cut_84 : decode cX8_cut 84 = .ok (.goto (-56), 3) := by decide +kernel
theorem dX8_cut_87 : decode cX8_cut 87 = .ok (.iload_n 3, 1) := by decide +kernel
theorem dX8_cut_88 : decode cX8_cut 88 = .ok (.ireturn, 1) := by decide +kernel

theorem dX8_dies_0 : decode cX8_dies 0 = .ok (.aload_n 0, 1) := by decide +kernel
theorem dX8_dies_1 : decode cX8_dies 1 = .ok (.getfield 32, 3) := by decide +kernel
theorem dX8_dies_4 : decode cX8_dies 4 = .ok (.iload_n 1, 1) := by decide +kernel
theorem dX8_dies_5 : decode cX8_dies 5 = .ok (.invokevirtual 127, 3) := by decide +kernel
theorem dX8_dies_8 : decode cX8_dies 8 = .ok (.ifCond .ne 6, 3) := by decide +kernel
theorem dX8_dies_11 : decode cX8_dies 11 = .ok (.bipush (-2), 2) := by decide +kernel
theorem dX8_dies_13 : decode cX8_dies 13 = .ok (.ireturn, 1) := by decide +kernel
theorem dX8_dies_14 : decode cX8_dies 14 = .ok (.iconst 0, 1) := by decide +kernel
theorem dX8_dies_15 : decode cX8_dies 15 = .ok (.istore_n 2, 1) := by decide +kernel
theorem dX8_dies_16 : decode cX8_dies 16 = .ok (.iload_n 2, 1) := by decide +kernel
theorem dX8_dies_17 : decode cX8_dies 17 = .ok (.aload_n 0, 1) := by decide +kernel
theorem dX8_dies_18 : decode cX8_dies 18 = .ok (.getfield 32, 3) := by decide +kernel
theorem dX8_dies_21 : decode cX8_dies 21 = .ok (.getfield 168, 3) := by decide +kernel
theorem dX8_dies_24 : decode cX8_dies 24 = .ok (.if_icmp .gt 23, 3) := by decide +kernel
theorem dX8_dies_27 : decode cX8_dies 27 = .ok (.aload_n 0, 1) := by decide +kernel
theorem dX8_dies_28 : decode cX8_dies 28 = .ok (.invokevirtual 189, 3) := by decide +kernel
theorem dX8_dies_31 : decode cX8_dies 31 = .ok (.iload_n 1, 1) := by decide +kernel
theorem dX8_dies_32 : decode cX8_dies 32 = .ok (.iload_n 2, 1) := by decide +kernel
theorem dX8_dies_33 : decode cX8_dies 33 = .ok (.invokevirtual 220, 3) := by decide +kernel
theorem dX8_dies_36 : decode cX8_dies 36 = .ok (.ifCond .ne 5, 3) := by decide +kernel
theorem dX8_dies_39 : decode cX8_dies 39 = .ok (.iload_n 2, 1) := by decide +kernel
theorem dX8_dies_40 : decode cX8_dies 40 = .ok (.ireturn, 1) := by decide +kernel
theorem dX8_dies_41 : decode cX8_dies 41 = .ok (.iinc 2 1, 3) := by decide +kernel
theorem dX8_dies_44 : decode cX8_dies 44 = .ok (.goto (-28), 3) := by decide +kernel
theorem dX8_dies_47 : decode cX8_dies 47 = .ok (.iconst (-1), 1) := by decide +kernel
theorem dX8_dies_48 : decode cX8_dies 48 = .ok (.ireturn, 1) := by decide +kernel

theorem dX8_done_0 : decode cX8_done 0 = .ok (.aload_n 0, 1) := by decide +kernel
theorem dX8_done_1 : decode cX8_done 1 = .ok (.getfield 32, 3) := by decide +kernel
theorem dX8_done_4 : decode cX8_done 4 = .ok (.invokevirtual 153, 3) := by decide +kernel
theorem dX8_done_7 : decode cX8_done 7 = .ok (.ifCond .ne 6, 3) := by decide +kernel
theorem dX8_done_10 : decode cX8_done 10 = .ok (.bipush (-2), 2) := by decide +kernel
theorem dX8_done_12 : decode cX8_done 12 = .ok (.ireturn, 1) := by decide +kernel
theorem dX8_done_13 : decode cX8_done 13 = .ok (.iconst 0, 1) := by decide +kernel
theorem dX8_done_14 : decode cX8_done 14 = .ok (.istore_n 1, 1) := by decide +kernel
theorem dX8_done_15 : decode cX8_done 15 = .ok (.iload_n 1, 1) := by decide +kernel
theorem dX8_done_16 : decode cX8_done 16 = .ok (.aload_n 0, 1) := by decide +kernel
theorem dX8_done_17 : decode cX8_done 17 = .ok (.getfield 32, 3) := by decide +kernel
theorem dX8_done_20 : decode cX8_done 20 = .ok (.getfield 168, 3) := by decide +kernel
theorem dX8_done_23 : decode cX8_done 23 = .ok (.if_icmp .gt 39, 3) := by decide +kernel
theorem dX8_done_26 : decode cX8_done 26 = .ok (.aload_n 0, 1) := by decide +kernel
theorem dX8_done_27 : decode cX8_done 27 = .ok (.getfield 32, 3) := by decide +kernel
theorem dX8_done_30 : decode cX8_done 30 = .ok (.getfield 156, 3) := by decide +kernel
theorem dX8_done_33 : decode cX8_done 33 = .ok (.ifCond .le 29, 3) := by decide +kernel
theorem dX8_done_36 : decode cX8_done 36 = .ok (.aload_n 0, 1) := by decide +kernel
theorem dX8_done_37 : decode cX8_done 37 = .ok (.invokevirtual 189, 3) := by decide +kernel
theorem dX8_done_40 : decode cX8_done 40 = .ok (.iload_n 1, 1) := by decide +kernel
theorem dX8_done_41 : decode cX8_done 41 = .ok (.invokevirtual 199, 3) := by decide +kernel
theorem dX8_done_44 : decode cX8_done 44 = .ok (.aload_n 0, 1) := by decide +kernel
theorem dX8_done_45 : decode cX8_done 45 = .ok (.getfield 32, 3) := by decide +kernel
theorem dX8_done_48 : decode cX8_done 48 = .ok (.invokevirtual 243, 3) := by decide +kernel
theorem dX8_done_51 : decode cX8_done 51 = .ok (.if_icmp .ne 5, 3) := by decide +kernel
theorem dX8_done_54 : decode cX8_done 54 = .ok (.iload_n 1, 1) := by decide +kernel
theorem dX8_done_55 : decode cX8_done 55 = .ok (.ireturn, 1) := by decide +kernel
theorem dX8_done_56 : decode cX8_done 56 = .ok (.iinc 1 1, 3) := by decide +kernel
theorem dX8_done_59 : decode cX8_done 59 = .ok (.goto (-44), 3) := by decide +kernel
theorem dX8_done_62 : decode cX8_done 62 = .ok (.iconst (-1), 1) := by decide +kernel
theorem dX8_done_63 : decode cX8_done 63 = .ok (.ireturn, 1) := by decide +kernel

theorem dX8_drawn_0 : decode cX8_drawn 0 = .ok (.aload_n 0, 1) := by decide +kernel
theorem dX8_drawn_1 : decode cX8_drawn 1 = .ok (.getfield 32, 3) := by decide +kernel
theorem dX8_drawn_4 : decode cX8_drawn 4 = .ok (.invokevirtual 153, 3) := by decide +kernel
theorem dX8_drawn_7 : decode cX8_drawn 7 = .ok (.ifCond .eq 19, 3) := by decide +kernel
theorem dX8_drawn_10 : decode cX8_drawn 10 = .ok (.iload_n 1, 1) := by decide +kernel
theorem dX8_drawn_11 : decode cX8_drawn 11 = .ok (.invokestatic 364, 3) := by decide +kernel
theorem dX8_drawn_14 : decode cX8_drawn 14 = .ok (.ifCond .eq 12, 3) := by decide +kernel
theorem dX8_drawn_17 : decode cX8_drawn 17 = .ok (.iload_n 2, 1) := by decide +kernel
theorem dX8_drawn_18 : decode cX8_drawn 18 = .ok (.ifCond .eq 11, 3) := by decide +kernel
theorem dX8_drawn_21 : decode cX8_drawn 21 = .ok (.iload_n 2, 1) := by decide +kernel
theorem dX8_drawn_22 : decode cX8_drawn 22 = .ok (.iconst 1, 1) := by decide +kernel
theorem dX8_drawn_23 : decode cX8_drawn 23 = .ok (.if_icmp .eq 6, 3) := by decide +kernel
theorem dX8_drawn_26 : decode cX8_drawn 26 = .ok (.bipush (-2), 2) := by decide +kernel
theorem dX8_drawn_28 : decode cX8_drawn 28 = .ok (.ireturn, 1) := by decide +kernel
theorem dX8_drawn_29 : decode cX8_drawn 29 = .ok (.aload_n 0, 1) := by decide +kernel
theorem dX8_drawn_30 : decode cX8_drawn 30 = .ok (.iload_n 1, 1) := by decide +kernel
theorem dX8_drawn_31 : decode cX8_drawn 31 = .ok (.i2l, 1) := by decide +kernel
theorem dX8_drawn_32 : decode cX8_drawn 32 = .ok (.invokevirtual 367, 3) := by decide +kernel
theorem dX8_drawn_35 : decode cX8_drawn 35 = .ok (.istore_n 3, 1) := by decide +kernel
theorem dX8_drawn_36 : decode cX8_drawn 36 = .ok (.iload_n 2, 1) := by decide +kernel
theorem dX8_drawn_37 : decode cX8_drawn 37 = .ok (.ifCond .ne 5, 3) := by decide +kernel
theorem dX8_drawn_40 : decode cX8_drawn 40 = .ok (.iload_n 3, 1) := by decide +kernel
theorem dX8_drawn_41 : decode cX8_drawn 41 = .ok (.ireturn, 1) := by decide +kernel
theorem dX8_drawn_42 : decode cX8_drawn 42 = .ok (.aload_n 0, 1) := by decide +kernel
theorem dX8_drawn_43 : decode cX8_drawn 43 = .ok (.iload_n 3, 1) := by decide +kernel
theorem dX8_drawn_44 : decode cX8_drawn 44 = .ok (.invokevirtual 318, 3) := by decide +kernel
theorem dX8_drawn_47 : decode cX8_drawn 47 = .ok (.aload_n 0, 1) := by decide +kernel
theorem dX8_drawn_48 : decode cX8_drawn 48 = .ok (.getfield 59, 3) := by decide +kernel
theorem dX8_drawn_51 : decode cX8_drawn 51 = .ok (.aload_n 0, 1) := by decide +kernel
theorem dX8_drawn_52 : decode cX8_drawn 52 = .ok (.getfield 32, 3) := by decide +kernel
theorem dX8_drawn_55 : decode cX8_drawn 55 = .ok (.getfield 168, 3) := by decide +kernel
theorem dX8_drawn_58 : decode cX8_drawn 58 = .ok (.invokevirtual 199, 3) := by decide +kernel
theorem dX8_drawn_61 : decode cX8_drawn 61 = .ok (.ireturn, 1) := by decide +kernel

theorem dX8_dull_0 : decode cX8_dull 0 = .ok (.aload_n 0, 1) := by decide +kernel
theorem dX8_dull_1 : decode cX8_dull 1 = .ok (.getfield 32, 3) := by decide +kernel
theorem dX8_dull_4 : decode cX8_dull 4 = .ok (.iload_n 1, 1) := by decide +kernel
theorem dX8_dull_5 : decode cX8_dull 5 = .ok (.invokevirtual 196, 3) := by decide +kernel
theorem dX8_dull_8 : decode cX8_dull 8 = .ok (.ifCond .ne 6, 3) := by decide +kernel
theorem dX8_dull_11 : decode cX8_dull 11 = .ok (.bipush (-2), 2) := by decide +kernel
theorem dX8_dull_13 : decode cX8_dull 13 = .ok (.ireturn, 1) := by decide +kernel
theorem dX8_dull_14 : decode cX8_dull 14 = .ok (.iconst 0, 1) := by decide +kernel
theorem dX8_dull_15 : decode cX8_dull 15 = .ok (.istore_n 2, 1) := by decide +kernel
theorem dX8_dull_16 : decode cX8_dull 16 = .ok (.iconst 0, 1) := by decide +kernel
theorem dX8_dull_17 : decode cX8_dull 17 = .ok (.istore_n 3, 1) := by decide +kernel
theorem dX8_dull_18 : decode cX8_dull 18 = .ok (.iload_n 3, 1) := by decide +kernel
theorem dX8_dull_19 : decode cX8_dull 19 = .ok (.aload_n 0, 1) := by decide +kernel
theorem dX8_dull_20 : decode cX8_dull 20 = .ok (.getfield 32, 3) := by decide +kernel
theorem dX8_dull_23 : decode cX8_dull 23 = .ok (.getfield 156, 3) := by decide +kernel
theorem dX8_dull_26 : decode cX8_dull 26 = .ok (.if_icmp .ge 27, 3) := by decide +kernel
theorem dX8_dull_29 : decode cX8_dull 29 = .ok (.aload_n 0, 1) := by decide +kernel
theorem dX8_dull_30 : decode cX8_dull 30 = .ok (.invokevirtual 189, 3) := by decide +kernel
theorem dX8_dull_33 : decode cX8_dull 33 = .ok (.iload_n 3, 1) := by decide +kernel
theorem dX8_dull_34 : decode cX8_dull 34 = .ok (.iload_n 1, 1) := by decide +kernel
theorem dX8_dull_35 : decode cX8_dull 35 = .ok (.invokevirtual 220, 3) := by decide +kernel
theorem dX8_dull_38 : decode cX8_dull 38 = .ok (.ifCond .ne 9, 3) := by decide +kernel
theorem dX8_dull_41 : decode cX8_dull 41 = .ok (.iload_n 2, 1) := by decide +kernel
theorem dX8_dull_42 : decode cX8_dull 42 = .ok (.iconst 1, 1) := by decide +kernel
theorem dX8_dull_43 : decode cX8_dull 43 = .ok (.iload_n 3, 1) := by decide +kernel
theorem dX8_dull_44 : decode cX8_dull 44 = .ok (.ishl, 1) := by decide +kernel
theorem dX8_dull_45 : decode cX8_dull 45 = .ok (.ior, 1) := by decide +kernel
theorem dX8_dull_46 : decode cX8_dull 46 = .ok (.istore_n 2, 1) := by decide +kernel
theorem dX8_dull_47 : decode cX8_dull 47 = .ok (.iinc 3 1, 3) := by decide +kernel
theorem dX8_dull_50 : decode cX8_dull 50 = .ok (.goto (-32), 3) := by decide +kernel
theorem dX8_dull_53 : decode cX8_dull 53 = .ok (.iload_n 2, 1) := by decide +kernel
theorem dX8_dull_54 : decode cX8_dull 54 = .ok (.ireturn, 1) := by decide +kernel

theorem dX8_end_0 : decode cX8_end 0 = .ok (.iload_n 1, 1) := by decide +kernel
theorem dX8_end_1 : decode cX8_end 1 = .ok (.ifCond .lt 14, 3) := by decide +kernel
theorem dX8_end_4 : decode cX8_end 4 = .ok (.iload_n 1, 1) := by decide +kernel
theorem dX8_end_5 : decode cX8_end 5 = .ok (.aload_n 0, 1) := by decide +kernel
theorem dX8_end_6 : decode cX8_end 6 = .ok (.getfield 10, 3) := by decide +kernel
theorem dX8_end_9 : decode cX8_end 9 = .ok (.getfield 106, 3) := by decide +kernel
theorem dX8_end_12 : decode cX8_end 12 = .ok (.if_icmp .le 5, 3) := by decide +kernel
theorem dX8_end_15 : decode cX8_end 15 = .ok (.iconst (-1), 1) := by decide +kernel
theorem dX8_end_16 : decode cX8_end 16 = .ok (.ireturn, 1) := by decide +kernel
theorem dX8_end_17 : decode cX8_end 17 = .ok (.aload_n 0, 1) := by decide +kernel
theorem dX8_end_18 : decode cX8_end 18 = .ok (.getfield 10, 3) := by decide +kernel
theorem dX8_end_21 : decode cX8_end 21 = .ok (.iload_n 1, 1) := by decide +kernel
theorem dX8_end_22 : decode cX8_end 22 = .ok (.putfield 106, 3) := by decide +kernel
theorem dX8_end_25 : decode cX8_end 25 = .ok (.iload_n 1, 1) := by decide +kernel
theorem dX8_end_26 : decode cX8_end 26 = .ok (.ireturn, 1) := by decide +kernel

theorem dX8_far_0 : decode cX8_far 0 = .ok (.aload_n 0, 1) := by decide +kernel
theorem dX8_far_1 : decode cX8_far 1 = .ok (.getfield 32, 3) := by decide +kernel
theorem dX8_far_4 : decode cX8_far 4 = .ok (.iload_n 1, 1) := by decide +kernel
theorem dX8_far_5 : decode cX8_far 5 = .ok (.invokevirtual 127, 3) := by decide +kernel
theorem dX8_far_8 : decode cX8_far 8 = .ok (.ifCond .eq 14, 3) := by decide +kernel
theorem dX8_far_11 : decode cX8_far 11 = .ok (.aload_n 0, 1) := by decide +kernel
theorem dX8_far_12 : decode cX8_far 12 = .ok (.getfield 32, 3) := by decide +kernel
theorem dX8_far_15 : decode cX8_far 15 = .ok (.iload_n 2, 1) := by decide +kernel
theorem dX8_far_16 : decode cX8_far 16 = .ok (.invokevirtual 127, 3) := by decide +kernel
theorem dX8_far_19 : decode cX8_far 19 = .ok (.ifCond .ne 6, 3) := by decide +kernel
theorem dX8_far_22 : decode cX8_far 22 = .ok (.bipush (-2), 2) := by decide +kernel
theorem dX8_far_24 : decode cX8_far 24 = .ok (.ireturn, 1) := by decide +kernel
theorem dX8_far_25 : decode cX8_far 25 = .ok (.iconst 1, 1) := by decide +kernel
theorem dX8_far_26 : decode cX8_far 26 = .ok (.iload_n 1, 1) := by decide +kernel
theorem dX8_far_27 : decode cX8_far 27 = .ok (.ishl, 1) := by decide +kernel
theorem dX8_far_28 : decode cX8_far 28 = .ok (.istore_n 3, 1) := by decide +kernel
theorem dX8_far_29 : decode cX8_far 29 = .ok (.iconst 0, 1) := by decide +kernel
theorem dX8_far_30 : decode cX8_far 30 = .ok (.istore 4, 2) := by decide +kernel
theorem dX8_far_32 : decode cX8_far 32 = .ok (.iload 4, 2) := by decide +kernel
theorem dX8_far_34 : decode cX8_far 34 = .ok (.bipush 6, 2) := by decide +kernel
theorem dX8_far_36 : decode cX8_far 36 = .ok (.if_icmp .ge 29, 3) := by decide +kernel
theorem dX8_far_39 : decode cX8_far 39 = .ok (.iload_n 3, 1) := by decide +kernel
theorem dX8_far_40 : decode cX8_far 40 = .ok (.iload_n 2, 1) := by decide +kernel
theorem dX8_far_41 : decode cX8_far 41 = .ok (.invokestatic 145, 3) := by decide +kernel
theorem dX8_far_44 : decode cX8_far 44 = .ok (.ifCond .eq 6, 3) := by decide +kernel
theorem dX8_far_47 : decode cX8_far 47 = .ok (.iload 4, 2) := by decide +kernel
theorem dX8_far_49 : decode cX8_far 49 = .ok (.ireturn, 1) := by decide +kernel
theorem dX8_far_50 : decode cX8_far 50 = .ok (.aload_n 0, 1) := by decide +kernel
theorem dX8_far_51 : decode cX8_far 51 = .ok (.getfield 32, 3) := by decide +kernel
theorem dX8_far_54 : decode cX8_far 54 = .ok (.iload_n 3, 1) := by decide +kernel
theorem dX8_far_55 : decode cX8_far 55 = .ok (.invokevirtual 149, 3) := by decide +kernel
theorem dX8_far_58 : decode cX8_far 58 = .ok (.istore_n 3, 1) := by decide +kernel
theorem dX8_far_59 : decode cX8_far 59 = .ok (.iinc 4 1, 3) := by decide +kernel
theorem dX8_far_62 : decode cX8_far 62 = .ok (.goto (-30), 3) := by decide +kernel
theorem dX8_far_65 : decode cX8_far 65 = .ok (.iconst (-1), 1) := by decide +kernel
theorem dX8_far_66 : decode cX8_far 66 = .ok (.ireturn, 1) := by decide +kernel

theorem dX8_fault_0 : decode cX8_fault 0 = .ok (.iload_n 1, 1) := by decide +kernel
theorem dX8_fault_1 : decode cX8_fault 1 = .ok (.lookupswitch 43 #[(0, 27), (1, 35)], 27) := by decide +kernel
theorem dX8_fault_28 : decode cX8_fault 28 = .ok (.aload_n 0, 1) := by decide +kernel
theorem dX8_fault_29 : decode cX8_fault 29 = .ok (.getfield 28, 3) := by decide +kernel
theorem dX8_fault_32 : decode cX8_fault 32 = .ok (.getfield 121, 3) := by decide +kernel
theorem dX8_fault_35 : decode cX8_fault 35 = .ok (.ireturn, 1) := by decide +kernel
theorem dX8_fault_36 : decode cX8_fault 36 = .ok (.aload_n 0, 1) := by decide +kernel
theorem dX8_fault_37 : decode cX8_fault 37 = .ok (.getfield 28, 3) := by decide +kernel
theorem dX8_fault_40 : decode cX8_fault 40 = .ok (.getfield 124, 3) := by decide +kernel
theorem dX8_fault_43 : decode cX8_fault 43 = .ok (.ireturn, 1) := by decide +kernel
theorem dX8_fault_44 : decode cX8_fault 44 = .ok (.iconst (-1), 1) := by decide +kernel
theorem dX8_fault_45 : decode cX8_fault 45 = .ok (.ireturn, 1) := by decide +kernel

theorem dX8_feed_0 : decode cX8_feed 0 = .ok (.aload_n 0, 1) := by decide +kernel
theorem dX8_feed_1 : decode cX8_feed 1 = .ok (.getfield 10, 3) := by decide +kernel
theorem dX8_feed_4 : decode cX8_feed 4 = .ok (.invokevirtual 98, 3) := by decide +kernel
theorem dX8_feed_7 : decode cX8_feed 7 = .ok (.ifCond .ne 5, 3) := by decide +kernel
theorem dX8_feed_10 : decode cX8_feed 10 = .ok (.iconst (-1), 1) := by decide +kernel
theorem dX8_feed_11 : decode cX8_feed 11 = .ok (.ireturn, 1) := by decide +kernel
theorem dX8_feed_12 : decode cX8_feed 12 = .ok (.aload_n 0, 1) := by decide +kernel
theorem dX8_feed_13 : decode cX8_feed 13 = .ok (.getfield 10, 3) := by decide +kernel
theorem dX8_feed_16 : decode cX8_feed 16 = .ok (.iload_n 1, 1) := by decide +kernel
theorem dX8_feed_17 : decode cX8_feed 17 = .ok (.invokevirtual 102, 3) := by decide +kernel
theorem dX8_feed_20 : decode cX8_feed 20 = .ok (.aload_n 0, 1) := by decide +kernel
theorem dX8_feed_21 : decode cX8_feed 21 = .ok (.getfield 10, 3) := by decide +kernel
theorem dX8_feed_24 : decode cX8_feed 24 = .ok (.iload_n 2, 1) := by decide +kernel
theorem dX8_feed_25 : decode cX8_feed 25 = .ok (.invokevirtual 102, 3) := by decide +kernel
theorem dX8_feed_28 : decode cX8_feed 28 = .ok (.aload_n 0, 1) := by decide +kernel
theorem dX8_feed_29 : decode cX8_feed 29 = .ok (.getfield 10, 3) := by decide +kernel
theorem dX8_feed_32 : decode cX8_feed 32 = .ok (.iload_n 3, 1) := by decide +kernel
theorem dX8_feed_33 : decode cX8_feed 33 = .ok (.invokevirtual 102, 3) := by decide +kernel
theorem dX8_feed_36 : decode cX8_feed 36 = .ok (.aload_n 0, 1) := by decide +kernel
theorem dX8_feed_37 : decode cX8_feed 37 = .ok (.getfield 10, 3) := by decide +kernel
theorem dX8_feed_40 : decode cX8_feed 40 = .ok (.iload 4, 2) := by decide +kernel
theorem dX8_feed_42 : decode cX8_feed 42 = .ok (.invokevirtual 102, 3) := by decide +kernel
theorem dX8_feed_45 : decode cX8_feed 45 = .ok (.aload_n 0, 1) := by decide +kernel
theorem dX8_feed_46 : decode cX8_feed 46 = .ok (.getfield 10, 3) := by decide +kernel
theorem dX8_feed_49 : decode cX8_feed 49 = .ok (.iload 5, 2) := by decide +kernel
theorem dX8_feed_51 : decode cX8_feed 51 = .ok (.invokevirtual 102, 3) := by decide +kernel
theorem dX8_feed_54 : decode cX8_feed 54 = .ok (.aload_n 0, 1) := by decide +kernel
theorem dX8_feed_55 : decode cX8_feed 55 = .ok (.getfield 10, 3) := by decide +kernel
theorem dX8_feed_58 : decode cX8_feed 58 = .ok (.getfield 106, 3) := by decide +kernel
theorem dX8_feed_61 : decode cX8_feed 61 = .ok (.ireturn, 1) := by decide +kernel

theorem dX8_few_0 : decode cX8_few 0 = .ok (.aload_n 0, 1) := by decide +kernel
theorem dX8_few_1 : decode cX8_few 1 = .ok (.getfield 32, 3) := by decide +kernel
theorem dX8_few_4 : decode cX8_few 4 = .ok (.invokevirtual 153, 3) := by decide +kernel
theorem dX8_few_7 : decode cX8_few 7 = .ok (.ifCond .eq 13, 3) := by decide +kernel
theorem dX8_few_10 : decode cX8_few 10 = .ok (.aload_n 0, 1) := by decide +kernel
theorem dX8_few_11 : decode cX8_few 11 = .ok (.invokevirtual 249, 3) := by decide +kernel
theorem dX8_few_14 : decode cX8_few 14 = .ok (.invokestatic 252, 3) := by decide +kernel
theorem dX8_few_17 : decode cX8_few 17 = .ok (.goto 5, 3) := by decide +kernel
theorem dX8_few_20 : decode cX8_few 20 = .ok (.bipush (-2), 2) := by decide +kernel
theorem dX8_few_22 : decode cX8_few 22 = .ok (.ireturn, 1) := by decide +kernel

theorem dX8_fews_0 : decode cX8_fews 0 = .ok (.aload_n 0, 1) := by decide +kernel
theorem dX8_fews_1 : decode cX8_fews 1 = .ok (.getfield 32, 3) := by decide +kernel
theorem dX8_fews_4 : decode cX8_fews 4 = .ok (.invokevirtual 153, 3) := by decide +kernel
theorem dX8_fews_7 : decode cX8_fews 7 = .ok (.ifCond .eq 10, 3) := by decide +kernel
theorem dX8_fews_10 : decode cX8_fews 10 = .ok (.aload_n 0, 1) := by decide +kernel
theorem dX8_fews_11 : decode cX8_fews 11 = .ok (.invokevirtual 249, 3) := by decide +kernel
theorem dX8_fews_14 : decode cX8_fews 14 = .ok (.goto 5, 3) := by decide +kernel
theorem dX8_fews_17 : decode cX8_fews 17 = .ok (.bipush (-2), 2) := by decide +kernel
theorem dX8_fews_19 : decode cX8_fews 19 = .ok (.ireturn, 1) := by decide +kernel

theorem dX8_first_0 : decode cX8_first 0 = .ok (.aload_n 0, 1) := by decide +kernel
theorem dX8_first_1 : decode cX8_first 1 = .ok (.getfield 32, 3) := by decide +kernel
theorem dX8_first_4 : decode cX8_first 4 = .ok (.invokevirtual 153, 3) := by decide +kernel
theorem dX8_first_7 : decode cX8_first 7 = .ok (.ifCond .ne 6, 3) := by decide +kernel
theorem dX8_first_10 : decode cX8_first 10 = .ok (.bipush (-2), 2) := by decide +kernel
theorem dX8_first_12 : decode cX8_first 12 = .ok (.ireturn, 1) := by decide +kernel
theorem dX8_first_13 : decode cX8_first 13 = .ok (.iconst 0, 1) := by decide +kernel
theorem dX8_first_14 : decode cX8_first 14 = .ok (.istore_n 1, 1) := by decide +kernel
theorem dX8_first_15 : decode cX8_first 15 = .ok (.iload_n 1, 1) := by decide +kernel
theorem dX8_first_16 : decode cX8_first 16 = .ok (.aload_n 0, 1) := by decide +kernel
theorem dX8_first_17 : decode cX8_first 17 = .ok (.getfield 32, 3) := by decide +kernel
theorem dX8_first_20 : decode cX8_first 20 = .ok (.getfield 168, 3) := by decide +kernel
theorem dX8_first_23 : decode cX8_first 23 = .ok (.if_icmp .ge 19, 3) := by decide +kernel
theorem dX8_first_26 : decode cX8_first 26 = .ok (.aload_n 0, 1) := by decide +kernel
theorem dX8_first_27 : decode cX8_first 27 = .ok (.iload_n 1, 1) := by decide +kernel
theorem dX8_first_28 : decode cX8_first 28 = .ok (.invokevirtual 246, 3) := by decide +kernel
theorem dX8_first_31 : decode cX8_first 31 = .ok (.ifCond .le 5, 3) := by decide +kernel
theorem dX8_first_34 : decode cX8_first 34 = .ok (.iload_n 1, 1) := by decide +kernel
theorem dX8_first_35 : decode cX8_first 35 = .ok (.ireturn, 1) := by decide +kernel
theorem dX8_first_36 : decode cX8_first 36 = .ok (.iinc 1 1, 3) := by decide +kernel
theorem dX8_first_39 : decode cX8_first 39 = .ok (.goto (-24), 3) := by decide +kernel
theorem dX8_first_42 : decode cX8_first 42 = .ok (.iconst (-1), 1) := by decide +kernel
theorem dX8_first_43 : decode cX8_first 43 = .ok (.ireturn, 1) := by decide +kernel

theorem dX8_forgetAnswers_0 : decode cX8_forgetAnswers 0 = .ok (.aload_n 0, 1) := by decide +kernel
theorem dX8_forgetAnswers_1 : decode cX8_forgetAnswers 1 = .ok (.iconst 1, 1) := by decide +kernel
theorem dX8_forgetAnswers_2 : decode cX8_forgetAnswers 2 = .ok (.putfield 87, 3) := by decide +kernel
theorem dX8_forgetAnswers_5 : decode cX8_forgetAnswers 5 = .ok (.aload_n 0, 1) := by decide +kernel
theorem dX8_forgetAnswers_6 : decode cX8_forgetAnswers 6 = .ok (.iconst 1, 1) := by decide +kernel
theorem dX8_forgetAnswers_7 : decode cX8_forgetAnswers 7 = .ok (.putfield 91, 3) := by decide +kernel
theorem dX8_forgetAnswers_10 : decode cX8_forgetAnswers 10 = .ok (.aload_n 0, 1) := by decide +kernel
theorem dX8_forgetAnswers_11 : decode cX8_forgetAnswers 11 = .ok (.iconst 0, 1) := by decide +kernel
theorem dX8_forgetAnswers_12 : decode cX8_forgetAnswers 12 = .ok (.putfield 94, 3) := by decide +kernel
theorem dX8_forgetAnswers_15 : decode cX8_forgetAnswers 15 = .ok (.return_, 1) := by decide +kernel

theorem dX8_gets_0 : decode cX8_gets 0 = .ok (.aload_n 0, 1) := by decide +kernel
theorem dX8_gets_1 : decode cX8_gets 1 = .ok (.iload_n 1, 1) := by decide +kernel
theorem dX8_gets_2 : decode cX8_gets 2 = .ok (.iload_n 2, 1) := by decide +kernel
theorem dX8_gets_3 : decode cX8_gets 3 = .ok (.invokevirtual 338, 3) := by decide +kernel
theorem dX8_gets_6 : decode cX8_gets 6 = .ok (.ifCond .eq 18, 3) := by decide +kernel
theorem dX8_gets_9 : decode cX8_gets 9 = .ok (.iload_n 3, 1) := by decide +kernel
theorem dX8_gets_10 : decode cX8_gets 10 = .ok (.invokestatic 345, 3) := by decide +kernel
theorem dX8_gets_13 : decode cX8_gets 13 = .ok (.ifCond .eq 11, 3) := by decide +kernel
theorem dX8_gets_16 : decode cX8_gets 16 = .ok (.iload 4, 2) := by decide +kernel
theorem dX8_gets_18 : decode cX8_gets 18 = .ok (.invokestatic 345, 3) := by decide +kernel
theorem dX8_gets_21 : decode cX8_gets 21 = .ok (.ifCond .ne 7, 3) := by decide +kernel
theorem dX8_gets_24 : decode cX8_gets 24 = .ok (.sipush (-1000), 3) := by decide +kernel
theorem dX8_gets_27 : decode cX8_gets 27 = .ok (.ireturn, 1) := by decide +kernel
theorem dX8_gets_28 : decode cX8_gets 28 = .ok (.aload_n 0, 1) := by decide +kernel
theorem dX8_gets_29 : decode cX8_gets 29 = .ok (.iload_n 1, 1) := by decide +kernel
theorem dX8_gets_30 : decode cX8_gets 30 = .ok (.iload_n 2, 1) := by decide +kernel
theorem dX8_gets_31 : decode cX8_gets 31 = .ok (.iload_n 3, 1) := by decide +kernel
theorem dX8_gets_32 : decode cX8_gets 32 = .ok (.iload 4, 2) := by decide +kernel
theorem dX8_gets_34 : decode cX8_gets 34 = .ok (.invokevirtual 341, 3) := by decide +kernel
theorem dX8_gets_37 : decode cX8_gets 37 = .ok (.ireturn, 1) := by decide +kernel

theorem dX8_hasPartAndYear_0 : decode cX8_hasPartAndYear 0 = .ok (.aload_n 0, 1) := by decide +kernel
theorem dX8_hasPartAndYear_1 : decode cX8_hasPartAndYear 1 = .ok (.getfield 32, 3) := by decide +kernel
theorem dX8_hasPartAndYear_4 : decode cX8_hasPartAndYear 4 = .ok (.iload_n 1, 1) := by decide +kernel
theorem dX8_hasPartAndYear_5 : decode cX8_hasPartAndYear 5 = .ok (.invokevirtual 127, 3) := by decide +kernel
theorem dX8_hasPartAndYear_8 : decode cX8_hasPartAndYear 8 = .ok (.ifCond .eq 18, 3) := by decide +kernel
theorem dX8_hasPartAndYear_11 : decode cX8_hasPartAndYear 11 = .ok (.aload_n 0, 1) := by decide +kernel
theorem dX8_hasPartAndYear_12 : decode cX8_hasPartAndYear 12 = .ok (.getfield 32, 3) := by decide +kernel
theorem dX8_hasPartAndYear_15 : decode cX8_hasPartAndYear 15 = .ok (.iload_n 2, 1) := by decide +kernel
theorem dX8_hasPartAndYear_16 : decode cX8_hasPartAndYear 16 = .ok (.invokevirtual 196, 3) := by decide +kernel
theorem dX8_hasPartAndYear_19 : decode cX8_hasPartAndYear 19 = .ok (.ifCond .eq 7, 3) := by decide +kernel
theorem dX8_hasPartAndYear_22 : decode cX8_hasPartAndYear 22 = .ok (.iconst 1, 1) := by decide +kernel
theorem dX8_hasPartAndYear_23 : decode cX8_hasPartAndYear 23 = .ok (.goto 4, 3) := by decide +kernel
theorem dX8_hasPartAndYear_26 : decode cX8_hasPartAndYear 26 = .ok (.iconst 0, 1) := by decide +kernel
theorem dX8_hasPartAndYear_27 : decode cX8_hasPartAndYear 27 = .ok (.ireturn, 1) := by decide +kernel

theorem dX8_hasPlan_0 : decode cX8_hasPlan 0 = .ok (.aload_n 0, 1) := by decide +kernel
theorem dX8_hasPlan_1 : decode cX8_hasPlan 1 = .ok (.getfield 32, 3) := by decide +kernel
theorem dX8_hasPlan_4 : decode cX8_hasPlan 4 = .ok (.invokevirtual 153, 3) := by decide +kernel
theorem dX8_hasPlan_7 : decode cX8_hasPlan 7 = .ok (.ifCond .eq 28, 3) := by decide +kernel
theorem dX8_hasPlan_10 : decode cX8_hasPlan 10 = .ok (.iload_n 1, 1) := by decide +kernel
theorem dX8_hasPlan_11 : decode cX8_hasPlan 11 = .ok (.iconst 1, 1) := by decide +kernel
theorem dX8_hasPlan_12 : decode cX8_hasPlan 12 = .ok (.if_icmp .lt 23, 3) := by decide +kernel
theorem dX8_hasPlan_15 : decode cX8_hasPlan 15 = .ok (.iload_n 1, 1) := by decide +kernel
theorem dX8_hasPlan_16 : decode cX8_hasPlan 16 = .ok (.iconst 5, 1) := by decide +kernel
theorem dX8_hasPlan_17 : decode cX8_hasPlan 17 = .ok (.if_icmp .gt 18, 3) := by decide +kernel
theorem dX8_hasPlan_20 : decode cX8_hasPlan 20 = .ok (.iload_n 1, 1) := by decide +kernel
theorem dX8_hasPlan_21 : decode cX8_hasPlan 21 = .ok (.aload_n 0, 1) := by decide +kernel
theorem dX8_hasPlan_22 : decode cX8_hasPlan 22 = .ok (.getfield 32, 3) := by decide +kernel
theorem dX8_hasPlan_25 : decode cX8_hasPlan 25 = .ok (.getfield 168, 3) := by decide +kernel
theorem dX8_hasPlan_28 : decode cX8_hasPlan 28 = .ok (.if_icmp .gt 7, 3) := by decide +kernel
theorem dX8_hasPlan_31 : decode cX8_hasPlan 31 = .ok (.iconst 1, 1) := by decide +kernel
theorem dX8_hasPlan_32 : decode cX8_hasPlan 32 = .ok (.goto 4, 3) := by decide +kernel
theorem dX8_hasPlan_35 : decode cX8_hasPlan 35 = .ok (.iconst 0, 1) := by decide +kernel
theorem dX8_hasPlan_36 : decode cX8_hasPlan 36 = .ok (.ireturn, 1) := by decide +kernel

theorem dX8_high_0 : decode cX8_high 0 = .ok (.aload_n 0, 1) := by decide +kernel
theorem dX8_high_1 : decode cX8_high 1 = .ok (.iload_n 1, 1) := by decide +kernel
theorem dX8_high_2 : decode cX8_high 2 = .ok (.iload_n 2, 1) := by decide +kernel
theorem dX8_high_3 : decode cX8_high 3 = .ok (.invokevirtual 289, 3) := by decide +kernel
theorem dX8_high_6 : decode cX8_high 6 = .ok (.istore_n 3, 1) := by decide +kernel
theorem dX8_high_7 : decode cX8_high 7 = .ok (.iload_n 3, 1) := by decide +kernel
theorem dX8_high_8 : decode cX8_high 8 = .ok (.ifCond .eq 5, 3) := by decide +kernel
theorem dX8_high_11 : decode cX8_high 11 = .ok (.iload_n 3, 1) := by decide +kernel
theorem dX8_high_12 : decode cX8_high 12 = .ok (.ireturn, 1) := by decide +kernel
theorem dX8_high_13 : decode cX8_high 13 = .ok (.aload_n 0, 1) := by decide +kernel
theorem dX8_high_14 : decode cX8_high 14 = .ok (.getfield 83, 3) := by decide +kernel
theorem dX8_high_17 : decode cX8_high 17 = .ok (.iload_n 1, 1) := by decide +kernel
theorem dX8_high_18 : decode cX8_high 18 = .ok (.iload_n 2, 1) := by decide +kernel
theorem dX8_high_19 : decode cX8_high 19 = .ok (.aload_n 0, 1) := by decide +kernel
theorem dX8_high_20 : decode cX8_high 20 = .ok (.invokevirtual 189, 3) := by decide +kernel
theorem dX8_high_23 : decode cX8_high 23 = .ok (.invokevirtual 292, 3) := by decide +kernel
theorem dX8_high_26 : decode cX8_high 26 = .ok (.pop, 1) := by decide +kernel
theorem dX8_high_27 : decode cX8_high 27 = .ok (.aload_n 0, 1) := by decide +kernel
theorem dX8_high_28 : decode cX8_high 28 = .ok (.getfield 83, 3) := by decide +kernel
theorem dX8_high_31 : decode cX8_high 31 = .ok (.invokevirtual 299, 3) := by decide +kernel
theorem dX8_high_34 : decode cX8_high 34 = .ok (.ireturn, 1) := by decide +kernel

theorem dX8_how_0 : decode cX8_how 0 = .ok (.aload_n 0, 1) := by decide +kernel
theorem dX8_how_1 : decode cX8_how 1 = .ok (.getfield 32, 3) := by decide +kernel
theorem dX8_how_4 : decode cX8_how 4 = .ok (.iload_n 1, 1) := by decide +kernel
theorem dX8_how_5 : decode cX8_how 5 = .ok (.invokevirtual 127, 3) := by decide +kernel
theorem dX8_how_8 : decode cX8_how 8 = .ok (.ifCond .ne 6, 3) := by decide +kernel
theorem dX8_how_11 : decode cX8_how 11 = .ok (.bipush (-2), 2) := by decide +kernel
theorem dX8_how_13 : decode cX8_how 13 = .ok (.ireturn, 1) := by decide +kernel
theorem dX8_how_14 : decode cX8_how 14 = .ok (.aload_n 0, 1) := by decide +kernel
theorem dX8_how_15 : decode cX8_how 15 = .ok (.invokevirtual 189, 3) := by decide +kernel
theorem dX8_how_18 : decode cX8_how 18 = .ok (.astore_n 2, 1) := by decide +kernel
theorem dX8_how_19 : decode cX8_how 19 = .ok (.aload_n 2, 1) := by decide +kernel
theorem dX8_how_20 : decode cX8_how 20 = .ok (.iload_n 1, 1) := by decide +kernel
theorem dX8_how_21 : decode cX8_how 21 = .ok (.invokevirtual 202, 3) := by decide +kernel
theorem dX8_how_24 : decode cX8_how 24 = .ok (.iconst (-1), 1) := by decide +kernel
theorem dX8_how_25 : decode cX8_how 25 = .ok (.if_icmp .ne 5, 3) := by decide +kernel
theorem dX8_how_28 : decode cX8_how 28 = .ok (.iconst 0, 1) := by decide +kernel
theorem dX8_how_29 : decode cX8_how 29 = .ok (.ireturn, 1) := by decide +kernel
theorem dX8_how_30 : decode cX8_how 30 = .ok (.aload_n 2, 1) := by decide +kernel
theorem dX8_how_31 : decode cX8_how 31 = .ok (.getfield 205, 3) := by decide +kernel
theorem dX8_how_34 : decode cX8_how 34 = .ok (.iload_n 1, 1) := by decide +kernel
theorem dX8_how_35 : decode cX8_how 35 = .ok (.invokestatic 145, 3) := by decide +kernel
theorem dX8_how_38 : decode cX8_how 38 = .ok (.ifCond .eq 7, 3) := by decide +kernel
theorem dX8_how_41 : decode cX8_how 41 = .ok (.iconst 2, 1) := by decide +kernel
theorem dX8_how_42 : decode cX8_how 42 = .ok (.goto 4, 3) := by decide +kernel
theorem dX8_how_45 : decode cX8_how 45 = .ok (.iconst 1, 1) := by decide +kernel
theorem dX8_how_46 : decode cX8_how 46 = .ok (.ireturn, 1) := by decide +kernel

theorem dX8_idle_0 : decode cX8_idle 0 = .ok (.aload_n 0, 1) := by decide +kernel
theorem dX8_idle_1 : decode cX8_idle 1 = .ok (.getfield 32, 3) := by decide +kernel
theorem dX8_idle_4 : decode cX8_idle 4 = .ok (.invokevirtual 153, 3) := by decide +kernel
theorem dX8_idle_7 : decode cX8_idle 7 = .ok (.ifCond .ne 6, 3) := by decide +kernel
theorem dX8_idle_10 : decode cX8_idle 10 = .ok (.bipush (-2), 2) := by decide +kernel
theorem dX8_idle_12 : decode cX8_idle 12 = .ok (.ireturn, 1) := by decide +kernel
theorem dX8_idle_13 : decode cX8_idle 13 = .ok (.aload_n 0, 1) := by decide +kernel
theorem dX8_idle_14 : decode cX8_idle 14 = .ok (.invokevirtual 234, 3) := by decide +kernel
theorem dX8_idle_17 : decode cX8_idle 17 = .ok (.istore_n 1, 1) := by decide +kernel
theorem dX8_idle_18 : decode cX8_idle 18 = .ok (.iconst 0, 1) := by decide +kernel
theorem dX8_idle_19 : decode cX8_idle 19 = .ok (.istore_n 2, 1) := by decide +kernel
theorem dX8_idle_20 : decode cX8_idle 20 = .ok (.iconst 0, 1) := by decide +kernel
theorem dX8_idle_21 : decode cX8_idle 21 = .ok (.istore_n 3, 1) := by decide +kernel
theorem dX8_idle_22 : decode cX8_idle 22 = .ok (.iload_n 3, 1) := by decide +kernel
theorem dX8_idle_23 : decode cX8_idle 23 = .ok (.aload_n 0, 1) := by decide +kernel
theorem dX8_idle_24 : decode cX8_idle 24 = .ok (.getfield 32, 3) := by decide +kernel
theorem dX8_idle_27 : decode cX8_idle 27 = .ok (.getfield 162, 3) := by decide +kernel
theorem dX8_idle_30 : decode cX8_idle 30 = .ok (.if_icmp .ge 42, 3) := by decide +kernel
theorem dX8_idle_33 : decode cX8_idle 33 = .ok (.aload_n 0, 1) := by decide +kernel
theorem dX8_idle_34 : decode cX8_idle 34 = .ok (.getfield 32, 3) := by decide +kernel
theorem dX8_idle_37 : decode cX8_idle 37 = .ok (.aload_n 0, 1) := by decide +kernel
theorem dX8_idle_38 : decode cX8_idle 38 = .ok (.getfield 32, 3) := by decide +kernel
theorem dX8_idle_41 : decode cX8_idle 41 = .ok (.getfield 237, 3) := by decide +kernel
theorem dX8_idle_44 : decode cX8_idle 44 = .ok (.iload_n 3, 1) := by decide +kernel
theorem dX8_idle_45 : decode cX8_idle 45 = .ok (.iaload, 1) := by decide +kernel
theorem dX8_idle_46 : decode cX8_idle 46 = .ok (.invokevirtual 211, 3) := by decide +kernel
theorem dX8_idle_49 : decode cX8_idle 49 = .ok (.ifCond .eq 17, 3) := by decide +kernel
theorem dX8_idle_52 : decode cX8_idle 52 = .ok (.iload_n 1, 1) := by decide +kernel
theorem dX8_idle_53 : decode cX8_idle 53 = .ok (.iload_n 3, 1) := by decide +kernel
theorem dX8_idle_54 : decode cX8_idle 54 = .ok (.invokestatic 145, 3) := by decide +kernel
theorem dX8_idle_57 : decode cX8_idle 57 = .ok (.ifCond .ne 9, 3) := by decide +kernel
theorem dX8_idle_60 : decode cX8_idle 60 = .ok (.iload_n 2, 1) := by decide +kernel
theorem dX8_idle_61 : decode cX8_idle 61 = .ok (.iconst 1, 1) := by decide +kernel
theorem dX8_idle_62 : decode cX8_idle 62 = .ok (.iload_n 3, 1) := by decide +kernel
theorem dX8_idle_63 : decode cX8_idle 63 = .ok (.ishl, 1) := by decide +kernel
theorem dX8_idle_64 : decode cX8_idle 64 = .ok (.ior, 1) := by decide +kernel
theorem dX8_idle_65 : decode cX8_idle 65 = .ok (.istore_n 2, 1) := by decide +kernel
theorem dX8_idle_66 : decode cX8_idle 66 = .ok (.iinc 3 1, 3) := by decide +kernel
theorem dX8_idle_69 : decode cX8_idle 69 = .ok (.goto (-47), 3) := by decide +kernel
theorem dX8_idle_72 : decode cX8_idle 72 = .ok (.iload_n 2, 1) := by decide +kernel
theorem dX8_idle_73 : decode cX8_idle 73 = .ok (.ireturn, 1) := by decide +kernel

theorem dX8_image_0 : decode cX8_image 0 = .ok (.iload_n 1, 1) := by decide +kernel
theorem dX8_image_1 : decode cX8_image 1 = .ok (.ifCond .lt 8, 3) := by decide +kernel
theorem dX8_image_4 : decode cX8_image 4 = .ok (.iload_n 1, 1) := by decide +kernel
theorem dX8_image_5 : decode cX8_image 5 = .ok (.iconst 3, 1) := by decide +kernel
theorem dX8_image_6 : decode cX8_image 6 = .ok (.if_icmp .lt 6, 3) := by decide +kernel
theorem dX8_image_9 : decode cX8_image 9 = .ok (.bipush (-2), 2) := by decide +kernel
theorem dX8_image_11 : decode cX8_image 11 = .ok (.ireturn, 1) := by decide +kernel
theorem dX8_image_12 : decode cX8_image 12 = .ok (.aload_n 0, 1) := by decide +kernel
theorem dX8_image_13 : decode cX8_image 13 = .ok (.getfield 35, 3) := by decide +kernel
theorem dX8_image_16 : decode cX8_image 16 = .ok (.iload_n 1, 1) := by decide +kernel
theorem dX8_image_17 : decode cX8_image 17 = .ok (.aaload, 1) := by decide +kernel
theorem dX8_image_18 : decode cX8_image 18 = .ok (.aload_n 0, 1) := by decide +kernel
theorem dX8_image_19 : decode cX8_image 19 = .ok (.getfield 32, 3) := by decide +kernel
theorem dX8_image_22 : decode cX8_image 22 = .ok (.invokevirtual 112, 3) := by decide +kernel
theorem dX8_image_25 : decode cX8_image 25 = .ok (.aload_n 0, 1) := by decide +kernel
theorem dX8_image_26 : decode cX8_image 26 = .ok (.getfield 39, 3) := by decide +kernel
theorem dX8_image_29 : decode cX8_image 29 = .ok (.iload_n 1, 1) := by decide +kernel
theorem dX8_image_30 : decode cX8_image 30 = .ok (.iconst 1, 1) := by decide +kernel
theorem dX8_image_31 : decode cX8_image 31 = .ok (.bastore, 1) := by decide +kernel
theorem dX8_image_32 : decode cX8_image 32 = .ok (.iconst 0, 1) := by decide +kernel
theorem dX8_image_33 : decode cX8_image 33 = .ok (.ireturn, 1) := by decide +kernel

theorem dX8_init_0 : decode cX8_init 0 = .ok (.aload_n 0, 1) := by decide +kernel
theorem dX8_init_1 : decode cX8_init 1 = .ok (.invokespecial 1, 3) := by decide +kernel
theorem dX8_init_4 : decode cX8_init 4 = .ok (.aload_n 0, 1) := by decide +kernel
theorem dX8_init_5 : decode cX8_init 5 = .ok (.new 7, 3) := by decide +kernel
theorem dX8_init_8 : decode cX8_init 8 = .ok (.dup, 1) := by decide +kernel
theorem dX8_init_9 : decode cX8_init 9 = .ok (.invokespecial 9, 3) := by decide +kernel
theorem dX8_init_12 : decode cX8_init 12 = .ok (.putfield 10, 3) := by decide +kernel
theorem dX8_init_15 : decode cX8_init 15 = .ok (.aload_n 0, 1) := by decide +kernel
theorem dX8_init_16 : decode cX8_init 16 = .ok (.new 16, 3) := by decide +kernel
theorem dX8_init_19 : decode cX8_init 19 = .ok (.dup, 1) := by decide +kernel
theorem dX8_init_20 : decode cX8_init 20 = .ok (.invokespecial 18, 3) := by decide +kernel
theorem dX8_init_23 : decode cX8_init 23 = .ok (.putfield 19, 3) := by decide +kernel
theorem dX8_init_26 : decode cX8_init 26 = .ok (.aload_n 0, 1) := by decide +kernel
theorem dX8_init_27 : decode cX8_init 27 = .ok (.new 23, 3) := by decide +kernel
theorem dX8_init_30 : decode cX8_init 30 = .ok (.dup, 1) := by decide +kernel
theorem dX8_init_31 : decode cX8_init 31 = .ok (.aload_n 0, 1) := by decide +kernel
theorem dX8_init_32 : decode cX8_init 32 = .ok (.getfield 10, 3) := by decide +kernel
theorem dX8_init_35 : decode cX8_init 35 = .ok (.aload_n 0, 1) := by decide +kernel
theorem dX8_init_36 : decode cX8_init 36 = .ok (.getfield 19, 3) := by decide +kernel
theorem dX8_init_39 : decode cX8_init 39 = .ok (.invokespecial 25, 3) := by decide +kernel
theorem dX8_init_42 : decode cX8_init 42 = .ok (.putfield 28, 3) := by decide +kernel
theorem dX8_init_45 : decode cX8_init 45 = .ok (.aload_n 0, 1) := by decide +kernel
theorem dX8_init_46 : decode cX8_init 46 = .ok (.new 16, 3) := by decide +kernel
theorem dX8_init_49 : decode cX8_init 49 = .ok (.dup, 1) := by decide +kernel
theorem dX8_init_50 : decode cX8_init 50 = .ok (.invokespecial 18, 3) := by decide +kernel
theorem dX8_init_53 : decode cX8_init 53 = .ok (.putfield 32, 3) := by decide +kernel
theorem dX8_init_56 : decode cX8_init 56 = .ok (.aload_n 0, 1) := by decide +kernel
theorem dX8_init_57 : decode cX8_init 57 = .ok (.iconst 3, 1) := by decide +kernel
theorem dX8_init_58 : decode cX8_init 58 = .ok (.anewarray 16, 3) := by decide +kernel
theorem dX8_init_61 : decode cX8_init 61 = .ok (.putfield 35, 3) := by decide +kernel
theorem dX8_init_64 : decode cX8_init 64 = .ok (.iconst 0, 1) := by decide +kernel
theorem dX8_init_65 : decode cX8_init 65 = .ok (.istore_n 1, 1) := by decide +kernel
theorem dX8_init_66 : decode cX8_init 66 = .ok (.iload_n 1, 1) := by decide +kernel
theorem dX8_init_67 : decode cX8_init 67 = .ok (.iconst 3, 1) := by decide +kernel
theorem dX8_init_68 : decode cX8_init 68 = .ok (.if_icmp .ge 22, 3) := by decide +kernel
theorem dX8_init_71 : decode cX8_init 71 = .ok (.aload_n 0, 1) := by decide +kernel
theorem dX8_init_72 : decode cX8_init 72 = .ok (.getfield 35, 3) := by decide +kernel
theorem dX8_init_75 : decode cX8_init 75 = .ok (.iload_n 1, 1) := by decide +kernel
theorem dX8_init_76 : decode cX8_init 76 = .ok (.new 16, 3) := by decide +kernel
theorem dX8_init_79 : decode cX8_init 79 = .ok (.dup, 1) := by decide +kernel
theorem dX8_init_80 : decode cX8_init 80 = .ok (.invokespecial 18, 3) := by decide +kernel
theorem dX8_init_83 : decode cX8_init 83 = .ok (.aastore, 1) := by decide +kernel
theorem dX8_init_84 : decode cX8_init 84 = .ok (.iinc 1 1, 3) := by decide +kernel
theorem dX8_init_87 : decode cX8_init 87 = .ok (.goto (-21), 3) := by decide +kernel
theorem dX8_init_90 : decode cX8_init 90 = .ok (.aload_n 0, 1) := by decide +kernel
theorem dX8_init_91 : decode cX8_init 91 = .ok (.iconst 3, 1) := by decide +kernel
theorem dX8_init_92 : decode cX8_init 92 = .ok (.newarray .boolean, 2) := by decide +kernel
theorem dX8_init_94 : decode cX8_init 94 = .ok (.putfield 39, 3) := by decide +kernel
theorem dX8_init_97 : decode cX8_init 97 = .ok (.aload_n 0, 1) := by decide +kernel
theorem dX8_init_98 : decode cX8_init 98 = .ok (.new 43, 3) := by decide +kernel
theorem dX8_init_101 : decode cX8_init 101 = .ok (.dup, 1) := by decide +kernel
theorem dX8_init_102 : decode cX8_init 102 = .ok (.invokespecial 45, 3) := by decide +kernel
theorem dX8_init_105 : decode cX8_init 105 = .ok (.putfield 46, 3) := by decide +kernel
theorem dX8_init_108 : decode cX8_init 108 = .ok (.aload_n 0, 1) := by decide +kernel
theorem dX8_init_109 : decode cX8_init 109 = .ok (.new 50, 3) := by decide +kernel
theorem dX8_init_112 : decode cX8_init 112 = .ok (.dup, 1) := by decide +kernel
theorem dX8_init_113 : decode cX8_init 113 = .ok (.aload_n 0, 1) := by decide +kernel
theorem dX8_init_114 : decode cX8_init 114 = .ok (.getfield 32, 3) := by decide +kernel
theorem dX8_init_117 : decode cX8_init 117 = .ok (.invokespecial 52, 3) := by decide +kernel
theorem dX8_init_120 : decode cX8_init 120 = .ok (.putfield 55, 3) := by decide +kernel
theorem dX8_init_123 : decode cX8_init 123 = .ok (.aload_n 0, 1) := by decide +kernel
theorem dX8_init_124 : decode cX8_init 124 = .ok (.new 50, 3) := by decide +kernel
theorem dX8_init_127 : decode cX8_init 127 = .ok (.dup, 1) := by decide +kernel
theorem dX8_init_128 : decode cX8_init 128 = .ok (.aload_n 0, 1) := by decide +kernel
theorem dX8_init_129 : decode cX8_init 129 = .ok (.getfield 32, 3) := by decide +kernel
theorem dX8_init_132 : decode cX8_init 132 = .ok (.invokespecial 52, 3) := by decide +kernel
theorem dX8_init_135 : decode cX8_init 135 = .ok (.putfield 59, 3) := by decide +kernel
theorem dX8_init_138 : decode cX8_init 138 = .ok (.aload_n 0, 1) := by decide +kernel
theorem dX8_init_139 : decode cX8_init 139 = .ok (.new 62, 3) := by decide +kernel
theorem dX8_init_142 : decode cX8_init 142 = .ok (.dup, 1) := by decide +kernel
theorem dX8_init_143 : decode cX8_init 143 = .ok (.aload_n 0, 1) := by decide +kernel
theorem dX8_init_144 : decode cX8_init 144 = .ok (.getfield 32, 3) := by decide +kernel
theorem dX8_init_147 : decode cX8_init 147 = .ok (.aload_n 0, 1) := by decide +kernel
theorem dX8_init_148 : decode cX8_init 148 = .ok (.getfield 59, 3) := by decide +kernel
theorem dX8_init_151 : decode cX8_init 151 = .ok (.invokespecial 64, 3) := by decide +kernel
theorem dX8_init_154 : decode cX8_init 154 = .ok (.putfield 67, 3) := by decide +kernel
theorem dX8_init_157 : decode cX8_init 157 = .ok (.aload_n 0, 1) := by decide +kernel
theorem dX8_init_158 : decode cX8_init 158 = .ok (.new 71, 3) := by decide +kernel
theorem dX8_init_161 : decode cX8_init 161 = .ok (.dup, 1) := by decide +kernel
theorem dX8_init_162 : decode cX8_init 162 = .ok (.aload_n 0, 1) := by decide +kernel
theorem dX8_init_163 : decode cX8_init 163 = .ok (.getfield 32, 3) := by decide +kernel
theorem dX8_init_166 : decode cX8_init 166 = .ok (.aload_n 0, 1) := by decide +kernel
theorem dX8_init_167 : decode cX8_init 167 = .ok (.getfield 59, 3) := by decide +kernel
theorem dX8_init_170 : decode cX8_init 170 = .ok (.invokespecial 73, 3) := by decide +kernel
theorem dX8_init_173 : decode cX8_init 173 = .ok (.putfield 74, 3) := by decide +kernel
theorem dX8_init_176 : decode cX8_init 176 = .ok (.aload_n 0, 1) := by decide +kernel
theorem dX8_init_177 : decode cX8_init 177 = .ok (.new 78, 3) := by decide +kernel
theorem dX8_init_180 : decode cX8_init 180 = .ok (.dup, 1) := by decide +kernel
theorem dX8_init_181 : decode cX8_init 181 = .ok (.aload_n 0, 1) := by decide +kernel
theorem dX8_init_182 : decode cX8_init 182 = .ok (.getfield 32, 3) := by decide +kernel
theorem dX8_init_185 : decode cX8_init 185 = .ok (.aload_n 0, 1) := by decide +kernel
theorem dX8_init_186 : decode cX8_init 186 = .ok (.getfield 46, 3) := by decide +kernel
theorem dX8_init_189 : decode cX8_init 189 = .ok (.invokespecial 80, 3) := by decide +kernel
theorem dX8_init_192 : decode cX8_init 192 = .ok (.putfield 83, 3) := by decide +kernel
theorem dX8_init_195 : decode cX8_init 195 = .ok (.aload_n 0, 1) := by decide +kernel
theorem dX8_init_196 : decode cX8_init 196 = .ok (.iconst 1, 1) := by decide +kernel
theorem dX8_init_197 : decode cX8_init 197 = .ok (.putfield 87, 3) := by decide +kernel
theorem dX8_init_200 : decode cX8_init 200 = .ok (.aload_n 0, 1) := by decide +kernel
theorem dX8_init_201 : decode cX8_init 201 = .ok (.iconst 1, 1) := by decide +kernel
theorem dX8_init_202 : decode cX8_init 202 = .ok (.putfield 91, 3) := by decide +kernel
theorem dX8_init_205 : decode cX8_init 205 = .ok (.aload_n 0, 1) := by decide +kernel
theorem dX8_init_206 : decode cX8_init 206 = .ok (.iconst 0, 1) := by decide +kernel
theorem dX8_init_207 : decode cX8_init 207 = .ok (.putfield 94, 3) := by decide +kernel
theorem dX8_init_210 : decode cX8_init 210 = .ok (.return_, 1) := by decide +kernel

theorem dX8_isPair_0 : decode cX8_isPair 0 = .ok (.aload_n 0, 1) := by decide +kernel
theorem dX8_isPair_1 : decode cX8_isPair 1 = .ok (.getfield 32, 3) := by decide +kernel
theorem dX8_isPair_4 : decode cX8_isPair 4 = .ok (.iload_n 1, 1) := by decide +kernel
theorem dX8_isPair_5 : decode cX8_isPair 5 = .ok (.invokevirtual 127, 3) := by decide +kernel
theorem dX8_isPair_8 : decode cX8_isPair 8 = .ok (.ifCond .eq 23, 3) := by decide +kernel
theorem dX8_isPair_11 : decode cX8_isPair 11 = .ok (.aload_n 0, 1) := by decide +kernel
theorem dX8_isPair_12 : decode cX8_isPair 12 = .ok (.getfield 32, 3) := by decide +kernel
theorem dX8_isPair_15 : decode cX8_isPair 15 = .ok (.iload_n 2, 1) := by decide +kernel
theorem dX8_isPair_16 : decode cX8_isPair 16 = .ok (.invokevirtual 127, 3) := by decide +kernel
theorem dX8_isPair_19 : decode cX8_isPair 19 = .ok (.ifCond .eq 12, 3) := by decide +kernel
theorem dX8_isPair_22 : decode cX8_isPair 22 = .ok (.iload_n 1, 1) := by decide +kernel
theorem dX8_isPair_23 : decode cX8_isPair 23 = .ok (.iload_n 2, 1) := by decide +kernel
theorem dX8_isPair_24 : decode cX8_isPair 24 = .ok (.if_icmp .eq 7, 3) := by decide +kernel
theorem dX8_isPair_27 : decode cX8_isPair 27 = .ok (.iconst 1, 1) := by decide +kernel
theorem dX8_isPair_28 : decode cX8_isPair 28 = .ok (.goto 4, 3) := by decide +kernel
theorem dX8_isPair_31 : decode cX8_isPair 31 = .ok (.iconst 0, 1) := by decide +kernel
theorem dX8_isPair_32 : decode cX8_isPair 32 = .ok (.ireturn, 1) := by decide +kernel

theorem dX8_keeps_0 : decode cX8_keeps 0 = .ok (.aload_n 0, 1) := by decide +kernel
theorem dX8_keeps_1 : decode cX8_keeps 1 = .ok (.iload_n 1, 1) := by decide +kernel
theorem dX8_keeps_2 : decode cX8_keeps 2 = .ok (.iload_n 2, 1) := by decide +kernel
theorem dX8_keeps_3 : decode cX8_keeps 3 = .ok (.invokevirtual 186, 3) := by decide +kernel
theorem dX8_keeps_6 : decode cX8_keeps 6 = .ok (.ifCond .eq 15, 3) := by decide +kernel
theorem dX8_keeps_9 : decode cX8_keeps 9 = .ok (.aload_n 0, 1) := by decide +kernel
theorem dX8_keeps_10 : decode cX8_keeps 10 = .ok (.invokevirtual 189, 3) := by decide +kernel
theorem dX8_keeps_13 : decode cX8_keeps 13 = .ok (.iload_n 1, 1) := by decide +kernel
theorem dX8_keeps_14 : decode cX8_keeps 14 = .ok (.iload_n 2, 1) := by decide +kernel
theorem dX8_keeps_15 : decode cX8_keeps 15 = .ok (.invokevirtual 220, 3) := by decide +kernel
theorem dX8_keeps_18 : decode cX8_keeps 18 = .ok (.goto 5, 3) := by decide +kernel
theorem dX8_keeps_21 : decode cX8_keeps 21 = .ok (.bipush (-2), 2) := by decide +kernel
theorem dX8_keeps_23 : decode cX8_keeps 23 = .ok (.ireturn, 1) := by decide +kernel

theorem dX8_knife_0 : decode cX8_knife 0 = .ok (.aload_n 0, 1) := by decide +kernel
theorem dX8_knife_1 : decode cX8_knife 1 = .ok (.iload_n 1, 1) := by decide +kernel
theorem dX8_knife_2 : decode cX8_knife 2 = .ok (.iload_n 2, 1) := by decide +kernel
theorem dX8_knife_3 : decode cX8_knife 3 = .ok (.invokevirtual 371, 3) := by decide +kernel
theorem dX8_knife_6 : decode cX8_knife 6 = .ok (.istore_n 3, 1) := by decide +kernel
theorem dX8_knife_7 : decode cX8_knife 7 = .ok (.iload_n 3, 1) := by decide +kernel
theorem dX8_knife_8 : decode cX8_knife 8 = .ok (.ifCond .eq 5, 3) := by decide +kernel
theorem dX8_knife_11 : decode cX8_knife 11 = .ok (.iload_n 3, 1) := by decide +kernel
theorem dX8_knife_12 : decode cX8_knife 12 = .ok (.ireturn, 1) := by decide +kernel
theorem dX8_knife_13 : decode cX8_knife 13 = .ok (.aload_n 0, 1) := by decide +kernel
theorem dX8_knife_14 : decode cX8_knife 14 = .ok (.getfield 32, 3) := by decide +kernel
theorem dX8_knife_17 : decode cX8_knife 17 = .ok (.iconst 0, 1) := by decide +kernel
theorem dX8_knife_18 : decode cX8_knife 18 = .ok (.iload_n 1, 1) := by decide +kernel
theorem dX8_knife_19 : decode cX8_knife 19 = .ok (.iload_n 2, 1) := by decide +kernel
theorem dX8_knife_20 : decode cX8_knife 20 = .ok (.invokevirtual 374, 3) := by decide +kernel
theorem dX8_knife_23 : decode cX8_knife 23 = .ok (.aload_n 0, 1) := by decide +kernel
theorem dX8_knife_24 : decode cX8_knife 24 = .ok (.invokevirtual 115, 3) := by decide +kernel
theorem dX8_knife_27 : decode cX8_knife 27 = .ok (.aload_n 0, 1) := by decide +kernel
theorem dX8_knife_28 : decode cX8_knife 28 = .ok (.invokevirtual 189, 3) := by decide +kernel
theorem dX8_knife_31 : decode cX8_knife 31 = .ok (.invokevirtual 217, 3) := by decide +kernel
theorem dX8_knife_34 : decode cX8_knife 34 = .ok (.ireturn, 1) := by decide +kernel

theorem dX8_knives_0 : decode cX8_knives 0 = .ok (.aload_n 0, 1) := by decide +kernel
theorem dX8_knives_1 : decode cX8_knives 1 = .ok (.getfield 32, 3) := by decide +kernel
theorem dX8_knives_4 : decode cX8_knives 4 = .ok (.iload_n 1, 1) := by decide +kernel
theorem dX8_knives_5 : decode cX8_knives 5 = .ok (.invokevirtual 127, 3) := by decide +kernel
theorem dX8_knives_8 : decode cX8_knives 8 = .ok (.ifCond .ne 6, 3) := by decide +kernel
theorem dX8_knives_11 : decode cX8_knives 11 = .ok (.bipush (-2), 2) := by decide +kernel
theorem dX8_knives_13 : decode cX8_knives 13 = .ok (.ireturn, 1) := by decide +kernel
theorem dX8_knives_14 : decode cX8_knives 14 = .ok (.iconst 0, 1) := by decide +kernel
theorem dX8_knives_15 : decode cX8_knives 15 = .ok (.istore_n 2, 1) := by decide +kernel
theorem dX8_knives_16 : decode cX8_knives 16 = .ok (.iconst 0, 1) := by decide +kernel
theorem dX8_knives_17 : decode cX8_knives 17 = .ok (.istore_n 3, 1) := by decide +kernel
theorem dX8_knives_18 : decode cX8_knives 18 = .ok (.iload_n 3, 1) := by decide +kernel
theorem dX8_knives_19 : decode cX8_knives 19 = .ok (.aload_n 0, 1) := by decide +kernel
theorem dX8_knives_20 : decode cX8_knives 20 = .ok (.getfield 32, 3) := by decide +kernel
theorem dX8_knives_23 : decode cX8_knives 23 = .ok (.getfield 162, 3) := by decide +kernel
theorem dX8_knives_26 : decode cX8_knives 26 = .ok (.if_icmp .ge 28, 3) := by decide +kernel
theorem dX8_knives_29 : decode cX8_knives 29 = .ok (.aload_n 0, 1) := by decide +kernel
theorem dX8_knives_30 : decode cX8_knives 30 = .ok (.getfield 32, 3) := by decide +kernel
theorem dX8_knives_33 : decode cX8_knives 33 = .ok (.getfield 165, 3) := by decide +kernel
theorem dX8_knives_36 : decode cX8_knives 36 = .ok (.iload_n 3, 1) := by decide +kernel
theorem dX8_knives_37 : decode cX8_knives 37 = .ok (.iaload, 1) := by decide +kernel
theorem dX8_knives_38 : decode cX8_knives 38 = .ok (.iload_n 1, 1) := by decide +kernel
theorem dX8_knives_39 : decode cX8_knives 39 = .ok (.if_icmp .ne 9, 3) := by decide +kernel
theorem dX8_knives_42 : decode cX8_knives 42 = .ok (.iload_n 2, 1) := by decide +kernel
theorem dX8_knives_43 : decode cX8_knives 43 = .ok (.iconst 1, 1) := by decide +kernel
theorem dX8_knives_44 : decode cX8_knives 44 = .ok (.iload_n 3, 1) := by decide +kernel
theorem dX8_knives_45 : decode cX8_knives 45 = .ok (.ishl, 1) := by decide +kernel
theorem dX8_knives_46 : decode cX8_knives 46 = .ok (.ior, 1) := by decide +kernel
theorem dX8_knives_47 : decode cX8_knives 47 = .ok (.istore_n 2, 1) := by decide +kernel
theorem dX8_knives_48 : decode cX8_knives 48 = .ok (.iinc 3 1, 3) := by decide +kernel
theorem dX8_knives_51 : decode cX8_knives 51 = .ok (.goto (-33), 3) := by decide +kernel
theorem dX8_knives_54 : decode cX8_knives 54 = .ok (.iload_n 2, 1) := by decide +kernel
theorem dX8_knives_55 : decode cX8_knives 55 = .ok (.ireturn, 1) := by decide +kernel

theorem dX8_law_0 : decode cX8_law 0 = .ok (.aload_n 0, 1) := by decide +kernel
theorem dX8_law_1 : decode cX8_law 1 = .ok (.getfield 32, 3) := by decide +kernel
theorem dX8_law_4 : decode cX8_law 4 = .ok (.invokevirtual 153, 3) := by decide +kernel
theorem dX8_law_7 : decode cX8_law 7 = .ok (.ifCond .ne 6, 3) := by decide +kernel
theorem dX8_law_10 : decode cX8_law 10 = .ok (.bipush (-2), 2) := by decide +kernel
theorem dX8_law_12 : decode cX8_law 12 = .ok (.ireturn, 1) := by decide +kernel
theorem dX8_law_13 : decode cX8_law 13 = .ok (.iconst 0, 1) := by decide +kernel
theorem dX8_law_14 : decode cX8_law 14 = .ok (.istore_n 1, 1) := by decide +kernel
theorem dX8_law_15 : decode cX8_law 15 = .ok (.iconst (-1), 1) := by decide +kernel
theorem dX8_law_16 : decode cX8_law 16 = .ok (.istore_n 2, 1) := by decide +kernel
theorem dX8_law_17 : decode cX8_law 17 = .ok (.iconst 0, 1) := by decide +kernel
theorem dX8_law_18 : decode cX8_law 18 = .ok (.istore_n 3, 1) := by decide +kernel
theorem dX8_law_19 : decode cX8_law 19 = .ok (.iload_n 3, 1) := by decide +kernel
theorem dX8_law_20 : decode cX8_law 20 = .ok (.iconst 4, 1) := by decide +kernel
theorem dX8_law_21 : decode cX8_law 21 = .ok (.if_icmp .ge 27, 3) := by decide +kernel
theorem dX8_law_24 : decode cX8_law 24 = .ok (.aload_n 0, 1) := by decide +kernel
theorem dX8_law_25 : decode cX8_law 25 = .ok (.iload_n 3, 1) := by decide +kernel
theorem dX8_law_26 : decode cX8_law 26 = .ok (.invokevirtual 326, 3) := by decide +kernel
theorem dX8_law_29 : decode cX8_law 29 = .ok (.istore 4, 2) := by decide +kernel
theorem dX8_law_31 : decode cX8_law 31 = .ok (.iload 4, 2) := by decide +kernel
theorem dX8_law_33 : decode cX8_law 33 = .ok (.iload_n 2, 1) := by decide +kernel
theorem dX8_law_34 : decode cX8_law 34 = .ok (.if_icmp .le 8, 3) := by decide +kernel
theorem dX8_law_37 : decode cX8_law 37 = .ok (.iload 4, 2) := by decide +kernel
theorem dX8_law_39 : decode cX8_law 39 = .ok (.istore_n 2, 1) := by decide +kernel
theorem dX8_law_40 : decode cX8_law 40 = .ok (.iload_n 3, 1) := by decide +kernel
theorem dX8_law_41 : decode cX8_law 41 = .ok (.istore_n 1, 1) := by decide +kernel
theorem dX8_law_42 : decode cX8_law 42 = .ok (.iinc 3 1, 3) := by decide +kernel
theorem dX8_law_45 : decode cX8_law 45 = .ok (.goto (-26), 3) := by decide +kernel
theorem dX8_law_48 : decode cX8_law 48 = .ok (.iload_n 1, 1) := by decide +kernel
theorem dX8_law_49 : decode cX8_law 49 = .ok (.ireturn, 1) := by decide +kernel

theorem dX8_laws_0 : decode cX8_laws 0 = .ok (.aload_n 0, 1) := by decide +kernel
theorem dX8_laws_1 : decode cX8_laws 1 = .ok (.getfield 32, 3) := by decide +kernel
theorem dX8_laws_4 : decode cX8_laws 4 = .ok (.invokevirtual 153, 3) := by decide +kernel
theorem dX8_laws_7 : decode cX8_laws 7 = .ok (.ifCond .eq 11, 3) := by decide +kernel
theorem dX8_laws_10 : decode cX8_laws 10 = .ok (.aload_n 0, 1) := by decide +kernel
theorem dX8_laws_11 : decode cX8_laws 11 = .ok (.iload_n 1, 1) := by decide +kernel
theorem dX8_laws_12 : decode cX8_laws 12 = .ok (.invokevirtual 312, 3) := by decide +kernel
theorem dX8_laws_15 : decode cX8_laws 15 = .ok (.goto 5, 3) := by decide +kernel
theorem dX8_laws_18 : decode cX8_laws 18 = .ok (.bipush (-2), 2) := by decide +kernel
theorem dX8_laws_20 : decode cX8_laws 20 = .ok (.istore_n 2, 1) := by decide +kernel
theorem dX8_laws_21 : decode cX8_laws 21 = .ok (.iload_n 2, 1) := by decide +kernel
theorem dX8_laws_22 : decode cX8_laws 22 = .ok (.ifCond .eq 5, 3) := by decide +kernel
theorem dX8_laws_25 : decode cX8_laws 25 = .ok (.iload_n 2, 1) := by decide +kernel
theorem dX8_laws_26 : decode cX8_laws 26 = .ok (.ireturn, 1) := by decide +kernel
theorem dX8_laws_27 : decode cX8_laws 27 = .ok (.aload_n 0, 1) := by decide +kernel
theorem dX8_laws_28 : decode cX8_laws 28 = .ok (.aload_n 0, 1) := by decide +kernel
theorem dX8_laws_29 : decode cX8_laws 29 = .ok (.getfield 32, 3) := by decide +kernel
theorem dX8_laws_32 : decode cX8_laws 32 = .ok (.invokevirtual 315, 3) := by decide +kernel
theorem dX8_laws_35 : decode cX8_laws 35 = .ok (.invokevirtual 318, 3) := by decide +kernel
theorem dX8_laws_38 : decode cX8_laws 38 = .ok (.iconst 0, 1) := by decide +kernel
theorem dX8_laws_39 : decode cX8_laws 39 = .ok (.istore_n 3, 1) := by decide +kernel
theorem dX8_laws_40 : decode cX8_laws 40 = .ok (.iconst 0, 1) := by decide +kernel
theorem dX8_laws_41 : decode cX8_laws 41 = .ok (.istore 4, 2) := by decide +kernel
theorem dX8_laws_43 : decode cX8_laws 43 = .ok (.iload 4, 2) := by decide +kernel
theorem dX8_laws_45 : decode cX8_laws 45 = .ok (.iconst 4, 1) := by decide +kernel
theorem dX8_laws_46 : decode cX8_laws 46 = .ok (.if_icmp .ge 41, 3) := by decide +kernel
theorem dX8_laws_49 : decode cX8_laws 49 = .ok (.aload_n 0, 1) := by decide +kernel
theorem dX8_laws_50 : decode cX8_laws 50 = .ok (.getfield 59, 3) := by decide +kernel
theorem dX8_laws_53 : decode cX8_laws 53 = .ok (.iload 4, 2) := by decide +kernel
theorem dX8_laws_55 : decode cX8_laws 55 = .ok (.putfield 321, 3) := by decide +kernel
theorem dX8_laws_58 : decode cX8_laws 58 = .ok (.aload_n 0, 1) := by decide +kernel
theorem dX8_laws_59 : decode cX8_laws 59 = .ok (.getfield 83, 3) := by decide +kernel
theorem dX8_laws_62 : decode cX8_laws 62 = .ok (.iload_n 1, 1) := by decide +kernel
theorem dX8_laws_63 : decode cX8_laws 63 = .ok (.iconst (-1), 1) := by decide +kernel
theorem dX8_laws_64 : decode cX8_laws 64 = .ok (.aload_n 0, 1) := by decide +kernel
theorem dX8_laws_65 : decode cX8_laws 65 = .ok (.getfield 59, 3) := by decide +kernel
theorem dX8_laws_68 : decode cX8_laws 68 = .ok (.invokevirtual 322, 3) := by decide +kernel
theorem dX8_laws_71 : decode cX8_laws 71 = .ok (.ifCond .eq 10, 3) := by decide +kernel
theorem dX8_laws_74 : decode cX8_laws 74 = .ok (.iload_n 3, 1) := by decide +kernel
theorem dX8_laws_75 : decode cX8_laws 75 = .ok (.iconst 1, 1) := by decide +kernel
theorem dX8_laws_76 : decode cX8_laws 76 = .ok (.iload 4, 2) := by decide +kernel
theorem dX8_laws_78 : decode cX8_laws 78 = .ok (.ishl, 1) := by decide +kernel
theorem dX8_laws_79 : decode cX8_laws 79 = .ok (.ior, 1) := by decide +kernel
theorem dX8_laws_80 : decode cX8_laws 80 = .ok (.istore_n 3, 1) := by decide +kernel
theorem dX8_laws_81 : decode cX8_laws 81 = .ok (.iinc 4 1, 3) := by decide +kernel
theorem dX8_laws_84 : decode cX8_laws 84 = .ok (.goto (-41), 3) := by decide +kernel
theorem dX8_laws_87 : decode cX8_laws 87 = .ok (.iload_n 3, 1) := by decide +kernel
theorem dX8_laws_88 : decode cX8_laws 88 = .ok (.ireturn, 1) := by decide +kernel

theorem dX8_leaves_0 : decode cX8_leaves 0 = .ok (.aload_n 0, 1) := by decide +kernel
theorem dX8_leaves_1 : decode cX8_leaves 1 = .ok (.iload_n 1, 1) := by decide +kernel
theorem dX8_leaves_2 : decode cX8_leaves 2 = .ok (.iload_n 2, 1) := by decide +kernel
theorem dX8_leaves_3 : decode cX8_leaves 3 = .ok (.invokevirtual 289, 3) := by decide +kernel
theorem dX8_leaves_6 : decode cX8_leaves 6 = .ok (.istore_n 3, 1) := by decide +kernel
theorem dX8_leaves_7 : decode cX8_leaves 7 = .ok (.iload_n 3, 1) := by decide +kernel
theorem dX8_leaves_8 : decode cX8_leaves 8 = .ok (.ifCond .eq 5, 3) := by decide +kernel
theorem dX8_leaves_11 : decode cX8_leaves 11 = .ok (.iload_n 3, 1) := by decide +kernel
theorem dX8_leaves_12 : decode cX8_leaves 12 = .ok (.ireturn, 1) := by decide +kernel
theorem dX8_leaves_13 : decode cX8_leaves 13 = .ok (.aload_n 0, 1) := by decide +kernel
theorem dX8_leaves_14 : decode cX8_leaves 14 = .ok (.getfield 83, 3) := by decide +kernel
theorem dX8_leaves_17 : decode cX8_leaves 17 = .ok (.iload_n 1, 1) := by decide +kernel
theorem dX8_leaves_18 : decode cX8_leaves 18 = .ok (.iload_n 2, 1) := by decide +kernel
theorem dX8_leaves_19 : decode cX8_leaves 19 = .ok (.aload_n 0, 1) := by decide +kernel
theorem dX8_leaves_20 : decode cX8_leaves 20 = .ok (.invokevirtual 189, 3) := by decide +kernel
theorem dX8_leaves_23 : decode cX8_leaves 23 = .ok (.invokevirtual 302, 3) := by decide +kernel
theorem dX8_leaves_26 : decode cX8_leaves 26 = .ok (.aload_n 0, 1) := by decide +kernel
theorem dX8_leaves_27 : decode cX8_leaves 27 = .ok (.getfield 83, 3) := by decide +kernel
theorem dX8_leaves_30 : decode cX8_leaves 30 = .ok (.getfield 309, 3) := by decide +kernel
theorem dX8_leaves_33 : decode cX8_leaves 33 = .ok (.ireturn, 1) := by decide +kernel

theorem dX8_lone_0 : decode cX8_lone 0 = .ok (.aload_n 0, 1) := by decide +kernel
theorem dX8_lone_1 : decode cX8_lone 1 = .ok (.getfield 32, 3) := by decide +kernel
theorem dX8_lone_4 : decode cX8_lone 4 = .ok (.iload_n 1, 1) := by decide +kernel
theorem dX8_lone_5 : decode cX8_lone 5 = .ok (.invokevirtual 196, 3) := by decide +kernel
theorem dX8_lone_8 : decode cX8_lone 8 = .ok (.ifCond .ne 6, 3) := by decide +kernel
theorem dX8_lone_11 : decode cX8_lone 11 = .ok (.bipush (-2), 2) := by decide +kernel
theorem dX8_lone_13 : decode cX8_lone 13 = .ok (.ireturn, 1) := by decide +kernel
theorem dX8_lone_14 : decode cX8_lone 14 = .ok (.aload_n 0, 1) := by decide +kernel
theorem dX8_lone_15 : decode cX8_lone 15 = .ok (.invokevirtual 189, 3) := by decide +kernel
theorem dX8_lone_18 : decode cX8_lone 18 = .ok (.iload_n 1, 1) := by decide +kernel
theorem dX8_lone_19 : decode cX8_lone 19 = .ok (.invokevirtual 199, 3) := by decide +kernel
theorem dX8_lone_22 : decode cX8_lone 22 = .ok (.istore_n 2, 1) := by decide +kernel
theorem dX8_lone_23 : decode cX8_lone 23 = .ok (.iconst 0, 1) := by decide +kernel
theorem dX8_lone_24 : decode cX8_lone 24 = .ok (.istore_n 3, 1) := by decide +kernel
theorem dX8_lone_25 : decode cX8_lone 25 = .ok (.iconst 0, 1) := by decide +kernel
theorem dX8_lone_26 : decode cX8_lone 26 = .ok (.istore 4, 2) := by decide +kernel
theorem dX8_lone_28 : decode cX8_lone 28 = .ok (.iload 4, 2) := by decide +kernel
theorem dX8_lone_30 : decode cX8_lone 30 = .ok (.aload_n 0, 1) := by decide +kernel
theorem dX8_lone_31 : decode cX8_lone 31 = .ok (.getfield 32, 3) := by decide +kernel
theorem dX8_lone_34 : decode cX8_lone 34 = .ok (.getfield 156, 3) := by decide +kernel
theorem dX8_lone_37 : decode cX8_lone 37 = .ok (.if_icmp .ge 51, 3) := by decide +kernel
theorem dX8_lone_40 : decode cX8_lone 40 = .ok (.aload_n 0, 1) := by decide +kernel
theorem dX8_lone_41 : decode cX8_lone 41 = .ok (.getfield 32, 3) := by decide +kernel
theorem dX8_lone_44 : decode cX8_lone 44 = .ok (.iload 4, 2) := by decide +kernel
theorem dX8_lone_46 : decode cX8_lone 46 = .ok (.iconst (-1), 1) := by decide +kernel
theorem dX8_lone_47 : decode cX8_lone 47 = .ok (.invokevirtual 141, 3) := by decide +kernel
theorem dX8_lone_50 : decode cX8_lone 50 = .ok (.istore 5, 2) := by decide +kernel
theorem dX8_lone_52 : decode cX8_lone 52 = .ok (.iload_n 2, 1) := by decide +kernel
theorem dX8_lone_53 : decode cX8_lone 53 = .ok (.iload 4, 2) := by decide +kernel
theorem dX8_lone_55 : decode cX8_lone 55 = .ok (.invokestatic 145, 3) := by decide +kernel
theorem dX8_lone_58 : decode cX8_lone 58 = .ok (.ifCond .ne 24, 3) := by decide +kernel
theorem dX8_lone_61 : decode cX8_lone 61 = .ok (.iload 5, 2) := by decide +kernel
theorem dX8_lone_63 : decode cX8_lone 63 = .ok (.ifCond .eq 19, 3) := by decide +kernel
theorem dX8_lone_66 : decode cX8_lone 66 = .ok (.iload 5, 2) := by decide +kernel
theorem dX8_lone_68 : decode cX8_lone 68 = .ok (.iload_n 2, 1) := by decide +kernel
theorem dX8_lone_69 : decode cX8_lone 69 = .ok (.iconst (-1), 1) := by decide +kernel
theorem dX8_lone_70 : decode cX8_lone 70 = .ok (.ixor, 1) := by decide +kernel
theorem dX8_lone_71 : decode cX8_lone 71 = .ok (.iand, 1) := by decide +kernel
theorem dX8_lone_72 : decode cX8_lone 72 = .ok (.ifCond .ne 10, 3) := by decide +kernel
theorem dX8_lone_75 : decode cX8_lone 75 = .ok (.iload_n 3, 1) := by decide +kernel
theorem dX8_lone_76 : decode cX8_lone 76 = .ok (.iconst 1, 1) := by decide +kernel
theorem dX8_lone_77 : decode cX8_lone 77 = .ok (.iload 4, 2) := by decide +kernel
theorem dX8_lone_79 : decode cX8_lone 79 = .ok (.ishl, 1) := by decide +kernel
theorem dX8_lone_80 : decode cX8_lone 80 = .ok (.ior, 1) := by decide +kernel
theorem dX8_lone_81 : decode cX8_lone 81 = .ok (.istore_n 3, 1) := by decide +kernel
theorem dX8_lone_82 : decode cX8_lone 82 = .ok (.iinc 4 1, 3) := by decide +kernel
theorem dX8_lone_85 : decode cX8_lone 85 = .ok (.goto (-57), 3) := by decide +kernel
theorem dX8_lone_88 : decode cX8_lone 88 = .ok (.iload_n 3, 1) := by decide +kernel
theorem dX8_lone_89 : decode cX8_lone 89 = .ok (.ireturn, 1) := by decide +kernel

theorem dX8_lost_0 : decode cX8_lost 0 = .ok (.aload_n 0, 1) := by decide +kernel
theorem dX8_lost_1 : decode cX8_lost 1 = .ok (.getfield 32, 3) := by decide +kernel
theorem dX8_lost_4 : decode cX8_lost 4 = .ok (.invokevirtual 153, 3) := by decide +kernel
theorem dX8_lost_7 : decode cX8_lost 7 = .ok (.ifCond .ne 6, 3) := by decide +kernel
theorem dX8_lost_10 : decode cX8_lost 10 = .ok (.bipush (-2), 2) := by decide +kernel
theorem dX8_lost_12 : decode cX8_lost 12 = .ok (.ireturn, 1) := by decide +kernel
theorem dX8_lost_13 : decode cX8_lost 13 = .ok (.iconst 0, 1) := by decide +kernel
theorem dX8_lost_14 : decode cX8_lost 14 = .ok (.istore_n 1, 1) := by decide +kernel
theorem dX8_lost_15 : decode cX8_lost 15 = .ok (.iconst 0, 1) := by decide +kernel
theorem dX8_lost_16 : decode cX8_lost 16 = .ok (.istore_n 2, 1) := by decide +kernel
theorem dX8_lost_17 : decode cX8_lost 17 = .ok (.iload_n 2, 1) := by decide +kernel
theorem dX8_lost_18 : decode cX8_lost 18 = .ok (.aload_n 0, 1) := by decide +kernel
theorem dX8_lost_19 : decode cX8_lost 19 = .ok (.getfield 32, 3) := by decide +kernel
theorem dX8_lost_22 : decode cX8_lost 22 = .ok (.getfield 156, 3) := by decide +kernel
theorem dX8_lost_25 : decode cX8_lost 25 = .ok (.if_icmp .ge 41, 3) := by decide +kernel
theorem dX8_lost_28 : decode cX8_lost 28 = .ok (.aload_n 0, 1) := by decide +kernel
theorem dX8_lost_29 : decode cX8_lost 29 = .ok (.invokevirtual 189, 3) := by decide +kernel
theorem dX8_lost_32 : decode cX8_lost 32 = .ok (.iload_n 2, 1) := by decide +kernel
theorem dX8_lost_33 : decode cX8_lost 33 = .ok (.invokevirtual 208, 3) := by decide +kernel
theorem dX8_lost_36 : decode cX8_lost 36 = .ok (.istore_n 3, 1) := by decide +kernel
theorem dX8_lost_37 : decode cX8_lost 37 = .ok (.iload_n 1, 1) := by decide +kernel
theorem dX8_lost_38 : decode cX8_lost 38 = .ok (.iload_n 3, 1) := by decide +kernel
theorem dX8_lost_39 : decode cX8_lost 39 = .ok (.iconst (-1), 1) := by decide +kernel
theorem dX8_lost_40 : decode cX8_lost 40 = .ok (.if_icmp .ne 7, 3) := by decide +kernel
theorem dX8_lost_43 : decode cX8_lost 43 = .ok (.iconst 0, 1) := by decide +kernel
theorem dX8_lost_44 : decode cX8_lost 44 = .ok (.goto 14, 3) := by decide +kernel
theorem dX8_lost_47 : decode cX8_lost 47 = .ok (.aload_n 0, 1) := by decide +kernel
theorem dX8_lost_48 : decode cX8_lost 48 = .ok (.getfield 32, 3) := by decide +kernel
theorem dX8_lost_51 : decode cX8_lost 51 = .ok (.getfield 131, 3) := by decide +kernel
theorem dX8_lost_54 : decode cX8_lost 54 = .ok (.iload_n 2, 1) := by decide +kernel
theorem dX8_lost_55 : decode cX8_lost 55 = .ok (.iaload, 1) := by decide +kernel
theorem dX8_lost_56 : decode cX8_lost 56 = .ok (.iload_n 3, 1) := by decide +kernel
theorem dX8_lost_57 : decode cX8_lost 57 = .ok (.isub, 1) := by decide +kernel
theorem dX8_lost_58 : decode cX8_lost 58 = .ok (.iadd, 1) := by decide +kernel
theorem dX8_lost_59 : decode cX8_lost 59 = .ok (.istore_n 1, 1) := by decide +kernel
theorem dX8_lost_60 : decode cX8_lost 60 = .ok (.iinc 2 1, 3) := by decide +kernel
theorem dX8_lost_63 : decode cX8_lost 63 = .ok (.goto (-46), 3) := by decide +kernel
theorem dX8_lost_66 : decode cX8_lost 66 = .ok (.iload_n 1, 1) := by decide +kernel
theorem dX8_lost_67 : decode cX8_lost 67 = .ok (.ireturn, 1) := by decide +kernel

theorem dX8_low_0 : decode cX8_low 0 = .ok (.aload_n 0, 1) := by decide +kernel
theorem dX8_low_1 : decode cX8_low 1 = .ok (.iload_n 1, 1) := by decide +kernel
theorem dX8_low_2 : decode cX8_low 2 = .ok (.iload_n 2, 1) := by decide +kernel
theorem dX8_low_3 : decode cX8_low 3 = .ok (.invokevirtual 289, 3) := by decide +kernel
theorem dX8_low_6 : decode cX8_low 6 = .ok (.istore_n 3, 1) := by decide +kernel
theorem dX8_low_7 : decode cX8_low 7 = .ok (.iload_n 3, 1) := by decide +kernel
theorem dX8_low_8 : decode cX8_low 8 = .ok (.ifCond .eq 5, 3) := by decide +kernel
theorem dX8_low_11 : decode cX8_low 11 = .ok (.iload_n 3, 1) := by decide +kernel
theorem dX8_low_12 : decode cX8_low 12 = .ok (.ireturn, 1) := by decide +kernel
theorem dX8_low_13 : decode cX8_low 13 = .ok (.aload_n 0, 1) := by decide +kernel
theorem dX8_low_14 : decode cX8_low 14 = .ok (.getfield 83, 3) := by decide +kernel
theorem dX8_low_17 : decode cX8_low 17 = .ok (.iload_n 1, 1) := by decide +kernel
theorem dX8_low_18 : decode cX8_low 18 = .ok (.iload_n 2, 1) := by decide +kernel
theorem dX8_low_19 : decode cX8_low 19 = .ok (.aload_n 0, 1) := by decide +kernel
theorem dX8_low_20 : decode cX8_low 20 = .ok (.invokevirtual 189, 3) := by decide +kernel
theorem dX8_low_23 : decode cX8_low 23 = .ok (.invokevirtual 292, 3) := by decide +kernel
theorem dX8_low_26 : decode cX8_low 26 = .ok (.pop, 1) := by decide +kernel
theorem dX8_low_27 : decode cX8_low 27 = .ok (.aload_n 0, 1) := by decide +kernel
theorem dX8_low_28 : decode cX8_low 28 = .ok (.getfield 83, 3) := by decide +kernel
theorem dX8_low_31 : decode cX8_low 31 = .ok (.invokevirtual 296, 3) := by decide +kernel
theorem dX8_low_34 : decode cX8_low 34 = .ok (.ireturn, 1) := by decide +kernel

theorem dX8_luck_0 : decode cX8_luck 0 = .ok (.aload_n 0, 1) := by decide +kernel
theorem dX8_luck_1 : decode cX8_luck 1 = .ok (.getfield 32, 3) := by decide +kernel
theorem dX8_luck_4 : decode cX8_luck 4 = .ok (.iload_n 3, 1) := by decide +kernel
theorem dX8_luck_5 : decode cX8_luck 5 = .ok (.invokevirtual 127, 3) := by decide +kernel
theorem dX8_luck_8 : decode cX8_luck 8 = .ok (.ifCond .eq 21, 3) := by decide +kernel
theorem dX8_luck_11 : decode cX8_luck 11 = .ok (.iload_n 1, 1) := by decide +kernel
theorem dX8_luck_12 : decode cX8_luck 12 = .ok (.invokestatic 364, 3) := by decide +kernel
theorem dX8_luck_15 : decode cX8_luck 15 = .ok (.ifCond .eq 14, 3) := by decide +kernel
theorem dX8_luck_18 : decode cX8_luck 18 = .ok (.iload_n 2, 1) := by decide +kernel
theorem dX8_luck_19 : decode cX8_luck 19 = .ok (.iconst 1, 1) := by decide +kernel
theorem dX8_luck_20 : decode cX8_luck 20 = .ok (.if_icmp .lt 9, 3) := by decide +kernel
theorem dX8_luck_23 : decode cX8_luck 23 = .ok (.iload_n 2, 1) := by decide +kernel
theorem dX8_luck_24 : decode cX8_luck 24 = .ok (.bipush 20, 2) := by decide +kernel
theorem dX8_luck_26 : decode cX8_luck 26 = .ok (.if_icmp .le 6, 3) := by decide +kernel
theorem dX8_luck_29 : decode cX8_luck 29 = .ok (.bipush (-2), 2) := by decide +kernel
theorem dX8_luck_31 : decode cX8_luck 31 = .ok (.ireturn, 1) := by decide +kernel
theorem dX8_luck_32 : decode cX8_luck 32 = .ok (.iconst 0, 1) := by decide +kernel
theorem dX8_luck_33 : decode cX8_luck 33 = .ok (.istore 4, 2) := by decide +kernel
theorem dX8_luck_35 : decode cX8_luck 35 = .ok (.iconst 0, 1) := by decide +kernel
theorem dX8_luck_36 : decode cX8_luck 36 = .ok (.istore 5, 2) := by decide +kernel
theorem dX8_luck_38 : decode cX8_luck 38 = .ok (.iload 5, 2) := by decide +kernel
theorem dX8_luck_40 : decode cX8_luck 40 = .ok (.iload_n 2, 1) := by decide +kernel
theorem dX8_luck_41 : decode cX8_luck 41 = .ok (.if_icmp .ge 54, 3) := by decide +kernel
theorem dX8_luck_44 : decode cX8_luck 44 = .ok (.aload_n 0, 1) := by decide +kernel
theorem dX8_luck_45 : decode cX8_luck 45 = .ok (.aload_n 0, 1) := by decide +kernel
theorem dX8_luck_46 : decode cX8_luck 46 = .ok (.iload_n 1, 1) := by decide +kernel
theorem dX8_luck_47 : decode cX8_luck 47 = .ok (.i2l, 1) := by decide +kernel
theorem dX8_luck_48 : decode cX8_luck 48 = .ok (.iload 5, 2) := by decide +kernel
theorem dX8_luck_50 : decode cX8_luck 50 = .ok (.i2l, 1) := by decide +kernel
theorem dX8_luck_51 : decode cX8_luck 51 = .ok (.ladd, 1) := by decide +kernel
theorem dX8_luck_52 : decode cX8_luck 52 = .ok (.invokevirtual 367, 3) := by decide +kernel
theorem dX8_luck_55 : decode cX8_luck 55 = .ok (.invokevirtual 318, 3) := by decide +kernel
theorem dX8_luck_58 : decode cX8_luck 58 = .ok (.iload 4, 2) := by decide +kernel
theorem dX8_luck_60 : decode cX8_luck 60 = .ok (.aload_n 0, 1) := by decide +kernel
theorem dX8_luck_61 : decode cX8_luck 61 = .ok (.getfield 59, 3) := by decide +kernel
theorem dX8_luck_64 : decode cX8_luck 64 = .ok (.aload_n 0, 1) := by decide +kernel
theorem dX8_luck_65 : decode cX8_luck 65 = .ok (.getfield 32, 3) := by decide +kernel
theorem dX8_luck_68 : decode cX8_luck 68 = .ok (.getfield 168, 3) := by decide +kernel
theorem dX8_luck_71 : decode cX8_luck 71 = .ok (.invokevirtual 199, 3) := by decide +kernel
theorem dX8_luck_74 : decode cX8_luck 74 = .ok (.iload_n 3, 1) := by decide +kernel
theorem dX8_luck_75 : decode cX8_luck 75 = .ok (.invokestatic 145, 3) := by decide +kernel
theorem dX8_luck_78 : decode cX8_luck 78 = .ok (.ifCond .eq 7, 3) := by decide +kernel
theorem dX8_luck_81 : decode cX8_luck 81 = .ok (.iconst 1, 1) := by decide +kernel
theorem dX8_luck_82 : decode cX8_luck 82 = .ok (.goto 4, 3) := by decide +kernel
theorem dX8_luck_85 : decode cX8_luck 85 = .ok (.iconst 0, 1) := by decide +kernel
theorem dX8_luck_86 : decode cX8_luck 86 = .ok (.iadd, 1) := by decide +kernel
theorem dX8_luck_87 : decode cX8_luck 87 = .ok (.istore 4, 2) := by decide +kernel
theorem dX8_luck_89 : decode cX8_luck 89 = .ok (.iinc 5 1, 3) := by decide +kernel
theorem dX8_luck_92 : decode cX8_luck 92 = .ok (.goto (-54), 3) := by decide +kernel
theorem dX8_luck_95 : decode cX8_luck 95 = .ok (.iload 4, 2) := by decide +kernel
theorem dX8_luck_97 : decode cX8_luck 97 = .ok (.ireturn, 1) := by decide +kernel

theorem dX8_mean_0 : decode cX8_mean 0 = .ok (.aload_n 0, 1) := by decide +kernel
theorem dX8_mean_1 : decode cX8_mean 1 = .ok (.getfield 32, 3) := by decide +kernel
theorem dX8_mean_4 : decode cX8_mean 4 = .ok (.invokevirtual 153, 3) := by decide +kernel
theorem dX8_mean_7 : decode cX8_mean 7 = .ok (.ifCond .eq 10, 3) := by decide +kernel
theorem dX8_mean_10 : decode cX8_mean 10 = .ok (.iload_n 1, 1) := by decide +kernel
theorem dX8_mean_11 : decode cX8_mean 11 = .ok (.invokestatic 263, 3) := by decide +kernel
theorem dX8_mean_14 : decode cX8_mean 14 = .ok (.ifCond .ne 7, 3) := by decide +kernel
theorem dX8_mean_17 : decode cX8_mean 17 = .ok (.ldc2_w 359, 3) := by decide +kernel
theorem dX8_mean_20 : decode cX8_mean 20 = .ok (.lreturn, 1) := by decide +kernel
theorem dX8_mean_21 : decode cX8_mean 21 = .ok (.aload_n 0, 1) := by decide +kernel
theorem dX8_mean_22 : decode cX8_mean 22 = .ok (.invokevirtual 348, 3) := by decide +kernel
theorem dX8_mean_25 : decode cX8_mean 25 = .ok (.aload_n 0, 1) := by decide +kernel
theorem dX8_mean_26 : decode cX8_mean 26 = .ok (.getfield 74, 3) := by decide +kernel
theorem dX8_mean_29 : decode cX8_mean 29 = .ok (.getfield 361, 3) := by decide +kernel
theorem dX8_mean_32 : decode cX8_mean 32 = .ok (.aload_n 0, 1) := by decide +kernel
theorem dX8_mean_33 : decode cX8_mean 33 = .ok (.getfield 74, 3) := by decide +kernel
theorem dX8_mean_36 : decode cX8_mean 36 = .ok (.getfield 355, 3) := by decide +kernel
theorem dX8_mean_39 : decode cX8_mean 39 = .ok (.iload_n 1, 1) := by decide +kernel
theorem dX8_mean_40 : decode cX8_mean 40 = .ok (.invokestatic 270, 3) := by decide +kernel
theorem dX8_mean_43 : decode cX8_mean 43 = .ok (.lreturn, 1) := by decide +kernel

theorem dX8_near_0 : decode cX8_near 0 = .ok (.aload_n 0, 1) := by decide +kernel
theorem dX8_near_1 : decode cX8_near 1 = .ok (.getfield 32, 3) := by decide +kernel
theorem dX8_near_4 : decode cX8_near 4 = .ok (.iload_n 1, 1) := by decide +kernel
theorem dX8_near_5 : decode cX8_near 5 = .ok (.invokevirtual 127, 3) := by decide +kernel
theorem dX8_near_8 : decode cX8_near 8 = .ok (.ifCond .eq 15, 3) := by decide +kernel
theorem dX8_near_11 : decode cX8_near 11 = .ok (.aload_n 0, 1) := by decide +kernel
theorem dX8_near_12 : decode cX8_near 12 = .ok (.getfield 32, 3) := by decide +kernel
theorem dX8_near_15 : decode cX8_near 15 = .ok (.iload_n 1, 1) := by decide +kernel
theorem dX8_near_16 : decode cX8_near 16 = .ok (.iconst (-1), 1) := by decide +kernel
theorem dX8_near_17 : decode cX8_near 17 = .ok (.invokevirtual 141, 3) := by decide +kernel
theorem dX8_near_20 : decode cX8_near 20 = .ok (.goto 5, 3) := by decide +kernel
theorem dX8_near_23 : decode cX8_near 23 = .ok (.bipush (-2), 2) := by decide +kernel
theorem dX8_near_25 : decode cX8_near 25 = .ok (.ireturn, 1) := by decide +kernel

theorem dX8_next_0 : decode cX8_next 0 = .ok (.aload_n 0, 1) := by decide +kernel
theorem dX8_next_1 : decode cX8_next 1 = .ok (.getfield 32, 3) := by decide +kernel
theorem dX8_next_4 : decode cX8_next 4 = .ok (.iload_n 1, 1) := by decide +kernel
theorem dX8_next_5 : decode cX8_next 5 = .ok (.invokevirtual 196, 3) := by decide +kernel
theorem dX8_next_8 : decode cX8_next 8 = .ok (.ifCond .ne 6, 3) := by decide +kernel
theorem dX8_next_11 : decode cX8_next 11 = .ok (.bipush (-2), 2) := by decide +kernel
theorem dX8_next_13 : decode cX8_next 13 = .ok (.ireturn, 1) := by decide +kernel
theorem dX8_next_14 : decode cX8_next 14 = .ok (.iconst (-1), 1) := by decide +kernel
theorem dX8_next_15 : decode cX8_next 15 = .ok (.istore_n 2, 1) := by decide +kernel
theorem dX8_next_16 : decode cX8_next 16 = .ok (.iconst (-1), 1) := by decide +kernel
theorem dX8_next_17 : decode cX8_next 17 = .ok (.istore_n 3, 1) := by decide +kernel
theorem dX8_next_18 : decode cX8_next 18 = .ok (.iconst 0, 1) := by decide +kernel
theorem dX8_next_19 : decode cX8_next 19 = .ok (.istore 4, 2) := by decide +kernel
theorem dX8_next_21 : decode cX8_next 21 = .ok (.iload 4, 2) := by decide +kernel
theorem dX8_next_23 : decode cX8_next 23 = .ok (.aload_n 0, 1) := by decide +kernel
theorem dX8_next_24 : decode cX8_next 24 = .ok (.getfield 32, 3) := by decide +kernel
theorem dX8_next_27 : decode cX8_next 27 = .ok (.getfield 156, 3) := by decide +kernel
theorem dX8_next_30 : decode cX8_next 30 = .ok (.if_icmp .ge 33, 3) := by decide +kernel
theorem dX8_next_33 : decode cX8_next 33 = .ok (.aload_n 0, 1) := by decide +kernel
theorem dX8_next_34 : decode cX8_next 34 = .ok (.invokevirtual 189, 3) := by decide +kernel
theorem dX8_next_37 : decode cX8_next 37 = .ok (.iload 4, 2) := by decide +kernel
theorem dX8_next_39 : decode cX8_next 39 = .ok (.iload_n 1, 1) := by decide +kernel
theorem dX8_next_40 : decode cX8_next 40 = .ok (.invokevirtual 220, 3) := by decide +kernel
theorem dX8_next_43 : decode cX8_next 43 = .ok (.istore 5, 2) := by decide +kernel
theorem dX8_next_45 : decode cX8_next 45 = .ok (.iload 5, 2) := by decide +kernel
theorem dX8_next_47 : decode cX8_next 47 = .ok (.iload_n 3, 1) := by decide +kernel
theorem dX8_next_48 : decode cX8_next 48 = .ok (.if_icmp .le 9, 3) := by decide +kernel
theorem dX8_next_51 : decode cX8_next 51 = .ok (.iload 5, 2) := by decide +kernel
theorem dX8_next_53 : decode cX8_next 53 = .ok (.istore_n 3, 1) := by decide +kernel
theorem dX8_next_54 : decode cX8_next 54 = .ok (.iload 4, 2) := by decide +kernel
theorem dX8_next_56 : decode cX8_next 56 = .ok (.istore_n 2, 1) := by decide +kernel
theorem dX8_next_57 : decode cX8_next 57 = .ok (.iinc 4 1, 3) := by decide +kernel
theorem dX8_next_60 : decode cX8_next 60 = .ok (.goto (-39), 3) := by decide +kernel
theorem dX8_next_63 : decode cX8_next 63 = .ok (.iload_n 2, 1) := by decide +kernel
theorem dX8_next_64 : decode cX8_next 64 = .ok (.ireturn, 1) := by decide +kernel

theorem dX8_open_0 : decode cX8_open 0 = .ok (.aload_n 0, 1) := by decide +kernel
theorem dX8_open_1 : decode cX8_open 1 = .ok (.getfield 32, 3) := by decide +kernel
theorem dX8_open_4 : decode cX8_open 4 = .ok (.iload_n 1, 1) := by decide +kernel
theorem dX8_open_5 : decode cX8_open 5 = .ok (.invokevirtual 196, 3) := by decide +kernel
theorem dX8_open_8 : decode cX8_open 8 = .ok (.ifCond .eq 14, 3) := by decide +kernel
theorem dX8_open_11 : decode cX8_open 11 = .ok (.aload_n 0, 1) := by decide +kernel
theorem dX8_open_12 : decode cX8_open 12 = .ok (.invokevirtual 189, 3) := by decide +kernel
theorem dX8_open_15 : decode cX8_open 15 = .ok (.iload_n 1, 1) := by decide +kernel
theorem dX8_open_16 : decode cX8_open 16 = .ok (.invokevirtual 199, 3) := by decide +kernel
theorem dX8_open_19 : decode cX8_open 19 = .ok (.goto 5, 3) := by decide +kernel
theorem dX8_open_22 : decode cX8_open 22 = .ok (.bipush (-2), 2) := by decide +kernel
theorem dX8_open_24 : decode cX8_open 24 = .ok (.ireturn, 1) := by decide +kernel

theorem dX8_opens_0 : decode cX8_opens 0 = .ok (.aload_n 0, 1) := by decide +kernel
theorem dX8_opens_1 : decode cX8_opens 1 = .ok (.getfield 32, 3) := by decide +kernel
theorem dX8_opens_4 : decode cX8_opens 4 = .ok (.invokevirtual 153, 3) := by decide +kernel
theorem dX8_opens_7 : decode cX8_opens 7 = .ok (.ifCond .ne 6, 3) := by decide +kernel
theorem dX8_opens_10 : decode cX8_opens 10 = .ok (.bipush (-2), 2) := by decide +kernel
theorem dX8_opens_12 : decode cX8_opens 12 = .ok (.ireturn, 1) := by decide +kernel
theorem dX8_opens_13 : decode cX8_opens 13 = .ok (.aload_n 0, 1) := by decide +kernel
theorem dX8_opens_14 : decode cX8_opens 14 = .ok (.getfield 59, 3) := by decide +kernel
theorem dX8_opens_17 : decode cX8_opens 17 = .ok (.iconst (-1), 1) := by decide +kernel
theorem dX8_opens_18 : decode cX8_opens 18 = .ok (.invokevirtual 257, 3) := by decide +kernel
theorem dX8_opens_21 : decode cX8_opens 21 = .ok (.iconst (-1), 1) := by decide +kernel
theorem dX8_opens_22 : decode cX8_opens 22 = .ok (.istore_n 1, 1) := by decide +kernel
theorem dX8_opens_23 : decode cX8_opens 23 = .ok (.iconst 0, 1) := by decide +kernel
theorem dX8_opens_24 : decode cX8_opens 24 = .ok (.istore_n 2, 1) := by decide +kernel
theorem dX8_opens_25 : decode cX8_opens 25 = .ok (.iconst 0, 1) := by decide +kernel
theorem dX8_opens_26 : decode cX8_opens 26 = .ok (.istore_n 3, 1) := by decide +kernel
theorem dX8_opens_27 : decode cX8_opens 27 = .ok (.iload_n 3, 1) := by decide +kernel
theorem dX8_opens_28 : decode cX8_opens 28 = .ok (.aload_n 0, 1) := by decide +kernel
theorem dX8_opens_29 : decode cX8_opens 29 = .ok (.getfield 32, 3) := by decide +kernel
theorem dX8_opens_32 : decode cX8_opens 32 = .ok (.getfield 156, 3) := by decide +kernel
theorem dX8_opens_35 : decode cX8_opens 35 = .ok (.if_icmp .ge 32, 3) := by decide +kernel
theorem dX8_opens_38 : decode cX8_opens 38 = .ok (.aload_n 0, 1) := by decide +kernel
theorem dX8_opens_39 : decode cX8_opens 39 = .ok (.iload_n 3, 1) := by decide +kernel
theorem dX8_opens_40 : decode cX8_opens 40 = .ok (.invokevirtual 332, 3) := by decide +kernel
theorem dX8_opens_43 : decode cX8_opens 43 = .ok (.istore 4, 2) := by decide +kernel
theorem dX8_opens_45 : decode cX8_opens 45 = .ok (.iload_n 1, 1) := by decide +kernel
theorem dX8_opens_46 : decode cX8_opens 46 = .ok (.iconst (-1), 1) := by decide +kernel
theorem dX8_opens_47 : decode cX8_opens 47 = .ok (.if_icmp .eq 9, 3) := by decide +kernel
theorem dX8_opens_50 : decode cX8_opens 50 = .ok (.iload 4, 2) := by decide +kernel
theorem dX8_opens_52 : decode cX8_opens 52 = .ok (.iload_n 2, 1) := by decide +kernel
theorem dX8_opens_53 : decode cX8_opens 53 = .ok (.if_icmp .le 8, 3) := by decide +kernel
theorem dX8_opens_56 : decode cX8_opens 56 = .ok (.iload 4, 2) := by decide +kernel
theorem dX8_opens_58 : decode cX8_opens 58 = .ok (.istore_n 2, 1) := by decide +kernel
theorem dX8_opens_59 : decode cX8_opens 59 = .ok (.iload_n 3, 1) := by decide +kernel
theorem dX8_opens_60 : decode cX8_opens 60 = .ok (.istore_n 1, 1) := by decide +kernel
theorem dX8_opens_61 : decode cX8_opens 61 = .ok (.iinc 3 1, 3) := by decide +kernel
theorem dX8_opens_64 : decode cX8_opens 64 = .ok (.goto (-37), 3) := by decide +kernel
theorem dX8_opens_67 : decode cX8_opens 67 = .ok (.iload_n 1, 1) := by decide +kernel
theorem dX8_opens_68 : decode cX8_opens 68 = .ok (.ireturn, 1) := by decide +kernel

theorem dX8_part_0 : decode cX8_part 0 = .ok (.aload_n 0, 1) := by decide +kernel
theorem dX8_part_1 : decode cX8_part 1 = .ok (.getfield 32, 3) := by decide +kernel
theorem dX8_part_4 : decode cX8_part 4 = .ok (.iload_n 1, 1) := by decide +kernel
theorem dX8_part_5 : decode cX8_part 5 = .ok (.invokevirtual 127, 3) := by decide +kernel
theorem dX8_part_8 : decode cX8_part 8 = .ok (.ifCond .ne 6, 3) := by decide +kernel
theorem dX8_part_11 : decode cX8_part 11 = .ok (.bipush (-2), 2) := by decide +kernel
theorem dX8_part_13 : decode cX8_part 13 = .ok (.ireturn, 1) := by decide +kernel
theorem dX8_part_14 : decode cX8_part 14 = .ok (.iload_n 2, 1) := by decide +kernel
theorem dX8_part_15 : decode cX8_part 15 = .ok (.tableswitch 55 0 2 #[25, 35, 45], 25) := by decide +kernel
theorem dX8_part_40 : decode cX8_part 40 = .ok (.aload_n 0, 1) := by decide +kernel
theorem dX8_part_41 : decode cX8_part 41 = .ok (.getfield 32, 3) := by decide +kernel
theorem dX8_part_44 : decode cX8_part 44 = .ok (.getfield 131, 3) := by decide +kernel
theorem dX8_part_47 : decode cX8_part 47 = .ok (.iload_n 1, 1) := by decide +kernel
theorem dX8_part_48 : decode cX8_part 48 = .ok (.iaload, 1) := by decide +kernel
theorem dX8_part_49 : decode cX8_part 49 = .ok (.ireturn, 1) := by decide +kernel
theorem dX8_part_50 : decode cX8_part 50 = .ok (.aload_n 0, 1) := by decide +kernel
theorem dX8_part_51 : decode cX8_part 51 = .ok (.getfield 32, 3) := by decide +kernel
theorem dX8_part_54 : decode cX8_part 54 = .ok (.getfield 135, 3) := by decide +kernel
theorem dX8_part_57 : decode cX8_part 57 = .ok (.iload_n 1, 1) := by decide +kernel
theorem dX8_part_58 : decode cX8_part 58 = .ok (.iaload, 1) := by decide +kernel
theorem dX8_part_59 : decode cX8_part 59 = .ok (.ireturn, 1) := by decide +kernel
theorem dX8_part_60 : decode cX8_part 60 = .ok (.aload_n 0, 1) := by decide +kernel
theorem dX8_part_61 : decode cX8_part 61 = .ok (.getfield 32, 3) := by decide +kernel
theorem dX8_part_64 : decode cX8_part 64 = .ok (.getfield 138, 3) := by decide +kernel
theorem dX8_part_67 : decode cX8_part 67 = .ok (.iload_n 1, 1) := by decide +kernel
theorem dX8_part_68 : decode cX8_part 68 = .ok (.iaload, 1) := by decide +kernel
theorem dX8_part_69 : decode cX8_part 69 = .ok (.ireturn, 1) := by decide +kernel
theorem dX8_part_70 : decode cX8_part 70 = .ok (.bipush (-2), 2) := by decide +kernel
theorem dX8_part_72 : decode cX8_part 72 = .ok (.ireturn, 1) := by decide +kernel

theorem dX8_paste_0 : decode cX8_paste 0 = .ok (.aload_n 0, 1) := by decide +kernel
theorem dX8_paste_1 : decode cX8_paste 1 = .ok (.getfield 46, 3) := by decide +kernel
theorem dX8_paste_4 : decode cX8_paste 4 = .ok (.iload_n 1, 1) := by decide +kernel
theorem dX8_paste_5 : decode cX8_paste 5 = .ok (.invokevirtual 378, 3) := by decide +kernel
theorem dX8_paste_8 : decode cX8_paste 8 = .ok (.ifCond .eq 14, 3) := by decide +kernel
theorem dX8_paste_11 : decode cX8_paste 11 = .ok (.aload_n 0, 1) := by decide +kernel
theorem dX8_paste_12 : decode cX8_paste 12 = .ok (.getfield 46, 3) := by decide +kernel
theorem dX8_paste_15 : decode cX8_paste 15 = .ok (.iload_n 3, 1) := by decide +kernel
theorem dX8_paste_16 : decode cX8_paste 16 = .ok (.invokevirtual 378, 3) := by decide +kernel
theorem dX8_paste_19 : decode cX8_paste 19 = .ok (.ifCond .ne 6, 3) := by decide +kernel
theorem dX8_paste_22 : decode cX8_paste 22 = .ok (.bipush (-2), 2) := by decide +kernel
theorem dX8_paste_24 : decode cX8_paste 24 = .ok (.ireturn, 1) := by decide +kernel
theorem dX8_paste_25 : decode cX8_paste 25 = .ok (.aload_n 0, 1) := by decide +kernel
theorem dX8_paste_26 : decode cX8_paste 26 = .ok (.getfield 46, 3) := by decide +kernel
theorem dX8_paste_29 : decode cX8_paste 29 = .ok (.iload_n 1, 1) := by decide +kernel
theorem dX8_paste_30 : decode cX8_paste 30 = .ok (.invokevirtual 384, 3) := by decide +kernel
theorem dX8_paste_33 : decode cX8_paste 33 = .ok (.ifCond .ne 14, 3) := by decide +kernel
theorem dX8_paste_36 : decode cX8_paste 36 = .ok (.aload_n 0, 1) := by decide +kernel
theorem dX8_paste_37 : decode cX8_paste 37 = .ok (.getfield 46, 3) := by decide +kernel
theorem dX8_paste_40 : decode cX8_paste 40 = .ok (.iload_n 3, 1) := by decide +kernel
theorem dX8_paste_41 : decode cX8_paste 41 = .ok (.invokevirtual 384, 3) := by decide +kernel
theorem dX8_paste_44 : decode cX8_paste 44 = .ok (.ifCond .eq 6, 3) := by decide +kernel
theorem dX8_paste_47 : decode cX8_paste 47 = .ok (.bipush (-6), 2) := by decide +kernel
theorem dX8_paste_49 : decode cX8_paste 49 = .ok (.ireturn, 1) := by decide +kernel
theorem dX8_paste_50 : decode cX8_paste 50 = .ok (.aload_n 0, 1) := by decide +kernel
theorem dX8_paste_51 : decode cX8_paste 51 = .ok (.getfield 46, 3) := by decide +kernel
theorem dX8_paste_54 : decode cX8_paste 54 = .ok (.iload_n 1, 1) := by decide +kernel
theorem dX8_paste_55 : decode cX8_paste 55 = .ok (.iload_n 3, 1) := by decide +kernel
theorem dX8_paste_56 : decode cX8_paste 56 = .ok (.invokevirtual 395, 3) := by decide +kernel
theorem dX8_paste_59 : decode cX8_paste 59 = .ok (.ifCond .ne 6, 3) := by decide +kernel
theorem dX8_paste_62 : decode cX8_paste 62 = .ok (.bipush (-8), 2) := by decide +kernel
theorem dX8_paste_64 : decode cX8_paste 64 = .ok (.ireturn, 1) := by decide +kernel
theorem dX8_paste_65 : decode cX8_paste 65 = .ok (.aload_n 0, 1) := by decide +kernel
theorem dX8_paste_66 : decode cX8_paste 66 = .ok (.getfield 46, 3) := by decide +kernel
theorem dX8_paste_69 : decode cX8_paste 69 = .ok (.iload_n 1, 1) := by decide +kernel
theorem dX8_paste_70 : decode cX8_paste 70 = .ok (.iload_n 2, 1) := by decide +kernel
theorem dX8_paste_71 : decode cX8_paste 71 = .ok (.iload 5, 2) := by decide +kernel
theorem dX8_paste_73 : decode cX8_paste 73 = .ok (.invokevirtual 387, 3) := by decide +kernel
theorem dX8_paste_76 : decode cX8_paste 76 = .ok (.ifCond .eq 18, 3) := by decide +kernel
theorem dX8_paste_79 : decode cX8_paste 79 = .ok (.aload_n 0, 1) := by decide +kernel
theorem dX8_paste_80 : decode cX8_paste 80 = .ok (.getfield 46, 3) := by decide +kernel
theorem dX8_paste_83 : decode cX8_paste 83 = .ok (.iload_n 3, 1) := by decide +kernel
theorem dX8_paste_84 : decode cX8_paste 84 = .ok (.iload 4, 2) := by decide +kernel
theorem dX8_paste_86 : decode cX8_paste 86 = .ok (.iload 5, 2) := by decide +kernel
theorem dX8_paste_88 : decode cX8_paste 88 = .ok (.invokevirtual 387, 3) := by decide +kernel
theorem dX8_paste_91 : decode cX8_paste 91 = .ok (.ifCond .ne 6, 3) := by decide +kernel
theorem dX8_paste_94 : decode cX8_paste 94 = .ok (.bipush (-7), 2) := by decide +kernel
theorem dX8_paste_96 : decode cX8_paste 96 = .ok (.ireturn, 1) := by decide +kernel
theorem dX8_paste_97 : decode cX8_paste 97 = .ok (.aload_n 0, 1) := by decide +kernel
theorem dX8_paste_98 : decode cX8_paste 98 = .ok (.getfield 46, 3) := by decide +kernel
theorem dX8_paste_101 : decode cX8_paste 101 = .ok (.iload_n 1, 1) := by decide +kernel
theorem dX8_paste_102 : decode cX8_paste 102 = .ok (.iload_n 2, 1) := by decide +kernel
theorem dX8_paste_103 : decode cX8_paste 103 = .ok (.iload_n 3, 1) := by decide +kernel
theorem dX8_paste_104 : decode cX8_paste 104 = .ok (.iload 4, 2) := by decide +kernel
theorem dX8_paste_106 : decode cX8_paste 106 = .ok (.iload 5, 2) := by decide +kernel
theorem dX8_paste_108 : decode cX8_paste 108 = .ok (.invokevirtual 398, 3) := by decide +kernel
theorem dX8_paste_111 : decode cX8_paste 111 = .ok (.iconst 0, 1) := by decide +kernel
theorem dX8_paste_112 : decode cX8_paste 112 = .ok (.ireturn, 1) := by decide +kernel

theorem dX8_peak_0 : decode cX8_peak 0 = .ok (.aload_n 0, 1) := by decide +kernel
theorem dX8_peak_1 : decode cX8_peak 1 = .ok (.getfield 32, 3) := by decide +kernel
theorem dX8_peak_4 : decode cX8_peak 4 = .ok (.invokevirtual 153, 3) := by decide +kernel
theorem dX8_peak_7 : decode cX8_peak 7 = .ok (.ifCond .ne 6, 3) := by decide +kernel
theorem dX8_peak_10 : decode cX8_peak 10 = .ok (.bipush (-2), 2) := by decide +kernel
theorem dX8_peak_12 : decode cX8_peak 12 = .ok (.ireturn, 1) := by decide +kernel
theorem dX8_peak_13 : decode cX8_peak 13 = .ok (.iconst 0, 1) := by decide +kernel
theorem dX8_peak_14 : decode cX8_peak 14 = .ok (.istore_n 1, 1) := by decide +kernel
theorem dX8_peak_15 : decode cX8_peak 15 = .ok (.iconst (-1), 1) := by decide +kernel
theorem dX8_peak_16 : decode cX8_peak 16 = .ok (.istore_n 2, 1) := by decide +kernel
theorem dX8_peak_17 : decode cX8_peak 17 = .ok (.iconst 0, 1) := by decide +kernel
theorem dX8_peak_18 : decode cX8_peak 18 = .ok (.istore_n 3, 1) := by decide +kernel
theorem dX8_peak_19 : decode cX8_peak 19 = .ok (.iload_n 3, 1) := by decide +kernel
theorem dX8_peak_20 : decode cX8_peak 20 = .ok (.aload_n 0, 1) := by decide +kernel
theorem dX8_peak_21 : decode cX8_peak 21 = .ok (.getfield 32, 3) := by decide +kernel
theorem dX8_peak_24 : decode cX8_peak 24 = .ok (.getfield 168, 3) := by decide +kernel
theorem dX8_peak_27 : decode cX8_peak 27 = .ok (.if_icmp .ge 30, 3) := by decide +kernel
theorem dX8_peak_30 : decode cX8_peak 30 = .ok (.aload_n 0, 1) := by decide +kernel
theorem dX8_peak_31 : decode cX8_peak 31 = .ok (.invokevirtual 189, 3) := by decide +kernel
theorem dX8_peak_34 : decode cX8_peak 34 = .ok (.iload_n 3, 1) := by decide +kernel
theorem dX8_peak_35 : decode cX8_peak 35 = .ok (.invokevirtual 214, 3) := by decide +kernel
theorem dX8_peak_38 : decode cX8_peak 38 = .ok (.istore 4, 2) := by decide +kernel
theorem dX8_peak_40 : decode cX8_peak 40 = .ok (.iload 4, 2) := by decide +kernel
theorem dX8_peak_42 : decode cX8_peak 42 = .ok (.iload_n 2, 1) := by decide +kernel
theorem dX8_peak_43 : decode cX8_peak 43 = .ok (.if_icmp .le 8, 3) := by decide +kernel
theorem dX8_peak_46 : decode cX8_peak 46 = .ok (.iload 4, 2) := by decide +kernel
theorem dX8_peak_48 : decode cX8_peak 48 = .ok (.istore_n 2, 1) := by decide +kernel
theorem dX8_peak_49 : decode cX8_peak 49 = .ok (.iload_n 3, 1) := by decide +kernel
theorem dX8_peak_50 : decode cX8_peak 50 = .ok (.istore_n 1, 1) := by decide +kernel
theorem dX8_peak_51 : decode cX8_peak 51 = .ok (.iinc 3 1, 3) := by decide +kernel
theorem dX8_peak_54 : decode cX8_peak 54 = .ok (.goto (-35), 3) := by decide +kernel
theorem dX8_peak_57 : decode cX8_peak 57 = .ok (.iload_n 1, 1) := by decide +kernel
theorem dX8_peak_58 : decode cX8_peak 58 = .ok (.ireturn, 1) := by decide +kernel

theorem dX8_pieces_0 : decode cX8_pieces 0 = .ok (.aload_n 0, 1) := by decide +kernel
theorem dX8_pieces_1 : decode cX8_pieces 1 = .ok (.getfield 32, 3) := by decide +kernel
theorem dX8_pieces_4 : decode cX8_pieces 4 = .ok (.invokevirtual 153, 3) := by decide +kernel
theorem dX8_pieces_7 : decode cX8_pieces 7 = .ok (.ifCond .ne 6, 3) := by decide +kernel
theorem dX8_pieces_10 : decode cX8_pieces 10 = .ok (.bipush (-2), 2) := by decide +kernel
theorem dX8_pieces_12 : decode cX8_pieces 12 = .ok (.ireturn, 1) := by decide +kernel
theorem dX8_pieces_13 : decode cX8_pieces 13 = .ok (.iconst 0, 1) := by decide +kernel
theorem dX8_pieces_14 : decode cX8_pieces 14 = .ok (.istore_n 1, 1) := by decide +kernel
theorem dX8_pieces_15 : decode cX8_pieces 15 = .ok (.iconst 0, 1) := by decide +kernel
theorem dX8_pieces_16 : decode cX8_pieces 16 = .ok (.istore_n 2, 1) := by decide +kernel
theorem dX8_pieces_17 : decode cX8_pieces 17 = .ok (.iconst 0, 1) := by decide +kernel
theorem dX8_pieces_18 : decode cX8_pieces 18 = .ok (.istore_n 3, 1) := by decide +kernel
theorem dX8_pieces_19 : decode cX8_pieces 19 = .ok (.iload_n 3, 1) := by decide +kernel
theorem dX8_pieces_20 : decode cX8_pieces 20 = .ok (.aload_n 0, 1) := by decide +kernel
theorem dX8_pieces_21 : decode cX8_pieces 21 = .ok (.getfield 32, 3) := by decide +kernel
theorem dX8_pieces_24 : decode cX8_pieces 24 = .ok (.getfield 156, 3) := by decide +kernel
theorem dX8_pieces_27 : decode cX8_pieces 27 = .ok (.if_icmp .ge 31, 3) := by decide +kernel
theorem dX8_pieces_30 : decode cX8_pieces 30 = .ok (.iload_n 2, 1) := by decide +kernel
theorem dX8_pieces_31 : decode cX8_pieces 31 = .ok (.iload_n 3, 1) := by decide +kernel
theorem dX8_pieces_32 : decode cX8_pieces 32 = .ok (.invokestatic 145, 3) := by decide +kernel
theorem dX8_pieces_35 : decode cX8_pieces 35 = .ok (.ifCond .ne 17, 3) := by decide +kernel
theorem dX8_pieces_38 : decode cX8_pieces 38 = .ok (.iinc 1 1, 3) := by decide +kernel
theorem dX8_pieces_41 : decode cX8_pieces 41 = .ok (.iload_n 2, 1) := by decide +kernel
theorem dX8_pieces_42 : decode cX8_pieces 42 = .ok (.aload_n 0, 1) := by decide +kernel
theorem dX8_pieces_43 : decode cX8_pieces 43 = .ok (.getfield 32, 3) := by decide +kernel
theorem dX8_pieces_46 : decode cX8_pieces 46 = .ok (.iload_n 3, 1) := by decide +kernel
theorem dX8_pieces_47 : decode cX8_pieces 47 = .ok (.invokevirtual 159, 3) := by decide +kernel
theorem dX8_pieces_50 : decode cX8_pieces 50 = .ok (.ior, 1) := by decide +kernel
theorem dX8_pieces_51 : decode cX8_pieces 51 = .ok (.istore_n 2, 1) := by decide +kernel
theorem dX8_pieces_52 : decode cX8_pieces 52 = .ok (.iinc 3 1, 3) := by decide +kernel
theorem dX8_pieces_55 : decode cX8_pieces 55 = .ok (.goto (-36), 3) := by decide +kernel
theorem dX8_pieces_58 : decode cX8_pieces 58 = .ok (.iload_n 1, 1) := by decide +kernel
theorem dX8_pieces_59 : decode cX8_pieces 59 = .ok (.ireturn, 1) := by decide +kernel

theorem dX8_plan_0 : decode cX8_plan 0 = .ok (.aload_n 0, 1) := by decide +kernel
theorem dX8_plan_1 : decode cX8_plan 1 = .ok (.iload_n 1, 1) := by decide +kernel
theorem dX8_plan_2 : decode cX8_plan 2 = .ok (.invokevirtual 274, 3) := by decide +kernel
theorem dX8_plan_5 : decode cX8_plan 5 = .ok (.ifCond .ne 6, 3) := by decide +kernel
theorem dX8_plan_8 : decode cX8_plan 8 = .ok (.bipush (-2), 2) := by decide +kernel
theorem dX8_plan_10 : decode cX8_plan 10 = .ok (.ireturn, 1) := by decide +kernel
theorem dX8_plan_11 : decode cX8_plan 11 = .ok (.aload_n 0, 1) := by decide +kernel
theorem dX8_plan_12 : decode cX8_plan 12 = .ok (.iload_n 1, 1) := by decide +kernel
theorem dX8_plan_13 : decode cX8_plan 13 = .ok (.invokevirtual 277, 3) := by decide +kernel
theorem dX8_plan_16 : decode cX8_plan 16 = .ok (.aload_n 0, 1) := by decide +kernel
theorem dX8_plan_17 : decode cX8_plan 17 = .ok (.getfield 67, 3) := by decide +kernel
theorem dX8_plan_20 : decode cX8_plan 20 = .ok (.getfield 280, 3) := by decide +kernel
theorem dX8_plan_23 : decode cX8_plan 23 = .ok (.ireturn, 1) := by decide +kernel

theorem dX8_planned_0 : decode cX8_planned 0 = .ok (.aload_n 0, 1) := by decide +kernel
theorem dX8_planned_1 : decode cX8_planned 1 = .ok (.iload_n 1, 1) := by decide +kernel
theorem dX8_planned_2 : decode cX8_planned 2 = .ok (.invokevirtual 274, 3) := by decide +kernel
theorem dX8_planned_5 : decode cX8_planned 5 = .ok (.ifCond .eq 12, 3) := by decide +kernel
theorem dX8_planned_8 : decode cX8_planned 8 = .ok (.iload_n 2, 1) := by decide +kernel
theorem dX8_planned_9 : decode cX8_planned 9 = .ok (.ifCond .lt 8, 3) := by decide +kernel
theorem dX8_planned_12 : decode cX8_planned 12 = .ok (.iload_n 2, 1) := by decide +kernel
theorem dX8_planned_13 : decode cX8_planned 13 = .ok (.iload_n 1, 1) := by decide +kernel
theorem dX8_planned_14 : decode cX8_planned 14 = .ok (.if_icmp .lt 6, 3) := by decide +kernel
theorem dX8_planned_17 : decode cX8_planned 17 = .ok (.bipush (-2), 2) := by decide +kernel
theorem dX8_planned_19 : decode cX8_planned 19 = .ok (.ireturn, 1) := by decide +kernel
theorem dX8_planned_20 : decode cX8_planned 20 = .ok (.aload_n 0, 1) := by decide +kernel
theorem dX8_planned_21 : decode cX8_planned 21 = .ok (.iload_n 1, 1) := by decide +kernel
theorem dX8_planned_22 : decode cX8_planned 22 = .ok (.invokevirtual 277, 3) := by decide +kernel
theorem dX8_planned_25 : decode cX8_planned 25 = .ok (.aload_n 0, 1) := by decide +kernel
theorem dX8_planned_26 : decode cX8_planned 26 = .ok (.getfield 67, 3) := by decide +kernel
theorem dX8_planned_29 : decode cX8_planned 29 = .ok (.getfield 283, 3) := by decide +kernel
theorem dX8_planned_32 : decode cX8_planned 32 = .ok (.iload_n 2, 1) := by decide +kernel
theorem dX8_planned_33 : decode cX8_planned 33 = .ok (.iaload, 1) := by decide +kernel
theorem dX8_planned_34 : decode cX8_planned 34 = .ok (.ireturn, 1) := by decide +kernel

theorem dX8_plans_0 : decode cX8_plans 0 = .ok (.aload_n 0, 1) := by decide +kernel
theorem dX8_plans_1 : decode cX8_plans 1 = .ok (.iload_n 1, 1) := by decide +kernel
theorem dX8_plans_2 : decode cX8_plans 2 = .ok (.invokevirtual 274, 3) := by decide +kernel
theorem dX8_plans_5 : decode cX8_plans 5 = .ok (.ifCond .ne 6, 3) := by decide +kernel
theorem dX8_plans_8 : decode cX8_plans 8 = .ok (.bipush (-2), 2) := by decide +kernel
theorem dX8_plans_10 : decode cX8_plans 10 = .ok (.ireturn, 1) := by decide +kernel
theorem dX8_plans_11 : decode cX8_plans 11 = .ok (.aload_n 0, 1) := by decide +kernel
theorem dX8_plans_12 : decode cX8_plans 12 = .ok (.iload_n 1, 1) := by decide +kernel
theorem dX8_plans_13 : decode cX8_plans 13 = .ok (.invokevirtual 277, 3) := by decide +kernel
theorem dX8_plans_16 : decode cX8_plans 16 = .ok (.aload_n 0, 1) := by decide +kernel
theorem dX8_plans_17 : decode cX8_plans 17 = .ok (.getfield 67, 3) := by decide +kernel
theorem dX8_plans_20 : decode cX8_plans 20 = .ok (.getfield 286, 3) := by decide +kernel
theorem dX8_plans_23 : decode cX8_plans 23 = .ok (.ireturn, 1) := by decide +kernel

theorem dX8_quiet_0 : decode cX8_quiet 0 = .ok (.aload_n 0, 1) := by decide +kernel
theorem dX8_quiet_1 : decode cX8_quiet 1 = .ok (.getfield 32, 3) := by decide +kernel
theorem dX8_quiet_4 : decode cX8_quiet 4 = .ok (.invokevirtual 153, 3) := by decide +kernel
theorem dX8_quiet_7 : decode cX8_quiet 7 = .ok (.ifCond .ne 6, 3) := by decide +kernel
theorem dX8_quiet_10 : decode cX8_quiet 10 = .ok (.bipush (-2), 2) := by decide +kernel
theorem dX8_quiet_12 : decode cX8_quiet 12 = .ok (.ireturn, 1) := by decide +kernel
theorem dX8_quiet_13 : decode cX8_quiet 13 = .ok (.iconst 0, 1) := by decide +kernel
theorem dX8_quiet_14 : decode cX8_quiet 14 = .ok (.istore_n 1, 1) := by decide +kernel
theorem dX8_quiet_15 : decode cX8_quiet 15 = .ok (.iconst 0, 1) := by decide +kernel
theorem dX8_quiet_16 : decode cX8_quiet 16 = .ok (.istore_n 2, 1) := by decide +kernel
theorem dX8_quiet_17 : decode cX8_quiet 17 = .ok (.iload_n 2, 1) := by decide +kernel
theorem dX8_quiet_18 : decode cX8_quiet 18 = .ok (.aload_n 0, 1) := by decide +kernel
theorem dX8_quiet_19 : decode cX8_quiet 19 = .ok (.getfield 32, 3) := by decide +kernel
theorem dX8_quiet_22 : decode cX8_quiet 22 = .ok (.getfield 168, 3) := by decide +kernel
theorem dX8_quiet_25 : decode cX8_quiet 25 = .ok (.if_icmp .ge 25, 3) := by decide +kernel
theorem dX8_quiet_28 : decode cX8_quiet 28 = .ok (.iload_n 1, 1) := by decide +kernel
theorem dX8_quiet_29 : decode cX8_quiet 29 = .ok (.aload_n 0, 1) := by decide +kernel
theorem dX8_quiet_30 : decode cX8_quiet 30 = .ok (.iload_n 2, 1) := by decide +kernel
theorem dX8_quiet_31 : decode cX8_quiet 31 = .ok (.invokevirtual 246, 3) := by decide +kernel
theorem dX8_quiet_34 : decode cX8_quiet 34 = .ok (.ifCond .ne 7, 3) := by decide +kernel
theorem dX8_quiet_37 : decode cX8_quiet 37 = .ok (.iconst 1, 1) := by decide +kernel
theorem dX8_quiet_38 : decode cX8_quiet 38 = .ok (.goto 4, 3) := by decide +kernel
theorem dX8_quiet_41 : decode cX8_quiet 41 = .ok (.iconst 0, 1) := by decide +kernel
theorem dX8_quiet_42 : decode cX8_quiet 42 = .ok (.iadd, 1) := by decide +kernel
theorem dX8_quiet_43 : decode cX8_quiet 43 = .ok (.istore_n 1, 1) := by decide +kernel
theorem dX8_quiet_44 : decode cX8_quiet 44 = .ok (.iinc 2 1, 3) := by decide +kernel
theorem dX8_quiet_47 : decode cX8_quiet 47 = .ok (.goto (-30), 3) := by decide +kernel
theorem dX8_quiet_50 : decode cX8_quiet 50 = .ok (.iload_n 1, 1) := by decide +kernel
theorem dX8_quiet_51 : decode cX8_quiet 51 = .ok (.ireturn, 1) := by decide +kernel

theorem dX8_rate_0 : decode cX8_rate 0 = .ok (.aload_n 0, 1) := by decide +kernel
theorem dX8_rate_1 : decode cX8_rate 1 = .ok (.getfield 32, 3) := by decide +kernel
theorem dX8_rate_4 : decode cX8_rate 4 = .ok (.iload_n 1, 1) := by decide +kernel
theorem dX8_rate_5 : decode cX8_rate 5 = .ok (.invokevirtual 127, 3) := by decide +kernel
theorem dX8_rate_8 : decode cX8_rate 8 = .ok (.ifCond .eq 13, 3) := by decide +kernel
theorem dX8_rate_11 : decode cX8_rate 11 = .ok (.iload_n 2, 1) := by decide +kernel
theorem dX8_rate_12 : decode cX8_rate 12 = .ok (.ifCond .lt 9, 3) := by decide +kernel
theorem dX8_rate_15 : decode cX8_rate 15 = .ok (.iload_n 2, 1) := by decide +kernel
theorem dX8_rate_16 : decode cX8_rate 16 = .ok (.bipush 60, 2) := by decide +kernel
theorem dX8_rate_18 : decode cX8_rate 18 = .ok (.if_icmp .le 6, 3) := by decide +kernel
theorem dX8_rate_21 : decode cX8_rate 21 = .ok (.bipush (-2), 2) := by decide +kernel
theorem dX8_rate_23 : decode cX8_rate 23 = .ok (.ireturn, 1) := by decide +kernel
theorem dX8_rate_24 : decode cX8_rate 24 = .ok (.aload_n 0, 1) := by decide +kernel
theorem dX8_rate_25 : decode cX8_rate 25 = .ok (.getfield 32, 3) := by decide +kernel
theorem dX8_rate_28 : decode cX8_rate 28 = .ok (.getfield 179, 3) := by decide +kernel
theorem dX8_rate_31 : decode cX8_rate 31 = .ok (.ifCond .le 6, 3) := by decide +kernel
theorem dX8_rate_34 : decode cX8_rate 34 = .ok (.bipush (-5), 2) := by decide +kernel
theorem dX8_rate_36 : decode cX8_rate 36 = .ok (.ireturn, 1) := by decide +kernel
theorem dX8_rate_37 : decode cX8_rate 37 = .ok (.aload_n 0, 1) := by decide +kernel
theorem dX8_rate_38 : decode cX8_rate 38 = .ok (.getfield 32, 3) := by decide +kernel
theorem dX8_rate_41 : decode cX8_rate 41 = .ok (.getfield 131, 3) := by decide +kernel
theorem dX8_rate_44 : decode cX8_rate 44 = .ok (.iload_n 1, 1) := by decide +kernel
theorem dX8_rate_45 : decode cX8_rate 45 = .ok (.iaload, 1) := by decide +kernel
theorem dX8_rate_46 : decode cX8_rate 46 = .ok (.istore_n 3, 1) := by decide +kernel
theorem dX8_rate_47 : decode cX8_rate 47 = .ok (.aload_n 0, 1) := by decide +kernel
theorem dX8_rate_48 : decode cX8_rate 48 = .ok (.getfield 32, 3) := by decide +kernel
theorem dX8_rate_51 : decode cX8_rate 51 = .ok (.getfield 131, 3) := by decide +kernel
theorem dX8_rate_54 : decode cX8_rate 54 = .ok (.iload_n 1, 1) := by decide +kernel
theorem dX8_rate_55 : decode cX8_rate 55 = .ok (.iload_n 2, 1) := by decide +kernel
theorem dX8_rate_56 : decode cX8_rate 56 = .ok (.iastore, 1) := by decide +kernel
theorem dX8_rate_57 : decode cX8_rate 57 = .ok (.aload_n 0, 1) := by decide +kernel
theorem dX8_rate_58 : decode cX8_rate 58 = .ok (.invokevirtual 115, 3) := by decide +kernel
theorem dX8_rate_61 : decode cX8_rate 61 = .ok (.iload_n 3, 1) := by decide +kernel
theorem dX8_rate_62 : decode cX8_rate 62 = .ok (.ireturn, 1) := by decide +kernel

theorem dX8_read_0 : decode cX8_read 0 = .ok (.aload_n 0, 1) := by decide +kernel
theorem dX8_read_1 : decode cX8_read 1 = .ok (.getfield 32, 3) := by decide +kernel
theorem dX8_read_4 : decode cX8_read 4 = .ok (.iload_n 1, 1) := by decide +kernel
theorem dX8_read_5 : decode cX8_read 5 = .ok (.invokevirtual 127, 3) := by decide +kernel
theorem dX8_read_8 : decode cX8_read 8 = .ok (.ifCond .eq 14, 3) := by decide +kernel
theorem dX8_read_11 : decode cX8_read 11 = .ok (.aload_n 0, 1) := by decide +kernel
theorem dX8_read_12 : decode cX8_read 12 = .ok (.invokevirtual 189, 3) := by decide +kernel
theorem dX8_read_15 : decode cX8_read 15 = .ok (.iload_n 1, 1) := by decide +kernel
theorem dX8_read_16 : decode cX8_read 16 = .ok (.invokevirtual 208, 3) := by decide +kernel
theorem dX8_read_19 : decode cX8_read 19 = .ok (.goto 5, 3) := by decide +kernel
theorem dX8_read_22 : decode cX8_read 22 = .ok (.bipush (-2), 2) := by decide +kernel
theorem dX8_read_24 : decode cX8_read 24 = .ok (.ireturn, 1) := by decide +kernel

theorem dX8_reads_0 : decode cX8_reads 0 = .ok (.aload_n 0, 1) := by decide +kernel
theorem dX8_reads_1 : decode cX8_reads 1 = .ok (.getfield 32, 3) := by decide +kernel
theorem dX8_reads_4 : decode cX8_reads 4 = .ok (.iload_n 1, 1) := by decide +kernel
theorem dX8_reads_5 : decode cX8_reads 5 = .ok (.invokevirtual 211, 3) := by decide +kernel
theorem dX8_reads_8 : decode cX8_reads 8 = .ok (.ifCond .eq 14, 3) := by decide +kernel
theorem dX8_reads_11 : decode cX8_reads 11 = .ok (.aload_n 0, 1) := by decide +kernel
theorem dX8_reads_12 : decode cX8_reads 12 = .ok (.invokevirtual 189, 3) := by decide +kernel
theorem dX8_reads_15 : decode cX8_reads 15 = .ok (.iload_n 1, 1) := by decide +kernel
theorem dX8_reads_16 : decode cX8_reads 16 = .ok (.invokevirtual 214, 3) := by decide +kernel
theorem dX8_reads_19 : decode cX8_reads 19 = .ok (.goto 5, 3) := by decide +kernel
theorem dX8_reads_22 : decode cX8_reads 22 = .ok (.bipush (-2), 2) := by decide +kernel
theorem dX8_reads_24 : decode cX8_reads 24 = .ok (.ireturn, 1) := by decide +kernel

theorem dX8_refuseAct_0 : decode cX8_refuseAct 0 = .ok (.aload_n 0, 1) := by decide +kernel
theorem dX8_refuseAct_1 : decode cX8_refuseAct 1 = .ok (.getfield 32, 3) := by decide +kernel
theorem dX8_refuseAct_4 : decode cX8_refuseAct 4 = .ok (.iload_n 1, 1) := by decide +kernel
theorem dX8_refuseAct_5 : decode cX8_refuseAct 5 = .ok (.invokevirtual 127, 3) := by decide +kernel
theorem dX8_refuseAct_8 : decode cX8_refuseAct 8 = .ok (.ifCond .eq 14, 3) := by decide +kernel
theorem dX8_refuseAct_11 : decode cX8_refuseAct 11 = .ok (.aload_n 0, 1) := by decide +kernel
theorem dX8_refuseAct_12 : decode cX8_refuseAct 12 = .ok (.getfield 32, 3) := by decide +kernel
theorem dX8_refuseAct_15 : decode cX8_refuseAct 15 = .ok (.iload_n 2, 1) := by decide +kernel
theorem dX8_refuseAct_16 : decode cX8_refuseAct 16 = .ok (.invokevirtual 211, 3) := by decide +kernel
theorem dX8_refuseAct_19 : decode cX8_refuseAct 19 = .ok (.ifCond .ne 6, 3) := by decide +kernel
theorem dX8_refuseAct_22 : decode cX8_refuseAct 22 = .ok (.bipush (-2), 2) := by decide +kernel
theorem dX8_refuseAct_24 : decode cX8_refuseAct 24 = .ok (.ireturn, 1) := by decide +kernel
theorem dX8_refuseAct_25 : decode cX8_refuseAct 25 = .ok (.aload_n 0, 1) := by decide +kernel
theorem dX8_refuseAct_26 : decode cX8_refuseAct 26 = .ok (.getfield 32, 3) := by decide +kernel
theorem dX8_refuseAct_29 : decode cX8_refuseAct 29 = .ok (.getfield 179, 3) := by decide +kernel
theorem dX8_refuseAct_32 : decode cX8_refuseAct 32 = .ok (.bipush 20, 2) := by decide +kernel
theorem dX8_refuseAct_34 : decode cX8_refuseAct 34 = .ok (.if_icmp .ge 7, 3) := by decide +kernel
theorem dX8_refuseAct_37 : decode cX8_refuseAct 37 = .ok (.iconst 0, 1) := by decide +kernel
theorem dX8_refuseAct_38 : decode cX8_refuseAct 38 = .ok (.goto 5, 3) := by decide +kernel
theorem dX8_refuseAct_41 : decode cX8_refuseAct 41 = .ok (.bipush (-5), 2) := by decide +kernel
theorem dX8_refuseAct_43 : decode cX8_refuseAct 43 = .ok (.ireturn, 1) := by decide +kernel

theorem dX8_refuseSeenOf_0 : decode cX8_refuseSeenOf 0 = .ok (.aload_n 0, 1) := by decide +kernel
theorem dX8_refuseSeenOf_1 : decode cX8_refuseSeenOf 1 = .ok (.getfield 32, 3) := by decide +kernel
theorem dX8_refuseSeenOf_4 : decode cX8_refuseSeenOf 4 = .ok (.iload_n 2, 1) := by decide +kernel
theorem dX8_refuseSeenOf_5 : decode cX8_refuseSeenOf 5 = .ok (.invokevirtual 127, 3) := by decide +kernel
theorem dX8_refuseSeenOf_8 : decode cX8_refuseSeenOf 8 = .ok (.ifCond .eq 11, 3) := by decide +kernel
theorem dX8_refuseSeenOf_11 : decode cX8_refuseSeenOf 11 = .ok (.aload_n 0, 1) := by decide +kernel
theorem dX8_refuseSeenOf_12 : decode cX8_refuseSeenOf 12 = .ok (.iload_n 1, 1) := by decide +kernel
theorem dX8_refuseSeenOf_13 : decode cX8_refuseSeenOf 13 = .ok (.invokevirtual 312, 3) := by decide +kernel
theorem dX8_refuseSeenOf_16 : decode cX8_refuseSeenOf 16 = .ok (.goto 5, 3) := by decide +kernel
theorem dX8_refuseSeenOf_19 : decode cX8_refuseSeenOf 19 = .ok (.bipush (-2), 2) := by decide +kernel
theorem dX8_refuseSeenOf_21 : decode cX8_refuseSeenOf 21 = .ok (.ireturn, 1) := by decide +kernel

theorem dX8_replies_0 : decode cX8_replies 0 = .ok (.aload_n 0, 1) := by decide +kernel
theorem dX8_replies_1 : decode cX8_replies 1 = .ok (.getfield 32, 3) := by decide +kernel
theorem dX8_replies_4 : decode cX8_replies 4 = .ok (.iload_n 1, 1) := by decide +kernel
theorem dX8_replies_5 : decode cX8_replies 5 = .ok (.invokevirtual 127, 3) := by decide +kernel
theorem dX8_replies_8 : decode cX8_replies 8 = .ok (.ifCond .ne 6, 3) := by decide +kernel
theorem dX8_replies_11 : decode cX8_replies 11 = .ok (.bipush (-2), 2) := by decide +kernel
theorem dX8_replies_13 : decode cX8_replies 13 = .ok (.ireturn, 1) := by decide +kernel
theorem dX8_replies_14 : decode cX8_replies 14 = .ok (.aload_n 0, 1) := by decide +kernel
theorem dX8_replies_15 : decode cX8_replies 15 = .ok (.getfield 59, 3) := by decide +kernel
theorem dX8_replies_18 : decode cX8_replies 18 = .ok (.iconst (-1), 1) := by decide +kernel
theorem dX8_replies_19 : decode cX8_replies 19 = .ok (.invokevirtual 257, 3) := by decide +kernel
theorem dX8_replies_22 : decode cX8_replies 22 = .ok (.aload_n 0, 1) := by decide +kernel
theorem dX8_replies_23 : decode cX8_replies 23 = .ok (.iload_n 1, 1) := by decide +kernel
theorem dX8_replies_24 : decode cX8_replies 24 = .ok (.invokevirtual 335, 3) := by decide +kernel
theorem dX8_replies_27 : decode cX8_replies 27 = .ok (.ireturn, 1) := by decide +kernel

theorem dX8_rests_0 : decode cX8_rests 0 = .ok (.aload_n 0, 1) := by decide +kernel
theorem dX8_rests_1 : decode cX8_rests 1 = .ok (.iload_n 1, 1) := by decide +kernel
theorem dX8_rests_2 : decode cX8_rests 2 = .ok (.iload_n 2, 1) := by decide +kernel
theorem dX8_rests_3 : decode cX8_rests 3 = .ok (.invokevirtual 338, 3) := by decide +kernel
theorem dX8_rests_6 : decode cX8_rests 6 = .ok (.ifCond .ne 6, 3) := by decide +kernel
theorem dX8_rests_9 : decode cX8_rests 9 = .ok (.bipush (-2), 2) := by decide +kernel
theorem dX8_rests_11 : decode cX8_rests 11 = .ok (.ireturn, 1) := by decide +kernel
theorem dX8_rests_12 : decode cX8_rests 12 = .ok (.iconst 0, 1) := by decide +kernel
theorem dX8_rests_13 : decode cX8_rests 13 = .ok (.istore_n 3, 1) := by decide +kernel
theorem dX8_rests_14 : decode cX8_rests 14 = .ok (.iconst 0, 1) := by decide +kernel
theorem dX8_rests_15 : decode cX8_rests 15 = .ok (.istore 4, 2) := by decide +kernel
theorem dX8_rests_17 : decode cX8_rests 17 = .ok (.iload 4, 2) := by decide +kernel
theorem dX8_rests_19 : decode cX8_rests 19 = .ok (.iconst 2, 1) := by decide +kernel
theorem dX8_rests_20 : decode cX8_rests 20 = .ok (.if_icmp .ge 110, 3) := by decide +kernel
theorem dX8_rests_23 : decode cX8_rests 23 = .ok (.iconst 0, 1) := by decide +kernel
theorem dX8_rests_24 : decode cX8_rests 24 = .ok (.istore 5, 2) := by decide +kernel
theorem dX8_rests_26 : decode cX8_rests 26 = .ok (.iload 5, 2) := by decide +kernel
theorem dX8_rests_28 : decode cX8_rests 28 = .ok (.iconst 2, 1) := by decide +kernel
theorem dX8_rests_29 : decode cX8_rests 29 = .ok (.if_icmp .ge 95, 3) := by decide +kernel
theorem dX8_rests_32 : decode cX8_rests 32 = .ok (.aload_n 0, 1) := by decide +kernel
theorem dX8_rests_33 : decode cX8_rests 33 = .ok (.iload_n 1, 1) := by decide +kernel
theorem dX8_rests_34 : decode cX8_rests 34 = .ok (.iload_n 2, 1) := by decide +kernel
theorem dX8_rests_35 : decode cX8_rests 35 = .ok (.iload 4, 2) := by decide +kernel
theorem dX8_rests_37 : decode cX8_rests 37 = .ok (.iload 5, 2) := by decide +kernel
theorem dX8_rests_39 : decode cX8_rests 39 = .ok (.invokevirtual 341, 3) := by decide +kernel
theorem dX8_rests_42 : decode cX8_rests 42 = .ok (.aload_n 0, 1) := by decide +kernel
theorem dX8_rests_43 : decode cX8_rests 43 = .ok (.iload_n 1, 1) := by decide +kernel
theorem dX8_rests_44 : decode cX8_rests 44 = .ok (.iload_n 2, 1) := by decide +kernel
theorem dX8_rests_45 : decode cX8_rests 45 = .ok (.iconst 1, 1) := by decide +kernel
theorem dX8_rests_46 : decode cX8_rests 46 = .ok (.iload 4, 2) := by decide +kernel
theorem dX8_rests_48 : decode cX8_rests 48 = .ok (.isub, 1) := by decide +kernel
theorem dX8_rests_49 : decode cX8_rests 49 = .ok (.iload 5, 2) := by decide +kernel
theorem dX8_rests_51 : decode cX8_rests 51 = .ok (.invokevirtual 341, 3) := by decide +kernel
theorem dX8_rests_54 : decode cX8_rests 54 = .ok (.if_icmp .lt 7, 3) := by decide +kernel
theorem dX8_rests_57 : decode cX8_rests 57 = .ok (.iconst 1, 1) := by decide +kernel
theorem dX8_rests_58 : decode cX8_rests 58 = .ok (.goto 4, 3) := by decide +kernel
theorem dX8_rests_61 : decode cX8_rests 61 = .ok (.iconst 0, 1) := by decide +kernel
theorem dX8_rests_62 : decode cX8_rests 62 = .ok (.istore 6, 2) := by decide +kernel
theorem dX8_rests_64 : decode cX8_rests 64 = .ok (.aload_n 0, 1) := by decide +kernel
theorem dX8_rests_65 : decode cX8_rests 65 = .ok (.iload_n 2, 1) := by decide +kernel
theorem dX8_rests_66 : decode cX8_rests 66 = .ok (.iload_n 1, 1) := by decide +kernel
theorem dX8_rests_67 : decode cX8_rests 67 = .ok (.iload 5, 2) := by decide +kernel
theorem dX8_rests_69 : decode cX8_rests 69 = .ok (.iload 4, 2) := by decide +kernel
theorem dX8_rests_71 : decode cX8_rests 71 = .ok (.invokevirtual 341, 3) := by decide +kernel
theorem dX8_rests_74 : decode cX8_rests 74 = .ok (.aload_n 0, 1) := by decide +kernel
theorem dX8_rests_75 : decode cX8_rests 75 = .ok (.iload_n 2, 1) := by decide +kernel
theorem dX8_rests_76 : decode cX8_rests 76 = .ok (.iload_n 1, 1) := by decide +kernel
theorem dX8_rests_77 : decode cX8_rests 77 = .ok (.iconst 1, 1) := by decide +kernel
theorem dX8_rests_78 : decode cX8_rests 78 = .ok (.iload 5, 2) := by decide +kernel
theorem dX8_rests_80 : decode cX8_rests 80 = .ok (.isub, 1) := by decide +kernel
theorem dX8_rests_81 : decode cX8_rests 81 = .ok (.iload 4, 2) := by decide +kernel
theorem dX8_rests_83 : decode cX8_rests 83 = .ok (.invokevirtual 341, 3) := by decide +kernel
theorem dX8_rests_86 : decode cX8_rests 86 = .ok (.if_icmp .lt 7, 3) := by decide +kernel
theorem dX8_rests_89 : decode cX8_rests 89 = .ok (.iconst 1, 1) := by decide +kernel
theorem dX8_rests_90 : decode cX8_rests 90 = .ok (.goto 4, 3) := by decide +kernel
theorem dX8_rests_93 : decode cX8_rests 93 = .ok (.iconst 0, 1) := by decide +kernel
theorem dX8_rests_94 : decode cX8_rests 94 = .ok (.istore 7, 2) := by decide +kernel
theorem dX8_rests_96 : decode cX8_rests 96 = .ok (.iload 6, 2) := by decide +kernel
theorem dX8_rests_98 : decode cX8_rests 98 = .ok (.ifCond .eq 20, 3) := by decide +kernel
theorem dX8_rests_101 : decode cX8_rests 101 = .ok (.iload 7, 2) := by decide +kernel
theorem dX8_rests_103 : decode cX8_rests 103 = .ok (.ifCond .eq 15, 3) := by decide +kernel
theorem dX8_rests_106 : decode cX8_rests 106 = .ok (.iload_n 3, 1) := by decide +kernel
theorem dX8_rests_107 : decode cX8_rests 107 = .ok (.iconst 1, 1) := by decide +kernel
theorem dX8_rests_108 : decode cX8_rests 108 = .ok (.iload 4, 2) := by decide +kernel
theorem dX8_rests_110 : decode cX8_rests 110 = .ok (.iconst 2, 1) := by decide +kernel
theorem dX8_rests_111 : decode cX8_rests 111 = .ok (.iload 5, 2) := by decide +kernel
theorem dX8_rests_113 : decode cX8_rests 113 = .ok (.imul, 1) := by decide +kernel
theorem dX8_rests_114 : decode cX8_rests 114 = .ok (.iadd, 1) := by decide +kernel
theorem dX8_rests_115 : decode cX8_rests 115 = .ok (.ishl, 1) := by decide +kernel
theorem dX8_rests_116 : decode cX8_rests 116 = .ok (.ior, 1) := by decide +kernel
theorem dX8_rests_117 : decode cX8_rests 117 = .ok (.istore_n 3, 1) := by decide +kernel
theorem dX8_rests_118 : decode cX8_rests 118 = .ok (.iinc 5 1, 3) := by decide +kernel
theorem dX8_rests_121 : decode cX8_rests 121 = .ok (.goto (-95), 3) := by decide +kernel
theorem dX8_rests_124 : decode cX8_rests 124 = .ok (.iinc 4 1, 3) := by decide +kernel
theorem dX8_rests_127 : decode cX8_rests 127 = .ok (.goto (-110), 3) := by decide +kernel
theorem dX8_rests_130 : decode cX8_rests 130 = .ok (.iload_n 3, 1) := by decide +kernel
theorem dX8_rests_131 : decode cX8_rests 131 = .ok (.ireturn, 1) := by decide +kernel

theorem dX8_row_0 : decode cX8_row 0 = .ok (.aload_n 0, 1) := by decide +kernel
theorem dX8_row_1 : decode cX8_row 1 = .ok (.getfield 46, 3) := by decide +kernel
theorem dX8_row_4 : decode cX8_row 4 = .ok (.iload_n 1, 1) := by decide +kernel
theorem dX8_row_5 : decode cX8_row 5 = .ok (.invokevirtual 378, 3) := by decide +kernel
theorem dX8_row_8 : decode cX8_row 8 = .ok (.ifCond .eq 18, 3) := by decide +kernel
theorem dX8_row_11 : decode cX8_row 11 = .ok (.iload_n 2, 1) := by decide +kernel
theorem dX8_row_12 : decode cX8_row 12 = .ok (.ifCond .lt 14, 3) := by decide +kernel
theorem dX8_row_15 : decode cX8_row 15 = .ok (.iload_n 2, 1) := by decide +kernel
theorem dX8_row_16 : decode cX8_row 16 = .ok (.iconst 4, 1) := by decide +kernel
theorem dX8_row_17 : decode cX8_row 17 = .ok (.if_icmp .ge 9, 3) := by decide +kernel
theorem dX8_row_20 : decode cX8_row 20 = .ok (.iload_n 3, 1) := by decide +kernel
theorem dX8_row_21 : decode cX8_row 21 = .ok (.bipush 60, 2) := by decide +kernel
theorem dX8_row_23 : decode cX8_row 23 = .ok (.if_icmp .le 6, 3) := by decide +kernel
theorem dX8_row_26 : decode cX8_row 26 = .ok (.bipush (-2), 2) := by decide +kernel
theorem dX8_row_28 : decode cX8_row 28 = .ok (.ireturn, 1) := by decide +kernel
theorem dX8_row_29 : decode cX8_row 29 = .ok (.iload_n 3, 1) := by decide +kernel
theorem dX8_row_30 : decode cX8_row 30 = .ok (.ifCond .ge 6, 3) := by decide +kernel
theorem dX8_row_33 : decode cX8_row 33 = .ok (.bipush (-3), 2) := by decide +kernel
theorem dX8_row_35 : decode cX8_row 35 = .ok (.ireturn, 1) := by decide +kernel
theorem dX8_row_36 : decode cX8_row 36 = .ok (.aload_n 0, 1) := by decide +kernel
theorem dX8_row_37 : decode cX8_row 37 = .ok (.getfield 46, 3) := by decide +kernel
theorem dX8_row_40 : decode cX8_row 40 = .ok (.iload_n 1, 1) := by decide +kernel
theorem dX8_row_41 : decode cX8_row 41 = .ok (.iload_n 2, 1) := by decide +kernel
theorem dX8_row_42 : decode cX8_row 42 = .ok (.iload_n 3, 1) := by decide +kernel
theorem dX8_row_43 : decode cX8_row 43 = .ok (.invokevirtual 381, 3) := by decide +kernel
theorem dX8_row_46 : decode cX8_row 46 = .ok (.iconst 0, 1) := by decide +kernel
theorem dX8_row_47 : decode cX8_row 47 = .ok (.ireturn, 1) := by decide +kernel

theorem dX8_rush_0 : decode cX8_rush 0 = .ok (.aload_n 0, 1) := by decide +kernel
theorem dX8_rush_1 : decode cX8_rush 1 = .ok (.getfield 32, 3) := by decide +kernel
theorem dX8_rush_4 : decode cX8_rush 4 = .ok (.invokevirtual 153, 3) := by decide +kernel
theorem dX8_rush_7 : decode cX8_rush 7 = .ok (.ifCond .ne 6, 3) := by decide +kernel
theorem dX8_rush_10 : decode cX8_rush 10 = .ok (.bipush (-2), 2) := by decide +kernel
theorem dX8_rush_12 : decode cX8_rush 12 = .ok (.ireturn, 1) := by decide +kernel
theorem dX8_rush_13 : decode cX8_rush 13 = .ok (.iconst 0, 1) := by decide +kernel
theorem dX8_rush_14 : decode cX8_rush 14 = .ok (.istore_n 1, 1) := by decide +kernel
theorem dX8_rush_15 : decode cX8_rush 15 = .ok (.iconst 0, 1) := by decide +kernel
theorem dX8_rush_16 : decode cX8_rush 16 = .ok (.istore_n 2, 1) := by decide +kernel
theorem dX8_rush_17 : decode cX8_rush 17 = .ok (.iload_n 2, 1) := by decide +kernel
theorem dX8_rush_18 : decode cX8_rush 18 = .ok (.aload_n 0, 1) := by decide +kernel
theorem dX8_rush_19 : decode cX8_rush 19 = .ok (.getfield 32, 3) := by decide +kernel
theorem dX8_rush_22 : decode cX8_rush 22 = .ok (.getfield 168, 3) := by decide +kernel
theorem dX8_rush_25 : decode cX8_rush 25 = .ok (.if_icmp .ge 19, 3) := by decide +kernel
theorem dX8_rush_28 : decode cX8_rush 28 = .ok (.iload_n 1, 1) := by decide +kernel
theorem dX8_rush_29 : decode cX8_rush 29 = .ok (.aload_n 0, 1) := by decide +kernel
theorem dX8_rush_30 : decode cX8_rush 30 = .ok (.iload_n 2, 1) := by decide +kernel
theorem dX8_rush_31 : decode cX8_rush 31 = .ok (.invokevirtual 246, 3) := by decide +kernel
theorem dX8_rush_34 : decode cX8_rush 34 = .ok (.invokestatic 223, 3) := by decide +kernel
theorem dX8_rush_37 : decode cX8_rush 37 = .ok (.istore_n 1, 1) := by decide +kernel
theorem dX8_rush_38 : decode cX8_rush 38 = .ok (.iinc 2 1, 3) := by decide +kernel
theorem dX8_rush_41 : decode cX8_rush 41 = .ok (.goto (-24), 3) := by decide +kernel
theorem dX8_rush_44 : decode cX8_rush 44 = .ok (.iload_n 1, 1) := by decide +kernel
theorem dX8_rush_45 : decode cX8_rush 45 = .ok (.ireturn, 1) := by decide +kernel

theorem dX8_share_0 : decode cX8_share 0 = .ok (.aload_n 0, 1) := by decide +kernel
theorem dX8_share_1 : decode cX8_share 1 = .ok (.getfield 32, 3) := by decide +kernel
theorem dX8_share_4 : decode cX8_share 4 = .ok (.iload_n 1, 1) := by decide +kernel
theorem dX8_share_5 : decode cX8_share 5 = .ok (.invokevirtual 127, 3) := by decide +kernel
theorem dX8_share_8 : decode cX8_share 8 = .ok (.ifCond .eq 10, 3) := by decide +kernel
theorem dX8_share_11 : decode cX8_share 11 = .ok (.iload_n 2, 1) := by decide +kernel
theorem dX8_share_12 : decode cX8_share 12 = .ok (.invokestatic 263, 3) := by decide +kernel
theorem dX8_share_15 : decode cX8_share 15 = .ok (.ifCond .ne 7, 3) := by decide +kernel
theorem dX8_share_18 : decode cX8_share 18 = .ok (.ldc_w 266, 3) := by decide +kernel
theorem dX8_share_21 : decode cX8_share 21 = .ok (.ireturn, 1) := by decide +kernel
theorem dX8_share_22 : decode cX8_share 22 = .ok (.aload_n 0, 1) := by decide +kernel
theorem dX8_share_23 : decode cX8_share 23 = .ok (.getfield 59, 3) := by decide +kernel
theorem dX8_share_26 : decode cX8_share 26 = .ok (.iconst (-1), 1) := by decide +kernel
theorem dX8_share_27 : decode cX8_share 27 = .ok (.invokevirtual 257, 3) := by decide +kernel
theorem dX8_share_30 : decode cX8_share 30 = .ok (.lconst 0, 1) := by decide +kernel
theorem dX8_share_31 : decode cX8_share 31 = .ok (.lstore_n 3, 1) := by decide +kernel
theorem dX8_share_32 : decode cX8_share 32 = .ok (.iconst 0, 1) := by decide +kernel
theorem dX8_share_33 : decode cX8_share 33 = .ok (.istore 5, 2) := by decide +kernel
theorem dX8_share_35 : decode cX8_share 35 = .ok (.iload 5, 2) := by decide +kernel
theorem dX8_share_37 : decode cX8_share 37 = .ok (.aload_n 0, 1) := by decide +kernel
theorem dX8_share_38 : decode cX8_share 38 = .ok (.getfield 32, 3) := by decide +kernel
theorem dX8_share_41 : decode cX8_share 41 = .ok (.invokevirtual 243, 3) := by decide +kernel
theorem dX8_share_44 : decode cX8_share 44 = .ok (.if_icmp .gt 74, 3) := by decide +kernel
theorem dX8_share_47 : decode cX8_share 47 = .ok (.iload 5, 2) := by decide +kernel
theorem dX8_share_49 : decode cX8_share 49 = .ok (.iload_n 1, 1) := by decide +kernel
theorem dX8_share_50 : decode cX8_share 50 = .ok (.invokestatic 145, 3) := by decide +kernel
theorem dX8_share_53 : decode cX8_share 53 = .ok (.ifCond .ne 59, 3) := by decide +kernel
theorem dX8_share_56 : decode cX8_share 56 = .ok (.iload 5, 2) := by decide +kernel
theorem dX8_share_58 : decode cX8_share 58 = .ok (.invokestatic 252, 3) := by decide +kernel
theorem dX8_share_61 : decode cX8_share 61 = .ok (.istore 6, 2) := by decide +kernel
theorem dX8_share_63 : decode cX8_share 63 = .ok (.iload 6, 2) := by decide +kernel
theorem dX8_share_65 : decode cX8_share 65 = .ok (.invokestatic 267, 3) := by decide +kernel
theorem dX8_share_68 : decode cX8_share 68 = .ok (.i2l, 1) := by decide +kernel
theorem dX8_share_69 : decode cX8_share 69 = .ok (.aload_n 0, 1) := by decide +kernel
theorem dX8_share_70 : decode cX8_share 70 = .ok (.getfield 32, 3) := by decide +kernel
theorem dX8_share_73 : decode cX8_share 73 = .ok (.getfield 156, 3) := by decide +kernel
theorem dX8_share_76 : decode cX8_share 76 = .ok (.iconst 1, 1) := by decide +kernel
theorem dX8_share_77 : decode cX8_share 77 = .ok (.isub, 1) := by decide +kernel
theorem dX8_share_78 : decode cX8_share 78 = .ok (.iload 6, 2) := by decide +kernel
theorem dX8_share_80 : decode cX8_share 80 = .ok (.isub, 1) := by decide +kernel
theorem dX8_share_81 : decode cX8_share 81 = .ok (.invokestatic 267, 3) := by decide +kernel
theorem dX8_share_84 : decode cX8_share 84 = .ok (.i2l, 1) := by decide +kernel
theorem dX8_share_85 : decode cX8_share 85 = .ok (.lmul, 1) := by decide +kernel
theorem dX8_share_86 : decode cX8_share 86 = .ok (.lstore 7, 2) := by decide +kernel
theorem dX8_share_88 : decode cX8_share 88 = .ok (.lload_n 3, 1) := by decide +kernel
theorem dX8_share_89 : decode cX8_share 89 = .ok (.lload 7, 2) := by decide +kernel
theorem dX8_share_91 : decode cX8_share 91 = .ok (.aload_n 0, 1) := by decide +kernel
theorem dX8_share_92 : decode cX8_share 92 = .ok (.iload 5, 2) := by decide +kernel
theorem dX8_share_94 : decode cX8_share 94 = .ok (.iconst 1, 1) := by decide +kernel
theorem dX8_share_95 : decode cX8_share 95 = .ok (.iload_n 1, 1) := by decide +kernel
theorem dX8_share_96 : decode cX8_share 96 = .ok (.ishl, 1) := by decide +kernel
theorem dX8_share_97 : decode cX8_share 97 = .ok (.ior, 1) := by decide +kernel
theorem dX8_share_98 : decode cX8_share 98 = .ok (.invokevirtual 260, 3) := by decide +kernel
theorem dX8_share_101 : decode cX8_share 101 = .ok (.aload_n 0, 1) := by decide +kernel
theorem dX8_share_102 : decode cX8_share 102 = .ok (.iload 5, 2) := by decide +kernel
theorem dX8_share_104 : decode cX8_share 104 = .ok (.invokevirtual 260, 3) := by decide +kernel
theorem dX8_share_107 : decode cX8_share 107 = .ok (.isub, 1) := by decide +kernel
theorem dX8_share_108 : decode cX8_share 108 = .ok (.i2l, 1) := by decide +kernel
theorem dX8_share_109 : decode cX8_share 109 = .ok (.lmul, 1) := by decide +kernel
theorem dX8_share_110 : decode cX8_share 110 = .ok (.ladd, 1) := by decide +kernel
theorem dX8_share_111 : decode cX8_share 111 = .ok (.lstore_n 3, 1) := by decide +kernel
theorem dX8_share_112 : decode cX8_share 112 = .ok (.iinc 5 1, 3) := by decide +kernel
theorem dX8_share_115 : decode cX8_share 115 = .ok (.goto (-80), 3) := by decide +kernel
theorem dX8_share_118 : decode cX8_share 118 = .ok (.lload_n 3, 1) := by decide +kernel
theorem dX8_share_119 : decode cX8_share 119 = .ok (.aload_n 0, 1) := by decide +kernel
theorem dX8_share_120 : decode cX8_share 120 = .ok (.getfield 32, 3) := by decide +kernel
theorem dX8_share_123 : decode cX8_share 123 = .ok (.getfield 156, 3) := by decide +kernel
theorem dX8_share_126 : decode cX8_share 126 = .ok (.invokestatic 267, 3) := by decide +kernel
theorem dX8_share_129 : decode cX8_share 129 = .ok (.i2l, 1) := by decide +kernel
theorem dX8_share_130 : decode cX8_share 130 = .ok (.iload_n 2, 1) := by decide +kernel
theorem dX8_share_131 : decode cX8_share 131 = .ok (.invokestatic 270, 3) := by decide +kernel
theorem dX8_share_134 : decode cX8_share 134 = .ok (.l2i, 1) := by decide +kernel
theorem dX8_share_135 : decode cX8_share 135 = .ok (.ireturn, 1) := by decide +kernel

theorem dX8_sharp_0 : decode cX8_sharp 0 = .ok (.aload_n 0, 1) := by decide +kernel
theorem dX8_sharp_1 : decode cX8_sharp 1 = .ok (.getfield 32, 3) := by decide +kernel
theorem dX8_sharp_4 : decode cX8_sharp 4 = .ok (.invokevirtual 153, 3) := by decide +kernel
theorem dX8_sharp_7 : decode cX8_sharp 7 = .ok (.ifCond .eq 10, 3) := by decide +kernel
theorem dX8_sharp_10 : decode cX8_sharp 10 = .ok (.aload_n 0, 1) := by decide +kernel
theorem dX8_sharp_11 : decode cX8_sharp 11 = .ok (.invokevirtual 234, 3) := by decide +kernel
theorem dX8_sharp_14 : decode cX8_sharp 14 = .ok (.goto 5, 3) := by decide +kernel
theorem dX8_sharp_17 : decode cX8_sharp 17 = .ok (.bipush (-2), 2) := by decide +kernel
theorem dX8_sharp_19 : decode cX8_sharp 19 = .ok (.ireturn, 1) := by decide +kernel

theorem dX8_slit_0 : decode cX8_slit 0 = .ok (.aload_n 0, 1) := by decide +kernel
theorem dX8_slit_1 : decode cX8_slit 1 = .ok (.getfield 32, 3) := by decide +kernel
theorem dX8_slit_4 : decode cX8_slit 4 = .ok (.invokevirtual 153, 3) := by decide +kernel
theorem dX8_slit_7 : decode cX8_slit 7 = .ok (.ifCond .ne 6, 3) := by decide +kernel
theorem dX8_slit_10 : decode cX8_slit 10 = .ok (.bipush (-2), 2) := by decide +kernel
theorem dX8_slit_12 : decode cX8_slit 12 = .ok (.ireturn, 1) := by decide +kernel
theorem dX8_slit_13 : decode cX8_slit 13 = .ok (.iconst (-1), 1) := by decide +kernel
theorem dX8_slit_14 : decode cX8_slit 14 = .ok (.istore_n 1, 1) := by decide +kernel
theorem dX8_slit_15 : decode cX8_slit 15 = .ok (.aload_n 0, 1) := by decide +kernel
theorem dX8_slit_16 : decode cX8_slit 16 = .ok (.invokevirtual 189, 3) := by decide +kernel
theorem dX8_slit_19 : decode cX8_slit 19 = .ok (.invokevirtual 217, 3) := by decide +kernel
theorem dX8_slit_22 : decode cX8_slit 22 = .ok (.istore_n 2, 1) := by decide +kernel
theorem dX8_slit_23 : decode cX8_slit 23 = .ok (.iconst 0, 1) := by decide +kernel
theorem dX8_slit_24 : decode cX8_slit 24 = .ok (.istore_n 3, 1) := by decide +kernel
theorem dX8_slit_25 : decode cX8_slit 25 = .ok (.iload_n 3, 1) := by decide +kernel
theorem dX8_slit_26 : decode cX8_slit 26 = .ok (.aload_n 0, 1) := by decide +kernel
theorem dX8_slit_27 : decode cX8_slit 27 = .ok (.getfield 32, 3) := by decide +kernel
theorem dX8_slit_30 : decode cX8_slit 30 = .ok (.getfield 176, 3) := by decide +kernel
theorem dX8_slit_33 : decode cX8_slit 33 = .ok (.if_icmp .ge 51, 3) := by decide +kernel
theorem dX8_slit_36 : decode cX8_slit 36 = .ok (.aload_n 0, 1) := by decide +kernel
theorem dX8_slit_37 : decode cX8_slit 37 = .ok (.getfield 59, 3) := by decide +kernel
theorem dX8_slit_40 : decode cX8_slit 40 = .ok (.iload_n 3, 1) := by decide +kernel
theorem dX8_slit_41 : decode cX8_slit 41 = .ok (.invokevirtual 257, 3) := by decide +kernel
theorem dX8_slit_44 : decode cX8_slit 44 = .ok (.aload_n 0, 1) := by decide +kernel
theorem dX8_slit_45 : decode cX8_slit 45 = .ok (.getfield 59, 3) := by decide +kernel
theorem dX8_slit_48 : decode cX8_slit 48 = .ok (.aload_n 0, 1) := by decide +kernel
theorem dX8_slit_49 : decode cX8_slit 49 = .ok (.getfield 32, 3) := by decide +kernel
theorem dX8_slit_52 : decode cX8_slit 52 = .ok (.invokevirtual 315, 3) := by decide +kernel
theorem dX8_slit_55 : decode cX8_slit 55 = .ok (.invokevirtual 329, 3) := by decide +kernel
theorem dX8_slit_58 : decode cX8_slit 58 = .ok (.aload_n 0, 1) := by decide +kernel
theorem dX8_slit_59 : decode cX8_slit 59 = .ok (.getfield 59, 3) := by decide +kernel
theorem dX8_slit_62 : decode cX8_slit 62 = .ok (.invokevirtual 217, 3) := by decide +kernel
theorem dX8_slit_65 : decode cX8_slit 65 = .ok (.istore 4, 2) := by decide +kernel
theorem dX8_slit_67 : decode cX8_slit 67 = .ok (.iload 4, 2) := by decide +kernel
theorem dX8_slit_69 : decode cX8_slit 69 = .ok (.iload_n 2, 1) := by decide +kernel
theorem dX8_slit_70 : decode cX8_slit 70 = .ok (.if_icmp .le 8, 3) := by decide +kernel
theorem dX8_slit_73 : decode cX8_slit 73 = .ok (.iload 4, 2) := by decide +kernel
theorem dX8_slit_75 : decode cX8_slit 75 = .ok (.istore_n 2, 1) := by decide +kernel
theorem dX8_slit_76 : decode cX8_slit 76 = .ok (.iload_n 3, 1) := by decide +kernel
theorem dX8_slit_77 : decode cX8_slit 77 = .ok (.istore_n 1, 1) := by decide +kernel
theorem dX8_slit_78 : decode cX8_slit 78 = .ok (.iinc 3 1, 3) := by decide +kernel
theorem dX8_slit_81 : decode cX8_slit 81 = .ok (.goto (-56), 3) := by decide +kernel
theorem dX8_slit_84 : decode cX8_slit 84 = .ok (.iload_n 1, 1) := by decide +kernel
theorem dX8_slit_85 : decode cX8_slit 85 = .ok (.ireturn, 1) := by decide +kernel

theorem dX8_stalest_0 : decode cX8_stalest 0 = .ok (.aload_n 0, 1) := by decide +kernel
theorem dX8_stalest_1 : decode cX8_stalest 1 = .ok (.getfield 32, 3) := by decide +kernel
theorem dX8_stalest_4 : decode cX8_stalest 4 = .ok (.iload_n 1, 1) := by decide +kernel
theorem dX8_stalest_5 : decode cX8_stalest 5 = .ok (.invokevirtual 196, 3) := by decide +kernel
theorem dX8_stalest_8 : decode cX8_stalest 8 = .ok (.ifCond .ne 6, 3) := by decide +kernel
theorem dX8_stalest_11 : decode cX8_stalest 11 = .ok (.bipush (-2), 2) := by decide +kernel
theorem dX8_stalest_13 : decode cX8_stalest 13 = .ok (.ireturn, 1) := by decide +kernel
theorem dX8_stalest_14 : decode cX8_stalest 14 = .ok (.aload_n 0, 1) := by decide +kernel
theorem dX8_stalest_15 : decode cX8_stalest 15 = .ok (.invokevirtual 189, 3) := by decide +kernel
theorem dX8_stalest_18 : decode cX8_stalest 18 = .ok (.iload_n 1, 1) := by decide +kernel
theorem dX8_stalest_19 : decode cX8_stalest 19 = .ok (.invokevirtual 199, 3) := by decide +kernel
theorem dX8_stalest_22 : decode cX8_stalest 22 = .ok (.istore_n 2, 1) := by decide +kernel
theorem dX8_stalest_23 : decode cX8_stalest 23 = .ok (.iconst (-1), 1) := by decide +kernel
theorem dX8_stalest_24 : decode cX8_stalest 24 = .ok (.istore_n 3, 1) := by decide +kernel
theorem dX8_stalest_25 : decode cX8_stalest 25 = .ok (.iconst (-1), 1) := by decide +kernel
theorem dX8_stalest_26 : decode cX8_stalest 26 = .ok (.istore 4, 2) := by decide +kernel
theorem dX8_stalest_28 : decode cX8_stalest 28 = .ok (.iconst 0, 1) := by decide +kernel
theorem dX8_stalest_29 : decode cX8_stalest 29 = .ok (.istore 5, 2) := by decide +kernel
theorem dX8_stalest_31 : decode cX8_stalest 31 = .ok (.iload 5, 2) := by decide +kernel
theorem dX8_stalest_33 : decode cX8_stalest 33 = .ok (.aload_n 0, 1) := by decide +kernel
theorem dX8_stalest_34 : decode cX8_stalest 34 = .ok (.getfield 32, 3) := by decide +kernel
theorem dX8_stalest_37 : decode cX8_stalest 37 = .ok (.getfield 156, 3) := by decide +kernel
theorem dX8_stalest_40 : decode cX8_stalest 40 = .ok (.if_icmp .ge 48, 3) := by decide +kernel
theorem dX8_stalest_43 : decode cX8_stalest 43 = .ok (.iload_n 2, 1) := by decide +kernel
theorem dX8_stalest_44 : decode cX8_stalest 44 = .ok (.iload 5, 2) := by decide +kernel
theorem dX8_stalest_46 : decode cX8_stalest 46 = .ok (.invokestatic 145, 3) := by decide +kernel
theorem dX8_stalest_49 : decode cX8_stalest 49 = .ok (.ifCond .eq 7, 3) := by decide +kernel
theorem dX8_stalest_52 : decode cX8_stalest 52 = .ok (.iconst (-1), 1) := by decide +kernel
theorem dX8_stalest_53 : decode cX8_stalest 53 = .ok (.goto 13, 3) := by decide +kernel
theorem dX8_stalest_56 : decode cX8_stalest 56 = .ok (.aload_n 0, 1) := by decide +kernel
theorem dX8_stalest_57 : decode cX8_stalest 57 = .ok (.invokevirtual 189, 3) := by decide +kernel
theorem dX8_stalest_60 : decode cX8_stalest 60 = .ok (.iload 5, 2) := by decide +kernel
theorem dX8_stalest_62 : decode cX8_stalest 62 = .ok (.iload_n 1, 1) := by decide +kernel
theorem dX8_stalest_63 : decode cX8_stalest 63 = .ok (.invokevirtual 193, 3) := by decide +kernel
theorem dX8_stalest_66 : decode cX8_stalest 66 = .ok (.istore 6, 2) := by decide +kernel
theorem dX8_stalest_68 : decode cX8_stalest 68 = .ok (.iload 6, 2) := by decide +kernel
theorem dX8_stalest_70 : decode cX8_stalest 70 = .ok (.iload 4, 2) := by decide +kernel
theorem dX8_stalest_72 : decode cX8_stalest 72 = .ok (.if_icmp .le 10, 3) := by decide +kernel
theorem dX8_stalest_75 : decode cX8_stalest 75 = .ok (.iload 6, 2) := by decide +kernel
theorem dX8_stalest_77 : decode cX8_stalest 77 = .ok (.istore 4, 2) := by decide +kernel
theorem dX8_stalest_79 : decode cX8_stalest 79 = .ok (.iload 5, 2) := by decide +kernel
theorem dX8_stalest_81 : decode cX8_stalest 81 = .ok (.istore_n 3, 1) := by decide +kernel
theorem dX8_stalest_82 : decode cX8_stalest 82 = .ok (.iinc 5 1, 3) := by decide +kernel
theorem dX8_stalest_85 : decode cX8_stalest 85 = .ok (.goto (-54), 3) := by decide +kernel
theorem dX8_stalest_88 : decode cX8_stalest 88 = .ok (.iload_n 3, 1) := by decide +kernel
theorem dX8_stalest_89 : decode cX8_stalest 89 = .ok (.ireturn, 1) := by decide +kernel

theorem dX8_stiff_0 : decode cX8_stiff 0 = .ok (.aload_n 0, 1) := by decide +kernel
theorem dX8_stiff_1 : decode cX8_stiff 1 = .ok (.iload_n 1, 1) := by decide +kernel
theorem dX8_stiff_2 : decode cX8_stiff 2 = .ok (.iload_n 2, 1) := by decide +kernel
theorem dX8_stiff_3 : decode cX8_stiff 3 = .ok (.invokevirtual 186, 3) := by decide +kernel
theorem dX8_stiff_6 : decode cX8_stiff 6 = .ok (.ifCond .eq 15, 3) := by decide +kernel
theorem dX8_stiff_9 : decode cX8_stiff 9 = .ok (.aload_n 0, 1) := by decide +kernel
theorem dX8_stiff_10 : decode cX8_stiff 10 = .ok (.invokevirtual 189, 3) := by decide +kernel
theorem dX8_stiff_13 : decode cX8_stiff 13 = .ok (.iload_n 1, 1) := by decide +kernel
theorem dX8_stiff_14 : decode cX8_stiff 14 = .ok (.iload_n 2, 1) := by decide +kernel
theorem dX8_stiff_15 : decode cX8_stiff 15 = .ok (.invokevirtual 193, 3) := by decide +kernel
theorem dX8_stiff_18 : decode cX8_stiff 18 = .ok (.goto 5, 3) := by decide +kernel
theorem dX8_stiff_21 : decode cX8_stiff 21 = .ok (.bipush (-2), 2) := by decide +kernel
theorem dX8_stiff_23 : decode cX8_stiff 23 = .ok (.ireturn, 1) := by decide +kernel

theorem dX8_stiffs_0 : decode cX8_stiffs 0 = .ok (.aload_n 0, 1) := by decide +kernel
theorem dX8_stiffs_1 : decode cX8_stiffs 1 = .ok (.iload_n 1, 1) := by decide +kernel
theorem dX8_stiffs_2 : decode cX8_stiffs 2 = .ok (.iload_n 2, 1) := by decide +kernel
theorem dX8_stiffs_3 : decode cX8_stiffs 3 = .ok (.invokevirtual 289, 3) := by decide +kernel
theorem dX8_stiffs_6 : decode cX8_stiffs 6 = .ok (.istore_n 3, 1) := by decide +kernel
theorem dX8_stiffs_7 : decode cX8_stiffs 7 = .ok (.iload_n 3, 1) := by decide +kernel
theorem dX8_stiffs_8 : decode cX8_stiffs 8 = .ok (.ifCond .ne 19, 3) := by decide +kernel
theorem dX8_stiffs_11 : decode cX8_stiffs 11 = .ok (.aload_n 0, 1) := by decide +kernel
theorem dX8_stiffs_12 : decode cX8_stiffs 12 = .ok (.getfield 83, 3) := by decide +kernel
theorem dX8_stiffs_15 : decode cX8_stiffs 15 = .ok (.iload_n 1, 1) := by decide +kernel
theorem dX8_stiffs_16 : decode cX8_stiffs 16 = .ok (.iload_n 2, 1) := by decide +kernel
theorem dX8_stiffs_17 : decode cX8_stiffs 17 = .ok (.aload_n 0, 1) := by decide +kernel
theorem dX8_stiffs_18 : decode cX8_stiffs 18 = .ok (.invokevirtual 189, 3) := by decide +kernel
theorem dX8_stiffs_21 : decode cX8_stiffs 21 = .ok (.invokevirtual 292, 3) := by decide +kernel
theorem dX8_stiffs_24 : decode cX8_stiffs 24 = .ok (.goto 4, 3) := by decide +kernel
theorem dX8_stiffs_27 : decode cX8_stiffs 27 = .ok (.iload_n 3, 1) := by decide +kernel
theorem dX8_stiffs_28 : decode cX8_stiffs 28 = .ok (.ireturn, 1) := by decide +kernel

theorem dX8_tale_0 : decode cX8_tale 0 = .ok (.aload_n 0, 1) := by decide +kernel
theorem dX8_tale_1 : decode cX8_tale 1 = .ok (.getfield 28, 3) := by decide +kernel
theorem dX8_tale_4 : decode cX8_tale 4 = .ok (.invokevirtual 109, 3) := by decide +kernel
theorem dX8_tale_7 : decode cX8_tale 7 = .ok (.ifCond .ne 6, 3) := by decide +kernel
theorem dX8_tale_10 : decode cX8_tale 10 = .ok (.bipush (-4), 2) := by decide +kernel
theorem dX8_tale_12 : decode cX8_tale 12 = .ok (.ireturn, 1) := by decide +kernel
theorem dX8_tale_13 : decode cX8_tale 13 = .ok (.aload_n 0, 1) := by decide +kernel
theorem dX8_tale_14 : decode cX8_tale 14 = .ok (.getfield 32, 3) := by decide +kernel
theorem dX8_tale_17 : decode cX8_tale 17 = .ok (.aload_n 0, 1) := by decide +kernel
theorem dX8_tale_18 : decode cX8_tale 18 = .ok (.getfield 19, 3) := by decide +kernel
theorem dX8_tale_21 : decode cX8_tale 21 = .ok (.invokevirtual 112, 3) := by decide +kernel
theorem dX8_tale_24 : decode cX8_tale 24 = .ok (.aload_n 0, 1) := by decide +kernel
theorem dX8_tale_25 : decode cX8_tale 25 = .ok (.getfield 10, 3) := by decide +kernel
theorem dX8_tale_28 : decode cX8_tale 28 = .ok (.iconst 0, 1) := by decide +kernel
theorem dX8_tale_29 : decode cX8_tale 29 = .ok (.putfield 106, 3) := by decide +kernel
theorem dX8_tale_32 : decode cX8_tale 32 = .ok (.aload_n 0, 1) := by decide +kernel
theorem dX8_tale_33 : decode cX8_tale 33 = .ok (.invokevirtual 115, 3) := by decide +kernel
theorem dX8_tale_36 : decode cX8_tale 36 = .ok (.aload_n 0, 1) := by decide +kernel
theorem dX8_tale_37 : decode cX8_tale 37 = .ok (.getfield 32, 3) := by decide +kernel
theorem dX8_tale_40 : decode cX8_tale 40 = .ok (.getfield 118, 3) := by decide +kernel
theorem dX8_tale_43 : decode cX8_tale 43 = .ok (.ireturn, 1) := by decide +kernel

theorem dX8_uncle_0 : decode cX8_uncle 0 = .ok (.aload_n 0, 1) := by decide +kernel
theorem dX8_uncle_1 : decode cX8_uncle 1 = .ok (.getfield 32, 3) := by decide +kernel
theorem dX8_uncle_4 : decode cX8_uncle 4 = .ok (.getfield 156, 3) := by decide +kernel
theorem dX8_uncle_7 : decode cX8_uncle 7 = .ok (.ifCond .ne 7, 3) := by decide +kernel
theorem dX8_uncle_10 : decode cX8_uncle 10 = .ok (.sipush (-1000), 3) := by decide +kernel
theorem dX8_uncle_13 : decode cX8_uncle 13 = .ok (.ireturn, 1) := by decide +kernel
theorem dX8_uncle_14 : decode cX8_uncle 14 = .ok (.aload_n 0, 1) := by decide +kernel
theorem dX8_uncle_15 : decode cX8_uncle 15 = .ok (.getfield 59, 3) := by decide +kernel
theorem dX8_uncle_18 : decode cX8_uncle 18 = .ok (.iconst (-1), 1) := by decide +kernel
theorem dX8_uncle_19 : decode cX8_uncle 19 = .ok (.invokevirtual 257, 3) := by decide +kernel
theorem dX8_uncle_22 : decode cX8_uncle 22 = .ok (.aload_n 0, 1) := by decide +kernel
theorem dX8_uncle_23 : decode cX8_uncle 23 = .ok (.iconst 0, 1) := by decide +kernel
theorem dX8_uncle_24 : decode cX8_uncle 24 = .ok (.invokevirtual 332, 3) := by decide +kernel
theorem dX8_uncle_27 : decode cX8_uncle 27 = .ok (.istore_n 1, 1) := by decide +kernel
theorem dX8_uncle_28 : decode cX8_uncle 28 = .ok (.iconst 1, 1) := by decide +kernel
theorem dX8_uncle_29 : decode cX8_uncle 29 = .ok (.istore_n 2, 1) := by decide +kernel
theorem dX8_uncle_30 : decode cX8_uncle 30 = .ok (.iload_n 2, 1) := by decide +kernel
theorem dX8_uncle_31 : decode cX8_uncle 31 = .ok (.aload_n 0, 1) := by decide +kernel
theorem dX8_uncle_32 : decode cX8_uncle 32 = .ok (.getfield 32, 3) := by decide +kernel
theorem dX8_uncle_35 : decode cX8_uncle 35 = .ok (.getfield 156, 3) := by decide +kernel
theorem dX8_uncle_38 : decode cX8_uncle 38 = .ok (.if_icmp .ge 19, 3) := by decide +kernel
theorem dX8_uncle_41 : decode cX8_uncle 41 = .ok (.iload_n 1, 1) := by decide +kernel
theorem dX8_uncle_42 : decode cX8_uncle 42 = .ok (.aload_n 0, 1) := by decide +kernel
theorem dX8_uncle_43 : decode cX8_uncle 43 = .ok (.iload_n 2, 1) := by decide +kernel
theorem dX8_uncle_44 : decode cX8_uncle 44 = .ok (.invokevirtual 332, 3) := by decide +kernel
theorem dX8_uncle_47 : decode cX8_uncle 47 = .ok (.invokestatic 223, 3) := by decide +kernel
theorem dX8_uncle_50 : decode cX8_uncle 50 = .ok (.istore_n 1, 1) := by decide +kernel
theorem dX8_uncle_51 : decode cX8_uncle 51 = .ok (.iinc 2 1, 3) := by decide +kernel
theorem dX8_uncle_54 : decode cX8_uncle 54 = .ok (.goto (-24), 3) := by decide +kernel
theorem dX8_uncle_57 : decode cX8_uncle 57 = .ok (.iload_n 1, 1) := by decide +kernel
theorem dX8_uncle_58 : decode cX8_uncle 58 = .ok (.ireturn, 1) := by decide +kernel

theorem dX8_uncut_0 : decode cX8_uncut 0 = .ok (.aload_n 0, 1) := by decide +kernel
theorem dX8_uncut_1 : decode cX8_uncut 1 = .ok (.getfield 32, 3) := by decide +kernel
theorem dX8_uncut_4 : decode cX8_uncut 4 = .ok (.invokevirtual 153, 3) := by decide +kernel
theorem dX8_uncut_7 : decode cX8_uncut 7 = .ok (.ifCond .eq 10, 3) := by decide +kernel
theorem dX8_uncut_10 : decode cX8_uncut 10 = .ok (.aload_n 0, 1) := by decide +kernel
theorem dX8_uncut_11 : decode cX8_uncut 11 = .ok (.invokevirtual 240, 3) := by decide +kernel
theorem dX8_uncut_14 : decode cX8_uncut 14 = .ok (.goto 5, 3) := by decide +kernel
theorem dX8_uncut_17 : decode cX8_uncut 17 = .ok (.bipush (-2), 2) := by decide +kernel
theorem dX8_uncut_19 : decode cX8_uncut 19 = .ok (.ireturn, 1) := by decide +kernel

theorem dX8_undo_0 : decode cX8_undo 0 = .ok (.aload_n 0, 1) := by decide +kernel
theorem dX8_undo_1 : decode cX8_undo 1 = .ok (.getfield 32, 3) := by decide +kernel
theorem dX8_undo_4 : decode cX8_undo 4 = .ok (.invokevirtual 153, 3) := by decide +kernel
theorem dX8_undo_7 : decode cX8_undo 7 = .ok (.ifCond .ne 6, 3) := by decide +kernel
theorem dX8_undo_10 : decode cX8_undo 10 = .ok (.bipush (-2), 2) := by decide +kernel
theorem dX8_undo_12 : decode cX8_undo 12 = .ok (.ireturn, 1) := by decide +kernel
theorem dX8_undo_13 : decode cX8_undo 13 = .ok (.aload_n 0, 1) := by decide +kernel
theorem dX8_undo_14 : decode cX8_undo 14 = .ok (.getfield 32, 3) := by decide +kernel
theorem dX8_undo_17 : decode cX8_undo 17 = .ok (.getfield 179, 3) := by decide +kernel
theorem dX8_undo_20 : decode cX8_undo 20 = .ok (.ifCond .ne 6, 3) := by decide +kernel
theorem dX8_undo_23 : decode cX8_undo 23 = .ok (.bipush (-5), 2) := by decide +kernel
theorem dX8_undo_25 : decode cX8_undo 25 = .ok (.ireturn, 1) := by decide +kernel
theorem dX8_undo_26 : decode cX8_undo 26 = .ok (.aload_n 0, 1) := by decide +kernel
theorem dX8_undo_27 : decode cX8_undo 27 = .ok (.getfield 32, 3) := by decide +kernel
theorem dX8_undo_30 : decode cX8_undo 30 = .ok (.dup, 1) := by decide +kernel
theorem dX8_undo_31 : decode cX8_undo 31 = .ok (.getfield 179, 3) := by decide +kernel
theorem dX8_undo_34 : decode cX8_undo 34 = .ok (.iconst 1, 1) := by decide +kernel
theorem dX8_undo_35 : decode cX8_undo 35 = .ok (.isub, 1) := by decide +kernel
theorem dX8_undo_36 : decode cX8_undo 36 = .ok (.putfield 179, 3) := by decide +kernel
theorem dX8_undo_39 : decode cX8_undo 39 = .ok (.aload_n 0, 1) := by decide +kernel
theorem dX8_undo_40 : decode cX8_undo 40 = .ok (.invokevirtual 115, 3) := by decide +kernel
theorem dX8_undo_43 : decode cX8_undo 43 = .ok (.aload_n 0, 1) := by decide +kernel
theorem dX8_undo_44 : decode cX8_undo 44 = .ok (.getfield 32, 3) := by decide +kernel
theorem dX8_undo_47 : decode cX8_undo 47 = .ok (.getfield 179, 3) := by decide +kernel
theorem dX8_undo_50 : decode cX8_undo 50 = .ok (.ireturn, 1) := by decide +kernel

theorem dX8_waits_0 : decode cX8_waits 0 = .ok (.aload_n 0, 1) := by decide +kernel
theorem dX8_waits_1 : decode cX8_waits 1 = .ok (.getfield 32, 3) := by decide +kernel
theorem dX8_waits_4 : decode cX8_waits 4 = .ok (.iload_n 1, 1) := by decide +kernel
theorem dX8_waits_5 : decode cX8_waits 5 = .ok (.invokevirtual 196, 3) := by decide +kernel
theorem dX8_waits_8 : decode cX8_waits 8 = .ok (.ifCond .ne 6, 3) := by decide +kernel
theorem dX8_waits_11 : decode cX8_waits 11 = .ok (.bipush (-2), 2) := by decide +kernel
theorem dX8_waits_13 : decode cX8_waits 13 = .ok (.ireturn, 1) := by decide +kernel
theorem dX8_waits_14 : decode cX8_waits 14 = .ok (.iconst 0, 1) := by decide +kernel
theorem dX8_waits_15 : decode cX8_waits 15 = .ok (.istore_n 2, 1) := by decide +kernel
theorem dX8_waits_16 : decode cX8_waits 16 = .ok (.iconst 0, 1) := by decide +kernel
theorem dX8_waits_17 : decode cX8_waits 17 = .ok (.istore_n 3, 1) := by decide +kernel
theorem dX8_waits_18 : decode cX8_waits 18 = .ok (.iload_n 3, 1) := by decide +kernel
theorem dX8_waits_19 : decode cX8_waits 19 = .ok (.aload_n 0, 1) := by decide +kernel
theorem dX8_waits_20 : decode cX8_waits 20 = .ok (.getfield 32, 3) := by decide +kernel
theorem dX8_waits_23 : decode cX8_waits 23 = .ok (.getfield 156, 3) := by decide +kernel
theorem dX8_waits_26 : decode cX8_waits 26 = .ok (.if_icmp .ge 25, 3) := by decide +kernel
theorem dX8_waits_29 : decode cX8_waits 29 = .ok (.iload_n 2, 1) := by decide +kernel
theorem dX8_waits_30 : decode cX8_waits 30 = .ok (.iconst 0, 1) := by decide +kernel
theorem dX8_waits_31 : decode cX8_waits 31 = .ok (.aload_n 0, 1) := by decide +kernel
theorem dX8_waits_32 : decode cX8_waits 32 = .ok (.invokevirtual 189, 3) := by decide +kernel
theorem dX8_waits_35 : decode cX8_waits 35 = .ok (.iload_n 3, 1) := by decide +kernel
theorem dX8_waits_36 : decode cX8_waits 36 = .ok (.iload_n 1, 1) := by decide +kernel
theorem dX8_waits_37 : decode cX8_waits 37 = .ok (.invokevirtual 220, 3) := by decide +kernel
theorem dX8_waits_40 : decode cX8_waits 40 = .ok (.invokestatic 223, 3) := by decide +kernel
theorem dX8_waits_43 : decode cX8_waits 43 = .ok (.iadd, 1) := by decide +kernel
theorem dX8_waits_44 : decode cX8_waits 44 = .ok (.istore_n 2, 1) := by decide +kernel
theorem dX8_waits_45 : decode cX8_waits 45 = .ok (.iinc 3 1, 3) := by decide +kernel
theorem dX8_waits_48 : decode cX8_waits 48 = .ok (.goto (-30), 3) := by decide +kernel
theorem dX8_waits_51 : decode cX8_waits 51 = .ok (.iload_n 2, 1) := by decide +kernel
theorem dX8_waits_52 : decode cX8_waits 52 = .ok (.ireturn, 1) := by decide +kernel

theorem dX8_when_0 : decode cX8_when 0 = .ok (.aload_n 0, 1) := by decide +kernel
theorem dX8_when_1 : decode cX8_when 1 = .ok (.getfield 32, 3) := by decide +kernel
theorem dX8_when_4 : decode cX8_when 4 = .ok (.iload_n 1, 1) := by decide +kernel
theorem dX8_when_5 : decode cX8_when 5 = .ok (.invokevirtual 127, 3) := by decide +kernel
theorem dX8_when_8 : decode cX8_when 8 = .ok (.ifCond .eq 14, 3) := by decide +kernel
theorem dX8_when_11 : decode cX8_when 11 = .ok (.aload_n 0, 1) := by decide +kernel
theorem dX8_when_12 : decode cX8_when 12 = .ok (.invokevirtual 189, 3) := by decide +kernel
theorem dX8_when_15 : decode cX8_when 15 = .ok (.iload_n 1, 1) := by decide +kernel
theorem dX8_when_16 : decode cX8_when 16 = .ok (.invokevirtual 202, 3) := by decide +kernel
theorem dX8_when_19 : decode cX8_when 19 = .ok (.goto 5, 3) := by decide +kernel
theorem dX8_when_22 : decode cX8_when 22 = .ok (.bipush (-2), 2) := by decide +kernel
theorem dX8_when_24 : decode cX8_when 24 = .ok (.ireturn, 1) := by decide +kernel

theorem dX8_with_0 : decode cX8_with 0 = .ok (.aload_n 0, 1) := by decide +kernel
theorem dX8_with_1 : decode cX8_with 1 = .ok (.getfield 32, 3) := by decide +kernel
theorem dX8_with_4 : decode cX8_with 4 = .ok (.iload_n 1, 1) := by decide +kernel
theorem dX8_with_5 : decode cX8_with 5 = .ok (.invokevirtual 127, 3) := by decide +kernel
theorem dX8_with_8 : decode cX8_with 8 = .ok (.ifCond .ne 6, 3) := by decide +kernel
theorem dX8_with_11 : decode cX8_with 11 = .ok (.bipush (-2), 2) := by decide +kernel
theorem dX8_with_13 : decode cX8_with 13 = .ok (.ireturn, 1) := by decide +kernel
theorem dX8_with_14 : decode cX8_with 14 = .ok (.aload_n 0, 1) := by decide +kernel
theorem dX8_with_15 : decode cX8_with 15 = .ok (.invokevirtual 189, 3) := by decide +kernel
theorem dX8_with_18 : decode cX8_with 18 = .ok (.astore_n 2, 1) := by decide +kernel
theorem dX8_with_19 : decode cX8_with 19 = .ok (.aload_n 2, 1) := by decide +kernel
theorem dX8_with_20 : decode cX8_with 20 = .ok (.iload_n 1, 1) := by decide +kernel
theorem dX8_with_21 : decode cX8_with 21 = .ok (.invokevirtual 202, 3) := by decide +kernel
theorem dX8_with_24 : decode cX8_with 24 = .ok (.istore_n 3, 1) := by decide +kernel
theorem dX8_with_25 : decode cX8_with 25 = .ok (.iload_n 3, 1) := by decide +kernel
theorem dX8_with_26 : decode cX8_with 26 = .ok (.iconst (-1), 1) := by decide +kernel
theorem dX8_with_27 : decode cX8_with 27 = .ok (.if_icmp .ne 5, 3) := by decide +kernel
theorem dX8_with_30 : decode cX8_with 30 = .ok (.iconst 0, 1) := by decide +kernel
theorem dX8_with_31 : decode cX8_with 31 = .ok (.ireturn, 1) := by decide +kernel
theorem dX8_with_32 : decode cX8_with 32 = .ok (.aload_n 2, 1) := by decide +kernel
theorem dX8_with_33 : decode cX8_with 33 = .ok (.getfield 205, 3) := by decide +kernel
theorem dX8_with_36 : decode cX8_with 36 = .ok (.aload_n 2, 1) := by decide +kernel
theorem dX8_with_37 : decode cX8_with 37 = .ok (.iload_n 3, 1) := by decide +kernel
theorem dX8_with_38 : decode cX8_with 38 = .ok (.iconst 1, 1) := by decide +kernel
theorem dX8_with_39 : decode cX8_with 39 = .ok (.iadd, 1) := by decide +kernel
theorem dX8_with_40 : decode cX8_with 40 = .ok (.invokevirtual 199, 3) := by decide +kernel
theorem dX8_with_43 : decode cX8_with 43 = .ok (.iand, 1) := by decide +kernel
theorem dX8_with_44 : decode cX8_with 44 = .ok (.aload_n 2, 1) := by decide +kernel
theorem dX8_with_45 : decode cX8_with 45 = .ok (.iload_n 3, 1) := by decide +kernel
theorem dX8_with_46 : decode cX8_with 46 = .ok (.invokevirtual 199, 3) := by decide +kernel
theorem dX8_with_49 : decode cX8_with 49 = .ok (.iconst (-1), 1) := by decide +kernel
theorem dX8_with_50 : decode cX8_with 50 = .ok (.ixor, 1) := by decide +kernel
theorem dX8_with_51 : decode cX8_with 51 = .ok (.iand, 1) := by decide +kernel
theorem dX8_with_52 : decode cX8_with 52 = .ok (.ireturn, 1) := by decide +kernel

theorem dX8_worth_0 : decode cX8_worth 0 = .ok (.aload_n 0, 1) := by decide +kernel
theorem dX8_worth_1 : decode cX8_worth 1 = .ok (.getfield 32, 3) := by decide +kernel
theorem dX8_worth_4 : decode cX8_worth 4 = .ok (.invokevirtual 153, 3) := by decide +kernel
theorem dX8_worth_7 : decode cX8_worth 7 = .ok (.ifCond .eq 18, 3) := by decide +kernel
theorem dX8_worth_10 : decode cX8_worth 10 = .ok (.iload_n 1, 1) := by decide +kernel
theorem dX8_worth_11 : decode cX8_worth 11 = .ok (.ifCond .lt 14, 3) := by decide +kernel
theorem dX8_worth_14 : decode cX8_worth 14 = .ok (.iload_n 1, 1) := by decide +kernel
theorem dX8_worth_15 : decode cX8_worth 15 = .ok (.aload_n 0, 1) := by decide +kernel
theorem dX8_worth_16 : decode cX8_worth 16 = .ok (.getfield 32, 3) := by decide +kernel
theorem dX8_worth_19 : decode cX8_worth 19 = .ok (.invokevirtual 243, 3) := by decide +kernel
theorem dX8_worth_22 : decode cX8_worth 22 = .ok (.if_icmp .le 6, 3) := by decide +kernel
theorem dX8_worth_25 : decode cX8_worth 25 = .ok (.bipush (-2), 2) := by decide +kernel
theorem dX8_worth_27 : decode cX8_worth 27 = .ok (.ireturn, 1) := by decide +kernel
theorem dX8_worth_28 : decode cX8_worth 28 = .ok (.aload_n 0, 1) := by decide +kernel
theorem dX8_worth_29 : decode cX8_worth 29 = .ok (.getfield 59, 3) := by decide +kernel
theorem dX8_worth_32 : decode cX8_worth 32 = .ok (.iconst (-1), 1) := by decide +kernel
theorem dX8_worth_33 : decode cX8_worth 33 = .ok (.invokevirtual 257, 3) := by decide +kernel
theorem dX8_worth_36 : decode cX8_worth 36 = .ok (.aload_n 0, 1) := by decide +kernel
theorem dX8_worth_37 : decode cX8_worth 37 = .ok (.iload_n 1, 1) := by decide +kernel
theorem dX8_worth_38 : decode cX8_worth 38 = .ok (.invokevirtual 260, 3) := by decide +kernel
theorem dX8_worth_41 : decode cX8_worth 41 = .ok (.ireturn, 1) := by decide +kernel

theorem dX8_write_0 : decode cX8_write 0 = .ok (.aload_n 0, 1) := by decide +kernel
theorem dX8_write_1 : decode cX8_write 1 = .ok (.getfield 46, 3) := by decide +kernel
theorem dX8_write_4 : decode cX8_write 4 = .ok (.iload_n 1, 1) := by decide +kernel
theorem dX8_write_5 : decode cX8_write 5 = .ok (.invokevirtual 378, 3) := by decide +kernel
theorem dX8_write_8 : decode cX8_write 8 = .ok (.ifCond .ne 6, 3) := by decide +kernel
theorem dX8_write_11 : decode cX8_write 11 = .ok (.bipush (-2), 2) := by decide +kernel
theorem dX8_write_13 : decode cX8_write 13 = .ok (.ireturn, 1) := by decide +kernel
theorem dX8_write_14 : decode cX8_write 14 = .ok (.aload_n 0, 1) := by decide +kernel
theorem dX8_write_15 : decode cX8_write 15 = .ok (.getfield 46, 3) := by decide +kernel
theorem dX8_write_18 : decode cX8_write 18 = .ok (.iload_n 1, 1) := by decide +kernel
theorem dX8_write_19 : decode cX8_write 19 = .ok (.invokevirtual 384, 3) := by decide +kernel
theorem dX8_write_22 : decode cX8_write 22 = .ok (.ifCond .eq 6, 3) := by decide +kernel
theorem dX8_write_25 : decode cX8_write 25 = .ok (.bipush (-6), 2) := by decide +kernel
theorem dX8_write_27 : decode cX8_write 27 = .ok (.ireturn, 1) := by decide +kernel
theorem dX8_write_28 : decode cX8_write 28 = .ok (.aload_n 0, 1) := by decide +kernel
theorem dX8_write_29 : decode cX8_write 29 = .ok (.getfield 46, 3) := by decide +kernel
theorem dX8_write_32 : decode cX8_write 32 = .ok (.iload_n 1, 1) := by decide +kernel
theorem dX8_write_33 : decode cX8_write 33 = .ok (.iload_n 2, 1) := by decide +kernel
theorem dX8_write_34 : decode cX8_write 34 = .ok (.iconst 1, 1) := by decide +kernel
theorem dX8_write_35 : decode cX8_write 35 = .ok (.invokevirtual 387, 3) := by decide +kernel
theorem dX8_write_38 : decode cX8_write 38 = .ok (.ifCond .ne 6, 3) := by decide +kernel
theorem dX8_write_41 : decode cX8_write 41 = .ok (.bipush (-7), 2) := by decide +kernel
theorem dX8_write_43 : decode cX8_write 43 = .ok (.ireturn, 1) := by decide +kernel
theorem dX8_write_44 : decode cX8_write 44 = .ok (.aload_n 0, 1) := by decide +kernel
theorem dX8_write_45 : decode cX8_write 45 = .ok (.getfield 46, 3) := by decide +kernel
theorem dX8_write_48 : decode cX8_write 48 = .ok (.iload_n 1, 1) := by decide +kernel
theorem dX8_write_49 : decode cX8_write 49 = .ok (.iload_n 2, 1) := by decide +kernel
theorem dX8_write_50 : decode cX8_write 50 = .ok (.lload_n 3, 1) := by decide +kernel
theorem dX8_write_51 : decode cX8_write 51 = .ok (.invokevirtual 391, 3) := by decide +kernel
theorem dX8_write_54 : decode cX8_write 54 = .ok (.iconst 0, 1) := by decide +kernel
theorem dX8_write_55 : decode cX8_write 55 = .ok (.ireturn, 1) := by decide +kernel

theorem dX9_ages_0 : decode cX9_ages 0 = .ok (.aload_n 0, 1) := by decide +kernel
theorem dX9_ages_1 : decode cX9_ages 1 = .ok (.iconst 0, 1) := by decide +kernel
theorem dX9_ages_2 : decode cX9_ages 2 = .ok (.putfield 83, 3) := by decide +kernel
theorem dX9_ages_5 : decode cX9_ages 5 = .ok (.aload_n 0, 1) := by decide +kernel
theorem dX9_ages_6 : decode cX9_ages 6 = .ok (.iload_n 1, 1) := by decide +kernel
theorem dX9_ages_7 : decode cX9_ages 7 = .ok (.i2l, 1) := by decide +kernel
theorem dX9_ages_8 : decode cX9_ages 8 = .ok (.invokevirtual 254, 3) := by decide +kernel
theorem dX9_ages_11 : decode cX9_ages 11 = .ok (.ifCond .ne 6, 3) := by decide +kernel
theorem dX9_ages_14 : decode cX9_ages 14 = .ok (.bipush (-100), 2) := by decide +kernel
theorem dX9_ages_16 : decode cX9_ages 16 = .ok (.ireturn, 1) := by decide +kernel
theorem dX9_ages_17 : decode cX9_ages 17 = .ok (.aload_n 0, 1) := by decide +kernel
theorem dX9_ages_18 : decode cX9_ages 18 = .ok (.invokevirtual 330, 3) := by decide +kernel
theorem dX9_ages_21 : decode cX9_ages 21 = .ok (.aload_n 0, 1) := by decide +kernel
theorem dX9_ages_22 : decode cX9_ages 22 = .ok (.iload_n 1, 1) := by decide +kernel
theorem dX9_ages_23 : decode cX9_ages 23 = .ok (.aload_n 0, 1) := by decide +kernel
theorem dX9_ages_24 : decode cX9_ages 24 = .ok (.invokevirtual 251, 3) := by decide +kernel
theorem dX9_ages_27 : decode cX9_ages 27 = .ok (.invokevirtual 301, 3) := by decide +kernel
theorem dX9_ages_30 : decode cX9_ages 30 = .ok (.aload_n 0, 1) := by decide +kernel
theorem dX9_ages_31 : decode cX9_ages 31 = .ok (.iload_n 1, 1) := by decide +kernel
theorem dX9_ages_32 : decode cX9_ages 32 = .ok (.iconst 0, 1) := by decide +kernel
theorem dX9_ages_33 : decode cX9_ages 33 = .ok (.invokevirtual 301, 3) := by decide +kernel
theorem dX9_ages_36 : decode cX9_ages 36 = .ok (.isub, 1) := by decide +kernel
theorem dX9_ages_37 : decode cX9_ages 37 = .ok (.ireturn, 1) := by decide +kernel

theorem dX9_air_0 : decode cX9_air 0 = .ok (.aload_n 0, 1) := by decide +kernel
theorem dX9_air_1 : decode cX9_air 1 = .ok (.iconst 0, 1) := by decide +kernel
theorem dX9_air_2 : decode cX9_air 2 = .ok (.putfield 83, 3) := by decide +kernel
theorem dX9_air_5 : decode cX9_air 5 = .ok (.aload_n 0, 1) := by decide +kernel
theorem dX9_air_6 : decode cX9_air 6 = .ok (.iload_n 1, 1) := by decide +kernel
theorem dX9_air_7 : decode cX9_air 7 = .ok (.i2l, 1) := by decide +kernel
theorem dX9_air_8 : decode cX9_air 8 = .ok (.invokevirtual 254, 3) := by decide +kernel
theorem dX9_air_11 : decode cX9_air 11 = .ok (.ifCond .eq 11, 3) := by decide +kernel
theorem dX9_air_14 : decode cX9_air 14 = .ok (.aload_n 0, 1) := by decide +kernel
theorem dX9_air_15 : decode cX9_air 15 = .ok (.iload_n 2, 1) := by decide +kernel
theorem dX9_air_16 : decode cX9_air 16 = .ok (.invokevirtual 333, 3) := by decide +kernel
theorem dX9_air_19 : decode cX9_air 19 = .ok (.ifCond .ne 6, 3) := by decide +kernel
theorem dX9_air_22 : decode cX9_air 22 = .ok (.bipush (-2), 2) := by decide +kernel
theorem dX9_air_24 : decode cX9_air 24 = .ok (.ireturn, 1) := by decide +kernel
theorem dX9_air_25 : decode cX9_air 25 = .ok (.aload_n 0, 1) := by decide +kernel
theorem dX9_air_26 : decode cX9_air 26 = .ok (.getfield 34, 3) := by decide +kernel
theorem dX9_air_29 : decode cX9_air 29 = .ok (.bipush 6, 2) := by decide +kernel
theorem dX9_air_31 : decode cX9_air 31 = .ok (.iaload, 1) := by decide +kernel
theorem dX9_air_32 : decode cX9_air 32 = .ok (.bipush 20, 2) := by decide +kernel
theorem dX9_air_34 : decode cX9_air 34 = .ok (.if_icmp .ne 6, 3) := by decide +kernel
theorem dX9_air_37 : decode cX9_air 37 = .ok (.bipush (-5), 2) := by decide +kernel
theorem dX9_air_39 : decode cX9_air 39 = .ok (.ireturn, 1) := by decide +kernel
theorem dX9_air_40 : decode cX9_air 40 = .ok (.aload_n 0, 1) := by decide +kernel
theorem dX9_air_41 : decode cX9_air 41 = .ok (.iconst 1, 1) := by decide +kernel
theorem dX9_air_42 : decode cX9_air 42 = .ok (.iload_n 1, 1) := by decide +kernel
theorem dX9_air_43 : decode cX9_air 43 = .ok (.iload_n 2, 1) := by decide +kernel
theorem dX9_air_44 : decode cX9_air 44 = .ok (.invokevirtual 475, 3) := by decide +kernel
theorem dX9_air_47 : decode cX9_air 47 = .ok (.aload_n 0, 1) := by decide +kernel
theorem dX9_air_48 : decode cX9_air 48 = .ok (.invokevirtual 330, 3) := by decide +kernel
theorem dX9_air_51 : decode cX9_air 51 = .ok (.aload_n 0, 1) := by decide +kernel
theorem dX9_air_52 : decode cX9_air 52 = .ok (.iload_n 1, 1) := by decide +kernel
theorem dX9_air_53 : decode cX9_air 53 = .ok (.aload_n 0, 1) := by decide +kernel
theorem dX9_air_54 : decode cX9_air 54 = .ok (.invokevirtual 251, 3) := by decide +kernel
theorem dX9_air_57 : decode cX9_air 57 = .ok (.invokevirtual 301, 3) := by decide +kernel
theorem dX9_air_60 : decode cX9_air 60 = .ok (.ireturn, 1) := by decide +kernel

theorem dX9_all_0 : decode cX9_all 0 = .ok (.aload_n 0, 1) := by decide +kernel
theorem dX9_all_1 : decode cX9_all 1 = .ok (.iconst 0, 1) := by decide +kernel
theorem dX9_all_2 : decode cX9_all 2 = .ok (.putfield 83, 3) := by decide +kernel
theorem dX9_all_5 : decode cX9_all 5 = .ok (.aload_n 0, 1) := by decide +kernel
theorem dX9_all_6 : decode cX9_all 6 = .ok (.invokevirtual 248, 3) := by decide +kernel
theorem dX9_all_9 : decode cX9_all 9 = .ok (.ifCond .ne 6, 3) := by decide +kernel
theorem dX9_all_12 : decode cX9_all 12 = .ok (.bipush (-2), 2) := by decide +kernel
theorem dX9_all_14 : decode cX9_all 14 = .ok (.ireturn, 1) := by decide +kernel
theorem dX9_all_15 : decode cX9_all 15 = .ok (.aload_n 0, 1) := by decide +kernel
theorem dX9_all_16 : decode cX9_all 16 = .ok (.invokevirtual 330, 3) := by decide +kernel
theorem dX9_all_19 : decode cX9_all 19 = .ok (.aload_n 0, 1) := by decide +kernel
theorem dX9_all_20 : decode cX9_all 20 = .ok (.invokevirtual 339, 3) := by decide +kernel
theorem dX9_all_23 : decode cX9_all 23 = .ok (.ireturn, 1) := by decide +kernel

theorem dX9_anew_0 : decode cX9_anew 0 = .ok (.aload_n 0, 1) := by decide +kernel
theorem dX9_anew_1 : decode cX9_anew 1 = .ok (.iconst 0, 1) := by decide +kernel
theorem dX9_anew_2 : decode cX9_anew 2 = .ok (.putfield 83, 3) := by decide +kernel
theorem dX9_anew_5 : decode cX9_anew 5 = .ok (.aload_n 0, 1) := by decide +kernel
theorem dX9_anew_6 : decode cX9_anew 6 = .ok (.invokevirtual 248, 3) := by decide +kernel
theorem dX9_anew_9 : decode cX9_anew 9 = .ok (.ifCond .ne 6, 3) := by decide +kernel
theorem dX9_anew_12 : decode cX9_anew 12 = .ok (.bipush (-2), 2) := by decide +kernel
theorem dX9_anew_14 : decode cX9_anew 14 = .ok (.ireturn, 1) := by decide +kernel
theorem dX9_anew_15 : decode cX9_anew 15 = .ok (.aload_n 0, 1) := by decide +kernel
theorem dX9_anew_16 : decode cX9_anew 16 = .ok (.getfield 34, 3) := by decide +kernel
theorem dX9_anew_19 : decode cX9_anew 19 = .ok (.bipush 6, 2) := by decide +kernel
theorem dX9_anew_21 : decode cX9_anew 21 = .ok (.iaload, 1) := by decide +kernel
theorem dX9_anew_22 : decode cX9_anew 22 = .ok (.istore_n 1, 1) := by decide +kernel
theorem dX9_anew_23 : decode cX9_anew 23 = .ok (.aload_n 0, 1) := by decide +kernel
theorem dX9_anew_24 : decode cX9_anew 24 = .ok (.getfield 34, 3) := by decide +kernel
theorem dX9_anew_27 : decode cX9_anew 27 = .ok (.bipush 6, 2) := by decide +kernel
theorem dX9_anew_29 : decode cX9_anew 29 = .ok (.iconst 0, 1) := by decide +kernel
theorem dX9_anew_30 : decode cX9_anew 30 = .ok (.iastore, 1) := by decide +kernel
theorem dX9_anew_31 : decode cX9_anew 31 = .ok (.iload_n 1, 1) := by decide +kernel
theorem dX9_anew_32 : decode cX9_anew 32 = .ok (.ireturn, 1) := by decide +kernel

theorem dX9_areTwo_0 : decode cX9_areTwo 0 = .ok (.aload_n 0, 1) := by decide +kernel
theorem dX9_areTwo_1 : decode cX9_areTwo 1 = .ok (.iload_n 1, 1) := by decide +kernel
theorem dX9_areTwo_2 : decode cX9_areTwo 2 = .ok (.i2l, 1) := by decide +kernel
theorem dX9_areTwo_3 : decode cX9_areTwo 3 = .ok (.invokevirtual 254, 3) := by decide +kernel
theorem dX9_areTwo_6 : decode cX9_areTwo 6 = .ok (.ifCond .eq 21, 3) := by decide +kernel
theorem dX9_areTwo_9 : decode cX9_areTwo 9 = .ok (.aload_n 0, 1) := by decide +kernel
theorem dX9_areTwo_10 : decode cX9_areTwo 10 = .ok (.iload_n 2, 1) := by decide +kernel
theorem dX9_areTwo_11 : decode cX9_areTwo 11 = .ok (.i2l, 1) := by decide +kernel
theorem dX9_areTwo_12 : decode cX9_areTwo 12 = .ok (.invokevirtual 254, 3) := by decide +kernel
theorem dX9_areTwo_15 : decode cX9_areTwo 15 = .ok (.ifCond .eq 12, 3) := by decide +kernel
theorem dX9_areTwo_18 : decode cX9_areTwo 18 = .ok (.iload_n 1, 1) := by decide +kernel
theorem dX9_areTwo_19 : decode cX9_areTwo 19 = .ok (.iload_n 2, 1) := by decide +kernel
theorem dX9_areTwo_20 : decode cX9_areTwo 20 = .ok (.if_icmp .eq 7, 3) := by decide +kernel
theorem dX9_areTwo_23 : decode cX9_areTwo 23 = .ok (.iconst 1, 1) := by decide +kernel
theorem dX9_areTwo_24 : decode cX9_areTwo 24 = .ok (.goto 4, 3) := by decide +kernel
theorem dX9_areTwo_27 : decode cX9_areTwo 27 = .ok (.iconst 0, 1) := by decide +kernel
theorem dX9_areTwo_28 : decode cX9_areTwo 28 = .ok (.ireturn, 1) := by decide +kernel

theorem dX9_ask_0 : decode cX9_ask 0 = .ok (.aload_n 0, 1) := by decide +kernel
theorem dX9_ask_1 : decode cX9_ask 1 = .ok (.iconst 0, 1) := by decide +kernel
theorem dX9_ask_2 : decode cX9_ask 2 = .ok (.putfield 83, 3) := by decide +kernel
theorem dX9_ask_5 : decode cX9_ask 5 = .ok (.aload_n 0, 1) := by decide +kernel
theorem dX9_ask_6 : decode cX9_ask 6 = .ok (.iload_n 1, 1) := by decide +kernel
theorem dX9_ask_7 : decode cX9_ask 7 = .ok (.aload_n 0, 1) := by decide +kernel
theorem dX9_ask_8 : decode cX9_ask 8 = .ok (.iload_n 2, 1) := by decide +kernel
theorem dX9_ask_9 : decode cX9_ask 9 = .ok (.i2l, 1) := by decide +kernel
theorem dX9_ask_10 : decode cX9_ask 10 = .ok (.invokevirtual 254, 3) := by decide +kernel
theorem dX9_ask_13 : decode cX9_ask 13 = .ok (.invokevirtual 410, 3) := by decide +kernel
theorem dX9_ask_16 : decode cX9_ask 16 = .ok (.istore_n 3, 1) := by decide +kernel
theorem dX9_ask_17 : decode cX9_ask 17 = .ok (.iload_n 3, 1) := by decide +kernel
theorem dX9_ask_18 : decode cX9_ask 18 = .ok (.ifCond .eq 5, 3) := by decide +kernel
theorem dX9_ask_21 : decode cX9_ask 21 = .ok (.iload_n 3, 1) := by decide +kernel
theorem dX9_ask_22 : decode cX9_ask 22 = .ok (.ireturn, 1) := by decide +kernel
theorem dX9_ask_23 : decode cX9_ask 23 = .ok (.aload_n 0, 1) := by decide +kernel
theorem dX9_ask_24 : decode cX9_ask 24 = .ok (.iload_n 1, 1) := by decide +kernel
theorem dX9_ask_25 : decode cX9_ask 25 = .ok (.iload_n 2, 1) := by decide +kernel
theorem dX9_ask_26 : decode cX9_ask 26 = .ok (.invokevirtual 414, 3) := by decide +kernel
theorem dX9_ask_29 : decode cX9_ask 29 = .ok (.aload_n 0, 1) := by decide +kernel
theorem dX9_ask_30 : decode cX9_ask 30 = .ok (.getfield 404, 3) := by decide +kernel
theorem dX9_ask_33 : decode cX9_ask 33 = .ok (.ireturn, 1) := by decide +kernel

theorem dX9_back_0 : decode cX9_back 0 = .ok (.aload_n 0, 1) := by decide +kernel
theorem dX9_back_1 : decode cX9_back 1 = .ok (.iconst 0, 1) := by decide +kernel
theorem dX9_back_2 : decode cX9_back 2 = .ok (.putfield 83, 3) := by decide +kernel
theorem dX9_back_5 : decode cX9_back 5 = .ok (.iload_n 1, 1) := by decide +kernel
theorem dX9_back_6 : decode cX9_back 6 = .ok (.i2l, 1) := by decide +kernel
theorem dX9_back_7 : decode cX9_back 7 = .ok (.lconst 0, 1) := by decide +kernel
theorem dX9_back_8 : decode cX9_back 8 = .ok (.ldc2_w 325, 3) := by decide +kernel
theorem dX9_back_11 : decode cX9_back 11 = .ok (.invokestatic 88, 3) := by decide +kernel
theorem dX9_back_14 : decode cX9_back 14 = .ok (.ifCond .ne 6, 3) := by decide +kernel
theorem dX9_back_17 : decode cX9_back 17 = .ok (.bipush (-2), 2) := by decide +kernel
theorem dX9_back_19 : decode cX9_back 19 = .ok (.ireturn, 1) := by decide +kernel
theorem dX9_back_20 : decode cX9_back 20 = .ok (.aload_n 0, 1) := by decide +kernel
theorem dX9_back_21 : decode cX9_back 21 = .ok (.getfield 49, 3) := by decide +kernel
theorem dX9_back_24 : decode cX9_back 24 = .ok (.iload_n 1, 1) := by decide +kernel
theorem dX9_back_25 : decode cX9_back 25 = .ok (.baload, 1) := by decide +kernel
theorem dX9_back_26 : decode cX9_back 26 = .ok (.ifCond .ne 6, 3) := by decide +kernel
theorem dX9_back_29 : decode cX9_back 29 = .ok (.bipush (-6), 2) := by decide +kernel
theorem dX9_back_31 : decode cX9_back 31 = .ok (.ireturn, 1) := by decide +kernel
theorem dX9_back_32 : decode cX9_back 32 = .ok (.aload_n 0, 1) := by decide +kernel
theorem dX9_back_33 : decode cX9_back 33 = .ok (.iconst 1, 1) := by decide +kernel
theorem dX9_back_34 : decode cX9_back 34 = .ok (.iload_n 1, 1) := by decide +kernel
theorem dX9_back_35 : decode cX9_back 35 = .ok (.iadd, 1) := by decide +kernel
theorem dX9_back_36 : decode cX9_back 36 = .ok (.iconst 0, 1) := by decide +kernel
theorem dX9_back_37 : decode cX9_back 37 = .ok (.invokevirtual 238, 3) := by decide +kernel
theorem dX9_back_40 : decode cX9_back 40 = .ok (.iconst 0, 1) := by decide +kernel
theorem dX9_back_41 : decode cX9_back 41 = .ok (.ireturn, 1) := by decide +kernel

theorem dX9_begins_0 : decode cX9_begins 0 = .ok (.aload_n 0, 1) := by decide +kernel
theorem dX9_begins_1 : decode cX9_begins 1 = .ok (.iconst 0, 1) := by decide +kernel
theorem dX9_begins_2 : decode cX9_begins 2 = .ok (.putfield 135, 3) := by decide +kernel
theorem dX9_begins_5 : decode cX9_begins 5 = .ok (.aload_n 0, 1) := by decide +kernel
theorem dX9_begins_6 : decode cX9_begins 6 = .ok (.iconst (-1), 1) := by decide +kernel
theorem dX9_begins_7 : decode cX9_begins 7 = .ok (.putfield 138, 3) := by decide +kernel
theorem dX9_begins_10 : decode cX9_begins 10 = .ok (.aload_n 0, 1) := by decide +kernel
theorem dX9_begins_11 : decode cX9_begins 11 = .ok (.iconst 0, 1) := by decide +kernel
theorem dX9_begins_12 : decode cX9_begins 12 = .ok (.putfield 107, 3) := by decide +kernel
theorem dX9_begins_15 : decode cX9_begins 15 = .ok (.aload_n 0, 1) := by decide +kernel
theorem dX9_begins_16 : decode cX9_begins 16 = .ok (.invokevirtual 145, 3) := by decide +kernel
theorem dX9_begins_19 : decode cX9_begins 19 = .ok (.return_, 1) := by decide +kernel

theorem dX9_best_0 : decode cX9_best 0 = .ok (.aload_n 0, 1) := by decide +kernel
theorem dX9_best_1 : decode cX9_best 1 = .ok (.iconst 0, 1) := by decide +kernel
theorem dX9_best_2 : decode cX9_best 2 = .ok (.putfield 83, 3) := by decide +kernel
theorem dX9_best_5 : decode cX9_best 5 = .ok (.aload_n 0, 1) := by decide +kernel
theorem dX9_best_6 : decode cX9_best 6 = .ok (.iload_n 1, 1) := by decide +kernel
theorem dX9_best_7 : decode cX9_best 7 = .ok (.i2l, 1) := by decide +kernel
theorem dX9_best_8 : decode cX9_best 8 = .ok (.invokevirtual 254, 3) := by decide +kernel
theorem dX9_best_11 : decode cX9_best 11 = .ok (.ifCond .ne 6, 3) := by decide +kernel
theorem dX9_best_14 : decode cX9_best 14 = .ok (.bipush (-2), 2) := by decide +kernel
theorem dX9_best_16 : decode cX9_best 16 = .ok (.ireturn, 1) := by decide +kernel
theorem dX9_best_17 : decode cX9_best 17 = .ok (.aload_n 0, 1) := by decide +kernel
theorem dX9_best_18 : decode cX9_best 18 = .ok (.invokevirtual 330, 3) := by decide +kernel
theorem dX9_best_21 : decode cX9_best 21 = .ok (.iconst 0, 1) := by decide +kernel
theorem dX9_best_22 : decode cX9_best 22 = .ok (.istore_n 2, 1) := by decide +kernel
theorem dX9_best_23 : decode cX9_best 23 = .ok (.iconst 0, 1) := by decide +kernel
theorem dX9_best_24 : decode cX9_best 24 = .ok (.istore_n 3, 1) := by decide +kernel
theorem dX9_best_25 : decode cX9_best 25 = .ok (.iload_n 3, 1) := by decide +kernel
theorem dX9_best_26 : decode cX9_best 26 = .ok (.aload_n 0, 1) := by decide +kernel
theorem dX9_best_27 : decode cX9_best 27 = .ok (.invokevirtual 251, 3) := by decide +kernel
theorem dX9_best_30 : decode cX9_best 30 = .ok (.if_icmp .gt 20, 3) := by decide +kernel
theorem dX9_best_33 : decode cX9_best 33 = .ok (.iload_n 2, 1) := by decide +kernel
theorem dX9_best_34 : decode cX9_best 34 = .ok (.aload_n 0, 1) := by decide +kernel
theorem dX9_best_35 : decode cX9_best 35 = .ok (.iload_n 1, 1) := by decide +kernel
theorem dX9_best_36 : decode cX9_best 36 = .ok (.iload_n 3, 1) := by decide +kernel
theorem dX9_best_37 : decode cX9_best 37 = .ok (.invokevirtual 342, 3) := by decide +kernel
theorem dX9_best_40 : decode cX9_best 40 = .ok (.invokestatic 279, 3) := by decide +kernel
theorem dX9_best_43 : decode cX9_best 43 = .ok (.istore_n 2, 1) := by decide +kernel
theorem dX9_best_44 : decode cX9_best 44 = .ok (.iinc 3 1, 3) := by decide +kernel
theorem dX9_best_47 : decode cX9_best 47 = .ok (.goto (-22), 3) := by decide +kernel
theorem dX9_best_50 : decode cX9_best 50 = .ok (.iload_n 2, 1) := by decide +kernel
theorem dX9_best_51 : decode cX9_best 51 = .ok (.ireturn, 1) := by decide +kernel

theorem dX9_blunt_0 : decode cX9_blunt 0 = .ok (.aload_n 0, 1) := by decide +kernel
theorem dX9_blunt_1 : decode cX9_blunt 1 = .ok (.iconst 0, 1) := by decide +kernel
theorem dX9_blunt_2 : decode cX9_blunt 2 = .ok (.putfield 83, 3) := by decide +kernel
theorem dX9_blunt_5 : decode cX9_blunt 5 = .ok (.aload_n 0, 1) := by decide +kernel
theorem dX9_blunt_6 : decode cX9_blunt 6 = .ok (.invokevirtual 248, 3) := by decide +kernel
theorem dX9_blunt_9 : decode cX9_blunt 9 = .ok (.ifCond .ne 6, 3) := by decide +kernel
theorem dX9_blunt_12 : decode cX9_blunt 12 = .ok (.bipush (-2), 2) := by decide +kernel
theorem dX9_blunt_14 : decode cX9_blunt 14 = .ok (.ireturn, 1) := by decide +kernel
theorem dX9_blunt_15 : decode cX9_blunt 15 = .ok (.aload_n 0, 1) := by decide +kernel
theorem dX9_blunt_16 : decode cX9_blunt 16 = .ok (.invokevirtual 330, 3) := by decide +kernel
theorem dX9_blunt_19 : decode cX9_blunt 19 = .ok (.iconst (-1), 1) := by decide +kernel
theorem dX9_blunt_20 : decode cX9_blunt 20 = .ok (.istore_n 1, 1) := by decide +kernel
theorem dX9_blunt_21 : decode cX9_blunt 21 = .ok (.aload_n 0, 1) := by decide +kernel
theorem dX9_blunt_22 : decode cX9_blunt 22 = .ok (.invokevirtual 339, 3) := by decide +kernel
theorem dX9_blunt_25 : decode cX9_blunt 25 = .ok (.istore_n 2, 1) := by decide +kernel
theorem dX9_blunt_26 : decode cX9_blunt 26 = .ok (.iconst 0, 1) := by decide +kernel
theorem dX9_blunt_27 : decode cX9_blunt 27 = .ok (.istore_n 3, 1) := by decide +kernel
theorem dX9_blunt_28 : decode cX9_blunt 28 = .ok (.iload_n 3, 1) := by decide +kernel
theorem dX9_blunt_29 : decode cX9_blunt 29 = .ok (.aload_n 0, 1) := by decide +kernel
theorem dX9_blunt_30 : decode cX9_blunt 30 = .ok (.getfield 34, 3) := by decide +kernel
theorem dX9_blunt_33 : decode cX9_blunt 33 = .ok (.iconst 5, 1) := by decide +kernel
theorem dX9_blunt_34 : decode cX9_blunt 34 = .ok (.iaload, 1) := by decide +kernel
theorem dX9_blunt_35 : decode cX9_blunt 35 = .ok (.if_icmp .ge 42, 3) := by decide +kernel
theorem dX9_blunt_38 : decode cX9_blunt 38 = .ok (.aload_n 0, 1) := by decide +kernel
theorem dX9_blunt_39 : decode cX9_blunt 39 = .ok (.invokevirtual 319, 3) := by decide +kernel
theorem dX9_blunt_42 : decode cX9_blunt 42 = .ok (.aload_n 0, 1) := by decide +kernel
theorem dX9_blunt_43 : decode cX9_blunt 43 = .ok (.iconst 1, 1) := by decide +kernel
theorem dX9_blunt_44 : decode cX9_blunt 44 = .ok (.iload_n 3, 1) := by decide +kernel
theorem dX9_blunt_45 : decode cX9_blunt 45 = .ok (.ishl, 1) := by decide +kernel
theorem dX9_blunt_46 : decode cX9_blunt 46 = .ok (.putfield 269, 3) := by decide +kernel
theorem dX9_blunt_49 : decode cX9_blunt 49 = .ok (.aload_n 0, 1) := by decide +kernel
theorem dX9_blunt_50 : decode cX9_blunt 50 = .ok (.invokevirtual 322, 3) := by decide +kernel
theorem dX9_blunt_53 : decode cX9_blunt 53 = .ok (.aload_n 0, 1) := by decide +kernel
theorem dX9_blunt_54 : decode cX9_blunt 54 = .ok (.invokevirtual 339, 3) := by decide +kernel
theorem dX9_blunt_57 : decode cX9_blunt 57 = .ok (.iload_n 2, 1) := by decide +kernel
theorem dX9_blunt_58 : decode cX9_blunt 58 = .ok (.if_icmp .gt 6, 3) := by decide +kernel
theorem dX9_blunt_61 : decode cX9_blunt 61 = .ok (.goto 10, 3) := by decide +kernel
theorem dX9_blunt_64 : decode cX9_blunt 64 = .ok (.iload_n 3, 1) := by decide +kernel
theorem dX9_blunt_65 : decode cX9_blunt 65 = .ok (.istore_n 1, 1) := by decide +kernel
theorem dX9_blunt_66 : decode cX9_blunt 66 = .ok (.aload_n 0, 1) := by decide +kernel
theorem dX9_blunt_67 : decode cX9_blunt 67 = .ok (.invokevirtual 339, 3) := by decide +kernel
theorem dX9_blunt_70 : decode cX9_blunt 70 = .ok (.istore_n 2, 1) := by decide +kernel
theorem dX9_blunt_71 : decode cX9_blunt 71 = .ok (.iinc 3 1, 3) := by decide +kernel
theorem dX9_blunt_74 : decode cX9_blunt 74 = .ok (.goto (-46), 3) := by decide +kernel
theorem dX9_blunt_77 : decode cX9_blunt 77 = .ok (.iload_n 1, 1) := by decide +kernel
theorem dX9_blunt_78 : decode cX9_blunt 78 = .ok (.ireturn, 1) := by decide +kernel

theorem dX9_by_0 : decode cX9_by 0 = .ok (.aload_n 0, 1) := by decide +kernel
theorem dX9_by_1 : decode cX9_by 1 = .ok (.iconst 0, 1) := by decide +kernel
theorem dX9_by_2 : decode cX9_by 2 = .ok (.putfield 83, 3) := by decide +kernel
theorem dX9_by_5 : decode cX9_by 5 = .ok (.aload_n 0, 1) := by decide +kernel
theorem dX9_by_6 : decode cX9_by 6 = .ok (.invokevirtual 248, 3) := by decide +kernel
theorem dX9_by_9 : decode cX9_by 9 = .ok (.ifCond .eq 23, 3) := by decide +kernel
theorem dX9_by_12 : decode cX9_by 12 = .ok (.iload_n 1, 1) := by decide +kernel
theorem dX9_by_13 : decode cX9_by 13 = .ok (.i2l, 1) := by decide +kernel
theorem dX9_by_14 : decode cX9_by 14 = .ok (.lconst 0, 1) := by decide +kernel
theorem dX9_by_15 : decode cX9_by 15 = .ok (.ldc2_w 86, 3) := by decide +kernel
theorem dX9_by_18 : decode cX9_by 18 = .ok (.invokestatic 88, 3) := by decide +kernel
theorem dX9_by_21 : decode cX9_by 21 = .ok (.ifCond .eq 11, 3) := by decide +kernel
theorem dX9_by_24 : decode cX9_by 24 = .ok (.aload_n 0, 1) := by decide +kernel
theorem dX9_by_25 : decode cX9_by 25 = .ok (.iload_n 1, 1) := by decide +kernel
theorem dX9_by_26 : decode cX9_by 26 = .ok (.invokevirtual 417, 3) := by decide +kernel
theorem dX9_by_29 : decode cX9_by 29 = .ok (.goto 5, 3) := by decide +kernel
theorem dX9_by_32 : decode cX9_by 32 = .ok (.bipush (-2), 2) := by decide +kernel
theorem dX9_by_34 : decode cX9_by 34 = .ok (.ireturn, 1) := by decide +kernel

theorem dX9_chance_0 : decode cX9_chance 0 = .ok (.aload_n 0, 1) := by decide +kernel
theorem dX9_chance_1 : decode cX9_chance 1 = .ok (.iconst 0, 1) := by decide +kernel
theorem dX9_chance_2 : decode cX9_chance 2 = .ok (.putfield 83, 3) := by decide +kernel
theorem dX9_chance_5 : decode cX9_chance 5 = .ok (.aload_n 0, 1) := by decide +kernel
theorem dX9_chance_6 : decode cX9_chance 6 = .ok (.iload_n 1, 1) := by decide +kernel
theorem dX9_chance_7 : decode cX9_chance 7 = .ok (.i2l, 1) := by decide +kernel
theorem dX9_chance_8 : decode cX9_chance 8 = .ok (.invokevirtual 254, 3) := by decide +kernel
theorem dX9_chance_11 : decode cX9_chance 11 = .ok (.ifCond .eq 35, 3) := by decide +kernel
theorem dX9_chance_14 : decode cX9_chance 14 = .ok (.iload_n 2, 1) := by decide +kernel
theorem dX9_chance_15 : decode cX9_chance 15 = .ok (.invokestatic 364, 3) := by decide +kernel
theorem dX9_chance_18 : decode cX9_chance 18 = .ok (.ifCond .eq 28, 3) := by decide +kernel
theorem dX9_chance_21 : decode cX9_chance 21 = .ok (.aload_n 0, 1) := by decide +kernel
theorem dX9_chance_22 : decode cX9_chance 22 = .ok (.iload_n 1, 1) := by decide +kernel
theorem dX9_chance_23 : decode cX9_chance 23 = .ok (.invokevirtual 450, 3) := by decide +kernel
theorem dX9_chance_26 : decode cX9_chance 26 = .ok (.ldc2_w 448, 3) := by decide +kernel
theorem dX9_chance_29 : decode cX9_chance 29 = .ok (.aload_n 0, 1) := by decide +kernel
theorem dX9_chance_30 : decode cX9_chance 30 = .ok (.getfield 34, 3) := by decide +kernel
theorem dX9_chance_33 : decode cX9_chance 33 = .ok (.iconst 5, 1) := by decide +kernel
theorem dX9_chance_34 : decode cX9_chance 34 = .ok (.iaload, 1) := by decide +kernel
theorem dX9_chance_35 : decode cX9_chance 35 = .ok (.invokestatic 445, 3) := by decide +kernel
theorem dX9_chance_38 : decode cX9_chance 38 = .ok (.iload_n 2, 1) := by decide +kernel
theorem dX9_chance_39 : decode cX9_chance 39 = .ok (.invokestatic 368, 3) := by decide +kernel
theorem dX9_chance_42 : decode cX9_chance 42 = .ok (.l2i, 1) := by decide +kernel
theorem dX9_chance_43 : decode cX9_chance 43 = .ok (.goto 5, 3) := by decide +kernel
theorem dX9_chance_46 : decode cX9_chance 46 = .ok (.bipush (-2), 2) := by decide +kernel
theorem dX9_chance_48 : decode cX9_chance 48 = .ok (.ireturn, 1) := by decide +kernel

theorem dX9_charms_0 : decode cX9_charms 0 = .ok (.aload_n 0, 1) := by decide +kernel
theorem dX9_charms_1 : decode cX9_charms 1 = .ok (.iconst 0, 1) := by decide +kernel
theorem dX9_charms_2 : decode cX9_charms 2 = .ok (.putfield 83, 3) := by decide +kernel
theorem dX9_charms_5 : decode cX9_charms 5 = .ok (.aload_n 0, 1) := by decide +kernel
theorem dX9_charms_6 : decode cX9_charms 6 = .ok (.invokevirtual 248, 3) := by decide +kernel
theorem dX9_charms_9 : decode cX9_charms 9 = .ok (.ifCond .ne 6, 3) := by decide +kernel
theorem dX9_charms_12 : decode cX9_charms 12 = .ok (.bipush (-2), 2) := by decide +kernel
theorem dX9_charms_14 : decode cX9_charms 14 = .ok (.ireturn, 1) := by decide +kernel
theorem dX9_charms_15 : decode cX9_charms 15 = .ok (.aload_n 0, 1) := by decide +kernel
theorem dX9_charms_16 : decode cX9_charms 16 = .ok (.invokevirtual 330, 3) := by decide +kernel
theorem dX9_charms_19 : decode cX9_charms 19 = .ok (.iconst 0, 1) := by decide +kernel
theorem dX9_charms_20 : decode cX9_charms 20 = .ok (.istore_n 1, 1) := by decide +kernel
theorem dX9_charms_21 : decode cX9_charms 21 = .ok (.iconst 0, 1) := by decide +kernel
theorem dX9_charms_22 : decode cX9_charms 22 = .ok (.istore_n 2, 1) := by decide +kernel
theorem dX9_charms_23 : decode cX9_charms 23 = .ok (.iload_n 2, 1) := by decide +kernel
theorem dX9_charms_24 : decode cX9_charms 24 = .ok (.aload_n 0, 1) := by decide +kernel
theorem dX9_charms_25 : decode cX9_charms 25 = .ok (.invokevirtual 245, 3) := by decide +kernel
theorem dX9_charms_28 : decode cX9_charms 28 = .ok (.if_icmp .ge 40, 3) := by decide +kernel
theorem dX9_charms_31 : decode cX9_charms 31 = .ok (.iload_n 1, 1) := by decide +kernel
theorem dX9_charms_32 : decode cX9_charms 32 = .ok (.aload_n 0, 1) := by decide +kernel
theorem dX9_charms_33 : decode cX9_charms 33 = .ok (.getfield 62, 3) := by decide +kernel
theorem dX9_charms_36 : decode cX9_charms 36 = .ok (.aload_n 0, 1) := by decide +kernel
theorem dX9_charms_37 : decode cX9_charms 37 = .ok (.invokevirtual 251, 3) := by decide +kernel
theorem dX9_charms_40 : decode cX9_charms 40 = .ok (.iaload, 1) := by decide +kernel
theorem dX9_charms_41 : decode cX9_charms 41 = .ok (.iload_n 2, 1) := by decide +kernel
theorem dX9_charms_42 : decode cX9_charms 42 = .ok (.invokestatic 282, 3) := by decide +kernel
theorem dX9_charms_45 : decode cX9_charms 45 = .ok (.ifCond .eq 7, 3) := by decide +kernel
theorem dX9_charms_48 : decode cX9_charms 48 = .ok (.iconst 0, 1) := by decide +kernel
theorem dX9_charms_49 : decode cX9_charms 49 = .ok (.goto 11, 3) := by decide +kernel
theorem dX9_charms_52 : decode cX9_charms 52 = .ok (.aload_n 0, 1) := by decide +kernel
theorem dX9_charms_53 : decode cX9_charms 53 = .ok (.getfield 37, 3) := by decide +kernel
theorem dX9_charms_56 : decode cX9_charms 56 = .ok (.iconst 3, 1) := by decide +kernel
theorem dX9_charms_57 : decode cX9_charms 57 = .ok (.iload_n 2, 1) := by decide +kernel
theorem dX9_charms_58 : decode cX9_charms 58 = .ok (.imul, 1) := by decide +kernel
theorem dX9_charms_59 : decode cX9_charms 59 = .ok (.iaload, 1) := by decide +kernel
theorem dX9_charms_60 : decode cX9_charms 60 = .ok (.iadd, 1) := by decide +kernel
theorem dX9_charms_61 : decode cX9_charms 61 = .ok (.istore_n 1, 1) := by decide +kernel
theorem dX9_charms_62 : decode cX9_charms 62 = .ok (.iinc 2 1, 3) := by decide +kernel
theorem dX9_charms_65 : decode cX9_charms 65 = .ok (.goto (-42), 3) := by decide +kernel
theorem dX9_charms_68 : decode cX9_charms 68 = .ok (.iload_n 1, 1) := by decide +kernel
theorem dX9_charms_69 : decode cX9_charms 69 = .ok (.ireturn, 1) := by decide +kernel

theorem dX9_clears_0 : decode cX9_clears 0 = .ok (.aload_n 0, 1) := by decide +kernel
theorem dX9_clears_1 : decode cX9_clears 1 = .ok (.getfield 31, 3) := by decide +kernel
theorem dX9_clears_4 : decode cX9_clears 4 = .ok (.iconst 4, 1) := by decide +kernel
theorem dX9_clears_5 : decode cX9_clears 5 = .ok (.iconst 0, 1) := by decide +kernel
theorem dX9_clears_6 : decode cX9_clears 6 = .ok (.iastore, 1) := by decide +kernel
theorem dX9_clears_7 : decode cX9_clears 7 = .ok (.iconst 0, 1) := by decide +kernel
theorem dX9_clears_8 : decode cX9_clears 8 = .ok (.istore_n 1, 1) := by decide +kernel
theorem dX9_clears_9 : decode cX9_clears 9 = .ok (.iload_n 1, 1) := by decide +kernel
theorem dX9_clears_10 : decode cX9_clears 10 = .ok (.bipush 7, 2) := by decide +kernel
theorem dX9_clears_12 : decode cX9_clears 12 = .ok (.if_icmp .ge 15, 3) := by decide +kernel
theorem dX9_clears_15 : decode cX9_clears 15 = .ok (.aload_n 0, 1) := by decide +kernel
theorem dX9_clears_16 : decode cX9_clears 16 = .ok (.iload_n 1, 1) := by decide +kernel
theorem dX9_clears_17 : decode cX9_clears 17 = .ok (.iconst 0, 1) := by decide +kernel
theorem dX9_clears_18 : decode cX9_clears 18 = .ok (.invokevirtual 178, 3) := by decide +kernel
theorem dX9_clears_21 : decode cX9_clears 21 = .ok (.iinc 1 1, 3) := by decide +kernel
theorem dX9_clears_24 : decode cX9_clears 24 = .ok (.goto (-15), 3) := by decide +kernel
theorem dX9_clears_27 : decode cX9_clears 27 = .ok (.return_, 1) := by decide +kernel

theorem dX9_copyRow_0 : decode cX9_copyRow 0 = .ok (.iconst 0, 1) := by decide +kernel
theorem dX9_copyRow_1 : decode cX9_copyRow 1 = .ok (.istore 4, 2) := by decide +kernel
theorem dX9_copyRow_3 : decode cX9_copyRow 3 = .ok (.iload 4, 2) := by decide +kernel
theorem dX9_copyRow_5 : decode cX9_copyRow 5 = .ok (.iload_n 1, 1) := by decide +kernel
theorem dX9_copyRow_6 : decode cX9_copyRow 6 = .ok (.if_icmp .ge 25, 3) := by decide +kernel
theorem dX9_copyRow_9 : decode cX9_copyRow 9 = .ok (.aload_n 0, 1) := by decide +kernel
theorem dX9_copyRow_10 : decode cX9_copyRow 10 = .ok (.iload_n 1, 1) := by decide +kernel
theorem dX9_copyRow_11 : decode cX9_copyRow 11 = .ok (.iload_n 3, 1) := by decide +kernel
theorem dX9_copyRow_12 : decode cX9_copyRow 12 = .ok (.imul, 1) := by decide +kernel
theorem dX9_copyRow_13 : decode cX9_copyRow 13 = .ok (.iload 4, 2) := by decide +kernel
theorem dX9_copyRow_15 : decode cX9_copyRow 15 = .ok (.iadd, 1) := by decide +kernel
theorem dX9_copyRow_16 : decode cX9_copyRow 16 = .ok (.aload_n 0, 1) := by decide +kernel
theorem dX9_copyRow_17 : decode cX9_copyRow 17 = .ok (.iload_n 1, 1) := by decide +kernel
theorem dX9_copyRow_18 : decode cX9_copyRow 18 = .ok (.iload_n 2, 1) := by decide +kernel
theorem dX9_copyRow_19 : decode cX9_copyRow 19 = .ok (.imul, 1) := by decide +kernel
theorem dX9_copyRow_20 : decode cX9_copyRow 20 = .ok (.iload 4, 2) := by decide +kernel
theorem dX9_copyRow_22 : decode cX9_copyRow 22 = .ok (.iadd, 1) := by decide +kernel
theorem dX9_copyRow_23 : decode cX9_copyRow 23 = .ok (.iaload, 1) := by decide +kernel
theorem dX9_copyRow_24 : decode cX9_copyRow 24 = .ok (.iastore, 1) := by decide +kernel
theorem dX9_copyRow_25 : decode cX9_copyRow 25 = .ok (.iinc 4 1, 3) := by decide +kernel
theorem dX9_copyRow_28 : decode cX9_copyRow 28 = .ok (.goto (-25), 3) := by decide +kernel
theorem dX9_copyRow_31 : decode cX9_copyRow 31 = .ok (.return_, 1) := by decide +kernel

theorem dX9_copyTale_0 : decode cX9_copyTale 0 = .ok (.aload_n 0, 1) := by decide +kernel
theorem dX9_copyTale_1 : decode cX9_copyTale 1 = .ok (.getfield 31, 3) := by decide +kernel
theorem dX9_copyTale_4 : decode cX9_copyTale 4 = .ok (.iconst 1, 1) := by decide +kernel
theorem dX9_copyTale_5 : decode cX9_copyTale 5 = .ok (.iload_n 1, 1) := by decide +kernel
theorem dX9_copyTale_6 : decode cX9_copyTale 6 = .ok (.iload_n 2, 1) := by decide +kernel
theorem dX9_copyTale_7 : decode cX9_copyTale 7 = .ok (.invokestatic 241, 3) := by decide +kernel
theorem dX9_copyTale_10 : decode cX9_copyTale 10 = .ok (.aload_n 0, 1) := by decide +kernel
theorem dX9_copyTale_11 : decode cX9_copyTale 11 = .ok (.getfield 34, 3) := by decide +kernel
theorem dX9_copyTale_14 : decode cX9_copyTale 14 = .ok (.bipush 7, 2) := by decide +kernel
theorem dX9_copyTale_16 : decode cX9_copyTale 16 = .ok (.iload_n 1, 1) := by decide +kernel
theorem dX9_copyTale_17 : decode cX9_copyTale 17 = .ok (.iload_n 2, 1) := by decide +kernel
theorem dX9_copyTale_18 : decode cX9_copyTale 18 = .ok (.invokestatic 241, 3) := by decide +kernel
theorem dX9_copyTale_21 : decode cX9_copyTale 21 = .ok (.aload_n 0, 1) := by decide +kernel
theorem dX9_copyTale_22 : decode cX9_copyTale 22 = .ok (.getfield 37, 3) := by decide +kernel
theorem dX9_copyTale_25 : decode cX9_copyTale 25 = .ok (.bipush 18, 2) := by decide +kernel
theorem dX9_copyTale_27 : decode cX9_copyTale 27 = .ok (.iload_n 1, 1) := by decide +kernel
theorem dX9_copyTale_28 : decode cX9_copyTale 28 = .ok (.iload_n 2, 1) := by decide +kernel
theorem dX9_copyTale_29 : decode cX9_copyTale 29 = .ok (.invokestatic 241, 3) := by decide +kernel
theorem dX9_copyTale_32 : decode cX9_copyTale 32 = .ok (.aload_n 0, 1) := by decide +kernel
theorem dX9_copyTale_33 : decode cX9_copyTale 33 = .ok (.getfield 40, 3) := by decide +kernel
theorem dX9_copyTale_36 : decode cX9_copyTale 36 = .ok (.bipush 20, 2) := by decide +kernel
theorem dX9_copyTale_38 : decode cX9_copyTale 38 = .ok (.iload_n 1, 1) := by decide +kernel
theorem dX9_copyTale_39 : decode cX9_copyTale 39 = .ok (.iload_n 2, 1) := by decide +kernel
theorem dX9_copyTale_40 : decode cX9_copyTale 40 = .ok (.invokestatic 241, 3) := by decide +kernel
theorem dX9_copyTale_43 : decode cX9_copyTale 43 = .ok (.aload_n 0, 1) := by decide +kernel
theorem dX9_copyTale_44 : decode cX9_copyTale 44 = .ok (.getfield 43, 3) := by decide +kernel
theorem dX9_copyTale_47 : decode cX9_copyTale 47 = .ok (.bipush 16, 2) := by decide +kernel
theorem dX9_copyTale_49 : decode cX9_copyTale 49 = .ok (.iload_n 1, 1) := by decide +kernel
theorem dX9_copyTale_50 : decode cX9_copyTale 50 = .ok (.iload_n 2, 1) := by decide +kernel
theorem dX9_copyTale_51 : decode cX9_copyTale 51 = .ok (.invokestatic 241, 3) := by decide +kernel
theorem dX9_copyTale_54 : decode cX9_copyTale 54 = .ok (.aload_n 0, 1) := by decide +kernel
theorem dX9_copyTale_55 : decode cX9_copyTale 55 = .ok (.getfield 46, 3) := by decide +kernel
theorem dX9_copyTale_58 : decode cX9_copyTale 58 = .ok (.bipush 60, 2) := by decide +kernel
theorem dX9_copyTale_60 : decode cX9_copyTale 60 = .ok (.iload_n 1, 1) := by decide +kernel
theorem dX9_copyTale_61 : decode cX9_copyTale 61 = .ok (.iload_n 2, 1) := by decide +kernel
theorem dX9_copyTale_62 : decode cX9_copyTale 62 = .ok (.invokestatic 241, 3) := by decide +kernel
theorem dX9_copyTale_65 : decode cX9_copyTale 65 = .ok (.return_, 1) := by decide +kernel

theorem dX9_count_0 : decode cX9_count 0 = .ok (.aload_n 0, 1) := by decide +kernel
theorem dX9_count_1 : decode cX9_count 1 = .ok (.iconst 0, 1) := by decide +kernel
theorem dX9_count_2 : decode cX9_count 2 = .ok (.putfield 83, 3) := by decide +kernel
theorem dX9_count_5 : decode cX9_count 5 = .ok (.iload_n 1, 1) := by decide +kernel
theorem dX9_count_6 : decode cX9_count 6 = .ok (.i2l, 1) := by decide +kernel
theorem dX9_count_7 : decode cX9_count 7 = .ok (.lconst 0, 1) := by decide +kernel
theorem dX9_count_8 : decode cX9_count 8 = .ok (.ldc2_w 480, 3) := by decide +kernel
theorem dX9_count_11 : decode cX9_count 11 = .ok (.invokestatic 88, 3) := by decide +kernel
theorem dX9_count_14 : decode cX9_count 14 = .ok (.ifCond .eq 10, 3) := by decide +kernel
theorem dX9_count_17 : decode cX9_count 17 = .ok (.aload_n 0, 1) := by decide +kernel
theorem dX9_count_18 : decode cX9_count 18 = .ok (.getfield 34, 3) := by decide +kernel
theorem dX9_count_21 : decode cX9_count 21 = .ok (.iload_n 1, 1) := by decide +kernel
theorem dX9_count_22 : decode cX9_count 22 = .ok (.iaload, 1) := by decide +kernel
theorem dX9_count_23 : decode cX9_count 23 = .ok (.ireturn, 1) := by decide +kernel
theorem dX9_count_24 : decode cX9_count 24 = .ok (.iconst 0, 1) := by decide +kernel
theorem dX9_count_25 : decode cX9_count 25 = .ok (.istore_n 2, 1) := by decide +kernel
theorem dX9_count_26 : decode cX9_count 26 = .ok (.iload_n 1, 1) := by decide +kernel
theorem dX9_count_27 : decode cX9_count 27 = .ok (.tableswitch 70 7 9 #[25, 32, 37], 25) := by decide +kernel
theorem dX9_count_52 : decode cX9_count 52 = .ok (.aload_n 0, 1) := by decide +kernel
theorem dX9_count_53 : decode cX9_count 53 = .ok (.getfield 31, 3) := by decide +kernel
theorem dX9_count_56 : decode cX9_count 56 = .ok (.iconst 0, 1) := by decide +kernel
theorem dX9_count_57 : decode cX9_count 57 = .ok (.iaload, 1) := by decide +kernel
theorem dX9_count_58 : decode cX9_count 58 = .ok (.ireturn, 1) := by decide +kernel
theorem dX9_count_59 : decode cX9_count 59 = .ok (.aload_n 0, 1) := by decide +kernel
theorem dX9_count_60 : decode cX9_count 60 = .ok (.getfield 100, 3) := by decide +kernel
theorem dX9_count_63 : decode cX9_count 63 = .ok (.ireturn, 1) := by decide +kernel
theorem dX9_count_64 : decode cX9_count 64 = .ok (.iconst 0, 1) := by decide +kernel
theorem dX9_count_65 : decode cX9_count 65 = .ok (.istore_n 3, 1) := by decide +kernel
theorem dX9_count_66 : decode cX9_count 66 = .ok (.iload_n 3, 1) := by decide +kernel
theorem dX9_count_67 : decode cX9_count 67 = .ok (.iconst 4, 1) := by decide +kernel
theorem dX9_count_68 : decode cX9_count 68 = .ok (.if_icmp .ge 27, 3) := by decide +kernel
theorem dX9_count_71 : decode cX9_count 71 = .ok (.iload_n 2, 1) := by decide +kernel
theorem dX9_count_72 : decode cX9_count 72 = .ok (.aload_n 0, 1) := by decide +kernel
theorem dX9_count_73 : decode cX9_count 73 = .ok (.getfield 7, 3) := by decide +kernel
theorem dX9_count_76 : decode cX9_count 76 = .ok (.iload_n 3, 1) := by decide +kernel
theorem dX9_count_77 : decode cX9_count 77 = .ok (.iaload, 1) := by decide +kernel
theorem dX9_count_78 : decode cX9_count 78 = .ok (.iconst (-1), 1) := by decide +kernel
theorem dX9_count_79 : decode cX9_count 79 = .ok (.if_icmp .ne 7, 3) := by decide +kernel
theorem dX9_count_82 : decode cX9_count 82 = .ok (.iconst 0, 1) := by decide +kernel
theorem dX9_count_83 : decode cX9_count 83 = .ok (.goto 4, 3) := by decide +kernel
theorem dX9_count_86 : decode cX9_count 86 = .ok (.iconst 1, 1) := by decide +kernel
theorem dX9_count_87 : decode cX9_count 87 = .ok (.iadd, 1) := by decide +kernel
theorem dX9_count_88 : decode cX9_count 88 = .ok (.istore_n 2, 1) := by decide +kernel
theorem dX9_count_89 : decode cX9_count 89 = .ok (.iinc 3 1, 3) := by decide +kernel
theorem dX9_count_92 : decode cX9_count 92 = .ok (.goto (-26), 3) := by decide +kernel
theorem dX9_count_95 : decode cX9_count 95 = .ok (.iload_n 2, 1) := by decide +kernel
theorem dX9_count_96 : decode cX9_count 96 = .ok (.ireturn, 1) := by decide +kernel
theorem dX9_count_97 : decode cX9_count 97 = .ok (.iconst (-1), 1) := by decide +kernel
theorem dX9_count_98 : decode cX9_count 98 = .ok (.ireturn, 1) := by decide +kernel

theorem dX9_cut__0 : decode cX9_cut_ 0 = .ok (.aload_n 0, 1) := by decide +kernel
theorem dX9_cut__1 : decode cX9_cut_ 1 = .ok (.iconst 0, 1) := by decide +kernel
theorem dX9_cut__2 : decode cX9_cut_ 2 = .ok (.putfield 83, 3) := by decide +kernel
theorem dX9_cut__5 : decode cX9_cut_ 5 = .ok (.aload_n 0, 1) := by decide +kernel
theorem dX9_cut__6 : decode cX9_cut_ 6 = .ok (.iload_n 1, 1) := by decide +kernel
theorem dX9_cut__7 : decode cX9_cut_ 7 = .ok (.i2l, 1) := by decide +kernel
theorem dX9_cut__8 : decode cX9_cut_ 8 = .ok (.invokevirtual 257, 3) := by decide +kernel
theorem dX9_cut__11 : decode cX9_cut_ 11 = .ok (.ifCond .ne 6, 3) := by decide +kernel
theorem dX9_cut__14 : decode cX9_cut_ 14 = .ok (.bipush (-2), 2) := by decide +kernel
theorem dX9_cut__16 : decode cX9_cut_ 16 = .ok (.ireturn, 1) := by decide +kernel
theorem dX9_cut__17 : decode cX9_cut_ 17 = .ok (.aload_n 0, 1) := by decide +kernel
theorem dX9_cut__18 : decode cX9_cut_ 18 = .ok (.invokevirtual 330, 3) := by decide +kernel
theorem dX9_cut__21 : decode cX9_cut_ 21 = .ok (.iconst 0, 1) := by decide +kernel
theorem dX9_cut__22 : decode cX9_cut_ 22 = .ok (.istore_n 2, 1) := by decide +kernel
theorem dX9_cut__23 : decode cX9_cut_ 23 = .ok (.iconst 0, 1) := by decide +kernel
theorem dX9_cut__24 : decode cX9_cut_ 24 = .ok (.istore_n 3, 1) := by decide +kernel
theorem dX9_cut__25 : decode cX9_cut_ 25 = .ok (.iload_n 3, 1) := by decide +kernel
theorem dX9_cut__26 : decode cX9_cut_ 26 = .ok (.aload_n 0, 1) := by decide +kernel
theorem dX9_cut__27 : decode cX9_cut_ 27 = .ok (.getfield 34, 3) := by decide +kernel
theorem dX9_cut__30 : decode cX9_cut_ 30 = .ok (.iconst 4, 1) := by decide +kernel
theorem dX9_cut__31 : decode cX9_cut_ 31 = .ok (.iaload, 1) := by decide +kernel
theorem dX9_cut__32 : decode cX9_cut_ 32 = .ok (.if_icmp .ge 61, 3) := by decide +kernel
theorem dX9_cut__35 : decode cX9_cut_ 35 = .ok (.iload_n 2, 1) := by decide +kernel
theorem dX9_cut__36 : decode cX9_cut_ 36 = .ok (.aload_n 0, 1) := by decide +kernel
theorem dX9_cut__37 : decode cX9_cut_ 37 = .ok (.getfield 62, 3) := by decide +kernel
theorem dX9_cut__40 : decode cX9_cut_ 40 = .ok (.iload_n 1, 1) := by decide +kernel
theorem dX9_cut__41 : decode cX9_cut_ 41 = .ok (.iaload, 1) := by decide +kernel
theorem dX9_cut__42 : decode cX9_cut_ 42 = .ok (.aload_n 0, 1) := by decide +kernel
theorem dX9_cut__43 : decode cX9_cut_ 43 = .ok (.getfield 40, 3) := by decide +kernel
theorem dX9_cut__46 : decode cX9_cut_ 46 = .ok (.iconst 2, 1) := by decide +kernel
theorem dX9_cut__47 : decode cX9_cut_ 47 = .ok (.iload_n 3, 1) := by decide +kernel
theorem dX9_cut__48 : decode cX9_cut_ 48 = .ok (.imul, 1) := by decide +kernel
theorem dX9_cut__49 : decode cX9_cut_ 49 = .ok (.iaload, 1) := by decide +kernel
theorem dX9_cut__50 : decode cX9_cut_ 50 = .ok (.invokestatic 282, 3) := by decide +kernel
theorem dX9_cut__53 : decode cX9_cut_ 53 = .ok (.ifCond .ne 25, 3) := by decide +kernel
theorem dX9_cut__56 : decode cX9_cut_ 56 = .ok (.aload_n 0, 1) := by decide +kernel
theorem dX9_cut__57 : decode cX9_cut_ 57 = .ok (.getfield 62, 3) := by decide +kernel
theorem dX9_cut__60 : decode cX9_cut_ 60 = .ok (.iload_n 1, 1) := by decide +kernel
theorem dX9_cut__61 : decode cX9_cut_ 61 = .ok (.iaload, 1) := by decide +kernel
theorem dX9_cut__62 : decode cX9_cut_ 62 = .ok (.aload_n 0, 1) := by decide +kernel
theorem dX9_cut__63 : decode cX9_cut_ 63 = .ok (.getfield 40, 3) := by decide +kernel
theorem dX9_cut__66 : decode cX9_cut_ 66 = .ok (.iconst 2, 1) := by decide +kernel
theorem dX9_cut__67 : decode cX9_cut_ 67 = .ok (.iload_n 3, 1) := by decide +kernel
theorem dX9_cut__68 : decode cX9_cut_ 68 = .ok (.imul, 1) := by decide +kernel
theorem dX9_cut__69 : decode cX9_cut_ 69 = .ok (.iconst 1, 1) := by decide +kernel
theorem dX9_cut__70 : decode cX9_cut_ 70 = .ok (.iadd, 1) := by decide +kernel
theorem dX9_cut__71 : decode cX9_cut_ 71 = .ok (.iaload, 1) := by decide +kernel
theorem dX9_cut__72 : decode cX9_cut_ 72 = .ok (.invokestatic 282, 3) := by decide +kernel
theorem dX9_cut__75 : decode cX9_cut_ 75 = .ok (.ifCond .eq 9, 3) := by decide +kernel
theorem dX9_cut__78 : decode cX9_cut_ 78 = .ok (.iconst 1, 1) := by decide +kernel
theorem dX9_cut__79 : decode cX9_cut_ 79 = .ok (.iload_n 3, 1) := by decide +kernel
theorem dX9_cut__80 : decode cX9_cut_ 80 = .ok (.ishl, 1) := by decide +kernel
theorem dX9_cut__81 : decode cX9_cut_ 81 = .ok (.goto 4, 3) := by decide +kernel
theorem dX9_cut__84 : decode cX9_cut_ 84 = .ok (.iconst 0, 1) := by decide +kernel
theorem dX9_cut__85 : decode cX9_cut_ 85 = .ok (.ior, 1) := by decide +kernel
theorem dX9_cut__86 : decode cX9_cut_ 86 = .ok (.istore_n 2, 1) := by decide +kernel
theorem dX9_cut__87 : decode cX9_cut_ 87 = .ok (.iinc 3 1, 3) := by decide +kernel
theorem dX9_cut__90 : decode cX9_cut_ 90 = .ok (.goto (-65), 3) := by decide +kernel
theorem dX9_cut__93 : decode cX9_cut_ 93 = .ok (.iload_n 2, 1) := by decide +kernel
theorem dX9_cut__94 : decode cX9_cut_ 94 = .ok (.ireturn, 1) := by decide +kernel

theorem dX9_dies_0 : decode cX9_dies 0 = .ok (.aload_n 0, 1) := by decide +kernel
theorem dX9_dies_1 : decode cX9_dies 1 = .ok (.iconst 0, 1) := by decide +kernel
theorem dX9_dies_2 : decode cX9_dies 2 = .ok (.putfield 83, 3) := by decide +kernel
theorem dX9_dies_5 : decode cX9_dies 5 = .ok (.aload_n 0, 1) := by decide +kernel
theorem dX9_dies_6 : decode cX9_dies 6 = .ok (.iload_n 1, 1) := by decide +kernel
theorem dX9_dies_7 : decode cX9_dies 7 = .ok (.i2l, 1) := by decide +kernel
theorem dX9_dies_8 : decode cX9_dies 8 = .ok (.invokevirtual 254, 3) := by decide +kernel
theorem dX9_dies_11 : decode cX9_dies 11 = .ok (.ifCond .ne 6, 3) := by decide +kernel
theorem dX9_dies_14 : decode cX9_dies 14 = .ok (.bipush (-2), 2) := by decide +kernel
theorem dX9_dies_16 : decode cX9_dies 16 = .ok (.ireturn, 1) := by decide +kernel
theorem dX9_dies_17 : decode cX9_dies 17 = .ok (.aload_n 0, 1) := by decide +kernel
theorem dX9_dies_18 : decode cX9_dies 18 = .ok (.invokevirtual 330, 3) := by decide +kernel
theorem dX9_dies_21 : decode cX9_dies 21 = .ok (.iconst 0, 1) := by decide +kernel
theorem dX9_dies_22 : decode cX9_dies 22 = .ok (.istore_n 2, 1) := by decide +kernel
theorem dX9_dies_23 : decode cX9_dies 23 = .ok (.iload_n 2, 1) := by decide +kernel
theorem dX9_dies_24 : decode cX9_dies 24 = .ok (.aload_n 0, 1) := by decide +kernel
theorem dX9_dies_25 : decode cX9_dies 25 = .ok (.invokevirtual 251, 3) := by decide +kernel
theorem dX9_dies_28 : decode cX9_dies 28 = .ok (.if_icmp .gt 20, 3) := by decide +kernel
theorem dX9_dies_31 : decode cX9_dies 31 = .ok (.aload_n 0, 1) := by decide +kernel
theorem dX9_dies_32 : decode cX9_dies 32 = .ok (.iload_n 1, 1) := by decide +kernel
theorem dX9_dies_33 : decode cX9_dies 33 = .ok (.iload_n 2, 1) := by decide +kernel
theorem dX9_dies_34 : decode cX9_dies 34 = .ok (.invokevirtual 342, 3) := by decide +kernel
theorem dX9_dies_37 : decode cX9_dies 37 = .ok (.ifCond .ne 5, 3) := by decide +kernel
theorem dX9_dies_40 : decode cX9_dies 40 = .ok (.iload_n 2, 1) := by decide +kernel
theorem dX9_dies_41 : decode cX9_dies 41 = .ok (.ireturn, 1) := by decide +kernel
theorem dX9_dies_42 : decode cX9_dies 42 = .ok (.iinc 2 1, 3) := by decide +kernel
theorem dX9_dies_45 : decode cX9_dies 45 = .ok (.goto (-22), 3) := by decide +kernel
theorem dX9_dies_48 : decode cX9_dies 48 = .ok (.iconst (-1), 1) := by decide +kernel
theorem dX9_dies_49 : decode cX9_dies 49 = .ok (.ireturn, 1) := by decide +kernel

theorem dX9_done_0 : decode cX9_done 0 = .ok (.aload_n 0, 1) := by decide +kernel
theorem dX9_done_1 : decode cX9_done 1 = .ok (.iconst 0, 1) := by decide +kernel
theorem dX9_done_2 : decode cX9_done 2 = .ok (.putfield 83, 3) := by decide +kernel
theorem dX9_done_5 : decode cX9_done 5 = .ok (.aload_n 0, 1) := by decide +kernel
theorem dX9_done_6 : decode cX9_done 6 = .ok (.invokevirtual 248, 3) := by decide +kernel
theorem dX9_done_9 : decode cX9_done 9 = .ok (.ifCond .ne 6, 3) := by decide +kernel
theorem dX9_done_12 : decode cX9_done 12 = .ok (.bipush (-2), 2) := by decide +kernel
theorem dX9_done_14 : decode cX9_done 14 = .ok (.ireturn, 1) := by decide +kernel
theorem dX9_done_15 : decode cX9_done 15 = .ok (.aload_n 0, 1) := by decide +kernel
theorem dX9_done_16 : decode cX9_done 16 = .ok (.invokevirtual 330, 3) := by decide +kernel
theorem dX9_done_19 : decode cX9_done 19 = .ok (.iconst 0, 1) := by decide +kernel
theorem dX9_done_20 : decode cX9_done 20 = .ok (.istore_n 1, 1) := by decide +kernel
theorem dX9_done_21 : decode cX9_done 21 = .ok (.iload_n 1, 1) := by decide +kernel
theorem dX9_done_22 : decode cX9_done 22 = .ok (.aload_n 0, 1) := by decide +kernel
theorem dX9_done_23 : decode cX9_done 23 = .ok (.invokevirtual 251, 3) := by decide +kernel
theorem dX9_done_26 : decode cX9_done 26 = .ok (.if_icmp .gt 31, 3) := by decide +kernel
theorem dX9_done_29 : decode cX9_done 29 = .ok (.aload_n 0, 1) := by decide +kernel
theorem dX9_done_30 : decode cX9_done 30 = .ok (.invokevirtual 245, 3) := by decide +kernel
theorem dX9_done_33 : decode cX9_done 33 = .ok (.ifCond .le 18, 3) := by decide +kernel
theorem dX9_done_36 : decode cX9_done 36 = .ok (.aload_n 0, 1) := by decide +kernel
theorem dX9_done_37 : decode cX9_done 37 = .ok (.getfield 62, 3) := by decide +kernel
theorem dX9_done_40 : decode cX9_done 40 = .ok (.iload_n 1, 1) := by decide +kernel
theorem dX9_done_41 : decode cX9_done 41 = .ok (.iaload, 1) := by decide +kernel
theorem dX9_done_42 : decode cX9_done 42 = .ok (.aload_n 0, 1) := by decide +kernel
theorem dX9_done_43 : decode cX9_done 43 = .ok (.invokevirtual 345, 3) := by decide +kernel
theorem dX9_done_46 : decode cX9_done 46 = .ok (.if_icmp .ne 5, 3) := by decide +kernel
theorem dX9_done_49 : decode cX9_done 49 = .ok (.iload_n 1, 1) := by decide +kernel
theorem dX9_done_50 : decode cX9_done 50 = .ok (.ireturn, 1) := by decide +kernel
theorem dX9_done_51 : decode cX9_done 51 = .ok (.iinc 1 1, 3) := by decide +kernel
theorem dX9_done_54 : decode cX9_done 54 = .ok (.goto (-33), 3) := by decide +kernel
theorem dX9_done_57 : decode cX9_done 57 = .ok (.iconst (-1), 1) := by decide +kernel
theorem dX9_done_58 : decode cX9_done 58 = .ok (.ireturn, 1) := by decide +kernel

theorem dX9_drawn_0 : decode cX9_drawn 0 = .ok (.aload_n 0, 1) := by decide +kernel
theorem dX9_drawn_1 : decode cX9_drawn 1 = .ok (.iconst 0, 1) := by decide +kernel
theorem dX9_drawn_2 : decode cX9_drawn 2 = .ok (.putfield 83, 3) := by decide +kernel
theorem dX9_drawn_5 : decode cX9_drawn 5 = .ok (.aload_n 0, 1) := by decide +kernel
theorem dX9_drawn_6 : decode cX9_drawn 6 = .ok (.invokevirtual 248, 3) := by decide +kernel
theorem dX9_drawn_9 : decode cX9_drawn 9 = .ok (.ifCond .eq 17, 3) := by decide +kernel
theorem dX9_drawn_12 : decode cX9_drawn 12 = .ok (.iload_n 1, 1) := by decide +kernel
theorem dX9_drawn_13 : decode cX9_drawn 13 = .ok (.invokestatic 466, 3) := by decide +kernel
theorem dX9_drawn_16 : decode cX9_drawn 16 = .ok (.ifCond .eq 10, 3) := by decide +kernel
theorem dX9_drawn_19 : decode cX9_drawn 19 = .ok (.iload_n 2, 1) := by decide +kernel
theorem dX9_drawn_20 : decode cX9_drawn 20 = .ok (.invokestatic 364, 3) := by decide +kernel
theorem dX9_drawn_23 : decode cX9_drawn 23 = .ok (.ifCond .ne 6, 3) := by decide +kernel
theorem dX9_drawn_26 : decode cX9_drawn 26 = .ok (.bipush (-2), 2) := by decide +kernel
theorem dX9_drawn_28 : decode cX9_drawn 28 = .ok (.ireturn, 1) := by decide +kernel
theorem dX9_drawn_29 : decode cX9_drawn 29 = .ok (.aload_n 0, 1) := by decide +kernel
theorem dX9_drawn_30 : decode cX9_drawn 30 = .ok (.iload_n 1, 1) := by decide +kernel
theorem dX9_drawn_31 : decode cX9_drawn 31 = .ok (.i2l, 1) := by decide +kernel
theorem dX9_drawn_32 : decode cX9_drawn 32 = .ok (.invokevirtual 469, 3) := by decide +kernel
theorem dX9_drawn_35 : decode cX9_drawn 35 = .ok (.istore_n 3, 1) := by decide +kernel
theorem dX9_drawn_36 : decode cX9_drawn 36 = .ok (.iload_n 2, 1) := by decide +kernel
theorem dX9_drawn_37 : decode cX9_drawn 37 = .ok (.ifCond .ne 7, 3) := by decide +kernel
theorem dX9_drawn_40 : decode cX9_drawn 40 = .ok (.iload_n 3, 1) := by decide +kernel
theorem dX9_drawn_41 : decode cX9_drawn 41 = .ok (.goto 12, 3) := by decide +kernel
theorem dX9_drawn_44 : decode cX9_drawn 44 = .ok (.aload_n 0, 1) := by decide +kernel
theorem dX9_drawn_45 : decode cX9_drawn 45 = .ok (.getfield 62, 3) := by decide +kernel
theorem dX9_drawn_48 : decode cX9_drawn 48 = .ok (.aload_n 0, 1) := by decide +kernel
theorem dX9_drawn_49 : decode cX9_drawn 49 = .ok (.invokevirtual 251, 3) := by decide +kernel
theorem dX9_drawn_52 : decode cX9_drawn 52 = .ok (.iaload, 1) := by decide +kernel
theorem dX9_drawn_53 : decode cX9_drawn 53 = .ok (.ireturn, 1) := by decide +kernel

theorem dX9_dull_0 : decode cX9_dull 0 = .ok (.aload_n 0, 1) := by decide +kernel
theorem dX9_dull_1 : decode cX9_dull 1 = .ok (.iconst 0, 1) := by decide +kernel
theorem dX9_dull_2 : decode cX9_dull 2 = .ok (.putfield 83, 3) := by decide +kernel
theorem dX9_dull_5 : decode cX9_dull 5 = .ok (.aload_n 0, 1) := by decide +kernel
theorem dX9_dull_6 : decode cX9_dull 6 = .ok (.iload_n 1, 1) := by decide +kernel
theorem dX9_dull_7 : decode cX9_dull 7 = .ok (.i2l, 1) := by decide +kernel
theorem dX9_dull_8 : decode cX9_dull 8 = .ok (.invokevirtual 257, 3) := by decide +kernel
theorem dX9_dull_11 : decode cX9_dull 11 = .ok (.ifCond .ne 6, 3) := by decide +kernel
theorem dX9_dull_14 : decode cX9_dull 14 = .ok (.bipush (-2), 2) := by decide +kernel
theorem dX9_dull_16 : decode cX9_dull 16 = .ok (.ireturn, 1) := by decide +kernel
theorem dX9_dull_17 : decode cX9_dull 17 = .ok (.aload_n 0, 1) := by decide +kernel
theorem dX9_dull_18 : decode cX9_dull 18 = .ok (.invokevirtual 330, 3) := by decide +kernel
theorem dX9_dull_21 : decode cX9_dull 21 = .ok (.iconst 0, 1) := by decide +kernel
theorem dX9_dull_22 : decode cX9_dull 22 = .ok (.istore_n 2, 1) := by decide +kernel
theorem dX9_dull_23 : decode cX9_dull 23 = .ok (.iconst 0, 1) := by decide +kernel
theorem dX9_dull_24 : decode cX9_dull 24 = .ok (.istore_n 3, 1) := by decide +kernel
theorem dX9_dull_25 : decode cX9_dull 25 = .ok (.iload_n 3, 1) := by decide +kernel
theorem dX9_dull_26 : decode cX9_dull 26 = .ok (.aload_n 0, 1) := by decide +kernel
theorem dX9_dull_27 : decode cX9_dull 27 = .ok (.invokevirtual 245, 3) := by decide +kernel
theorem dX9_dull_30 : decode cX9_dull 30 = .ok (.if_icmp .ge 28, 3) := by decide +kernel
theorem dX9_dull_33 : decode cX9_dull 33 = .ok (.iload_n 2, 1) := by decide +kernel
theorem dX9_dull_34 : decode cX9_dull 34 = .ok (.aload_n 0, 1) := by decide +kernel
theorem dX9_dull_35 : decode cX9_dull 35 = .ok (.iload_n 3, 1) := by decide +kernel
theorem dX9_dull_36 : decode cX9_dull 36 = .ok (.iload_n 1, 1) := by decide +kernel
theorem dX9_dull_37 : decode cX9_dull 37 = .ok (.invokevirtual 342, 3) := by decide +kernel
theorem dX9_dull_40 : decode cX9_dull 40 = .ok (.ifCond .ne 9, 3) := by decide +kernel
theorem dX9_dull_43 : decode cX9_dull 43 = .ok (.iconst 1, 1) := by decide +kernel
theorem dX9_dull_44 : decode cX9_dull 44 = .ok (.iload_n 3, 1) := by decide +kernel
theorem dX9_dull_45 : decode cX9_dull 45 = .ok (.ishl, 1) := by decide +kernel
theorem dX9_dull_46 : decode cX9_dull 46 = .ok (.goto 4, 3) := by decide +kernel
theorem dX9_dull_49 : decode cX9_dull 49 = .ok (.iconst 0, 1) := by decide +kernel
theorem dX9_dull_50 : decode cX9_dull 50 = .ok (.ior, 1) := by decide +kernel
theorem dX9_dull_51 : decode cX9_dull 51 = .ok (.istore_n 2, 1) := by decide +kernel
theorem dX9_dull_52 : decode cX9_dull 52 = .ok (.iinc 3 1, 3) := by decide +kernel
theorem dX9_dull_55 : decode cX9_dull 55 = .ok (.goto (-30), 3) := by decide +kernel
theorem dX9_dull_58 : decode cX9_dull 58 = .ok (.iload_n 2, 1) := by decide +kernel
theorem dX9_dull_59 : decode cX9_dull 59 = .ok (.ireturn, 1) := by decide +kernel

theorem dX9_end_0 : decode cX9_end 0 = .ok (.aload_n 0, 1) := by decide +kernel
theorem dX9_end_1 : decode cX9_end 1 = .ok (.iconst 0, 1) := by decide +kernel
theorem dX9_end_2 : decode cX9_end 2 = .ok (.putfield 83, 3) := by decide +kernel
theorem dX9_end_5 : decode cX9_end 5 = .ok (.iload_n 1, 1) := by decide +kernel
theorem dX9_end_6 : decode cX9_end 6 = .ok (.i2l, 1) := by decide +kernel
theorem dX9_end_7 : decode cX9_end 7 = .ok (.lconst 0, 1) := by decide +kernel
theorem dX9_end_8 : decode cX9_end 8 = .ok (.aload_n 0, 1) := by decide +kernel
theorem dX9_end_9 : decode cX9_end 9 = .ok (.getfield 100, 3) := by decide +kernel
theorem dX9_end_12 : decode cX9_end 12 = .ok (.i2l, 1) := by decide +kernel
theorem dX9_end_13 : decode cX9_end 13 = .ok (.invokestatic 88, 3) := by decide +kernel
theorem dX9_end_16 : decode cX9_end 16 = .ok (.ifCond .ne 5, 3) := by decide +kernel
theorem dX9_end_19 : decode cX9_end 19 = .ok (.iconst (-1), 1) := by decide +kernel
theorem dX9_end_20 : decode cX9_end 20 = .ok (.ireturn, 1) := by decide +kernel
theorem dX9_end_21 : decode cX9_end 21 = .ok (.aload_n 0, 1) := by decide +kernel
theorem dX9_end_22 : decode cX9_end 22 = .ok (.iload_n 1, 1) := by decide +kernel
theorem dX9_end_23 : decode cX9_end 23 = .ok (.putfield 100, 3) := by decide +kernel
theorem dX9_end_26 : decode cX9_end 26 = .ok (.iload_n 1, 1) := by decide +kernel
theorem dX9_end_27 : decode cX9_end 27 = .ok (.ireturn, 1) := by decide +kernel

theorem dX9_far_0 : decode cX9_far 0 = .ok (.aload_n 0, 1) := by decide +kernel
theorem dX9_far_1 : decode cX9_far 1 = .ok (.iconst 0, 1) := by decide +kernel
theorem dX9_far_2 : decode cX9_far 2 = .ok (.putfield 83, 3) := by decide +kernel
theorem dX9_far_5 : decode cX9_far 5 = .ok (.aload_n 0, 1) := by decide +kernel
theorem dX9_far_6 : decode cX9_far 6 = .ok (.iload_n 1, 1) := by decide +kernel
theorem dX9_far_7 : decode cX9_far 7 = .ok (.i2l, 1) := by decide +kernel
theorem dX9_far_8 : decode cX9_far 8 = .ok (.invokevirtual 254, 3) := by decide +kernel
theorem dX9_far_11 : decode cX9_far 11 = .ok (.ifCond .eq 12, 3) := by decide +kernel
theorem dX9_far_14 : decode cX9_far 14 = .ok (.aload_n 0, 1) := by decide +kernel
theorem dX9_far_15 : decode cX9_far 15 = .ok (.iload_n 2, 1) := by decide +kernel
theorem dX9_far_16 : decode cX9_far 16 = .ok (.i2l, 1) := by decide +kernel
theorem dX9_far_17 : decode cX9_far 17 = .ok (.invokevirtual 254, 3) := by decide +kernel
theorem dX9_far_20 : decode cX9_far 20 = .ok (.ifCond .ne 6, 3) := by decide +kernel
theorem dX9_far_23 : decode cX9_far 23 = .ok (.bipush (-2), 2) := by decide +kernel
theorem dX9_far_25 : decode cX9_far 25 = .ok (.ireturn, 1) := by decide +kernel
theorem dX9_far_26 : decode cX9_far 26 = .ok (.aload_n 0, 1) := by decide +kernel
theorem dX9_far_27 : decode cX9_far 27 = .ok (.invokevirtual 319, 3) := by decide +kernel
theorem dX9_far_30 : decode cX9_far 30 = .ok (.iconst 1, 1) := by decide +kernel
theorem dX9_far_31 : decode cX9_far 31 = .ok (.iload_n 1, 1) := by decide +kernel
theorem dX9_far_32 : decode cX9_far 32 = .ok (.ishl, 1) := by decide +kernel
theorem dX9_far_33 : decode cX9_far 33 = .ok (.istore_n 3, 1) := by decide +kernel
theorem dX9_far_34 : decode cX9_far 34 = .ok (.iconst 0, 1) := by decide +kernel
theorem dX9_far_35 : decode cX9_far 35 = .ok (.istore 4, 2) := by decide +kernel
theorem dX9_far_37 : decode cX9_far 37 = .ok (.iload 4, 2) := by decide +kernel
theorem dX9_far_39 : decode cX9_far 39 = .ok (.aload_n 0, 1) := by decide +kernel
theorem dX9_far_40 : decode cX9_far 40 = .ok (.invokevirtual 245, 3) := by decide +kernel
theorem dX9_far_43 : decode cX9_far 43 = .ok (.if_icmp .ge 68, 3) := by decide +kernel
theorem dX9_far_46 : decode cX9_far 46 = .ok (.iload_n 3, 1) := by decide +kernel
theorem dX9_far_47 : decode cX9_far 47 = .ok (.iload_n 2, 1) := by decide +kernel
theorem dX9_far_48 : decode cX9_far 48 = .ok (.invokestatic 282, 3) := by decide +kernel
theorem dX9_far_51 : decode cX9_far 51 = .ok (.ifCond .eq 6, 3) := by decide +kernel
theorem dX9_far_54 : decode cX9_far 54 = .ok (.iload 4, 2) := by decide +kernel
theorem dX9_far_56 : decode cX9_far 56 = .ok (.ireturn, 1) := by decide +kernel
theorem dX9_far_57 : decode cX9_far 57 = .ok (.iload_n 3, 1) := by decide +kernel
theorem dX9_far_58 : decode cX9_far 58 = .ok (.istore 5, 2) := by decide +kernel
theorem dX9_far_60 : decode cX9_far 60 = .ok (.iconst 0, 1) := by decide +kernel
theorem dX9_far_61 : decode cX9_far 61 = .ok (.istore 6, 2) := by decide +kernel
theorem dX9_far_63 : decode cX9_far 63 = .ok (.iload 6, 2) := by decide +kernel
theorem dX9_far_65 : decode cX9_far 65 = .ok (.aload_n 0, 1) := by decide +kernel
theorem dX9_far_66 : decode cX9_far 66 = .ok (.invokevirtual 245, 3) := by decide +kernel
theorem dX9_far_69 : decode cX9_far 69 = .ok (.if_icmp .ge 33, 3) := by decide +kernel
theorem dX9_far_72 : decode cX9_far 72 = .ok (.iload 5, 2) := by decide +kernel
theorem dX9_far_74 : decode cX9_far 74 = .ok (.iload_n 3, 1) := by decide +kernel
theorem dX9_far_75 : decode cX9_far 75 = .ok (.iload 6, 2) := by decide +kernel
theorem dX9_far_77 : decode cX9_far 77 = .ok (.invokestatic 282, 3) := by decide +kernel
theorem dX9_far_80 : decode cX9_far 80 = .ok (.ifCond .eq 12, 3) := by decide +kernel
theorem dX9_far_83 : decode cX9_far 83 = .ok (.aload_n 0, 1) := by decide +kernel
theorem dX9_far_84 : decode cX9_far 84 = .ok (.iload 6, 2) := by decide +kernel
theorem dX9_far_86 : decode cX9_far 86 = .ok (.invokevirtual 292, 3) := by decide +kernel
theorem dX9_far_89 : decode cX9_far 89 = .ok (.goto 4, 3) := by decide +kernel
theorem dX9_far_92 : decode cX9_far 92 = .ok (.iconst 0, 1) := by decide +kernel
theorem dX9_far_93 : decode cX9_far 93 = .ok (.ior, 1) := by decide +kernel
theorem dX9_far_94 : decode cX9_far 94 = .ok (.istore 5, 2) := by decide +kernel
theorem dX9_far_96 : decode cX9_far 96 = .ok (.iinc 6 1, 3) := by decide +kernel
theorem dX9_far_99 : decode cX9_far 99 = .ok (.goto (-36), 3) := by decide +kernel
theorem dX9_far_102 : decode cX9_far 102 = .ok (.iload 5, 2) := by decide +kernel
theorem dX9_far_104 : decode cX9_far 104 = .ok (.istore_n 3, 1) := by decide +kernel
theorem dX9_far_105 : decode cX9_far 105 = .ok (.iinc 4 1, 3) := by decide +kernel
theorem dX9_far_108 : decode cX9_far 108 = .ok (.goto (-71), 3) := by decide +kernel
theorem dX9_far_111 : decode cX9_far 111 = .ok (.iconst (-1), 1) := by decide +kernel
theorem dX9_far_112 : decode cX9_far 112 = .ok (.ireturn, 1) := by decide +kernel

theorem dX9_fault_0 : decode cX9_fault 0 = .ok (.aload_n 0, 1) := by decide +kernel
theorem dX9_fault_1 : decode cX9_fault 1 = .ok (.iconst 0, 1) := by decide +kernel
theorem dX9_fault_2 : decode cX9_fault 2 = .ok (.putfield 83, 3) := by decide +kernel
theorem dX9_fault_5 : decode cX9_fault 5 = .ok (.iload_n 1, 1) := by decide +kernel
theorem dX9_fault_6 : decode cX9_fault 6 = .ok (.ifCond .ne 10, 3) := by decide +kernel
theorem dX9_fault_9 : decode cX9_fault 9 = .ok (.aload_n 0, 1) := by decide +kernel
theorem dX9_fault_10 : decode cX9_fault 10 = .ok (.getfield 162, 3) := by decide +kernel
theorem dX9_fault_13 : decode cX9_fault 13 = .ok (.goto 16, 3) := by decide +kernel
theorem dX9_fault_16 : decode cX9_fault 16 = .ok (.iload_n 1, 1) := by decide +kernel
theorem dX9_fault_17 : decode cX9_fault 17 = .ok (.iconst 1, 1) := by decide +kernel
theorem dX9_fault_18 : decode cX9_fault 18 = .ok (.if_icmp .ne 10, 3) := by decide +kernel
theorem dX9_fault_21 : decode cX9_fault 21 = .ok (.aload_n 0, 1) := by decide +kernel
theorem dX9_fault_22 : decode cX9_fault 22 = .ok (.getfield 27, 3) := by decide +kernel
theorem dX9_fault_25 : decode cX9_fault 25 = .ok (.goto 4, 3) := by decide +kernel
theorem dX9_fault_28 : decode cX9_fault 28 = .ok (.iconst (-1), 1) := by decide +kernel
theorem dX9_fault_29 : decode cX9_fault 29 = .ok (.ireturn, 1) := by decide +kernel

theorem dX9_feed_0 : decode cX9_feed 0 = .ok (.aload_n 0, 1) := by decide +kernel
theorem dX9_feed_1 : decode cX9_feed 1 = .ok (.iconst 0, 1) := by decide +kernel
theorem dX9_feed_2 : decode cX9_feed 2 = .ok (.putfield 83, 3) := by decide +kernel
theorem dX9_feed_5 : decode cX9_feed 5 = .ok (.aload_n 0, 1) := by decide +kernel
theorem dX9_feed_6 : decode cX9_feed 6 = .ok (.getfield 100, 3) := by decide +kernel
theorem dX9_feed_9 : decode cX9_feed 9 = .ok (.bipush 20, 2) := by decide +kernel
theorem dX9_feed_11 : decode cX9_feed 11 = .ok (.iadd, 1) := by decide +kernel
theorem dX9_feed_12 : decode cX9_feed 12 = .ok (.sipush 700, 3) := by decide +kernel
theorem dX9_feed_15 : decode cX9_feed 15 = .ok (.if_icmp .le 5, 3) := by decide +kernel
theorem dX9_feed_18 : decode cX9_feed 18 = .ok (.iconst (-1), 1) := by decide +kernel
theorem dX9_feed_19 : decode cX9_feed 19 = .ok (.ireturn, 1) := by decide +kernel
theorem dX9_feed_20 : decode cX9_feed 20 = .ok (.aload_n 0, 1) := by decide +kernel
theorem dX9_feed_21 : decode cX9_feed 21 = .ok (.iload_n 1, 1) := by decide +kernel
theorem dX9_feed_22 : decode cX9_feed 22 = .ok (.invokevirtual 103, 3) := by decide +kernel
theorem dX9_feed_25 : decode cX9_feed 25 = .ok (.aload_n 0, 1) := by decide +kernel
theorem dX9_feed_26 : decode cX9_feed 26 = .ok (.iload_n 2, 1) := by decide +kernel
theorem dX9_feed_27 : decode cX9_feed 27 = .ok (.invokevirtual 103, 3) := by decide +kernel
theorem dX9_feed_30 : decode cX9_feed 30 = .ok (.aload_n 0, 1) := by decide +kernel
theorem dX9_feed_31 : decode cX9_feed 31 = .ok (.iload_n 3, 1) := by decide +kernel
theorem dX9_feed_32 : decode cX9_feed 32 = .ok (.invokevirtual 103, 3) := by decide +kernel
theorem dX9_feed_35 : decode cX9_feed 35 = .ok (.aload_n 0, 1) := by decide +kernel
theorem dX9_feed_36 : decode cX9_feed 36 = .ok (.iload 4, 2) := by decide +kernel
theorem dX9_feed_38 : decode cX9_feed 38 = .ok (.invokevirtual 103, 3) := by decide +kernel
theorem dX9_feed_41 : decode cX9_feed 41 = .ok (.aload_n 0, 1) := by decide +kernel
theorem dX9_feed_42 : decode cX9_feed 42 = .ok (.iload 5, 2) := by decide +kernel
theorem dX9_feed_44 : decode cX9_feed 44 = .ok (.invokevirtual 103, 3) := by decide +kernel
theorem dX9_feed_47 : decode cX9_feed 47 = .ok (.aload_n 0, 1) := by decide +kernel
theorem dX9_feed_48 : decode cX9_feed 48 = .ok (.getfield 100, 3) := by decide +kernel
theorem dX9_feed_51 : decode cX9_feed 51 = .ok (.ireturn, 1) := by decide +kernel

theorem dX9_few_0 : decode cX9_few 0 = .ok (.aload_n 0, 1) := by decide +kernel
theorem dX9_few_1 : decode cX9_few 1 = .ok (.iconst 0, 1) := by decide +kernel
theorem dX9_few_2 : decode cX9_few 2 = .ok (.putfield 83, 3) := by decide +kernel
theorem dX9_few_5 : decode cX9_few 5 = .ok (.aload_n 0, 1) := by decide +kernel
theorem dX9_few_6 : decode cX9_few 6 = .ok (.invokevirtual 248, 3) := by decide +kernel
theorem dX9_few_9 : decode cX9_few 9 = .ok (.ifCond .eq 13, 3) := by decide +kernel
theorem dX9_few_12 : decode cX9_few 12 = .ok (.aload_n 0, 1) := by decide +kernel
theorem dX9_few_13 : decode cX9_few 13 = .ok (.invokevirtual 354, 3) := by decide +kernel
theorem dX9_few_16 : decode cX9_few 16 = .ok (.invokestatic 295, 3) := by decide +kernel
theorem dX9_few_19 : decode cX9_few 19 = .ok (.goto 5, 3) := by decide +kernel
theorem dX9_few_22 : decode cX9_few 22 = .ok (.bipush (-2), 2) := by decide +kernel
theorem dX9_few_24 : decode cX9_few 24 = .ok (.ireturn, 1) := by decide +kernel

theorem dX9_fews_0 : decode cX9_fews 0 = .ok (.aload_n 0, 1) := by decide +kernel
theorem dX9_fews_1 : decode cX9_fews 1 = .ok (.iconst 0, 1) := by decide +kernel
theorem dX9_fews_2 : decode cX9_fews 2 = .ok (.putfield 83, 3) := by decide +kernel
theorem dX9_fews_5 : decode cX9_fews 5 = .ok (.aload_n 0, 1) := by decide +kernel
theorem dX9_fews_6 : decode cX9_fews 6 = .ok (.invokevirtual 248, 3) := by decide +kernel
theorem dX9_fews_9 : decode cX9_fews 9 = .ok (.ifCond .eq 10, 3) := by decide +kernel
theorem dX9_fews_12 : decode cX9_fews 12 = .ok (.aload_n 0, 1) := by decide +kernel
theorem dX9_fews_13 : decode cX9_fews 13 = .ok (.invokevirtual 354, 3) := by decide +kernel
theorem dX9_fews_16 : decode cX9_fews 16 = .ok (.goto 5, 3) := by decide +kernel
theorem dX9_fews_19 : decode cX9_fews 19 = .ok (.bipush (-2), 2) := by decide +kernel
theorem dX9_fews_21 : decode cX9_fews 21 = .ok (.ireturn, 1) := by decide +kernel

theorem dX9_first_0 : decode cX9_first 0 = .ok (.aload_n 0, 1) := by decide +kernel
theorem dX9_first_1 : decode cX9_first 1 = .ok (.iconst 0, 1) := by decide +kernel
theorem dX9_first_2 : decode cX9_first 2 = .ok (.putfield 83, 3) := by decide +kernel
theorem dX9_first_5 : decode cX9_first 5 = .ok (.aload_n 0, 1) := by decide +kernel
theorem dX9_first_6 : decode cX9_first 6 = .ok (.invokevirtual 248, 3) := by decide +kernel
theorem dX9_first_9 : decode cX9_first 9 = .ok (.ifCond .ne 6, 3) := by decide +kernel
theorem dX9_first_12 : decode cX9_first 12 = .ok (.bipush (-2), 2) := by decide +kernel
theorem dX9_first_14 : decode cX9_first 14 = .ok (.ireturn, 1) := by decide +kernel
theorem dX9_first_15 : decode cX9_first 15 = .ok (.aload_n 0, 1) := by decide +kernel
theorem dX9_first_16 : decode cX9_first 16 = .ok (.invokevirtual 330, 3) := by decide +kernel
theorem dX9_first_19 : decode cX9_first 19 = .ok (.iconst 0, 1) := by decide +kernel
theorem dX9_first_20 : decode cX9_first 20 = .ok (.istore_n 1, 1) := by decide +kernel
theorem dX9_first_21 : decode cX9_first 21 = .ok (.iload_n 1, 1) := by decide +kernel
theorem dX9_first_22 : decode cX9_first 22 = .ok (.aload_n 0, 1) := by decide +kernel
theorem dX9_first_23 : decode cX9_first 23 = .ok (.invokevirtual 251, 3) := by decide +kernel
theorem dX9_first_26 : decode cX9_first 26 = .ok (.if_icmp .ge 19, 3) := by decide +kernel
theorem dX9_first_29 : decode cX9_first 29 = .ok (.aload_n 0, 1) := by decide +kernel
theorem dX9_first_30 : decode cX9_first 30 = .ok (.iload_n 1, 1) := by decide +kernel
theorem dX9_first_31 : decode cX9_first 31 = .ok (.invokevirtual 348, 3) := by decide +kernel
theorem dX9_first_34 : decode cX9_first 34 = .ok (.ifCond .eq 5, 3) := by decide +kernel
theorem dX9_first_37 : decode cX9_first 37 = .ok (.iload_n 1, 1) := by decide +kernel
theorem dX9_first_38 : decode cX9_first 38 = .ok (.ireturn, 1) := by decide +kernel
theorem dX9_first_39 : decode cX9_first 39 = .ok (.iinc 1 1, 3) := by decide +kernel
theorem dX9_first_42 : decode cX9_first 42 = .ok (.goto (-21), 3) := by decide +kernel
theorem dX9_first_45 : decode cX9_first 45 = .ok (.iconst (-1), 1) := by decide +kernel
theorem dX9_first_46 : decode cX9_first 46 = .ok (.ireturn, 1) := by decide +kernel

theorem dX9_follows_0 : decode cX9_follows 0 = .ok (.aload_n 0, 1) := by decide +kernel
theorem dX9_follows_1 : decode cX9_follows 1 = .ok (.aload_n 0, 1) := by decide +kernel
theorem dX9_follows_2 : decode cX9_follows 2 = .ok (.getfield 107, 3) := by decide +kernel
theorem dX9_follows_5 : decode cX9_follows 5 = .ok (.bipush 32, 2) := by decide +kernel
theorem dX9_follows_7 : decode cX9_follows 7 = .ok (.bipush 32, 2) := by decide +kernel
theorem dX9_follows_9 : decode cX9_follows 9 = .ok (.invokevirtual 110, 3) := by decide +kernel
theorem dX9_follows_12 : decode cX9_follows 12 = .ok (.ifCond .ne 18, 3) := by decide +kernel
theorem dX9_follows_15 : decode cX9_follows 15 = .ok (.aload_n 0, 1) := by decide +kernel
theorem dX9_follows_16 : decode cX9_follows 16 = .ok (.aload_n 0, 1) := by decide +kernel
theorem dX9_follows_17 : decode cX9_follows 17 = .ok (.getfield 107, 3) := by decide +kernel
theorem dX9_follows_20 : decode cX9_follows 20 = .ok (.bipush 10, 2) := by decide +kernel
theorem dX9_follows_22 : decode cX9_follows 22 = .ok (.bipush 10, 2) := by decide +kernel
theorem dX9_follows_24 : decode cX9_follows 24 = .ok (.invokevirtual 110, 3) := by decide +kernel
theorem dX9_follows_27 : decode cX9_follows 27 = .ok (.ifCond .eq 16, 3) := by decide +kernel
theorem dX9_follows_30 : decode cX9_follows 30 = .ok (.aload_n 0, 1) := by decide +kernel
theorem dX9_follows_31 : decode cX9_follows 31 = .ok (.dup, 1) := by decide +kernel
theorem dX9_follows_32 : decode cX9_follows 32 = .ok (.getfield 107, 3) := by decide +kernel
theorem dX9_follows_35 : decode cX9_follows 35 = .ok (.iconst 1, 1) := by decide +kernel
theorem dX9_follows_36 : decode cX9_follows 36 = .ok (.iadd, 1) := by decide +kernel
theorem dX9_follows_37 : decode cX9_follows 37 = .ok (.putfield 107, 3) := by decide +kernel
theorem dX9_follows_40 : decode cX9_follows 40 = .ok (.goto (-40), 3) := by decide +kernel
theorem dX9_follows_43 : decode cX9_follows 43 = .ok (.aload_n 0, 1) := by decide +kernel
theorem dX9_follows_44 : decode cX9_follows 44 = .ok (.aload_n 0, 1) := by decide +kernel
theorem dX9_follows_45 : decode cX9_follows 45 = .ok (.getfield 107, 3) := by decide +kernel
theorem dX9_follows_48 : decode cX9_follows 48 = .ok (.putfield 114, 3) := by decide +kernel
theorem dX9_follows_51 : decode cX9_follows 51 = .ok (.aload_n 0, 1) := by decide +kernel
theorem dX9_follows_52 : decode cX9_follows 52 = .ok (.iconst 0, 1) := by decide +kernel
theorem dX9_follows_53 : decode cX9_follows 53 = .ok (.putfield 117, 3) := by decide +kernel
theorem dX9_follows_56 : decode cX9_follows 56 = .ok (.aload_n 0, 1) := by decide +kernel
theorem dX9_follows_57 : decode cX9_follows 57 = .ok (.lconst 0, 1) := by decide +kernel
theorem dX9_follows_58 : decode cX9_follows 58 = .ok (.putfield 120, 3) := by decide +kernel
theorem dX9_follows_61 : decode cX9_follows 61 = .ok (.aload_n 0, 1) := by decide +kernel
theorem dX9_follows_62 : decode cX9_follows 62 = .ok (.getfield 107, 3) := by decide +kernel
theorem dX9_follows_65 : decode cX9_follows 65 = .ok (.aload_n 0, 1) := by decide +kernel
theorem dX9_follows_66 : decode cX9_follows 66 = .ok (.getfield 100, 3) := by decide +kernel
theorem dX9_follows_69 : decode cX9_follows 69 = .ok (.if_icmp .ne 11, 3) := by decide +kernel
theorem dX9_follows_72 : decode cX9_follows 72 = .ok (.aload_n 0, 1) := by decide +kernel
theorem dX9_follows_73 : decode cX9_follows 73 = .ok (.iconst 0, 1) := by decide +kernel
theorem dX9_follows_74 : decode cX9_follows 74 = .ok (.putfield 124, 3) := by decide +kernel
theorem dX9_follows_77 : decode cX9_follows 77 = .ok (.goto 230, 3) := by decide +kernel
theorem dX9_follows_80 : decode cX9_follows 80 = .ok (.aload_n 0, 1) := by decide +kernel
theorem dX9_follows_81 : decode cX9_follows 81 = .ok (.aload_n 0, 1) := by decide +kernel
theorem dX9_follows_82 : decode cX9_follows 82 = .ok (.getfield 107, 3) := by decide +kernel
theorem dX9_follows_85 : decode cX9_follows 85 = .ok (.bipush 97, 2) := by decide +kernel
theorem dX9_follows_87 : decode cX9_follows 87 = .ok (.bipush 122, 2) := by decide +kernel
theorem dX9_follows_89 : decode cX9_follows 89 = .ok (.invokevirtual 110, 3) := by decide +kernel
theorem dX9_follows_92 : decode cX9_follows 92 = .ok (.ifCond .eq 96, 3) := by decide +kernel
theorem dX9_follows_95 : decode cX9_follows 95 = .ok (.aload_n 0, 1) := by decide +kernel
theorem dX9_follows_96 : decode cX9_follows 96 = .ok (.iconst 1, 1) := by decide +kernel
theorem dX9_follows_97 : decode cX9_follows 97 = .ok (.putfield 124, 3) := by decide +kernel
theorem dX9_follows_100 : decode cX9_follows 100 = .ok (.iconst 0, 1) := by decide +kernel
theorem dX9_follows_101 : decode cX9_follows 101 = .ok (.istore_n 1, 1) := by decide +kernel
theorem dX9_follows_102 : decode cX9_follows 102 = .ok (.aload_n 0, 1) := by decide +kernel
theorem dX9_follows_103 : decode cX9_follows 103 = .ok (.aload_n 0, 1) := by decide +kernel
theorem dX9_follows_104 : decode cX9_follows 104 = .ok (.getfield 107, 3) := by decide +kernel
theorem dX9_follows_107 : decode cX9_follows 107 = .ok (.bipush 97, 2) := by decide +kernel
theorem dX9_follows_109 : decode cX9_follows 109 = .ok (.bipush 122, 2) := by decide +kernel
theorem dX9_follows_111 : decode cX9_follows 111 = .ok (.invokevirtual 110, 3) := by decide +kernel
theorem dX9_follows_114 : decode cX9_follows 114 = .ok (.ifCond .eq 71, 3) := by decide +kernel
theorem dX9_follows_117 : decode cX9_follows 117 = .ok (.aload_n 0, 1) := by decide +kernel
theorem dX9_follows_118 : decode cX9_follows 118 = .ok (.iload_n 1, 1) := by decide +kernel
theorem dX9_follows_119 : decode cX9_follows 119 = .ok (.bipush 11, 2) := by decide +kernel
theorem dX9_follows_121 : decode cX9_follows 121 = .ok (.if_icmp .le 9, 3) := by decide +kernel
theorem dX9_follows_124 : decode cX9_follows 124 = .ok (.ldc2_w 127, 3) := by decide +kernel
theorem dX9_follows_127 : decode cX9_follows 127 = .ok (.goto 26, 3) := by decide +kernel
theorem dX9_follows_130 : decode cX9_follows 130 = .ok (.ldc2_w 129, 3) := by decide +kernel
theorem dX9_follows_133 : decode cX9_follows 133 = .ok (.aload_n 0, 1) := by decide +kernel
theorem dX9_follows_134 : decode cX9_follows 134 = .ok (.getfield 120, 3) := by decide +kernel
theorem dX9_follows_137 : decode cX9_follows 137 = .ok (.lmul, 1) := by decide +kernel
theorem dX9_follows_138 : decode cX9_follows 138 = .ok (.aload_n 0, 1) := by decide +kernel
theorem dX9_follows_139 : decode cX9_follows 139 = .ok (.getfield 23, 3) := by decide +kernel
theorem dX9_follows_142 : decode cX9_follows 142 = .ok (.aload_n 0, 1) := by decide +kernel
theorem dX9_follows_143 : decode cX9_follows 143 = .ok (.getfield 107, 3) := by decide +kernel
theorem dX9_follows_146 : decode cX9_follows 146 = .ok (.baload, 1) := by decide +kernel
theorem dX9_follows_147 : decode cX9_follows 147 = .ok (.i2l, 1) := by decide +kernel
theorem dX9_follows_148 : decode cX9_follows 148 = .ok (.ladd, 1) := by decide +kernel
theorem dX9_follows_149 : decode cX9_follows 149 = .ok (.ldc2_w 131, 3) := by decide +kernel
theorem dX9_follows_152 : decode cX9_follows 152 = .ok (.lsub, 1) := by decide +kernel
theorem dX9_follows_153 : decode cX9_follows 153 = .ok (.putfield 120, 3) := by decide +kernel
theorem dX9_follows_156 : decode cX9_follows 156 = .ok (.iload_n 1, 1) := by decide +kernel
theorem dX9_follows_157 : decode cX9_follows 157 = .ok (.bipush 11, 2) := by decide +kernel
theorem dX9_follows_159 : decode cX9_follows 159 = .ok (.if_icmp .le 10, 3) := by decide +kernel
theorem dX9_follows_162 : decode cX9_follows 162 = .ok (.aload_n 0, 1) := by decide +kernel
theorem dX9_follows_163 : decode cX9_follows 163 = .ok (.ldc2_w 127, 3) := by decide +kernel
theorem dX9_follows_166 : decode cX9_follows 166 = .ok (.putfield 120, 3) := by decide +kernel
theorem dX9_follows_169 : decode cX9_follows 169 = .ok (.aload_n 0, 1) := by decide +kernel
theorem dX9_follows_170 : decode cX9_follows 170 = .ok (.dup, 1) := by decide +kernel
theorem dX9_follows_171 : decode cX9_follows 171 = .ok (.getfield 107, 3) := by decide +kernel
theorem dX9_follows_174 : decode cX9_follows 174 = .ok (.iconst 1, 1) := by decide +kernel
theorem dX9_follows_175 : decode cX9_follows 175 = .ok (.iadd, 1) := by decide +kernel
theorem dX9_follows_176 : decode cX9_follows 176 = .ok (.putfield 107, 3) := by decide +kernel
theorem dX9_follows_179 : decode cX9_follows 179 = .ok (.iinc 1 1, 3) := by decide +kernel
theorem dX9_follows_182 : decode cX9_follows 182 = .ok (.goto (-80), 3) := by decide +kernel
theorem dX9_follows_185 : decode cX9_follows 185 = .ok (.goto 122, 3) := by decide +kernel
theorem dX9_follows_188 : decode cX9_follows 188 = .ok (.aload_n 0, 1) := by decide +kernel
theorem dX9_follows_189 : decode cX9_follows 189 = .ok (.aload_n 0, 1) := by decide +kernel
theorem dX9_follows_190 : decode cX9_follows 190 = .ok (.getfield 107, 3) := by decide +kernel
theorem dX9_follows_193 : decode cX9_follows 193 = .ok (.bipush 48, 2) := by decide +kernel
theorem dX9_follows_195 : decode cX9_follows 195 = .ok (.bipush 57, 2) := by decide +kernel
theorem dX9_follows_197 : decode cX9_follows 197 = .ok (.invokevirtual 110, 3) := by decide +kernel
theorem dX9_follows_200 : decode cX9_follows 200 = .ok (.ifCond .eq 74, 3) := by decide +kernel
theorem dX9_follows_203 : decode cX9_follows 203 = .ok (.aload_n 0, 1) := by decide +kernel
theorem dX9_follows_204 : decode cX9_follows 204 = .ok (.iconst 2, 1) := by decide +kernel
theorem dX9_follows_205 : decode cX9_follows 205 = .ok (.putfield 124, 3) := by decide +kernel
theorem dX9_follows_208 : decode cX9_follows 208 = .ok (.aload_n 0, 1) := by decide +kernel
theorem dX9_follows_209 : decode cX9_follows 209 = .ok (.aload_n 0, 1) := by decide +kernel
theorem dX9_follows_210 : decode cX9_follows 210 = .ok (.getfield 107, 3) := by decide +kernel
theorem dX9_follows_213 : decode cX9_follows 213 = .ok (.bipush 48, 2) := by decide +kernel
theorem dX9_follows_215 : decode cX9_follows 215 = .ok (.bipush 57, 2) := by decide +kernel
theorem dX9_follows_217 : decode cX9_follows 217 = .ok (.invokevirtual 110, 3) := by decide +kernel
theorem dX9_follows_220 : decode cX9_follows 220 = .ok (.ifCond .eq 87, 3) := by decide +kernel
theorem dX9_follows_223 : decode cX9_follows 223 = .ok (.aload_n 0, 1) := by decide +kernel
theorem dX9_follows_224 : decode cX9_follows 224 = .ok (.aload_n 0, 1) := by decide +kernel
theorem dX9_follows_225 : decode cX9_follows 225 = .ok (.getfield 117, 3) := by decide +kernel
theorem dX9_follows_228 : decode cX9_follows 228 = .ok (.ldc 133, 2) := by decide +kernel
theorem dX9_follows_230 : decode cX9_follows 230 = .ok (.if_icmp .le 8, 3) := by decide +kernel
theorem dX9_follows_233 : decode cX9_follows 233 = .ok (.ldc 134, 2) := by decide +kernel
theorem dX9_follows_235 : decode cX9_follows 235 = .ok (.goto 23, 3) := by decide +kernel
theorem dX9_follows_238 : decode cX9_follows 238 = .ok (.bipush 10, 2) := by decide +kernel
theorem dX9_follows_240 : decode cX9_follows 240 = .ok (.aload_n 0, 1) := by decide +kernel
theorem dX9_follows_241 : decode cX9_follows 241 = .ok (.getfield 117, 3) := by decide +kernel
theorem dX9_follows_244 : decode cX9_follows 244 = .ok (.imul, 1) := by decide +kernel
theorem dX9_follows_245 : decode cX9_follows 245 = .ok (.aload_n 0, 1) := by decide +kernel
theorem dX9_follows_246 : decode cX9_follows 246 = .ok (.getfield 23, 3) := by decide +kernel
theorem dX9_follows_249 : decode cX9_follows 249 = .ok (.aload_n 0, 1) := by decide +kernel
theorem dX9_follows_250 : decode cX9_follows 250 = .ok (.getfield 107, 3) := by decide +kernel
theorem dX9_follows_253 : decode cX9_follows 253 = .ok (.baload, 1) := by decide +kernel
theorem dX9_follows_254 : decode cX9_follows 254 = .ok (.iadd, 1) := by decide +kernel
theorem dX9_follows_255 : decode cX9_follows 255 = .ok (.bipush 48, 2) := by decide +kernel
theorem dX9_follows_257 : decode cX9_follows 257 = .ok (.isub, 1) := by decide +kernel
theorem dX9_follows_258 : decode cX9_follows 258 = .ok (.putfield 117, 3) := by decide +kernel
theorem dX9_follows_261 : decode cX9_follows 261 = .ok (.aload_n 0, 1) := by decide +kernel
theorem dX9_follows_262 : decode cX9_follows 262 = .ok (.dup, 1) := by decide +kernel
theorem dX9_follows_263 : decode cX9_follows 263 = .ok (.getfield 107, 3) := by decide +kernel
theorem dX9_follows_266 : decode cX9_follows 266 = .ok (.iconst 1, 1) := by decide +kernel
theorem dX9_follows_267 : decode cX9_follows 267 = .ok (.iadd, 1) := by decide +kernel
theorem dX9_follows_268 : decode cX9_follows 268 = .ok (.putfield 107, 3) := by decide +kernel
theorem dX9_follows_271 : decode cX9_follows 271 = .ok (.goto (-63), 3) := by decide +kernel
theorem dX9_follows_274 : decode cX9_follows 274 = .ok (.aload_n 0, 1) := by decide +kernel
theorem dX9_follows_275 : decode cX9_follows 275 = .ok (.aload_n 0, 1) := by decide +kernel
theorem dX9_follows_276 : decode cX9_follows 276 = .ok (.getfield 23, 3) := by decide +kernel
theorem dX9_follows_279 : decode cX9_follows 279 = .ok (.aload_n 0, 1) := by decide +kernel
theorem dX9_follows_280 : decode cX9_follows 280 = .ok (.getfield 107, 3) := by decide +kernel
theorem dX9_follows_283 : decode cX9_follows 283 = .ok (.baload, 1) := by decide +kernel
theorem dX9_follows_284 : decode cX9_follows 284 = .ok (.bipush 59, 2) := by decide +kernel
theorem dX9_follows_286 : decode cX9_follows 286 = .ok (.if_icmp .ne 7, 3) := by decide +kernel
theorem dX9_follows_289 : decode cX9_follows 289 = .ok (.iconst 3, 1) := by decide +kernel
theorem dX9_follows_290 : decode cX9_follows 290 = .ok (.goto 4, 3) := by decide +kernel
theorem dX9_follows_293 : decode cX9_follows 293 = .ok (.iconst 4, 1) := by decide +kernel
theorem dX9_follows_294 : decode cX9_follows 294 = .ok (.putfield 124, 3) := by decide +kernel
theorem dX9_follows_297 : decode cX9_follows 297 = .ok (.aload_n 0, 1) := by decide +kernel
theorem dX9_follows_298 : decode cX9_follows 298 = .ok (.dup, 1) := by decide +kernel
theorem dX9_follows_299 : decode cX9_follows 299 = .ok (.getfield 107, 3) := by decide +kernel
theorem dX9_follows_302 : decode cX9_follows 302 = .ok (.iconst 1, 1) := by decide +kernel
theorem dX9_follows_303 : decode cX9_follows 303 = .ok (.iadd, 1) := by decide +kernel
theorem dX9_follows_304 : decode cX9_follows 304 = .ok (.putfield 107, 3) := by decide +kernel
theorem dX9_follows_307 : decode cX9_follows 307 = .ok (.return_, 1) := by decide +kernel

theorem dX9_four_0 : decode cX9_four 0 = .ok (.bipush 24, 2) := by decide +kernel
theorem dX9_four_2 : decode cX9_four 2 = .ok (.istore_n 2, 1) := by decide +kernel
theorem dX9_four_3 : decode cX9_four 3 = .ok (.iload_n 2, 1) := by decide +kernel
theorem dX9_four_4 : decode cX9_four 4 = .ok (.ifCond .lt 32, 3) := by decide +kernel
theorem dX9_four_7 : decode cX9_four 7 = .ok (.aload_n 0, 1) := by decide +kernel
theorem dX9_four_8 : decode cX9_four 8 = .ok (.getfield 23, 3) := by decide +kernel
theorem dX9_four_11 : decode cX9_four 11 = .ok (.aload_n 0, 1) := by decide +kernel
theorem dX9_four_12 : decode cX9_four 12 = .ok (.getfield 100, 3) := by decide +kernel
theorem dX9_four_15 : decode cX9_four 15 = .ok (.iload_n 1, 1) := by decide +kernel
theorem dX9_four_16 : decode cX9_four 16 = .ok (.iload_n 2, 1) := by decide +kernel
theorem dX9_four_17 : decode cX9_four 17 = .ok (.ishr, 1) := by decide +kernel
theorem dX9_four_18 : decode cX9_four 18 = .ok (.i2b, 1) := by decide +kernel
theorem dX9_four_19 : decode cX9_four 19 = .ok (.bastore, 1) := by decide +kernel
theorem dX9_four_20 : decode cX9_four 20 = .ok (.aload_n 0, 1) := by decide +kernel
theorem dX9_four_21 : decode cX9_four 21 = .ok (.dup, 1) := by decide +kernel
theorem dX9_four_22 : decode cX9_four 22 = .ok (.getfield 100, 3) := by decide +kernel
theorem dX9_four_25 : decode cX9_four 25 = .ok (.iconst 1, 1) := by decide +kernel
theorem dX9_four_26 : decode cX9_four 26 = .ok (.iadd, 1) := by decide +kernel
theorem dX9_four_27 : decode cX9_four 27 = .ok (.putfield 100, 3) := by decide +kernel
theorem dX9_four_30 : decode cX9_four 30 = .ok (.iinc 2 (-8), 3) := by decide +kernel
theorem dX9_four_33 : decode cX9_four 33 = .ok (.goto (-30), 3) := by decide +kernel
theorem dX9_four_36 : decode cX9_four 36 = .ok (.return_, 1) := by decide +kernel

theorem dX9_gets_0 : decode cX9_gets 0 = .ok (.aload_n 0, 1) := by decide +kernel
theorem dX9_gets_1 : decode cX9_gets 1 = .ok (.iconst 0, 1) := by decide +kernel
theorem dX9_gets_2 : decode cX9_gets 2 = .ok (.putfield 83, 3) := by decide +kernel
theorem dX9_gets_5 : decode cX9_gets 5 = .ok (.aload_n 0, 1) := by decide +kernel
theorem dX9_gets_6 : decode cX9_gets 6 = .ok (.iload_n 1, 1) := by decide +kernel
theorem dX9_gets_7 : decode cX9_gets 7 = .ok (.iload_n 2, 1) := by decide +kernel
theorem dX9_gets_8 : decode cX9_gets 8 = .ok (.invokevirtual 438, 3) := by decide +kernel
theorem dX9_gets_11 : decode cX9_gets 11 = .ok (.ifCond .eq 31, 3) := by decide +kernel
theorem dX9_gets_14 : decode cX9_gets 14 = .ok (.iload_n 3, 1) := by decide +kernel
theorem dX9_gets_15 : decode cX9_gets 15 = .ok (.invokestatic 364, 3) := by decide +kernel
theorem dX9_gets_18 : decode cX9_gets 18 = .ok (.ifCond .eq 24, 3) := by decide +kernel
theorem dX9_gets_21 : decode cX9_gets 21 = .ok (.iload 4, 2) := by decide +kernel
theorem dX9_gets_23 : decode cX9_gets 23 = .ok (.invokestatic 364, 3) := by decide +kernel
theorem dX9_gets_26 : decode cX9_gets 26 = .ok (.ifCond .eq 16, 3) := by decide +kernel
theorem dX9_gets_29 : decode cX9_gets 29 = .ok (.aload_n 0, 1) := by decide +kernel
theorem dX9_gets_30 : decode cX9_gets 30 = .ok (.iload_n 1, 1) := by decide +kernel
theorem dX9_gets_31 : decode cX9_gets 31 = .ok (.iload_n 1, 1) := by decide +kernel
theorem dX9_gets_32 : decode cX9_gets 32 = .ok (.iload_n 2, 1) := by decide +kernel
theorem dX9_gets_33 : decode cX9_gets 33 = .ok (.iload_n 3, 1) := by decide +kernel
theorem dX9_gets_34 : decode cX9_gets 34 = .ok (.iload 4, 2) := by decide +kernel
theorem dX9_gets_36 : decode cX9_gets 36 = .ok (.invokevirtual 441, 3) := by decide +kernel
theorem dX9_gets_39 : decode cX9_gets 39 = .ok (.goto 6, 3) := by decide +kernel
theorem dX9_gets_42 : decode cX9_gets 42 = .ok (.sipush (-1000), 3) := by decide +kernel
theorem dX9_gets_45 : decode cX9_gets 45 = .ok (.ireturn, 1) := by decide +kernel

theorem dX9_high_0 : decode cX9_high 0 = .ok (.aload_n 0, 1) := by decide +kernel
theorem dX9_high_1 : decode cX9_high 1 = .ok (.iconst 0, 1) := by decide +kernel
theorem dX9_high_2 : decode cX9_high 2 = .ok (.putfield 83, 3) := by decide +kernel
theorem dX9_high_5 : decode cX9_high 5 = .ok (.aload_n 0, 1) := by decide +kernel
theorem dX9_high_6 : decode cX9_high 6 = .ok (.iload_n 1, 1) := by decide +kernel
theorem dX9_high_7 : decode cX9_high 7 = .ok (.aload_n 0, 1) := by decide +kernel
theorem dX9_high_8 : decode cX9_high 8 = .ok (.iload_n 2, 1) := by decide +kernel
theorem dX9_high_9 : decode cX9_high 9 = .ok (.i2l, 1) := by decide +kernel
theorem dX9_high_10 : decode cX9_high 10 = .ok (.invokevirtual 254, 3) := by decide +kernel
theorem dX9_high_13 : decode cX9_high 13 = .ok (.invokevirtual 410, 3) := by decide +kernel
theorem dX9_high_16 : decode cX9_high 16 = .ok (.istore_n 3, 1) := by decide +kernel
theorem dX9_high_17 : decode cX9_high 17 = .ok (.iload_n 3, 1) := by decide +kernel
theorem dX9_high_18 : decode cX9_high 18 = .ok (.ifCond .eq 5, 3) := by decide +kernel
theorem dX9_high_21 : decode cX9_high 21 = .ok (.iload_n 3, 1) := by decide +kernel
theorem dX9_high_22 : decode cX9_high 22 = .ok (.ireturn, 1) := by decide +kernel
theorem dX9_high_23 : decode cX9_high 23 = .ok (.aload_n 0, 1) := by decide +kernel
theorem dX9_high_24 : decode cX9_high 24 = .ok (.iload_n 1, 1) := by decide +kernel
theorem dX9_high_25 : decode cX9_high 25 = .ok (.iload_n 2, 1) := by decide +kernel
theorem dX9_high_26 : decode cX9_high 26 = .ok (.invokevirtual 414, 3) := by decide +kernel
theorem dX9_high_29 : decode cX9_high 29 = .ok (.aload_n 0, 1) := by decide +kernel
theorem dX9_high_30 : decode cX9_high 30 = .ok (.getfield 398, 3) := by decide +kernel
theorem dX9_high_33 : decode cX9_high 33 = .ok (.ireturn, 1) := by decide +kernel

theorem dX9_how_0 : decode cX9_how 0 = .ok (.aload_n 0, 1) := by decide +kernel
theorem dX9_how_1 : decode cX9_how 1 = .ok (.iconst 0, 1) := by decide +kernel
theorem dX9_how_2 : decode cX9_how 2 = .ok (.putfield 83, 3) := by decide +kernel
theorem dX9_how_5 : decode cX9_how 5 = .ok (.aload_n 0, 1) := by decide +kernel
theorem dX9_how_6 : decode cX9_how 6 = .ok (.iload_n 1, 1) := by decide +kernel
theorem dX9_how_7 : decode cX9_how 7 = .ok (.i2l, 1) := by decide +kernel
theorem dX9_how_8 : decode cX9_how 8 = .ok (.invokevirtual 254, 3) := by decide +kernel
theorem dX9_how_11 : decode cX9_how 11 = .ok (.ifCond .ne 6, 3) := by decide +kernel
theorem dX9_how_14 : decode cX9_how 14 = .ok (.bipush (-2), 2) := by decide +kernel
theorem dX9_how_16 : decode cX9_how 16 = .ok (.ireturn, 1) := by decide +kernel
theorem dX9_how_17 : decode cX9_how 17 = .ok (.aload_n 0, 1) := by decide +kernel
theorem dX9_how_18 : decode cX9_how 18 = .ok (.invokevirtual 330, 3) := by decide +kernel
theorem dX9_how_21 : decode cX9_how 21 = .ok (.aload_n 0, 1) := by decide +kernel
theorem dX9_how_22 : decode cX9_how 22 = .ok (.getfield 68, 3) := by decide +kernel
theorem dX9_how_25 : decode cX9_how 25 = .ok (.iload_n 1, 1) := by decide +kernel
theorem dX9_how_26 : decode cX9_how 26 = .ok (.iaload, 1) := by decide +kernel
theorem dX9_how_27 : decode cX9_how 27 = .ok (.ireturn, 1) := by decide +kernel

theorem dX9_idle_0 : decode cX9_idle 0 = .ok (.aload_n 0, 1) := by decide +kernel
theorem dX9_idle_1 : decode cX9_idle 1 = .ok (.iconst 0, 1) := by decide +kernel
theorem dX9_idle_2 : decode cX9_idle 2 = .ok (.putfield 83, 3) := by decide +kernel
theorem dX9_idle_5 : decode cX9_idle 5 = .ok (.aload_n 0, 1) := by decide +kernel
theorem dX9_idle_6 : decode cX9_idle 6 = .ok (.invokevirtual 248, 3) := by decide +kernel
theorem dX9_idle_9 : decode cX9_idle 9 = .ok (.ifCond .ne 6, 3) := by decide +kernel
theorem dX9_idle_12 : decode cX9_idle 12 = .ok (.bipush (-2), 2) := by decide +kernel
theorem dX9_idle_14 : decode cX9_idle 14 = .ok (.ireturn, 1) := by decide +kernel
theorem dX9_idle_15 : decode cX9_idle 15 = .ok (.aload_n 0, 1) := by decide +kernel
theorem dX9_idle_16 : decode cX9_idle 16 = .ok (.invokevirtual 330, 3) := by decide +kernel
theorem dX9_idle_19 : decode cX9_idle 19 = .ok (.iconst 0, 1) := by decide +kernel
theorem dX9_idle_20 : decode cX9_idle 20 = .ok (.istore_n 1, 1) := by decide +kernel
theorem dX9_idle_21 : decode cX9_idle 21 = .ok (.iconst 0, 1) := by decide +kernel
theorem dX9_idle_22 : decode cX9_idle 22 = .ok (.istore_n 2, 1) := by decide +kernel
theorem dX9_idle_23 : decode cX9_idle 23 = .ok (.iload_n 2, 1) := by decide +kernel
theorem dX9_idle_24 : decode cX9_idle 24 = .ok (.aload_n 0, 1) := by decide +kernel
theorem dX9_idle_25 : decode cX9_idle 25 = .ok (.getfield 34, 3) := by decide +kernel
theorem dX9_idle_28 : decode cX9_idle 28 = .ok (.iconst 5, 1) := by decide +kernel
theorem dX9_idle_29 : decode cX9_idle 29 = .ok (.iaload, 1) := by decide +kernel
theorem dX9_idle_30 : decode cX9_idle 30 = .ok (.if_icmp .ge 47, 3) := by decide +kernel
theorem dX9_idle_33 : decode cX9_idle 33 = .ok (.iload_n 1, 1) := by decide +kernel
theorem dX9_idle_34 : decode cX9_idle 34 = .ok (.aload_n 0, 1) := by decide +kernel
theorem dX9_idle_35 : decode cX9_idle 35 = .ok (.getfield 43, 3) := by decide +kernel
theorem dX9_idle_38 : decode cX9_idle 38 = .ok (.iconst 2, 1) := by decide +kernel
theorem dX9_idle_39 : decode cX9_idle 39 = .ok (.iload_n 2, 1) := by decide +kernel
theorem dX9_idle_40 : decode cX9_idle 40 = .ok (.imul, 1) := by decide +kernel
theorem dX9_idle_41 : decode cX9_idle 41 = .ok (.iconst 1, 1) := by decide +kernel
theorem dX9_idle_42 : decode cX9_idle 42 = .ok (.iadd, 1) := by decide +kernel
theorem dX9_idle_43 : decode cX9_idle 43 = .ok (.iaload, 1) := by decide +kernel
theorem dX9_idle_44 : decode cX9_idle 44 = .ok (.aload_n 0, 1) := by decide +kernel
theorem dX9_idle_45 : decode cX9_idle 45 = .ok (.invokevirtual 251, 3) := by decide +kernel
theorem dX9_idle_48 : decode cX9_idle 48 = .ok (.if_icmp .ge 20, 3) := by decide +kernel
theorem dX9_idle_51 : decode cX9_idle 51 = .ok (.aload_n 0, 1) := by decide +kernel
theorem dX9_idle_52 : decode cX9_idle 52 = .ok (.getfield 285, 3) := by decide +kernel
theorem dX9_idle_55 : decode cX9_idle 55 = .ok (.iload_n 2, 1) := by decide +kernel
theorem dX9_idle_56 : decode cX9_idle 56 = .ok (.invokestatic 282, 3) := by decide +kernel
theorem dX9_idle_59 : decode cX9_idle 59 = .ok (.ifCond .ne 9, 3) := by decide +kernel
theorem dX9_idle_62 : decode cX9_idle 62 = .ok (.iconst 1, 1) := by decide +kernel
theorem dX9_idle_63 : decode cX9_idle 63 = .ok (.iload_n 2, 1) := by decide +kernel
theorem dX9_idle_64 : decode cX9_idle 64 = .ok (.ishl, 1) := by decide +kernel
theorem dX9_idle_65 : decode cX9_idle 65 = .ok (.goto 4, 3) := by decide +kernel
theorem dX9_idle_68 : decode cX9_idle 68 = .ok (.iconst 0, 1) := by decide +kernel
theorem dX9_idle_69 : decode cX9_idle 69 = .ok (.ior, 1) := by decide +kernel
theorem dX9_idle_70 : decode cX9_idle 70 = .ok (.istore_n 1, 1) := by decide +kernel
theorem dX9_idle_71 : decode cX9_idle 71 = .ok (.iinc 2 1, 3) := by decide +kernel
theorem dX9_idle_74 : decode cX9_idle 74 = .ok (.goto (-51), 3) := by decide +kernel
theorem dX9_idle_77 : decode cX9_idle 77 = .ok (.iload_n 1, 1) := by decide +kernel
theorem dX9_idle_78 : decode cX9_idle 78 = .ok (.ireturn, 1) := by decide +kernel

theorem dX9_image_0 : decode cX9_image 0 = .ok (.aload_n 0, 1) := by decide +kernel
theorem dX9_image_1 : decode cX9_image 1 = .ok (.iconst 0, 1) := by decide +kernel
theorem dX9_image_2 : decode cX9_image 2 = .ok (.putfield 83, 3) := by decide +kernel
theorem dX9_image_5 : decode cX9_image 5 = .ok (.iload_n 1, 1) := by decide +kernel
theorem dX9_image_6 : decode cX9_image 6 = .ok (.i2l, 1) := by decide +kernel
theorem dX9_image_7 : decode cX9_image 7 = .ok (.lconst 0, 1) := by decide +kernel
theorem dX9_image_8 : decode cX9_image 8 = .ok (.ldc2_w 325, 3) := by decide +kernel
theorem dX9_image_11 : decode cX9_image 11 = .ok (.invokestatic 88, 3) := by decide +kernel
theorem dX9_image_14 : decode cX9_image 14 = .ok (.ifCond .ne 6, 3) := by decide +kernel
theorem dX9_image_17 : decode cX9_image 17 = .ok (.bipush (-2), 2) := by decide +kernel
theorem dX9_image_19 : decode cX9_image 19 = .ok (.ireturn, 1) := by decide +kernel
theorem dX9_image_20 : decode cX9_image 20 = .ok (.aload_n 0, 1) := by decide +kernel
theorem dX9_image_21 : decode cX9_image 21 = .ok (.iconst 0, 1) := by decide +kernel
theorem dX9_image_22 : decode cX9_image 22 = .ok (.iconst 1, 1) := by decide +kernel
theorem dX9_image_23 : decode cX9_image 23 = .ok (.iload_n 1, 1) := by decide +kernel
theorem dX9_image_24 : decode cX9_image 24 = .ok (.iadd, 1) := by decide +kernel
theorem dX9_image_25 : decode cX9_image 25 = .ok (.invokevirtual 238, 3) := by decide +kernel
theorem dX9_image_28 : decode cX9_image 28 = .ok (.aload_n 0, 1) := by decide +kernel
theorem dX9_image_29 : decode cX9_image 29 = .ok (.getfield 49, 3) := by decide +kernel
theorem dX9_image_32 : decode cX9_image 32 = .ok (.iload_n 1, 1) := by decide +kernel
theorem dX9_image_33 : decode cX9_image 33 = .ok (.iconst 1, 1) := by decide +kernel
theorem dX9_image_34 : decode cX9_image 34 = .ok (.bastore, 1) := by decide +kernel
theorem dX9_image_35 : decode cX9_image 35 = .ok (.iconst 0, 1) := by decide +kernel
theorem dX9_image_36 : decode cX9_image 36 = .ok (.ireturn, 1) := by decide +kernel

theorem dX9_in_0 : decode cX9_in 0 = .ok (.lload_n 0, 1) := by decide +kernel
theorem dX9_in_1 : decode cX9_in 1 = .ok (.lload_n 2, 1) := by decide +kernel
theorem dX9_in_2 : decode cX9_in 2 = .ok (.lcmp, 1) := by decide +kernel
theorem dX9_in_3 : decode cX9_in 3 = .ok (.ifCond .lt 14, 3) := by decide +kernel
theorem dX9_in_6 : decode cX9_in 6 = .ok (.lload_n 0, 1) := by decide +kernel
theorem dX9_in_7 : decode cX9_in 7 = .ok (.lload 4, 2) := by decide +kernel
theorem dX9_in_9 : decode cX9_in 9 = .ok (.lcmp, 1) := by decide +kernel
theorem dX9_in_10 : decode cX9_in 10 = .ok (.ifCond .gt 7, 3) := by decide +kernel
theorem dX9_in_13 : decode cX9_in 13 = .ok (.iconst 1, 1) := by decide +kernel
theorem dX9_in_14 : decode cX9_in 14 = .ok (.goto 4, 3) := by decide +kernel
theorem dX9_in_17 : decode cX9_in 17 = .ok (.iconst 0, 1) := by decide +kernel
theorem dX9_in_18 : decode cX9_in 18 = .ok (.ireturn, 1) := by decide +kernel

theorem dX9_init_0 : decode cX9_init 0 = .ok (.aload_n 0, 1) := by decide +kernel
theorem dX9_init_1 : decode cX9_init 1 = .ok (.invokespecial 1, 3) := by decide +kernel
theorem dX9_init_4 : decode cX9_init 4 = .ok (.aload_n 0, 1) := by decide +kernel
theorem dX9_init_5 : decode cX9_init 5 = .ok (.iconst 4, 1) := by decide +kernel
theorem dX9_init_6 : decode cX9_init 6 = .ok (.newarray .int, 2) := by decide +kernel
theorem dX9_init_8 : decode cX9_init 8 = .ok (.putfield 7, 3) := by decide +kernel
theorem dX9_init_11 : decode cX9_init 11 = .ok (.aload_n 0, 1) := by decide +kernel
theorem dX9_init_12 : decode cX9_init 12 = .ok (.iconst 4, 1) := by decide +kernel
theorem dX9_init_13 : decode cX9_init 13 = .ok (.newarray .int, 2) := by decide +kernel
theorem dX9_init_15 : decode cX9_init 15 = .ok (.putfield 13, 3) := by decide +kernel
theorem dX9_init_18 : decode cX9_init 18 = .ok (.aload_n 0, 1) := by decide +kernel
theorem dX9_init_19 : decode cX9_init 19 = .ok (.sipush 240, 3) := by decide +kernel
theorem dX9_init_22 : decode cX9_init 22 = .ok (.newarray .long, 2) := by decide +kernel
theorem dX9_init_24 : decode cX9_init 24 = .ok (.putfield 16, 3) := by decide +kernel
theorem dX9_init_27 : decode cX9_init 27 = .ok (.aload_n 0, 1) := by decide +kernel
theorem dX9_init_28 : decode cX9_init 28 = .ok (.bipush 60, 2) := by decide +kernel
theorem dX9_init_30 : decode cX9_init 30 = .ok (.newarray .long, 2) := by decide +kernel
theorem dX9_init_32 : decode cX9_init 32 = .ok (.putfield 20, 3) := by decide +kernel
theorem dX9_init_35 : decode cX9_init 35 = .ok (.aload_n 0, 1) := by decide +kernel
theorem dX9_init_36 : decode cX9_init 36 = .ok (.sipush 700, 3) := by decide +kernel
theorem dX9_init_39 : decode cX9_init 39 = .ok (.newarray .byte, 2) := by decide +kernel
theorem dX9_init_41 : decode cX9_init 41 = .ok (.putfield 23, 3) := by decide +kernel
theorem dX9_init_44 : decode cX9_init 44 = .ok (.aload_n 0, 1) := by decide +kernel
theorem dX9_init_45 : decode cX9_init 45 = .ok (.iconst (-1), 1) := by decide +kernel
theorem dX9_init_46 : decode cX9_init 46 = .ok (.putfield 27, 3) := by decide +kernel
theorem dX9_init_49 : decode cX9_init 49 = .ok (.aload_n 0, 1) := by decide +kernel
theorem dX9_init_50 : decode cX9_init 50 = .ok (.iconst 5, 1) := by decide +kernel
theorem dX9_init_51 : decode cX9_init 51 = .ok (.newarray .int, 2) := by decide +kernel
theorem dX9_init_53 : decode cX9_init 53 = .ok (.putfield 31, 3) := by decide +kernel
theorem dX9_init_56 : decode cX9_init 56 = .ok (.aload_n 0, 1) := by decide +kernel
theorem dX9_init_57 : decode cX9_init 57 = .ok (.bipush 35, 2) := by decide +kernel
theorem dX9_init_59 : decode cX9_init 59 = .ok (.newarray .int, 2) := by decide +kernel
theorem dX9_init_61 : decode cX9_init 61 = .ok (.putfield 34, 3) := by decide +kernel
theorem dX9_init_64 : decode cX9_init 64 = .ok (.aload_n 0, 1) := by decide +kernel
theorem dX9_init_65 : decode cX9_init 65 = .ok (.bipush 90, 2) := by decide +kernel
theorem dX9_init_67 : decode cX9_init 67 = .ok (.newarray .int, 2) := by decide +kernel
theorem dX9_init_69 : decode cX9_init 69 = .ok (.putfield 37, 3) := by decide +kernel
theorem dX9_init_72 : decode cX9_init 72 = .ok (.aload_n 0, 1) := by decide +kernel
theorem dX9_init_73 : decode cX9_init 73 = .ok (.bipush 100, 2) := by decide +kernel
theorem dX9_init_75 : decode cX9_init 75 = .ok (.newarray .int, 2) := by decide +kernel
theorem dX9_init_77 : decode cX9_init 77 = .ok (.putfield 40, 3) := by decide +kernel
theorem dX9_init_80 : decode cX9_init 80 = .ok (.aload_n 0, 1) := by decide +kernel
theorem dX9_init_81 : decode cX9_init 81 = .ok (.bipush 80, 2) := by decide +kernel
theorem dX9_init_83 : decode cX9_init 83 = .ok (.newarray .int, 2) := by decide +kernel
theorem dX9_init_85 : decode cX9_init 85 = .ok (.putfield 43, 3) := by decide +kernel
theorem dX9_init_88 : decode cX9_init 88 = .ok (.aload_n 0, 1) := by decide +kernel
theorem dX9_init_89 : decode cX9_init 89 = .ok (.sipush 300, 3) := by decide +kernel
theorem dX9_init_92 : decode cX9_init 92 = .ok (.newarray .int, 2) := by decide +kernel
theorem dX9_init_94 : decode cX9_init 94 = .ok (.putfield 46, 3) := by decide +kernel
theorem dX9_init_97 : decode cX9_init 97 = .ok (.aload_n 0, 1) := by decide +kernel
theorem dX9_init_98 : decode cX9_init 98 = .ok (.iconst 3, 1) := by decide +kernel
theorem dX9_init_99 : decode cX9_init 99 = .ok (.newarray .boolean, 2) := by decide +kernel
theorem dX9_init_101 : decode cX9_init 101 = .ok (.putfield 49, 3) := by decide +kernel
theorem dX9_init_104 : decode cX9_init 104 = .ok (.aload_n 0, 1) := by decide +kernel
theorem dX9_init_105 : decode cX9_init 105 = .ok (.bipush 6, 2) := by decide +kernel
theorem dX9_init_107 : decode cX9_init 107 = .ok (.newarray .int, 2) := by decide +kernel
theorem dX9_init_109 : decode cX9_init 109 = .ok (.putfield 53, 3) := by decide +kernel
theorem dX9_init_112 : decode cX9_init 112 = .ok (.aload_n 0, 1) := by decide +kernel
theorem dX9_init_113 : decode cX9_init 113 = .ok (.bipush 12, 2) := by decide +kernel
theorem dX9_init_115 : decode cX9_init 115 = .ok (.newarray .int, 2) := by decide +kernel
theorem dX9_init_117 : decode cX9_init 117 = .ok (.putfield 56, 3) := by decide +kernel
theorem dX9_init_120 : decode cX9_init 120 = .ok (.aload_n 0, 1) := by decide +kernel
theorem dX9_init_121 : decode cX9_init 121 = .ok (.bipush 78, 2) := by decide +kernel
theorem dX9_init_123 : decode cX9_init 123 = .ok (.newarray .int, 2) := by decide +kernel
theorem dX9_init_125 : decode cX9_init 125 = .ok (.putfield 59, 3) := by decide +kernel
theorem dX9_init_128 : decode cX9_init 128 = .ok (.aload_n 0, 1) := by decide +kernel
theorem dX9_init_129 : decode cX9_init 129 = .ok (.bipush 13, 2) := by decide +kernel
theorem dX9_init_131 : decode cX9_init 131 = .ok (.newarray .int, 2) := by decide +kernel
theorem dX9_init_133 : decode cX9_init 133 = .ok (.putfield 62, 3) := by decide +kernel
theorem dX9_init_136 : decode cX9_init 136 = .ok (.aload_n 0, 1) := by decide +kernel
theorem dX9_init_137 : decode cX9_init 137 = .ok (.bipush 6, 2) := by decide +kernel
theorem dX9_init_139 : decode cX9_init 139 = .ok (.newarray .int, 2) := by decide +kernel
theorem dX9_init_141 : decode cX9_init 141 = .ok (.putfield 65, 3) := by decide +kernel
theorem dX9_init_144 : decode cX9_init 144 = .ok (.aload_n 0, 1) := by decide +kernel
theorem dX9_init_145 : decode cX9_init 145 = .ok (.bipush 6, 2) := by decide +kernel
theorem dX9_init_147 : decode cX9_init 147 = .ok (.newarray .int, 2) := by decide +kernel
theorem dX9_init_149 : decode cX9_init 149 = .ok (.putfield 68, 3) := by decide +kernel
theorem dX9_init_152 : decode cX9_init 152 = .ok (.aload_n 0, 1) := by decide +kernel
theorem dX9_init_153 : decode cX9_init 153 = .ok (.bipush 6, 2) := by decide +kernel
theorem dX9_init_155 : decode cX9_init 155 = .ok (.newarray .int, 2) := by decide +kernel
theorem dX9_init_157 : decode cX9_init 157 = .ok (.putfield 71, 3) := by decide +kernel
theorem dX9_init_160 : decode cX9_init 160 = .ok (.aload_n 0, 1) := by decide +kernel
theorem dX9_init_161 : decode cX9_init 161 = .ok (.iconst 5, 1) := by decide +kernel
theorem dX9_init_162 : decode cX9_init 162 = .ok (.newarray .int, 2) := by decide +kernel
theorem dX9_init_164 : decode cX9_init 164 = .ok (.putfield 74, 3) := by decide +kernel
theorem dX9_init_167 : decode cX9_init 167 = .ok (.aload_n 0, 1) := by decide +kernel
theorem dX9_init_168 : decode cX9_init 168 = .ok (.iconst 5, 1) := by decide +kernel
theorem dX9_init_169 : decode cX9_init 169 = .ok (.newarray .int, 2) := by decide +kernel
theorem dX9_init_171 : decode cX9_init 171 = .ok (.putfield 77, 3) := by decide +kernel
theorem dX9_init_174 : decode cX9_init 174 = .ok (.aload_n 0, 1) := by decide +kernel
theorem dX9_init_175 : decode cX9_init 175 = .ok (.sipush 1300, 3) := by decide +kernel
theorem dX9_init_178 : decode cX9_init 178 = .ok (.newarray .int, 2) := by decide +kernel
theorem dX9_init_180 : decode cX9_init 180 = .ok (.putfield 80, 3) := by decide +kernel
theorem dX9_init_183 : decode cX9_init 183 = .ok (.iconst 0, 1) := by decide +kernel
theorem dX9_init_184 : decode cX9_init 184 = .ok (.istore_n 1, 1) := by decide +kernel
theorem dX9_init_185 : decode cX9_init 185 = .ok (.iload_n 1, 1) := by decide +kernel
theorem dX9_init_186 : decode cX9_init 186 = .ok (.iconst 4, 1) := by decide +kernel
theorem dX9_init_187 : decode cX9_init 187 = .ok (.if_icmp .ge 16, 3) := by decide +kernel
theorem dX9_init_190 : decode cX9_init 190 = .ok (.aload_n 0, 1) := by decide +kernel
theorem dX9_init_191 : decode cX9_init 191 = .ok (.getfield 7, 3) := by decide +kernel
theorem dX9_init_194 : decode cX9_init 194 = .ok (.iload_n 1, 1) := by decide +kernel
theorem dX9_init_195 : decode cX9_init 195 = .ok (.iconst (-1), 1) := by decide +kernel
theorem dX9_init_196 : decode cX9_init 196 = .ok (.iastore, 1) := by decide +kernel
theorem dX9_init_197 : decode cX9_init 197 = .ok (.iinc 1 1, 3) := by decide +kernel
theorem dX9_init_200 : decode cX9_init 200 = .ok (.goto (-15), 3) := by decide +kernel
theorem dX9_init_203 : decode cX9_init 203 = .ok (.return_, 1) := by decide +kernel

theorem dX9_isAhead_0 : decode cX9_isAhead 0 = .ok (.iload_n 1, 1) := by decide +kernel
theorem dX9_isAhead_1 : decode cX9_isAhead 1 = .ok (.i2l, 1) := by decide +kernel
theorem dX9_isAhead_2 : decode cX9_isAhead 2 = .ok (.lconst 0, 1) := by decide +kernel
theorem dX9_isAhead_3 : decode cX9_isAhead 3 = .ok (.aload_n 0, 1) := by decide +kernel
theorem dX9_isAhead_4 : decode cX9_isAhead 4 = .ok (.invokevirtual 251, 3) := by decide +kernel
theorem dX9_isAhead_7 : decode cX9_isAhead 7 = .ok (.i2l, 1) := by decide +kernel
theorem dX9_isAhead_8 : decode cX9_isAhead 8 = .ok (.lconst 1, 1) := by decide +kernel
theorem dX9_isAhead_9 : decode cX9_isAhead 9 = .ok (.lsub, 1) := by decide +kernel
theorem dX9_isAhead_10 : decode cX9_isAhead 10 = .ok (.invokestatic 88, 3) := by decide +kernel
theorem dX9_isAhead_13 : decode cX9_isAhead 13 = .ok (.ireturn, 1) := by decide +kernel

theorem dX9_isByte_0 : decode cX9_isByte 0 = .ok (.iload_n 1, 1) := by decide +kernel
theorem dX9_isByte_1 : decode cX9_isByte 1 = .ok (.aload_n 0, 1) := by decide +kernel
theorem dX9_isByte_2 : decode cX9_isByte 2 = .ok (.getfield 100, 3) := by decide +kernel
theorem dX9_isByte_5 : decode cX9_isByte 5 = .ok (.if_icmp .ge 27, 3) := by decide +kernel
theorem dX9_isByte_8 : decode cX9_isByte 8 = .ok (.aload_n 0, 1) := by decide +kernel
theorem dX9_isByte_9 : decode cX9_isByte 9 = .ok (.getfield 23, 3) := by decide +kernel
theorem dX9_isByte_12 : decode cX9_isByte 12 = .ok (.iload_n 1, 1) := by decide +kernel
theorem dX9_isByte_13 : decode cX9_isByte 13 = .ok (.baload, 1) := by decide +kernel
theorem dX9_isByte_14 : decode cX9_isByte 14 = .ok (.iload_n 2, 1) := by decide +kernel
theorem dX9_isByte_15 : decode cX9_isByte 15 = .ok (.if_icmp .lt 17, 3) := by decide +kernel
theorem dX9_isByte_18 : decode cX9_isByte 18 = .ok (.aload_n 0, 1) := by decide +kernel
theorem dX9_isByte_19 : decode cX9_isByte 19 = .ok (.getfield 23, 3) := by decide +kernel
theorem dX9_isByte_22 : decode cX9_isByte 22 = .ok (.iload_n 1, 1) := by decide +kernel
theorem dX9_isByte_23 : decode cX9_isByte 23 = .ok (.baload, 1) := by decide +kernel
theorem dX9_isByte_24 : decode cX9_isByte 24 = .ok (.iload_n 3, 1) := by decide +kernel
theorem dX9_isByte_25 : decode cX9_isByte 25 = .ok (.if_icmp .gt 7, 3) := by decide +kernel
theorem dX9_isByte_28 : decode cX9_isByte 28 = .ok (.iconst 1, 1) := by decide +kernel
theorem dX9_isByte_29 : decode cX9_isByte 29 = .ok (.goto 4, 3) := by decide +kernel
theorem dX9_isByte_32 : decode cX9_isByte 32 = .ok (.iconst 0, 1) := by decide +kernel
theorem dX9_isByte_33 : decode cX9_isByte 33 = .ok (.ireturn, 1) := by decide +kernel

theorem dX9_isGood_0 : decode cX9_isGood 0 = .ok (.aload_n 0, 1) := by decide +kernel
theorem dX9_isGood_1 : decode cX9_isGood 1 = .ok (.getfield 135, 3) := by decide +kernel
theorem dX9_isGood_4 : decode cX9_isGood 4 = .ok (.ifCond .ne 7, 3) := by decide +kernel
theorem dX9_isGood_7 : decode cX9_isGood 7 = .ok (.iconst 1, 1) := by decide +kernel
theorem dX9_isGood_8 : decode cX9_isGood 8 = .ok (.goto 4, 3) := by decide +kernel
theorem dX9_isGood_11 : decode cX9_isGood 11 = .ok (.iconst 0, 1) := by decide +kernel
theorem dX9_isGood_12 : decode cX9_isGood 12 = .ok (.ireturn, 1) := by decide +kernel

theorem dX9_isOver_0 : decode cX9_isOver 0 = .ok (.aload_n 0, 1) := by decide +kernel
theorem dX9_isOver_1 : decode cX9_isOver 1 = .ok (.iconst 0, 1) := by decide +kernel
theorem dX9_isOver_2 : decode cX9_isOver 2 = .ok (.putfield 100, 3) := by decide +kernel
theorem dX9_isOver_5 : decode cX9_isOver 5 = .ok (.aload_n 0, 1) := by decide +kernel
theorem dX9_isOver_6 : decode cX9_isOver 6 = .ok (.aload_n 0, 1) := by decide +kernel
theorem dX9_isOver_7 : decode cX9_isOver 7 = .ok (.getfield 135, 3) := by decide +kernel
theorem dX9_isOver_10 : decode cX9_isOver 10 = .ok (.putfield 162, 3) := by decide +kernel
theorem dX9_isOver_13 : decode cX9_isOver 13 = .ok (.aload_n 0, 1) := by decide +kernel
theorem dX9_isOver_14 : decode cX9_isOver 14 = .ok (.aload_n 0, 1) := by decide +kernel
theorem dX9_isOver_15 : decode cX9_isOver 15 = .ok (.getfield 135, 3) := by decide +kernel
theorem dX9_isOver_18 : decode cX9_isOver 18 = .ok (.ifCond .ne 7, 3) := by decide +kernel
theorem dX9_isOver_21 : decode cX9_isOver 21 = .ok (.iconst (-1), 1) := by decide +kernel
theorem dX9_isOver_22 : decode cX9_isOver 22 = .ok (.goto 7, 3) := by decide +kernel
theorem dX9_isOver_25 : decode cX9_isOver 25 = .ok (.aload_n 0, 1) := by decide +kernel
theorem dX9_isOver_26 : decode cX9_isOver 26 = .ok (.getfield 138, 3) := by decide +kernel
theorem dX9_isOver_29 : decode cX9_isOver 29 = .ok (.putfield 27, 3) := by decide +kernel
theorem dX9_isOver_32 : decode cX9_isOver 32 = .ok (.return_, 1) := by decide +kernel

theorem dX9_isPart_0 : decode cX9_isPart 0 = .ok (.lload_n 1, 1) := by decide +kernel
theorem dX9_isPart_1 : decode cX9_isPart 1 = .ok (.lconst 0, 1) := by decide +kernel
theorem dX9_isPart_2 : decode cX9_isPart 2 = .ok (.aload_n 0, 1) := by decide +kernel
theorem dX9_isPart_3 : decode cX9_isPart 3 = .ok (.invokevirtual 245, 3) := by decide +kernel
theorem dX9_isPart_6 : decode cX9_isPart 6 = .ok (.i2l, 1) := by decide +kernel
theorem dX9_isPart_7 : decode cX9_isPart 7 = .ok (.lconst 1, 1) := by decide +kernel
theorem dX9_isPart_8 : decode cX9_isPart 8 = .ok (.lsub, 1) := by decide +kernel
theorem dX9_isPart_9 : decode cX9_isPart 9 = .ok (.invokestatic 88, 3) := by decide +kernel
theorem dX9_isPart_12 : decode cX9_isPart 12 = .ok (.ireturn, 1) := by decide +kernel

theorem dX9_isPlan_0 : decode cX9_isPlan 0 = .ok (.aload_n 0, 1) := by decide +kernel
theorem dX9_isPlan_1 : decode cX9_isPlan 1 = .ok (.invokevirtual 248, 3) := by decide +kernel
theorem dX9_isPlan_4 : decode cX9_isPlan 4 = .ok (.ifCond .eq 25, 3) := by decide +kernel
theorem dX9_isPlan_7 : decode cX9_isPlan 7 = .ok (.iload_n 1, 1) := by decide +kernel
theorem dX9_isPlan_8 : decode cX9_isPlan 8 = .ok (.i2l, 1) := by decide +kernel
theorem dX9_isPlan_9 : decode cX9_isPlan 9 = .ok (.lconst 1, 1) := by decide +kernel
theorem dX9_isPlan_10 : decode cX9_isPlan 10 = .ok (.iconst 5, 1) := by decide +kernel
theorem dX9_isPlan_11 : decode cX9_isPlan 11 = .ok (.aload_n 0, 1) := by decide +kernel
theorem dX9_isPlan_12 : decode cX9_isPlan 12 = .ok (.invokevirtual 251, 3) := by decide +kernel
theorem dX9_isPlan_15 : decode cX9_isPlan 15 = .ok (.invokestatic 298, 3) := by decide +kernel
theorem dX9_isPlan_18 : decode cX9_isPlan 18 = .ok (.i2l, 1) := by decide +kernel
theorem dX9_isPlan_19 : decode cX9_isPlan 19 = .ok (.invokestatic 88, 3) := by decide +kernel
theorem dX9_isPlan_22 : decode cX9_isPlan 22 = .ok (.ifCond .eq 7, 3) := by decide +kernel
theorem dX9_isPlan_25 : decode cX9_isPlan 25 = .ok (.iconst 1, 1) := by decide +kernel
theorem dX9_isPlan_26 : decode cX9_isPlan 26 = .ok (.goto 4, 3) := by decide +kernel
theorem dX9_isPlan_29 : decode cX9_isPlan 29 = .ok (.iconst 0, 1) := by decide +kernel
theorem dX9_isPlan_30 : decode cX9_isPlan 30 = .ok (.ireturn, 1) := by decide +kernel

theorem dX9_isSeed_0 : decode cX9_isSeed 0 = .ok (.iload_n 0, 1) := by decide +kernel
theorem dX9_isSeed_1 : decode cX9_isSeed 1 = .ok (.i2l, 1) := by decide +kernel
theorem dX9_isSeed_2 : decode cX9_isSeed 2 = .ok (.lconst 0, 1) := by decide +kernel
theorem dX9_isSeed_3 : decode cX9_isSeed 3 = .ok (.ldc2_w 464, 3) := by decide +kernel
theorem dX9_isSeed_6 : decode cX9_isSeed 6 = .ok (.invokestatic 88, 3) := by decide +kernel
theorem dX9_isSeed_9 : decode cX9_isSeed 9 = .ok (.ireturn, 1) := by decide +kernel

theorem dX9_isSlot_0 : decode cX9_isSlot 0 = .ok (.iload_n 0, 1) := by decide +kernel
theorem dX9_isSlot_1 : decode cX9_isSlot 1 = .ok (.i2l, 1) := by decide +kernel
theorem dX9_isSlot_2 : decode cX9_isSlot 2 = .ok (.lconst 0, 1) := by decide +kernel
theorem dX9_isSlot_3 : decode cX9_isSlot 3 = .ok (.ldc2_w 86, 3) := by decide +kernel
theorem dX9_isSlot_6 : decode cX9_isSlot 6 = .ok (.invokestatic 88, 3) := by decide +kernel
theorem dX9_isSlot_9 : decode cX9_isSlot 9 = .ok (.ireturn, 1) := by decide +kernel

theorem dX9_isTale_0 : decode cX9_isTale 0 = .ok (.aload_n 0, 1) := by decide +kernel
theorem dX9_isTale_1 : decode cX9_isTale 1 = .ok (.getfield 31, 3) := by decide +kernel
theorem dX9_isTale_4 : decode cX9_isTale 4 = .ok (.iconst 0, 1) := by decide +kernel
theorem dX9_isTale_5 : decode cX9_isTale 5 = .ok (.iaload, 1) := by decide +kernel
theorem dX9_isTale_6 : decode cX9_isTale 6 = .ok (.ifCond .le 7, 3) := by decide +kernel
theorem dX9_isTale_9 : decode cX9_isTale 9 = .ok (.iconst 1, 1) := by decide +kernel
theorem dX9_isTale_10 : decode cX9_isTale 10 = .ok (.goto 4, 3) := by decide +kernel
theorem dX9_isTale_13 : decode cX9_isTale 13 = .ok (.iconst 0, 1) := by decide +kernel
theorem dX9_isTale_14 : decode cX9_isTale 14 = .ok (.ireturn, 1) := by decide +kernel

theorem dX9_isThen_0 : decode cX9_isThen 0 = .ok (.aload_n 0, 1) := by decide +kernel
theorem dX9_isThen_1 : decode cX9_isThen 1 = .ok (.iload_n 1, 1) := by decide +kernel
theorem dX9_isThen_2 : decode cX9_isThen 2 = .ok (.i2l, 1) := by decide +kernel
theorem dX9_isThen_3 : decode cX9_isThen 3 = .ok (.invokevirtual 254, 3) := by decide +kernel
theorem dX9_isThen_6 : decode cX9_isThen 6 = .ok (.ifCond .eq 16, 3) := by decide +kernel
theorem dX9_isThen_9 : decode cX9_isThen 9 = .ok (.aload_n 0, 1) := by decide +kernel
theorem dX9_isThen_10 : decode cX9_isThen 10 = .ok (.iload_n 2, 1) := by decide +kernel
theorem dX9_isThen_11 : decode cX9_isThen 11 = .ok (.i2l, 1) := by decide +kernel
theorem dX9_isThen_12 : decode cX9_isThen 12 = .ok (.invokevirtual 257, 3) := by decide +kernel
theorem dX9_isThen_15 : decode cX9_isThen 15 = .ok (.ifCond .eq 7, 3) := by decide +kernel
theorem dX9_isThen_18 : decode cX9_isThen 18 = .ok (.iconst 1, 1) := by decide +kernel
theorem dX9_isThen_19 : decode cX9_isThen 19 = .ok (.goto 4, 3) := by decide +kernel
theorem dX9_isThen_22 : decode cX9_isThen 22 = .ok (.iconst 0, 1) := by decide +kernel
theorem dX9_isThen_23 : decode cX9_isThen 23 = .ok (.ireturn, 1) := by decide +kernel

theorem dX9_isYear_0 : decode cX9_isYear 0 = .ok (.aload_n 0, 1) := by decide +kernel
theorem dX9_isYear_1 : decode cX9_isYear 1 = .ok (.invokevirtual 248, 3) := by decide +kernel
theorem dX9_isYear_4 : decode cX9_isYear 4 = .ok (.ifCond .eq 20, 3) := by decide +kernel
theorem dX9_isYear_7 : decode cX9_isYear 7 = .ok (.lload_n 1, 1) := by decide +kernel
theorem dX9_isYear_8 : decode cX9_isYear 8 = .ok (.lconst 0, 1) := by decide +kernel
theorem dX9_isYear_9 : decode cX9_isYear 9 = .ok (.aload_n 0, 1) := by decide +kernel
theorem dX9_isYear_10 : decode cX9_isYear 10 = .ok (.invokevirtual 251, 3) := by decide +kernel
theorem dX9_isYear_13 : decode cX9_isYear 13 = .ok (.i2l, 1) := by decide +kernel
theorem dX9_isYear_14 : decode cX9_isYear 14 = .ok (.invokestatic 88, 3) := by decide +kernel
theorem dX9_isYear_17 : decode cX9_isYear 17 = .ok (.ifCond .eq 7, 3) := by decide +kernel
theorem dX9_isYear_20 : decode cX9_isYear 20 = .ok (.iconst 1, 1) := by decide +kernel
theorem dX9_isYear_21 : decode cX9_isYear 21 = .ok (.goto 4, 3) := by decide +kernel
theorem dX9_isYear_24 : decode cX9_isYear 24 = .ok (.iconst 0, 1) := by decide +kernel
theorem dX9_isYear_25 : decode cX9_isYear 25 = .ok (.ireturn, 1) := by decide +kernel

theorem dX9_keeps_0 : decode cX9_keeps 0 = .ok (.aload_n 0, 1) := by decide +kernel
theorem dX9_keeps_1 : decode cX9_keeps 1 = .ok (.iconst 0, 1) := by decide +kernel
theorem dX9_keeps_2 : decode cX9_keeps 2 = .ok (.putfield 83, 3) := by decide +kernel
theorem dX9_keeps_5 : decode cX9_keeps 5 = .ok (.aload_n 0, 1) := by decide +kernel
theorem dX9_keeps_6 : decode cX9_keeps 6 = .ok (.iload_n 1, 1) := by decide +kernel
theorem dX9_keeps_7 : decode cX9_keeps 7 = .ok (.iload_n 2, 1) := by decide +kernel
theorem dX9_keeps_8 : decode cX9_keeps 8 = .ok (.invokevirtual 327, 3) := by decide +kernel
theorem dX9_keeps_11 : decode cX9_keeps 11 = .ok (.ifCond .ne 6, 3) := by decide +kernel
theorem dX9_keeps_14 : decode cX9_keeps 14 = .ok (.bipush (-2), 2) := by decide +kernel
theorem dX9_keeps_16 : decode cX9_keeps 16 = .ok (.ireturn, 1) := by decide +kernel
theorem dX9_keeps_17 : decode cX9_keeps 17 = .ok (.aload_n 0, 1) := by decide +kernel
theorem dX9_keeps_18 : decode cX9_keeps 18 = .ok (.invokevirtual 330, 3) := by decide +kernel
theorem dX9_keeps_21 : decode cX9_keeps 21 = .ok (.aload_n 0, 1) := by decide +kernel
theorem dX9_keeps_22 : decode cX9_keeps 22 = .ok (.iload_n 1, 1) := by decide +kernel
theorem dX9_keeps_23 : decode cX9_keeps 23 = .ok (.iload_n 2, 1) := by decide +kernel
theorem dX9_keeps_24 : decode cX9_keeps 24 = .ok (.invokevirtual 342, 3) := by decide +kernel
theorem dX9_keeps_27 : decode cX9_keeps 27 = .ok (.ireturn, 1) := by decide +kernel

theorem dX9_knife_0 : decode cX9_knife 0 = .ok (.aload_n 0, 1) := by decide +kernel
theorem dX9_knife_1 : decode cX9_knife 1 = .ok (.iconst 0, 1) := by decide +kernel
theorem dX9_knife_2 : decode cX9_knife 2 = .ok (.putfield 83, 3) := by decide +kernel
theorem dX9_knife_5 : decode cX9_knife 5 = .ok (.aload_n 0, 1) := by decide +kernel
theorem dX9_knife_6 : decode cX9_knife 6 = .ok (.iload_n 1, 1) := by decide +kernel
theorem dX9_knife_7 : decode cX9_knife 7 = .ok (.i2l, 1) := by decide +kernel
theorem dX9_knife_8 : decode cX9_knife 8 = .ok (.invokevirtual 254, 3) := by decide +kernel
theorem dX9_knife_11 : decode cX9_knife 11 = .ok (.ifCond .eq 11, 3) := by decide +kernel
theorem dX9_knife_14 : decode cX9_knife 14 = .ok (.aload_n 0, 1) := by decide +kernel
theorem dX9_knife_15 : decode cX9_knife 15 = .ok (.iload_n 2, 1) := by decide +kernel
theorem dX9_knife_16 : decode cX9_knife 16 = .ok (.invokevirtual 333, 3) := by decide +kernel
theorem dX9_knife_19 : decode cX9_knife 19 = .ok (.ifCond .ne 6, 3) := by decide +kernel
theorem dX9_knife_22 : decode cX9_knife 22 = .ok (.bipush (-2), 2) := by decide +kernel
theorem dX9_knife_24 : decode cX9_knife 24 = .ok (.ireturn, 1) := by decide +kernel
theorem dX9_knife_25 : decode cX9_knife 25 = .ok (.aload_n 0, 1) := by decide +kernel
theorem dX9_knife_26 : decode cX9_knife 26 = .ok (.getfield 34, 3) := by decide +kernel
theorem dX9_knife_29 : decode cX9_knife 29 = .ok (.bipush 6, 2) := by decide +kernel
theorem dX9_knife_31 : decode cX9_knife 31 = .ok (.iaload, 1) := by decide +kernel
theorem dX9_knife_32 : decode cX9_knife 32 = .ok (.bipush 20, 2) := by decide +kernel
theorem dX9_knife_34 : decode cX9_knife 34 = .ok (.if_icmp .ne 6, 3) := by decide +kernel
theorem dX9_knife_37 : decode cX9_knife 37 = .ok (.bipush (-5), 2) := by decide +kernel
theorem dX9_knife_39 : decode cX9_knife 39 = .ok (.ireturn, 1) := by decide +kernel
theorem dX9_knife_40 : decode cX9_knife 40 = .ok (.aload_n 0, 1) := by decide +kernel
theorem dX9_knife_41 : decode cX9_knife 41 = .ok (.iconst 0, 1) := by decide +kernel
theorem dX9_knife_42 : decode cX9_knife 42 = .ok (.iload_n 1, 1) := by decide +kernel
theorem dX9_knife_43 : decode cX9_knife 43 = .ok (.iload_n 2, 1) := by decide +kernel
theorem dX9_knife_44 : decode cX9_knife 44 = .ok (.invokevirtual 475, 3) := by decide +kernel
theorem dX9_knife_47 : decode cX9_knife 47 = .ok (.aload_n 0, 1) := by decide +kernel
theorem dX9_knife_48 : decode cX9_knife 48 = .ok (.invokevirtual 330, 3) := by decide +kernel
theorem dX9_knife_51 : decode cX9_knife 51 = .ok (.aload_n 0, 1) := by decide +kernel
theorem dX9_knife_52 : decode cX9_knife 52 = .ok (.invokevirtual 339, 3) := by decide +kernel
theorem dX9_knife_55 : decode cX9_knife 55 = .ok (.ireturn, 1) := by decide +kernel

theorem dX9_knives_0 : decode cX9_knives 0 = .ok (.aload_n 0, 1) := by decide +kernel
theorem dX9_knives_1 : decode cX9_knives 1 = .ok (.iconst 0, 1) := by decide +kernel
theorem dX9_knives_2 : decode cX9_knives 2 = .ok (.putfield 83, 3) := by decide +kernel
theorem dX9_knives_5 : decode cX9_knives 5 = .ok (.aload_n 0, 1) := by decide +kernel
theorem dX9_knives_6 : decode cX9_knives 6 = .ok (.iload_n 1, 1) := by decide +kernel
theorem dX9_knives_7 : decode cX9_knives 7 = .ok (.i2l, 1) := by decide +kernel
theorem dX9_knives_8 : decode cX9_knives 8 = .ok (.invokevirtual 254, 3) := by decide +kernel
theorem dX9_knives_11 : decode cX9_knives 11 = .ok (.ifCond .ne 6, 3) := by decide +kernel
theorem dX9_knives_14 : decode cX9_knives 14 = .ok (.bipush (-2), 2) := by decide +kernel
theorem dX9_knives_16 : decode cX9_knives 16 = .ok (.ireturn, 1) := by decide +kernel
theorem dX9_knives_17 : decode cX9_knives 17 = .ok (.iconst 0, 1) := by decide +kernel
theorem dX9_knives_18 : decode cX9_knives 18 = .ok (.istore_n 2, 1) := by decide +kernel
theorem dX9_knives_19 : decode cX9_knives 19 = .ok (.iconst 0, 1) := by decide +kernel
theorem dX9_knives_20 : decode cX9_knives 20 = .ok (.istore_n 3, 1) := by decide +kernel
theorem dX9_knives_21 : decode cX9_knives 21 = .ok (.iload_n 3, 1) := by decide +kernel
theorem dX9_knives_22 : decode cX9_knives 22 = .ok (.aload_n 0, 1) := by decide +kernel
theorem dX9_knives_23 : decode cX9_knives 23 = .ok (.getfield 34, 3) := by decide +kernel
theorem dX9_knives_26 : decode cX9_knives 26 = .ok (.iconst 5, 1) := by decide +kernel
theorem dX9_knives_27 : decode cX9_knives 27 = .ok (.iaload, 1) := by decide +kernel
theorem dX9_knives_28 : decode cX9_knives 28 = .ok (.if_icmp .ge 31, 3) := by decide +kernel
theorem dX9_knives_31 : decode cX9_knives 31 = .ok (.iload_n 2, 1) := by decide +kernel
theorem dX9_knives_32 : decode cX9_knives 32 = .ok (.aload_n 0, 1) := by decide +kernel
theorem dX9_knives_33 : decode cX9_knives 33 = .ok (.getfield 43, 3) := by decide +kernel
theorem dX9_knives_36 : decode cX9_knives 36 = .ok (.iconst 2, 1) := by decide +kernel
theorem dX9_knives_37 : decode cX9_knives 37 = .ok (.iload_n 3, 1) := by decide +kernel
theorem dX9_knives_38 : decode cX9_knives 38 = .ok (.imul, 1) := by decide +kernel
theorem dX9_knives_39 : decode cX9_knives 39 = .ok (.iaload, 1) := by decide +kernel
theorem dX9_knives_40 : decode cX9_knives 40 = .ok (.iload_n 1, 1) := by decide +kernel
theorem dX9_knives_41 : decode cX9_knives 41 = .ok (.if_icmp .ne 9, 3) := by decide +kernel
theorem dX9_knives_44 : decode cX9_knives 44 = .ok (.iconst 1, 1) := by decide +kernel
theorem dX9_knives_45 : decode cX9_knives 45 = .ok (.iload_n 3, 1) := by decide +kernel
theorem dX9_knives_46 : decode cX9_knives 46 = .ok (.ishl, 1) := by decide +kernel
theorem dX9_knives_47 : decode cX9_knives 47 = .ok (.goto 4, 3) := by decide +kernel
theorem dX9_knives_50 : decode cX9_knives 50 = .ok (.iconst 0, 1) := by decide +kernel
theorem dX9_knives_51 : decode cX9_knives 51 = .ok (.ior, 1) := by decide +kernel
theorem dX9_knives_52 : decode cX9_knives 52 = .ok (.istore_n 2, 1) := by decide +kernel
theorem dX9_knives_53 : decode cX9_knives 53 = .ok (.iinc 3 1, 3) := by decide +kernel
theorem dX9_knives_56 : decode cX9_knives 56 = .ok (.goto (-35), 3) := by decide +kernel
theorem dX9_knives_59 : decode cX9_knives 59 = .ok (.iload_n 2, 1) := by decide +kernel
theorem dX9_knives_60 : decode cX9_knives 60 = .ok (.ireturn, 1) := by decide +kernel

theorem dX9_law_0 : decode cX9_law 0 = .ok (.aload_n 0, 1) := by decide +kernel
theorem dX9_law_1 : decode cX9_law 1 = .ok (.iconst 0, 1) := by decide +kernel
theorem dX9_law_2 : decode cX9_law 2 = .ok (.putfield 83, 3) := by decide +kernel
theorem dX9_law_5 : decode cX9_law 5 = .ok (.aload_n 0, 1) := by decide +kernel
theorem dX9_law_6 : decode cX9_law 6 = .ok (.invokevirtual 248, 3) := by decide +kernel
theorem dX9_law_9 : decode cX9_law 9 = .ok (.ifCond .ne 6, 3) := by decide +kernel
theorem dX9_law_12 : decode cX9_law 12 = .ok (.bipush (-2), 2) := by decide +kernel
theorem dX9_law_14 : decode cX9_law 14 = .ok (.ireturn, 1) := by decide +kernel
theorem dX9_law_15 : decode cX9_law 15 = .ok (.iconst 0, 1) := by decide +kernel
theorem dX9_law_16 : decode cX9_law 16 = .ok (.istore_n 1, 1) := by decide +kernel
theorem dX9_law_17 : decode cX9_law 17 = .ok (.iconst 1, 1) := by decide +kernel
theorem dX9_law_18 : decode cX9_law 18 = .ok (.istore_n 2, 1) := by decide +kernel
theorem dX9_law_19 : decode cX9_law 19 = .ok (.iload_n 2, 1) := by decide +kernel
theorem dX9_law_20 : decode cX9_law 20 = .ok (.iconst 4, 1) := by decide +kernel
theorem dX9_law_21 : decode cX9_law 21 = .ok (.if_icmp .ge 24, 3) := by decide +kernel
theorem dX9_law_24 : decode cX9_law 24 = .ok (.aload_n 0, 1) := by decide +kernel
theorem dX9_law_25 : decode cX9_law 25 = .ok (.iload_n 2, 1) := by decide +kernel
theorem dX9_law_26 : decode cX9_law 26 = .ok (.invokevirtual 417, 3) := by decide +kernel
theorem dX9_law_29 : decode cX9_law 29 = .ok (.aload_n 0, 1) := by decide +kernel
theorem dX9_law_30 : decode cX9_law 30 = .ok (.iload_n 1, 1) := by decide +kernel
theorem dX9_law_31 : decode cX9_law 31 = .ok (.invokevirtual 417, 3) := by decide +kernel
theorem dX9_law_34 : decode cX9_law 34 = .ok (.if_icmp .le 5, 3) := by decide +kernel
theorem dX9_law_37 : decode cX9_law 37 = .ok (.iload_n 2, 1) := by decide +kernel
theorem dX9_law_38 : decode cX9_law 38 = .ok (.istore_n 1, 1) := by decide +kernel
theorem dX9_law_39 : decode cX9_law 39 = .ok (.iinc 2 1, 3) := by decide +kernel
theorem dX9_law_42 : decode cX9_law 42 = .ok (.goto (-23), 3) := by decide +kernel
theorem dX9_law_45 : decode cX9_law 45 = .ok (.iload_n 1, 1) := by decide +kernel
theorem dX9_law_46 : decode cX9_law 46 = .ok (.ireturn, 1) := by decide +kernel

theorem dX9_laws_0 : decode cX9_laws 0 = .ok (.aload_n 0, 1) := by decide +kernel
theorem dX9_laws_1 : decode cX9_laws 1 = .ok (.iconst 0, 1) := by decide +kernel
theorem dX9_laws_2 : decode cX9_laws 2 = .ok (.putfield 83, 3) := by decide +kernel
theorem dX9_laws_5 : decode cX9_laws 5 = .ok (.aload_n 0, 1) := by decide +kernel
theorem dX9_laws_6 : decode cX9_laws 6 = .ok (.iload_n 1, 1) := by decide +kernel
theorem dX9_laws_7 : decode cX9_laws 7 = .ok (.iconst 1, 1) := by decide +kernel
theorem dX9_laws_8 : decode cX9_laws 8 = .ok (.invokevirtual 410, 3) := by decide +kernel
theorem dX9_laws_11 : decode cX9_laws 11 = .ok (.istore_n 2, 1) := by decide +kernel
theorem dX9_laws_12 : decode cX9_laws 12 = .ok (.iload_n 2, 1) := by decide +kernel
theorem dX9_laws_13 : decode cX9_laws 13 = .ok (.ifCond .eq 5, 3) := by decide +kernel
theorem dX9_laws_16 : decode cX9_laws 16 = .ok (.iload_n 2, 1) := by decide +kernel
theorem dX9_laws_17 : decode cX9_laws 17 = .ok (.ireturn, 1) := by decide +kernel
theorem dX9_laws_18 : decode cX9_laws 18 = .ok (.iconst 0, 1) := by decide +kernel
theorem dX9_laws_19 : decode cX9_laws 19 = .ok (.istore_n 3, 1) := by decide +kernel
theorem dX9_laws_20 : decode cX9_laws 20 = .ok (.iconst 0, 1) := by decide +kernel
theorem dX9_laws_21 : decode cX9_laws 21 = .ok (.istore 4, 2) := by decide +kernel
theorem dX9_laws_23 : decode cX9_laws 23 = .ok (.iload 4, 2) := by decide +kernel
theorem dX9_laws_25 : decode cX9_laws 25 = .ok (.iconst 4, 1) := by decide +kernel
theorem dX9_laws_26 : decode cX9_laws 26 = .ok (.if_icmp .ge 35, 3) := by decide +kernel
theorem dX9_laws_29 : decode cX9_laws 29 = .ok (.aload_n 0, 1) := by decide +kernel
theorem dX9_laws_30 : decode cX9_laws 30 = .ok (.iload 4, 2) := by decide +kernel
theorem dX9_laws_32 : decode cX9_laws 32 = .ok (.invokevirtual 417, 3) := by decide +kernel
theorem dX9_laws_35 : decode cX9_laws 35 = .ok (.pop, 1) := by decide +kernel
theorem dX9_laws_36 : decode cX9_laws 36 = .ok (.iload_n 3, 1) := by decide +kernel
theorem dX9_laws_37 : decode cX9_laws 37 = .ok (.aload_n 0, 1) := by decide +kernel
theorem dX9_laws_38 : decode cX9_laws 38 = .ok (.iload_n 1, 1) := by decide +kernel
theorem dX9_laws_39 : decode cX9_laws 39 = .ok (.invokevirtual 401, 3) := by decide +kernel
theorem dX9_laws_42 : decode cX9_laws 42 = .ok (.ifCond .eq 10, 3) := by decide +kernel
theorem dX9_laws_45 : decode cX9_laws 45 = .ok (.iconst 1, 1) := by decide +kernel
theorem dX9_laws_46 : decode cX9_laws 46 = .ok (.iload 4, 2) := by decide +kernel
theorem dX9_laws_48 : decode cX9_laws 48 = .ok (.ishl, 1) := by decide +kernel
theorem dX9_laws_49 : decode cX9_laws 49 = .ok (.goto 4, 3) := by decide +kernel
theorem dX9_laws_52 : decode cX9_laws 52 = .ok (.iconst 0, 1) := by decide +kernel
theorem dX9_laws_53 : decode cX9_laws 53 = .ok (.ior, 1) := by decide +kernel
theorem dX9_laws_54 : decode cX9_laws 54 = .ok (.istore_n 3, 1) := by decide +kernel
theorem dX9_laws_55 : decode cX9_laws 55 = .ok (.iinc 4 1, 3) := by decide +kernel
theorem dX9_laws_58 : decode cX9_laws 58 = .ok (.goto (-35), 3) := by decide +kernel
theorem dX9_laws_61 : decode cX9_laws 61 = .ok (.iload_n 3, 1) := by decide +kernel
theorem dX9_laws_62 : decode cX9_laws 62 = .ok (.ireturn, 1) := by decide +kernel

theorem dX9_laysUncle_0 : decode cX9_laysUncle 0 = .ok (.aload_n 0, 1) := by decide +kernel
theorem dX9_laysUncle_1 : decode cX9_laysUncle 1 = .ok (.iconst (-1), 1) := by decide +kernel
theorem dX9_laysUncle_2 : decode cX9_laysUncle 2 = .ok (.putfield 426, 3) := by decide +kernel
theorem dX9_laysUncle_5 : decode cX9_laysUncle 5 = .ok (.aload_n 0, 1) := by decide +kernel
theorem dX9_laysUncle_6 : decode cX9_laysUncle 6 = .ok (.sipush (-1000), 3) := by decide +kernel
theorem dX9_laysUncle_9 : decode cX9_laysUncle 9 = .ok (.putfield 429, 3) := by decide +kernel
theorem dX9_laysUncle_12 : decode cX9_laysUncle 12 = .ok (.iconst 0, 1) := by decide +kernel
theorem dX9_laysUncle_13 : decode cX9_laysUncle 13 = .ok (.istore_n 1, 1) := by decide +kernel
theorem dX9_laysUncle_14 : decode cX9_laysUncle 14 = .ok (.iload_n 1, 1) := by decide +kernel
theorem dX9_laysUncle_15 : decode cX9_laysUncle 15 = .ok (.aload_n 0, 1) := by decide +kernel
theorem dX9_laysUncle_16 : decode cX9_laysUncle 16 = .ok (.invokevirtual 245, 3) := by decide +kernel
theorem dX9_laysUncle_19 : decode cX9_laysUncle 19 = .ok (.if_icmp .ge 49, 3) := by decide +kernel
theorem dX9_laysUncle_22 : decode cX9_laysUncle 22 = .ok (.aload_n 0, 1) := by decide +kernel
theorem dX9_laysUncle_23 : decode cX9_laysUncle 23 = .ok (.iload_n 1, 1) := by decide +kernel
theorem dX9_laysUncle_24 : decode cX9_laysUncle 24 = .ok (.invokevirtual 432, 3) := by decide +kernel
theorem dX9_laysUncle_27 : decode cX9_laysUncle 27 = .ok (.aload_n 0, 1) := by decide +kernel
theorem dX9_laysUncle_28 : decode cX9_laysUncle 28 = .ok (.getfield 426, 3) := by decide +kernel
theorem dX9_laysUncle_31 : decode cX9_laysUncle 31 = .ok (.iconst (-1), 1) := by decide +kernel
theorem dX9_laysUncle_32 : decode cX9_laysUncle 32 = .ok (.if_icmp .eq 17, 3) := by decide +kernel
theorem dX9_laysUncle_35 : decode cX9_laysUncle 35 = .ok (.aload_n 0, 1) := by decide +kernel
theorem dX9_laysUncle_36 : decode cX9_laysUncle 36 = .ok (.getfield 423, 3) := by decide +kernel
theorem dX9_laysUncle_39 : decode cX9_laysUncle 39 = .ok (.aload_n 0, 1) := by decide +kernel
theorem dX9_laysUncle_40 : decode cX9_laysUncle 40 = .ok (.getfield 429, 3) := by decide +kernel
theorem dX9_laysUncle_43 : decode cX9_laysUncle 43 = .ok (.if_icmp .gt 6, 3) := by decide +kernel
theorem dX9_laysUncle_46 : decode cX9_laysUncle 46 = .ok (.goto 16, 3) := by decide +kernel
theorem dX9_laysUncle_49 : decode cX9_laysUncle 49 = .ok (.aload_n 0, 1) := by decide +kernel
theorem dX9_laysUncle_50 : decode cX9_laysUncle 50 = .ok (.iload_n 1, 1) := by decide +kernel
theorem dX9_laysUncle_51 : decode cX9_laysUncle 51 = .ok (.putfield 426, 3) := by decide +kernel
theorem dX9_laysUncle_54 : decode cX9_laysUncle 54 = .ok (.aload_n 0, 1) := by decide +kernel
theorem dX9_laysUncle_55 : decode cX9_laysUncle 55 = .ok (.aload_n 0, 1) := by decide +kernel
theorem dX9_laysUncle_56 : decode cX9_laysUncle 56 = .ok (.getfield 423, 3) := by decide +kernel
theorem dX9_laysUncle_59 : decode cX9_laysUncle 59 = .ok (.putfield 429, 3) := by decide +kernel
theorem dX9_laysUncle_62 : decode cX9_laysUncle 62 = .ok (.iinc 1 1, 3) := by decide +kernel
theorem dX9_laysUncle_65 : decode cX9_laysUncle 65 = .ok (.goto (-51), 3) := by decide +kernel
theorem dX9_laysUncle_68 : decode cX9_laysUncle 68 = .ok (.return_, 1) := by decide +kernel

theorem dX9_leaves_0 : decode cX9_leaves 0 = .ok (.aload_n 0, 1) := by decide +kernel
theorem dX9_leaves_1 : decode cX9_leaves 1 = .ok (.iconst 0, 1) := by decide +kernel
theorem dX9_leaves_2 : decode cX9_leaves 2 = .ok (.putfield 83, 3) := by decide +kernel
theorem dX9_leaves_5 : decode cX9_leaves 5 = .ok (.aload_n 0, 1) := by decide +kernel
theorem dX9_leaves_6 : decode cX9_leaves 6 = .ok (.iload_n 1, 1) := by decide +kernel
theorem dX9_leaves_7 : decode cX9_leaves 7 = .ok (.aload_n 0, 1) := by decide +kernel
theorem dX9_leaves_8 : decode cX9_leaves 8 = .ok (.iload_n 2, 1) := by decide +kernel
theorem dX9_leaves_9 : decode cX9_leaves 9 = .ok (.i2l, 1) := by decide +kernel
theorem dX9_leaves_10 : decode cX9_leaves 10 = .ok (.invokevirtual 254, 3) := by decide +kernel
theorem dX9_leaves_13 : decode cX9_leaves 13 = .ok (.invokevirtual 410, 3) := by decide +kernel
theorem dX9_leaves_16 : decode cX9_leaves 16 = .ok (.istore_n 3, 1) := by decide +kernel
theorem dX9_leaves_17 : decode cX9_leaves 17 = .ok (.iload_n 3, 1) := by decide +kernel
theorem dX9_leaves_18 : decode cX9_leaves 18 = .ok (.ifCond .eq 5, 3) := by decide +kernel
theorem dX9_leaves_21 : decode cX9_leaves 21 = .ok (.iload_n 3, 1) := by decide +kernel
theorem dX9_leaves_22 : decode cX9_leaves 22 = .ok (.ireturn, 1) := by decide +kernel
theorem dX9_leaves_23 : decode cX9_leaves 23 = .ok (.aload_n 0, 1) := by decide +kernel
theorem dX9_leaves_24 : decode cX9_leaves 24 = .ok (.iload_n 1, 1) := by decide +kernel
theorem dX9_leaves_25 : decode cX9_leaves 25 = .ok (.iload_n 2, 1) := by decide +kernel
theorem dX9_leaves_26 : decode cX9_leaves 26 = .ok (.invokevirtual 414, 3) := by decide +kernel
theorem dX9_leaves_29 : decode cX9_leaves 29 = .ok (.aload_n 0, 1) := by decide +kernel
theorem dX9_leaves_30 : decode cX9_leaves 30 = .ok (.getfield 407, 3) := by decide +kernel
theorem dX9_leaves_33 : decode cX9_leaves 33 = .ok (.ireturn, 1) := by decide +kernel

theorem dX9_lone_0 : decode cX9_lone 0 = .ok (.aload_n 0, 1) := by decide +kernel
theorem dX9_lone_1 : decode cX9_lone 1 = .ok (.iconst 0, 1) := by decide +kernel
theorem dX9_lone_2 : decode cX9_lone 2 = .ok (.putfield 83, 3) := by decide +kernel
theorem dX9_lone_5 : decode cX9_lone 5 = .ok (.aload_n 0, 1) := by decide +kernel
theorem dX9_lone_6 : decode cX9_lone 6 = .ok (.iload_n 1, 1) := by decide +kernel
theorem dX9_lone_7 : decode cX9_lone 7 = .ok (.i2l, 1) := by decide +kernel
theorem dX9_lone_8 : decode cX9_lone 8 = .ok (.invokevirtual 257, 3) := by decide +kernel
theorem dX9_lone_11 : decode cX9_lone 11 = .ok (.ifCond .ne 6, 3) := by decide +kernel
theorem dX9_lone_14 : decode cX9_lone 14 = .ok (.bipush (-2), 2) := by decide +kernel
theorem dX9_lone_16 : decode cX9_lone 16 = .ok (.ireturn, 1) := by decide +kernel
theorem dX9_lone_17 : decode cX9_lone 17 = .ok (.aload_n 0, 1) := by decide +kernel
theorem dX9_lone_18 : decode cX9_lone 18 = .ok (.invokevirtual 330, 3) := by decide +kernel
theorem dX9_lone_21 : decode cX9_lone 21 = .ok (.iconst 0, 1) := by decide +kernel
theorem dX9_lone_22 : decode cX9_lone 22 = .ok (.istore_n 2, 1) := by decide +kernel
theorem dX9_lone_23 : decode cX9_lone 23 = .ok (.iconst 0, 1) := by decide +kernel
theorem dX9_lone_24 : decode cX9_lone 24 = .ok (.istore_n 3, 1) := by decide +kernel
theorem dX9_lone_25 : decode cX9_lone 25 = .ok (.iload_n 3, 1) := by decide +kernel
theorem dX9_lone_26 : decode cX9_lone 26 = .ok (.aload_n 0, 1) := by decide +kernel
theorem dX9_lone_27 : decode cX9_lone 27 = .ok (.invokevirtual 245, 3) := by decide +kernel
theorem dX9_lone_30 : decode cX9_lone 30 = .ok (.if_icmp .ge 57, 3) := by decide +kernel
theorem dX9_lone_33 : decode cX9_lone 33 = .ok (.iload_n 2, 1) := by decide +kernel
theorem dX9_lone_34 : decode cX9_lone 34 = .ok (.aload_n 0, 1) := by decide +kernel
theorem dX9_lone_35 : decode cX9_lone 35 = .ok (.getfield 62, 3) := by decide +kernel
theorem dX9_lone_38 : decode cX9_lone 38 = .ok (.iload_n 1, 1) := by decide +kernel
theorem dX9_lone_39 : decode cX9_lone 39 = .ok (.iaload, 1) := by decide +kernel
theorem dX9_lone_40 : decode cX9_lone 40 = .ok (.iload_n 3, 1) := by decide +kernel
theorem dX9_lone_41 : decode cX9_lone 41 = .ok (.invokestatic 282, 3) := by decide +kernel
theorem dX9_lone_44 : decode cX9_lone 44 = .ok (.ifCond .ne 34, 3) := by decide +kernel
theorem dX9_lone_47 : decode cX9_lone 47 = .ok (.aload_n 0, 1) := by decide +kernel
theorem dX9_lone_48 : decode cX9_lone 48 = .ok (.iload_n 3, 1) := by decide +kernel
theorem dX9_lone_49 : decode cX9_lone 49 = .ok (.invokevirtual 292, 3) := by decide +kernel
theorem dX9_lone_52 : decode cX9_lone 52 = .ok (.ifCond .eq 26, 3) := by decide +kernel
theorem dX9_lone_55 : decode cX9_lone 55 = .ok (.aload_n 0, 1) := by decide +kernel
theorem dX9_lone_56 : decode cX9_lone 56 = .ok (.iload_n 3, 1) := by decide +kernel
theorem dX9_lone_57 : decode cX9_lone 57 = .ok (.invokevirtual 292, 3) := by decide +kernel
theorem dX9_lone_60 : decode cX9_lone 60 = .ok (.aload_n 0, 1) := by decide +kernel
theorem dX9_lone_61 : decode cX9_lone 61 = .ok (.getfield 62, 3) := by decide +kernel
theorem dX9_lone_64 : decode cX9_lone 64 = .ok (.iload_n 1, 1) := by decide +kernel
theorem dX9_lone_65 : decode cX9_lone 65 = .ok (.iaload, 1) := by decide +kernel
theorem dX9_lone_66 : decode cX9_lone 66 = .ok (.iconst (-1), 1) := by decide +kernel
theorem dX9_lone_67 : decode cX9_lone 67 = .ok (.ixor, 1) := by decide +kernel
theorem dX9_lone_68 : decode cX9_lone 68 = .ok (.iand, 1) := by decide +kernel
theorem dX9_lone_69 : decode cX9_lone 69 = .ok (.ifCond .ne 9, 3) := by decide +kernel
theorem dX9_lone_72 : decode cX9_lone 72 = .ok (.iconst 1, 1) := by decide +kernel
theorem dX9_lone_73 : decode cX9_lone 73 = .ok (.iload_n 3, 1) := by decide +kernel
theorem dX9_lone_74 : decode cX9_lone 74 = .ok (.ishl, 1) := by decide +kernel
theorem dX9_lone_75 : decode cX9_lone 75 = .ok (.goto 4, 3) := by decide +kernel
theorem dX9_lone_78 : decode cX9_lone 78 = .ok (.iconst 0, 1) := by decide +kernel
theorem dX9_lone_79 : decode cX9_lone 79 = .ok (.ior, 1) := by decide +kernel
theorem dX9_lone_80 : decode cX9_lone 80 = .ok (.istore_n 2, 1) := by decide +kernel
theorem dX9_lone_81 : decode cX9_lone 81 = .ok (.iinc 3 1, 3) := by decide +kernel
theorem dX9_lone_84 : decode cX9_lone 84 = .ok (.goto (-59), 3) := by decide +kernel
theorem dX9_lone_87 : decode cX9_lone 87 = .ok (.iload_n 2, 1) := by decide +kernel
theorem dX9_lone_88 : decode cX9_lone 88 = .ok (.ireturn, 1) := by decide +kernel

theorem dX9_lost_0 : decode cX9_lost 0 = .ok (.aload_n 0, 1) := by decide +kernel
theorem dX9_lost_1 : decode cX9_lost 1 = .ok (.iconst 0, 1) := by decide +kernel
theorem dX9_lost_2 : decode cX9_lost 2 = .ok (.putfield 83, 3) := by decide +kernel
theorem dX9_lost_5 : decode cX9_lost 5 = .ok (.aload_n 0, 1) := by decide +kernel
theorem dX9_lost_6 : decode cX9_lost 6 = .ok (.invokevirtual 248, 3) := by decide +kernel
theorem dX9_lost_9 : decode cX9_lost 9 = .ok (.ifCond .ne 6, 3) := by decide +kernel
theorem dX9_lost_12 : decode cX9_lost 12 = .ok (.bipush (-2), 2) := by decide +kernel
theorem dX9_lost_14 : decode cX9_lost 14 = .ok (.ireturn, 1) := by decide +kernel
theorem dX9_lost_15 : decode cX9_lost 15 = .ok (.aload_n 0, 1) := by decide +kernel
theorem dX9_lost_16 : decode cX9_lost 16 = .ok (.invokevirtual 330, 3) := by decide +kernel
theorem dX9_lost_19 : decode cX9_lost 19 = .ok (.iconst 0, 1) := by decide +kernel
theorem dX9_lost_20 : decode cX9_lost 20 = .ok (.istore_n 1, 1) := by decide +kernel
theorem dX9_lost_21 : decode cX9_lost 21 = .ok (.iconst 0, 1) := by decide +kernel
theorem dX9_lost_22 : decode cX9_lost 22 = .ok (.istore_n 2, 1) := by decide +kernel
theorem dX9_lost_23 : decode cX9_lost 23 = .ok (.iload_n 2, 1) := by decide +kernel
theorem dX9_lost_24 : decode cX9_lost 24 = .ok (.aload_n 0, 1) := by decide +kernel
theorem dX9_lost_25 : decode cX9_lost 25 = .ok (.invokevirtual 245, 3) := by decide +kernel
theorem dX9_lost_28 : decode cX9_lost 28 = .ok (.if_icmp .ge 41, 3) := by decide +kernel
theorem dX9_lost_31 : decode cX9_lost 31 = .ok (.iload_n 1, 1) := by decide +kernel
theorem dX9_lost_32 : decode cX9_lost 32 = .ok (.aload_n 0, 1) := by decide +kernel
theorem dX9_lost_33 : decode cX9_lost 33 = .ok (.getfield 71, 3) := by decide +kernel
theorem dX9_lost_36 : decode cX9_lost 36 = .ok (.iload_n 2, 1) := by decide +kernel
theorem dX9_lost_37 : decode cX9_lost 37 = .ok (.iaload, 1) := by decide +kernel
theorem dX9_lost_38 : decode cX9_lost 38 = .ok (.iconst (-1), 1) := by decide +kernel
theorem dX9_lost_39 : decode cX9_lost 39 = .ok (.if_icmp .ne 7, 3) := by decide +kernel
theorem dX9_lost_42 : decode cX9_lost 42 = .ok (.iconst 0, 1) := by decide +kernel
theorem dX9_lost_43 : decode cX9_lost 43 = .ok (.goto 18, 3) := by decide +kernel
theorem dX9_lost_46 : decode cX9_lost 46 = .ok (.aload_n 0, 1) := by decide +kernel
theorem dX9_lost_47 : decode cX9_lost 47 = .ok (.getfield 37, 3) := by decide +kernel
theorem dX9_lost_50 : decode cX9_lost 50 = .ok (.iconst 3, 1) := by decide +kernel
theorem dX9_lost_51 : decode cX9_lost 51 = .ok (.iload_n 2, 1) := by decide +kernel
theorem dX9_lost_52 : decode cX9_lost 52 = .ok (.imul, 1) := by decide +kernel
theorem dX9_lost_53 : decode cX9_lost 53 = .ok (.iaload, 1) := by decide +kernel
theorem dX9_lost_54 : decode cX9_lost 54 = .ok (.aload_n 0, 1) := by decide +kernel
theorem dX9_lost_55 : decode cX9_lost 55 = .ok (.getfield 71, 3) := by decide +kernel
theorem dX9_lost_58 : decode cX9_lost 58 = .ok (.iload_n 2, 1) := by decide +kernel
theorem dX9_lost_59 : decode cX9_lost 59 = .ok (.iaload, 1) := by decide +kernel
theorem dX9_lost_60 : decode cX9_lost 60 = .ok (.isub, 1) := by decide +kernel
theorem dX9_lost_61 : decode cX9_lost 61 = .ok (.iadd, 1) := by decide +kernel
theorem dX9_lost_62 : decode cX9_lost 62 = .ok (.istore_n 1, 1) := by decide +kernel
theorem dX9_lost_63 : decode cX9_lost 63 = .ok (.iinc 2 1, 3) := by decide +kernel
theorem dX9_lost_66 : decode cX9_lost 66 = .ok (.goto (-43), 3) := by decide +kernel
theorem dX9_lost_69 : decode cX9_lost 69 = .ok (.iload_n 1, 1) := by decide +kernel
theorem dX9_lost_70 : decode cX9_lost 70 = .ok (.ireturn, 1) := by decide +kernel

theorem dX9_low_0 : decode cX9_low 0 = .ok (.aload_n 0, 1) := by decide +kernel
theorem dX9_low_1 : decode cX9_low 1 = .ok (.iconst 0, 1) := by decide +kernel
theorem dX9_low_2 : decode cX9_low 2 = .ok (.putfield 83, 3) := by decide +kernel
theorem dX9_low_5 : decode cX9_low 5 = .ok (.aload_n 0, 1) := by decide +kernel
theorem dX9_low_6 : decode cX9_low 6 = .ok (.iload_n 1, 1) := by decide +kernel
theorem dX9_low_7 : decode cX9_low 7 = .ok (.aload_n 0, 1) := by decide +kernel
theorem dX9_low_8 : decode cX9_low 8 = .ok (.iload_n 2, 1) := by decide +kernel
theorem dX9_low_9 : decode cX9_low 9 = .ok (.i2l, 1) := by decide +kernel
theorem dX9_low_10 : decode cX9_low 10 = .ok (.invokevirtual 254, 3) := by decide +kernel
theorem dX9_low_13 : decode cX9_low 13 = .ok (.invokevirtual 410, 3) := by decide +kernel
theorem dX9_low_16 : decode cX9_low 16 = .ok (.istore_n 3, 1) := by decide +kernel
theorem dX9_low_17 : decode cX9_low 17 = .ok (.iload_n 3, 1) := by decide +kernel
theorem dX9_low_18 : decode cX9_low 18 = .ok (.ifCond .eq 5, 3) := by decide +kernel
theorem dX9_low_21 : decode cX9_low 21 = .ok (.iload_n 3, 1) := by decide +kernel
theorem dX9_low_22 : decode cX9_low 22 = .ok (.ireturn, 1) := by decide +kernel
theorem dX9_low_23 : decode cX9_low 23 = .ok (.aload_n 0, 1) := by decide +kernel
theorem dX9_low_24 : decode cX9_low 24 = .ok (.iload_n 1, 1) := by decide +kernel
theorem dX9_low_25 : decode cX9_low 25 = .ok (.iload_n 2, 1) := by decide +kernel
theorem dX9_low_26 : decode cX9_low 26 = .ok (.invokevirtual 414, 3) := by decide +kernel
theorem dX9_low_29 : decode cX9_low 29 = .ok (.aload_n 0, 1) := by decide +kernel
theorem dX9_low_30 : decode cX9_low 30 = .ok (.getfield 395, 3) := by decide +kernel
theorem dX9_low_33 : decode cX9_low 33 = .ok (.ireturn, 1) := by decide +kernel

theorem dX9_luck_0 : decode cX9_luck 0 = .ok (.aload_n 0, 1) := by decide +kernel
theorem dX9_luck_1 : decode cX9_luck 1 = .ok (.iconst 0, 1) := by decide +kernel
theorem dX9_luck_2 : decode cX9_luck 2 = .ok (.putfield 83, 3) := by decide +kernel
theorem dX9_luck_5 : decode cX9_luck 5 = .ok (.iload_n 1, 1) := by decide +kernel
theorem dX9_luck_6 : decode cX9_luck 6 = .ok (.invokestatic 466, 3) := by decide +kernel
theorem dX9_luck_9 : decode cX9_luck 9 = .ok (.ifCond .eq 24, 3) := by decide +kernel
theorem dX9_luck_12 : decode cX9_luck 12 = .ok (.iload_n 2, 1) := by decide +kernel
theorem dX9_luck_13 : decode cX9_luck 13 = .ok (.i2l, 1) := by decide +kernel
theorem dX9_luck_14 : decode cX9_luck 14 = .ok (.lconst 1, 1) := by decide +kernel
theorem dX9_luck_15 : decode cX9_luck 15 = .ok (.ldc2_w 473, 3) := by decide +kernel
theorem dX9_luck_18 : decode cX9_luck 18 = .ok (.invokestatic 88, 3) := by decide +kernel
theorem dX9_luck_21 : decode cX9_luck 21 = .ok (.ifCond .eq 12, 3) := by decide +kernel
theorem dX9_luck_24 : decode cX9_luck 24 = .ok (.aload_n 0, 1) := by decide +kernel
theorem dX9_luck_25 : decode cX9_luck 25 = .ok (.iload_n 3, 1) := by decide +kernel
theorem dX9_luck_26 : decode cX9_luck 26 = .ok (.i2l, 1) := by decide +kernel
theorem dX9_luck_27 : decode cX9_luck 27 = .ok (.invokevirtual 254, 3) := by decide +kernel
theorem dX9_luck_30 : decode cX9_luck 30 = .ok (.ifCond .ne 6, 3) := by decide +kernel
theorem dX9_luck_33 : decode cX9_luck 33 = .ok (.bipush (-2), 2) := by decide +kernel
theorem dX9_luck_35 : decode cX9_luck 35 = .ok (.ireturn, 1) := by decide +kernel
theorem dX9_luck_36 : decode cX9_luck 36 = .ok (.iconst 0, 1) := by decide +kernel
theorem dX9_luck_37 : decode cX9_luck 37 = .ok (.istore 4, 2) := by decide +kernel
theorem dX9_luck_39 : decode cX9_luck 39 = .ok (.iconst 0, 1) := by decide +kernel
theorem dX9_luck_40 : decode cX9_luck 40 = .ok (.istore 5, 2) := by decide +kernel
theorem dX9_luck_42 : decode cX9_luck 42 = .ok (.iload 5, 2) := by decide +kernel
theorem dX9_luck_44 : decode cX9_luck 44 = .ok (.iload_n 2, 1) := by decide +kernel
theorem dX9_luck_45 : decode cX9_luck 45 = .ok (.if_icmp .ge 38, 3) := by decide +kernel
theorem dX9_luck_48 : decode cX9_luck 48 = .ok (.aload_n 0, 1) := by decide +kernel
theorem dX9_luck_49 : decode cX9_luck 49 = .ok (.iload_n 1, 1) := by decide +kernel
theorem dX9_luck_50 : decode cX9_luck 50 = .ok (.i2l, 1) := by decide +kernel
theorem dX9_luck_51 : decode cX9_luck 51 = .ok (.iload 5, 2) := by decide +kernel
theorem dX9_luck_53 : decode cX9_luck 53 = .ok (.i2l, 1) := by decide +kernel
theorem dX9_luck_54 : decode cX9_luck 54 = .ok (.ladd, 1) := by decide +kernel
theorem dX9_luck_55 : decode cX9_luck 55 = .ok (.invokevirtual 469, 3) := by decide +kernel
theorem dX9_luck_58 : decode cX9_luck 58 = .ok (.pop, 1) := by decide +kernel
theorem dX9_luck_59 : decode cX9_luck 59 = .ok (.iload 4, 2) := by decide +kernel
theorem dX9_luck_61 : decode cX9_luck 61 = .ok (.aload_n 0, 1) := by decide +kernel
theorem dX9_luck_62 : decode cX9_luck 62 = .ok (.getfield 62, 3) := by decide +kernel
theorem dX9_luck_65 : decode cX9_luck 65 = .ok (.aload_n 0, 1) := by decide +kernel
theorem dX9_luck_66 : decode cX9_luck 66 = .ok (.invokevirtual 251, 3) := by decide +kernel
theorem dX9_luck_69 : decode cX9_luck 69 = .ok (.iaload, 1) := by decide +kernel
theorem dX9_luck_70 : decode cX9_luck 70 = .ok (.iload_n 3, 1) := by decide +kernel
theorem dX9_luck_71 : decode cX9_luck 71 = .ok (.ishr, 1) := by decide +kernel
theorem dX9_luck_72 : decode cX9_luck 72 = .ok (.iconst 1, 1) := by decide +kernel
theorem dX9_luck_73 : decode cX9_luck 73 = .ok (.iand, 1) := by decide +kernel
theorem dX9_luck_74 : decode cX9_luck 74 = .ok (.iadd, 1) := by decide +kernel
theorem dX9_luck_75 : decode cX9_luck 75 = .ok (.istore 4, 2) := by decide +kernel
theorem dX9_luck_77 : decode cX9_luck 77 = .ok (.iinc 5 1, 3) := by decide +kernel
theorem dX9_luck_80 : decode cX9_luck 80 = .ok (.goto (-38), 3) := by decide +kernel
theorem dX9_luck_83 : decode cX9_luck 83 = .ok (.iload 4, 2) := by decide +kernel
theorem dX9_luck_85 : decode cX9_luck 85 = .ok (.ireturn, 1) := by decide +kernel

theorem dX9_mean_0 : decode cX9_mean 0 = .ok (.aload_n 0, 1) := by decide +kernel
theorem dX9_mean_1 : decode cX9_mean 1 = .ok (.iconst 0, 1) := by decide +kernel
theorem dX9_mean_2 : decode cX9_mean 2 = .ok (.putfield 83, 3) := by decide +kernel
theorem dX9_mean_5 : decode cX9_mean 5 = .ok (.aload_n 0, 1) := by decide +kernel
theorem dX9_mean_6 : decode cX9_mean 6 = .ok (.invokevirtual 248, 3) := by decide +kernel
theorem dX9_mean_9 : decode cX9_mean 9 = .ok (.ifCond .eq 34, 3) := by decide +kernel
theorem dX9_mean_12 : decode cX9_mean 12 = .ok (.iload_n 1, 1) := by decide +kernel
theorem dX9_mean_13 : decode cX9_mean 13 = .ok (.invokestatic 364, 3) := by decide +kernel
theorem dX9_mean_16 : decode cX9_mean 16 = .ok (.ifCond .eq 27, 3) := by decide +kernel
theorem dX9_mean_19 : decode cX9_mean 19 = .ok (.aload_n 0, 1) := by decide +kernel
theorem dX9_mean_20 : decode cX9_mean 20 = .ok (.iconst (-1), 1) := by decide +kernel
theorem dX9_mean_21 : decode cX9_mean 21 = .ok (.invokevirtual 450, 3) := by decide +kernel
theorem dX9_mean_24 : decode cX9_mean 24 = .ok (.ldc2_w 448, 3) := by decide +kernel
theorem dX9_mean_27 : decode cX9_mean 27 = .ok (.aload_n 0, 1) := by decide +kernel
theorem dX9_mean_28 : decode cX9_mean 28 = .ok (.getfield 34, 3) := by decide +kernel
theorem dX9_mean_31 : decode cX9_mean 31 = .ok (.iconst 5, 1) := by decide +kernel
theorem dX9_mean_32 : decode cX9_mean 32 = .ok (.iaload, 1) := by decide +kernel
theorem dX9_mean_33 : decode cX9_mean 33 = .ok (.invokestatic 445, 3) := by decide +kernel
theorem dX9_mean_36 : decode cX9_mean 36 = .ok (.iload_n 1, 1) := by decide +kernel
theorem dX9_mean_37 : decode cX9_mean 37 = .ok (.invokestatic 368, 3) := by decide +kernel
theorem dX9_mean_40 : decode cX9_mean 40 = .ok (.goto 6, 3) := by decide +kernel
theorem dX9_mean_43 : decode cX9_mean 43 = .ok (.ldc2_w 454, 3) := by decide +kernel
theorem dX9_mean_46 : decode cX9_mean 46 = .ok (.lreturn, 1) := by decide +kernel

theorem dX9_near_0 : decode cX9_near 0 = .ok (.aload_n 0, 1) := by decide +kernel
theorem dX9_near_1 : decode cX9_near 1 = .ok (.iconst 0, 1) := by decide +kernel
theorem dX9_near_2 : decode cX9_near 2 = .ok (.putfield 83, 3) := by decide +kernel
theorem dX9_near_5 : decode cX9_near 5 = .ok (.aload_n 0, 1) := by decide +kernel
theorem dX9_near_6 : decode cX9_near 6 = .ok (.iload_n 1, 1) := by decide +kernel
theorem dX9_near_7 : decode cX9_near 7 = .ok (.i2l, 1) := by decide +kernel
theorem dX9_near_8 : decode cX9_near 8 = .ok (.invokevirtual 254, 3) := by decide +kernel
theorem dX9_near_11 : decode cX9_near 11 = .ok (.ifCond .ne 6, 3) := by decide +kernel
theorem dX9_near_14 : decode cX9_near 14 = .ok (.bipush (-2), 2) := by decide +kernel
theorem dX9_near_16 : decode cX9_near 16 = .ok (.ireturn, 1) := by decide +kernel
theorem dX9_near_17 : decode cX9_near 17 = .ok (.aload_n 0, 1) := by decide +kernel
theorem dX9_near_18 : decode cX9_near 18 = .ok (.invokevirtual 319, 3) := by decide +kernel
theorem dX9_near_21 : decode cX9_near 21 = .ok (.aload_n 0, 1) := by decide +kernel
theorem dX9_near_22 : decode cX9_near 22 = .ok (.iload_n 1, 1) := by decide +kernel
theorem dX9_near_23 : decode cX9_near 23 = .ok (.invokevirtual 292, 3) := by decide +kernel
theorem dX9_near_26 : decode cX9_near 26 = .ok (.ireturn, 1) := by decide +kernel

theorem dX9_next_0 : decode cX9_next 0 = .ok (.aload_n 0, 1) := by decide +kernel
theorem dX9_next_1 : decode cX9_next 1 = .ok (.iconst 0, 1) := by decide +kernel
theorem dX9_next_2 : decode cX9_next 2 = .ok (.putfield 83, 3) := by decide +kernel
theorem dX9_next_5 : decode cX9_next 5 = .ok (.aload_n 0, 1) := by decide +kernel
theorem dX9_next_6 : decode cX9_next 6 = .ok (.iload_n 1, 1) := by decide +kernel
theorem dX9_next_7 : decode cX9_next 7 = .ok (.i2l, 1) := by decide +kernel
theorem dX9_next_8 : decode cX9_next 8 = .ok (.invokevirtual 257, 3) := by decide +kernel
theorem dX9_next_11 : decode cX9_next 11 = .ok (.ifCond .ne 6, 3) := by decide +kernel
theorem dX9_next_14 : decode cX9_next 14 = .ok (.bipush (-2), 2) := by decide +kernel
theorem dX9_next_16 : decode cX9_next 16 = .ok (.ireturn, 1) := by decide +kernel
theorem dX9_next_17 : decode cX9_next 17 = .ok (.aload_n 0, 1) := by decide +kernel
theorem dX9_next_18 : decode cX9_next 18 = .ok (.invokevirtual 330, 3) := by decide +kernel
theorem dX9_next_21 : decode cX9_next 21 = .ok (.iconst (-1), 1) := by decide +kernel
theorem dX9_next_22 : decode cX9_next 22 = .ok (.istore_n 2, 1) := by decide +kernel
theorem dX9_next_23 : decode cX9_next 23 = .ok (.iconst 0, 1) := by decide +kernel
theorem dX9_next_24 : decode cX9_next 24 = .ok (.istore_n 3, 1) := by decide +kernel
theorem dX9_next_25 : decode cX9_next 25 = .ok (.iload_n 3, 1) := by decide +kernel
theorem dX9_next_26 : decode cX9_next 26 = .ok (.aload_n 0, 1) := by decide +kernel
theorem dX9_next_27 : decode cX9_next 27 = .ok (.invokevirtual 245, 3) := by decide +kernel
theorem dX9_next_30 : decode cX9_next 30 = .ok (.if_icmp .ge 41, 3) := by decide +kernel
theorem dX9_next_33 : decode cX9_next 33 = .ok (.aload_n 0, 1) := by decide +kernel
theorem dX9_next_34 : decode cX9_next 34 = .ok (.iload_n 3, 1) := by decide +kernel
theorem dX9_next_35 : decode cX9_next 35 = .ok (.iload_n 1, 1) := by decide +kernel
theorem dX9_next_36 : decode cX9_next 36 = .ok (.invokevirtual 342, 3) := by decide +kernel
theorem dX9_next_39 : decode cX9_next 39 = .ok (.iconst (-1), 1) := by decide +kernel
theorem dX9_next_40 : decode cX9_next 40 = .ok (.if_icmp .eq 25, 3) := by decide +kernel
theorem dX9_next_43 : decode cX9_next 43 = .ok (.iload_n 2, 1) := by decide +kernel
theorem dX9_next_44 : decode cX9_next 44 = .ok (.iconst (-1), 1) := by decide +kernel
theorem dX9_next_45 : decode cX9_next 45 = .ok (.if_icmp .eq 18, 3) := by decide +kernel
theorem dX9_next_48 : decode cX9_next 48 = .ok (.aload_n 0, 1) := by decide +kernel
theorem dX9_next_49 : decode cX9_next 49 = .ok (.iload_n 3, 1) := by decide +kernel
theorem dX9_next_50 : decode cX9_next 50 = .ok (.iload_n 1, 1) := by decide +kernel
theorem dX9_next_51 : decode cX9_next 51 = .ok (.invokevirtual 342, 3) := by decide +kernel
theorem dX9_next_54 : decode cX9_next 54 = .ok (.aload_n 0, 1) := by decide +kernel
theorem dX9_next_55 : decode cX9_next 55 = .ok (.iload_n 2, 1) := by decide +kernel
theorem dX9_next_56 : decode cX9_next 56 = .ok (.iload_n 1, 1) := by decide +kernel
theorem dX9_next_57 : decode cX9_next 57 = .ok (.invokevirtual 342, 3) := by decide +kernel
theorem dX9_next_60 : decode cX9_next 60 = .ok (.if_icmp .le 5, 3) := by decide +kernel
theorem dX9_next_63 : decode cX9_next 63 = .ok (.iload_n 3, 1) := by decide +kernel
theorem dX9_next_64 : decode cX9_next 64 = .ok (.istore_n 2, 1) := by decide +kernel
theorem dX9_next_65 : decode cX9_next 65 = .ok (.iinc 3 1, 3) := by decide +kernel
theorem dX9_next_68 : decode cX9_next 68 = .ok (.goto (-43), 3) := by decide +kernel
theorem dX9_next_71 : decode cX9_next 71 = .ok (.iload_n 2, 1) := by decide +kernel
theorem dX9_next_72 : decode cX9_next 72 = .ok (.ireturn, 1) := by decide +kernel

theorem dX9_open_0 : decode cX9_open 0 = .ok (.aload_n 0, 1) := by decide +kernel
theorem dX9_open_1 : decode cX9_open 1 = .ok (.iconst 0, 1) := by decide +kernel
theorem dX9_open_2 : decode cX9_open 2 = .ok (.putfield 83, 3) := by decide +kernel
theorem dX9_open_5 : decode cX9_open 5 = .ok (.aload_n 0, 1) := by decide +kernel
theorem dX9_open_6 : decode cX9_open 6 = .ok (.iload_n 1, 1) := by decide +kernel
theorem dX9_open_7 : decode cX9_open 7 = .ok (.i2l, 1) := by decide +kernel
theorem dX9_open_8 : decode cX9_open 8 = .ok (.invokevirtual 257, 3) := by decide +kernel
theorem dX9_open_11 : decode cX9_open 11 = .ok (.ifCond .ne 6, 3) := by decide +kernel
theorem dX9_open_14 : decode cX9_open 14 = .ok (.bipush (-2), 2) := by decide +kernel
theorem dX9_open_16 : decode cX9_open 16 = .ok (.ireturn, 1) := by decide +kernel
theorem dX9_open_17 : decode cX9_open 17 = .ok (.aload_n 0, 1) := by decide +kernel
theorem dX9_open_18 : decode cX9_open 18 = .ok (.invokevirtual 330, 3) := by decide +kernel
theorem dX9_open_21 : decode cX9_open 21 = .ok (.aload_n 0, 1) := by decide +kernel
theorem dX9_open_22 : decode cX9_open 22 = .ok (.getfield 62, 3) := by decide +kernel
theorem dX9_open_25 : decode cX9_open 25 = .ok (.iload_n 1, 1) := by decide +kernel
theorem dX9_open_26 : decode cX9_open 26 = .ok (.iaload, 1) := by decide +kernel
theorem dX9_open_27 : decode cX9_open 27 = .ok (.ireturn, 1) := by decide +kernel

theorem dX9_opens_0 : decode cX9_opens 0 = .ok (.aload_n 0, 1) := by decide +kernel
theorem dX9_opens_1 : decode cX9_opens 1 = .ok (.iconst 0, 1) := by decide +kernel
theorem dX9_opens_2 : decode cX9_opens 2 = .ok (.putfield 83, 3) := by decide +kernel
theorem dX9_opens_5 : decode cX9_opens 5 = .ok (.aload_n 0, 1) := by decide +kernel
theorem dX9_opens_6 : decode cX9_opens 6 = .ok (.invokevirtual 248, 3) := by decide +kernel
theorem dX9_opens_9 : decode cX9_opens 9 = .ok (.ifCond .ne 6, 3) := by decide +kernel
theorem dX9_opens_12 : decode cX9_opens 12 = .ok (.bipush (-2), 2) := by decide +kernel
theorem dX9_opens_14 : decode cX9_opens 14 = .ok (.ireturn, 1) := by decide +kernel
theorem dX9_opens_15 : decode cX9_opens 15 = .ok (.aload_n 0, 1) := by decide +kernel
theorem dX9_opens_16 : decode cX9_opens 16 = .ok (.invokevirtual 435, 3) := by decide +kernel
theorem dX9_opens_19 : decode cX9_opens 19 = .ok (.aload_n 0, 1) := by decide +kernel
theorem dX9_opens_20 : decode cX9_opens 20 = .ok (.getfield 426, 3) := by decide +kernel
theorem dX9_opens_23 : decode cX9_opens 23 = .ok (.ireturn, 1) := by decide +kernel

theorem dX9_part_0 : decode cX9_part 0 = .ok (.aload_n 0, 1) := by decide +kernel
theorem dX9_part_1 : decode cX9_part 1 = .ok (.iconst 0, 1) := by decide +kernel
theorem dX9_part_2 : decode cX9_part 2 = .ok (.putfield 83, 3) := by decide +kernel
theorem dX9_part_5 : decode cX9_part 5 = .ok (.aload_n 0, 1) := by decide +kernel
theorem dX9_part_6 : decode cX9_part 6 = .ok (.iload_n 1, 1) := by decide +kernel
theorem dX9_part_7 : decode cX9_part 7 = .ok (.i2l, 1) := by decide +kernel
theorem dX9_part_8 : decode cX9_part 8 = .ok (.invokevirtual 254, 3) := by decide +kernel
theorem dX9_part_11 : decode cX9_part 11 = .ok (.ifCond .eq 28, 3) := by decide +kernel
theorem dX9_part_14 : decode cX9_part 14 = .ok (.iload_n 2, 1) := by decide +kernel
theorem dX9_part_15 : decode cX9_part 15 = .ok (.i2l, 1) := by decide +kernel
theorem dX9_part_16 : decode cX9_part 16 = .ok (.lconst 0, 1) := by decide +kernel
theorem dX9_part_17 : decode cX9_part 17 = .ok (.ldc2_w 325, 3) := by decide +kernel
theorem dX9_part_20 : decode cX9_part 20 = .ok (.invokestatic 88, 3) := by decide +kernel
theorem dX9_part_23 : decode cX9_part 23 = .ok (.ifCond .eq 16, 3) := by decide +kernel
theorem dX9_part_26 : decode cX9_part 26 = .ok (.aload_n 0, 1) := by decide +kernel
theorem dX9_part_27 : decode cX9_part 27 = .ok (.getfield 37, 3) := by decide +kernel
theorem dX9_part_30 : decode cX9_part 30 = .ok (.iconst 3, 1) := by decide +kernel
theorem dX9_part_31 : decode cX9_part 31 = .ok (.iload_n 1, 1) := by decide +kernel
theorem dX9_part_32 : decode cX9_part 32 = .ok (.imul, 1) := by decide +kernel
theorem dX9_part_33 : decode cX9_part 33 = .ok (.iload_n 2, 1) := by decide +kernel
theorem dX9_part_34 : decode cX9_part 34 = .ok (.iadd, 1) := by decide +kernel
theorem dX9_part_35 : decode cX9_part 35 = .ok (.iaload, 1) := by decide +kernel
theorem dX9_part_36 : decode cX9_part 36 = .ok (.goto 5, 3) := by decide +kernel
theorem dX9_part_39 : decode cX9_part 39 = .ok (.bipush (-2), 2) := by decide +kernel
theorem dX9_part_41 : decode cX9_part 41 = .ok (.ireturn, 1) := by decide +kernel

theorem dX9_parts_0 : decode cX9_parts 0 = .ok (.aload_n 0, 1) := by decide +kernel
theorem dX9_parts_1 : decode cX9_parts 1 = .ok (.getfield 34, 3) := by decide +kernel
theorem dX9_parts_4 : decode cX9_parts 4 = .ok (.iconst 3, 1) := by decide +kernel
theorem dX9_parts_5 : decode cX9_parts 5 = .ok (.iaload, 1) := by decide +kernel
theorem dX9_parts_6 : decode cX9_parts 6 = .ok (.ireturn, 1) := by decide +kernel

theorem dX9_paste_0 : decode cX9_paste 0 = .ok (.aload_n 0, 1) := by decide +kernel
theorem dX9_paste_1 : decode cX9_paste 1 = .ok (.iconst 0, 1) := by decide +kernel
theorem dX9_paste_2 : decode cX9_paste 2 = .ok (.putfield 83, 3) := by decide +kernel
theorem dX9_paste_5 : decode cX9_paste 5 = .ok (.iload_n 1, 1) := by decide +kernel
theorem dX9_paste_6 : decode cX9_paste 6 = .ok (.invokestatic 92, 3) := by decide +kernel
theorem dX9_paste_9 : decode cX9_paste 9 = .ok (.ifCond .eq 10, 3) := by decide +kernel
theorem dX9_paste_12 : decode cX9_paste 12 = .ok (.iload_n 3, 1) := by decide +kernel
theorem dX9_paste_13 : decode cX9_paste 13 = .ok (.invokestatic 92, 3) := by decide +kernel
theorem dX9_paste_16 : decode cX9_paste 16 = .ok (.ifCond .ne 6, 3) := by decide +kernel
theorem dX9_paste_19 : decode cX9_paste 19 = .ok (.bipush (-2), 2) := by decide +kernel
theorem dX9_paste_21 : decode cX9_paste 21 = .ok (.ireturn, 1) := by decide +kernel
theorem dX9_paste_22 : decode cX9_paste 22 = .ok (.aload_n 0, 1) := by decide +kernel
theorem dX9_paste_23 : decode cX9_paste 23 = .ok (.getfield 7, 3) := by decide +kernel
theorem dX9_paste_26 : decode cX9_paste 26 = .ok (.iload_n 1, 1) := by decide +kernel
theorem dX9_paste_27 : decode cX9_paste 27 = .ok (.iaload, 1) := by decide +kernel
theorem dX9_paste_28 : decode cX9_paste 28 = .ok (.iconst (-1), 1) := by decide +kernel
theorem dX9_paste_29 : decode cX9_paste 29 = .ok (.if_icmp .eq 13, 3) := by decide +kernel
theorem dX9_paste_32 : decode cX9_paste 32 = .ok (.aload_n 0, 1) := by decide +kernel
theorem dX9_paste_33 : decode cX9_paste 33 = .ok (.getfield 7, 3) := by decide +kernel
theorem dX9_paste_36 : decode cX9_paste 36 = .ok (.iload_n 3, 1) := by decide +kernel
theorem dX9_paste_37 : decode cX9_paste 37 = .ok (.iaload, 1) := by decide +kernel
theorem dX9_paste_38 : decode cX9_paste 38 = .ok (.iconst (-1), 1) := by decide +kernel
theorem dX9_paste_39 : decode cX9_paste 39 = .ok (.if_icmp .ne 6, 3) := by decide +kernel
theorem dX9_paste_42 : decode cX9_paste 42 = .ok (.bipush (-6), 2) := by decide +kernel
theorem dX9_paste_44 : decode cX9_paste 44 = .ok (.ireturn, 1) := by decide +kernel
theorem dX9_paste_45 : decode cX9_paste 45 = .ok (.aload_n 0, 1) := by decide +kernel
theorem dX9_paste_46 : decode cX9_paste 46 = .ok (.getfield 7, 3) := by decide +kernel
theorem dX9_paste_49 : decode cX9_paste 49 = .ok (.iload_n 1, 1) := by decide +kernel
theorem dX9_paste_50 : decode cX9_paste 50 = .ok (.iaload, 1) := by decide +kernel
theorem dX9_paste_51 : decode cX9_paste 51 = .ok (.aload_n 0, 1) := by decide +kernel
theorem dX9_paste_52 : decode cX9_paste 52 = .ok (.getfield 7, 3) := by decide +kernel
theorem dX9_paste_55 : decode cX9_paste 55 = .ok (.iload_n 3, 1) := by decide +kernel
theorem dX9_paste_56 : decode cX9_paste 56 = .ok (.iaload, 1) := by decide +kernel
theorem dX9_paste_57 : decode cX9_paste 57 = .ok (.if_icmp .eq 6, 3) := by decide +kernel
theorem dX9_paste_60 : decode cX9_paste 60 = .ok (.bipush (-8), 2) := by decide +kernel
theorem dX9_paste_62 : decode cX9_paste 62 = .ok (.ireturn, 1) := by decide +kernel
theorem dX9_paste_63 : decode cX9_paste 63 = .ok (.iload_n 2, 1) := by decide +kernel
theorem dX9_paste_64 : decode cX9_paste 64 = .ok (.ifCond .lt 48, 3) := by decide +kernel
theorem dX9_paste_67 : decode cX9_paste 67 = .ok (.iload 4, 2) := by decide +kernel
theorem dX9_paste_69 : decode cX9_paste 69 = .ok (.ifCond .lt 43, 3) := by decide +kernel
theorem dX9_paste_72 : decode cX9_paste 72 = .ok (.iload 5, 2) := by decide +kernel
theorem dX9_paste_74 : decode cX9_paste 74 = .ok (.ifCond .lt 38, 3) := by decide +kernel
theorem dX9_paste_77 : decode cX9_paste 77 = .ok (.iload_n 2, 1) := by decide +kernel
theorem dX9_paste_78 : decode cX9_paste 78 = .ok (.i2l, 1) := by decide +kernel
theorem dX9_paste_79 : decode cX9_paste 79 = .ok (.iload 5, 2) := by decide +kernel
theorem dX9_paste_81 : decode cX9_paste 81 = .ok (.i2l, 1) := by decide +kernel
theorem dX9_paste_82 : decode cX9_paste 82 = .ok (.ladd, 1) := by decide +kernel
theorem dX9_paste_83 : decode cX9_paste 83 = .ok (.aload_n 0, 1) := by decide +kernel
theorem dX9_paste_84 : decode cX9_paste 84 = .ok (.getfield 13, 3) := by decide +kernel
theorem dX9_paste_87 : decode cX9_paste 87 = .ok (.iload_n 1, 1) := by decide +kernel
theorem dX9_paste_88 : decode cX9_paste 88 = .ok (.iaload, 1) := by decide +kernel
theorem dX9_paste_89 : decode cX9_paste 89 = .ok (.i2l, 1) := by decide +kernel
theorem dX9_paste_90 : decode cX9_paste 90 = .ok (.lcmp, 1) := by decide +kernel
theorem dX9_paste_91 : decode cX9_paste 91 = .ok (.ifCond .gt 21, 3) := by decide +kernel
theorem dX9_paste_94 : decode cX9_paste 94 = .ok (.iload 4, 2) := by decide +kernel
theorem dX9_paste_96 : decode cX9_paste 96 = .ok (.i2l, 1) := by decide +kernel
theorem dX9_paste_97 : decode cX9_paste 97 = .ok (.iload 5, 2) := by decide +kernel
theorem dX9_paste_99 : decode cX9_paste 99 = .ok (.i2l, 1) := by decide +kernel
theorem dX9_paste_100 : decode cX9_paste 100 = .ok (.ladd, 1) := by decide +kernel
theorem dX9_paste_101 : decode cX9_paste 101 = .ok (.aload_n 0, 1) := by decide +kernel
theorem dX9_paste_102 : decode cX9_paste 102 = .ok (.getfield 13, 3) := by decide +kernel
theorem dX9_paste_105 : decode cX9_paste 105 = .ok (.iload_n 3, 1) := by decide +kernel
theorem dX9_paste_106 : decode cX9_paste 106 = .ok (.iaload, 1) := by decide +kernel
theorem dX9_paste_107 : decode cX9_paste 107 = .ok (.i2l, 1) := by decide +kernel
theorem dX9_paste_108 : decode cX9_paste 108 = .ok (.lcmp, 1) := by decide +kernel
theorem dX9_paste_109 : decode cX9_paste 109 = .ok (.ifCond .le 6, 3) := by decide +kernel
theorem dX9_paste_112 : decode cX9_paste 112 = .ok (.bipush (-7), 2) := by decide +kernel
theorem dX9_paste_114 : decode cX9_paste 114 = .ok (.ireturn, 1) := by decide +kernel
theorem dX9_paste_115 : decode cX9_paste 115 = .ok (.iconst 0, 1) := by decide +kernel
theorem dX9_paste_116 : decode cX9_paste 116 = .ok (.istore 6, 2) := by decide +kernel
theorem dX9_paste_118 : decode cX9_paste 118 = .ok (.iload 6, 2) := by decide +kernel
theorem dX9_paste_120 : decode cX9_paste 120 = .ok (.iload 5, 2) := by decide +kernel
theorem dX9_paste_122 : decode cX9_paste 122 = .ok (.if_icmp .ge 30, 3) := by decide +kernel
theorem dX9_paste_125 : decode cX9_paste 125 = .ok (.aload_n 0, 1) := by decide +kernel
theorem dX9_paste_126 : decode cX9_paste 126 = .ok (.getfield 20, 3) := by decide +kernel
theorem dX9_paste_129 : decode cX9_paste 129 = .ok (.iload 6, 2) := by decide +kernel
theorem dX9_paste_131 : decode cX9_paste 131 = .ok (.aload_n 0, 1) := by decide +kernel
theorem dX9_paste_132 : decode cX9_paste 132 = .ok (.getfield 16, 3) := by decide +kernel
theorem dX9_paste_135 : decode cX9_paste 135 = .ok (.bipush 60, 2) := by decide +kernel
theorem dX9_paste_137 : decode cX9_paste 137 = .ok (.iload_n 1, 1) := by decide +kernel
theorem dX9_paste_138 : decode cX9_paste 138 = .ok (.imul, 1) := by decide +kernel
theorem dX9_paste_139 : decode cX9_paste 139 = .ok (.iload_n 2, 1) := by decide +kernel
theorem dX9_paste_140 : decode cX9_paste 140 = .ok (.iadd, 1) := by decide +kernel
theorem dX9_paste_141 : decode cX9_paste 141 = .ok (.iload 6, 2) := by decide +kernel
theorem dX9_paste_143 : decode cX9_paste 143 = .ok (.iadd, 1) := by decide +kernel
theorem dX9_paste_144 : decode cX9_paste 144 = .ok (.laload, 1) := by decide +kernel
theorem dX9_paste_145 : decode cX9_paste 145 = .ok (.lastore, 1) := by decide +kernel
theorem dX9_paste_146 : decode cX9_paste 146 = .ok (.iinc 6 1, 3) := by decide +kernel
theorem dX9_paste_149 : decode cX9_paste 149 = .ok (.goto (-31), 3) := by decide +kernel
theorem dX9_paste_152 : decode cX9_paste 152 = .ok (.iconst 0, 1) := by decide +kernel
theorem dX9_paste_153 : decode cX9_paste 153 = .ok (.istore 6, 2) := by decide +kernel
theorem dX9_paste_155 : decode cX9_paste 155 = .ok (.iload 6, 2) := by decide +kernel
theorem dX9_paste_157 : decode cX9_paste 157 = .ok (.iload 5, 2) := by decide +kernel
theorem dX9_paste_159 : decode cX9_paste 159 = .ok (.if_icmp .ge 31, 3) := by decide +kernel
theorem dX9_paste_162 : decode cX9_paste 162 = .ok (.aload_n 0, 1) := by decide +kernel
theorem dX9_paste_163 : decode cX9_paste 163 = .ok (.getfield 16, 3) := by decide +kernel
theorem dX9_paste_166 : decode cX9_paste 166 = .ok (.bipush 60, 2) := by decide +kernel
theorem dX9_paste_168 : decode cX9_paste 168 = .ok (.iload_n 3, 1) := by decide +kernel
theorem dX9_paste_169 : decode cX9_paste 169 = .ok (.imul, 1) := by decide +kernel
theorem dX9_paste_170 : decode cX9_paste 170 = .ok (.iload 4, 2) := by decide +kernel
theorem dX9_paste_172 : decode cX9_paste 172 = .ok (.iadd, 1) := by decide +kernel
theorem dX9_paste_173 : decode cX9_paste 173 = .ok (.iload 6, 2) := by decide +kernel
theorem dX9_paste_175 : decode cX9_paste 175 = .ok (.iadd, 1) := by decide +kernel
theorem dX9_paste_176 : decode cX9_paste 176 = .ok (.aload_n 0, 1) := by decide +kernel
theorem dX9_paste_177 : decode cX9_paste 177 = .ok (.getfield 20, 3) := by decide +kernel
theorem dX9_paste_180 : decode cX9_paste 180 = .ok (.iload 6, 2) := by decide +kernel
theorem dX9_paste_182 : decode cX9_paste 182 = .ok (.laload, 1) := by decide +kernel
theorem dX9_paste_183 : decode cX9_paste 183 = .ok (.lastore, 1) := by decide +kernel
theorem dX9_paste_184 : decode cX9_paste 184 = .ok (.iinc 6 1, 3) := by decide +kernel
theorem dX9_paste_187 : decode cX9_paste 187 = .ok (.goto (-32), 3) := by decide +kernel
theorem dX9_paste_190 : decode cX9_paste 190 = .ok (.iconst 0, 1) := by decide +kernel
theorem dX9_paste_191 : decode cX9_paste 191 = .ok (.ireturn, 1) := by decide +kernel

theorem dX9_peak_0 : decode cX9_peak 0 = .ok (.aload_n 0, 1) := by decide +kernel
theorem dX9_peak_1 : decode cX9_peak 1 = .ok (.iconst 0, 1) := by decide +kernel
theorem dX9_peak_2 : decode cX9_peak 2 = .ok (.putfield 83, 3) := by decide +kernel
theorem dX9_peak_5 : decode cX9_peak 5 = .ok (.aload_n 0, 1) := by decide +kernel
theorem dX9_peak_6 : decode cX9_peak 6 = .ok (.invokevirtual 248, 3) := by decide +kernel
theorem dX9_peak_9 : decode cX9_peak 9 = .ok (.ifCond .ne 6, 3) := by decide +kernel
theorem dX9_peak_12 : decode cX9_peak 12 = .ok (.bipush (-2), 2) := by decide +kernel
theorem dX9_peak_14 : decode cX9_peak 14 = .ok (.ireturn, 1) := by decide +kernel
theorem dX9_peak_15 : decode cX9_peak 15 = .ok (.aload_n 0, 1) := by decide +kernel
theorem dX9_peak_16 : decode cX9_peak 16 = .ok (.invokevirtual 330, 3) := by decide +kernel
theorem dX9_peak_19 : decode cX9_peak 19 = .ok (.iconst 0, 1) := by decide +kernel
theorem dX9_peak_20 : decode cX9_peak 20 = .ok (.istore_n 1, 1) := by decide +kernel
theorem dX9_peak_21 : decode cX9_peak 21 = .ok (.iconst 1, 1) := by decide +kernel
theorem dX9_peak_22 : decode cX9_peak 22 = .ok (.istore_n 2, 1) := by decide +kernel
theorem dX9_peak_23 : decode cX9_peak 23 = .ok (.iload_n 2, 1) := by decide +kernel
theorem dX9_peak_24 : decode cX9_peak 24 = .ok (.aload_n 0, 1) := by decide +kernel
theorem dX9_peak_25 : decode cX9_peak 25 = .ok (.invokevirtual 251, 3) := by decide +kernel
theorem dX9_peak_28 : decode cX9_peak 28 = .ok (.if_icmp .ge 24, 3) := by decide +kernel
theorem dX9_peak_31 : decode cX9_peak 31 = .ok (.aload_n 0, 1) := by decide +kernel
theorem dX9_peak_32 : decode cX9_peak 32 = .ok (.iload_n 2, 1) := by decide +kernel
theorem dX9_peak_33 : decode cX9_peak 33 = .ok (.invokevirtual 336, 3) := by decide +kernel
theorem dX9_peak_36 : decode cX9_peak 36 = .ok (.aload_n 0, 1) := by decide +kernel
theorem dX9_peak_37 : decode cX9_peak 37 = .ok (.iload_n 1, 1) := by decide +kernel
theorem dX9_peak_38 : decode cX9_peak 38 = .ok (.invokevirtual 336, 3) := by decide +kernel
theorem dX9_peak_41 : decode cX9_peak 41 = .ok (.if_icmp .le 5, 3) := by decide +kernel
theorem dX9_peak_44 : decode cX9_peak 44 = .ok (.iload_n 2, 1) := by decide +kernel
theorem dX9_peak_45 : decode cX9_peak 45 = .ok (.istore_n 1, 1) := by decide +kernel
theorem dX9_peak_46 : decode cX9_peak 46 = .ok (.iinc 2 1, 3) := by decide +kernel
theorem dX9_peak_49 : decode cX9_peak 49 = .ok (.goto (-26), 3) := by decide +kernel
theorem dX9_peak_52 : decode cX9_peak 52 = .ok (.iload_n 1, 1) := by decide +kernel
theorem dX9_peak_53 : decode cX9_peak 53 = .ok (.ireturn, 1) := by decide +kernel

theorem dX9_pieces_0 : decode cX9_pieces 0 = .ok (.aload_n 0, 1) := by decide +kernel
theorem dX9_pieces_1 : decode cX9_pieces 1 = .ok (.iconst 0, 1) := by decide +kernel
theorem dX9_pieces_2 : decode cX9_pieces 2 = .ok (.putfield 83, 3) := by decide +kernel
theorem dX9_pieces_5 : decode cX9_pieces 5 = .ok (.aload_n 0, 1) := by decide +kernel
theorem dX9_pieces_6 : decode cX9_pieces 6 = .ok (.invokevirtual 248, 3) := by decide +kernel
theorem dX9_pieces_9 : decode cX9_pieces 9 = .ok (.ifCond .ne 6, 3) := by decide +kernel
theorem dX9_pieces_12 : decode cX9_pieces 12 = .ok (.bipush (-2), 2) := by decide +kernel
theorem dX9_pieces_14 : decode cX9_pieces 14 = .ok (.ireturn, 1) := by decide +kernel
theorem dX9_pieces_15 : decode cX9_pieces 15 = .ok (.aload_n 0, 1) := by decide +kernel
theorem dX9_pieces_16 : decode cX9_pieces 16 = .ok (.invokevirtual 319, 3) := by decide +kernel
theorem dX9_pieces_19 : decode cX9_pieces 19 = .ok (.iconst 0, 1) := by decide +kernel
theorem dX9_pieces_20 : decode cX9_pieces 20 = .ok (.istore_n 1, 1) := by decide +kernel
theorem dX9_pieces_21 : decode cX9_pieces 21 = .ok (.iconst 0, 1) := by decide +kernel
theorem dX9_pieces_22 : decode cX9_pieces 22 = .ok (.istore_n 2, 1) := by decide +kernel
theorem dX9_pieces_23 : decode cX9_pieces 23 = .ok (.iconst 0, 1) := by decide +kernel
theorem dX9_pieces_24 : decode cX9_pieces 24 = .ok (.istore_n 3, 1) := by decide +kernel
theorem dX9_pieces_25 : decode cX9_pieces 25 = .ok (.iload_n 3, 1) := by decide +kernel
theorem dX9_pieces_26 : decode cX9_pieces 26 = .ok (.aload_n 0, 1) := by decide +kernel
theorem dX9_pieces_27 : decode cX9_pieces 27 = .ok (.invokevirtual 245, 3) := by decide +kernel
theorem dX9_pieces_30 : decode cX9_pieces 30 = .ok (.if_icmp .ge 96, 3) := by decide +kernel
theorem dX9_pieces_33 : decode cX9_pieces 33 = .ok (.iload_n 1, 1) := by decide +kernel
theorem dX9_pieces_34 : decode cX9_pieces 34 = .ok (.iload_n 2, 1) := by decide +kernel
theorem dX9_pieces_35 : decode cX9_pieces 35 = .ok (.iload_n 3, 1) := by decide +kernel
theorem dX9_pieces_36 : decode cX9_pieces 36 = .ok (.invokestatic 282, 3) := by decide +kernel
theorem dX9_pieces_39 : decode cX9_pieces 39 = .ok (.ifCond .eq 7, 3) := by decide +kernel
theorem dX9_pieces_42 : decode cX9_pieces 42 = .ok (.iconst 0, 1) := by decide +kernel
theorem dX9_pieces_43 : decode cX9_pieces 43 = .ok (.goto 4, 3) := by decide +kernel
theorem dX9_pieces_46 : decode cX9_pieces 46 = .ok (.iconst 1, 1) := by decide +kernel
theorem dX9_pieces_47 : decode cX9_pieces 47 = .ok (.iadd, 1) := by decide +kernel
theorem dX9_pieces_48 : decode cX9_pieces 48 = .ok (.istore_n 1, 1) := by decide +kernel
theorem dX9_pieces_49 : decode cX9_pieces 49 = .ok (.iconst 1, 1) := by decide +kernel
theorem dX9_pieces_50 : decode cX9_pieces 50 = .ok (.iload_n 3, 1) := by decide +kernel
theorem dX9_pieces_51 : decode cX9_pieces 51 = .ok (.ishl, 1) := by decide +kernel
theorem dX9_pieces_52 : decode cX9_pieces 52 = .ok (.istore 4, 2) := by decide +kernel
theorem dX9_pieces_54 : decode cX9_pieces 54 = .ok (.iconst 0, 1) := by decide +kernel
theorem dX9_pieces_55 : decode cX9_pieces 55 = .ok (.istore 5, 2) := by decide +kernel
theorem dX9_pieces_57 : decode cX9_pieces 57 = .ok (.iload 5, 2) := by decide +kernel
theorem dX9_pieces_59 : decode cX9_pieces 59 = .ok (.aload_n 0, 1) := by decide +kernel
theorem dX9_pieces_60 : decode cX9_pieces 60 = .ok (.invokevirtual 245, 3) := by decide +kernel
theorem dX9_pieces_63 : decode cX9_pieces 63 = .ok (.if_icmp .ge 52, 3) := by decide +kernel
theorem dX9_pieces_66 : decode cX9_pieces 66 = .ok (.iconst 0, 1) := by decide +kernel
theorem dX9_pieces_67 : decode cX9_pieces 67 = .ok (.istore 6, 2) := by decide +kernel
theorem dX9_pieces_69 : decode cX9_pieces 69 = .ok (.iload 6, 2) := by decide +kernel
theorem dX9_pieces_71 : decode cX9_pieces 71 = .ok (.aload_n 0, 1) := by decide +kernel
theorem dX9_pieces_72 : decode cX9_pieces 72 = .ok (.invokevirtual 245, 3) := by decide +kernel
theorem dX9_pieces_75 : decode cX9_pieces 75 = .ok (.if_icmp .ge 34, 3) := by decide +kernel
theorem dX9_pieces_78 : decode cX9_pieces 78 = .ok (.iload 4, 2) := by decide +kernel
theorem dX9_pieces_80 : decode cX9_pieces 80 = .ok (.iload 4, 2) := by decide +kernel
theorem dX9_pieces_82 : decode cX9_pieces 82 = .ok (.iload 6, 2) := by decide +kernel
theorem dX9_pieces_84 : decode cX9_pieces 84 = .ok (.invokestatic 282, 3) := by decide +kernel
theorem dX9_pieces_87 : decode cX9_pieces 87 = .ok (.ifCond .eq 12, 3) := by decide +kernel
theorem dX9_pieces_90 : decode cX9_pieces 90 = .ok (.aload_n 0, 1) := by decide +kernel
theorem dX9_pieces_91 : decode cX9_pieces 91 = .ok (.iload 6, 2) := by decide +kernel
theorem dX9_pieces_93 : decode cX9_pieces 93 = .ok (.invokevirtual 292, 3) := by decide +kernel
theorem dX9_pieces_96 : decode cX9_pieces 96 = .ok (.goto 4, 3) := by decide +kernel
theorem dX9_pieces_99 : decode cX9_pieces 99 = .ok (.iconst 0, 1) := by decide +kernel
theorem dX9_pieces_100 : decode cX9_pieces 100 = .ok (.ior, 1) := by decide +kernel
theorem dX9_pieces_101 : decode cX9_pieces 101 = .ok (.istore 4, 2) := by decide +kernel
theorem dX9_pieces_103 : decode cX9_pieces 103 = .ok (.iinc 6 1, 3) := by decide +kernel
theorem dX9_pieces_106 : decode cX9_pieces 106 = .ok (.goto (-37), 3) := by decide +kernel
theorem dX9_pieces_109 : decode cX9_pieces 109 = .ok (.iinc 5 1, 3) := by decide +kernel
theorem dX9_pieces_112 : decode cX9_pieces 112 = .ok (.goto (-55), 3) := by decide +kernel
theorem dX9_pieces_115 : decode cX9_pieces 115 = .ok (.iload_n 2, 1) := by decide +kernel
theorem dX9_pieces_116 : decode cX9_pieces 116 = .ok (.iload 4, 2) := by decide +kernel
theorem dX9_pieces_118 : decode cX9_pieces 118 = .ok (.ior, 1) := by decide +kernel
theorem dX9_pieces_119 : decode cX9_pieces 119 = .ok (.istore_n 2, 1) := by decide +kernel
theorem dX9_pieces_120 : decode cX9_pieces 120 = .ok (.iinc 3 1, 3) := by decide +kernel
theorem dX9_pieces_123 : decode cX9_pieces 123 = .ok (.goto (-98), 3) := by decide +kernel
theorem dX9_pieces_126 : decode cX9_pieces 126 = .ok (.iload_n 1, 1) := by decide +kernel
theorem dX9_pieces_127 : decode cX9_pieces 127 = .ok (.ireturn, 1) := by decide +kernel

theorem dX9_plan_0 : decode cX9_plan 0 = .ok (.aload_n 0, 1) := by decide +kernel
theorem dX9_plan_1 : decode cX9_plan 1 = .ok (.iconst 0, 1) := by decide +kernel
theorem dX9_plan_2 : decode cX9_plan 2 = .ok (.putfield 83, 3) := by decide +kernel
theorem dX9_plan_5 : decode cX9_plan 5 = .ok (.aload_n 0, 1) := by decide +kernel
theorem dX9_plan_6 : decode cX9_plan 6 = .ok (.iload_n 1, 1) := by decide +kernel
theorem dX9_plan_7 : decode cX9_plan 7 = .ok (.invokevirtual 384, 3) := by decide +kernel
theorem dX9_plan_10 : decode cX9_plan 10 = .ok (.ifCond .ne 6, 3) := by decide +kernel
theorem dX9_plan_13 : decode cX9_plan 13 = .ok (.bipush (-2), 2) := by decide +kernel
theorem dX9_plan_15 : decode cX9_plan 15 = .ok (.ireturn, 1) := by decide +kernel
theorem dX9_plan_16 : decode cX9_plan 16 = .ok (.aload_n 0, 1) := by decide +kernel
theorem dX9_plan_17 : decode cX9_plan 17 = .ok (.iload_n 1, 1) := by decide +kernel
theorem dX9_plan_18 : decode cX9_plan 18 = .ok (.invokevirtual 387, 3) := by decide +kernel
theorem dX9_plan_21 : decode cX9_plan 21 = .ok (.aload_n 0, 1) := by decide +kernel
theorem dX9_plan_22 : decode cX9_plan 22 = .ok (.getfield 375, 3) := by decide +kernel
theorem dX9_plan_25 : decode cX9_plan 25 = .ok (.ireturn, 1) := by decide +kernel

theorem dX9_planned_0 : decode cX9_planned 0 = .ok (.aload_n 0, 1) := by decide +kernel
theorem dX9_planned_1 : decode cX9_planned 1 = .ok (.iconst 0, 1) := by decide +kernel
theorem dX9_planned_2 : decode cX9_planned 2 = .ok (.putfield 83, 3) := by decide +kernel
theorem dX9_planned_5 : decode cX9_planned 5 = .ok (.aload_n 0, 1) := by decide +kernel
theorem dX9_planned_6 : decode cX9_planned 6 = .ok (.iload_n 1, 1) := by decide +kernel
theorem dX9_planned_7 : decode cX9_planned 7 = .ok (.invokevirtual 384, 3) := by decide +kernel
theorem dX9_planned_10 : decode cX9_planned 10 = .ok (.ifCond .eq 16, 3) := by decide +kernel
theorem dX9_planned_13 : decode cX9_planned 13 = .ok (.iload_n 2, 1) := by decide +kernel
theorem dX9_planned_14 : decode cX9_planned 14 = .ok (.i2l, 1) := by decide +kernel
theorem dX9_planned_15 : decode cX9_planned 15 = .ok (.lconst 0, 1) := by decide +kernel
theorem dX9_planned_16 : decode cX9_planned 16 = .ok (.iload_n 1, 1) := by decide +kernel
theorem dX9_planned_17 : decode cX9_planned 17 = .ok (.i2l, 1) := by decide +kernel
theorem dX9_planned_18 : decode cX9_planned 18 = .ok (.lconst 1, 1) := by decide +kernel
theorem dX9_planned_19 : decode cX9_planned 19 = .ok (.lsub, 1) := by decide +kernel
theorem dX9_planned_20 : decode cX9_planned 20 = .ok (.invokestatic 88, 3) := by decide +kernel
theorem dX9_planned_23 : decode cX9_planned 23 = .ok (.ifCond .ne 6, 3) := by decide +kernel
theorem dX9_planned_26 : decode cX9_planned 26 = .ok (.bipush (-2), 2) := by decide +kernel
theorem dX9_planned_28 : decode cX9_planned 28 = .ok (.ireturn, 1) := by decide +kernel
theorem dX9_planned_29 : decode cX9_planned 29 = .ok (.aload_n 0, 1) := by decide +kernel
theorem dX9_planned_30 : decode cX9_planned 30 = .ok (.iload_n 1, 1) := by decide +kernel
theorem dX9_planned_31 : decode cX9_planned 31 = .ok (.invokevirtual 387, 3) := by decide +kernel
theorem dX9_planned_34 : decode cX9_planned 34 = .ok (.aload_n 0, 1) := by decide +kernel
theorem dX9_planned_35 : decode cX9_planned 35 = .ok (.getfield 74, 3) := by decide +kernel
theorem dX9_planned_38 : decode cX9_planned 38 = .ok (.iload_n 2, 1) := by decide +kernel
theorem dX9_planned_39 : decode cX9_planned 39 = .ok (.iaload, 1) := by decide +kernel
theorem dX9_planned_40 : decode cX9_planned 40 = .ok (.ireturn, 1) := by decide +kernel

theorem dX9_plans_0 : decode cX9_plans 0 = .ok (.aload_n 0, 1) := by decide +kernel
theorem dX9_plans_1 : decode cX9_plans 1 = .ok (.iconst 0, 1) := by decide +kernel
theorem dX9_plans_2 : decode cX9_plans 2 = .ok (.putfield 83, 3) := by decide +kernel
theorem dX9_plans_5 : decode cX9_plans 5 = .ok (.aload_n 0, 1) := by decide +kernel
theorem dX9_plans_6 : decode cX9_plans 6 = .ok (.iload_n 1, 1) := by decide +kernel
theorem dX9_plans_7 : decode cX9_plans 7 = .ok (.invokevirtual 384, 3) := by decide +kernel
theorem dX9_plans_10 : decode cX9_plans 10 = .ok (.ifCond .ne 6, 3) := by decide +kernel
theorem dX9_plans_13 : decode cX9_plans 13 = .ok (.bipush (-2), 2) := by decide +kernel
theorem dX9_plans_15 : decode cX9_plans 15 = .ok (.ireturn, 1) := by decide +kernel
theorem dX9_plans_16 : decode cX9_plans 16 = .ok (.aload_n 0, 1) := by decide +kernel
theorem dX9_plans_17 : decode cX9_plans 17 = .ok (.iload_n 1, 1) := by decide +kernel
theorem dX9_plans_18 : decode cX9_plans 18 = .ok (.invokevirtual 387, 3) := by decide +kernel
theorem dX9_plans_21 : decode cX9_plans 21 = .ok (.aload_n 0, 1) := by decide +kernel
theorem dX9_plans_22 : decode cX9_plans 22 = .ok (.getfield 378, 3) := by decide +kernel
theorem dX9_plans_25 : decode cX9_plans 25 = .ok (.ireturn, 1) := by decide +kernel

theorem dX9_quiet_0 : decode cX9_quiet 0 = .ok (.aload_n 0, 1) := by decide +kernel
theorem dX9_quiet_1 : decode cX9_quiet 1 = .ok (.iconst 0, 1) := by decide +kernel
theorem dX9_quiet_2 : decode cX9_quiet 2 = .ok (.putfield 83, 3) := by decide +kernel
theorem dX9_quiet_5 : decode cX9_quiet 5 = .ok (.aload_n 0, 1) := by decide +kernel
theorem dX9_quiet_6 : decode cX9_quiet 6 = .ok (.invokevirtual 248, 3) := by decide +kernel
theorem dX9_quiet_9 : decode cX9_quiet 9 = .ok (.ifCond .ne 6, 3) := by decide +kernel
theorem dX9_quiet_12 : decode cX9_quiet 12 = .ok (.bipush (-2), 2) := by decide +kernel
theorem dX9_quiet_14 : decode cX9_quiet 14 = .ok (.ireturn, 1) := by decide +kernel
theorem dX9_quiet_15 : decode cX9_quiet 15 = .ok (.aload_n 0, 1) := by decide +kernel
theorem dX9_quiet_16 : decode cX9_quiet 16 = .ok (.invokevirtual 330, 3) := by decide +kernel
theorem dX9_quiet_19 : decode cX9_quiet 19 = .ok (.iconst 0, 1) := by decide +kernel
theorem dX9_quiet_20 : decode cX9_quiet 20 = .ok (.istore_n 1, 1) := by decide +kernel
theorem dX9_quiet_21 : decode cX9_quiet 21 = .ok (.iconst 0, 1) := by decide +kernel
theorem dX9_quiet_22 : decode cX9_quiet 22 = .ok (.istore_n 2, 1) := by decide +kernel
theorem dX9_quiet_23 : decode cX9_quiet 23 = .ok (.iload_n 2, 1) := by decide +kernel
theorem dX9_quiet_24 : decode cX9_quiet 24 = .ok (.aload_n 0, 1) := by decide +kernel
theorem dX9_quiet_25 : decode cX9_quiet 25 = .ok (.invokevirtual 251, 3) := by decide +kernel
theorem dX9_quiet_28 : decode cX9_quiet 28 = .ok (.if_icmp .ge 25, 3) := by decide +kernel
theorem dX9_quiet_31 : decode cX9_quiet 31 = .ok (.iload_n 1, 1) := by decide +kernel
theorem dX9_quiet_32 : decode cX9_quiet 32 = .ok (.aload_n 0, 1) := by decide +kernel
theorem dX9_quiet_33 : decode cX9_quiet 33 = .ok (.iload_n 2, 1) := by decide +kernel
theorem dX9_quiet_34 : decode cX9_quiet 34 = .ok (.invokevirtual 348, 3) := by decide +kernel
theorem dX9_quiet_37 : decode cX9_quiet 37 = .ok (.ifCond .ne 7, 3) := by decide +kernel
theorem dX9_quiet_40 : decode cX9_quiet 40 = .ok (.iconst 1, 1) := by decide +kernel
theorem dX9_quiet_41 : decode cX9_quiet 41 = .ok (.goto 4, 3) := by decide +kernel
theorem dX9_quiet_44 : decode cX9_quiet 44 = .ok (.iconst 0, 1) := by decide +kernel
theorem dX9_quiet_45 : decode cX9_quiet 45 = .ok (.iadd, 1) := by decide +kernel
theorem dX9_quiet_46 : decode cX9_quiet 46 = .ok (.istore_n 1, 1) := by decide +kernel
theorem dX9_quiet_47 : decode cX9_quiet 47 = .ok (.iinc 2 1, 3) := by decide +kernel
theorem dX9_quiet_50 : decode cX9_quiet 50 = .ok (.goto (-27), 3) := by decide +kernel
theorem dX9_quiet_53 : decode cX9_quiet 53 = .ok (.iload_n 1, 1) := by decide +kernel
theorem dX9_quiet_54 : decode cX9_quiet 54 = .ok (.ireturn, 1) := by decide +kernel

theorem dX9_rate_0 : decode cX9_rate 0 = .ok (.aload_n 0, 1) := by decide +kernel
theorem dX9_rate_1 : decode cX9_rate 1 = .ok (.iconst 0, 1) := by decide +kernel
theorem dX9_rate_2 : decode cX9_rate 2 = .ok (.putfield 83, 3) := by decide +kernel
theorem dX9_rate_5 : decode cX9_rate 5 = .ok (.aload_n 0, 1) := by decide +kernel
theorem dX9_rate_6 : decode cX9_rate 6 = .ok (.iload_n 1, 1) := by decide +kernel
theorem dX9_rate_7 : decode cX9_rate 7 = .ok (.i2l, 1) := by decide +kernel
theorem dX9_rate_8 : decode cX9_rate 8 = .ok (.invokevirtual 254, 3) := by decide +kernel
theorem dX9_rate_11 : decode cX9_rate 11 = .ok (.ifCond .eq 15, 3) := by decide +kernel
theorem dX9_rate_14 : decode cX9_rate 14 = .ok (.iload_n 2, 1) := by decide +kernel
theorem dX9_rate_15 : decode cX9_rate 15 = .ok (.i2l, 1) := by decide +kernel
theorem dX9_rate_16 : decode cX9_rate 16 = .ok (.lconst 0, 1) := by decide +kernel
theorem dX9_rate_17 : decode cX9_rate 17 = .ok (.ldc2_w 478, 3) := by decide +kernel
theorem dX9_rate_20 : decode cX9_rate 20 = .ok (.invokestatic 88, 3) := by decide +kernel
theorem dX9_rate_23 : decode cX9_rate 23 = .ok (.ifCond .ne 6, 3) := by decide +kernel
theorem dX9_rate_26 : decode cX9_rate 26 = .ok (.bipush (-2), 2) := by decide +kernel
theorem dX9_rate_28 : decode cX9_rate 28 = .ok (.ireturn, 1) := by decide +kernel
theorem dX9_rate_29 : decode cX9_rate 29 = .ok (.aload_n 0, 1) := by decide +kernel
theorem dX9_rate_30 : decode cX9_rate 30 = .ok (.getfield 34, 3) := by decide +kernel
theorem dX9_rate_33 : decode cX9_rate 33 = .ok (.bipush 6, 2) := by decide +kernel
theorem dX9_rate_35 : decode cX9_rate 35 = .ok (.iaload, 1) := by decide +kernel
theorem dX9_rate_36 : decode cX9_rate 36 = .ok (.ifCond .le 6, 3) := by decide +kernel
theorem dX9_rate_39 : decode cX9_rate 39 = .ok (.bipush (-5), 2) := by decide +kernel
theorem dX9_rate_41 : decode cX9_rate 41 = .ok (.ireturn, 1) := by decide +kernel
theorem dX9_rate_42 : decode cX9_rate 42 = .ok (.aload_n 0, 1) := by decide +kernel
theorem dX9_rate_43 : decode cX9_rate 43 = .ok (.getfield 37, 3) := by decide +kernel
theorem dX9_rate_46 : decode cX9_rate 46 = .ok (.iconst 3, 1) := by decide +kernel
theorem dX9_rate_47 : decode cX9_rate 47 = .ok (.iload_n 1, 1) := by decide +kernel
theorem dX9_rate_48 : decode cX9_rate 48 = .ok (.imul, 1) := by decide +kernel
theorem dX9_rate_49 : decode cX9_rate 49 = .ok (.iaload, 1) := by decide +kernel
theorem dX9_rate_50 : decode cX9_rate 50 = .ok (.istore_n 3, 1) := by decide +kernel
theorem dX9_rate_51 : decode cX9_rate 51 = .ok (.aload_n 0, 1) := by decide +kernel
theorem dX9_rate_52 : decode cX9_rate 52 = .ok (.getfield 37, 3) := by decide +kernel
theorem dX9_rate_55 : decode cX9_rate 55 = .ok (.iconst 3, 1) := by decide +kernel
theorem dX9_rate_56 : decode cX9_rate 56 = .ok (.iload_n 1, 1) := by decide +kernel
theorem dX9_rate_57 : decode cX9_rate 57 = .ok (.imul, 1) := by decide +kernel
theorem dX9_rate_58 : decode cX9_rate 58 = .ok (.iload_n 2, 1) := by decide +kernel
theorem dX9_rate_59 : decode cX9_rate 59 = .ok (.iastore, 1) := by decide +kernel
theorem dX9_rate_60 : decode cX9_rate 60 = .ok (.iload_n 3, 1) := by decide +kernel
theorem dX9_rate_61 : decode cX9_rate 61 = .ok (.ireturn, 1) := by decide +kernel

theorem dX9_read_0 : decode cX9_read 0 = .ok (.aload_n 0, 1) := by decide +kernel
theorem dX9_read_1 : decode cX9_read 1 = .ok (.iconst 0, 1) := by decide +kernel
theorem dX9_read_2 : decode cX9_read 2 = .ok (.putfield 83, 3) := by decide +kernel
theorem dX9_read_5 : decode cX9_read 5 = .ok (.aload_n 0, 1) := by decide +kernel
theorem dX9_read_6 : decode cX9_read 6 = .ok (.iload_n 1, 1) := by decide +kernel
theorem dX9_read_7 : decode cX9_read 7 = .ok (.i2l, 1) := by decide +kernel
theorem dX9_read_8 : decode cX9_read 8 = .ok (.invokevirtual 254, 3) := by decide +kernel
theorem dX9_read_11 : decode cX9_read 11 = .ok (.ifCond .ne 6, 3) := by decide +kernel
theorem dX9_read_14 : decode cX9_read 14 = .ok (.bipush (-2), 2) := by decide +kernel
theorem dX9_read_16 : decode cX9_read 16 = .ok (.ireturn, 1) := by decide +kernel
theorem dX9_read_17 : decode cX9_read 17 = .ok (.aload_n 0, 1) := by decide +kernel
theorem dX9_read_18 : decode cX9_read 18 = .ok (.invokevirtual 330, 3) := by decide +kernel
theorem dX9_read_21 : decode cX9_read 21 = .ok (.aload_n 0, 1) := by decide +kernel
theorem dX9_read_22 : decode cX9_read 22 = .ok (.getfield 71, 3) := by decide +kernel
theorem dX9_read_25 : decode cX9_read 25 = .ok (.iload_n 1, 1) := by decide +kernel
theorem dX9_read_26 : decode cX9_read 26 = .ok (.iaload, 1) := by decide +kernel
theorem dX9_read_27 : decode cX9_read 27 = .ok (.ireturn, 1) := by decide +kernel

theorem dX9_reads_0 : decode cX9_reads 0 = .ok (.aload_n 0, 1) := by decide +kernel
theorem dX9_reads_1 : decode cX9_reads 1 = .ok (.iconst 0, 1) := by decide +kernel
theorem dX9_reads_2 : decode cX9_reads 2 = .ok (.putfield 83, 3) := by decide +kernel
theorem dX9_reads_5 : decode cX9_reads 5 = .ok (.aload_n 0, 1) := by decide +kernel
theorem dX9_reads_6 : decode cX9_reads 6 = .ok (.iload_n 1, 1) := by decide +kernel
theorem dX9_reads_7 : decode cX9_reads 7 = .ok (.invokevirtual 333, 3) := by decide +kernel
theorem dX9_reads_10 : decode cX9_reads 10 = .ok (.ifCond .ne 6, 3) := by decide +kernel
theorem dX9_reads_13 : decode cX9_reads 13 = .ok (.bipush (-2), 2) := by decide +kernel
theorem dX9_reads_15 : decode cX9_reads 15 = .ok (.ireturn, 1) := by decide +kernel
theorem dX9_reads_16 : decode cX9_reads 16 = .ok (.aload_n 0, 1) := by decide +kernel
theorem dX9_reads_17 : decode cX9_reads 17 = .ok (.invokevirtual 330, 3) := by decide +kernel
theorem dX9_reads_20 : decode cX9_reads 20 = .ok (.aload_n 0, 1) := by decide +kernel
theorem dX9_reads_21 : decode cX9_reads 21 = .ok (.iload_n 1, 1) := by decide +kernel
theorem dX9_reads_22 : decode cX9_reads 22 = .ok (.invokevirtual 336, 3) := by decide +kernel
theorem dX9_reads_25 : decode cX9_reads 25 = .ok (.ireturn, 1) := by decide +kernel

theorem dX9_replies_0 : decode cX9_replies 0 = .ok (.aload_n 0, 1) := by decide +kernel
theorem dX9_replies_1 : decode cX9_replies 1 = .ok (.iconst 0, 1) := by decide +kernel
theorem dX9_replies_2 : decode cX9_replies 2 = .ok (.putfield 83, 3) := by decide +kernel
theorem dX9_replies_5 : decode cX9_replies 5 = .ok (.aload_n 0, 1) := by decide +kernel
theorem dX9_replies_6 : decode cX9_replies 6 = .ok (.iload_n 1, 1) := by decide +kernel
theorem dX9_replies_7 : decode cX9_replies 7 = .ok (.i2l, 1) := by decide +kernel
theorem dX9_replies_8 : decode cX9_replies 8 = .ok (.invokevirtual 254, 3) := by decide +kernel
theorem dX9_replies_11 : decode cX9_replies 11 = .ok (.ifCond .ne 6, 3) := by decide +kernel
theorem dX9_replies_14 : decode cX9_replies 14 = .ok (.bipush (-2), 2) := by decide +kernel
theorem dX9_replies_16 : decode cX9_replies 16 = .ok (.ireturn, 1) := by decide +kernel
theorem dX9_replies_17 : decode cX9_replies 17 = .ok (.aload_n 0, 1) := by decide +kernel
theorem dX9_replies_18 : decode cX9_replies 18 = .ok (.iload_n 1, 1) := by decide +kernel
theorem dX9_replies_19 : decode cX9_replies 19 = .ok (.invokevirtual 432, 3) := by decide +kernel
theorem dX9_replies_22 : decode cX9_replies 22 = .ok (.aload_n 0, 1) := by decide +kernel
theorem dX9_replies_23 : decode cX9_replies 23 = .ok (.getfield 420, 3) := by decide +kernel
theorem dX9_replies_26 : decode cX9_replies 26 = .ok (.ireturn, 1) := by decide +kernel

theorem dX9_rests_0 : decode cX9_rests 0 = .ok (.aload_n 0, 1) := by decide +kernel
theorem dX9_rests_1 : decode cX9_rests 1 = .ok (.iconst 0, 1) := by decide +kernel
theorem dX9_rests_2 : decode cX9_rests 2 = .ok (.putfield 83, 3) := by decide +kernel
theorem dX9_rests_5 : decode cX9_rests 5 = .ok (.aload_n 0, 1) := by decide +kernel
theorem dX9_rests_6 : decode cX9_rests 6 = .ok (.iload_n 1, 1) := by decide +kernel
theorem dX9_rests_7 : decode cX9_rests 7 = .ok (.iload_n 2, 1) := by decide +kernel
theorem dX9_rests_8 : decode cX9_rests 8 = .ok (.invokevirtual 438, 3) := by decide +kernel
theorem dX9_rests_11 : decode cX9_rests 11 = .ok (.ifCond .ne 6, 3) := by decide +kernel
theorem dX9_rests_14 : decode cX9_rests 14 = .ok (.bipush (-2), 2) := by decide +kernel
theorem dX9_rests_16 : decode cX9_rests 16 = .ok (.ireturn, 1) := by decide +kernel
theorem dX9_rests_17 : decode cX9_rests 17 = .ok (.iconst 0, 1) := by decide +kernel
theorem dX9_rests_18 : decode cX9_rests 18 = .ok (.istore_n 3, 1) := by decide +kernel
theorem dX9_rests_19 : decode cX9_rests 19 = .ok (.iconst 0, 1) := by decide +kernel
theorem dX9_rests_20 : decode cX9_rests 20 = .ok (.istore 4, 2) := by decide +kernel
theorem dX9_rests_22 : decode cX9_rests 22 = .ok (.iload 4, 2) := by decide +kernel
theorem dX9_rests_24 : decode cX9_rests 24 = .ok (.iconst 4, 1) := by decide +kernel
theorem dX9_rests_25 : decode cX9_rests 25 = .ok (.if_icmp .ge 98, 3) := by decide +kernel
theorem dX9_rests_28 : decode cX9_rests 28 = .ok (.iload 4, 2) := by decide +kernel
theorem dX9_rests_30 : decode cX9_rests 30 = .ok (.iconst 2, 1) := by decide +kernel
theorem dX9_rests_31 : decode cX9_rests 31 = .ok (.irem, 1) := by decide +kernel
theorem dX9_rests_32 : decode cX9_rests 32 = .ok (.istore 5, 2) := by decide +kernel
theorem dX9_rests_34 : decode cX9_rests 34 = .ok (.iload 4, 2) := by decide +kernel
theorem dX9_rests_36 : decode cX9_rests 36 = .ok (.iconst 2, 1) := by decide +kernel
theorem dX9_rests_37 : decode cX9_rests 37 = .ok (.idiv, 1) := by decide +kernel
theorem dX9_rests_38 : decode cX9_rests 38 = .ok (.istore 6, 2) := by decide +kernel
theorem dX9_rests_40 : decode cX9_rests 40 = .ok (.aload_n 0, 1) := by decide +kernel
theorem dX9_rests_41 : decode cX9_rests 41 = .ok (.iload_n 1, 1) := by decide +kernel
theorem dX9_rests_42 : decode cX9_rests 42 = .ok (.iload_n 1, 1) := by decide +kernel
theorem dX9_rests_43 : decode cX9_rests 43 = .ok (.iload_n 2, 1) := by decide +kernel
theorem dX9_rests_44 : decode cX9_rests 44 = .ok (.iconst 1, 1) := by decide +kernel
theorem dX9_rests_45 : decode cX9_rests 45 = .ok (.iload 5, 2) := by decide +kernel
theorem dX9_rests_47 : decode cX9_rests 47 = .ok (.isub, 1) := by decide +kernel
theorem dX9_rests_48 : decode cX9_rests 48 = .ok (.iload 6, 2) := by decide +kernel
theorem dX9_rests_50 : decode cX9_rests 50 = .ok (.invokevirtual 441, 3) := by decide +kernel
theorem dX9_rests_53 : decode cX9_rests 53 = .ok (.aload_n 0, 1) := by decide +kernel
theorem dX9_rests_54 : decode cX9_rests 54 = .ok (.iload_n 1, 1) := by decide +kernel
theorem dX9_rests_55 : decode cX9_rests 55 = .ok (.iload_n 1, 1) := by decide +kernel
theorem dX9_rests_56 : decode cX9_rests 56 = .ok (.iload_n 2, 1) := by decide +kernel
theorem dX9_rests_57 : decode cX9_rests 57 = .ok (.iload 5, 2) := by decide +kernel
theorem dX9_rests_59 : decode cX9_rests 59 = .ok (.iload 6, 2) := by decide +kernel
theorem dX9_rests_61 : decode cX9_rests 61 = .ok (.invokevirtual 441, 3) := by decide +kernel
theorem dX9_rests_64 : decode cX9_rests 64 = .ok (.if_icmp .gt 34, 3) := by decide +kernel
theorem dX9_rests_67 : decode cX9_rests 67 = .ok (.aload_n 0, 1) := by decide +kernel
theorem dX9_rests_68 : decode cX9_rests 68 = .ok (.iload_n 2, 1) := by decide +kernel
theorem dX9_rests_69 : decode cX9_rests 69 = .ok (.iload_n 1, 1) := by decide +kernel
theorem dX9_rests_70 : decode cX9_rests 70 = .ok (.iload_n 2, 1) := by decide +kernel
theorem dX9_rests_71 : decode cX9_rests 71 = .ok (.iload 5, 2) := by decide +kernel
theorem dX9_rests_73 : decode cX9_rests 73 = .ok (.iconst 1, 1) := by decide +kernel
theorem dX9_rests_74 : decode cX9_rests 74 = .ok (.iload 6, 2) := by decide +kernel
theorem dX9_rests_76 : decode cX9_rests 76 = .ok (.isub, 1) := by decide +kernel
theorem dX9_rests_77 : decode cX9_rests 77 = .ok (.invokevirtual 441, 3) := by decide +kernel
theorem dX9_rests_80 : decode cX9_rests 80 = .ok (.aload_n 0, 1) := by decide +kernel
theorem dX9_rests_81 : decode cX9_rests 81 = .ok (.iload_n 2, 1) := by decide +kernel
theorem dX9_rests_82 : decode cX9_rests 82 = .ok (.iload_n 1, 1) := by decide +kernel
theorem dX9_rests_83 : decode cX9_rests 83 = .ok (.iload_n 2, 1) := by decide +kernel
theorem dX9_rests_84 : decode cX9_rests 84 = .ok (.iload 5, 2) := by decide +kernel
theorem dX9_rests_86 : decode cX9_rests 86 = .ok (.iload 6, 2) := by decide +kernel
theorem dX9_rests_88 : decode cX9_rests 88 = .ok (.invokevirtual 441, 3) := by decide +kernel
theorem dX9_rests_91 : decode cX9_rests 91 = .ok (.if_icmp .gt 7, 3) := by decide +kernel
theorem dX9_rests_94 : decode cX9_rests 94 = .ok (.iconst 1, 1) := by decide +kernel
theorem dX9_rests_95 : decode cX9_rests 95 = .ok (.goto 4, 3) := by decide +kernel
theorem dX9_rests_98 : decode cX9_rests 98 = .ok (.iconst 0, 1) := by decide +kernel
theorem dX9_rests_99 : decode cX9_rests 99 = .ok (.istore 7, 2) := by decide +kernel
theorem dX9_rests_101 : decode cX9_rests 101 = .ok (.iload_n 3, 1) := by decide +kernel
theorem dX9_rests_102 : decode cX9_rests 102 = .ok (.iload 7, 2) := by decide +kernel
theorem dX9_rests_104 : decode cX9_rests 104 = .ok (.ifCond .eq 10, 3) := by decide +kernel
theorem dX9_rests_107 : decode cX9_rests 107 = .ok (.iconst 1, 1) := by decide +kernel
theorem dX9_rests_108 : decode cX9_rests 108 = .ok (.iload 4, 2) := by decide +kernel
theorem dX9_rests_110 : decode cX9_rests 110 = .ok (.ishl, 1) := by decide +kernel
theorem dX9_rests_111 : decode cX9_rests 111 = .ok (.goto 4, 3) := by decide +kernel
theorem dX9_rests_114 : decode cX9_rests 114 = .ok (.iconst 0, 1) := by decide +kernel
theorem dX9_rests_115 : decode cX9_rests 115 = .ok (.ior, 1) := by decide +kernel
theorem dX9_rests_116 : decode cX9_rests 116 = .ok (.istore_n 3, 1) := by decide +kernel
theorem dX9_rests_117 : decode cX9_rests 117 = .ok (.iinc 4 1, 3) := by decide +kernel
theorem dX9_rests_120 : decode cX9_rests 120 = .ok (.goto (-98), 3) := by decide +kernel
theorem dX9_rests_123 : decode cX9_rests 123 = .ok (.iload_n 3, 1) := by decide +kernel
theorem dX9_rests_124 : decode cX9_rests 124 = .ok (.ireturn, 1) := by decide +kernel

theorem dX9_row_0 : decode cX9_row 0 = .ok (.aload_n 0, 1) := by decide +kernel
theorem dX9_row_1 : decode cX9_row 1 = .ok (.iconst 0, 1) := by decide +kernel
theorem dX9_row_2 : decode cX9_row 2 = .ok (.putfield 83, 3) := by decide +kernel
theorem dX9_row_5 : decode cX9_row 5 = .ok (.iload_n 1, 1) := by decide +kernel
theorem dX9_row_6 : decode cX9_row 6 = .ok (.invokestatic 92, 3) := by decide +kernel
theorem dX9_row_9 : decode cX9_row 9 = .ok (.ifCond .eq 21, 3) := by decide +kernel
theorem dX9_row_12 : decode cX9_row 12 = .ok (.iload_n 2, 1) := by decide +kernel
theorem dX9_row_13 : decode cX9_row 13 = .ok (.i2l, 1) := by decide +kernel
theorem dX9_row_14 : decode cX9_row 14 = .ok (.lconst 0, 1) := by decide +kernel
theorem dX9_row_15 : decode cX9_row 15 = .ok (.ldc2_w 86, 3) := by decide +kernel
theorem dX9_row_18 : decode cX9_row 18 = .ok (.invokestatic 88, 3) := by decide +kernel
theorem dX9_row_21 : decode cX9_row 21 = .ok (.ifCond .eq 9, 3) := by decide +kernel
theorem dX9_row_24 : decode cX9_row 24 = .ok (.iload_n 3, 1) := by decide +kernel
theorem dX9_row_25 : decode cX9_row 25 = .ok (.bipush 60, 2) := by decide +kernel
theorem dX9_row_27 : decode cX9_row 27 = .ok (.if_icmp .le 6, 3) := by decide +kernel
theorem dX9_row_30 : decode cX9_row 30 = .ok (.bipush (-2), 2) := by decide +kernel
theorem dX9_row_32 : decode cX9_row 32 = .ok (.ireturn, 1) := by decide +kernel
theorem dX9_row_33 : decode cX9_row 33 = .ok (.iload_n 3, 1) := by decide +kernel
theorem dX9_row_34 : decode cX9_row 34 = .ok (.ifCond .ge 6, 3) := by decide +kernel
theorem dX9_row_37 : decode cX9_row 37 = .ok (.bipush (-3), 2) := by decide +kernel
theorem dX9_row_39 : decode cX9_row 39 = .ok (.ireturn, 1) := by decide +kernel
theorem dX9_row_40 : decode cX9_row 40 = .ok (.aload_n 0, 1) := by decide +kernel
theorem dX9_row_41 : decode cX9_row 41 = .ok (.getfield 7, 3) := by decide +kernel
theorem dX9_row_44 : decode cX9_row 44 = .ok (.iload_n 1, 1) := by decide +kernel
theorem dX9_row_45 : decode cX9_row 45 = .ok (.iload_n 2, 1) := by decide +kernel
theorem dX9_row_46 : decode cX9_row 46 = .ok (.iastore, 1) := by decide +kernel
theorem dX9_row_47 : decode cX9_row 47 = .ok (.aload_n 0, 1) := by decide +kernel
theorem dX9_row_48 : decode cX9_row 48 = .ok (.getfield 13, 3) := by decide +kernel
theorem dX9_row_51 : decode cX9_row 51 = .ok (.iload_n 1, 1) := by decide +kernel
theorem dX9_row_52 : decode cX9_row 52 = .ok (.iload_n 3, 1) := by decide +kernel
theorem dX9_row_53 : decode cX9_row 53 = .ok (.iastore, 1) := by decide +kernel
theorem dX9_row_54 : decode cX9_row 54 = .ok (.iconst 0, 1) := by decide +kernel
theorem dX9_row_55 : decode cX9_row 55 = .ok (.istore 4, 2) := by decide +kernel
theorem dX9_row_57 : decode cX9_row 57 = .ok (.iload 4, 2) := by decide +kernel
theorem dX9_row_59 : decode cX9_row 59 = .ok (.iload_n 3, 1) := by decide +kernel
theorem dX9_row_60 : decode cX9_row 60 = .ok (.if_icmp .ge 22, 3) := by decide +kernel
theorem dX9_row_63 : decode cX9_row 63 = .ok (.aload_n 0, 1) := by decide +kernel
theorem dX9_row_64 : decode cX9_row 64 = .ok (.getfield 16, 3) := by decide +kernel
theorem dX9_row_67 : decode cX9_row 67 = .ok (.bipush 60, 2) := by decide +kernel
theorem dX9_row_69 : decode cX9_row 69 = .ok (.iload_n 1, 1) := by decide +kernel
theorem dX9_row_70 : decode cX9_row 70 = .ok (.imul, 1) := by decide +kernel
theorem dX9_row_71 : decode cX9_row 71 = .ok (.iload 4, 2) := by decide +kernel
theorem dX9_row_73 : decode cX9_row 73 = .ok (.iadd, 1) := by decide +kernel
theorem dX9_row_74 : decode cX9_row 74 = .ok (.lconst 0, 1) := by decide +kernel
theorem dX9_row_75 : decode cX9_row 75 = .ok (.lastore, 1) := by decide +kernel
theorem dX9_row_76 : decode cX9_row 76 = .ok (.iinc 4 1, 3) := by decide +kernel
theorem dX9_row_79 : decode cX9_row 79 = .ok (.goto (-22), 3) := by decide +kernel
theorem dX9_row_82 : decode cX9_row 82 = .ok (.iconst 0, 1) := by decide +kernel
theorem dX9_row_83 : decode cX9_row 83 = .ok (.ireturn, 1) := by decide +kernel

theorem dX9_rush_0 : decode cX9_rush 0 = .ok (.aload_n 0, 1) := by decide +kernel
theorem dX9_rush_1 : decode cX9_rush 1 = .ok (.iconst 0, 1) := by decide +kernel
theorem dX9_rush_2 : decode cX9_rush 2 = .ok (.putfield 83, 3) := by decide +kernel
theorem dX9_rush_5 : decode cX9_rush 5 = .ok (.aload_n 0, 1) := by decide +kernel
theorem dX9_rush_6 : decode cX9_rush 6 = .ok (.invokevirtual 248, 3) := by decide +kernel
theorem dX9_rush_9 : decode cX9_rush 9 = .ok (.ifCond .ne 6, 3) := by decide +kernel
theorem dX9_rush_12 : decode cX9_rush 12 = .ok (.bipush (-2), 2) := by decide +kernel
theorem dX9_rush_14 : decode cX9_rush 14 = .ok (.ireturn, 1) := by decide +kernel
theorem dX9_rush_15 : decode cX9_rush 15 = .ok (.aload_n 0, 1) := by decide +kernel
theorem dX9_rush_16 : decode cX9_rush 16 = .ok (.invokevirtual 330, 3) := by decide +kernel
theorem dX9_rush_19 : decode cX9_rush 19 = .ok (.iconst 0, 1) := by decide +kernel
theorem dX9_rush_20 : decode cX9_rush 20 = .ok (.istore_n 1, 1) := by decide +kernel
theorem dX9_rush_21 : decode cX9_rush 21 = .ok (.iconst 0, 1) := by decide +kernel
theorem dX9_rush_22 : decode cX9_rush 22 = .ok (.istore_n 2, 1) := by decide +kernel
theorem dX9_rush_23 : decode cX9_rush 23 = .ok (.iload_n 2, 1) := by decide +kernel
theorem dX9_rush_24 : decode cX9_rush 24 = .ok (.aload_n 0, 1) := by decide +kernel
theorem dX9_rush_25 : decode cX9_rush 25 = .ok (.invokevirtual 251, 3) := by decide +kernel
theorem dX9_rush_28 : decode cX9_rush 28 = .ok (.if_icmp .ge 22, 3) := by decide +kernel
theorem dX9_rush_31 : decode cX9_rush 31 = .ok (.iload_n 1, 1) := by decide +kernel
theorem dX9_rush_32 : decode cX9_rush 32 = .ok (.aload_n 0, 1) := by decide +kernel
theorem dX9_rush_33 : decode cX9_rush 33 = .ok (.iload_n 2, 1) := by decide +kernel
theorem dX9_rush_34 : decode cX9_rush 34 = .ok (.invokevirtual 348, 3) := by decide +kernel
theorem dX9_rush_37 : decode cX9_rush 37 = .ok (.invokestatic 295, 3) := by decide +kernel
theorem dX9_rush_40 : decode cX9_rush 40 = .ok (.invokestatic 279, 3) := by decide +kernel
theorem dX9_rush_43 : decode cX9_rush 43 = .ok (.istore_n 1, 1) := by decide +kernel
theorem dX9_rush_44 : decode cX9_rush 44 = .ok (.iinc 2 1, 3) := by decide +kernel
theorem dX9_rush_47 : decode cX9_rush 47 = .ok (.goto (-24), 3) := by decide +kernel
theorem dX9_rush_50 : decode cX9_rush 50 = .ok (.iload_n 1, 1) := by decide +kernel
theorem dX9_rush_51 : decode cX9_rush 51 = .ok (.ireturn, 1) := by decide +kernel

theorem dX9_share_0 : decode cX9_share 0 = .ok (.aload_n 0, 1) := by decide +kernel
theorem dX9_share_1 : decode cX9_share 1 = .ok (.iconst 0, 1) := by decide +kernel
theorem dX9_share_2 : decode cX9_share 2 = .ok (.putfield 83, 3) := by decide +kernel
theorem dX9_share_5 : decode cX9_share 5 = .ok (.aload_n 0, 1) := by decide +kernel
theorem dX9_share_6 : decode cX9_share 6 = .ok (.iload_n 1, 1) := by decide +kernel
theorem dX9_share_7 : decode cX9_share 7 = .ok (.i2l, 1) := by decide +kernel
theorem dX9_share_8 : decode cX9_share 8 = .ok (.invokevirtual 254, 3) := by decide +kernel
theorem dX9_share_11 : decode cX9_share 11 = .ok (.ifCond .eq 10, 3) := by decide +kernel
theorem dX9_share_14 : decode cX9_share 14 = .ok (.iload_n 2, 1) := by decide +kernel
theorem dX9_share_15 : decode cX9_share 15 = .ok (.invokestatic 364, 3) := by decide +kernel
theorem dX9_share_18 : decode cX9_share 18 = .ok (.ifCond .ne 7, 3) := by decide +kernel
theorem dX9_share_21 : decode cX9_share 21 = .ok (.ldc_w 367, 3) := by decide +kernel
theorem dX9_share_24 : decode cX9_share 24 = .ok (.ireturn, 1) := by decide +kernel
theorem dX9_share_25 : decode cX9_share 25 = .ok (.iconst 0, 1) := by decide +kernel
theorem dX9_share_26 : decode cX9_share 26 = .ok (.istore_n 3, 1) := by decide +kernel
theorem dX9_share_27 : decode cX9_share 27 = .ok (.iconst 0, 1) := by decide +kernel
theorem dX9_share_28 : decode cX9_share 28 = .ok (.istore 4, 2) := by decide +kernel
theorem dX9_share_30 : decode cX9_share 30 = .ok (.iload 4, 2) := by decide +kernel
theorem dX9_share_32 : decode cX9_share 32 = .ok (.iconst 1, 1) := by decide +kernel
theorem dX9_share_33 : decode cX9_share 33 = .ok (.aload_n 0, 1) := by decide +kernel
theorem dX9_share_34 : decode cX9_share 34 = .ok (.invokevirtual 245, 3) := by decide +kernel
theorem dX9_share_37 : decode cX9_share 37 = .ok (.ishl, 1) := by decide +kernel
theorem dX9_share_38 : decode cX9_share 38 = .ok (.if_icmp .ge 67, 3) := by decide +kernel
theorem dX9_share_41 : decode cX9_share 41 = .ok (.iload 4, 2) := by decide +kernel
theorem dX9_share_43 : decode cX9_share 43 = .ok (.iload_n 1, 1) := by decide +kernel
theorem dX9_share_44 : decode cX9_share 44 = .ok (.invokestatic 282, 3) := by decide +kernel
theorem dX9_share_47 : decode cX9_share 47 = .ok (.ifCond .eq 6, 3) := by decide +kernel
theorem dX9_share_50 : decode cX9_share 50 = .ok (.goto 49, 3) := by decide +kernel
theorem dX9_share_53 : decode cX9_share 53 = .ok (.iload 4, 2) := by decide +kernel
theorem dX9_share_55 : decode cX9_share 55 = .ok (.invokestatic 295, 3) := by decide +kernel
theorem dX9_share_58 : decode cX9_share 58 = .ok (.istore 5, 2) := by decide +kernel
theorem dX9_share_60 : decode cX9_share 60 = .ok (.iload_n 3, 1) := by decide +kernel
theorem dX9_share_61 : decode cX9_share 61 = .ok (.iload 5, 2) := by decide +kernel
theorem dX9_share_63 : decode cX9_share 63 = .ok (.invokestatic 357, 3) := by decide +kernel
theorem dX9_share_66 : decode cX9_share 66 = .ok (.aload_n 0, 1) := by decide +kernel
theorem dX9_share_67 : decode cX9_share 67 = .ok (.invokevirtual 245, 3) := by decide +kernel
theorem dX9_share_70 : decode cX9_share 70 = .ok (.iload 5, 2) := by decide +kernel
theorem dX9_share_72 : decode cX9_share 72 = .ok (.isub, 1) := by decide +kernel
theorem dX9_share_73 : decode cX9_share 73 = .ok (.iconst 1, 1) := by decide +kernel
theorem dX9_share_74 : decode cX9_share 74 = .ok (.isub, 1) := by decide +kernel
theorem dX9_share_75 : decode cX9_share 75 = .ok (.invokestatic 357, 3) := by decide +kernel
theorem dX9_share_78 : decode cX9_share 78 = .ok (.imul, 1) := by decide +kernel
theorem dX9_share_79 : decode cX9_share 79 = .ok (.aload_n 0, 1) := by decide +kernel
theorem dX9_share_80 : decode cX9_share 80 = .ok (.iload 4, 2) := by decide +kernel
theorem dX9_share_82 : decode cX9_share 82 = .ok (.iconst 1, 1) := by decide +kernel
theorem dX9_share_83 : decode cX9_share 83 = .ok (.iload_n 1, 1) := by decide +kernel
theorem dX9_share_84 : decode cX9_share 84 = .ok (.ishl, 1) := by decide +kernel
theorem dX9_share_85 : decode cX9_share 85 = .ok (.ior, 1) := by decide +kernel
theorem dX9_share_86 : decode cX9_share 86 = .ok (.invokevirtual 351, 3) := by decide +kernel
theorem dX9_share_89 : decode cX9_share 89 = .ok (.aload_n 0, 1) := by decide +kernel
theorem dX9_share_90 : decode cX9_share 90 = .ok (.iload 4, 2) := by decide +kernel
theorem dX9_share_92 : decode cX9_share 92 = .ok (.invokevirtual 351, 3) := by decide +kernel
theorem dX9_share_95 : decode cX9_share 95 = .ok (.isub, 1) := by decide +kernel
theorem dX9_share_96 : decode cX9_share 96 = .ok (.imul, 1) := by decide +kernel
theorem dX9_share_97 : decode cX9_share 97 = .ok (.iadd, 1) := by decide +kernel
theorem dX9_share_98 : decode cX9_share 98 = .ok (.istore_n 3, 1) := by decide +kernel
theorem dX9_share_99 : decode cX9_share 99 = .ok (.iinc 4 1, 3) := by decide +kernel
theorem dX9_share_102 : decode cX9_share 102 = .ok (.goto (-72), 3) := by decide +kernel
theorem dX9_share_105 : decode cX9_share 105 = .ok (.iload_n 3, 1) := by decide +kernel
theorem dX9_share_106 : decode cX9_share 106 = .ok (.i2l, 1) := by decide +kernel
theorem dX9_share_107 : decode cX9_share 107 = .ok (.aload_n 0, 1) := by decide +kernel
theorem dX9_share_108 : decode cX9_share 108 = .ok (.invokevirtual 245, 3) := by decide +kernel
theorem dX9_share_111 : decode cX9_share 111 = .ok (.invokestatic 357, 3) := by decide +kernel
theorem dX9_share_114 : decode cX9_share 114 = .ok (.i2l, 1) := by decide +kernel
theorem dX9_share_115 : decode cX9_share 115 = .ok (.iload_n 2, 1) := by decide +kernel
theorem dX9_share_116 : decode cX9_share 116 = .ok (.invokestatic 368, 3) := by decide +kernel
theorem dX9_share_119 : decode cX9_share 119 = .ok (.l2i, 1) := by decide +kernel
theorem dX9_share_120 : decode cX9_share 120 = .ok (.ireturn, 1) := by decide +kernel

theorem dX9_sharp_0 : decode cX9_sharp 0 = .ok (.aload_n 0, 1) := by decide +kernel
theorem dX9_sharp_1 : decode cX9_sharp 1 = .ok (.iconst 0, 1) := by decide +kernel
theorem dX9_sharp_2 : decode cX9_sharp 2 = .ok (.putfield 83, 3) := by decide +kernel
theorem dX9_sharp_5 : decode cX9_sharp 5 = .ok (.aload_n 0, 1) := by decide +kernel
theorem dX9_sharp_6 : decode cX9_sharp 6 = .ok (.invokevirtual 248, 3) := by decide +kernel
theorem dX9_sharp_9 : decode cX9_sharp 9 = .ok (.ifCond .ne 6, 3) := by decide +kernel
theorem dX9_sharp_12 : decode cX9_sharp 12 = .ok (.bipush (-2), 2) := by decide +kernel
theorem dX9_sharp_14 : decode cX9_sharp 14 = .ok (.ireturn, 1) := by decide +kernel
theorem dX9_sharp_15 : decode cX9_sharp 15 = .ok (.aload_n 0, 1) := by decide +kernel
theorem dX9_sharp_16 : decode cX9_sharp 16 = .ok (.invokevirtual 330, 3) := by decide +kernel
theorem dX9_sharp_19 : decode cX9_sharp 19 = .ok (.aload_n 0, 1) := by decide +kernel
theorem dX9_sharp_20 : decode cX9_sharp 20 = .ok (.getfield 285, 3) := by decide +kernel
theorem dX9_sharp_23 : decode cX9_sharp 23 = .ok (.ireturn, 1) := by decide +kernel

theorem dX9_slit_0 : decode cX9_slit 0 = .ok (.aload_n 0, 1) := by decide +kernel
theorem dX9_slit_1 : decode cX9_slit 1 = .ok (.iconst 0, 1) := by decide +kernel
theorem dX9_slit_2 : decode cX9_slit 2 = .ok (.putfield 83, 3) := by decide +kernel
theorem dX9_slit_5 : decode cX9_slit 5 = .ok (.aload_n 0, 1) := by decide +kernel
theorem dX9_slit_6 : decode cX9_slit 6 = .ok (.invokevirtual 248, 3) := by decide +kernel
theorem dX9_slit_9 : decode cX9_slit 9 = .ok (.ifCond .ne 6, 3) := by decide +kernel
theorem dX9_slit_12 : decode cX9_slit 12 = .ok (.bipush (-2), 2) := by decide +kernel
theorem dX9_slit_14 : decode cX9_slit 14 = .ok (.ireturn, 1) := by decide +kernel
theorem dX9_slit_15 : decode cX9_slit 15 = .ok (.aload_n 0, 1) := by decide +kernel
theorem dX9_slit_16 : decode cX9_slit 16 = .ok (.invokevirtual 330, 3) := by decide +kernel
theorem dX9_slit_19 : decode cX9_slit 19 = .ok (.iconst (-1), 1) := by decide +kernel
theorem dX9_slit_20 : decode cX9_slit 20 = .ok (.istore_n 1, 1) := by decide +kernel
theorem dX9_slit_21 : decode cX9_slit 21 = .ok (.aload_n 0, 1) := by decide +kernel
theorem dX9_slit_22 : decode cX9_slit 22 = .ok (.invokevirtual 339, 3) := by decide +kernel
theorem dX9_slit_25 : decode cX9_slit 25 = .ok (.istore_n 2, 1) := by decide +kernel
theorem dX9_slit_26 : decode cX9_slit 26 = .ok (.iconst 0, 1) := by decide +kernel
theorem dX9_slit_27 : decode cX9_slit 27 = .ok (.istore_n 3, 1) := by decide +kernel
theorem dX9_slit_28 : decode cX9_slit 28 = .ok (.iload_n 3, 1) := by decide +kernel
theorem dX9_slit_29 : decode cX9_slit 29 = .ok (.aload_n 0, 1) := by decide +kernel
theorem dX9_slit_30 : decode cX9_slit 30 = .ok (.getfield 34, 3) := by decide +kernel
theorem dX9_slit_33 : decode cX9_slit 33 = .ok (.iconst 4, 1) := by decide +kernel
theorem dX9_slit_34 : decode cX9_slit 34 = .ok (.iaload, 1) := by decide +kernel
theorem dX9_slit_35 : decode cX9_slit 35 = .ok (.if_icmp .ge 40, 3) := by decide +kernel
theorem dX9_slit_38 : decode cX9_slit 38 = .ok (.aload_n 0, 1) := by decide +kernel
theorem dX9_slit_39 : decode cX9_slit 39 = .ok (.invokevirtual 319, 3) := by decide +kernel
theorem dX9_slit_42 : decode cX9_slit 42 = .ok (.aload_n 0, 1) := by decide +kernel
theorem dX9_slit_43 : decode cX9_slit 43 = .ok (.iload_n 3, 1) := by decide +kernel
theorem dX9_slit_44 : decode cX9_slit 44 = .ok (.putfield 266, 3) := by decide +kernel
theorem dX9_slit_47 : decode cX9_slit 47 = .ok (.aload_n 0, 1) := by decide +kernel
theorem dX9_slit_48 : decode cX9_slit 48 = .ok (.invokevirtual 322, 3) := by decide +kernel
theorem dX9_slit_51 : decode cX9_slit 51 = .ok (.aload_n 0, 1) := by decide +kernel
theorem dX9_slit_52 : decode cX9_slit 52 = .ok (.invokevirtual 339, 3) := by decide +kernel
theorem dX9_slit_55 : decode cX9_slit 55 = .ok (.iload_n 2, 1) := by decide +kernel
theorem dX9_slit_56 : decode cX9_slit 56 = .ok (.if_icmp .gt 6, 3) := by decide +kernel
theorem dX9_slit_59 : decode cX9_slit 59 = .ok (.goto 10, 3) := by decide +kernel
theorem dX9_slit_62 : decode cX9_slit 62 = .ok (.iload_n 3, 1) := by decide +kernel
theorem dX9_slit_63 : decode cX9_slit 63 = .ok (.istore_n 1, 1) := by decide +kernel
theorem dX9_slit_64 : decode cX9_slit 64 = .ok (.aload_n 0, 1) := by decide +kernel
theorem dX9_slit_65 : decode cX9_slit 65 = .ok (.invokevirtual 339, 3) := by decide +kernel
theorem dX9_slit_68 : decode cX9_slit 68 = .ok (.istore_n 2, 1) := by decide +kernel
theorem dX9_slit_69 : decode cX9_slit 69 = .ok (.iinc 3 1, 3) := by decide +kernel
theorem dX9_slit_72 : decode cX9_slit 72 = .ok (.goto (-44), 3) := by decide +kernel
theorem dX9_slit_75 : decode cX9_slit 75 = .ok (.iload_n 1, 1) := by decide +kernel
theorem dX9_slit_76 : decode cX9_slit 76 = .ok (.ireturn, 1) := by decide +kernel

theorem dX9_stalest_0 : decode cX9_stalest 0 = .ok (.aload_n 0, 1) := by decide +kernel
theorem dX9_stalest_1 : decode cX9_stalest 1 = .ok (.iconst 0, 1) := by decide +kernel
theorem dX9_stalest_2 : decode cX9_stalest 2 = .ok (.putfield 83, 3) := by decide +kernel
theorem dX9_stalest_5 : decode cX9_stalest 5 = .ok (.aload_n 0, 1) := by decide +kernel
theorem dX9_stalest_6 : decode cX9_stalest 6 = .ok (.iload_n 1, 1) := by decide +kernel
theorem dX9_stalest_7 : decode cX9_stalest 7 = .ok (.i2l, 1) := by decide +kernel
theorem dX9_stalest_8 : decode cX9_stalest 8 = .ok (.invokevirtual 257, 3) := by decide +kernel
theorem dX9_stalest_11 : decode cX9_stalest 11 = .ok (.ifCond .ne 6, 3) := by decide +kernel
theorem dX9_stalest_14 : decode cX9_stalest 14 = .ok (.bipush (-2), 2) := by decide +kernel
theorem dX9_stalest_16 : decode cX9_stalest 16 = .ok (.ireturn, 1) := by decide +kernel
theorem dX9_stalest_17 : decode cX9_stalest 17 = .ok (.aload_n 0, 1) := by decide +kernel
theorem dX9_stalest_18 : decode cX9_stalest 18 = .ok (.invokevirtual 330, 3) := by decide +kernel
theorem dX9_stalest_21 : decode cX9_stalest 21 = .ok (.iconst (-1), 1) := by decide +kernel
theorem dX9_stalest_22 : decode cX9_stalest 22 = .ok (.istore_n 2, 1) := by decide +kernel
theorem dX9_stalest_23 : decode cX9_stalest 23 = .ok (.iconst 0, 1) := by decide +kernel
theorem dX9_stalest_24 : decode cX9_stalest 24 = .ok (.istore_n 3, 1) := by decide +kernel
theorem dX9_stalest_25 : decode cX9_stalest 25 = .ok (.iload_n 3, 1) := by decide +kernel
theorem dX9_stalest_26 : decode cX9_stalest 26 = .ok (.aload_n 0, 1) := by decide +kernel
theorem dX9_stalest_27 : decode cX9_stalest 27 = .ok (.invokevirtual 245, 3) := by decide +kernel
theorem dX9_stalest_30 : decode cX9_stalest 30 = .ok (.if_icmp .ge 44, 3) := by decide +kernel
theorem dX9_stalest_33 : decode cX9_stalest 33 = .ok (.aload_n 0, 1) := by decide +kernel
theorem dX9_stalest_34 : decode cX9_stalest 34 = .ok (.getfield 62, 3) := by decide +kernel
theorem dX9_stalest_37 : decode cX9_stalest 37 = .ok (.iload_n 1, 1) := by decide +kernel
theorem dX9_stalest_38 : decode cX9_stalest 38 = .ok (.iaload, 1) := by decide +kernel
theorem dX9_stalest_39 : decode cX9_stalest 39 = .ok (.iload_n 3, 1) := by decide +kernel
theorem dX9_stalest_40 : decode cX9_stalest 40 = .ok (.invokestatic 282, 3) := by decide +kernel
theorem dX9_stalest_43 : decode cX9_stalest 43 = .ok (.ifCond .ne 25, 3) := by decide +kernel
theorem dX9_stalest_46 : decode cX9_stalest 46 = .ok (.iload_n 2, 1) := by decide +kernel
theorem dX9_stalest_47 : decode cX9_stalest 47 = .ok (.iconst (-1), 1) := by decide +kernel
theorem dX9_stalest_48 : decode cX9_stalest 48 = .ok (.if_icmp .eq 18, 3) := by decide +kernel
theorem dX9_stalest_51 : decode cX9_stalest 51 = .ok (.aload_n 0, 1) := by decide +kernel
theorem dX9_stalest_52 : decode cX9_stalest 52 = .ok (.iload_n 3, 1) := by decide +kernel
theorem dX9_stalest_53 : decode cX9_stalest 53 = .ok (.iload_n 1, 1) := by decide +kernel
theorem dX9_stalest_54 : decode cX9_stalest 54 = .ok (.invokevirtual 301, 3) := by decide +kernel
theorem dX9_stalest_57 : decode cX9_stalest 57 = .ok (.aload_n 0, 1) := by decide +kernel
theorem dX9_stalest_58 : decode cX9_stalest 58 = .ok (.iload_n 2, 1) := by decide +kernel
theorem dX9_stalest_59 : decode cX9_stalest 59 = .ok (.iload_n 1, 1) := by decide +kernel
theorem dX9_stalest_60 : decode cX9_stalest 60 = .ok (.invokevirtual 301, 3) := by decide +kernel
theorem dX9_stalest_63 : decode cX9_stalest 63 = .ok (.if_icmp .le 5, 3) := by decide +kernel
theorem dX9_stalest_66 : decode cX9_stalest 66 = .ok (.iload_n 3, 1) := by decide +kernel
theorem dX9_stalest_67 : decode cX9_stalest 67 = .ok (.istore_n 2, 1) := by decide +kernel
theorem dX9_stalest_68 : decode cX9_stalest 68 = .ok (.iinc 3 1, 3) := by decide +kernel
theorem dX9_stalest_71 : decode cX9_stalest 71 = .ok (.goto (-46), 3) := by decide +kernel
theorem dX9_stalest_74 : decode cX9_stalest 74 = .ok (.iload_n 2, 1) := by decide +kernel
theorem dX9_stalest_75 : decode cX9_stalest 75 = .ok (.ireturn, 1) := by decide +kernel

theorem dX9_stiff_0 : decode cX9_stiff 0 = .ok (.aload_n 0, 1) := by decide +kernel
theorem dX9_stiff_1 : decode cX9_stiff 1 = .ok (.iconst 0, 1) := by decide +kernel
theorem dX9_stiff_2 : decode cX9_stiff 2 = .ok (.putfield 83, 3) := by decide +kernel
theorem dX9_stiff_5 : decode cX9_stiff 5 = .ok (.aload_n 0, 1) := by decide +kernel
theorem dX9_stiff_6 : decode cX9_stiff 6 = .ok (.iload_n 1, 1) := by decide +kernel
theorem dX9_stiff_7 : decode cX9_stiff 7 = .ok (.iload_n 2, 1) := by decide +kernel
theorem dX9_stiff_8 : decode cX9_stiff 8 = .ok (.invokevirtual 327, 3) := by decide +kernel
theorem dX9_stiff_11 : decode cX9_stiff 11 = .ok (.ifCond .ne 6, 3) := by decide +kernel
theorem dX9_stiff_14 : decode cX9_stiff 14 = .ok (.bipush (-2), 2) := by decide +kernel
theorem dX9_stiff_16 : decode cX9_stiff 16 = .ok (.ireturn, 1) := by decide +kernel
theorem dX9_stiff_17 : decode cX9_stiff 17 = .ok (.aload_n 0, 1) := by decide +kernel
theorem dX9_stiff_18 : decode cX9_stiff 18 = .ok (.invokevirtual 330, 3) := by decide +kernel
theorem dX9_stiff_21 : decode cX9_stiff 21 = .ok (.aload_n 0, 1) := by decide +kernel
theorem dX9_stiff_22 : decode cX9_stiff 22 = .ok (.iload_n 1, 1) := by decide +kernel
theorem dX9_stiff_23 : decode cX9_stiff 23 = .ok (.iload_n 2, 1) := by decide +kernel
theorem dX9_stiff_24 : decode cX9_stiff 24 = .ok (.invokevirtual 301, 3) := by decide +kernel
theorem dX9_stiff_27 : decode cX9_stiff 27 = .ok (.ireturn, 1) := by decide +kernel

theorem dX9_stiffs_0 : decode cX9_stiffs 0 = .ok (.aload_n 0, 1) := by decide +kernel
theorem dX9_stiffs_1 : decode cX9_stiffs 1 = .ok (.iconst 0, 1) := by decide +kernel
theorem dX9_stiffs_2 : decode cX9_stiffs 2 = .ok (.putfield 83, 3) := by decide +kernel
theorem dX9_stiffs_5 : decode cX9_stiffs 5 = .ok (.aload_n 0, 1) := by decide +kernel
theorem dX9_stiffs_6 : decode cX9_stiffs 6 = .ok (.iload_n 1, 1) := by decide +kernel
theorem dX9_stiffs_7 : decode cX9_stiffs 7 = .ok (.aload_n 0, 1) := by decide +kernel
theorem dX9_stiffs_8 : decode cX9_stiffs 8 = .ok (.iload_n 2, 1) := by decide +kernel
theorem dX9_stiffs_9 : decode cX9_stiffs 9 = .ok (.i2l, 1) := by decide +kernel
theorem dX9_stiffs_10 : decode cX9_stiffs 10 = .ok (.invokevirtual 254, 3) := by decide +kernel
theorem dX9_stiffs_13 : decode cX9_stiffs 13 = .ok (.invokevirtual 410, 3) := by decide +kernel
theorem dX9_stiffs_16 : decode cX9_stiffs 16 = .ok (.istore_n 3, 1) := by decide +kernel
theorem dX9_stiffs_17 : decode cX9_stiffs 17 = .ok (.iload_n 3, 1) := by decide +kernel
theorem dX9_stiffs_18 : decode cX9_stiffs 18 = .ok (.ifCond .eq 5, 3) := by decide +kernel
theorem dX9_stiffs_21 : decode cX9_stiffs 21 = .ok (.iload_n 3, 1) := by decide +kernel
theorem dX9_stiffs_22 : decode cX9_stiffs 22 = .ok (.ireturn, 1) := by decide +kernel
theorem dX9_stiffs_23 : decode cX9_stiffs 23 = .ok (.aload_n 0, 1) := by decide +kernel
theorem dX9_stiffs_24 : decode cX9_stiffs 24 = .ok (.iload_n 1, 1) := by decide +kernel
theorem dX9_stiffs_25 : decode cX9_stiffs 25 = .ok (.iload_n 2, 1) := by decide +kernel
theorem dX9_stiffs_26 : decode cX9_stiffs 26 = .ok (.invokevirtual 414, 3) := by decide +kernel
theorem dX9_stiffs_29 : decode cX9_stiffs 29 = .ok (.aload_n 0, 1) := by decide +kernel
theorem dX9_stiffs_30 : decode cX9_stiffs 30 = .ok (.getfield 392, 3) := by decide +kernel
theorem dX9_stiffs_33 : decode cX9_stiffs 33 = .ok (.ireturn, 1) := by decide +kernel

theorem dX9_tale_0 : decode cX9_tale 0 = .ok (.aload_n 0, 1) := by decide +kernel
theorem dX9_tale_1 : decode cX9_tale 1 = .ok (.iconst 0, 1) := by decide +kernel
theorem dX9_tale_2 : decode cX9_tale 2 = .ok (.putfield 83, 3) := by decide +kernel
theorem dX9_tale_5 : decode cX9_tale 5 = .ok (.aload_n 0, 1) := by decide +kernel
theorem dX9_tale_6 : decode cX9_tale 6 = .ok (.invokevirtual 211, 3) := by decide +kernel
theorem dX9_tale_9 : decode cX9_tale 9 = .ok (.aload_n 0, 1) := by decide +kernel
theorem dX9_tale_10 : decode cX9_tale 10 = .ok (.invokevirtual 214, 3) := by decide +kernel
theorem dX9_tale_13 : decode cX9_tale 13 = .ok (.aload_n 0, 1) := by decide +kernel
theorem dX9_tale_14 : decode cX9_tale 14 = .ok (.invokevirtual 217, 3) := by decide +kernel
theorem dX9_tale_17 : decode cX9_tale 17 = .ok (.ifCond .eq 101, 3) := by decide +kernel
theorem dX9_tale_20 : decode cX9_tale 20 = .ok (.aload_n 0, 1) := by decide +kernel
theorem dX9_tale_21 : decode cX9_tale 21 = .ok (.getfield 124, 3) := by decide +kernel
theorem dX9_tale_24 : decode cX9_tale 24 = .ok (.ifCond .eq 94, 3) := by decide +kernel
theorem dX9_tale_27 : decode cX9_tale 27 = .ok (.aload_n 0, 1) := by decide +kernel
theorem dX9_tale_28 : decode cX9_tale 28 = .ok (.getfield 31, 3) := by decide +kernel
theorem dX9_tale_31 : decode cX9_tale 31 = .ok (.iconst 4, 1) := by decide +kernel
theorem dX9_tale_32 : decode cX9_tale 32 = .ok (.iaload, 1) := by decide +kernel
theorem dX9_tale_33 : decode cX9_tale 33 = .ok (.ifCond .ne 57, 3) := by decide +kernel
theorem dX9_tale_36 : decode cX9_tale 36 = .ok (.aload_n 0, 1) := by decide +kernel
theorem dX9_tale_37 : decode cX9_tale 37 = .ok (.ldc2_w 221, 3) := by decide +kernel
theorem dX9_tale_40 : decode cX9_tale 40 = .ok (.invokevirtual 154, 3) := by decide +kernel
theorem dX9_tale_43 : decode cX9_tale 43 = .ok (.aload_n 0, 1) := by decide +kernel
theorem dX9_tale_44 : decode cX9_tale 44 = .ok (.iconst 0, 1) := by decide +kernel
theorem dX9_tale_45 : decode cX9_tale 45 = .ok (.aload_n 0, 1) := by decide +kernel
theorem dX9_tale_46 : decode cX9_tale 46 = .ok (.ldc2_w 223, 3) := by decide +kernel
theorem dX9_tale_49 : decode cX9_tale 49 = .ok (.iconst 1, 1) := by decide +kernel
theorem dX9_tale_50 : decode cX9_tale 50 = .ok (.bipush 12, 2) := by decide +kernel
theorem dX9_tale_52 : decode cX9_tale 52 = .ok (.invokevirtual 171, 3) := by decide +kernel
theorem dX9_tale_55 : decode cX9_tale 55 = .ok (.invokevirtual 178, 3) := by decide +kernel
theorem dX9_tale_58 : decode cX9_tale 58 = .ok (.aload_n 0, 1) := by decide +kernel
theorem dX9_tale_59 : decode cX9_tale 59 = .ok (.iconst 1, 1) := by decide +kernel
theorem dX9_tale_60 : decode cX9_tale 60 = .ok (.aload_n 0, 1) := by decide +kernel
theorem dX9_tale_61 : decode cX9_tale 61 = .ok (.ldc2_w 225, 3) := by decide +kernel
theorem dX9_tale_64 : decode cX9_tale 64 = .ok (.iconst 0, 1) := by decide +kernel
theorem dX9_tale_65 : decode cX9_tale 65 = .ok (.iconst 3, 1) := by decide +kernel
theorem dX9_tale_66 : decode cX9_tale 66 = .ok (.invokevirtual 171, 3) := by decide +kernel
theorem dX9_tale_69 : decode cX9_tale 69 = .ok (.invokevirtual 178, 3) := by decide +kernel
theorem dX9_tale_72 : decode cX9_tale 72 = .ok (.aload_n 0, 1) := by decide +kernel
theorem dX9_tale_73 : decode cX9_tale 73 = .ok (.iconst 2, 1) := by decide +kernel
theorem dX9_tale_74 : decode cX9_tale 74 = .ok (.aload_n 0, 1) := by decide +kernel
theorem dX9_tale_75 : decode cX9_tale 75 = .ok (.ldc2_w 227, 3) := by decide +kernel
theorem dX9_tale_78 : decode cX9_tale 78 = .ok (.iconst 0, 1) := by decide +kernel
theorem dX9_tale_79 : decode cX9_tale 79 = .ok (.bipush 10, 2) := by decide +kernel
theorem dX9_tale_81 : decode cX9_tale 81 = .ok (.invokevirtual 171, 3) := by decide +kernel
theorem dX9_tale_84 : decode cX9_tale 84 = .ok (.invokevirtual 178, 3) := by decide +kernel
theorem dX9_tale_87 : decode cX9_tale 87 = .ok (.goto 7, 3) := by decide +kernel
theorem dX9_tale_90 : decode cX9_tale 90 = .ok (.aload_n 0, 1) := by decide +kernel
theorem dX9_tale_91 : decode cX9_tale 91 = .ok (.invokevirtual 229, 3) := by decide +kernel
theorem dX9_tale_94 : decode cX9_tale 94 = .ok (.aload_n 0, 1) := by decide +kernel
theorem dX9_tale_95 : decode cX9_tale 95 = .ok (.invokevirtual 217, 3) := by decide +kernel
theorem dX9_tale_98 : decode cX9_tale 98 = .ok (.ifCond .eq 7, 3) := by decide +kernel
theorem dX9_tale_101 : decode cX9_tale 101 = .ok (.aload_n 0, 1) := by decide +kernel
theorem dX9_tale_102 : decode cX9_tale 102 = .ok (.invokevirtual 232, 3) := by decide +kernel
theorem dX9_tale_105 : decode cX9_tale 105 = .ok (.aload_n 0, 1) := by decide +kernel
theorem dX9_tale_106 : decode cX9_tale 106 = .ok (.getfield 31, 3) := by decide +kernel
theorem dX9_tale_109 : decode cX9_tale 109 = .ok (.iconst 4, 1) := by decide +kernel
theorem dX9_tale_110 : decode cX9_tale 110 = .ok (.dup2, 1) := by decide +kernel
theorem dX9_tale_111 : decode cX9_tale 111 = .ok (.iaload, 1) := by decide +kernel
theorem dX9_tale_112 : decode cX9_tale 112 = .ok (.iconst 1, 1) := by decide +kernel
theorem dX9_tale_113 : decode cX9_tale 113 = .ok (.iadd, 1) := by decide +kernel
theorem dX9_tale_114 : decode cX9_tale 114 = .ok (.iastore, 1) := by decide +kernel
theorem dX9_tale_115 : decode cX9_tale 115 = .ok (.goto (-102), 3) := by decide +kernel
theorem dX9_tale_118 : decode cX9_tale 118 = .ok (.aload_n 0, 1) := by decide +kernel
theorem dX9_tale_119 : decode cX9_tale 119 = .ok (.invokevirtual 235, 3) := by decide +kernel
theorem dX9_tale_122 : decode cX9_tale 122 = .ok (.aload_n 0, 1) := by decide +kernel
theorem dX9_tale_123 : decode cX9_tale 123 = .ok (.getfield 135, 3) := by decide +kernel
theorem dX9_tale_126 : decode cX9_tale 126 = .ok (.ifCond .eq 6, 3) := by decide +kernel
theorem dX9_tale_129 : decode cX9_tale 129 = .ok (.bipush (-4), 2) := by decide +kernel
theorem dX9_tale_131 : decode cX9_tale 131 = .ok (.ireturn, 1) := by decide +kernel
theorem dX9_tale_132 : decode cX9_tale 132 = .ok (.aload_n 0, 1) := by decide +kernel
theorem dX9_tale_133 : decode cX9_tale 133 = .ok (.iconst 4, 1) := by decide +kernel
theorem dX9_tale_134 : decode cX9_tale 134 = .ok (.iconst 0, 1) := by decide +kernel
theorem dX9_tale_135 : decode cX9_tale 135 = .ok (.invokevirtual 238, 3) := by decide +kernel
theorem dX9_tale_138 : decode cX9_tale 138 = .ok (.aload_n 0, 1) := by decide +kernel
theorem dX9_tale_139 : decode cX9_tale 139 = .ok (.getfield 31, 3) := by decide +kernel
theorem dX9_tale_142 : decode cX9_tale 142 = .ok (.iconst 0, 1) := by decide +kernel
theorem dX9_tale_143 : decode cX9_tale 143 = .ok (.iaload, 1) := by decide +kernel
theorem dX9_tale_144 : decode cX9_tale 144 = .ok (.ireturn, 1) := by decide +kernel

theorem dX9_tellsOf_0 : decode cX9_tellsOf 0 = .ok (.aload_n 0, 1) := by decide +kernel
theorem dX9_tellsOf_1 : decode cX9_tellsOf 1 = .ok (.getfield 34, 3) := by decide +kernel
theorem dX9_tellsOf_4 : decode cX9_tellsOf 4 = .ok (.bipush 28, 2) := by decide +kernel
theorem dX9_tellsOf_6 : decode cX9_tellsOf 6 = .ok (.iload_n 1, 1) := by decide +kernel
theorem dX9_tellsOf_7 : decode cX9_tellsOf 7 = .ok (.iadd, 1) := by decide +kernel
theorem dX9_tellsOf_8 : decode cX9_tellsOf 8 = .ok (.iload_n 2, 1) := by decide +kernel
theorem dX9_tellsOf_9 : decode cX9_tellsOf 9 = .ok (.iastore, 1) := by decide +kernel
theorem dX9_tellsOf_10 : decode cX9_tellsOf 10 = .ok (.return_, 1) := by decide +kernel

theorem dX9_uncle_0 : decode cX9_uncle 0 = .ok (.aload_n 0, 1) := by decide +kernel
theorem dX9_uncle_1 : decode cX9_uncle 1 = .ok (.iconst 0, 1) := by decide +kernel
theorem dX9_uncle_2 : decode cX9_uncle 2 = .ok (.putfield 83, 3) := by decide +kernel
theorem dX9_uncle_5 : decode cX9_uncle 5 = .ok (.aload_n 0, 1) := by decide +kernel
theorem dX9_uncle_6 : decode cX9_uncle 6 = .ok (.invokevirtual 435, 3) := by decide +kernel
theorem dX9_uncle_9 : decode cX9_uncle 9 = .ok (.aload_n 0, 1) := by decide +kernel
theorem dX9_uncle_10 : decode cX9_uncle 10 = .ok (.getfield 429, 3) := by decide +kernel
theorem dX9_uncle_13 : decode cX9_uncle 13 = .ok (.ireturn, 1) := by decide +kernel

theorem dX9_uncut_0 : decode cX9_uncut 0 = .ok (.aload_n 0, 1) := by decide +kernel
theorem dX9_uncut_1 : decode cX9_uncut 1 = .ok (.iconst 0, 1) := by decide +kernel
theorem dX9_uncut_2 : decode cX9_uncut 2 = .ok (.putfield 83, 3) := by decide +kernel
theorem dX9_uncut_5 : decode cX9_uncut 5 = .ok (.aload_n 0, 1) := by decide +kernel
theorem dX9_uncut_6 : decode cX9_uncut 6 = .ok (.invokevirtual 248, 3) := by decide +kernel
theorem dX9_uncut_9 : decode cX9_uncut 9 = .ok (.ifCond .ne 6, 3) := by decide +kernel
theorem dX9_uncut_12 : decode cX9_uncut 12 = .ok (.bipush (-2), 2) := by decide +kernel
theorem dX9_uncut_14 : decode cX9_uncut 14 = .ok (.ireturn, 1) := by decide +kernel
theorem dX9_uncut_15 : decode cX9_uncut 15 = .ok (.aload_n 0, 1) := by decide +kernel
theorem dX9_uncut_16 : decode cX9_uncut 16 = .ok (.invokevirtual 330, 3) := by decide +kernel
theorem dX9_uncut_19 : decode cX9_uncut 19 = .ok (.aload_n 0, 1) := by decide +kernel
theorem dX9_uncut_20 : decode cX9_uncut 20 = .ok (.invokevirtual 345, 3) := by decide +kernel
theorem dX9_uncut_23 : decode cX9_uncut 23 = .ok (.aload_n 0, 1) := by decide +kernel
theorem dX9_uncut_24 : decode cX9_uncut 24 = .ok (.getfield 62, 3) := by decide +kernel
theorem dX9_uncut_27 : decode cX9_uncut 27 = .ok (.aload_n 0, 1) := by decide +kernel
theorem dX9_uncut_28 : decode cX9_uncut 28 = .ok (.invokevirtual 251, 3) := by decide +kernel
theorem dX9_uncut_31 : decode cX9_uncut 31 = .ok (.iaload, 1) := by decide +kernel
theorem dX9_uncut_32 : decode cX9_uncut 32 = .ok (.iconst (-1), 1) := by decide +kernel
theorem dX9_uncut_33 : decode cX9_uncut 33 = .ok (.ixor, 1) := by decide +kernel
theorem dX9_uncut_34 : decode cX9_uncut 34 = .ok (.iand, 1) := by decide +kernel
theorem dX9_uncut_35 : decode cX9_uncut 35 = .ok (.ireturn, 1) := by decide +kernel

theorem dX9_undo_0 : decode cX9_undo 0 = .ok (.aload_n 0, 1) := by decide +kernel
theorem dX9_undo_1 : decode cX9_undo 1 = .ok (.iconst 0, 1) := by decide +kernel
theorem dX9_undo_2 : decode cX9_undo 2 = .ok (.putfield 83, 3) := by decide +kernel
theorem dX9_undo_5 : decode cX9_undo 5 = .ok (.aload_n 0, 1) := by decide +kernel
theorem dX9_undo_6 : decode cX9_undo 6 = .ok (.invokevirtual 248, 3) := by decide +kernel
theorem dX9_undo_9 : decode cX9_undo 9 = .ok (.ifCond .ne 6, 3) := by decide +kernel
theorem dX9_undo_12 : decode cX9_undo 12 = .ok (.bipush (-2), 2) := by decide +kernel
theorem dX9_undo_14 : decode cX9_undo 14 = .ok (.ireturn, 1) := by decide +kernel
theorem dX9_undo_15 : decode cX9_undo 15 = .ok (.aload_n 0, 1) := by decide +kernel
theorem dX9_undo_16 : decode cX9_undo 16 = .ok (.getfield 34, 3) := by decide +kernel
theorem dX9_undo_19 : decode cX9_undo 19 = .ok (.bipush 6, 2) := by decide +kernel
theorem dX9_undo_21 : decode cX9_undo 21 = .ok (.iaload, 1) := by decide +kernel
theorem dX9_undo_22 : decode cX9_undo 22 = .ok (.ifCond .ne 6, 3) := by decide +kernel
theorem dX9_undo_25 : decode cX9_undo 25 = .ok (.bipush (-5), 2) := by decide +kernel
theorem dX9_undo_27 : decode cX9_undo 27 = .ok (.ireturn, 1) := by decide +kernel
theorem dX9_undo_28 : decode cX9_undo 28 = .ok (.aload_n 0, 1) := by decide +kernel
theorem dX9_undo_29 : decode cX9_undo 29 = .ok (.getfield 34, 3) := by decide +kernel
theorem dX9_undo_32 : decode cX9_undo 32 = .ok (.bipush 6, 2) := by decide +kernel
theorem dX9_undo_34 : decode cX9_undo 34 = .ok (.dup2, 1) := by decide +kernel
theorem dX9_undo_35 : decode cX9_undo 35 = .ok (.iaload, 1) := by decide +kernel
theorem dX9_undo_36 : decode cX9_undo 36 = .ok (.iconst 1, 1) := by decide +kernel
theorem dX9_undo_37 : decode cX9_undo 37 = .ok (.isub, 1) := by decide +kernel
theorem dX9_undo_38 : decode cX9_undo 38 = .ok (.iastore, 1) := by decide +kernel
theorem dX9_undo_39 : decode cX9_undo 39 = .ok (.aload_n 0, 1) := by decide +kernel
theorem dX9_undo_40 : decode cX9_undo 40 = .ok (.getfield 34, 3) := by decide +kernel
theorem dX9_undo_43 : decode cX9_undo 43 = .ok (.bipush 6, 2) := by decide +kernel
theorem dX9_undo_45 : decode cX9_undo 45 = .ok (.iaload, 1) := by decide +kernel
theorem dX9_undo_46 : decode cX9_undo 46 = .ok (.ireturn, 1) := by decide +kernel

theorem dX9_waits_0 : decode cX9_waits 0 = .ok (.aload_n 0, 1) := by decide +kernel
theorem dX9_waits_1 : decode cX9_waits 1 = .ok (.iconst 0, 1) := by decide +kernel
theorem dX9_waits_2 : decode cX9_waits 2 = .ok (.putfield 83, 3) := by decide +kernel
theorem dX9_waits_5 : decode cX9_waits 5 = .ok (.aload_n 0, 1) := by decide +kernel
theorem dX9_waits_6 : decode cX9_waits 6 = .ok (.iload_n 1, 1) := by decide +kernel
theorem dX9_waits_7 : decode cX9_waits 7 = .ok (.i2l, 1) := by decide +kernel
theorem dX9_waits_8 : decode cX9_waits 8 = .ok (.invokevirtual 257, 3) := by decide +kernel
theorem dX9_waits_11 : decode cX9_waits 11 = .ok (.ifCond .ne 6, 3) := by decide +kernel
theorem dX9_waits_14 : decode cX9_waits 14 = .ok (.bipush (-2), 2) := by decide +kernel
theorem dX9_waits_16 : decode cX9_waits 16 = .ok (.ireturn, 1) := by decide +kernel
theorem dX9_waits_17 : decode cX9_waits 17 = .ok (.aload_n 0, 1) := by decide +kernel
theorem dX9_waits_18 : decode cX9_waits 18 = .ok (.invokevirtual 330, 3) := by decide +kernel
theorem dX9_waits_21 : decode cX9_waits 21 = .ok (.iconst 0, 1) := by decide +kernel
theorem dX9_waits_22 : decode cX9_waits 22 = .ok (.istore_n 2, 1) := by decide +kernel
theorem dX9_waits_23 : decode cX9_waits 23 = .ok (.iconst 0, 1) := by decide +kernel
theorem dX9_waits_24 : decode cX9_waits 24 = .ok (.istore_n 3, 1) := by decide +kernel
theorem dX9_waits_25 : decode cX9_waits 25 = .ok (.iload_n 3, 1) := by decide +kernel
theorem dX9_waits_26 : decode cX9_waits 26 = .ok (.aload_n 0, 1) := by decide +kernel
theorem dX9_waits_27 : decode cX9_waits 27 = .ok (.invokevirtual 245, 3) := by decide +kernel
theorem dX9_waits_30 : decode cX9_waits 30 = .ok (.if_icmp .ge 22, 3) := by decide +kernel
theorem dX9_waits_33 : decode cX9_waits 33 = .ok (.iload_n 2, 1) := by decide +kernel
theorem dX9_waits_34 : decode cX9_waits 34 = .ok (.iconst 0, 1) := by decide +kernel
theorem dX9_waits_35 : decode cX9_waits 35 = .ok (.aload_n 0, 1) := by decide +kernel
theorem dX9_waits_36 : decode cX9_waits 36 = .ok (.iload_n 3, 1) := by decide +kernel
theorem dX9_waits_37 : decode cX9_waits 37 = .ok (.iload_n 1, 1) := by decide +kernel
theorem dX9_waits_38 : decode cX9_waits 38 = .ok (.invokevirtual 342, 3) := by decide +kernel
theorem dX9_waits_41 : decode cX9_waits 41 = .ok (.invokestatic 279, 3) := by decide +kernel
theorem dX9_waits_44 : decode cX9_waits 44 = .ok (.iadd, 1) := by decide +kernel
theorem dX9_waits_45 : decode cX9_waits 45 = .ok (.istore_n 2, 1) := by decide +kernel
theorem dX9_waits_46 : decode cX9_waits 46 = .ok (.iinc 3 1, 3) := by decide +kernel
theorem dX9_waits_49 : decode cX9_waits 49 = .ok (.goto (-24), 3) := by decide +kernel
theorem dX9_waits_52 : decode cX9_waits 52 = .ok (.iload_n 2, 1) := by decide +kernel
theorem dX9_waits_53 : decode cX9_waits 53 = .ok (.ireturn, 1) := by decide +kernel

theorem dX9_when_0 : decode cX9_when 0 = .ok (.aload_n 0, 1) := by decide +kernel
theorem dX9_when_1 : decode cX9_when 1 = .ok (.iconst 0, 1) := by decide +kernel
theorem dX9_when_2 : decode cX9_when 2 = .ok (.putfield 83, 3) := by decide +kernel
theorem dX9_when_5 : decode cX9_when 5 = .ok (.aload_n 0, 1) := by decide +kernel
theorem dX9_when_6 : decode cX9_when 6 = .ok (.iload_n 1, 1) := by decide +kernel
theorem dX9_when_7 : decode cX9_when 7 = .ok (.i2l, 1) := by decide +kernel
theorem dX9_when_8 : decode cX9_when 8 = .ok (.invokevirtual 254, 3) := by decide +kernel
theorem dX9_when_11 : decode cX9_when 11 = .ok (.ifCond .ne 6, 3) := by decide +kernel
theorem dX9_when_14 : decode cX9_when 14 = .ok (.bipush (-2), 2) := by decide +kernel
theorem dX9_when_16 : decode cX9_when 16 = .ok (.ireturn, 1) := by decide +kernel
theorem dX9_when_17 : decode cX9_when 17 = .ok (.aload_n 0, 1) := by decide +kernel
theorem dX9_when_18 : decode cX9_when 18 = .ok (.invokevirtual 330, 3) := by decide +kernel
theorem dX9_when_21 : decode cX9_when 21 = .ok (.aload_n 0, 1) := by decide +kernel
theorem dX9_when_22 : decode cX9_when 22 = .ok (.getfield 65, 3) := by decide +kernel
theorem dX9_when_25 : decode cX9_when 25 = .ok (.iload_n 1, 1) := by decide +kernel
theorem dX9_when_26 : decode cX9_when 26 = .ok (.iaload, 1) := by decide +kernel
theorem dX9_when_27 : decode cX9_when 27 = .ok (.ireturn, 1) := by decide +kernel

theorem dX9_whyNot_0 : decode cX9_whyNot 0 = .ok (.iload_n 1, 1) := by decide +kernel
theorem dX9_whyNot_1 : decode cX9_whyNot 1 = .ok (.invokestatic 92, 3) := by decide +kernel
theorem dX9_whyNot_4 : decode cX9_whyNot 4 = .ok (.ifCond .eq 14, 3) := by decide +kernel
theorem dX9_whyNot_7 : decode cX9_whyNot 7 = .ok (.aload_n 0, 1) := by decide +kernel
theorem dX9_whyNot_8 : decode cX9_whyNot 8 = .ok (.invokevirtual 248, 3) := by decide +kernel
theorem dX9_whyNot_11 : decode cX9_whyNot 11 = .ok (.ifCond .eq 7, 3) := by decide +kernel
theorem dX9_whyNot_14 : decode cX9_whyNot 14 = .ok (.iload_n 2, 1) := by decide +kernel
theorem dX9_whyNot_15 : decode cX9_whyNot 15 = .ok (.ifCond .ne 6, 3) := by decide +kernel
theorem dX9_whyNot_18 : decode cX9_whyNot 18 = .ok (.bipush (-2), 2) := by decide +kernel
theorem dX9_whyNot_20 : decode cX9_whyNot 20 = .ok (.ireturn, 1) := by decide +kernel
theorem dX9_whyNot_21 : decode cX9_whyNot 21 = .ok (.aload_n 0, 1) := by decide +kernel
theorem dX9_whyNot_22 : decode cX9_whyNot 22 = .ok (.getfield 7, 3) := by decide +kernel
theorem dX9_whyNot_25 : decode cX9_whyNot 25 = .ok (.iload_n 1, 1) := by decide +kernel
theorem dX9_whyNot_26 : decode cX9_whyNot 26 = .ok (.iaload, 1) := by decide +kernel
theorem dX9_whyNot_27 : decode cX9_whyNot 27 = .ok (.iconst (-1), 1) := by decide +kernel
theorem dX9_whyNot_28 : decode cX9_whyNot 28 = .ok (.if_icmp .ne 6, 3) := by decide +kernel
theorem dX9_whyNot_31 : decode cX9_whyNot 31 = .ok (.bipush (-6), 2) := by decide +kernel
theorem dX9_whyNot_33 : decode cX9_whyNot 33 = .ok (.ireturn, 1) := by decide +kernel
theorem dX9_whyNot_34 : decode cX9_whyNot 34 = .ok (.aload_n 0, 1) := by decide +kernel
theorem dX9_whyNot_35 : decode cX9_whyNot 35 = .ok (.getfield 13, 3) := by decide +kernel
theorem dX9_whyNot_38 : decode cX9_whyNot 38 = .ok (.iload_n 1, 1) := by decide +kernel
theorem dX9_whyNot_39 : decode cX9_whyNot 39 = .ok (.iaload, 1) := by decide +kernel
theorem dX9_whyNot_40 : decode cX9_whyNot 40 = .ok (.iconst 3, 1) := by decide +kernel
theorem dX9_whyNot_41 : decode cX9_whyNot 41 = .ok (.irem, 1) := by decide +kernel
theorem dX9_whyNot_42 : decode cX9_whyNot 42 = .ok (.ifCond .eq 6, 3) := by decide +kernel
theorem dX9_whyNot_45 : decode cX9_whyNot 45 = .ok (.bipush (-2), 2) := by decide +kernel
theorem dX9_whyNot_47 : decode cX9_whyNot 47 = .ok (.ireturn, 1) := by decide +kernel
theorem dX9_whyNot_48 : decode cX9_whyNot 48 = .ok (.iconst 0, 1) := by decide +kernel
theorem dX9_whyNot_49 : decode cX9_whyNot 49 = .ok (.istore_n 3, 1) := by decide +kernel
theorem dX9_whyNot_50 : decode cX9_whyNot 50 = .ok (.iload_n 3, 1) := by decide +kernel
theorem dX9_whyNot_51 : decode cX9_whyNot 51 = .ok (.aload_n 0, 1) := by decide +kernel
theorem dX9_whyNot_52 : decode cX9_whyNot 52 = .ok (.getfield 13, 3) := by decide +kernel
theorem dX9_whyNot_55 : decode cX9_whyNot 55 = .ok (.iload_n 1, 1) := by decide +kernel
theorem dX9_whyNot_56 : decode cX9_whyNot 56 = .ok (.iaload, 1) := by decide +kernel
theorem dX9_whyNot_57 : decode cX9_whyNot 57 = .ok (.if_icmp .ge 69, 3) := by decide +kernel
theorem dX9_whyNot_60 : decode cX9_whyNot 60 = .ok (.bipush 60, 2) := by decide +kernel
theorem dX9_whyNot_62 : decode cX9_whyNot 62 = .ok (.iload_n 1, 1) := by decide +kernel
theorem dX9_whyNot_63 : decode cX9_whyNot 63 = .ok (.imul, 1) := by decide +kernel
theorem dX9_whyNot_64 : decode cX9_whyNot 64 = .ok (.iload_n 3, 1) := by decide +kernel
theorem dX9_whyNot_65 : decode cX9_whyNot 65 = .ok (.iadd, 1) := by decide +kernel
theorem dX9_whyNot_66 : decode cX9_whyNot 66 = .ok (.istore 4, 2) := by decide +kernel
theorem dX9_whyNot_68 : decode cX9_whyNot 68 = .ok (.aload_n 0, 1) := by decide +kernel
theorem dX9_whyNot_69 : decode cX9_whyNot 69 = .ok (.aload_n 0, 1) := by decide +kernel
theorem dX9_whyNot_70 : decode cX9_whyNot 70 = .ok (.getfield 16, 3) := by decide +kernel
theorem dX9_whyNot_73 : decode cX9_whyNot 73 = .ok (.iload 4, 2) := by decide +kernel
theorem dX9_whyNot_75 : decode cX9_whyNot 75 = .ok (.laload, 1) := by decide +kernel
theorem dX9_whyNot_76 : decode cX9_whyNot 76 = .ok (.invokevirtual 254, 3) := by decide +kernel
theorem dX9_whyNot_79 : decode cX9_whyNot 79 = .ok (.ifCond .eq 38, 3) := by decide +kernel
theorem dX9_whyNot_82 : decode cX9_whyNot 82 = .ok (.aload_n 0, 1) := by decide +kernel
theorem dX9_whyNot_83 : decode cX9_whyNot 83 = .ok (.aload_n 0, 1) := by decide +kernel
theorem dX9_whyNot_84 : decode cX9_whyNot 84 = .ok (.getfield 16, 3) := by decide +kernel
theorem dX9_whyNot_87 : decode cX9_whyNot 87 = .ok (.iload 4, 2) := by decide +kernel
theorem dX9_whyNot_89 : decode cX9_whyNot 89 = .ok (.iconst 1, 1) := by decide +kernel
theorem dX9_whyNot_90 : decode cX9_whyNot 90 = .ok (.iadd, 1) := by decide +kernel
theorem dX9_whyNot_91 : decode cX9_whyNot 91 = .ok (.laload, 1) := by decide +kernel
theorem dX9_whyNot_92 : decode cX9_whyNot 92 = .ok (.invokevirtual 257, 3) := by decide +kernel
theorem dX9_whyNot_95 : decode cX9_whyNot 95 = .ok (.ifCond .eq 22, 3) := by decide +kernel
theorem dX9_whyNot_98 : decode cX9_whyNot 98 = .ok (.aload_n 0, 1) := by decide +kernel
theorem dX9_whyNot_99 : decode cX9_whyNot 99 = .ok (.getfield 16, 3) := by decide +kernel
theorem dX9_whyNot_102 : decode cX9_whyNot 102 = .ok (.iload 4, 2) := by decide +kernel
theorem dX9_whyNot_104 : decode cX9_whyNot 104 = .ok (.iconst 2, 1) := by decide +kernel
theorem dX9_whyNot_105 : decode cX9_whyNot 105 = .ok (.iadd, 1) := by decide +kernel
theorem dX9_whyNot_106 : decode cX9_whyNot 106 = .ok (.laload, 1) := by decide +kernel
theorem dX9_whyNot_107 : decode cX9_whyNot 107 = .ok (.lconst 0, 1) := by decide +kernel
theorem dX9_whyNot_108 : decode cX9_whyNot 108 = .ok (.ldc2_w 390, 3) := by decide +kernel
theorem dX9_whyNot_111 : decode cX9_whyNot 111 = .ok (.invokestatic 88, 3) := by decide +kernel
theorem dX9_whyNot_114 : decode cX9_whyNot 114 = .ok (.ifCond .ne 6, 3) := by decide +kernel
theorem dX9_whyNot_117 : decode cX9_whyNot 117 = .ok (.bipush (-2), 2) := by decide +kernel
theorem dX9_whyNot_119 : decode cX9_whyNot 119 = .ok (.ireturn, 1) := by decide +kernel
theorem dX9_whyNot_120 : decode cX9_whyNot 120 = .ok (.iinc 3 3, 3) := by decide +kernel
theorem dX9_whyNot_123 : decode cX9_whyNot 123 = .ok (.goto (-73), 3) := by decide +kernel
theorem dX9_whyNot_126 : decode cX9_whyNot 126 = .ok (.iconst 0, 1) := by decide +kernel
theorem dX9_whyNot_127 : decode cX9_whyNot 127 = .ok (.ireturn, 1) := by decide +kernel

theorem dX9_with_0 : decode cX9_with 0 = .ok (.aload_n 0, 1) := by decide +kernel
theorem dX9_with_1 : decode cX9_with 1 = .ok (.iconst 0, 1) := by decide +kernel
theorem dX9_with_2 : decode cX9_with 2 = .ok (.putfield 83, 3) := by decide +kernel
theorem dX9_with_5 : decode cX9_with 5 = .ok (.aload_n 0, 1) := by decide +kernel
theorem dX9_with_6 : decode cX9_with 6 = .ok (.iload_n 1, 1) := by decide +kernel
theorem dX9_with_7 : decode cX9_with 7 = .ok (.i2l, 1) := by decide +kernel
theorem dX9_with_8 : decode cX9_with 8 = .ok (.invokevirtual 254, 3) := by decide +kernel
theorem dX9_with_11 : decode cX9_with 11 = .ok (.ifCond .ne 6, 3) := by decide +kernel
theorem dX9_with_14 : decode cX9_with 14 = .ok (.bipush (-2), 2) := by decide +kernel
theorem dX9_with_16 : decode cX9_with 16 = .ok (.ireturn, 1) := by decide +kernel
theorem dX9_with_17 : decode cX9_with 17 = .ok (.aload_n 0, 1) := by decide +kernel
theorem dX9_with_18 : decode cX9_with 18 = .ok (.invokevirtual 330, 3) := by decide +kernel
theorem dX9_with_21 : decode cX9_with 21 = .ok (.iconst 0, 1) := by decide +kernel
theorem dX9_with_22 : decode cX9_with 22 = .ok (.istore_n 2, 1) := by decide +kernel
theorem dX9_with_23 : decode cX9_with 23 = .ok (.iconst 0, 1) := by decide +kernel
theorem dX9_with_24 : decode cX9_with 24 = .ok (.istore_n 3, 1) := by decide +kernel
theorem dX9_with_25 : decode cX9_with 25 = .ok (.iload_n 3, 1) := by decide +kernel
theorem dX9_with_26 : decode cX9_with 26 = .ok (.aload_n 0, 1) := by decide +kernel
theorem dX9_with_27 : decode cX9_with 27 = .ok (.invokevirtual 245, 3) := by decide +kernel
theorem dX9_with_30 : decode cX9_with 30 = .ok (.if_icmp .ge 54, 3) := by decide +kernel
theorem dX9_with_33 : decode cX9_with 33 = .ok (.iload_n 2, 1) := by decide +kernel
theorem dX9_with_34 : decode cX9_with 34 = .ok (.aload_n 0, 1) := by decide +kernel
theorem dX9_with_35 : decode cX9_with 35 = .ok (.getfield 65, 3) := by decide +kernel
theorem dX9_with_38 : decode cX9_with 38 = .ok (.iload_n 1, 1) := by decide +kernel
theorem dX9_with_39 : decode cX9_with 39 = .ok (.iaload, 1) := by decide +kernel
theorem dX9_with_40 : decode cX9_with 40 = .ok (.iconst (-1), 1) := by decide +kernel
theorem dX9_with_41 : decode cX9_with 41 = .ok (.if_icmp .eq 34, 3) := by decide +kernel
theorem dX9_with_44 : decode cX9_with 44 = .ok (.aload_n 0, 1) := by decide +kernel
theorem dX9_with_45 : decode cX9_with 45 = .ok (.getfield 65, 3) := by decide +kernel
theorem dX9_with_48 : decode cX9_with 48 = .ok (.iload_n 3, 1) := by decide +kernel
theorem dX9_with_49 : decode cX9_with 49 = .ok (.iaload, 1) := by decide +kernel
theorem dX9_with_50 : decode cX9_with 50 = .ok (.aload_n 0, 1) := by decide +kernel
theorem dX9_with_51 : decode cX9_with 51 = .ok (.getfield 65, 3) := by decide +kernel
theorem dX9_with_54 : decode cX9_with 54 = .ok (.iload_n 1, 1) := by decide +kernel
theorem dX9_with_55 : decode cX9_with 55 = .ok (.iaload, 1) := by decide +kernel
theorem dX9_with_56 : decode cX9_with 56 = .ok (.if_icmp .ne 19, 3) := by decide +kernel
theorem dX9_with_59 : decode cX9_with 59 = .ok (.aload_n 0, 1) := by decide +kernel
theorem dX9_with_60 : decode cX9_with 60 = .ok (.getfield 68, 3) := by decide +kernel
theorem dX9_with_63 : decode cX9_with 63 = .ok (.iload_n 3, 1) := by decide +kernel
theorem dX9_with_64 : decode cX9_with 64 = .ok (.iaload, 1) := by decide +kernel
theorem dX9_with_65 : decode cX9_with 65 = .ok (.iconst 2, 1) := by decide +kernel
theorem dX9_with_66 : decode cX9_with 66 = .ok (.if_icmp .ne 9, 3) := by decide +kernel
theorem dX9_with_69 : decode cX9_with 69 = .ok (.iconst 1, 1) := by decide +kernel
theorem dX9_with_70 : decode cX9_with 70 = .ok (.iload_n 3, 1) := by decide +kernel
theorem dX9_with_71 : decode cX9_with 71 = .ok (.ishl, 1) := by decide +kernel
theorem dX9_with_72 : decode cX9_with 72 = .ok (.goto 4, 3) := by decide +kernel
theorem dX9_with_75 : decode cX9_with 75 = .ok (.iconst 0, 1) := by decide +kernel
theorem dX9_with_76 : decode cX9_with 76 = .ok (.ior, 1) := by decide +kernel
theorem dX9_with_77 : decode cX9_with 77 = .ok (.istore_n 2, 1) := by decide +kernel
theorem dX9_with_78 : decode cX9_with 78 = .ok (.iinc 3 1, 3) := by decide +kernel
theorem dX9_with_81 : decode cX9_with 81 = .ok (.goto (-56), 3) := by decide +kernel
theorem dX9_with_84 : decode cX9_with 84 = .ok (.iload_n 2, 1) := by decide +kernel
theorem dX9_with_85 : decode cX9_with 85 = .ok (.ireturn, 1) := by decide +kernel

theorem dX9_worth_0 : decode cX9_worth 0 = .ok (.aload_n 0, 1) := by decide +kernel
theorem dX9_worth_1 : decode cX9_worth 1 = .ok (.iconst 0, 1) := by decide +kernel
theorem dX9_worth_2 : decode cX9_worth 2 = .ok (.putfield 83, 3) := by decide +kernel
theorem dX9_worth_5 : decode cX9_worth 5 = .ok (.aload_n 0, 1) := by decide +kernel
theorem dX9_worth_6 : decode cX9_worth 6 = .ok (.invokevirtual 248, 3) := by decide +kernel
theorem dX9_worth_9 : decode cX9_worth 9 = .ok (.ifCond .eq 25, 3) := by decide +kernel
theorem dX9_worth_12 : decode cX9_worth 12 = .ok (.iload_n 1, 1) := by decide +kernel
theorem dX9_worth_13 : decode cX9_worth 13 = .ok (.i2l, 1) := by decide +kernel
theorem dX9_worth_14 : decode cX9_worth 14 = .ok (.lconst 0, 1) := by decide +kernel
theorem dX9_worth_15 : decode cX9_worth 15 = .ok (.aload_n 0, 1) := by decide +kernel
theorem dX9_worth_16 : decode cX9_worth 16 = .ok (.invokevirtual 345, 3) := by decide +kernel
theorem dX9_worth_19 : decode cX9_worth 19 = .ok (.i2l, 1) := by decide +kernel
theorem dX9_worth_20 : decode cX9_worth 20 = .ok (.invokestatic 88, 3) := by decide +kernel
theorem dX9_worth_23 : decode cX9_worth 23 = .ok (.ifCond .eq 11, 3) := by decide +kernel
theorem dX9_worth_26 : decode cX9_worth 26 = .ok (.aload_n 0, 1) := by decide +kernel
theorem dX9_worth_27 : decode cX9_worth 27 = .ok (.iload_n 1, 1) := by decide +kernel
theorem dX9_worth_28 : decode cX9_worth 28 = .ok (.invokevirtual 351, 3) := by decide +kernel
theorem dX9_worth_31 : decode cX9_worth 31 = .ok (.goto 5, 3) := by decide +kernel
theorem dX9_worth_34 : decode cX9_worth 34 = .ok (.bipush (-2), 2) := by decide +kernel
theorem dX9_worth_36 : decode cX9_worth 36 = .ok (.ireturn, 1) := by decide +kernel

theorem dX9_write_0 : decode cX9_write 0 = .ok (.aload_n 0, 1) := by decide +kernel
theorem dX9_write_1 : decode cX9_write 1 = .ok (.iconst 0, 1) := by decide +kernel
theorem dX9_write_2 : decode cX9_write 2 = .ok (.putfield 83, 3) := by decide +kernel
theorem dX9_write_5 : decode cX9_write 5 = .ok (.iload_n 1, 1) := by decide +kernel
theorem dX9_write_6 : decode cX9_write 6 = .ok (.invokestatic 92, 3) := by decide +kernel
theorem dX9_write_9 : decode cX9_write 9 = .ok (.ifCond .ne 6, 3) := by decide +kernel
theorem dX9_write_12 : decode cX9_write 12 = .ok (.bipush (-2), 2) := by decide +kernel
theorem dX9_write_14 : decode cX9_write 14 = .ok (.ireturn, 1) := by decide +kernel
theorem dX9_write_15 : decode cX9_write 15 = .ok (.aload_n 0, 1) := by decide +kernel
theorem dX9_write_16 : decode cX9_write 16 = .ok (.getfield 7, 3) := by decide +kernel
theorem dX9_write_19 : decode cX9_write 19 = .ok (.iload_n 1, 1) := by decide +kernel
theorem dX9_write_20 : decode cX9_write 20 = .ok (.iaload, 1) := by decide +kernel
theorem dX9_write_21 : decode cX9_write 21 = .ok (.iconst (-1), 1) := by decide +kernel
theorem dX9_write_22 : decode cX9_write 22 = .ok (.if_icmp .ne 6, 3) := by decide +kernel
theorem dX9_write_25 : decode cX9_write 25 = .ok (.bipush (-6), 2) := by decide +kernel
theorem dX9_write_27 : decode cX9_write 27 = .ok (.ireturn, 1) := by decide +kernel
theorem dX9_write_28 : decode cX9_write 28 = .ok (.iload_n 2, 1) := by decide +kernel
theorem dX9_write_29 : decode cX9_write 29 = .ok (.i2l, 1) := by decide +kernel
theorem dX9_write_30 : decode cX9_write 30 = .ok (.lconst 0, 1) := by decide +kernel
theorem dX9_write_31 : decode cX9_write 31 = .ok (.aload_n 0, 1) := by decide +kernel
theorem dX9_write_32 : decode cX9_write 32 = .ok (.getfield 13, 3) := by decide +kernel
theorem dX9_write_35 : decode cX9_write 35 = .ok (.iload_n 1, 1) := by decide +kernel
theorem dX9_write_36 : decode cX9_write 36 = .ok (.iaload, 1) := by decide +kernel
theorem dX9_write_37 : decode cX9_write 37 = .ok (.iconst 1, 1) := by decide +kernel
theorem dX9_write_38 : decode cX9_write 38 = .ok (.isub, 1) := by decide +kernel
theorem dX9_write_39 : decode cX9_write 39 = .ok (.i2l, 1) := by decide +kernel
theorem dX9_write_40 : decode cX9_write 40 = .ok (.invokestatic 88, 3) := by decide +kernel
theorem dX9_write_43 : decode cX9_write 43 = .ok (.ifCond .ne 6, 3) := by decide +kernel
theorem dX9_write_46 : decode cX9_write 46 = .ok (.bipush (-7), 2) := by decide +kernel
theorem dX9_write_48 : decode cX9_write 48 = .ok (.ireturn, 1) := by decide +kernel
theorem dX9_write_49 : decode cX9_write 49 = .ok (.aload_n 0, 1) := by decide +kernel
theorem dX9_write_50 : decode cX9_write 50 = .ok (.getfield 16, 3) := by decide +kernel
theorem dX9_write_53 : decode cX9_write 53 = .ok (.bipush 60, 2) := by decide +kernel
theorem dX9_write_55 : decode cX9_write 55 = .ok (.iload_n 1, 1) := by decide +kernel
theorem dX9_write_56 : decode cX9_write 56 = .ok (.imul, 1) := by decide +kernel
theorem dX9_write_57 : decode cX9_write 57 = .ok (.iload_n 2, 1) := by decide +kernel
theorem dX9_write_58 : decode cX9_write 58 = .ok (.iadd, 1) := by decide +kernel
theorem dX9_write_59 : decode cX9_write 59 = .ok (.lload_n 3, 1) := by decide +kernel
theorem dX9_write_60 : decode cX9_write 60 = .ok (.aload_n 0, 1) := by decide +kernel
theorem dX9_write_61 : decode cX9_write 61 = .ok (.getfield 7, 3) := by decide +kernel
theorem dX9_write_64 : decode cX9_write 64 = .ok (.iload_n 1, 1) := by decide +kernel
theorem dX9_write_65 : decode cX9_write 65 = .ok (.iaload, 1) := by decide +kernel
theorem dX9_write_66 : decode cX9_write 66 = .ok (.invokestatic 96, 3) := by decide +kernel
theorem dX9_write_69 : decode cX9_write 69 = .ok (.lastore, 1) := by decide +kernel
theorem dX9_write_70 : decode cX9_write 70 = .ok (.iconst 0, 1) := by decide +kernel
theorem dX9_write_71 : decode cX9_write 71 = .ok (.ireturn, 1) := by decide +kernel

theorem dX9_years_0 : decode cX9_years 0 = .ok (.aload_n 0, 1) := by decide +kernel
theorem dX9_years_1 : decode cX9_years 1 = .ok (.getfield 34, 3) := by decide +kernel
theorem dX9_years_4 : decode cX9_years 4 = .ok (.iconst 0, 1) := by decide +kernel
theorem dX9_years_5 : decode cX9_years 5 = .ok (.iaload, 1) := by decide +kernel
theorem dX9_years_6 : decode cX9_years 6 = .ok (.ireturn, 1) := by decide +kernel
